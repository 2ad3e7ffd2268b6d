/-! the law -/
theorem cl_v {x : Int32} (h : ¬ (x < -1 ∨ ¬ x ≤ nI 4)) : ∃ v, (v = 99 ∨ v ≤ 4) ∧ x = eI v := by
  have h1 : ¬ x < -1 := fun z => h (Or.inl z)
  have h2 : x ≤ nI 4 := Classical.byContradiction fun z => h (Or.inr z)
  rcases pk_ix x (n := 5) (by decide) with q | q | ⟨j, hj, rfl⟩
  · refine ⟨99, Or.inl rfl, ?_⟩
    rw [eI_99]
    apply Int32.toInt_inj.mp
    rw [Int32.lt_iff_toInt_lt] at h1 q
    have e1 : (-1 : Int32).toInt = -1 := by decide
    have e2 : (0 : Int32).toInt = 0 := by decide
    omega
  · exfalso
    rw [Int32.le_iff_toInt_le] at h2 q
    have e1 : (nI 4).toInt = 4 := by decide
    have e2 : (nI 5).toInt = 5 := by decide
    omega
  · exact ⟨j, Or.inr (by omega), (eI_ne (by omega)).symm⟩
theorem len_ok {L a : Nat} (hL : L ≤ 258) (ha : a ≤ 1000) (h : ¬ nI L - nI 4 < nI a) : a + 4 ≤ L := by
  rw [Int32.lt_iff_toInt_lt, pk_sub_toInt (by omega) (by omega), nI_toInt (by omega)] at h
  omega
set_option maxHeartbeats 8000000 in
set_option maxRecDepth 100000 in
theorem l_loop {k : VK} (l : Launch) (hfl : l.flags = flags0) (D : va_G) (cI cJ cZ : ClassId) (qo : Nat) (qx qm : Nat → Nat) (R C : Nat) (hG : GS R C) (LL : List Nat) (hMt : Mth R C LL) (b L : Nat) (xs : Nat → Int32) (hL : L ≤ 258) (hX : SX k b L xs) (hZ : ZX k.2.2.1.1 k.1.2.2.1 k.2.2.1.2) (hV : VLaw k b) :
    ∀ (n t : Nat) (ov : Nat → Int64) (th d : Nat) (cu : Nat → Nat) (u1 u2 : va_W), 65 < t + n → t ≤ 65 → d < 2 ^ nE R C → CU R C cu → OW cI cJ cZ qo qx R C ov d cu u1 → MW cI cJ cZ qm R C LL th (rv d) cu u2 → V k l D (tys3 cI cJ cZ) room_1 cL_law 7 RL (u1 ++ u2) (35 + t) (19847 + 6 * t) 43 [(0, .ref b), (1, .ref (qx 0)), (2, .ref (qm 0)), (3, .ref qo), (4, .int (nI (2 + 4 * t)))] [] := by
  intro n
  induction n with
  | zero => intro t ov th d cu u1 u2 h1 h2; omega
  | succ n ih =>
    intro t ov th d cu u1 u2 hn ht hd hcu hO hM
    have hE := hG.E
    have hR4 := hG.2.1
    have hC3 := hG.2.2.2
    refine j_iload dL_law_43 4 rfl ?_
    refine j_aload_n dL_law_45 rfl 0 rfl ?_
    refine j_slen hX dL_law_46 ?_
    refine j_iconst (v := nI 4) dL_law_47 (by decide) ?_
    refine j_isub dL_law_48 rfl ?_
    refine j_icmp_gt (tgt := 911) dL_law_49 (by decide) (fun c49 => ?_) (fun c49 => ?_)
    · refine j_iconst (v := nI 1) dL_law_911 (by decide) ?_
      exact j_lawret hV dL_law_912 (by omega) (by omega)
    have hi4 := len_ok hL (by omega) c49
    have hk : ∀ (ov2 : Nat → Int64) (th2 d2 : Nat) (cu2 : Nat → Nat) (u1 u2 : va_W), d2 < 2 ^ nE R C → CU R C cu2 → OW cI cJ cZ qo qx R C ov2 d2 cu2 u1 → MW cI cJ cZ qm R C LL th2 (rv d2) cu2 u2 → V k l D (tys3 cI cJ cZ) room_1 cL_law 7 RL (u1 ++ u2) (35 + t + 1) (19847 + 6 * t + 6) 905 [(0, .ref b), (1, .ref (qx 0)), (2, .ref (qm 0)), (3, .ref qo), (4, .int (nI (2 + 4 * t)))] [] := by
      intro ov2 th2 d2 cu2 v1 v2 hd2 hcu2 hO2 hM2
      refine j_iinc (n0 := 4) (v := nI (2 + 4 * t + 4)) [(4, .int (nI (2 + 4 * t + 4))), (0, .ref b), (1, .ref (qx 0)), (2, .ref (qm 0)), (3, .ref qo)] dL_law_905 rfl (by exact nI_add (2 + 4 * t) 4) (by decide) rfl ?_
      refine j_goto (tgt := 43) dL_law_908 (by decide) ?_
      refine j_sub [1, 2, 3, 4, 0] [(0, .ref b), (1, .ref (qx 0)), (2, .ref (qm 0)), (3, .ref qo), (4, .int (nI (2 + 4 * t + 4)))] rfl ?_
      have h9 := ih (t + 1) ov2 th2 d2 cu2 v1 v2 (by omega) (by omega) hd2 hcu2 hO2 hM2
      rw [show 35 + (t + 1) = 35 + t + 1 by omega, show 19847 + 6 * (t + 1) = 19847 + 6 * t + 6 by omega, show 2 + 4 * (t + 1) = 2 + 4 * t + 4 by omega] at h9
      exact h9
    refine j_aload_n dL_law_52 rfl 0 rfl ?_
    refine j_iload dL_law_53 4 rfl ?_
    refine j_sld hX (by omega) (by omega) dL_law_55 ?_
    refine j_bipush (v := nI 31) dL_law_56 (by decide) ?_
    refine j_iand dL_law_58 rfl ?_
    obtain ⟨j, hj, ej⟩ := pk_andE (xs (2 + 4 * t)) (m := nI 31) 5 (by decide)
    refine j_topi ej ?_
    obtain ⟨sz, sa, fi, st, lo, hi_, wa, sw, hIx, rfl⟩ := hO
    obtain ⟨kn, me, ns, he, nx, nl, lp, so, wi, us, ho, nh, ke, ta, de, se, hIm, rfl⟩ := hM
    by_cases hj18 : 18 ≤ j
    · refine j_tabOut (tgt := 905) (by omega) dL_law_59 (Or.inr (by omega)) (by decide) ?_
      refine j_widen (k2 := 35 + t + 1) (n2 := 19847 + 6 * t + 6) (by omega) (by omega) ?_
      exact hk ov th d cu _ _ hd hcu ⟨sz, sa, fi, st, lo, hi_, wa, sw, hIx, rfl⟩ (MW_of hIm)
    have hjj : j = 0 ∨ j = 1 ∨ j = 2 ∨ j = 3 ∨ j = 4 ∨ j = 5 ∨ j = 6 ∨ j = 7 ∨ j = 8 ∨ j = 9 ∨ j = 10 ∨ j = 11 ∨ j = 12 ∨ j = 13 ∨ j = 14 ∨ j = 15 ∨ j = 16 ∨ j = 17 := by omega
    rcases hjj with rfl | rfl | rfl | rfl | rfl | rfl | rfl | rfl | rfl | rfl | rfl | rfl | rfl | rfl | rfl | rfl | rfl | rfl
    · refine j_tabIn (j := 0) (off := 85) (tgt := 144) (by decide) dL_law_59 (by decide) (by decide) (by decide) (by decide) ?_
      exact l_edges l hfl D cI cJ cZ qo qx qm R C hG LL hMt b L xs hL hX hZ (2 + 4 * t) (35 + t) (19847 + 6 * t) hi4 (by omega) (by omega) ov d sz sa cu fi st lo hi_ wa sw th kn me ns he nx nl lp so wi us ho nh ke ta de se hd hcu hIx hIm  hk
    · refine j_tabIn (j := 1) (off := 98) (tgt := 157) (by decide) dL_law_59 (by decide) (by decide) (by decide) (by decide) ?_
      by_cases hb2 : (xs (2 + 4 * t + 2)) = 0
      · cases hin : inB (nE R C) (xs (2 + 4 * t + 1)) with
        | false => exact l_pointX_false l hfl D cI cJ cZ qo qx qm R C hG LL hMt b L xs hL hX hZ (2 + 4 * t) (35 + t) (19847 + 6 * t) hi4 (by omega) (by omega) ov d sz sa cu fi st lo hi_ wa sw th kn me ns he nx nl lp so wi us ho nh ke ta de se hd hcu hIx hIm hb2 hin hk
        | true =>
          obtain ⟨e, hee, hxe⟩ := inB_e (by omega) hin
          exact l_point_false l hfl D cI cJ cZ qo qx qm R C hG LL hMt b L xs hL hX hZ (2 + 4 * t) (35 + t) (19847 + 6 * t) hi4 (by omega) (by omega) ov d sz sa cu fi st lo hi_ wa sw th kn me ns he nx nl lp so wi us ho nh ke ta de se hd hcu hIx hIm hb2 e hee hxe hk
      · cases hin : inB (nE R C) (xs (2 + 4 * t + 1)) with
        | false => exact l_pointX_true l hfl D cI cJ cZ qo qx qm R C hG LL hMt b L xs hL hX hZ (2 + 4 * t) (35 + t) (19847 + 6 * t) hi4 (by omega) (by omega) ov d sz sa cu fi st lo hi_ wa sw th kn me ns he nx nl lp so wi us ho nh ke ta de se hd hcu hIx hIm hb2 hin hk
        | true =>
          obtain ⟨e, hee, hxe⟩ := inB_e (by omega) hin
          exact l_point_true l hfl D cI cJ cZ qo qx qm R C hG LL hMt b L xs hL hX hZ (2 + 4 * t) (35 + t) (19847 + 6 * t) hi4 (by omega) (by omega) ov d sz sa cu fi st lo hi_ wa sw th kn me ns he nx nl lp so wi us ho nh ke ta de se hd hcu hIx hIm hb2 e hee hxe hk
    · refine j_tabIn (j := 2) (off := 182) (tgt := 241) (by decide) dL_law_59 (by decide) (by decide) (by decide) (by decide) ?_
      cases hin : (inB R (xs (2 + 4 * t + 1)) && inB C (xs (2 + 4 * t + 2))) with
      | false => exact l_clueX l hfl D cI cJ cZ qo qx qm R C hG LL hMt b L xs hL hX hZ (2 + 4 * t) (35 + t) (19847 + 6 * t) hi4 (by omega) (by omega) ov d sz sa cu fi st lo hi_ wa sw th kn me ns he nx nl lp so wi us ho nh ke ta de se hd hcu hIx hIm hin hk
      | true =>
        rw [Bool.and_eq_true] at hin
        obtain ⟨yr, hr, hx1⟩ := inB_e (by omega) hin.1
        obtain ⟨xc, hc, hx2⟩ := inB_e (by omega) hin.2
        by_cases hv3 : (xs (2 + 4 * t + 3)) < -1 ∨ ¬ (xs (2 + 4 * t + 3)) ≤ nI 4
        · exact l_clueV l hfl D cI cJ cZ qo qx qm R C hG LL hMt b L xs hL hX hZ (2 + 4 * t) (35 + t) (19847 + 6 * t) hi4 (by omega) (by omega) ov d sz sa cu fi st lo hi_ wa sw th kn me ns he nx nl lp so wi us ho nh ke ta de se hd hcu hIx hIm yr xc hr hc hx1 hx2 hv3 hk
        · obtain ⟨v, hv, hxv⟩ := cl_v hv3
          exact l_clue l hfl D cI cJ cZ qo qx qm R C hG LL hMt b L xs hL hX hZ (2 + 4 * t) (35 + t) (19847 + 6 * t) hi4 (by omega) (by omega) ov d sz sa cu fi st lo hi_ wa sw th kn me ns he nx nl lp so wi us ho nh ke ta de se hd hcu hIx hIm yr xc hr hc hx1 hx2 v hv hxv hk
    · refine j_tabIn (j := 3) (off := 242) (tgt := 301) (by decide) dL_law_59 (by decide) (by decide) (by decide) (by decide) ?_
      exact l_count l hfl D cI cJ cZ qo qx qm R C hG LL hMt b L xs hL hX hZ (2 + 4 * t) (35 + t) (19847 + 6 * t) hi4 (by omega) (by omega) ov d sz sa cu fi st lo hi_ wa sw th kn me ns he nx nl lp so wi us ho nh ke ta de se hd hcu hIx hIm  hk
    · refine j_tabIn (j := 4) (off := 255) (tgt := 314) (by decide) dL_law_59 (by decide) (by decide) (by decide) (by decide) ?_
      by_cases hb2 : (xs (2 + 4 * t + 2)) = 0
      · cases hin : inB (nE R C + 1) (xs (2 + 4 * t + 1)) with
        | false => exact l_widthX_false l hfl D cI cJ cZ qo qx qm R C hG LL hMt b L xs hL hX hZ (2 + 4 * t) (35 + t) (19847 + 6 * t) hi4 (by omega) (by omega) ov d sz sa cu fi st lo hi_ wa sw th kn me ns he nx nl lp so wi us ho nh ke ta de se hd hcu hIx hIm hb2 hin hk
        | true =>
          obtain ⟨e, hee, hxe⟩ := inB_e (by omega) hin
          exact l_width_false l hfl D cI cJ cZ qo qx qm R C hG LL hMt b L xs hL hX hZ (2 + 4 * t) (35 + t) (19847 + 6 * t) hi4 (by omega) (by omega) ov d sz sa cu fi st lo hi_ wa sw th kn me ns he nx nl lp so wi us ho nh ke ta de se hd hcu hIx hIm hb2 e (by omega) hxe hk
      · cases hin : inB (nE R C + 1) (xs (2 + 4 * t + 1)) with
        | false => exact l_widthX_true l hfl D cI cJ cZ qo qx qm R C hG LL hMt b L xs hL hX hZ (2 + 4 * t) (35 + t) (19847 + 6 * t) hi4 (by omega) (by omega) ov d sz sa cu fi st lo hi_ wa sw th kn me ns he nx nl lp so wi us ho nh ke ta de se hd hcu hIx hIm hb2 hin hk
        | true =>
          obtain ⟨e, hee, hxe⟩ := inB_e (by omega) hin
          exact l_width_true l hfl D cI cJ cZ qo qx qm R C hG LL hMt b L xs hL hX hZ (2 + 4 * t) (35 + t) (19847 + 6 * t) hi4 (by omega) (by omega) ov d sz sa cu fi st lo hi_ wa sw th kn me ns he nx nl lp so wi us ho nh ke ta de se hd hcu hIx hIm hb2 e (by omega) hxe hk
    · refine j_tabIn (j := 5) (off := 339) (tgt := 398) (by decide) dL_law_59 (by decide) (by decide) (by decide) (by decide) ?_
      exact l_nodes l hfl D cI cJ cZ qo qx qm R C hG LL hMt b L xs hL hX hZ (2 + 4 * t) (35 + t) (19847 + 6 * t) hi4 (by omega) (by omega) ov d sz sa cu fi st lo hi_ wa sw th kn me ns he nx nl lp so wi us ho nh ke ta de se hd hcu hIx hIm  hk
    · refine j_tabIn (j := 6) (off := 352) (tgt := 411) (by decide) dL_law_59 (by decide) (by decide) (by decide) (by decide) ?_
      cases hin : inB (sol R C cu LL).length (xs (2 + 4 * t + 1)) with
      | false => exact l_hasX l hfl D cI cJ cZ qo qx qm R C hG LL hMt b L xs hL hX hZ (2 + 4 * t) (35 + t) (19847 + 6 * t) hi4 (by omega) (by omega) ov d sz sa cu fi st lo hi_ wa sw th kn me ns he nx nl lp so wi us ho nh ke ta de se hd hcu hIx hIm hin hk
      | true =>
        obtain ⟨j, hj, hxj⟩ := inB_e (by have := sol_len (R := R) (C := C) (cu := cu) (L := LL); have := hMt.1.2.1; omega) hin
        have hy : (sol R C cu LL)[j]? = some (sol R C cu LL)[j] := List.getElem?_eq_getElem hj
        cases hin2 : inB (nE R C) (xs (2 + 4 * t + 2)) with
        | false => exact l_hasE l hfl D cI cJ cZ qo qx qm R C hG LL hMt b L xs hL hX hZ (2 + 4 * t) (35 + t) (19847 + 6 * t) hi4 (by omega) (by omega) ov d sz sa cu fi st lo hi_ wa sw th kn me ns he nx nl lp so wi us ho nh ke ta de se hd hcu hIx hIm j _ hy hxj hin2 hk
        | true =>
          obtain ⟨e, hee, hxe⟩ := inB_e (by omega) hin2
          exact l_has l hfl D cI cJ cZ qo qx qm R C hG LL hMt b L xs hL hX hZ (2 + 4 * t) (35 + t) (19847 + 6 * t) hi4 (by omega) (by omega) ov d sz sa cu fi st lo hi_ wa sw th kn me ns he nx nl lp so wi us ho nh ke ta de se hd hcu hIx hIm j _ hy hxj e hee hxe hk
    · refine j_tabIn (j := 7) (off := 427) (tgt := 486) (by decide) dL_law_59 (by decide) (by decide) (by decide) (by decide) ?_
      cases hin : inB (sol R C cu LL).length (xs (2 + 4 * t + 1)) with
      | false => exact l_lengthX l hfl D cI cJ cZ qo qx qm R C hG LL hMt b L xs hL hX hZ (2 + 4 * t) (35 + t) (19847 + 6 * t) hi4 (by omega) (by omega) ov d sz sa cu fi st lo hi_ wa sw th kn me ns he nx nl lp so wi us ho nh ke ta de se hd hcu hIx hIm hin hk
      | true =>
        obtain ⟨j, hj, hxj⟩ := inB_e (by have := sol_len (R := R) (C := C) (cu := cu) (L := LL); have := hMt.1.2.1; omega) hin
        have hy : (sol R C cu LL)[j]? = some (sol R C cu LL)[j] := List.getElem?_eq_getElem hj
        exact l_length l hfl D cI cJ cZ qo qx qm R C hG LL hMt b L xs hL hX hZ (2 + 4 * t) (35 + t) (19847 + 6 * t) hi4 (by omega) (by omega) ov d sz sa cu fi st lo hi_ wa sw th kn me ns he nx nl lp so wi us ho nh ke ta de se hd hcu hIx hIm j _ hy hxj hk
    · refine j_tabIn (j := 8) (off := 483) (tgt := 542) (by decide) dL_law_59 (by decide) (by decide) (by decide) (by decide) ?_
      cases hin : inB (nE R C) (xs (2 + 4 * t + 1)) with
      | false => exact l_oftenX l hfl D cI cJ cZ qo qx qm R C hG LL hMt b L xs hL hX hZ (2 + 4 * t) (35 + t) (19847 + 6 * t) hi4 (by omega) (by omega) ov d sz sa cu fi st lo hi_ wa sw th kn me ns he nx nl lp so wi us ho nh ke ta de se hd hcu hIx hIm hin hk
      | true =>
        obtain ⟨e, hee, hxe⟩ := inB_e (by omega) hin
        exact l_often l hfl D cI cJ cZ qo qx qm R C hG LL hMt b L xs hL hX hZ (2 + 4 * t) (35 + t) (19847 + 6 * t) hi4 (by omega) (by omega) ov d sz sa cu fi st lo hi_ wa sw th kn me ns he nx nl lp so wi us ho nh ke ta de se hd hcu hIx hIm e hee hxe hk
    · refine j_tabIn (j := 9) (off := 539) (tgt := 598) (by decide) dL_law_59 (by decide) (by decide) (by decide) (by decide) ?_
      cases hin : inB (nE R C) (xs (2 + 4 * t + 1)) with
      | false => exact l_drawX l hfl D cI cJ cZ qo qx qm R C hG LL hMt b L xs hL hX hZ (2 + 4 * t) (35 + t) (19847 + 6 * t) hi4 (by omega) (by omega) ov d sz sa cu fi st lo hi_ wa sw th kn me ns he nx nl lp so wi us ho nh ke ta de se hd hcu hIx hIm hin hk
      | true =>
        obtain ⟨e, hee, hxe⟩ := inB_e (by omega) hin
        exact l_draw l hfl D cI cJ cZ qo qx qm R C hG LL hMt b L xs hL hX hZ (2 + 4 * t) (35 + t) (19847 + 6 * t) hi4 (by omega) (by omega) ov d sz sa cu fi st lo hi_ wa sw th kn me ns he nx nl lp so wi us ho nh ke ta de se hd hcu hIx hIm e hee hxe hk
    · refine j_tabIn (j := 10) (off := 602) (tgt := 661) (by decide) dL_law_59 (by decide) (by decide) (by decide) (by decide) ?_
      cases hin : inB (sol R C cu LL).length (xs (2 + 4 * t + 1)) with
      | false => exact l_copyX l hfl D cI cJ cZ qo qx qm R C hG LL hMt b L xs hL hX hZ (2 + 4 * t) (35 + t) (19847 + 6 * t) hi4 (by omega) (by omega) ov d sz sa cu fi st lo hi_ wa sw th kn me ns he nx nl lp so wi us ho nh ke ta de se hd hcu hIx hIm hin hk
      | true =>
        obtain ⟨j, hj, hxj⟩ := inB_e (by have := sol_len (R := R) (C := C) (cu := cu) (L := LL); have := hMt.1.2.1; omega) hin
        have hy : (sol R C cu LL)[j]? = some (sol R C cu LL)[j] := List.getElem?_eq_getElem hj
        exact l_copy l hfl D cI cJ cZ qo qx qm R C hG LL hMt b L xs hL hX hZ (2 + 4 * t) (35 + t) (19847 + 6 * t) hi4 (by omega) (by omega) ov d sz sa cu fi st lo hi_ wa sw th kn me ns he nx nl lp so wi us ho nh ke ta de se hd hcu hIx hIm j _ hy hxj hk
    · refine j_tabIn (j := 11) (off := 638) (tgt := 697) (by decide) dL_law_59 (by decide) (by decide) (by decide) (by decide) ?_
      exact l_drawn l hfl D cI cJ cZ qo qx qm R C hG LL hMt b L xs hL hX hZ (2 + 4 * t) (35 + t) (19847 + 6 * t) hi4 (by omega) (by omega) ov d sz sa cu fi st lo hi_ wa sw th kn me ns he nx nl lp so wi us ho nh ke ta de se hd hcu hIx hIm  hk
    · refine j_tabIn (j := 12) (off := 651) (tgt := 710) (by decide) dL_law_59 (by decide) (by decide) (by decide) (by decide) ?_
      exact l_isLoop l hfl D cI cJ cZ qo qx qm R C hG LL hMt b L xs hL hX hZ (2 + 4 * t) (35 + t) (19847 + 6 * t) hi4 (by omega) (by omega) ov d sz sa cu fi st lo hi_ wa sw th kn me ns he nx nl lp so wi us ho nh ke ta de se hd hcu hIx hIm  hk
    · refine j_tabIn (j := 13) (off := 664) (tgt := 723) (by decide) dL_law_59 (by decide) (by decide) (by decide) (by decide) ?_
      cases hk0 : rkA R C cu d (nE R C) 0 1672 0 with
      | none => exact l_rankX l hfl D cI cJ cZ qo qx qm R C hG LL hMt b L xs hL hX hZ (2 + 4 * t) (35 + t) (19847 + 6 * t) hi4 (by omega) (by omega) ov d sz sa cu fi st lo hi_ wa sw th kn me ns he nx nl lp so wi us ho nh ke ta de se hd hcu hIx hIm hk0 hk
      | some kq => exact l_rank l hfl D cI cJ cZ qo qx qm R C hG LL hMt b L xs hL hX hZ (2 + 4 * t) (35 + t) (19847 + 6 * t) hi4 (by omega) (by omega) ov d sz sa cu fi st lo hi_ wa sw th kn me ns he nx nl lp so wi us ho nh ke ta de se hd hcu hIx hIm kq hk0 hk
    · refine j_tabIn (j := 14) (off := 708) (tgt := 767) (by decide) dL_law_59 (by decide) (by decide) (by decide) (by decide) ?_
      exact l_above l hfl D cI cJ cZ qo qx qm R C hG LL hMt b L xs hL hX hZ (2 + 4 * t) (35 + t) (19847 + 6 * t) hi4 (by omega) (by omega) ov d sz sa cu fi st lo hi_ wa sw th kn me ns he nx nl lp so wi us ho nh ke ta de se hd hcu hIx hIm  hk
    · refine j_tabIn (j := 15) (off := 721) (tgt := 780) (by decide) dL_law_59 (by decide) (by decide) (by decide) (by decide) ?_
      exact l_alive l hfl D cI cJ cZ qo qx qm R C hG LL hMt b L xs hL hX hZ (2 + 4 * t) (35 + t) (19847 + 6 * t) hi4 (by omega) (by omega) ov d sz sa cu fi st lo hi_ wa sw th kn me ns he nx nl lp so wi us ho nh ke ta de se hd hcu hIx hIm  hk
    · refine j_tabIn (j := 16) (off := 734) (tgt := 793) (by decide) dL_law_59 (by decide) (by decide) (by decide) (by decide) ?_
      by_cases hone : WS R C cu 0 (nE R C) 0 1672 = 1
      · exact l_spare l hfl D cI cJ cZ qo qx qm R C hG LL hMt b L xs hL hX hZ (2 + 4 * t) (35 + t) (19847 + 6 * t) hi4 (by omega) (by omega) ov d sz sa cu fi st lo hi_ wa sw th kn me ns he nx nl lp so wi us ho nh ke ta de se hd hcu hIx hIm hone hk
      · exact l_spareX l hfl D cI cJ cZ qo qx qm R C hG LL hMt b L xs hL hX hZ (2 + 4 * t) (35 + t) (19847 + 6 * t) hi4 (by omega) (by omega) ov d sz sa cu fi st lo hi_ wa sw th kn me ns he nx nl lp so wi us ho nh ke ta de se hd hcu hIx hIm hone hk
    · refine j_tabIn (j := 17) (off := 778) (tgt := 837) (by decide) dL_law_59 (by decide) (by decide) (by decide) (by decide) ?_
      cases hin : (inB R (xs (2 + 4 * t + 1)) && inB C (xs (2 + 4 * t + 2))) with
      | false => exact l_clueOfX l hfl D cI cJ cZ qo qx qm R C hG LL hMt b L xs hL hX hZ (2 + 4 * t) (35 + t) (19847 + 6 * t) hi4 (by omega) (by omega) ov d sz sa cu fi st lo hi_ wa sw th kn me ns he nx nl lp so wi us ho nh ke ta de se hd hcu hIx hIm hin hk
      | true =>
        rw [Bool.and_eq_true] at hin
        obtain ⟨yr, hr, hx1⟩ := inB_e (by omega) hin.1
        obtain ⟨xc, hc, hx2⟩ := inB_e (by omega) hin.2
        exact l_clueOf l hfl D cI cJ cZ qo qx qm R C hG LL hMt b L xs hL hX hZ (2 + 4 * t) (35 + t) (19847 + 6 * t) hi4 (by omega) (by omega) ov d sz sa cu fi st lo hi_ wa sw th kn me ns he nx nl lp so wi us ho nh ke ta de se hd hcu hIx hIm yr xc hr hc hx1 hx2 hk

set_option maxHeartbeats 8000000 in
set_option maxRecDepth 100000 in
theorem l_main {k : VK} (l : Launch) (hfl : l.flags = flags0) (D : va_G) (cI cJ cZ : ClassId) (b L : Nat) (xs : Nat → Int32) (R C : Nat) (hG : GS R C) (hR : szI 4 (xAt L xs 0) R) (hC : szI 3 (xAt L xs 1) C) (hMt : Mth R C (lpA R C (2 ^ (R * C) - 1))) (hL : L ≤ 258) (hX : SX k b L xs) (hZ : ZX k.2.2.1.1 k.1.2.2.1 k.2.2.1.2) (hV : VLaw k b) : V k l D (tys3 cI cJ cZ) room_1 cL_law 7 RL ([]) (0) (0) 0 [(0, .ref (b))] [] := by
  refine j_new (ci := 2) (fs := [.null, .null, .int (nI (0)), .int (nI (0))]) inA2 tyX2 tyX2_ok mw1_13 mw1_14 mw1_1 rfl (fun j => match j with | 0 => fun _ => rfl | 1 => fun _ => rfl | 2 => fun _ => rfl | 3 => fun _ => rfl | j2 + 4 => fun h => absurd h (by omega)) (Nat.le_of_ble_eq_true rfl) (Nat.le_of_ble_eq_true rfl) dL_law_0 ?_
  intro aq
  refine j_dup dL_law_3 rfl ?_
  refine j_aload_n dL_law_4 rfl 0 rfl ?_
  refine j_iconst (v := nI (0)) dL_law_5 (by decide) ?_
  refine j_callC (av := [.ref b, .int (nI (0))]) (rest := [.ref (aq), .ref (aq)]) (c_cell l hfl D (tys3 cI cJ cZ) b L xs (by omega) 0 (by decide)) mw1_202 mw1_203 mw1_0 mw1_204 hd_L_cell rfl ⟨rfl, rfl⟩ ⟨Nat.le_of_ble_eq_true rfl, Nat.le_of_ble_eq_true rfl⟩ ⟨Nat.le_of_ble_eq_true rfl, Nat.le_of_ble_eq_true rfl⟩ (Nat.le_of_ble_eq_true rfl) hX rfl dL_law_6 ?_
  refine j_aload_n dL_law_9 rfl 0 rfl ?_
  refine j_iconst (v := nI (1)) dL_law_10 (by decide) ?_
  refine j_callC (av := [.ref b, .int (nI (1))]) (rest := [.int ((xAt L xs 0)), .ref (aq), .ref (aq)]) (c_cell l hfl D (tys3 cI cJ cZ) b L xs (by omega) 1 (by decide)) mw1_202 mw1_203 mw1_0 mw1_204 hd_L_cell rfl ⟨rfl, rfl⟩ ⟨Nat.le_of_ble_eq_true rfl, Nat.le_of_ble_eq_true rfl⟩ ⟨Nat.le_of_ble_eq_true rfl, Nat.le_of_ble_eq_true rfl⟩ (Nat.le_of_ble_eq_true rfl) hX rfl dL_law_11 ?_
  refine j_callI (mc := 12) (ms := 5230) (wc := [(aq, .inr (2, [.null, .null, .int (nI (0)), .int (nI (0))]))]) (wr := []) (tys3 := tys3 cI cJ cZ) (av := [.int ((xAt L xs 0)), .int ((xAt L xs 1))]) (rest := [.ref (aq)]) (c_loopI l hfl D cI cJ cZ R C hG aq (xAt L xs 0) (xAt L xs 1) hR hC) mw1_15 mw1_16 mw1_1 mw1_17 rfl hd_X2_init rfl ⟨rfl, rfl⟩ ⟨Nat.le_of_ble_eq_true rfl, Nat.le_of_ble_eq_true rfl⟩ ⟨Nat.le_of_ble_eq_true rfl, Nat.le_of_ble_eq_true rfl⟩ (Nat.le_of_ble_eq_true rfl) [0] [] rfl rfl rfl rfl (by decide) (fun _ h _ => h) rfl dL_law_14 ?_
  rintro _ _ ⟨rfl, qx, hqx, rfl⟩
  subst hqx
  show V k l D (tys3 cI cJ cZ) room_1 cL_law 7 RL (wX cI cZ qx R C 0 0 true (fun _ => 99) z0 z0 (fun _ => some 0) (fun _ => some 0) z0 z0) (13) (5234) 17 [(0, .ref (b))] [.ref (qx 0)]
  refine j_astore_n [(1, .ref (qx 0)), (0, .ref (b))] dL_law_17 rfl (by decide) rfl ?_
  refine j_new (ci := 3) (fs := [.int (nI (0)), .int (nI (0)), .int (nI (0)), .int (nI (0)), .int (nI (0)), .null, .null, .null, .null, .null, .null, .null, .null, .null, .int (nI (0)), .null, .null, .int (nI (0)), .int (nI (0)), .null, .int (nI (0)), .null, .null, .int (nI (0)), .null, .int (nI (0)), .null, .null, .null, .int (nI (0)), .null, .null]) inA3 tyX3 tyX3_ok mw2_179 mw2_180 mw1_4 rfl (fun j => match j with | 0 => fun _ => rfl | 1 => fun _ => rfl | 2 => fun _ => rfl | 3 => fun _ => rfl | 4 => fun _ => rfl | 5 => fun _ => rfl | 6 => fun _ => rfl | 7 => fun _ => rfl | 8 => fun _ => rfl | 9 => fun _ => rfl | 10 => fun _ => rfl | 11 => fun _ => rfl | 12 => fun _ => rfl | 13 => fun _ => rfl | 14 => fun _ => rfl | 15 => fun _ => rfl | 16 => fun _ => rfl | 17 => fun _ => rfl | 18 => fun _ => rfl | 19 => fun _ => rfl | 20 => fun _ => rfl | 21 => fun _ => rfl | 22 => fun _ => rfl | 23 => fun _ => rfl | 24 => fun _ => rfl | 25 => fun _ => rfl | 26 => fun _ => rfl | 27 => fun _ => rfl | 28 => fun _ => rfl | 29 => fun _ => rfl | 30 => fun _ => rfl | 31 => fun _ => rfl | j2 + 32 => fun h => absurd h (by omega)) (Nat.le_of_ble_eq_true rfl) (Nat.le_of_ble_eq_true rfl) dL_law_18 ?_
  intro mq
  refine j_dup dL_law_21 rfl ?_
  refine j_aload_n dL_law_22 rfl 1 rfl ?_
  refine j_iconst (v := nI (0)) dL_law_23 (by decide) ?_
  refine j_callC (av := [.ref b, .int (nI (0))]) (rest := [.ref (mq), .ref (mq)]) (c_cell l hfl D (tys3 cI cJ cZ) b L xs (by omega) 0 (by decide)) mw1_202 mw1_203 mw1_0 mw1_204 hd_L_cell rfl ⟨rfl, rfl⟩ ⟨Nat.le_of_ble_eq_true rfl, Nat.le_of_ble_eq_true rfl⟩ ⟨Nat.le_of_ble_eq_true rfl, Nat.le_of_ble_eq_true rfl⟩ (Nat.le_of_ble_eq_true rfl) hX rfl dL_law_24 ?_
  refine j_aload_n dL_law_27 rfl 1 rfl ?_
  refine j_iconst (v := nI (1)) dL_law_28 (by decide) ?_
  refine j_callC (av := [.ref b, .int (nI (1))]) (rest := [.int ((xAt L xs 0)), .ref (mq), .ref (mq)]) (c_cell l hfl D (tys3 cI cJ cZ) b L xs (by omega) 1 (by decide)) mw1_202 mw1_203 mw1_0 mw1_204 hd_L_cell rfl ⟨rfl, rfl⟩ ⟨Nat.le_of_ble_eq_true rfl, Nat.le_of_ble_eq_true rfl⟩ ⟨Nat.le_of_ble_eq_true rfl, Nat.le_of_ble_eq_true rfl⟩ (Nat.le_of_ble_eq_true rfl) hX rfl dL_law_29 ?_
  refine j_callI (mc := 20) (ms := 14580) (wc := [(mq, .inr (3, [.int (nI (0)), .int (nI (0)), .int (nI (0)), .int (nI (0)), .int (nI (0)), .null, .null, .null, .null, .null, .null, .null, .null, .null, .int (nI (0)), .null, .null, .int (nI (0)), .int (nI (0)), .null, .int (nI (0)), .null, .null, .int (nI (0)), .null, .int (nI (0)), .null, .null, .null, .int (nI (0)), .null, .null]))]) (wr := wX cI cZ qx R C 0 0 true (fun _ => 99) z0 z0 (fun _ => some 0) (fun _ => some 0) z0 z0) (tys3 := tys3 cI cJ cZ) (av := [.int ((xAt L xs 0)), .int ((xAt L xs 1))]) (rest := [.ref (mq)]) (c_modI l hfl D cI cJ cZ R C hG mq (xAt L xs 0) (xAt L xs 1) hR hC hMt.1.2.1) mw2_181 mw2_182 mw1_4 mw2_183 rfl hd_X3_init rfl ⟨rfl, rfl⟩ ⟨Nat.le_of_ble_eq_true rfl, Nat.le_of_ble_eq_true rfl⟩ ⟨Nat.le_of_ble_eq_true rfl, Nat.le_of_ble_eq_true rfl⟩ (Nat.le_of_ble_eq_true rfl) [13] [0, 1, 2, 3, 4, 5, 6, 7, 8, 9, 10, 11, 12] rfl rfl rfl rfl (by decide) (fun _ h _ => h) rfl dL_law_32 ?_
  rintro _ _ ⟨rfl, qm, hqm, hMW⟩
  subst hqm
  obtain ⟨kn3, me3, ns3, he3, nx3, nl3, lp3, so3, wi3, us3, ho3, nh3, ke3, ta3, de3, se3, hI3, rfl⟩ := hMW
  show V k l D (tys3 cI cJ cZ) room_1 cL_law 7 RL (wX cI cZ qx R C 0 0 true (fun _ => 99) z0 z0 (fun _ => some 0) (fun _ => some 0) z0 z0 ++ wM cI cJ cZ qm R C 0 kn3 me3 ns3 he3 nx3 0 nl3 lp3 (fun _ => 99) so3 wi3 us3 ho3 nh3 ke3 ta3 de3 se3) (34) (19846) 35 [(1, .ref (qx 0)), (0, .ref (b))] [.ref (qm 0)]
  refine j_astore_n [(2, .ref (qm 0)), (1, .ref (qx 0)), (0, .ref (b))] dL_law_35 rfl (by decide) rfl ?_
  refine j_iconst (v := nI (1)) dL_law_36 (by decide) ?_
  refine j_newaP (atype := .long) (ty := .long) (N := 1) (a0 := (1, .inr (.inl zL))) 1 rfl (fun _ _ h => h) mw3_104 rfl (vz_l _) (nI_pos (by omega)) (nI_clamp (by omega)) (Nat.le_of_ble_eq_true rfl) (Nat.le_of_ble_eq_true rfl) (Nat.le_of_ble_eq_true rfl) dL_law_37 ?_
  intro qo
  refine j_cut (w2 := wZ cI cJ cZ qo qx qm R C zL 0 0 true (fun _ => 99) z0 z0 (fun _ => some 0) (fun _ => some 0) z0 z0 0 kn3 me3 ns3 he3 nx3 0 nl3 lp3 (fun _ => 99) so3 wi3 us3 ho3 nh3 ke3 ta3 de3 se3) [34, 0, 1, 2, 3, 4, 5, 6, 7, 8, 9, 10, 11, 12, 13, 14, 15, 16, 17, 18, 19, 20, 21, 22, 23, 24, 25, 26, 27, 28, 29, 30, 31, 32, 33] rfl rfl ?_
  refine j_astore_n [(3, .ref (qo)), (2, .ref (qm 0)), (1, .ref (qx 0)), (0, .ref (b))] dL_law_39 rfl (by decide) rfl ?_
  refine j_iconst (v := nI (2)) dL_law_40 (by decide) ?_
  refine j_istore [(4, .int (nI (2))), (3, .ref (qo)), (2, .ref (qm 0)), (1, .ref (qx 0)), (0, .ref (b))] dL_law_41 (by decide) rfl ?_
  refine j_sub [4, 3, 2, 1, 0] [(0, .ref (b)), (1, .ref (qx 0)), (2, .ref (qm 0)), (3, .ref (qo)), (4, .int (nI (2)))] rfl ?_
  exact l_loop l hfl D cI cJ cZ qo qx qm R C hG _ hMt b L xs hL hX hZ hV 66 0 zL 0 0 (fun _ => 99) _ _ (by omega) (by omega) (Nat.pow_pos (by decide)) (fun j _ => Or.inl rfl) ⟨0, true, z0, z0, fun _ => some 0, fun _ => some 0, z0, z0, ⟨(fun h => nomatch h), by decide⟩, rfl⟩ (MW_of hI3)

theorem arr_ex {args : Array Value} {s : State} {ty : FieldType} (h : (Cond.arrayClass ty).before args s = true) (hty : ty = .int ∨ ty = .long ∨ ty = .boolean) : ∃ cA : ClassId, ArrOfT s cA ty ∧ va_RA s cA ty := by
  obtain ⟨c, k, comp, h1, h2, h3⟩ := Cond.arrayClass_spec h
  refine ⟨c, fun n z => ⟨fun k h => (by cases h), k, h2, comp, h3⟩, ?_⟩
  rcases hty with rfl | rfl | rfl <;> exact h1
/-- the law from its entry, over what class and model agree in -/
theorem start_open (hMath : ∀ R C, GS R C → Mth R C (lpA R C (2 ^ (R * C) - 1))) {p : Program} {e : Env} {s : State} {m : MethodId} {below : List Frame} {meth : Method} {c : Code} (l : Launch) (hflags : l.flags = flags0) {b L : Nat} {xs : Nat → Int32} (hL : L ≤ 258) (C0 : lw_At p s m meth c b L xs) : W p l e room_1 s m #[Value.ref b] below meth c s.heap [] 0 0 (lw_Z below #[Value.ref b] s) (entryFrame m ([Value.ref b] : List Value).toArray 7) := by
  obtain ⟨hx, hb, hr, hml, hown, hts, hX, hbl, hlocks, hgv⟩ := id C0
  have hA : ∀ q : Nat, s.heap.size ≤ q → (fun q : Nat => s.heap.size ≤ q) q := fun _ h => h
  have hAn : ∀ a : Nat, a < s.heap.size → ¬ (fun q : Nat => s.heap.size ≤ q) a := fun a ha => Nat.not_le.mpr ha
  have hta : ∀ w ∈ aL, w.before #[Value.ref b] s = true := fun w hw => hts w (aL_tbl hw)
  obtain ⟨c0, i0, hK0⟩ := u_known (C := RX0) (T := TX0) (N := 8) (n := 8) hta inA0 (hta _ mw1_60)
  obtain ⟨c1, i1, hK1⟩ := u_known (C := RX1) (T := TX1) (N := 7) (n := 7) hta inA1 (hta _ mw1_22)
  obtain ⟨c2, i2, hK2⟩ := u_known (C := RX2) (T := TX2) (N := 4) (n := 4) hta inA2 (hta _ mw1_14)
  obtain ⟨c3, i3, hK3⟩ := u_known (C := RX3) (T := TX3) (N := 32) (n := 32) hta inA3 (hta _ mw2_180)
  obtain ⟨D, hKc⟩ : ∃ D : va_G, ∀ (k : Nat) (q : vw_C), vwCl[k]? = some q → u_Kn s q.1 q.2.1 q.2.2 (D.1 k) (D.2 k) := by
    refine ⟨(fun k => if k = 0 then c0 else if k = 1 then c1 else if k = 2 then c2 else c3, fun k => if k = 0 then i0 else if k = 1 then i1 else if k = 2 then i2 else i3), ?_⟩
    intro k q hq
    match k, hq with
    | 0, hq => cases hq; exact hK0
    | 1, hq => cases hq; exact hK1
    | 2, hq => cases hq; exact hK2
    | 3, hq => cases hq; exact hK3
    | k + 4, hq => simp [vwCl] at hq
  obtain ⟨cI, aI⟩ := arr_ex (hta _ mw1_57) (Or.inl rfl)
  obtain ⟨cJ, aJ⟩ := arr_ex (hta _ mw3_104) (Or.inr (Or.inl rfl))
  obtain ⟨cZ, aZ⟩ := arr_ex (hta _ mw1_58) (Or.inr (Or.inr rfl))
  have hK : va_K D vwCl (tys3 cI cJ cZ) s := ⟨hKc, fun k q hq => by
    match k, hq with
    | 0, hq => cases hq; exact aI
    | 1, hq => cases hq; exact aJ
    | 2, hq => cases hq; exact aZ
    | k + 3, hq => simp [tys3] at hq⟩
  have hg := flat_of_before _ hgv
  have hZ : ZX (fun q : Nat => s.heap.size ≤ q) s s.heap := by
    refine ⟨vx_Zqof (args := #[Value.ref b]) (hts _ (tb_2 (List.mem_of_getElem? (i := 4) rfl))) (hta _ mw1_5) (hg _ (by decide +kernel)) hAn, vx_Zqof (args := #[Value.ref b]) (hts _ (tb_2 (List.mem_of_getElem? (i := 6) rfl))) (hta _ mw1_5) (hg _ (by decide +kernel)) hAn, fun w hw => va_Nw.of (fL_ot hw) (hts w (List.mem_filter.mp hw).1), ?_, ?_⟩
    · exact va_Nc.of (args := #[Value.ref b]) (hg _ (by decide +kernel))
    · exact va_Nc.of (args := #[Value.ref b]) (hg _ (by decide +kernel))
  have hNw : va_Nw nestW s := va_Nw.of rfl (hts _ mw1_160)
  obtain ⟨R, hR, hR1, hR4⟩ := szI_ex 4 (by decide) (xAt L xs 0)
  obtain ⟨C, hC, hC1, hC3⟩ := szI_ex 3 (by decide) (xAt L xs 1)
  have hG : GS R C := ⟨hR1, by omega, hC1, by omega⟩
  have hl := lv_entry ([.ref b]) (n := 7) (Nat.le_of_ble_eq_true rfl)
  rw [lg_entry_eq]
  have hP : va_P D vwCl [] s.heap := fun k q h => by simp at h
  have hD : va_D (fun q : Nat => s.heap.size ≤ q) [] := ⟨fun i j p q h => by simp at h, fun k q h => by simp at h⟩
  have hb2 := l_main (k := ((p, e, s, m, #[Value.ref b]), (below, meth, c), ((fun q : Nat => s.heap.size ≤ q), s.heap), lw_Z below #[Value.ref b] s)) l hflags D cI cJ cZ b L xs R C hG hR hC (hMath R C hG) hL ⟨hX, hbl, hAn b hbl⟩ hZ ⟨rfl, rfl, rfl, rfl, hr⟩
  exact hb2 ⟨hx, hb, hml, hown, hta, hK, hA, hlocks, hNw, hflags⟩ s.heap [] _ hP hD va_S.rf hl
