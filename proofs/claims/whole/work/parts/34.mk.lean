/-! the model's constructor -/
def wK (cI cJ cZ : ClassId) (q : Nat → Nat) (R C : Nat) (ct : Nat) (lw hg n1 n2 en fp la cf cl cu : Nat → Nat) : va_W := [
  (q 0, .inr (3, [.int (nI 0), .int (nI R), .int (nI C), .int (nI (nP R C)), .int (nI ct), .ref (q 5), .ref (q 6), .ref (q 7), .ref (q 8), .ref (q 9), .ref (q 10), .ref (q 11), .ref (q 12), .ref (q 13), .int (nI 0), .ref (q 15), .ref (q 16), .int (bI false), .int (nI 0), .ref (q 19), .int (bI false), .ref (q 21), .ref (q 22), .int (nI 0), .ref (q 24), .int (nI 0), .ref (q 26), .ref (q 27), .ref (q 28), .int (nI 0), .ref (q 30), .ref (q 31)])),
  (q 5, .inl (cI, 31, .inl (fun i => nI (lw i)))),
  (q 6, .inl (cI, 31, .inl (fun i => nI (hg i)))),
  (q 7, .inl (cI, 31, .inl (fun i => eI (n1 i)))),
  (q 8, .inl (cI, 31, .inl (fun i => eI (n2 i)))),
  (q 9, .inl (cI, 80, .inl (fun i => eI (en i)))),
  (q 10, .inl (cI, 20, .inl (fun i => nI (fp i)))),
  (q 11, .inl (cI, 20, .inl (fun i => nI (la i)))),
  (q 12, .inl (cI, 12, .inl (fun i => nI (cf i)))),
  (q 13, .inl (cI, 12, .inl (fun i => nI (cl i)))),
  (q 15, .inl (cI, 1300, .inl (fun i => nI (z0 i)))),
  (q 16, .inl (cI, 12, .inl (fun i => eI (cu i)))),
  (q 19, .inl (cI, 1300, .inl (fun i => nI (z0 i)))),
  (q 21, .inl (cI, 32, .inl (fun i => nI (z0 i)))),
  (q 22, .inl (cI, 32, .inl (fun i => nI (z0 i)))),
  (q 24, .inl (cI, 2500, .inl (fun i => nI (z0 i)))),
  (q 26, .inl (cI, 2500, .inl (fun i => nI (z0 i)))),
  (q 27, .inl (cJ, 2500, .inr (.inl zL))),
  (q 28, .inl (cI, 4096, .inl (fun i => nI (z0 i)))),
  (q 30, .inl (cI, 20, .inl (fun i => nI (z0 i)))),
  (q 31, .inl (cZ, 20, .inl (fun i => bI (no0 i))))]
def bdF (cf : Nat → Nat) (c e : Nat) : Nat → Nat := if c = 99 then cf else va_up cf c (if e < cf c then e else cf c)
def bdL (cl : Nat → Nat) (c e : Nat) : Nat → Nat := if c = 99 then cl else va_up cl c e
theorem ccell_99 {R C r c : Nat} : ccell R C r c = 99 ∨ ccell R C r c < R * C := by
  unfold ccell
  split
  · split
    · rename_i h1 h2
      exact Or.inr (cell_lt h1 h2)
    · exact Or.inl rfl
  · exact Or.inl rfl
set_option maxHeartbeats 4000000 in
set_option maxRecDepth 100000 in
theorem k_cell (l : Launch) (hfl : l.flags = flags0) (D : va_G) (cI cJ cZ : ClassId) (q : Nat → Nat) (R C : Nat) (hG : GS R C) (ct : Nat) (lw hg n1 n2 en fp la cf cl cu : Nat → Nat) (yr xc : Nat) (hyr : yr < 100) (hxc : xc < 100) : Ct l yX3_cell cX3_cell 3 (Option.some FieldType.int) ({ frames := 0, cells := 0, slots := 0, locals := 0 } : Room) D (tys3 cI cJ cZ) (tys3 cI cJ cZ) (wK cI cJ cZ q R C ct lw hg n1 n2 en fp la cf cl cu) [.ref (q 0), .int (eI (yr)), .int (eI (xc))] (fun r u => r = some (.int (eI (ccell R C yr xc))) ∧ u = wK cI cJ cZ q R C ct lw hg n1 n2 en fp la cf cl cu) 0 0 := by
  refine Ct.of hfl (by decide) (Nat.le_of_ble_eq_true rfl) ?_
  intro k hR _
  have hR4 := hG.2.1
  have hC3 := hG.2.2.2
  have hR1 := hG.1
  have hC1 := hG.2.2.1
  have hE := hG.E
  have hRC := hG.RC
  have hP := hG.P
  show V k l D (tys3 cI cJ cZ) ({ frames := 0, cells := 0, slots := 0, locals := 0 } : Room) cX3_cell 3 RX3 (wK cI cJ cZ q R C ct lw hg n1 n2 en fp la cf cl cu) (0) (0) 0 [(0, .ref (q 0)), (1, .int (eI (yr))), (2, .int (eI (xc)))] []
  refine j_iload_n dX3_cell_0 rfl 1 rfl ?_
  refine je_if_lt (tgt := 24) (x := yr) (by omega) dX3_cell_1 (by decide) (fun c1 => ?_) (fun c1 => ?_)
  · refine j_iconst (v := (-1)) dX3_cell_24 (by decide) ?_
    refine j_goto (tgt := 36) dX3_cell_25 (by decide) ?_
    exact j_iret (tys' := []) rfl hR dX3_cell_36 (⟨by rw [show ccell R C yr xc = 99 from by unfold ccell; split <;> first | rfl | (split <;> first | rfl | (exfalso; omega))]; rfl, rfl⟩)
  · refine j_lv (lv' := [(0, .ref (q 0)), (1, .int (nI (yr))), (2, .int (eI (xc)))]) (by rw [eI_ne c1]) ?_
    refine j_iload_n dX3_cell_4 rfl 1 rfl ?_
    refine j_aload_n dX3_cell_5 rfl 0 rfl ?_
    refine gf_X3_72 0 rfl (rfl) dX3_cell_6 ?_
    refine jn_icmp_ge (tgt := 24) (a := yr) (b := R) (by omega) (by omega) dX3_cell_9 (by decide) (fun c9 => ?_) (fun c9 => ?_)
    · refine j_iconst (v := (-1)) dX3_cell_24 (by decide) ?_
      refine j_goto (tgt := 36) dX3_cell_25 (by decide) ?_
      exact j_iret (tys' := []) rfl hR dX3_cell_36 (⟨by rw [show ccell R C yr xc = 99 from by unfold ccell; split <;> first | rfl | (split <;> first | rfl | (exfalso; omega))]; rfl, rfl⟩)
    · refine j_iload_n dX3_cell_12 rfl 2 rfl ?_
      refine je_if_lt (tgt := 24) (x := xc) (by omega) dX3_cell_13 (by decide) (fun c13 => ?_) (fun c13 => ?_)
      · refine j_iconst (v := (-1)) dX3_cell_24 (by decide) ?_
        refine j_goto (tgt := 36) dX3_cell_25 (by decide) ?_
        exact j_iret (tys' := []) rfl hR dX3_cell_36 (⟨by rw [show ccell R C yr xc = 99 from by unfold ccell; split <;> first | rfl | (split <;> first | rfl | (exfalso; omega))]; rfl, rfl⟩)
      · refine j_lv (lv' := [(0, .ref (q 0)), (1, .int (nI (yr))), (2, .int (nI (xc)))]) (by rw [eI_ne c13]) ?_
        refine j_iload_n dX3_cell_16 rfl 2 rfl ?_
        refine j_aload_n dX3_cell_17 rfl 0 rfl ?_
        refine gf_X3_76 0 rfl (rfl) dX3_cell_18 ?_
        refine jn_icmp_lt (tgt := 28) (a := xc) (b := C) (by omega) (by omega) dX3_cell_21 (by decide) (fun c21 => ?_) (fun c21 => ?_)
        · refine j_iload_n dX3_cell_28 rfl 1 rfl ?_
          refine j_aload_n dX3_cell_29 rfl 0 rfl ?_
          refine gf_X3_76 0 rfl (rfl) dX3_cell_30 ?_
          refine jn_imul (v := yr * C) dX3_cell_33 rfl ?_
          refine j_iload_n dX3_cell_34 rfl 2 rfl ?_
          refine jn_iadd (v := (yr * C) + xc) dX3_cell_35 rfl ?_
          exact j_iret (tys' := []) rfl hR dX3_cell_36 (⟨by rw [show ccell R C yr xc = yr * C + xc from by unfold ccell; rw [if_pos (show yr < R by omega), if_pos (show xc < C by omega)], eI_ne (by have := cell_lt (show yr < R by omega) (show xc < C by omega); omega)], rfl⟩)
        · refine j_iconst (v := (-1)) dX3_cell_24 (by decide) ?_
          refine j_goto (tgt := 36) dX3_cell_25 (by decide) ?_
          exact j_iret (tys' := []) rfl hR dX3_cell_36 (⟨by rw [show ccell R C yr xc = 99 from by unfold ccell; split <;> first | rfl | (split <;> first | rfl | (exfalso; omega))]; rfl, rfl⟩)

set_option maxHeartbeats 4000000 in
set_option maxRecDepth 100000 in
theorem k_border (l : Launch) (hfl : l.flags = flags0) (D : va_G) (cI cJ cZ : ClassId) (q : Nat → Nat) (R C : Nat) (hG : GS R C) (ct : Nat) (lw hg n1 n2 en fp la cf cl cu : Nat → Nat) (c e : Nat) (hc : c = 99 ∨ c < R * C) (hee : e < 99) (hcf : ∀ j, j < 12 → cf j < 100) : Ct l yX3_border cX3_border 3 none ({ frames := 0, cells := 0, slots := 0, locals := 0 } : Room) D (tys3 cI cJ cZ) (tys3 cI cJ cZ) (wK cI cJ cZ q R C ct lw hg n1 n2 en fp la cf cl cu) [.ref (q 0), .int (eI (c)), .int (nI (e))] (fun r u => r = none ∧ u = wK cI cJ cZ q R C ct lw hg n1 n2 en fp la (bdF cf c e) (bdL cl c e) cu) 0 0 := by
  refine Ct.of hfl (by decide) (Nat.le_of_ble_eq_true rfl) ?_
  intro k hR _
  have hR4 := hG.2.1
  have hC3 := hG.2.2.2
  have hR1 := hG.1
  have hC1 := hG.2.2.1
  have hE := hG.E
  have hRC := hG.RC
  have hP := hG.P
  show V k l D (tys3 cI cJ cZ) ({ frames := 0, cells := 0, slots := 0, locals := 0 } : Room) cX3_border 3 RX3 (wK cI cJ cZ q R C ct lw hg n1 n2 en fp la cf cl cu) (0) (0) 0 [(0, .ref (q 0)), (1, .int (eI (c))), (2, .int (nI (e)))] []
  refine j_iload_n dX3_border_0 rfl 1 rfl ?_
  refine je_if_lt (tgt := 37) (x := c) (by omega) dX3_border_1 (by decide) (fun c1 => ?_) (fun c1 => ?_)
  · exact j_vret (tys' := []) rfl hR dX3_border_37 (⟨rfl, by rw [show bdF cf c e = cf from by simp [bdF, c1], show bdL cl c e = cl from by simp [bdL, c1]]⟩)
  · refine j_lv (lv' := [(0, .ref (q 0)), (1, .int (nI (c))), (2, .int (nI (e)))]) (by rw [eI_ne c1]) ?_
    refine j_aload_n dX3_border_4 rfl 0 rfl ?_
    refine gf_X3_31 0 rfl (rfl) dX3_border_5 ?_
    refine j_iload_n dX3_border_8 rfl 1 rfl ?_
    refine j_iload_n dX3_border_9 rfl 2 rfl ?_
    refine j_aload_n dX3_border_10 rfl 0 rfl ?_
    refine gf_X3_31 0 rfl (rfl) dX3_border_11 ?_
    refine j_iload_n dX3_border_14 rfl 1 rfl ?_
    refine jn_iald (v := nI (cf c)) 8 0 rfl rfl (by omega) (by omega) (rfl) dX3_border_15 ?_
    refine jn_icmp_ge (tgt := 23) (a := e) (b := cf c) (by omega) (by have := hcf c (by omega); omega) dX3_border_16 (by decide) (fun c16 => ?_) (fun c16 => ?_)
    · refine j_aload_n dX3_border_23 rfl 0 rfl ?_
      refine gf_X3_31 0 rfl (rfl) dX3_border_24 ?_
      refine j_iload_n dX3_border_27 rfl 1 rfl ?_
      refine jn_iald (v := nI (cf c)) 8 0 rfl rfl (by omega) (by omega) (rfl) dX3_border_28 ?_
      refine jn_iastN (wK cI cJ cZ q R C ct lw hg n1 n2 en fp la (va_up cf c (cf c)) cl cu) 8 0 rfl rfl (by omega) (by omega) rfl dX3_border_29 ?_
      refine j_aload_n dX3_border_30 rfl 0 rfl ?_
      refine gf_X3_34 0 rfl (rfl) dX3_border_31 ?_
      refine j_iload_n dX3_border_34 rfl 1 rfl ?_
      refine j_iload_n dX3_border_35 rfl 2 rfl ?_
      refine jn_iastN (wK cI cJ cZ q R C ct lw hg n1 n2 en fp la (va_up cf c (cf c)) (va_up cl c e) cu) 9 0 rfl rfl (by omega) (by omega) rfl dX3_border_36 ?_
      exact j_vret (tys' := []) rfl hR dX3_border_37 (⟨rfl, by rw [show bdF cf c e = va_up cf c (cf c) from by simp only [bdF]; rw [if_neg c1, if_neg (show ¬ e < cf c by omega)], show bdL cl c e = va_up cl c e from by simp only [bdL]; rw [if_neg c1]]⟩)
    · refine j_iload_n dX3_border_19 rfl 2 rfl ?_
      refine j_goto (tgt := 29) dX3_border_20 (by decide) ?_
      refine jn_iastN (wK cI cJ cZ q R C ct lw hg n1 n2 en fp la (va_up cf c e) cl cu) 8 0 rfl rfl (by omega) (by omega) rfl dX3_border_29 ?_
      refine j_aload_n dX3_border_30 rfl 0 rfl ?_
      refine gf_X3_34 0 rfl (rfl) dX3_border_31 ?_
      refine j_iload_n dX3_border_34 rfl 1 rfl ?_
      refine j_iload_n dX3_border_35 rfl 2 rfl ?_
      refine jn_iastN (wK cI cJ cZ q R C ct lw hg n1 n2 en fp la (va_up cf c e) (va_up cl c e) cu) 9 0 rfl rfl (by omega) (by omega) rfl dX3_border_36 ?_
      exact j_vret (tys' := []) rfl hR dX3_border_37 (⟨rfl, by rw [show bdF cf c e = va_up cf c e from by simp only [bdF]; rw [if_neg c1, if_pos (show e < cf c by omega)], show bdL cl c e = va_up cl c e from by simp only [bdL]; rw [if_neg c1]]⟩)

set_option maxHeartbeats 4000000 in
set_option maxRecDepth 100000 in
theorem k_meet (l : Launch) (hfl : l.flags = flags0) (D : va_G) (cI cJ cZ : ClassId) (q : Nat → Nat) (R C : Nat) (hG : GS R C) (ct : Nat) (lw hg n1 n2 en fp la cf cl cu : Nat → Nat) (p e sp : Nat) (hp : p < nP R C) (hee : e < 99) (hsp : sp < 4) (hs2 : en (4 * p + sp) = 99) (hs3 : ∀ j, j < sp → en (4 * p + j) ≠ 99) (hen : ∀ j, j < 80 → en j < 100) (hfp : ∀ j, j < 20 → fp j < 100) : Ct l yX3_meet cX3_meet 4 none ({ frames := 0, cells := 0, slots := 0, locals := 0 } : Room) D (tys3 cI cJ cZ) (tys3 cI cJ cZ) (wK cI cJ cZ q R C ct lw hg n1 n2 en fp la cf cl cu) [.ref (q 0), .int (nI (p)), .int (nI (e))] (fun r u => r = none ∧ u = wK cI cJ cZ q R C ct lw hg n1 n2 (va_up en (4 * p + sp) e) (va_up fp p (if e < fp p then e else fp p)) (va_up la p e) cf cl cu) 0 0 := by
  refine Ct.of hfl (by decide) (Nat.le_of_ble_eq_true rfl) ?_
  intro k hR _
  have hR4 := hG.2.1
  have hC3 := hG.2.2.2
  have hR1 := hG.1
  have hC1 := hG.2.2.1
  have hE := hG.E
  have hRC := hG.RC
  have hP := hG.P
  show V k l D (tys3 cI cJ cZ) ({ frames := 0, cells := 0, slots := 0, locals := 0 } : Room) cX3_meet 4 RX3 (wK cI cJ cZ q R C ct lw hg n1 n2 en fp la cf cl cu) (0) (0) 0 [(0, .ref (q 0)), (1, .int (nI (p))), (2, .int (nI (e)))] []
  refine j_iconst (v := nI (4)) dX3_meet_0 (by decide) ?_
  refine j_iload_n dX3_meet_1 rfl 1 rfl ?_
  refine jn_imul (v := 4 * p) dX3_meet_2 rfl ?_
  refine j_istore_n [(3, .int (nI (4 * p))), (0, .ref (q 0)), (1, .int (nI (p))), (2, .int (nI (e)))] dX3_meet_3 rfl (by decide) rfl ?_
  refine j_lv (lv' := [(3, .int (nI (4 * p + 0))), (0, .ref (q 0)), (1, .int (nI (p))), (2, .int (nI (e)))]) (by rfl) ?_
  refine j_sub [1, 2, 3, 0] [(0, .ref (q 0)), (1, .int (nI (p))), (2, .int (nI (e))), (3, .int (nI (4 * p + 0)))] rfl ?_
  have loop4 : ∀ (n : Nat) (i : Nat), (sp < i + n) → (i ≤ sp) → V k l D (tys3 cI cJ cZ) ({ frames := 0, cells := 0, slots := 0, locals := 0 } : Room) cX3_meet 4 RX3 (wK cI cJ cZ q R C ct lw hg n1 n2 en fp la cf cl cu) (0) (0) 4 [(0, .ref (q 0)), (1, .int (nI (p))), (2, .int (nI (e))), (3, .int (nI (4 * p + i)))] [] := by
    intro n
    induction n with
    | zero => intro i hm hi; exfalso; omega
    | succ n ih4 =>
      intro i hm hi
      refine j_aload_n dX3_meet_4 rfl 0 rfl ?_
      refine gf_X3_22 0 rfl (rfl) dX3_meet_5 ?_
      refine j_iload_n dX3_meet_8 rfl 3 rfl ?_
      refine jn_iald (v := eI (en (4 * p + i))) 5 0 rfl rfl (by omega) (by omega) (rfl) dX3_meet_9 ?_
      refine je_if_lt (tgt := 19) (x := en (4 * p + i)) (by have := hen (4 * p + i) (by omega); omega) dX3_meet_10 (by decide) (fun c10 => ?_) (fun c10 => ?_)
      · refine j_aload_n dX3_meet_19 rfl 0 rfl ?_
        refine gf_X3_22 0 rfl (rfl) dX3_meet_20 ?_
        refine j_iload_n dX3_meet_23 rfl 3 rfl ?_
        refine j_iload_n dX3_meet_24 rfl 2 rfl ?_
        refine j_st (st' := [.int (eI (e)), .int (nI (4 * p + i)), .ref (q 9)]) (by rw [eI_ne (by omega)]) ?_
        refine jn_iastE (wK cI cJ cZ q R C ct lw hg n1 n2 (va_up en (4 * p + i) e) fp la cf cl cu) 5 0 rfl rfl (by omega) (by omega) rfl dX3_meet_25 ?_
        refine j_aload_n dX3_meet_26 rfl 0 rfl ?_
        refine gf_X3_25 0 rfl (rfl) dX3_meet_27 ?_
        refine j_iload_n dX3_meet_30 rfl 1 rfl ?_
        refine j_iload_n dX3_meet_31 rfl 2 rfl ?_
        refine j_aload_n dX3_meet_32 rfl 0 rfl ?_
        refine gf_X3_25 0 rfl (rfl) dX3_meet_33 ?_
        refine j_iload_n dX3_meet_36 rfl 1 rfl ?_
        refine jn_iald (v := nI (fp p)) 6 0 rfl rfl (by omega) (by omega) (rfl) dX3_meet_37 ?_
        refine jn_icmp_ge (tgt := 45) (a := e) (b := fp p) (by omega) (by have := hfp p (by omega); omega) dX3_meet_38 (by decide) (fun c38 => ?_) (fun c38 => ?_)
        · refine j_aload_n dX3_meet_45 rfl 0 rfl ?_
          refine gf_X3_25 0 rfl (rfl) dX3_meet_46 ?_
          refine j_iload_n dX3_meet_49 rfl 1 rfl ?_
          refine jn_iald (v := nI (fp p)) 6 0 rfl rfl (by omega) (by omega) (rfl) dX3_meet_50 ?_
          refine jn_iastN (wK cI cJ cZ q R C ct lw hg n1 n2 (va_up en (4 * p + i) e) (va_up fp p (fp p)) la cf cl cu) 6 0 rfl rfl (by omega) (by omega) rfl dX3_meet_51 ?_
          refine j_aload_n dX3_meet_52 rfl 0 rfl ?_
          refine gf_X3_28 0 rfl (rfl) dX3_meet_53 ?_
          refine j_iload_n dX3_meet_56 rfl 1 rfl ?_
          refine j_iload_n dX3_meet_57 rfl 2 rfl ?_
          refine jn_iastN (wK cI cJ cZ q R C ct lw hg n1 n2 (va_up en (4 * p + i) e) (va_up fp p (fp p)) (va_up la p e) cf cl cu) 7 0 rfl rfl (by omega) (by omega) rfl dX3_meet_58 ?_
          exact j_vret (tys' := []) rfl hR dX3_meet_59 (⟨rfl, by rw [show i = sp from (Nat.lt_or_ge i sp).elim (fun h => absurd c10 (hs3 i h)) (fun h => by omega), if_neg (show ¬ e < fp p by omega)]⟩)
        · refine j_iload_n dX3_meet_41 rfl 2 rfl ?_
          refine j_goto (tgt := 51) dX3_meet_42 (by decide) ?_
          refine jn_iastN (wK cI cJ cZ q R C ct lw hg n1 n2 (va_up en (4 * p + i) e) (va_up fp p e) la cf cl cu) 6 0 rfl rfl (by omega) (by omega) rfl dX3_meet_51 ?_
          refine j_aload_n dX3_meet_52 rfl 0 rfl ?_
          refine gf_X3_28 0 rfl (rfl) dX3_meet_53 ?_
          refine j_iload_n dX3_meet_56 rfl 1 rfl ?_
          refine j_iload_n dX3_meet_57 rfl 2 rfl ?_
          refine jn_iastN (wK cI cJ cZ q R C ct lw hg n1 n2 (va_up en (4 * p + i) e) (va_up fp p e) (va_up la p e) cf cl cu) 7 0 rfl rfl (by omega) (by omega) rfl dX3_meet_58 ?_
          exact j_vret (tys' := []) rfl hR dX3_meet_59 (⟨rfl, by rw [show i = sp from (Nat.lt_or_ge i sp).elim (fun h => absurd c10 (hs3 i h)) (fun h => by omega), if_pos (show e < fp p by omega)]⟩)
      · refine j_iinc (n0 := 3) (v := nI (4 * p + i + 1)) [(3, .int (nI (4 * p + i + 1))), (0, .ref (q 0)), (1, .int (nI (p))), (2, .int (nI (e)))] dX3_meet_13 rfl (by exact nI_add (4 * p + i) 1) (by decide) rfl ?_
        refine j_goto (tgt := 4) dX3_meet_16 (by decide) ?_
        refine j_sub [1, 2, 3, 0] [(0, .ref (q 0)), (1, .int (nI (p))), (2, .int (nI (e))), (3, .int (nI (4 * p + i + 1)))] rfl ?_
        exact ih4 (i + 1) (by omega) (by have : i ≠ sp := (fun h => by rw [h] at c10; exact c10 hs2); omega)
  exact loop4 (sp + 2) 0 (by omega) (by omega)

def mtF (f : Nat → Nat) (p e : Nat) : Nat → Nat := va_up f p (if e < f p then e else f p)
/-- the tables, so far as e edges are joined -/
def incE (R C e p : Nat) : List Nat := (List.range e).filter (fun x => mLow R C x == p || mHigh R C x == p)
def sdsE (R C e c : Nat) : List Nat := (List.range e).filter (fun x => mOne R C x == c || mOther R C x == c)
def TC (R C e : Nat) (lw hg n1 n2 en fp la cf cl : Nat → Nat) : Prop :=
  (∀ j, j < e → lw j = mLow R C j ∧ hg j = mHigh R C j ∧ n1 j = mOne R C j ∧ n2 j = mOther R C j) ∧ (∀ j, e ≤ j → lw j = 0 ∧ hg j = 0 ∧ n1 j = 0 ∧ n2 j = 0) ∧
  (∀ p i, p < 20 → i < 4 → en (4 * p + i) = (incE R C e p).getD i 99) ∧ (∀ p, p < 20 → fp p = (if p < nP R C then (incE R C e p).headD 99 else 0) ∧ la p = (incE R C e p).getLastD 0) ∧
  (∀ c, c < 12 → cf c = (sdsE R C e c).headD 99 ∧ cl c = (sdsE R C e c).getLastD 0)
theorem incE_s {R C e p : Nat} : incE R C (e + 1) p = incE R C e p ++ (if mLow R C e == p || mHigh R C e == p then [e] else []) := by
  unfold incE
  rw [List.range_succ, List.filter_append]
  congr 1
  by_cases h : (mLow R C e == p || mHigh R C e == p) = true <;> simp [List.filter_cons, h]
theorem sdsE_s {R C e c : Nat} : sdsE R C (e + 1) c = sdsE R C e c ++ (if mOne R C e == c || mOther R C e == c then [e] else []) := by
  unfold sdsE
  rw [List.range_succ, List.filter_append]
  congr 1
  by_cases h : (mOne R C e == c || mOther R C e == c) = true <;> simp [List.filter_cons, h]
theorem incE_lt {R C e p x : Nat} (h : x ∈ incE R C e p) : x < e := List.mem_range.mp (List.mem_filter.mp h).1
theorem sdsE_lt {R C e p x : Nat} (h : x ∈ sdsE R C e p) : x < e := List.mem_range.mp (List.mem_filter.mp h).1
theorem incE_mono {R C e p : Nat} : ∀ d, (incE R C e p).length ≤ (incE R C (e + d) p).length
  | 0 => Nat.le_refl _
  | d + 1 => by
    have := incE_mono (R := R) (C := C) (e := e) (p := p) d
    rw [show e + (d + 1) = e + d + 1 from rfl, incE_s, List.length_append]
    omega
theorem inc4 : ∀ R, R < 5 → ∀ C, C < 4 → ∀ p, p < 20 → (incE R C (nE R C) p).length ≤ 4 := by decide +kernel
theorem getLD_app {l : List Nat} {x d : Nat} : (l ++ [x]).getLastD d = x := by simp [List.getLastD_eq_getLast?]
theorem headD_app {l : List Nat} {x d : Nat} : (l ++ [x]).headD d = l.headD x := by cases l <;> simp
theorem hd_up {l : List Nat} {e : Nat} (h : ∀ x ∈ l, x < e) (he : e < 99) : (if e < l.headD 99 then e else l.headD 99) = (l ++ [e]).headD 99 := by
  rw [headD_app]
  cases l with
  | nil => exact if_pos he
  | cons x l =>
    have := h x List.mem_cons_self
    exact if_neg (by show ¬ e < x; omega)
theorem getD_app {l : List Nat} {e i : Nat} (hi : i ≠ l.length) : (l ++ [e]).getD i 99 = l.getD i 99 := by
  rw [List.getD_eq_getElem?_getD, List.getD_eq_getElem?_getD]
  rcases Nat.lt_or_ge i l.length with h | h
  · rw [List.getElem?_append_left h]
  · rw [List.getElem?_eq_none (by rw [List.length_append, List.length_singleton]; omega), List.getElem?_eq_none h]
theorem getD_app2 {l : List Nat} {e : Nat} : (l ++ [e]).getD l.length 99 = e := by
  rw [List.getD_eq_getElem?_getD]; simp
theorem getD_out {l : List Nat} {i : Nat} (h : l.length ≤ i) : l.getD i 99 = 99 := by
  rw [List.getD_eq_getElem?_getD, List.getElem?_eq_none h]; rfl
theorem getD_in {l : List Nat} {e i : Nat} (h : ∀ x ∈ l, x < e) (he : e ≤ 99) (hi : i < l.length) : l.getD i 99 ≠ 99 := by
  rw [List.getD_eq_getElem?_getD, List.getElem?_eq_getElem hi]
  have := h _ (List.getElem_mem hi)
  show l[i] ≠ 99
  omega
theorem ne_lh : ∀ R, R < 5 → ∀ C, C < 4 → ∀ e, e < nE R C → mLow R C e ≠ mHigh R C e := by decide +kernel
theorem ne_oo : ∀ R, R < 5 → ∀ C, C < 4 → ∀ e, e < nE R C → mOne R C e = 99 ∨ mOne R C e ≠ mOther R C e := by decide +kernel
theorem TC_lt {R C e : Nat} {lw hg n1 n2 en fp la cf cl : Nat → Nat} (h : TC R C e lw hg n1 n2 en fp la cf cl) (he : e ≤ 99) : (∀ j, j < 80 → en j < 100) ∧ (∀ j, j < 20 → fp j < 100) ∧ (∀ j, j < 12 → cf j < 100) := by
  obtain ⟨-, -, h3, h4, h5⟩ := h
  have hd : ∀ (l : List Nat), (∀ x ∈ l, x < e) → l.headD 99 < 100 := fun l hl => by
    cases l with
    | nil => show 99 < 100; omega
    | cons x l => have := hl x List.mem_cons_self; show x < 100; omega
  refine ⟨fun j hj => ?_, fun j hj => ?_, fun j hj => ?_⟩
  · have := h3 (j / 4) (j % 4) (by omega) (by omega)
    rw [show 4 * (j / 4) + j % 4 = j by omega] at this
    rw [this]
    rcases Nat.lt_or_ge (j % 4) (incE R C e (j / 4)).length with q | q
    · rw [List.getD_eq_getElem?_getD, List.getElem?_eq_getElem q]
      have := incE_lt (List.getElem_mem q)
      show (incE R C e (j / 4))[j % 4] < 100
      omega
    · rw [getD_out q]; omega
  · rw [(h4 j hj).1]
    split
    · exact hd _ (fun x hx => incE_lt hx)
    · omega
  · rw [(h5 j hj).1]
    exact hd _ (fun x hx => sdsE_lt hx)
/-- a point's slot -/
theorem TC_slot {R C e p : Nat} (hG : GS R C) (he : e < nE R C) {lw hg n1 n2 en fp la cf cl : Nat → Nat} (h : TC R C e lw hg n1 n2 en fp la cf cl) (hp : p < 20) (hpe : mLow R C e = p ∨ mHigh R C e = p) :
    (incE R C e p).length < 4 ∧ en (4 * p + (incE R C e p).length) = 99 ∧ ∀ j, j < (incE R C e p).length → en (4 * p + j) ≠ 99 := by
  have hE := hG.E
  have h1 : (incE R C (e + 1) p).length = (incE R C e p).length + 1 := by
    rw [incE_s, if_pos (by rcases hpe with q | q <;> simp [q]), List.length_append]; rfl
  have h2 := incE_mono (R := R) (C := C) (e := e + 1) (p := p) (nE R C - (e + 1))
  rw [show e + 1 + (nE R C - (e + 1)) = nE R C by omega] at h2
  have h3 := inc4 R (by have := hG.2.1; omega) C (by have := hG.2.2.2; omega) p hp
  have h4 : (incE R C e p).length < 4 := by omega
  refine ⟨h4, ?_, fun j hj => ?_⟩
  · rw [h.2.2.1 p _ hp h4, getD_out (Nat.le_refl _)]
  · rw [h.2.2.1 p j hp (by omega)]
    exact getD_in (fun x hx => incE_lt hx) (by omega) hj
def enJ (R C e : Nat) (en : Nat → Nat) : Nat → Nat := va_up (va_up en (4 * mLow R C e + (incE R C e (mLow R C e)).length) e) (4 * mHigh R C e + (incE R C e (mHigh R C e)).length) e
theorem TC_s {R C e : Nat} (hG : GS R C) (he : e < nE R C) {lw hg n1 n2 en fp la cf cl : Nat → Nat} (h : TC R C e lw hg n1 n2 en fp la cf cl) :
    TC R C (e + 1) (va_up lw e (mLow R C e)) (va_up hg e (mHigh R C e)) (va_up n1 e (mOne R C e)) (va_up n2 e (mOther R C e)) (enJ R C e en) (mtF (mtF fp (mLow R C e) e) (mHigh R C e) e) (va_up (va_up la (mLow R C e) e) (mHigh R C e) e) (bdF (bdF cf (mOne R C e) e) (mOther R C e) e) (bdL (bdL cl (mOne R C e) e) (mOther R C e) e) := by
  have hE := hG.E
  have hP := hG.P
  have hRC := hG.RC
  have h5 : R < 5 := by have := hG.2.1; omega
  have h4 : C < 4 := by have := hG.2.2.2; omega
  have hne := ne_lh R h5 C h4 e he
  have hno := ne_oo R h5 C h4 e he
  have hl := hG.lo he
  have hh := hG.hi he
  have ho1 := hG.one he
  have ho2 := hG.oth he
  obtain ⟨l1, -, -⟩ := TC_slot hG he h (show mLow R C e < 20 by omega) (Or.inl rfl)
  obtain ⟨l2, -, -⟩ := TC_slot hG he h (show mHigh R C e < 20 by omega) (Or.inr rfl)
  obtain ⟨t1, t2, t3, t4, t5⟩ := h
  refine ⟨fun j hj => ?_, fun j hj => ?_, fun p i hp hi => ?_, fun p hp => ?_, fun c hc => ?_⟩
  · by_cases q : j = e
    · subst q
      simp only [va_up_self]
      exact ⟨trivial, trivial, trivial, trivial⟩
    · rw [va_up_ne _ _ q, va_up_ne _ _ q, va_up_ne _ _ q, va_up_ne _ _ q]
      exact t1 j (by omega)
  · rw [va_up_ne _ _ (by omega), va_up_ne _ _ (by omega), va_up_ne _ _ (by omega), va_up_ne _ _ (by omega)]
    exact t2 j (by omega)
  · rw [incE_s]
    by_cases q1 : mLow R C e = p
    · rw [if_pos (by simp [q1])]
      unfold enJ
      rw [va_up_ne _ _ (by omega)]
      rw [q1]
      by_cases q2 : i = (incE R C e p).length
      · subst q2
        rw [va_up_self, getD_app2]
      · rw [va_up_ne _ _ (by omega), t3 p i hp hi, getD_app q2]
    · by_cases q2 : mHigh R C e = p
      · rw [if_pos (by simp [q2])]
        unfold enJ
        rw [q2]
        by_cases q3 : i = (incE R C e p).length
        · subst q3
          rw [va_up_self, getD_app2]
        · rw [va_up_ne _ _ (by omega), va_up_ne _ _ (by omega), t3 p i hp hi, getD_app q3]
      · rw [if_neg (by simp [q1, q2]), List.append_nil]
        unfold enJ
        rw [va_up_ne _ _ (by omega), va_up_ne _ _ (by omega)]
        exact t3 p i hp hi
  · obtain ⟨u1, u2⟩ := t4 p hp
    rw [incE_s]
    unfold mtF
    by_cases q1 : p = mHigh R C e
    · have e0 : (if (mLow R C e == p || mHigh R C e == p) = true then [e] else []) = [e] := if_pos (by simp [q1])
      rw [e0]
      subst q1
      simp only [va_up_self]
      rw [va_up_ne _ _ (fun z => hne z.symm), u1, if_pos hh, hd_up (fun x hx => incE_lt hx) (by omega), getLD_app, if_pos hh]
      exact ⟨rfl, rfl⟩
    · rw [va_up_ne _ _ q1, va_up_ne _ _ q1]
      by_cases q2 : p = mLow R C e
      · have e0 : (if (mLow R C e == p || mHigh R C e == p) = true then [e] else []) = [e] := if_pos (by simp [q2])
        rw [e0]
        subst q2
        simp only [va_up_self]
        rw [u1, if_pos hl, hd_up (fun x hx => incE_lt hx) (by omega), getLD_app, if_pos hl]
        exact ⟨rfl, rfl⟩
      · have e0 : (if (mLow R C e == p || mHigh R C e == p) = true then [e] else []) = [] := if_neg (by simp; exact ⟨fun z => q2 z.symm, fun z => q1 z.symm⟩)
        rw [e0, va_up_ne _ _ q2, va_up_ne _ _ q2, List.append_nil]
        exact ⟨u1, u2⟩
  · obtain ⟨u1, u2⟩ := t5 c hc
    rw [sdsE_s]
    have st : ∀ (f g : Nat → Nat) (x : Nat), f c = (sdsE R C e c).headD 99 → g c = (sdsE R C e c).getLastD 0 → (x = 99 ∨ x < R * C) →
        (x = c → bdF f x e c = (sdsE R C e c ++ [e]).headD 99 ∧ bdL g x e c = (sdsE R C e c ++ [e]).getLastD 0) ∧ (x ≠ c → bdF f x e c = f c ∧ bdL g x e c = g c) := fun f g x hf hg hx => by
      refine ⟨fun q => ?_, fun q => ?_⟩
      · subst q
        unfold bdF bdL
        rw [if_neg (show ¬ x = 99 by omega), if_neg (show ¬ x = 99 by omega), va_up_self, va_up_self, hf, hd_up (fun x hx => sdsE_lt hx) (by omega), getLD_app]
        exact ⟨rfl, rfl⟩
      · unfold bdF bdL
        by_cases q2 : x = 99
        · rw [if_pos q2, if_pos q2]; exact ⟨rfl, rfl⟩
        · rw [if_neg q2, if_neg q2, va_up_ne _ _ (fun z => q z.symm), va_up_ne _ _ (fun z => q z.symm)]; exact ⟨rfl, rfl⟩
    obtain ⟨a1, a2⟩ := st cf cl (mOne R C e) u1 u2 ho1
    by_cases q1 : mOne R C e = c
    · have q2 : mOther R C e ≠ c := fun z => by
        rcases hno with y | y
        · rw [y] at q1; omega
        · exact y (q1.trans z.symm)
      rw [if_pos (by simp [q1])]
      obtain ⟨b1, b2⟩ := a1 q1
      have e1 : bdF (bdF cf (mOne R C e) e) (mOther R C e) e c = bdF cf (mOne R C e) e c := by
        show (if mOther R C e = 99 then bdF cf (mOne R C e) e else _) c = _
        by_cases z : mOther R C e = 99
        · rw [if_pos z]
        · rw [if_neg z, va_up_ne _ _ (fun y => q2 y.symm)]
      have e2 : bdL (bdL cl (mOne R C e) e) (mOther R C e) e c = bdL cl (mOne R C e) e c := by
        show (if mOther R C e = 99 then bdL cl (mOne R C e) e else _) c = _
        by_cases z : mOther R C e = 99
        · rw [if_pos z]
        · rw [if_neg z, va_up_ne _ _ (fun y => q2 y.symm)]
      rw [e1, e2]
      exact ⟨b1, b2⟩
    · obtain ⟨b1, b2⟩ := a2 q1
      obtain ⟨d1, d2⟩ := st (bdF cf (mOne R C e) e) (bdL cl (mOne R C e) e) (mOther R C e) (b1.trans u1) (b2.trans u2) ho2
      by_cases q2 : mOther R C e = c
      · rw [if_pos (by simp [q2])]
        exact d1 q2
      · rw [if_neg (by simp [q1, q2]), List.append_nil]
        obtain ⟨f1, f2⟩ := d2 q2
        exact ⟨f1.trans (b1.trans u1), f2.trans (b2.trans u2)⟩
set_option maxHeartbeats 4000000 in
set_option maxRecDepth 100000 in
theorem k_join (l : Launch) (hfl : l.flags = flags0) (D : va_G) (cI cJ cZ : ClassId) (q : Nat → Nat) (R C : Nat) (hG : GS R C) (ct : Nat) (lw hg n1 n2 en fp la cf cl cu : Nat → Nat) (hct : ct < nE R C) (hT : TC R C ct lw hg n1 n2 en fp la cf cl) : Ct l yX3_join cX3_join 5 none ({ frames := 1, cells := 0, slots := 0, locals := 23 } : Room) D (tys3 cI cJ cZ) (tys3 cI cJ cZ) (wK cI cJ cZ q R C ct lw hg n1 n2 en fp la cf cl cu) [.ref (q 0), .int (nI (mLow R C ct)), .int (nI (mHigh R C ct)), .int (eI (mOne R C ct)), .int (eI (mOther R C ct))] (fun r u => r = none ∧ ∃ lw2 hg2 n12 n22 en2 fp2 la2 cf2 cl2 : Nat → Nat, TC R C (ct + 1) lw2 hg2 n12 n22 en2 fp2 la2 cf2 cl2 ∧ u = wK cI cJ cZ q R C (ct + 1) lw2 hg2 n12 n22 en2 fp2 la2 cf2 cl2 cu) 0 0 := by
  refine Ct.of hfl (by decide) (Nat.le_of_ble_eq_true rfl) ?_
  intro k hR _
  have hR4 := hG.2.1
  have hC3 := hG.2.2.2
  have hR1 := hG.1
  have hC1 := hG.2.2.1
  have hE := hG.E
  have hRC := hG.RC
  have hP := hG.P
  have hl := hG.lo hct
  have hh := hG.hi hct
  have ho1 := hG.one hct
  have ho2 := hG.oth hct
  have hne := ne_lh R (by omega) C (by omega) ct hct
  obtain ⟨a1, a2, a3⟩ := TC_slot hG hct hT (show mLow R C ct < 20 by omega) (Or.inl rfl)
  obtain ⟨b1, b2, b3⟩ := TC_slot hG hct hT (show mHigh R C ct < 20 by omega) (Or.inr rfl)
  obtain ⟨z1, z2, z3⟩ := TC_lt hT (by omega)
  have y1 : ∀ j, j < 80 → va_up en (4 * mLow R C ct + (incE R C ct (mLow R C ct)).length) ct j < 100 := fun j hj => by
    by_cases q9 : j = 4 * mLow R C ct + (incE R C ct (mLow R C ct)).length
    · rw [q9, va_up_self]; omega
    · rw [va_up_ne _ _ q9]; exact z1 j hj
  have y2 : ∀ j, j < 20 → va_up fp (mLow R C ct) (if ct < fp (mLow R C ct) then ct else fp (mLow R C ct)) j < 100 := fun j hj => by
    by_cases q9 : j = mLow R C ct
    · rw [q9, va_up_self]; have := z2 (mLow R C ct) (by omega); split <;> omega
    · rw [va_up_ne _ _ q9]; exact z2 j hj
  have y3 : ∀ j, j < 12 → bdF cf (mOne R C ct) ct j < 100 := fun j hj => by
    unfold bdF
    split
    · exact z3 j hj
    · by_cases q9 : j = mOne R C ct
      · rw [q9, va_up_self]; have := z3 (mOne R C ct) (by omega); split <;> omega
      · rw [va_up_ne _ _ q9]; exact z3 j hj
  show V k l D (tys3 cI cJ cZ) ({ frames := 1, cells := 0, slots := 0, locals := 23 } : Room) cX3_join 5 RX3 (wK cI cJ cZ q R C ct lw hg n1 n2 en fp la cf cl cu) (0) (0) 0 [(0, .ref (q 0)), (1, .int (nI (mLow R C ct))), (2, .int (nI (mHigh R C ct))), (3, .int (eI (mOne R C ct))), (4, .int (eI (mOther R C ct)))] []
  refine j_aload_n dX3_join_0 rfl 0 rfl ?_
  refine gf_X3_7 0 rfl (rfl) dX3_join_1 ?_
  refine j_aload_n dX3_join_4 rfl 0 rfl ?_
  refine gf_X3_93 0 rfl (rfl) dX3_join_5 ?_
  refine j_iload_n dX3_join_8 rfl 1 rfl ?_
  refine jn_iastN (wK cI cJ cZ q R C ct (va_up lw ct (mLow R C ct)) hg n1 n2 en fp la cf cl cu) 1 0 rfl rfl (by omega) (by omega) rfl dX3_join_9 ?_
  refine j_aload_n dX3_join_10 rfl 0 rfl ?_
  refine gf_X3_13 0 rfl (rfl) dX3_join_11 ?_
  refine j_aload_n dX3_join_14 rfl 0 rfl ?_
  refine gf_X3_93 0 rfl (rfl) dX3_join_15 ?_
  refine j_iload_n dX3_join_18 rfl 2 rfl ?_
  refine jn_iastN (wK cI cJ cZ q R C ct (va_up lw ct (mLow R C ct)) (va_up hg ct (mHigh R C ct)) n1 n2 en fp la cf cl cu) 2 0 rfl rfl (by omega) (by omega) rfl dX3_join_19 ?_
  refine j_aload_n dX3_join_20 rfl 0 rfl ?_
  refine gf_X3_16 0 rfl (rfl) dX3_join_21 ?_
  refine j_aload_n dX3_join_24 rfl 0 rfl ?_
  refine gf_X3_93 0 rfl (rfl) dX3_join_25 ?_
  refine j_iload_n dX3_join_28 rfl 3 rfl ?_
  refine jn_iastE (wK cI cJ cZ q R C ct (va_up lw ct (mLow R C ct)) (va_up hg ct (mHigh R C ct)) (va_up n1 ct (mOne R C ct)) n2 en fp la cf cl cu) 3 0 rfl rfl (by omega) (by omega) rfl dX3_join_29 ?_
  refine j_aload_n dX3_join_30 rfl 0 rfl ?_
  refine gf_X3_19 0 rfl (rfl) dX3_join_31 ?_
  refine j_aload_n dX3_join_34 rfl 0 rfl ?_
  refine gf_X3_93 0 rfl (rfl) dX3_join_35 ?_
  refine j_iload dX3_join_38 4 rfl ?_
  refine jn_iastE (wK cI cJ cZ q R C ct (va_up lw ct (mLow R C ct)) (va_up hg ct (mHigh R C ct)) (va_up n1 ct (mOne R C ct)) (va_up n2 ct (mOther R C ct)) en fp la cf cl cu) 4 0 rfl rfl (by omega) (by omega) rfl dX3_join_40 ?_
  refine j_aload_n dX3_join_41 rfl 0 rfl ?_
  refine j_iload_n dX3_join_42 rfl 1 rfl ?_
  refine j_aload_n dX3_join_43 rfl 0 rfl ?_
  refine gf_X3_93 0 rfl (rfl) dX3_join_44 ?_
  refine j_vW (av := [.int (nI (mLow R C ct)), .int (nI (ct))]) (k_meet l hfl D cI cJ cZ q R C hG ct (va_up lw ct (mLow R C ct)) (va_up hg ct (mHigh R C ct)) (va_up n1 ct (mOne R C ct)) (va_up n2 ct (mOther R C ct)) en fp la cf cl cu (mLow R C ct) (ct) ((incE R C ct (mLow R C ct)).length) hl (by omega) a1 a2 a3 z1 z2) 0 rfl rfl mw2_193 mw2_195 msel10 mw1_4 mw2_196 rfl hd_X3_meet rfl ⟨rfl, rfl⟩ ⟨Nat.le_of_ble_eq_true rfl, Nat.le_of_ble_eq_true rfl⟩ ⟨Nat.zero_le _, Nat.zero_le _⟩ (Nat.le_of_ble_eq_true rfl) rfl dX3_join_47 ?_
  rintro _ _ ⟨rfl, rfl⟩
  refine j_st (st' := []) rfl ?_
  refine j_aload_n dX3_join_50 rfl 0 rfl ?_
  refine j_iload_n dX3_join_51 rfl 2 rfl ?_
  refine j_aload_n dX3_join_52 rfl 0 rfl ?_
  refine gf_X3_93 0 rfl (rfl) dX3_join_53 ?_
  refine j_vW (av := [.int (nI (mHigh R C ct)), .int (nI (ct))]) (k_meet l hfl D cI cJ cZ q R C hG ct (va_up lw ct (mLow R C ct)) (va_up hg ct (mHigh R C ct)) (va_up n1 ct (mOne R C ct)) (va_up n2 ct (mOther R C ct)) (va_up en (4 * (mLow R C ct) + ((incE R C ct (mLow R C ct)).length)) ct) (va_up fp (mLow R C ct) (if ct < fp (mLow R C ct) then ct else fp (mLow R C ct))) (va_up la (mLow R C ct) ct) cf cl cu (mHigh R C ct) (ct) ((incE R C ct (mHigh R C ct)).length) hh (by omega) b1 (by rw [va_up_ne _ _ (by omega)]; exact b2) (fun j hj => by rw [va_up_ne _ _ (by omega)]; exact b3 j hj) y1 y2) 0 rfl rfl mw2_193 mw2_195 msel10 mw1_4 mw2_196 rfl hd_X3_meet rfl ⟨rfl, rfl⟩ ⟨Nat.le_of_ble_eq_true rfl, Nat.le_of_ble_eq_true rfl⟩ ⟨Nat.zero_le _, Nat.zero_le _⟩ (Nat.le_of_ble_eq_true rfl) rfl dX3_join_56 ?_
  rintro _ _ ⟨rfl, rfl⟩
  refine j_st (st' := []) rfl ?_
  refine j_aload_n dX3_join_59 rfl 0 rfl ?_
  refine j_iload_n dX3_join_60 rfl 3 rfl ?_
  refine j_aload_n dX3_join_61 rfl 0 rfl ?_
  refine gf_X3_93 0 rfl (rfl) dX3_join_62 ?_
  refine j_vW (av := [.int (eI (mOne R C ct)), .int (nI (ct))]) (k_border l hfl D cI cJ cZ q R C hG ct (va_up lw ct (mLow R C ct)) (va_up hg ct (mHigh R C ct)) (va_up n1 ct (mOne R C ct)) (va_up n2 ct (mOther R C ct)) (va_up (va_up en (4 * (mLow R C ct) + ((incE R C ct (mLow R C ct)).length)) ct) (4 * (mHigh R C ct) + ((incE R C ct (mHigh R C ct)).length)) ct) (va_up (va_up fp (mLow R C ct) (if ct < fp (mLow R C ct) then ct else fp (mLow R C ct))) (mHigh R C ct) (if ct < (va_up fp (mLow R C ct) (if ct < fp (mLow R C ct) then ct else fp (mLow R C ct))) (mHigh R C ct) then ct else (va_up fp (mLow R C ct) (if ct < fp (mLow R C ct) then ct else fp (mLow R C ct))) (mHigh R C ct))) (va_up (va_up la (mLow R C ct) ct) (mHigh R C ct) ct) cf cl cu (mOne R C ct) (ct) ho1 (by omega) z3) 0 rfl rfl mw2_197 mw2_199 msel11 mw1_4 mw2_200 rfl hd_X3_border rfl ⟨rfl, rfl⟩ ⟨Nat.le_of_ble_eq_true rfl, Nat.le_of_ble_eq_true rfl⟩ ⟨Nat.zero_le _, Nat.zero_le _⟩ (Nat.le_of_ble_eq_true rfl) rfl dX3_join_65 ?_
  rintro _ _ ⟨rfl, rfl⟩
  refine j_st (st' := []) rfl ?_
  refine j_aload_n dX3_join_68 rfl 0 rfl ?_
  refine j_iload dX3_join_69 4 rfl ?_
  refine j_aload_n dX3_join_71 rfl 0 rfl ?_
  refine gf_X3_93 0 rfl (rfl) dX3_join_72 ?_
  refine j_vW (av := [.int (eI (mOther R C ct)), .int (nI (ct))]) (k_border l hfl D cI cJ cZ q R C hG ct (va_up lw ct (mLow R C ct)) (va_up hg ct (mHigh R C ct)) (va_up n1 ct (mOne R C ct)) (va_up n2 ct (mOther R C ct)) (va_up (va_up en (4 * (mLow R C ct) + ((incE R C ct (mLow R C ct)).length)) ct) (4 * (mHigh R C ct) + ((incE R C ct (mHigh R C ct)).length)) ct) (va_up (va_up fp (mLow R C ct) (if ct < fp (mLow R C ct) then ct else fp (mLow R C ct))) (mHigh R C ct) (if ct < (va_up fp (mLow R C ct) (if ct < fp (mLow R C ct) then ct else fp (mLow R C ct))) (mHigh R C ct) then ct else (va_up fp (mLow R C ct) (if ct < fp (mLow R C ct) then ct else fp (mLow R C ct))) (mHigh R C ct))) (va_up (va_up la (mLow R C ct) ct) (mHigh R C ct) ct) (bdF cf (mOne R C ct) ct) (bdL cl (mOne R C ct) ct) cu (mOther R C ct) (ct) ho2 (by omega) y3) 0 rfl rfl mw2_197 mw2_199 msel11 mw1_4 mw2_200 rfl hd_X3_border rfl ⟨rfl, rfl⟩ ⟨Nat.le_of_ble_eq_true rfl, Nat.le_of_ble_eq_true rfl⟩ ⟨Nat.zero_le _, Nat.zero_le _⟩ (Nat.le_of_ble_eq_true rfl) rfl dX3_join_75 ?_
  rintro _ _ ⟨rfl, rfl⟩
  refine j_st (st' := []) rfl ?_
  refine j_aload_n dX3_join_78 rfl 0 rfl ?_
  refine j_dup dX3_join_79 rfl ?_
  refine gf_X3_93 0 rfl (rfl) dX3_join_80 ?_
  refine j_iconst (v := nI (1)) dX3_join_83 (by decide) ?_
  refine jn_iadd (v := ct + 1) dX3_join_84 rfl ?_
  refine pf_X3_93 (wK cI cJ cZ q R C (ct + 1) (va_up lw ct (mLow R C ct)) (va_up hg ct (mHigh R C ct)) (va_up n1 ct (mOne R C ct)) (va_up n2 ct (mOther R C ct)) (va_up (va_up en (4 * (mLow R C ct) + ((incE R C ct (mLow R C ct)).length)) ct) (4 * (mHigh R C ct) + ((incE R C ct (mHigh R C ct)).length)) ct) (va_up (va_up fp (mLow R C ct) (if ct < fp (mLow R C ct) then ct else fp (mLow R C ct))) (mHigh R C ct) (if ct < (va_up fp (mLow R C ct) (if ct < fp (mLow R C ct) then ct else fp (mLow R C ct))) (mHigh R C ct) then ct else (va_up fp (mLow R C ct) (if ct < fp (mLow R C ct) then ct else fp (mLow R C ct))) (mHigh R C ct))) (va_up (va_up la (mLow R C ct) ct) (mHigh R C ct) ct) (bdF (bdF cf (mOne R C ct) ct) (mOther R C ct) ct) (bdL (bdL cl (mOne R C ct) ct) (mOther R C ct) ct) cu) 0 rfl (Nat.le_of_ble_eq_true rfl) rfl dX3_join_85 ?_
  exact j_vret (tys' := []) rfl hR dX3_join_88 (⟨rfl, _, _, _, _, _, _, _, _, _, TC_s hG hct hT, rfl⟩)

