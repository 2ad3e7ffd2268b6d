/-! the model: the levels measured -/
theorem Hl_mo {L : List Nat} {n : Nat} {f : Nat → Nat} (h : Hl L n f) (hs : L.Pairwise (· ≤ ·)) : ∀ i j, i ≤ j → j < n → f i ≤ f j := fun i j hij hj => by
  obtain ⟨rfl, h2⟩ := h
  rw [h2 i _ (List.getElem?_eq_getElem (show i < L.length by omega)), h2 j _ (List.getElem?_eq_getElem hj)]
  rcases Nat.lt_or_ge i j with q | q
  · exact List.pairwise_iff_getElem.mp hs i j (by omega) hj q
  · have : i = j := by omega
    subst this
    exact Nat.le_refl _
theorem Hl_lt {L : List Nat} {n : Nat} {f : Nat → Nat} (h : Hl L n f) (hs : ∀ x ∈ L, x < 2 ^ 31) : ∀ j, j < n → f j < 2 ^ 31 := fun j hj => by
  obtain ⟨rfl, h2⟩ := h
  rw [h2 j _ (List.getElem?_eq_getElem hj)]
  exact hs _ (List.getElem_mem hj)
theorem sol_sub {R C : Nat} {cu : Nat → Nat} {L : List Nat} {x : Nat} (h : x ∈ sol R C cu L) : x ∈ L := (List.mem_filter.mp h).1
theorem sol_len {R C : Nat} {cu : Nat → Nat} {L : List Nat} : (sol R C cu L).length ≤ L.length := List.length_filter_le _ _
theorem sol_pw {R C : Nat} {cu : Nat → Nat} {L : List Nat} (h : L.Pairwise (· ≤ ·)) : (sol R C cu L).Pairwise (· ≤ ·) := List.Pairwise.sublist List.filter_sublist h
def ME (R C : Nat) (cu : Nat → Nat) (L : List Nat) (wi us : Nat → Nat) : Prop := ∀ k, k ≤ nE R C → wi k = (Lm R C cu k).length ∧ us k = usM R C cu (sol R C cu L) k
/-- what the model's row of loops keeps to -/
def LO (R C : Nat) (L : List Nat) : Prop := (∀ x ∈ L, x < 2 ^ 31) ∧ L.length ≤ 1300 ∧ L.Pairwise (· ≤ ·)
/-- what the counts of the model keep to -/
def MO (R C : Nat) (cu : Nat → Nat) : Prop := CU R C cu ∧ ∀ k, k ≤ nE R C → (Lm R C cu k).length ≤ 2500
set_option maxHeartbeats 4000000 in
set_option maxRecDepth 100000 in
theorem c_measureLevels (l : Launch) (hfl : l.flags = flags0) (D : va_G) (cI cJ cZ : ClassId) (q : Nat → Nat) (R C : Nat) (hG : GS R C) (th : Nat) (kn me : Bool) (ns he nx dr nl : Nat) (lp cu so wi us ho nh : Nat → Nat) (ke : Nat → Int64) (ta de : Nat → Nat) (se : Nat → Bool) (hJ : MJ R C de se) (hM : MO R C cu) (L : List Nat) (hL : Hl L nl lp) (hLO : LO R C L) (hK : kn = true → Hl (sol R C cu L) ns so) (hMe : kn = true → me = true → ME R C cu L wi us) : Ct l yX3_measureLevels cX3_measureLevels 3 none ({ frames := 7, cells := 0, slots := 0, locals := 164 } : Room) D (tys3 cI cJ cZ) (tys3 cI cJ cZ) (wM cI cJ cZ q R C th kn me ns he nx dr nl lp cu so wi us ho nh ke ta de se) [.ref (q 0)] (fun r u => r = none ∧ ∃ (ns2 : Nat) (so2 wi2 us2 : Nat → Nat) (he2 nx2 : Nat) (ho2 nh2 : Nat → Nat) (ke2 : Nat → Int64) (ta2 de2 : Nat → Nat) (se2 : Nat → Bool), Hl (sol R C cu L) ns2 so2 ∧ ME R C cu L wi2 us2 ∧ MJ R C de2 se2 ∧ u = wM cI cJ cZ q R C th true true ns2 he2 nx2 dr nl lp cu so2 wi2 us2 ho2 nh2 ke2 ta2 de2 se2) 0 0 := by
  refine Ct.of hfl (by decide) (Nat.le_of_ble_eq_true rfl) ?_
  intro k hR _
  have hR4 := hG.2.1
  have hC3 := hG.2.2.2
  have hR1 := hG.1
  have hC1 := hG.2.2.1
  have hE := hG.E
  have hRC := hG.RC
  have hE4 := hG.E4
  have hP := hG.P
  have hold0 : ∀ {j y : Nat}, (Lm R C cu 0)[j]? = some y → (va_up ho 0 0) j = y := fun {j y} h => by
    have h1 := (List.getElem?_eq_some_iff.mp h).1
    have h2 : j = 0 := by simp [Lm] at h1; exact h1
    subst h2
    simp [Lm] at h
    rw [← h]; rfl
  show V k l D (tys3 cI cJ cZ) ({ frames := 7, cells := 0, slots := 0, locals := 164 } : Room) cX3_measureLevels 3 RX3 (wM cI cJ cZ q R C th kn me ns he nx dr nl lp cu so wi us ho nh ke ta de se) 0 0 0 [(0, .ref (q 0))] []
  refine j_aload_n dX3_measureLevels_0 rfl 0 rfl ?_
  refine j_vW (av := []) (c_find l hfl D cI cJ cZ q R C hG th kn me ns he nx dr nl lp cu so wi us ho nh ke ta de se hM.1 L hL hLO.1 hLO.2.1 hK) 0 rfl rfl mw3_133 mw3_135 msel23 mw1_4 mw3_136 rfl hd_X3_find rfl ⟨rfl, rfl⟩ ⟨Nat.le_of_ble_eq_true rfl, Nat.le_of_ble_eq_true rfl⟩ ⟨Nat.zero_le _, Nat.zero_le _⟩ (Nat.le_of_ble_eq_true rfl) rfl dX3_measureLevels_1 ?_
  rintro _ _ ⟨rfl, ns5, so5, hH5, rfl⟩
  refine j_st (st' := []) rfl ?_
  refine j_aload_n dX3_measureLevels_4 rfl 0 rfl ?_
  refine gf_X3_156 0 rfl (rfl) dX3_measureLevels_5 ?_
  refine jb_if_eq (tgt := 12) (b := kn && me) dX3_measureLevels_8 (by decide) (fun c8 => ?_) (fun c8 => ?_)
  · refine j_aload_n dX3_measureLevels_12 rfl 0 rfl ?_
    refine j_iconst (v := nI (1)) dX3_measureLevels_13 (by decide) ?_
    refine j_st (st' := [.int (bI (true)), .ref (q 0)]) (by rfl) ?_
    refine pf_X3_156 (wM cI cJ cZ q R C th true true ns5 he nx dr nl lp cu so5 wi us ho nh ke ta de se) 0 rfl (Nat.le_of_ble_eq_true rfl) (nar_bI _) (fit_bI _) rfl dX3_measureLevels_14 ?_
    refine j_aload_n dX3_measureLevels_17 rfl 0 rfl ?_
    refine j_iconst (v := nI (1)) dX3_measureLevels_18 (by decide) ?_
    refine pf_X3_184 (wM cI cJ cZ q R C th true true ns5 1 nx dr nl lp cu so5 wi us ho nh ke ta de se) 0 rfl (Nat.le_of_ble_eq_true rfl) rfl dX3_measureLevels_19 ?_
    refine j_aload_n dX3_measureLevels_22 rfl 0 rfl ?_
    refine gf_X3_52 0 rfl (rfl) dX3_measureLevels_23 ?_
    refine j_iconst (v := nI (0)) dX3_measureLevels_26 (by decide) ?_
    refine j_iconst (v := nI (0)) dX3_measureLevels_27 (by decide) ?_
    refine jn_iastN (wM cI cJ cZ q R C th true true ns5 1 nx dr nl lp cu so5 wi us (va_up ho 0 0) nh ke ta de se) 15 0 rfl rfl (by omega) (by omega) rfl dX3_measureLevels_28 ?_
    refine j_iconst (v := nI (0)) dX3_measureLevels_29 (by decide) ?_
    refine j_istore_n [(1, .int (nI (0))), (0, .ref (q 0))] dX3_measureLevels_30 rfl (by decide) rfl ?_
    have hn5 := hH5.1
    have hsl := sol_len (R := R) (C := C) (cu := cu) (L := L)
    have hn13 : ns5 ≤ 1300 := by have := hLO.2.1; omega
    have hs31 := Hl_lt hH5 (fun x hx => hLO.1 x (sol_sub hx))
    have hmo := Hl_mo hH5 (sol_pw hLO.2.2)
    refine j_sub [1, 0] [(0, .ref (q 0)), (1, .int (nI (0)))] rfl ?_
    have loop31 : ∀ (n : Nat) (kq he1 nx1 : Nat) (wi1 us1 ho1 nh1 : Nat → Nat) (ke1 : Nat → Int64) (ta1 de1 : Nat → Nat) (se1 : Nat → Bool), (nE R C + 1 < kq + n) → (kq ≤ nE R C + 1) → (Hl (Lm R C cu kq) he1 ho1) → (∀ j, j < kq → wi1 j = (Lm R C cu j).length ∧ us1 j = usM R C cu (sol R C cu L) j) → (MJ R C de1 se1) → V k l D (tys3 cI cJ cZ) ({ frames := 7, cells := 0, slots := 0, locals := 164 } : Room) cX3_measureLevels 3 RX3 (wM cI cJ cZ q R C th true true ns5 he1 nx1 dr nl lp cu so5 wi1 us1 ho1 nh1 ke1 ta1 de1 se1) 0 0 31 [(0, .ref (q 0)), (1, .int (nI (kq)))] [] := by
      intro n
      induction n with
      | zero => intro kq he1 nx1 wi1 us1 ho1 nh1 ke1 ta1 de1 se1 hm hk hHo hwi hJ1; exfalso; omega
      | succ n ih31 =>
        intro kq he1 nx1 wi1 us1 ho1 nh1 ke1 ta1 de1 se1 hm hk hHo hwi hJ1
        refine j_iload_n dX3_measureLevels_31 rfl 1 rfl ?_
        refine j_aload_n dX3_measureLevels_32 rfl 0 rfl ?_
        refine gf_X3_93 0 rfl (rfl) dX3_measureLevels_33 ?_
        refine jn_icmp_gt (tgt := 194) (a := kq) (b := nE R C) (by omega) (by omega) dX3_measureLevels_36 (by decide) (fun c36 => ?_) (fun c36 => ?_)
        · exact j_vret (tys' := []) rfl hR dX3_measureLevels_194 (⟨rfl, ns5, so5, wi1, us1, he1, nx1, ho1, nh1, ke1, ta1, de1, se1, hH5, fun j hj => hwi j (by omega), hJ1, rfl⟩)
        · have hHo1 := hHo.1
          have hcapk := hM.2 kq (by omega)
          have hcap1 : (Lm R C cu (kq + 1)).length ≤ 2500 := by
            rcases Nat.lt_or_ge kq (nE R C) with q9 | q9
            · exact hM.2 (kq + 1) (by omega)
            · simp only [Lm]; rw [if_neg (by omega)]; exact Nat.zero_le _
          refine j_aload_n dX3_measureLevels_39 rfl 0 rfl ?_
          refine gf_X3_46 0 rfl (rfl) dX3_measureLevels_40 ?_
          refine j_iload_n dX3_measureLevels_43 rfl 1 rfl ?_
          refine j_aload_n dX3_measureLevels_44 rfl 0 rfl ?_
          refine gf_X3_184 0 rfl (rfl) dX3_measureLevels_45 ?_
          refine jn_iastN (wM cI cJ cZ q R C th true true ns5 he1 nx1 dr nl lp cu so5 (va_up wi1 kq he1) us1 ho1 nh1 ke1 ta1 de1 se1) 13 0 rfl rfl (by omega) (by omega) rfl dX3_measureLevels_48 ?_
          refine j_aload_n dX3_measureLevels_49 rfl 0 rfl ?_
          refine gf_X3_49 0 rfl (rfl) dX3_measureLevels_50 ?_
          refine j_iload_n dX3_measureLevels_53 rfl 1 rfl ?_
          refine j_iconst (v := nI (0)) dX3_measureLevels_54 (by decide) ?_
          refine jn_iastN (wM cI cJ cZ q R C th true true ns5 he1 nx1 dr nl lp cu so5 (va_up wi1 kq he1) (va_up us1 kq 0) ho1 nh1 ke1 ta1 de1 se1) 14 0 rfl rfl (by omega) (by omega) rfl dX3_measureLevels_55 ?_
          refine j_aload_n dX3_measureLevels_56 rfl 0 rfl ?_
          refine j_vW (av := []) (c_wipe l hfl D cI cJ cZ q R C hG th true true ns5 he1 nx1 dr nl lp cu so5 (va_up wi1 kq he1) (va_up us1 kq 0) ho1 nh1 ke1 ta1 de1 se1) 0 rfl rfl mw3_153 mw3_155 msel27 mw1_4 mw3_156 rfl hd_X3_wipe rfl ⟨rfl, rfl⟩ ⟨Nat.le_of_ble_eq_true rfl, Nat.le_of_ble_eq_true rfl⟩ ⟨Nat.zero_le _, Nat.zero_le _⟩ (Nat.le_of_ble_eq_true rfl) rfl dX3_measureLevels_57 ?_
          rintro _ _ ⟨rfl, ta6, hta6, rfl⟩
          refine j_st (st' := []) rfl ?_
          refine j_iconst (v := nI (0)) dX3_measureLevels_60 (by decide) ?_
          refine j_istore_n [(2, .int (nI (0))), (0, .ref (q 0)), (1, .int (nI (kq)))] dX3_measureLevels_61 rfl (by decide) rfl ?_
          refine j_sub [1, 2, 0] [(0, .ref (q 0)), (1, .int (nI (kq))), (2, .int (nI (0)))] rfl ?_
          have loop62 : ∀ (n : Nat) (i nx2 : Nat) (us2 nh2 : Nat → Nat) (ke2 : Nat → Int64) (ta2 de2 : Nat → Nat) (se2 : Nat → Bool), (he1 < i + n) → (i ≤ he1) → (HT ((offI R C cu kq i).map (fun s => trc R C s (kq + 1) cu)) nx2 ke2 ta2) → (Hl (offI R C cu kq i) nx2 nh2) → (us2 kq = ((Lm R C cu kq).take i).countP (fun S => usf (sol R C cu L) S kq)) → (∀ j, j < kq → us2 j = usM R C cu (sol R C cu L) j) → (MJ R C de2 se2) → V k l D (tys3 cI cJ cZ) ({ frames := 7, cells := 0, slots := 0, locals := 164 } : Room) cX3_measureLevels 3 RX3 (wM cI cJ cZ q R C th true true ns5 he1 nx2 dr nl lp cu so5 (va_up wi1 kq he1) us2 ho1 nh2 ke2 ta2 de2 se2) 0 0 62 [(0, .ref (q 0)), (1, .int (nI (kq))), (2, .int (nI (i)))] [] := by
            intro n
            induction n with
            | zero => intro i nx2 us2 nh2 ke2 ta2 de2 se2 hm2 hi hT hHn hus husj hJ2; exfalso; omega
            | succ n ih62 =>
              intro i nx2 us2 nh2 ke2 ta2 de2 se2 hm2 hi hT hHn hus husj hJ2
              refine j_iload_n dX3_measureLevels_62 rfl 2 rfl ?_
              refine j_aload_n dX3_measureLevels_63 rfl 0 rfl ?_
              refine gf_X3_184 0 rfl (rfl) dX3_measureLevels_64 ?_
              refine jn_icmp_ge (tgt := 152) (a := i) (b := he1) (by omega) (by omega) dX3_measureLevels_67 (by decide) (fun c67 => ?_) (fun c67 => ?_)
              · refine j_aload_n dX3_measureLevels_152 rfl 0 rfl ?_
                refine j_aload_n dX3_measureLevels_153 rfl 0 rfl ?_
                refine gf_X3_178 0 rfl (rfl) dX3_measureLevels_154 ?_
                refine pf_X3_184 (wM cI cJ cZ q R C th true true ns5 nx2 nx2 dr nl lp cu so5 (va_up wi1 kq he1) us2 ho1 nh2 ke2 ta2 de2 se2) 0 rfl (Nat.le_of_ble_eq_true rfl) rfl dX3_measureLevels_157 ?_
                refine j_iconst (v := nI (0)) dX3_measureLevels_160 (by decide) ?_
                refine j_istore_n [(2, .int (nI (0))), (0, .ref (q 0)), (1, .int (nI (kq)))] dX3_measureLevels_161 rfl (by decide) rfl ?_
                have hie : i = (Lm R C cu kq).length := by omega
                rw [hie, offI_e] at hHn
                have hn2 := hHn.1
                have husk : us2 kq = usM R C cu (sol R C cu L) kq := by rw [hus, hie, List.take_length]; rfl
                refine j_sub [1, 2, 0] [(0, .ref (q 0)), (1, .int (nI (kq))), (2, .int (nI (0)))] rfl ?_
                have loop162 : ∀ (n : Nat) (i2 : Nat) (ho2 : Nat → Nat), (nx2 < i2 + n) → (i2 ≤ nx2) → (∀ j, j < i2 → ho2 j = nh2 j) → V k l D (tys3 cI cJ cZ) ({ frames := 7, cells := 0, slots := 0, locals := 164 } : Room) cX3_measureLevels 3 RX3 (wM cI cJ cZ q R C th true true ns5 nx2 nx2 dr nl lp cu so5 (va_up wi1 kq he1) us2 ho2 nh2 ke2 ta2 de2 se2) 0 0 162 [(0, .ref (q 0)), (1, .int (nI (kq))), (2, .int (nI (i2)))] [] := by
                  intro n
                  induction n with
                  | zero => intro i2 ho2 hm3 hi2 hcp; exfalso; omega
                  | succ n ih162 =>
                    intro i2 ho2 hm3 hi2 hcp
                    refine j_iload_n dX3_measureLevels_162 rfl 2 rfl ?_
                    refine j_aload_n dX3_measureLevels_163 rfl 0 rfl ?_
                    refine gf_X3_184 0 rfl (rfl) dX3_measureLevels_164 ?_
                    refine jn_icmp_ge (tgt := 188) (a := i2) (b := nx2) (by omega) (by omega) dX3_measureLevels_167 (by decide) (fun c167 => ?_) (fun c167 => ?_)
                    · have hHo3 : Hl (Lm R C cu (kq + 1)) nx2 ho2 := ⟨hn2, fun j y hj => by rw [hcp j (by have := (List.getElem?_eq_some_iff.mp hj).1; omega)]; exact hHn.2 j y hj⟩
                      have hwi3 : ∀ j, j < kq + 1 → (va_up wi1 kq he1) j = (Lm R C cu j).length ∧ us2 j = usM R C cu (sol R C cu L) j := fun j hj => by
                        by_cases h2 : j = kq
                        · rw [h2, va_up_self]; exact ⟨hHo1, husk⟩
                        · rw [va_up_ne _ _ h2]; exact ⟨(hwi j (by omega)).1, husj j (by omega)⟩
                      refine j_iinc (n0 := 1) (v := nI (kq + 1)) [(1, .int (nI (kq + 1))), (0, .ref (q 0)), (2, .int (nI (i2)))] dX3_measureLevels_188 rfl (by exact nI_add (kq) 1) (by decide) rfl ?_
                      refine j_goto (tgt := 31) dX3_measureLevels_191 (by decide) ?_
                      refine j_sub [1, 0] [(0, .ref (q 0)), (1, .int (nI (kq + 1)))] rfl ?_
                      exact ih31 (kq + 1) nx2 nx2 (va_up wi1 kq he1) us2 ho2 nh2 ke2 ta2 de2 se2 (by omega) (by omega) hHo3 hwi3 hJ2
                    · refine j_aload_n dX3_measureLevels_170 rfl 0 rfl ?_
                      refine gf_X3_52 0 rfl (rfl) dX3_measureLevels_171 ?_
                      refine j_iload_n dX3_measureLevels_174 rfl 2 rfl ?_
                      refine j_aload_n dX3_measureLevels_175 rfl 0 rfl ?_
                      refine gf_X3_55 0 rfl (rfl) dX3_measureLevels_176 ?_
                      refine j_iload_n dX3_measureLevels_179 rfl 2 rfl ?_
                      refine jn_iald (v := nI (nh2 i2)) 16 0 rfl rfl (by omega) (by omega) (rfl) dX3_measureLevels_180 ?_
                      refine jn_iastN (wM cI cJ cZ q R C th true true ns5 nx2 nx2 dr nl lp cu so5 (va_up wi1 kq he1) us2 (va_up ho2 i2 (nh2 i2)) nh2 ke2 ta2 de2 se2) 15 0 rfl rfl (by omega) (by omega) rfl dX3_measureLevels_181 ?_
                      refine j_iinc (n0 := 2) (v := nI (i2 + 1)) [(2, .int (nI (i2 + 1))), (0, .ref (q 0)), (1, .int (nI (kq)))] dX3_measureLevels_182 rfl (by exact nI_add (i2) 1) (by decide) rfl ?_
                      refine j_goto (tgt := 162) dX3_measureLevels_185 (by decide) ?_
                      refine j_sub [1, 2, 0] [(0, .ref (q 0)), (1, .int (nI (kq))), (2, .int (nI (i2 + 1)))] rfl ?_
                      exact ih162 (i2 + 1) (va_up ho2 i2 (nh2 i2)) (by omega) (by omega) (fun j h => if h2 : j = i2 then by rw [h2, va_up_self] else by rw [va_up_ne _ _ h2]; exact hcp j (by omega))
                exact loop162 (nx2 + 2) 0 ho1 (by omega) (by omega) (fun j h => absurd h (by omega))
              · obtain ⟨y, hy⟩ : ∃ y, (Lm R C cu kq)[i]? = some y := ⟨_, List.getElem?_eq_getElem (by omega)⟩
                have hfy : ho1 i = y := hHo.2 i y hy
                have hy31 : ho1 i < 2 ^ 31 := by rw [hfy]; exact Lm_lt y (List.mem_of_getElem? hy)
                have hop1 := pre_len (offI_pre (R := R) (C := C) (cu := cu) (k := kq) (i := i))
                refine j_aload_n dX3_measureLevels_70 rfl 0 rfl ?_
                refine gf_X3_49 0 rfl (rfl) dX3_measureLevels_71 ?_
                refine j_iload_n dX3_measureLevels_74 rfl 1 rfl ?_
                refine j_aload_n dX3_measureLevels_75 rfl 0 rfl ?_
                refine j_aload_n dX3_measureLevels_76 rfl 0 rfl ?_
                refine gf_X3_52 0 rfl (rfl) dX3_measureLevels_77 ?_
                refine j_iload_n dX3_measureLevels_80 rfl 2 rfl ?_
                refine jn_iald (v := nI (ho1 i)) 15 0 rfl rfl (by omega) (by omega) (rfl) dX3_measureLevels_81 ?_
                refine j_iload_n dX3_measureLevels_82 rfl 1 rfl ?_
                refine j_vW (av := [.int (nI (ho1 i)), .int (nI (kq))]) (c_isUseful l hfl D cI cJ cZ q R C hG th true true ns5 he1 nx2 dr nl lp cu so5 (va_up wi1 kq he1) us2 ho1 nh2 ke2 ta2 de2 se2 (sol R C cu L) hH5 hn13 hs31 hmo (ho1 i) (kq) (hy31) (by omega)) 0 rfl rfl mw3_157 mw3_159 msel28 mw1_4 mw3_160 rfl hd_X3_isUseful rfl ⟨rfl, rfl⟩ ⟨Nat.le_of_ble_eq_true rfl, Nat.le_of_ble_eq_true rfl⟩ ⟨Nat.zero_le _, Nat.zero_le _⟩ (Nat.le_of_ble_eq_true rfl) rfl dX3_measureLevels_83 ?_
                rintro _ _ ⟨rfl, rfl⟩
                refine j_st (st' := [.int (bI ((usf (sol R C cu L) (ho1 i) kq))), .int (nI (kq)), .ref (q 22)]) rfl ?_
                refine jb_if_eq (tgt := 100) (b := (usf (sol R C cu L) (ho1 i) kq)) dX3_measureLevels_86 (by decide) (fun c86 => ?_) (fun c86 => ?_)
                · refine j_aload_n dX3_measureLevels_100 rfl 0 rfl ?_
                  refine gf_X3_49 0 rfl (rfl) dX3_measureLevels_101 ?_
                  refine j_iload_n dX3_measureLevels_104 rfl 1 rfl ?_
                  refine jn_iald (v := nI (us2 kq)) 14 0 rfl rfl (by omega) (by omega) (rfl) dX3_measureLevels_105 ?_
                  refine jn_iastN (wM cI cJ cZ q R C th true true ns5 he1 nx2 dr nl lp cu so5 (va_up wi1 kq he1) (va_up us2 kq (us2 kq)) ho1 nh2 ke2 ta2 de2 se2) 14 0 rfl rfl (by omega) (by omega) rfl dX3_measureLevels_106 ?_
                  refine j_iload_n dX3_measureLevels_107 rfl 1 rfl ?_
                  refine j_aload_n dX3_measureLevels_108 rfl 0 rfl ?_
                  refine gf_X3_93 0 rfl (rfl) dX3_measureLevels_109 ?_
                  refine jn_icmp_ge (tgt := 146) (a := kq) (b := nE R C) (by omega) (by omega) dX3_measureLevels_112 (by decide) (fun c112 => ?_) (fun c112 => ?_)
                  · have hoi : offI R C cu kq (i + 1) = offI R C cu kq i := by unfold offI; rw [if_neg (by omega), if_neg (by omega)]
                    refine j_iinc (n0 := 2) (v := nI (i + 1)) [(2, .int (nI (i + 1))), (0, .ref (q 0)), (1, .int (nI (kq)))] dX3_measureLevels_146 rfl (by exact nI_add (i) 1) (by decide) rfl ?_
                    refine j_goto (tgt := 62) dX3_measureLevels_149 (by decide) ?_
                    refine j_sub [1, 2, 0] [(0, .ref (q 0)), (1, .int (nI (kq))), (2, .int (nI (i + 1)))] rfl ?_
                    have hus3 : (va_up us2 kq (us2 kq)) kq = ((Lm R C cu kq).take (i + 1)).countP (fun S => usf (sol R C cu L) S kq) := by rw [va_up_self, cP_take hy, hus, if_neg (by rw [hfy] at c86; rw [c86]; decide)]; rfl
                    exact ih62 (i + 1) nx2 (va_up us2 kq (us2 kq)) nh2 ke2 ta2 de2 se2 (by omega) (by omega) (by rw [hoi]; exact hT) (by rw [hoi]; exact hHn) hus3 (fun j hj => by rw [va_up_ne _ _ (by omega)]; exact husj j hj) hJ2
                  · have hos := offI_s c112 hy
                    have hop2 := pre_len (offI_pre (R := R) (C := C) (cu := cu) (k := kq) (i := i + 1))
                    rw [hos, ← hfy] at hop2
                    have hop3 := pre_len (offK_pre R C cu (kq + 1) (offK R C cu (kq + 1) (offI R C cu kq i) (ho1 i)) (ho1 i ||| 2 ^ (30 - kq)))
                    refine j_aload_n dX3_measureLevels_115 rfl 0 rfl ?_
                    refine j_aload_n dX3_measureLevels_116 rfl 0 rfl ?_
                    refine gf_X3_52 0 rfl (rfl) dX3_measureLevels_117 ?_
                    refine j_iload_n dX3_measureLevels_120 rfl 2 rfl ?_
                    refine jn_iald (v := nI (ho1 i)) 15 0 rfl rfl (by omega) (by omega) (rfl) dX3_measureLevels_121 ?_
                    refine j_iload_n dX3_measureLevels_122 rfl 1 rfl ?_
                    refine j_iconst (v := nI (1)) dX3_measureLevels_123 (by decide) ?_
                    refine jn_iadd (v := kq + 1) dX3_measureLevels_124 rfl ?_
                    refine j_vW (av := [.int (nI (ho1 i)), .int (nI (kq + 1))]) (c_offer l hfl D cI cJ cZ q R C hG th true true ns5 he1 nx2 dr nl lp cu so5 (va_up wi1 kq he1) (va_up us2 kq (us2 kq)) ho1 nh2 ke2 ta2 de2 se2 hJ2 hM.1 (ho1 i) (kq + 1) (hy31) (by omega) (offI R C cu kq i) hT hHn (by omega) (by omega)) 0 rfl rfl mw3_161 mw3_163 msel29 mw1_4 mw3_164 rfl hd_X3_offer rfl ⟨rfl, rfl⟩ ⟨Nat.le_of_ble_eq_true rfl, Nat.le_of_ble_eq_true rfl⟩ ⟨Nat.zero_le _, Nat.zero_le _⟩ (Nat.le_of_ble_eq_true rfl) rfl dX3_measureLevels_125 ?_
                    rintro _ _ ⟨rfl, nx7, nh7, ke7, ta7, de7, se7, hT7, hH7, hJ7, rfl⟩
                    refine j_st (st' := []) rfl ?_
                    refine j_aload_n dX3_measureLevels_128 rfl 0 rfl ?_
                    refine j_aload_n dX3_measureLevels_129 rfl 0 rfl ?_
                    refine gf_X3_52 0 rfl (rfl) dX3_measureLevels_130 ?_
                    refine j_iload_n dX3_measureLevels_133 rfl 2 rfl ?_
                    refine jn_iald (v := nI (ho1 i)) 15 0 rfl rfl (by omega) (by omega) (rfl) dX3_measureLevels_134 ?_
                    refine j_iload_n dX3_measureLevels_135 rfl 1 rfl ?_
                    refine j_s0 (av := [.int (nI (kq))]) (r0 := .int (nI (2 ^ (30 - kq)))) (c_bit l hfl D (tys3 cI cJ cZ) (kq) (by omega)) mw2_209 mw2_210 mw1_4 mw2_211 hd_X3_bit rfl ⟨rfl, rfl⟩ ⟨Nat.le_of_ble_eq_true rfl, Nat.le_of_ble_eq_true rfl⟩ ⟨Nat.zero_le _, Nat.zero_le _⟩ (Nat.le_of_ble_eq_true rfl) rfl dX3_measureLevels_136 ?_
                    refine j_ior dX3_measureLevels_139 rfl ?_
                    refine j_topi (y := nI (ho1 i ||| 2 ^ (30 - kq))) (nb_or _ _) ?_
                    refine j_iload_n dX3_measureLevels_140 rfl 1 rfl ?_
                    refine j_iconst (v := nI (1)) dX3_measureLevels_141 (by decide) ?_
                    refine jn_iadd (v := kq + 1) dX3_measureLevels_142 rfl ?_
                    refine j_vW (av := [.int (nI (ho1 i ||| 2 ^ (30 - kq))), .int (nI (kq + 1))]) (c_offer l hfl D cI cJ cZ q R C hG th true true ns5 he1 nx7 dr nl lp cu so5 (va_up wi1 kq he1) (va_up us2 kq (us2 kq)) ho1 nh7 ke7 ta7 de7 se7 hJ7 hM.1 (ho1 i ||| 2 ^ (30 - kq)) (kq + 1) (Nat.or_lt_two_pow hy31 (p30 kq)) (by omega) (offK R C cu (kq + 1) (offI R C cu kq i) (ho1 i)) hT7 hH7 (by omega) (by omega)) 0 rfl rfl mw3_161 mw3_163 msel29 mw1_4 mw3_164 rfl hd_X3_offer rfl ⟨rfl, rfl⟩ ⟨Nat.le_of_ble_eq_true rfl, Nat.le_of_ble_eq_true rfl⟩ ⟨Nat.zero_le _, Nat.zero_le _⟩ (Nat.le_of_ble_eq_true rfl) rfl dX3_measureLevels_143 ?_
                    rintro _ _ ⟨rfl, nx8, nh8, ke8, ta8, de8, se8, hT8, hH8, hJ8, rfl⟩
                    refine j_st (st' := []) rfl ?_
                    rw [← hfy] at hos
                    rw [← hos] at hT8 hH8
                    refine j_iinc (n0 := 2) (v := nI (i + 1)) [(2, .int (nI (i + 1))), (0, .ref (q 0)), (1, .int (nI (kq)))] dX3_measureLevels_146 rfl (by exact nI_add (i) 1) (by decide) rfl ?_
                    refine j_goto (tgt := 62) dX3_measureLevels_149 (by decide) ?_
                    refine j_sub [1, 2, 0] [(0, .ref (q 0)), (1, .int (nI (kq))), (2, .int (nI (i + 1)))] rfl ?_
                    have hus3 : (va_up us2 kq (us2 kq)) kq = ((Lm R C cu kq).take (i + 1)).countP (fun S => usf (sol R C cu L) S kq) := by rw [va_up_self, cP_take hy, hus, if_neg (by rw [hfy] at c86; rw [c86]; decide)]; rfl
                    exact ih62 (i + 1) nx8 (va_up us2 kq (us2 kq)) nh8 ke8 ta8 de8 se8 (by omega) (by omega) hT8 hH8 hus3 (fun j hj => by rw [va_up_ne _ _ (by omega)]; exact husj j hj) hJ8
                · refine j_aload_n dX3_measureLevels_89 rfl 0 rfl ?_
                  refine gf_X3_49 0 rfl (rfl) dX3_measureLevels_90 ?_
                  refine j_iload_n dX3_measureLevels_93 rfl 1 rfl ?_
                  refine jn_iald (v := nI (us2 kq)) 14 0 rfl rfl (by omega) (by omega) (rfl) dX3_measureLevels_94 ?_
                  refine j_iconst (v := nI (1)) dX3_measureLevels_95 (by decide) ?_
                  refine jn_iadd (v := (us2 kq) + 1) dX3_measureLevels_96 rfl ?_
                  refine j_goto (tgt := 106) dX3_measureLevels_97 (by decide) ?_
                  refine jn_iastN (wM cI cJ cZ q R C th true true ns5 he1 nx2 dr nl lp cu so5 (va_up wi1 kq he1) (va_up us2 kq ((us2 kq) + 1)) ho1 nh2 ke2 ta2 de2 se2) 14 0 rfl rfl (by omega) (by omega) rfl dX3_measureLevels_106 ?_
                  refine j_iload_n dX3_measureLevels_107 rfl 1 rfl ?_
                  refine j_aload_n dX3_measureLevels_108 rfl 0 rfl ?_
                  refine gf_X3_93 0 rfl (rfl) dX3_measureLevels_109 ?_
                  refine jn_icmp_ge (tgt := 146) (a := kq) (b := nE R C) (by omega) (by omega) dX3_measureLevels_112 (by decide) (fun c112 => ?_) (fun c112 => ?_)
                  · have hoi : offI R C cu kq (i + 1) = offI R C cu kq i := by unfold offI; rw [if_neg (by omega), if_neg (by omega)]
                    refine j_iinc (n0 := 2) (v := nI (i + 1)) [(2, .int (nI (i + 1))), (0, .ref (q 0)), (1, .int (nI (kq)))] dX3_measureLevels_146 rfl (by exact nI_add (i) 1) (by decide) rfl ?_
                    refine j_goto (tgt := 62) dX3_measureLevels_149 (by decide) ?_
                    refine j_sub [1, 2, 0] [(0, .ref (q 0)), (1, .int (nI (kq))), (2, .int (nI (i + 1)))] rfl ?_
                    have hus3 : (va_up us2 kq ((us2 kq) + 1)) kq = ((Lm R C cu kq).take (i + 1)).countP (fun S => usf (sol R C cu L) S kq) := by rw [va_up_self, cP_take hy, hus, if_pos (by rw [hfy] at c86; exact c86)]
                    exact ih62 (i + 1) nx2 (va_up us2 kq ((us2 kq) + 1)) nh2 ke2 ta2 de2 se2 (by omega) (by omega) (by rw [hoi]; exact hT) (by rw [hoi]; exact hHn) hus3 (fun j hj => by rw [va_up_ne _ _ (by omega)]; exact husj j hj) hJ2
                  · have hos := offI_s c112 hy
                    have hop2 := pre_len (offI_pre (R := R) (C := C) (cu := cu) (k := kq) (i := i + 1))
                    rw [hos, ← hfy] at hop2
                    have hop3 := pre_len (offK_pre R C cu (kq + 1) (offK R C cu (kq + 1) (offI R C cu kq i) (ho1 i)) (ho1 i ||| 2 ^ (30 - kq)))
                    refine j_aload_n dX3_measureLevels_115 rfl 0 rfl ?_
                    refine j_aload_n dX3_measureLevels_116 rfl 0 rfl ?_
                    refine gf_X3_52 0 rfl (rfl) dX3_measureLevels_117 ?_
                    refine j_iload_n dX3_measureLevels_120 rfl 2 rfl ?_
                    refine jn_iald (v := nI (ho1 i)) 15 0 rfl rfl (by omega) (by omega) (rfl) dX3_measureLevels_121 ?_
                    refine j_iload_n dX3_measureLevels_122 rfl 1 rfl ?_
                    refine j_iconst (v := nI (1)) dX3_measureLevels_123 (by decide) ?_
                    refine jn_iadd (v := kq + 1) dX3_measureLevels_124 rfl ?_
                    refine j_vW (av := [.int (nI (ho1 i)), .int (nI (kq + 1))]) (c_offer l hfl D cI cJ cZ q R C hG th true true ns5 he1 nx2 dr nl lp cu so5 (va_up wi1 kq he1) (va_up us2 kq ((us2 kq) + 1)) ho1 nh2 ke2 ta2 de2 se2 hJ2 hM.1 (ho1 i) (kq + 1) (hy31) (by omega) (offI R C cu kq i) hT hHn (by omega) (by omega)) 0 rfl rfl mw3_161 mw3_163 msel29 mw1_4 mw3_164 rfl hd_X3_offer rfl ⟨rfl, rfl⟩ ⟨Nat.le_of_ble_eq_true rfl, Nat.le_of_ble_eq_true rfl⟩ ⟨Nat.zero_le _, Nat.zero_le _⟩ (Nat.le_of_ble_eq_true rfl) rfl dX3_measureLevels_125 ?_
                    rintro _ _ ⟨rfl, nx7, nh7, ke7, ta7, de7, se7, hT7, hH7, hJ7, rfl⟩
                    refine j_st (st' := []) rfl ?_
                    refine j_aload_n dX3_measureLevels_128 rfl 0 rfl ?_
                    refine j_aload_n dX3_measureLevels_129 rfl 0 rfl ?_
                    refine gf_X3_52 0 rfl (rfl) dX3_measureLevels_130 ?_
                    refine j_iload_n dX3_measureLevels_133 rfl 2 rfl ?_
                    refine jn_iald (v := nI (ho1 i)) 15 0 rfl rfl (by omega) (by omega) (rfl) dX3_measureLevels_134 ?_
                    refine j_iload_n dX3_measureLevels_135 rfl 1 rfl ?_
                    refine j_s0 (av := [.int (nI (kq))]) (r0 := .int (nI (2 ^ (30 - kq)))) (c_bit l hfl D (tys3 cI cJ cZ) (kq) (by omega)) mw2_209 mw2_210 mw1_4 mw2_211 hd_X3_bit rfl ⟨rfl, rfl⟩ ⟨Nat.le_of_ble_eq_true rfl, Nat.le_of_ble_eq_true rfl⟩ ⟨Nat.zero_le _, Nat.zero_le _⟩ (Nat.le_of_ble_eq_true rfl) rfl dX3_measureLevels_136 ?_
                    refine j_ior dX3_measureLevels_139 rfl ?_
                    refine j_topi (y := nI (ho1 i ||| 2 ^ (30 - kq))) (nb_or _ _) ?_
                    refine j_iload_n dX3_measureLevels_140 rfl 1 rfl ?_
                    refine j_iconst (v := nI (1)) dX3_measureLevels_141 (by decide) ?_
                    refine jn_iadd (v := kq + 1) dX3_measureLevels_142 rfl ?_
                    refine j_vW (av := [.int (nI (ho1 i ||| 2 ^ (30 - kq))), .int (nI (kq + 1))]) (c_offer l hfl D cI cJ cZ q R C hG th true true ns5 he1 nx7 dr nl lp cu so5 (va_up wi1 kq he1) (va_up us2 kq ((us2 kq) + 1)) ho1 nh7 ke7 ta7 de7 se7 hJ7 hM.1 (ho1 i ||| 2 ^ (30 - kq)) (kq + 1) (Nat.or_lt_two_pow hy31 (p30 kq)) (by omega) (offK R C cu (kq + 1) (offI R C cu kq i) (ho1 i)) hT7 hH7 (by omega) (by omega)) 0 rfl rfl mw3_161 mw3_163 msel29 mw1_4 mw3_164 rfl hd_X3_offer rfl ⟨rfl, rfl⟩ ⟨Nat.le_of_ble_eq_true rfl, Nat.le_of_ble_eq_true rfl⟩ ⟨Nat.zero_le _, Nat.zero_le _⟩ (Nat.le_of_ble_eq_true rfl) rfl dX3_measureLevels_143 ?_
                    rintro _ _ ⟨rfl, nx8, nh8, ke8, ta8, de8, se8, hT8, hH8, hJ8, rfl⟩
                    refine j_st (st' := []) rfl ?_
                    rw [← hfy] at hos
                    rw [← hos] at hT8 hH8
                    refine j_iinc (n0 := 2) (v := nI (i + 1)) [(2, .int (nI (i + 1))), (0, .ref (q 0)), (1, .int (nI (kq)))] dX3_measureLevels_146 rfl (by exact nI_add (i) 1) (by decide) rfl ?_
                    refine j_goto (tgt := 62) dX3_measureLevels_149 (by decide) ?_
                    refine j_sub [1, 2, 0] [(0, .ref (q 0)), (1, .int (nI (kq))), (2, .int (nI (i + 1)))] rfl ?_
                    have hus3 : (va_up us2 kq ((us2 kq) + 1)) kq = ((Lm R C cu kq).take (i + 1)).countP (fun S => usf (sol R C cu L) S kq) := by rw [va_up_self, cP_take hy, hus, if_pos (by rw [hfy] at c86; exact c86)]
                    exact ih62 (i + 1) nx8 (va_up us2 kq ((us2 kq) + 1)) nh8 ke8 ta8 de8 se8 (by omega) (by omega) hT8 hH8 hus3 (fun j hj => by rw [va_up_ne _ _ (by omega)]; exact husj j hj) hJ8
          exact loop62 (he1 + 2) 0 0 (va_up us1 kq 0) nh1 ke1 ta6 de1 se1 (by omega) (by omega) (by rw [offI_0]; exact HT_nil hta6) (by rw [offI_0]; exact ⟨rfl, fun j y h => by simp at h⟩) (by rw [va_up_self]; rfl) (fun j hj => by rw [va_up_ne _ _ (by omega)]; exact (hwi j hj).2) hJ1
    exact loop31 (nE R C + 3) 0 1 nx wi us (va_up ho 0 0) nh ke ta de se (by omega) (by omega) ⟨rfl, fun j y h => hold0 h⟩ (fun j h => absurd h (by omega)) hJ
  · exact j_vret (tys' := []) rfl hR dX3_measureLevels_11 (⟨rfl, ns5, so5, wi, us, he, nx, ho, nh, ke, ta, de, se, hH5, hMe (by revert c8; cases kn <;> simp) (by revert c8; cases kn <;> simp), hJ, by rw [c8]⟩)

