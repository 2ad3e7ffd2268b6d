/-! the law, call by call -/
/-- a set of edges as the model holds it -/
def rvA (d : Nat) : Nat → Nat
  | 0 => 0
  | e + 1 => rvA d e + (if d.testBit e then 2 ^ (30 - e) else 0)
def rv (d : Nat) : Nat := rvA d 31
/-- what class and model agree in, for the clues cu -/
def MthC (R C : Nat) (LL : List Nat) (cu : Nat → Nat) : Prop :=
  XOK R C cu ∧ MO R C cu ∧ WS R C cu 0 (nE R C) 0 1672 = (sol R C cu LL).length ∧
  (∀ k, k ≤ nE R C → (LvS R C cu k).length = (Lm R C cu k).length ∧ usA R C cu k (LvS R C cu k).length = usM R C cu (sol R C cu LL) k) ∧
  (∀ j y, (sol R C cu LL)[j]? = some y → solI R C cu (nI j) ≠ 0 ∧ solI R C cu (nI j) < 2 ^ nE R C ∧ rv (solI R C cu (nI j)) = y) ∧
  (∀ d, d < 2 ^ nE R C → WS R C cu d (nE R C) 0 1672 = wall (sol R C cu LL) (rv d) ∧ (∀ k, rkA R C cu d (nE R C) 0 1672 0 = some k → (sol R C cu LL)[k]? = some (rv d)) ∧
    (rkA R C cu d (nE R C) 0 1672 0 = none → rv d ∉ sol R C cu LL) ∧ alA R C cu d (nE R C) 0 1672 = mAl R C (rv d) cu (nE R C))
def Mth (R C : Nat) (LL : List Nat) : Prop :=
  LO R C LL ∧ LL.Nodup ∧ (∀ d, d < 2 ^ nE R C → rv d < 2 ^ 31 ∧ pop d 32 = szA (rv d) (nE R C) ∧ ilA R C d (nE R C) 0 1672 = ilS R C (rv d)) ∧
  (∀ d e, d < 2 ^ nE R C → e < nE R C → rv (d ^^^ 2 ^ e) = rv d ^^^ 2 ^ (30 - e) ∧ isI (rv d) e = d.testBit e) ∧ (∀ e, e < nE R C → rv (2 ^ e) = 2 ^ (30 - e)) ∧
  ∀ cu, CU R C cu → MthC R C LL cu
def wZ (cI cJ cZ : ClassId) (qo : Nat) (qx qm : Nat → Nat) (R C : Nat) (ov : Nat → Int64) (dr sz : Nat) (sa : Bool) (cu fi st : Nat → Nat) (lo hi : Nat → Option Nat) (wa sw : Nat → Nat)
    (mth : Nat) (mkn mme : Bool) (mns mhe mnx mdr mnl : Nat) (mlp mcu mso mwi mus mho mnh : Nat → Nat) (mke : Nat → Int64) (mta mde : Nat → Nat) (mse : Nat → Bool) : va_W :=
  wO cI cJ cZ qo qx R C ov dr sz sa cu fi st lo hi wa sw ++ wM cI cJ cZ qm R C mth mkn mme mns mhe mnx mdr mnl mlp mcu mso mwi mus mho mnh mke mta mde mse
theorem solI_x {R C : Nat} {cu : Nat → Nat} {n : Nat} {x : Int32} (hn : n < 2 ^ 31) (hw : WS R C cu 0 (nE R C) 0 1672 = n) (h : inB n x = false) : solI R C cu x = 0 := by
  unfold solI
  split
  · rfl
  · rename_i h0
    rw [hw]
    rcases pk_ix x hn with h1 | h1 | ⟨j, hj, rfl⟩
    · exact absurd h1 h0
    · split
      · rename_i h2
        exfalso
        have h3 := Int32.le_iff_toInt_le.mp h1
        rw [nI_toInt hn] at h3
        have h4 : x.toNatClampNeg = x.toInt.toNat := rfl
        omega
      · rfl
    · rw [inB_t hn hj] at h; cases h
theorem nodup_ix {l : List Nat} (h : l.Nodup) {i j y : Nat} (hi : l[i]? = some y) (hj : l[j]? = some y) : i = j := by
  obtain ⟨h1, h2⟩ := List.getElem?_eq_some_iff.mp hi
  obtain ⟨h3, h4⟩ := List.getElem?_eq_some_iff.mp hj
  exact (List.getElem_inj h).mp (h2.trans h4.symm)
theorem off_nd {R C : Nat} {cu : Nat → Nat} (h : ∀ k, k ≤ nE R C → (LvS R C cu k).length = (Lm R C cu k).length) : ∀ i, i ≤ nE R C + 1 → off R C cu i = ndA R C cu i
  | 0, _ => rfl
  | i + 1, hi => by
    show off R C cu i + (LvS R C cu i).length = ndA R C cu i + (Lm R C cu i).length
    rw [off_nd h i (by omega), h i (by omega)]
theorem sp_eq {R C : Nat} {LL : List Nat} {cu : Nat → Nat} (hcu : CU R C cu) (h : ∀ c2, CU R C c2 → WS R C c2 0 (nE R C) 0 1672 = (sol R C c2 LL).length) : ∀ i, spX R C cu i = spS R C LL cu i
  | 0 => rfl
  | i + 1 => by
    have ih := sp_eq hcu h i
    have h2 := h _ (CU_up (i := i) (v := 99) (spX_CU hcu i) (Or.inl rfl))
    simp only [spX, spS]
    rw [h2, ih]
    by_cases c1 : (spS R C LL cu i).1 i = 99
    · rw [if_pos c1, if_neg (fun z => z.1 c1), va_up_id c1]
    · rw [if_neg c1]
      by_cases c2 : (sol R C (va_up (spS R C LL cu i).1 i 99) LL).length = 1
      · rw [if_pos c2, if_neg (fun z => z.2 c2)]
      · rw [if_neg c2, if_pos ⟨c1, c2⟩]
set_option maxHeartbeats 8000000 in
set_option maxRecDepth 100000 in
theorem l_edges {k : VK} (l : Launch) (hfl : l.flags = flags0) (D : va_G) (cI cJ cZ : ClassId) (qo : Nat) (qx qm : Nat → Nat) (R C : Nat) (hG : GS R C) (LL : List Nat) (hMt : Mth R C LL) (b L : Nat) (xs : Nat → Int32) (hL : L ≤ 258) (hX : SX k b L xs) (hZ : ZX k.2.2.1.1 k.1.2.2.1 k.2.2.1.2) (i cs ss : Nat) (hi : i + 4 ≤ L) (hcs : cs ≤ 10000) (hss : ss ≤ 100000) (ov : Nat → Int64) (dr sz : Nat) (sa : Bool) (cu fi st : Nat → Nat) (lo hi_ : Nat → Option Nat) (wa sw : Nat → Nat) (mth : Nat) (mkn mme : Bool) (mns mhe mnx mnl : Nat) (mlp mso mwi mus mho mnh : Nat → Nat) (mke : Nat → Int64) (mta mde : Nat → Nat) (mse : Nat → Bool) (hd : dr < 2 ^ nE R C) (hcu : CU R C cu) (hIx : XI0 R C cu sa sz fi st lo hi_ wa dr) (hIm : MI R C LL cu mkn mme mns mnl mlp mso mwi mus mde mse (rv dr))  (hk : ∀ (ov2 : Nat → Int64) (th2 d2 : Nat) (cu2 : Nat → Nat) (u1 u2 : va_W), d2 < 2 ^ nE R C → CU R C cu2 → OW cI cJ cZ qo qx R C ov2 d2 cu2 u1 → MW cI cJ cZ qm R C LL th2 (rv d2) cu2 u2 → V k l D (tys3 cI cJ cZ) room_1 cL_law 7 RL (u1 ++ u2) (cs + 1) (ss + 6) 905 [(0, .ref (b)), (1, .ref (qx 0)), (2, .ref (qm 0)), (3, .ref (qo)), (4, .int (nI (i)))] []) : V k l D (tys3 cI cJ cZ) room_1 cL_law 7 RL (wZ cI cJ cZ qo qx qm R C ov dr sz sa cu fi st lo hi_ wa sw mth mkn mme mns mhe mnx (rv dr) mnl mlp cu mso mwi mus mho mnh mke mta mde mse) (cs) (ss) 144 [(0, .ref (b)), (1, .ref (qx 0)), (2, .ref (qm 0)), (3, .ref (qo)), (4, .int (nI (i)))] [] := by
  obtain ⟨hLO, hND, hA, hB, hB2, hCc⟩ := hMt
  obtain ⟨hx, hMo, hA1, hA2, hA6, hA8⟩ := hCc cu hcu
  have hE := hG.E
  obtain ⟨hr31, hpop, hil⟩ := hA dr hd
  refine j_aload_n dL_law_144 rfl 1 rfl ?_
  refine j_callV (mc := 0) (ms := 0) (wc := wX cI cZ qx R C dr sz sa cu fi st lo hi_ wa sw) (wr := (qo, .inl (cJ, 1, .inr (.inl ov))) :: wM cI cJ cZ qm R C mth mkn mme mns mhe mnx (rv dr) mnl mlp cu mso mwi mus mho mnh mke mta mde mse) (tys3 := tys3 cI cJ cZ) (av := []) (rest := []) (c_edges l hfl D cI cJ cZ qx R C hG dr sz sa cu fi st lo hi_ wa sw ) 1 rfl rfl mw1_106 mw1_107 mw1_108 mw1_1 mw1_109 ⟨rfl, hd_X2_edges⟩ rfl ⟨rfl, rfl⟩ ⟨Nat.le_of_ble_eq_true rfl, Nat.le_of_ble_eq_true rfl⟩ (⟨show cs + 0 ≤ 600128 by omega, show ss + 0 ≤ 7301064 by omega⟩) (Nat.le_of_ble_eq_true rfl) [1, 2, 3, 4, 5, 6, 7, 8, 9, 10, 11, 12, 13] [0, 14, 15, 16, 17, 18, 19, 20, 21, 22, 23, 24, 25, 26, 27, 28, 29, 30, 31, 32, 33, 34] rfl rfl rfl rfl (by decide) (fun _ h _ => h) rfl dL_law_145 ?_
  rintro _ _ ⟨rfl, rfl⟩
  refine j_cut (w2 := wZ cI cJ cZ qo qx qm R C ov dr sz sa cu fi st lo hi_ wa sw mth mkn mme mns mhe mnx (rv dr) mnl mlp cu mso mwi mus mho mnh mke mta mde mse) [0, 22, 23, 24, 25, 26, 27, 28, 29, 30, 31, 32, 33, 34, 1, 2, 3, 4, 5, 6, 7, 8, 9, 10, 11, 12, 13, 14, 15, 16, 17, 18, 19, 20, 21] rfl rfl ?_
  show V k l D (tys3 cI cJ cZ) room_1 cL_law 7 RL (wZ cI cJ cZ qo qx qm R C ov dr sz sa cu fi st lo hi_ wa sw mth mkn mme mns mhe mnx (rv dr) mnl mlp cu mso mwi mus mho mnh mke mta mde mse) (cs) (ss) 148 [(0, .ref (b)), (1, .ref (qx 0)), (2, .ref (qm 0)), (3, .ref (qo)), (4, .int (nI (i)))] [.int (nI (nE R C))]
  refine j_aload_n dL_law_148 rfl 2 rfl ?_
  refine j_callV (mc := 0) (ms := 0) (wc := wM cI cJ cZ qm R C mth mkn mme mns mhe mnx (rv dr) mnl mlp cu mso mwi mus mho mnh mke mta mde mse) (wr := wO cI cJ cZ qo qx R C ov dr sz sa cu fi st lo hi_ wa sw) (tys3 := tys3 cI cJ cZ) (av := []) (rest := [.int (nI (nE R C))]) (cm_edges l hfl D cI cJ cZ qm R C hG mth mkn mme mns mhe mnx (rv dr) mnl mlp cu mso mwi mus mho mnh mke mta mde mse LL hLO hMo hIm ) 14 rfl rfl mw3_109 mw3_110 mw3_111 mw1_4 mw3_112 ⟨rfl, hd_X3_edges⟩ rfl ⟨rfl, rfl⟩ ⟨Nat.le_of_ble_eq_true rfl, Nat.le_of_ble_eq_true rfl⟩ (⟨show cs + 0 ≤ 600128 by omega, show ss + 0 ≤ 7301064 by omega⟩) (Nat.le_of_ble_eq_true rfl) [14, 15, 16, 17, 18, 19, 20, 21, 22, 23, 24, 25, 26, 27, 28, 29, 30, 31, 32, 33, 34] [0, 1, 2, 3, 4, 5, 6, 7, 8, 9, 10, 11, 12, 13] rfl rfl rfl rfl (by decide) (fun _ h _ => h) rfl dL_law_149 ?_
  rintro _ _ ⟨rfl, hMW⟩
  obtain ⟨kn3, me3, ns3, he3, nx3, nl3, lp3, so3, wi3, us3, ho3, nh3, ke3, ta3, de3, se3, hI3, rfl⟩ := hMW
  show V k l D (tys3 cI cJ cZ) room_1 cL_law 7 RL (wZ cI cJ cZ qo qx qm R C ov dr sz sa cu fi st lo hi_ wa sw 0 kn3 me3 ns3 he3 nx3 (rv dr) nl3 lp3 cu so3 wi3 us3 ho3 nh3 ke3 ta3 de3 se3) (cs) (ss) 152 [(0, .ref (b)), (1, .ref (qx 0)), (2, .ref (qm 0)), (3, .ref (qo)), (4, .int (nI (i)))] [.int (nI (nE R C)), .int (nI (nE R C))]
  refine j_icmp_eq (tgt := 905) dL_law_152 (by decide) (fun c152 => ?_) (fun c152 => ?_)
  · refine j_widen (k2 := cs + 1) (n2 := ss + 6) (by omega) (by omega) ?_
    exact hk ov 0 dr cu _ _ hd hcu ⟨sz, sa, fi, st, lo, hi_, wa, sw, hIx, rfl⟩ (MW_of hI3)
  · exact absurd (congrArg nI (rfl)) c152

set_option maxHeartbeats 8000000 in
set_option maxRecDepth 100000 in
theorem l_count {k : VK} (l : Launch) (hfl : l.flags = flags0) (D : va_G) (cI cJ cZ : ClassId) (qo : Nat) (qx qm : Nat → Nat) (R C : Nat) (hG : GS R C) (LL : List Nat) (hMt : Mth R C LL) (b L : Nat) (xs : Nat → Int32) (hL : L ≤ 258) (hX : SX k b L xs) (hZ : ZX k.2.2.1.1 k.1.2.2.1 k.2.2.1.2) (i cs ss : Nat) (hi : i + 4 ≤ L) (hcs : cs ≤ 10000) (hss : ss ≤ 100000) (ov : Nat → Int64) (dr sz : Nat) (sa : Bool) (cu fi st : Nat → Nat) (lo hi_ : Nat → Option Nat) (wa sw : Nat → Nat) (mth : Nat) (mkn mme : Bool) (mns mhe mnx mnl : Nat) (mlp mso mwi mus mho mnh : Nat → Nat) (mke : Nat → Int64) (mta mde : Nat → Nat) (mse : Nat → Bool) (hd : dr < 2 ^ nE R C) (hcu : CU R C cu) (hIx : XI0 R C cu sa sz fi st lo hi_ wa dr) (hIm : MI R C LL cu mkn mme mns mnl mlp mso mwi mus mde mse (rv dr))  (hk : ∀ (ov2 : Nat → Int64) (th2 d2 : Nat) (cu2 : Nat → Nat) (u1 u2 : va_W), d2 < 2 ^ nE R C → CU R C cu2 → OW cI cJ cZ qo qx R C ov2 d2 cu2 u1 → MW cI cJ cZ qm R C LL th2 (rv d2) cu2 u2 → V k l D (tys3 cI cJ cZ) room_1 cL_law 7 RL (u1 ++ u2) (cs + 1) (ss + 6) 905 [(0, .ref (b)), (1, .ref (qx 0)), (2, .ref (qm 0)), (3, .ref (qo)), (4, .int (nI (i)))] []) : V k l D (tys3 cI cJ cZ) room_1 cL_law 7 RL (wZ cI cJ cZ qo qx qm R C ov dr sz sa cu fi st lo hi_ wa sw mth mkn mme mns mhe mnx (rv dr) mnl mlp cu mso mwi mus mho mnh mke mta mde mse) (cs) (ss) 301 [(0, .ref (b)), (1, .ref (qx 0)), (2, .ref (qm 0)), (3, .ref (qo)), (4, .int (nI (i)))] [] := by
  obtain ⟨hLO, hND, hA, hB, hB2, hCc⟩ := hMt
  obtain ⟨hx, hMo, hA1, hA2, hA6, hA8⟩ := hCc cu hcu
  have hE := hG.E
  obtain ⟨hr31, hpop, hil⟩ := hA dr hd
  refine j_aload_n dL_law_301 rfl 1 rfl ?_
  refine j_callV (mc := 0) (ms := 0) (wc := wX cI cZ qx R C dr sz sa cu fi st lo hi_ wa sw) (wr := (qo, .inl (cJ, 1, .inr (.inl ov))) :: wM cI cJ cZ qm R C mth mkn mme mns mhe mnx (rv dr) mnl mlp cu mso mwi mus mho mnh mke mta mde mse) (tys3 := tys3 cI cJ cZ) (av := []) (rest := []) (c_count l hfl D cI cJ cZ qx R C hG dr sz sa cu fi st lo hi_ wa sw hx hIx.1) 1 rfl rfl mw1_110 mw1_111 mw1_112 mw1_1 mw1_113 ⟨rfl, hd_X2_count⟩ rfl ⟨rfl, rfl⟩ ⟨Nat.le_of_ble_eq_true rfl, Nat.le_of_ble_eq_true rfl⟩ (⟨show cs + 0 ≤ 600128 by omega, show ss + 0 ≤ 7301064 by omega⟩) (Nat.le_of_ble_eq_true rfl) [1, 2, 3, 4, 5, 6, 7, 8, 9, 10, 11, 12, 13] [0, 14, 15, 16, 17, 18, 19, 20, 21, 22, 23, 24, 25, 26, 27, 28, 29, 30, 31, 32, 33, 34] rfl rfl rfl rfl (by decide) (fun _ h _ => h) rfl dL_law_302 ?_
  rintro _ _ ⟨rfl, sz2, fi2, st2, lo2, hi2, wa2, hg2, hW2, rfl⟩
  have hI2 : XI0 R C cu false sz2 fi2 st2 lo2 hi2 wa2 dr := ⟨fun _ => ⟨hg2, hW2⟩, hIx.2⟩
  refine j_cut (w2 := wZ cI cJ cZ qo qx qm R C ov dr sz2 false cu fi2 st2 lo2 hi2 wa2 sw mth mkn mme mns mhe mnx (rv dr) mnl mlp cu mso mwi mus mho mnh mke mta mde mse) [0, 22, 23, 24, 25, 26, 27, 28, 29, 30, 31, 32, 33, 34, 1, 2, 3, 4, 5, 6, 7, 8, 9, 10, 11, 12, 13, 14, 15, 16, 17, 18, 19, 20, 21] rfl rfl ?_
  show V k l D (tys3 cI cJ cZ) room_1 cL_law 7 RL (wZ cI cJ cZ qo qx qm R C ov dr sz2 false cu fi2 st2 lo2 hi2 wa2 sw mth mkn mme mns mhe mnx (rv dr) mnl mlp cu mso mwi mus mho mnh mke mta mde mse) (cs) (ss) 305 [(0, .ref (b)), (1, .ref (qx 0)), (2, .ref (qm 0)), (3, .ref (qo)), (4, .int (nI (i)))] [.int (nI (WS R C cu 0 (nE R C) 0 1672))]
  refine j_aload_n dL_law_305 rfl 2 rfl ?_
  refine j_callV (mc := 0) (ms := 0) (wc := wM cI cJ cZ qm R C mth mkn mme mns mhe mnx (rv dr) mnl mlp cu mso mwi mus mho mnh mke mta mde mse) (wr := wO cI cJ cZ qo qx R C ov dr sz2 false cu fi2 st2 lo2 hi2 wa2 sw) (tys3 := tys3 cI cJ cZ) (av := []) (rest := [.int (nI (WS R C cu 0 (nE R C) 0 1672))]) (cm_count l hfl D cI cJ cZ qm R C hG mth mkn mme mns mhe mnx (rv dr) mnl mlp cu mso mwi mus mho mnh mke mta mde mse LL hLO hMo hIm ) 14 rfl rfl mw3_129 mw3_130 mw3_131 mw1_4 mw3_132 ⟨rfl, hd_X3_count⟩ rfl ⟨rfl, rfl⟩ ⟨Nat.le_of_ble_eq_true rfl, Nat.le_of_ble_eq_true rfl⟩ (⟨show cs + 0 ≤ 600128 by omega, show ss + 0 ≤ 7301064 by omega⟩) (Nat.le_of_ble_eq_true rfl) [14, 15, 16, 17, 18, 19, 20, 21, 22, 23, 24, 25, 26, 27, 28, 29, 30, 31, 32, 33, 34] [0, 1, 2, 3, 4, 5, 6, 7, 8, 9, 10, 11, 12, 13] rfl rfl rfl rfl (by decide) (fun _ h _ => h) rfl dL_law_306 ?_
  rintro _ _ ⟨rfl, hMW⟩
  obtain ⟨kn3, me3, ns3, he3, nx3, nl3, lp3, so3, wi3, us3, ho3, nh3, ke3, ta3, de3, se3, hI3, rfl⟩ := hMW
  show V k l D (tys3 cI cJ cZ) room_1 cL_law 7 RL (wZ cI cJ cZ qo qx qm R C ov dr sz2 false cu fi2 st2 lo2 hi2 wa2 sw 0 kn3 me3 ns3 he3 nx3 (rv dr) nl3 lp3 cu so3 wi3 us3 ho3 nh3 ke3 ta3 de3 se3) (cs) (ss) 309 [(0, .ref (b)), (1, .ref (qx 0)), (2, .ref (qm 0)), (3, .ref (qo)), (4, .int (nI (i)))] [.int (nI ((sol R C cu LL).length)), .int (nI (WS R C cu 0 (nE R C) 0 1672))]
  refine j_icmp_eq (tgt := 905) dL_law_309 (by decide) (fun c309 => ?_) (fun c309 => ?_)
  · refine j_widen (k2 := cs + 1) (n2 := ss + 6) (by omega) (by omega) ?_
    exact hk ov 0 dr cu _ _ hd hcu ⟨sz2, false, fi2, st2, lo2, hi2, wa2, sw, hI2, rfl⟩ (MW_of hI3)
  · exact absurd (congrArg nI (hA1)) c309

set_option maxHeartbeats 8000000 in
set_option maxRecDepth 100000 in
theorem l_nodes {k : VK} (l : Launch) (hfl : l.flags = flags0) (D : va_G) (cI cJ cZ : ClassId) (qo : Nat) (qx qm : Nat → Nat) (R C : Nat) (hG : GS R C) (LL : List Nat) (hMt : Mth R C LL) (b L : Nat) (xs : Nat → Int32) (hL : L ≤ 258) (hX : SX k b L xs) (hZ : ZX k.2.2.1.1 k.1.2.2.1 k.2.2.1.2) (i cs ss : Nat) (hi : i + 4 ≤ L) (hcs : cs ≤ 10000) (hss : ss ≤ 100000) (ov : Nat → Int64) (dr sz : Nat) (sa : Bool) (cu fi st : Nat → Nat) (lo hi_ : Nat → Option Nat) (wa sw : Nat → Nat) (mth : Nat) (mkn mme : Bool) (mns mhe mnx mnl : Nat) (mlp mso mwi mus mho mnh : Nat → Nat) (mke : Nat → Int64) (mta mde : Nat → Nat) (mse : Nat → Bool) (hd : dr < 2 ^ nE R C) (hcu : CU R C cu) (hIx : XI0 R C cu sa sz fi st lo hi_ wa dr) (hIm : MI R C LL cu mkn mme mns mnl mlp mso mwi mus mde mse (rv dr))  (hk : ∀ (ov2 : Nat → Int64) (th2 d2 : Nat) (cu2 : Nat → Nat) (u1 u2 : va_W), d2 < 2 ^ nE R C → CU R C cu2 → OW cI cJ cZ qo qx R C ov2 d2 cu2 u1 → MW cI cJ cZ qm R C LL th2 (rv d2) cu2 u2 → V k l D (tys3 cI cJ cZ) room_1 cL_law 7 RL (u1 ++ u2) (cs + 1) (ss + 6) 905 [(0, .ref (b)), (1, .ref (qx 0)), (2, .ref (qm 0)), (3, .ref (qo)), (4, .int (nI (i)))] []) : V k l D (tys3 cI cJ cZ) room_1 cL_law 7 RL (wZ cI cJ cZ qo qx qm R C ov dr sz sa cu fi st lo hi_ wa sw mth mkn mme mns mhe mnx (rv dr) mnl mlp cu mso mwi mus mho mnh mke mta mde mse) (cs) (ss) 398 [(0, .ref (b)), (1, .ref (qx 0)), (2, .ref (qm 0)), (3, .ref (qo)), (4, .int (nI (i)))] [] := by
  obtain ⟨hLO, hND, hA, hB, hB2, hCc⟩ := hMt
  obtain ⟨hx, hMo, hA1, hA2, hA6, hA8⟩ := hCc cu hcu
  have hE := hG.E
  obtain ⟨hr31, hpop, hil⟩ := hA dr hd
  refine j_aload_n dL_law_398 rfl 1 rfl ?_
  refine j_callV (mc := 0) (ms := 0) (wc := wX cI cZ qx R C dr sz sa cu fi st lo hi_ wa sw) (wr := (qo, .inl (cJ, 1, .inr (.inl ov))) :: wM cI cJ cZ qm R C mth mkn mme mns mhe mnx (rv dr) mnl mlp cu mso mwi mus mho mnh mke mta mde mse) (tys3 := tys3 cI cJ cZ) (av := []) (rest := []) (c_nodes l hfl D cI cJ cZ qx R C hG dr sz sa cu fi st lo hi_ wa sw hx hIx.1) 1 rfl rfl mw1_166 mw1_167 mw1_168 mw1_1 mw1_169 ⟨rfl, hd_X2_nodes⟩ rfl ⟨rfl, rfl⟩ ⟨Nat.le_of_ble_eq_true rfl, Nat.le_of_ble_eq_true rfl⟩ (⟨show cs + 0 ≤ 600128 by omega, show ss + 0 ≤ 7301064 by omega⟩) (Nat.le_of_ble_eq_true rfl) [1, 2, 3, 4, 5, 6, 7, 8, 9, 10, 11, 12, 13] [0, 14, 15, 16, 17, 18, 19, 20, 21, 22, 23, 24, 25, 26, 27, 28, 29, 30, 31, 32, 33, 34] rfl rfl rfl rfl (by decide) (fun _ h _ => h) rfl dL_law_399 ?_
  rintro _ _ ⟨rfl, sz2, fi2, st2, lo2, hi2, wa2, hg2, hW2, rfl⟩
  have hI2 : XI0 R C cu false sz2 fi2 st2 lo2 hi2 wa2 dr := ⟨fun _ => ⟨hg2, hW2⟩, hIx.2⟩
  refine j_cut (w2 := wZ cI cJ cZ qo qx qm R C ov dr sz2 false cu fi2 st2 lo2 hi2 wa2 sw mth mkn mme mns mhe mnx (rv dr) mnl mlp cu mso mwi mus mho mnh mke mta mde mse) [0, 22, 23, 24, 25, 26, 27, 28, 29, 30, 31, 32, 33, 34, 1, 2, 3, 4, 5, 6, 7, 8, 9, 10, 11, 12, 13, 14, 15, 16, 17, 18, 19, 20, 21] rfl rfl ?_
  show V k l D (tys3 cI cJ cZ) room_1 cL_law 7 RL (wZ cI cJ cZ qo qx qm R C ov dr sz2 false cu fi2 st2 lo2 hi2 wa2 sw mth mkn mme mns mhe mnx (rv dr) mnl mlp cu mso mwi mus mho mnh mke mta mde mse) (cs) (ss) 402 [(0, .ref (b)), (1, .ref (qx 0)), (2, .ref (qm 0)), (3, .ref (qo)), (4, .int (nI (i)))] [.int (nI (off R C cu (nE R C + 1)))]
  refine j_aload_n dL_law_402 rfl 2 rfl ?_
  refine j_callV (mc := 0) (ms := 0) (wc := wM cI cJ cZ qm R C mth mkn mme mns mhe mnx (rv dr) mnl mlp cu mso mwi mus mho mnh mke mta mde mse) (wr := wO cI cJ cZ qo qx R C ov dr sz2 false cu fi2 st2 lo2 hi2 wa2 sw) (tys3 := tys3 cI cJ cZ) (av := []) (rest := [.int (nI (off R C cu (nE R C + 1)))]) (cm_nodes l hfl D cI cJ cZ qm R C hG mth mkn mme mns mhe mnx (rv dr) mnl mlp cu mso mwi mus mho mnh mke mta mde mse LL hLO hMo hIm ) 14 rfl rfl mw3_178 mw3_179 mw3_180 mw1_4 mw3_181 ⟨rfl, hd_X3_nodes⟩ rfl ⟨rfl, rfl⟩ ⟨Nat.le_of_ble_eq_true rfl, Nat.le_of_ble_eq_true rfl⟩ (⟨show cs + 0 ≤ 600128 by omega, show ss + 0 ≤ 7301064 by omega⟩) (Nat.le_of_ble_eq_true rfl) [14, 15, 16, 17, 18, 19, 20, 21, 22, 23, 24, 25, 26, 27, 28, 29, 30, 31, 32, 33, 34] [0, 1, 2, 3, 4, 5, 6, 7, 8, 9, 10, 11, 12, 13] rfl rfl rfl rfl (by decide) (fun _ h _ => h) rfl dL_law_403 ?_
  rintro _ _ ⟨rfl, hMW⟩
  obtain ⟨kn3, me3, ns3, he3, nx3, nl3, lp3, so3, wi3, us3, ho3, nh3, ke3, ta3, de3, se3, hI3, rfl⟩ := hMW
  show V k l D (tys3 cI cJ cZ) room_1 cL_law 7 RL (wZ cI cJ cZ qo qx qm R C ov dr sz2 false cu fi2 st2 lo2 hi2 wa2 sw 0 kn3 me3 ns3 he3 nx3 (rv dr) nl3 lp3 cu so3 wi3 us3 ho3 nh3 ke3 ta3 de3 se3) (cs) (ss) 406 [(0, .ref (b)), (1, .ref (qx 0)), (2, .ref (qm 0)), (3, .ref (qo)), (4, .int (nI (i)))] [.int (nI (ndA R C cu (nE R C + 1))), .int (nI (off R C cu (nE R C + 1)))]
  refine j_icmp_eq (tgt := 905) dL_law_406 (by decide) (fun c406 => ?_) (fun c406 => ?_)
  · refine j_widen (k2 := cs + 1) (n2 := ss + 6) (by omega) (by omega) ?_
    exact hk ov 0 dr cu _ _ hd hcu ⟨sz2, false, fi2, st2, lo2, hi2, wa2, sw, hI2, rfl⟩ (MW_of hI3)
  · exact absurd (congrArg nI (off_nd (fun k hk => (hA2 k hk).1) _ (Nat.le_refl _))) c406

set_option maxHeartbeats 8000000 in
set_option maxRecDepth 100000 in
theorem l_drawn {k : VK} (l : Launch) (hfl : l.flags = flags0) (D : va_G) (cI cJ cZ : ClassId) (qo : Nat) (qx qm : Nat → Nat) (R C : Nat) (hG : GS R C) (LL : List Nat) (hMt : Mth R C LL) (b L : Nat) (xs : Nat → Int32) (hL : L ≤ 258) (hX : SX k b L xs) (hZ : ZX k.2.2.1.1 k.1.2.2.1 k.2.2.1.2) (i cs ss : Nat) (hi : i + 4 ≤ L) (hcs : cs ≤ 10000) (hss : ss ≤ 100000) (ov : Nat → Int64) (dr sz : Nat) (sa : Bool) (cu fi st : Nat → Nat) (lo hi_ : Nat → Option Nat) (wa sw : Nat → Nat) (mth : Nat) (mkn mme : Bool) (mns mhe mnx mnl : Nat) (mlp mso mwi mus mho mnh : Nat → Nat) (mke : Nat → Int64) (mta mde : Nat → Nat) (mse : Nat → Bool) (hd : dr < 2 ^ nE R C) (hcu : CU R C cu) (hIx : XI0 R C cu sa sz fi st lo hi_ wa dr) (hIm : MI R C LL cu mkn mme mns mnl mlp mso mwi mus mde mse (rv dr))  (hk : ∀ (ov2 : Nat → Int64) (th2 d2 : Nat) (cu2 : Nat → Nat) (u1 u2 : va_W), d2 < 2 ^ nE R C → CU R C cu2 → OW cI cJ cZ qo qx R C ov2 d2 cu2 u1 → MW cI cJ cZ qm R C LL th2 (rv d2) cu2 u2 → V k l D (tys3 cI cJ cZ) room_1 cL_law 7 RL (u1 ++ u2) (cs + 1) (ss + 6) 905 [(0, .ref (b)), (1, .ref (qx 0)), (2, .ref (qm 0)), (3, .ref (qo)), (4, .int (nI (i)))] []) : V k l D (tys3 cI cJ cZ) room_1 cL_law 7 RL (wZ cI cJ cZ qo qx qm R C ov dr sz sa cu fi st lo hi_ wa sw mth mkn mme mns mhe mnx (rv dr) mnl mlp cu mso mwi mus mho mnh mke mta mde mse) (cs) (ss) 697 [(0, .ref (b)), (1, .ref (qx 0)), (2, .ref (qm 0)), (3, .ref (qo)), (4, .int (nI (i)))] [] := by
  obtain ⟨hLO, hND, hA, hB, hB2, hCc⟩ := hMt
  obtain ⟨hx, hMo, hA1, hA2, hA6, hA8⟩ := hCc cu hcu
  have hE := hG.E
  obtain ⟨hr31, hpop, hil⟩ := hA dr hd
  refine j_aload_n dL_law_697 rfl 1 rfl ?_
  refine j_callV (mc := 0) (ms := 0) (wc := wX cI cZ qx R C dr sz sa cu fi st lo hi_ wa sw) (wr := (qo, .inl (cJ, 1, .inr (.inl ov))) :: wM cI cJ cZ qm R C mth mkn mme mns mhe mnx (rv dr) mnl mlp cu mso mwi mus mho mnh mke mta mde mse) (tys3 := tys3 cI cJ cZ) (av := []) (rest := []) (c_drawn l hfl D cI cJ cZ qx R C hG dr sz sa cu fi st lo hi_ wa sw hx hIx) 1 rfl rfl mw1_170 mw1_171 mw1_172 mw1_1 mw1_173 ⟨rfl, hd_X2_drawn⟩ rfl ⟨rfl, rfl⟩ ⟨Nat.le_of_ble_eq_true rfl, Nat.le_of_ble_eq_true rfl⟩ (⟨show cs + 0 ≤ 600128 by omega, show ss + 0 ≤ 7301064 by omega⟩) (Nat.le_of_ble_eq_true rfl) [1, 2, 3, 4, 5, 6, 7, 8, 9, 10, 11, 12, 13] [0, 14, 15, 16, 17, 18, 19, 20, 21, 22, 23, 24, 25, 26, 27, 28, 29, 30, 31, 32, 33, 34] rfl rfl rfl rfl (by decide) (fun _ h _ => h) rfl dL_law_698 ?_
  rintro _ _ ⟨rfl, sz2, sa2, fi2, st2, lo2, hi2, wa2, sw2, hI2, rfl⟩
  refine j_cut (w2 := wZ cI cJ cZ qo qx qm R C ov dr sz2 sa2 cu fi2 st2 lo2 hi2 wa2 sw2 mth mkn mme mns mhe mnx (rv dr) mnl mlp cu mso mwi mus mho mnh mke mta mde mse) [0, 22, 23, 24, 25, 26, 27, 28, 29, 30, 31, 32, 33, 34, 1, 2, 3, 4, 5, 6, 7, 8, 9, 10, 11, 12, 13, 14, 15, 16, 17, 18, 19, 20, 21] rfl rfl ?_
  show V k l D (tys3 cI cJ cZ) room_1 cL_law 7 RL (wZ cI cJ cZ qo qx qm R C ov dr sz2 sa2 cu fi2 st2 lo2 hi2 wa2 sw2 mth mkn mme mns mhe mnx (rv dr) mnl mlp cu mso mwi mus mho mnh mke mta mde mse) (cs) (ss) 701 [(0, .ref (b)), (1, .ref (qx 0)), (2, .ref (qm 0)), (3, .ref (qo)), (4, .int (nI (i)))] [.int (nI (pop dr 32))]
  refine j_aload_n dL_law_701 rfl 2 rfl ?_
  refine j_callV (mc := 0) (ms := 0) (wc := wM cI cJ cZ qm R C mth mkn mme mns mhe mnx (rv dr) mnl mlp cu mso mwi mus mho mnh mke mta mde mse) (wr := wO cI cJ cZ qo qx R C ov dr sz2 sa2 cu fi2 st2 lo2 hi2 wa2 sw2) (tys3 := tys3 cI cJ cZ) (av := []) (rest := [.int (nI (pop dr 32))]) (cm_drawn l hfl D cI cJ cZ qm R C hG mth mkn mme mns mhe mnx (rv dr) mnl mlp cu mso mwi mus mho mnh mke mta mde mse LL hLO hMo hIm ) 14 rfl rfl mw3_214 mw3_215 mw3_216 mw1_4 mw3_217 ⟨rfl, hd_X3_drawn⟩ rfl ⟨rfl, rfl⟩ ⟨Nat.le_of_ble_eq_true rfl, Nat.le_of_ble_eq_true rfl⟩ (⟨show cs + 0 ≤ 600128 by omega, show ss + 0 ≤ 7301064 by omega⟩) (Nat.le_of_ble_eq_true rfl) [14, 15, 16, 17, 18, 19, 20, 21, 22, 23, 24, 25, 26, 27, 28, 29, 30, 31, 32, 33, 34] [0, 1, 2, 3, 4, 5, 6, 7, 8, 9, 10, 11, 12, 13] rfl rfl rfl rfl (by decide) (fun _ h _ => h) rfl dL_law_702 ?_
  rintro _ _ ⟨rfl, hMW⟩
  obtain ⟨kn3, me3, ns3, he3, nx3, nl3, lp3, so3, wi3, us3, ho3, nh3, ke3, ta3, de3, se3, hI3, rfl⟩ := hMW
  show V k l D (tys3 cI cJ cZ) room_1 cL_law 7 RL (wZ cI cJ cZ qo qx qm R C ov dr sz2 sa2 cu fi2 st2 lo2 hi2 wa2 sw2 0 kn3 me3 ns3 he3 nx3 (rv dr) nl3 lp3 cu so3 wi3 us3 ho3 nh3 ke3 ta3 de3 se3) (cs) (ss) 705 [(0, .ref (b)), (1, .ref (qx 0)), (2, .ref (qm 0)), (3, .ref (qo)), (4, .int (nI (i)))] [.int (nI (szA (rv dr) (nE R C))), .int (nI (pop dr 32))]
  refine j_icmp_eq (tgt := 905) dL_law_705 (by decide) (fun c705 => ?_) (fun c705 => ?_)
  · refine j_widen (k2 := cs + 1) (n2 := ss + 6) (by omega) (by omega) ?_
    exact hk ov 0 dr cu _ _ hd hcu ⟨sz2, sa2, fi2, st2, lo2, hi2, wa2, sw2, hI2, rfl⟩ (MW_of hI3)
  · exact absurd (congrArg nI (hpop)) c705

set_option maxHeartbeats 8000000 in
set_option maxRecDepth 100000 in
theorem l_isLoop {k : VK} (l : Launch) (hfl : l.flags = flags0) (D : va_G) (cI cJ cZ : ClassId) (qo : Nat) (qx qm : Nat → Nat) (R C : Nat) (hG : GS R C) (LL : List Nat) (hMt : Mth R C LL) (b L : Nat) (xs : Nat → Int32) (hL : L ≤ 258) (hX : SX k b L xs) (hZ : ZX k.2.2.1.1 k.1.2.2.1 k.2.2.1.2) (i cs ss : Nat) (hi : i + 4 ≤ L) (hcs : cs ≤ 10000) (hss : ss ≤ 100000) (ov : Nat → Int64) (dr sz : Nat) (sa : Bool) (cu fi st : Nat → Nat) (lo hi_ : Nat → Option Nat) (wa sw : Nat → Nat) (mth : Nat) (mkn mme : Bool) (mns mhe mnx mnl : Nat) (mlp mso mwi mus mho mnh : Nat → Nat) (mke : Nat → Int64) (mta mde : Nat → Nat) (mse : Nat → Bool) (hd : dr < 2 ^ nE R C) (hcu : CU R C cu) (hIx : XI0 R C cu sa sz fi st lo hi_ wa dr) (hIm : MI R C LL cu mkn mme mns mnl mlp mso mwi mus mde mse (rv dr))  (hk : ∀ (ov2 : Nat → Int64) (th2 d2 : Nat) (cu2 : Nat → Nat) (u1 u2 : va_W), d2 < 2 ^ nE R C → CU R C cu2 → OW cI cJ cZ qo qx R C ov2 d2 cu2 u1 → MW cI cJ cZ qm R C LL th2 (rv d2) cu2 u2 → V k l D (tys3 cI cJ cZ) room_1 cL_law 7 RL (u1 ++ u2) (cs + 1) (ss + 6) 905 [(0, .ref (b)), (1, .ref (qx 0)), (2, .ref (qm 0)), (3, .ref (qo)), (4, .int (nI (i)))] []) : V k l D (tys3 cI cJ cZ) room_1 cL_law 7 RL (wZ cI cJ cZ qo qx qm R C ov dr sz sa cu fi st lo hi_ wa sw mth mkn mme mns mhe mnx (rv dr) mnl mlp cu mso mwi mus mho mnh mke mta mde mse) (cs) (ss) 710 [(0, .ref (b)), (1, .ref (qx 0)), (2, .ref (qm 0)), (3, .ref (qo)), (4, .int (nI (i)))] [] := by
  obtain ⟨hLO, hND, hA, hB, hB2, hCc⟩ := hMt
  obtain ⟨hx, hMo, hA1, hA2, hA6, hA8⟩ := hCc cu hcu
  have hE := hG.E
  obtain ⟨hr31, hpop, hil⟩ := hA dr hd
  refine j_aload_n dL_law_710 rfl 1 rfl ?_
  refine j_callV (mc := 0) (ms := 0) (wc := wX cI cZ qx R C dr sz sa cu fi st lo hi_ wa sw) (wr := (qo, .inl (cJ, 1, .inr (.inl ov))) :: wM cI cJ cZ qm R C mth mkn mme mns mhe mnx (rv dr) mnl mlp cu mso mwi mus mho mnh mke mta mde mse) (tys3 := tys3 cI cJ cZ) (av := []) (rest := []) (c_isLoop l hfl D cI cJ cZ qx R C hG dr sz sa cu fi st lo hi_ wa sw hIx.2) 1 rfl rfl mw1_180 mw1_181 mw1_182 mw1_1 mw1_183 ⟨rfl, hd_X2_isLoop⟩ rfl ⟨rfl, rfl⟩ ⟨Nat.le_of_ble_eq_true rfl, Nat.le_of_ble_eq_true rfl⟩ (⟨show cs + 0 ≤ 600128 by omega, show ss + 0 ≤ 7301064 by omega⟩) (Nat.le_of_ble_eq_true rfl) [1, 2, 3, 4, 5, 6, 7, 8, 9, 10, 11, 12, 13] [0, 14, 15, 16, 17, 18, 19, 20, 21, 22, 23, 24, 25, 26, 27, 28, 29, 30, 31, 32, 33, 34] rfl rfl rfl rfl (by decide) (fun _ h _ => h) rfl dL_law_711 ?_
  rintro _ _ ⟨rfl, rfl⟩
  refine j_cut (w2 := wZ cI cJ cZ qo qx qm R C ov dr sz sa cu fi st lo hi_ wa sw mth mkn mme mns mhe mnx (rv dr) mnl mlp cu mso mwi mus mho mnh mke mta mde mse) [0, 22, 23, 24, 25, 26, 27, 28, 29, 30, 31, 32, 33, 34, 1, 2, 3, 4, 5, 6, 7, 8, 9, 10, 11, 12, 13, 14, 15, 16, 17, 18, 19, 20, 21] rfl rfl ?_
  show V k l D (tys3 cI cJ cZ) room_1 cL_law 7 RL (wZ cI cJ cZ qo qx qm R C ov dr sz sa cu fi st lo hi_ wa sw mth mkn mme mns mhe mnx (rv dr) mnl mlp cu mso mwi mus mho mnh mke mta mde mse) (cs) (ss) 714 [(0, .ref (b)), (1, .ref (qx 0)), (2, .ref (qm 0)), (3, .ref (qo)), (4, .int (nI (i)))] [.int (bI ((ilA R C dr (nE R C) 0 1672)))]
  refine j_aload_n dL_law_714 rfl 2 rfl ?_
  refine j_callV (mc := 0) (ms := 0) (wc := wM cI cJ cZ qm R C mth mkn mme mns mhe mnx (rv dr) mnl mlp cu mso mwi mus mho mnh mke mta mde mse) (wr := wO cI cJ cZ qo qx R C ov dr sz sa cu fi st lo hi_ wa sw) (tys3 := tys3 cI cJ cZ) (av := []) (rest := [.int (bI ((ilA R C dr (nE R C) 0 1672)))]) (cm_isLoop l hfl D cI cJ cZ qm R C hG mth mkn mme mns mhe mnx (rv dr) mnl mlp cu mso mwi mus mho mnh mke mta mde mse LL hLO hMo hIm ) 14 rfl rfl mw3_218 mw3_219 mw3_220 mw1_4 mw3_221 ⟨rfl, hd_X3_isLoop⟩ rfl ⟨rfl, rfl⟩ ⟨Nat.le_of_ble_eq_true rfl, Nat.le_of_ble_eq_true rfl⟩ (⟨show cs + 0 ≤ 600128 by omega, show ss + 0 ≤ 7301064 by omega⟩) (Nat.le_of_ble_eq_true rfl) [14, 15, 16, 17, 18, 19, 20, 21, 22, 23, 24, 25, 26, 27, 28, 29, 30, 31, 32, 33, 34] [0, 1, 2, 3, 4, 5, 6, 7, 8, 9, 10, 11, 12, 13] rfl rfl rfl rfl (by decide) (fun _ h _ => h) rfl dL_law_715 ?_
  rintro _ _ ⟨rfl, hMW⟩
  obtain ⟨kn3, me3, ns3, he3, nx3, nl3, lp3, so3, wi3, us3, ho3, nh3, ke3, ta3, de3, se3, hI3, rfl⟩ := hMW
  show V k l D (tys3 cI cJ cZ) room_1 cL_law 7 RL (wZ cI cJ cZ qo qx qm R C ov dr sz sa cu fi st lo hi_ wa sw 0 kn3 me3 ns3 he3 nx3 (rv dr) nl3 lp3 cu so3 wi3 us3 ho3 nh3 ke3 ta3 de3 se3) (cs) (ss) 718 [(0, .ref (b)), (1, .ref (qx 0)), (2, .ref (qm 0)), (3, .ref (qo)), (4, .int (nI (i)))] [.int (bI ((ilS R C (rv dr)))), .int (bI ((ilA R C dr (nE R C) 0 1672)))]
  refine j_icmp_eq (tgt := 905) dL_law_718 (by decide) (fun c718 => ?_) (fun c718 => ?_)
  · refine j_widen (k2 := cs + 1) (n2 := ss + 6) (by omega) (by omega) ?_
    exact hk ov 0 dr cu _ _ hd hcu ⟨sz, sa, fi, st, lo, hi_, wa, sw, hIx, rfl⟩ (MW_of hI3)
  · exact absurd (congrArg bI (hil)) c718

set_option maxHeartbeats 8000000 in
set_option maxRecDepth 100000 in
theorem l_above {k : VK} (l : Launch) (hfl : l.flags = flags0) (D : va_G) (cI cJ cZ : ClassId) (qo : Nat) (qx qm : Nat → Nat) (R C : Nat) (hG : GS R C) (LL : List Nat) (hMt : Mth R C LL) (b L : Nat) (xs : Nat → Int32) (hL : L ≤ 258) (hX : SX k b L xs) (hZ : ZX k.2.2.1.1 k.1.2.2.1 k.2.2.1.2) (i cs ss : Nat) (hi : i + 4 ≤ L) (hcs : cs ≤ 10000) (hss : ss ≤ 100000) (ov : Nat → Int64) (dr sz : Nat) (sa : Bool) (cu fi st : Nat → Nat) (lo hi_ : Nat → Option Nat) (wa sw : Nat → Nat) (mth : Nat) (mkn mme : Bool) (mns mhe mnx mnl : Nat) (mlp mso mwi mus mho mnh : Nat → Nat) (mke : Nat → Int64) (mta mde : Nat → Nat) (mse : Nat → Bool) (hd : dr < 2 ^ nE R C) (hcu : CU R C cu) (hIx : XI0 R C cu sa sz fi st lo hi_ wa dr) (hIm : MI R C LL cu mkn mme mns mnl mlp mso mwi mus mde mse (rv dr))  (hk : ∀ (ov2 : Nat → Int64) (th2 d2 : Nat) (cu2 : Nat → Nat) (u1 u2 : va_W), d2 < 2 ^ nE R C → CU R C cu2 → OW cI cJ cZ qo qx R C ov2 d2 cu2 u1 → MW cI cJ cZ qm R C LL th2 (rv d2) cu2 u2 → V k l D (tys3 cI cJ cZ) room_1 cL_law 7 RL (u1 ++ u2) (cs + 1) (ss + 6) 905 [(0, .ref (b)), (1, .ref (qx 0)), (2, .ref (qm 0)), (3, .ref (qo)), (4, .int (nI (i)))] []) : V k l D (tys3 cI cJ cZ) room_1 cL_law 7 RL (wZ cI cJ cZ qo qx qm R C ov dr sz sa cu fi st lo hi_ wa sw mth mkn mme mns mhe mnx (rv dr) mnl mlp cu mso mwi mus mho mnh mke mta mde mse) (cs) (ss) 767 [(0, .ref (b)), (1, .ref (qx 0)), (2, .ref (qm 0)), (3, .ref (qo)), (4, .int (nI (i)))] [] := by
  obtain ⟨hLO, hND, hA, hB, hB2, hCc⟩ := hMt
  obtain ⟨hx, hMo, hA1, hA2, hA6, hA8⟩ := hCc cu hcu
  have hE := hG.E
  obtain ⟨hr31, hpop, hil⟩ := hA dr hd
  refine j_aload_n dL_law_767 rfl 1 rfl ?_
  refine j_callV (mc := 0) (ms := 0) (wc := wX cI cZ qx R C dr sz sa cu fi st lo hi_ wa sw) (wr := (qo, .inl (cJ, 1, .inr (.inl ov))) :: wM cI cJ cZ qm R C mth mkn mme mns mhe mnx (rv dr) mnl mlp cu mso mwi mus mho mnh mke mta mde mse) (tys3 := tys3 cI cJ cZ) (av := []) (rest := []) (c_above l hfl D cI cJ cZ qx R C hG dr sz sa cu fi st lo hi_ wa sw hx hIx.1 hIx.2) 1 rfl rfl mw1_186 mw1_187 mw1_188 mw1_1 mw1_189 ⟨rfl, hd_X2_above⟩ rfl ⟨rfl, rfl⟩ ⟨Nat.le_of_ble_eq_true rfl, Nat.le_of_ble_eq_true rfl⟩ (⟨show cs + 0 ≤ 600128 by omega, show ss + 0 ≤ 7301064 by omega⟩) (Nat.le_of_ble_eq_true rfl) [1, 2, 3, 4, 5, 6, 7, 8, 9, 10, 11, 12, 13] [0, 14, 15, 16, 17, 18, 19, 20, 21, 22, 23, 24, 25, 26, 27, 28, 29, 30, 31, 32, 33, 34] rfl rfl rfl rfl (by decide) (fun _ h _ => h) rfl dL_law_768 ?_
  rintro _ _ ⟨rfl, sz2, fi2, st2, lo2, hi2, wa2, sw2, hg2, hW2, rfl⟩
  have hI2 : XI0 R C cu false sz2 fi2 st2 lo2 hi2 wa2 dr := ⟨fun _ => ⟨hg2, hW2⟩, hIx.2⟩
  refine j_cut (w2 := wZ cI cJ cZ qo qx qm R C ov dr sz2 false cu fi2 st2 lo2 hi2 wa2 sw2 mth mkn mme mns mhe mnx (rv dr) mnl mlp cu mso mwi mus mho mnh mke mta mde mse) [0, 22, 23, 24, 25, 26, 27, 28, 29, 30, 31, 32, 33, 34, 1, 2, 3, 4, 5, 6, 7, 8, 9, 10, 11, 12, 13, 14, 15, 16, 17, 18, 19, 20, 21] rfl rfl ?_
  show V k l D (tys3 cI cJ cZ) room_1 cL_law 7 RL (wZ cI cJ cZ qo qx qm R C ov dr sz2 false cu fi2 st2 lo2 hi2 wa2 sw2 mth mkn mme mns mhe mnx (rv dr) mnl mlp cu mso mwi mus mho mnh mke mta mde mse) (cs) (ss) 771 [(0, .ref (b)), (1, .ref (qx 0)), (2, .ref (qm 0)), (3, .ref (qo)), (4, .int (nI (i)))] [.int (nI (WS R C cu dr (nE R C) 0 1672))]
  refine j_aload_n dL_law_771 rfl 2 rfl ?_
  refine j_callV (mc := 0) (ms := 0) (wc := wM cI cJ cZ qm R C mth mkn mme mns mhe mnx (rv dr) mnl mlp cu mso mwi mus mho mnh mke mta mde mse) (wr := wO cI cJ cZ qo qx R C ov dr sz2 false cu fi2 st2 lo2 hi2 wa2 sw2) (tys3 := tys3 cI cJ cZ) (av := []) (rest := [.int (nI (WS R C cu dr (nE R C) 0 1672))]) (cm_above l hfl D cI cJ cZ qm R C hG mth mkn mme mns mhe mnx (rv dr) mnl mlp cu mso mwi mus mho mnh mke mta mde mse LL hLO hMo hIm ) 14 rfl rfl mw3_226 mw3_227 mw3_228 mw1_4 mw3_229 ⟨rfl, hd_X3_above⟩ rfl ⟨rfl, rfl⟩ ⟨Nat.le_of_ble_eq_true rfl, Nat.le_of_ble_eq_true rfl⟩ (⟨show cs + 0 ≤ 600128 by omega, show ss + 0 ≤ 7301064 by omega⟩) (Nat.le_of_ble_eq_true rfl) [14, 15, 16, 17, 18, 19, 20, 21, 22, 23, 24, 25, 26, 27, 28, 29, 30, 31, 32, 33, 34] [0, 1, 2, 3, 4, 5, 6, 7, 8, 9, 10, 11, 12, 13] rfl rfl rfl rfl (by decide) (fun _ h _ => h) rfl dL_law_772 ?_
  rintro _ _ ⟨rfl, hMW⟩
  obtain ⟨kn3, me3, ns3, he3, nx3, nl3, lp3, so3, wi3, us3, ho3, nh3, ke3, ta3, de3, se3, hI3, rfl⟩ := hMW
  show V k l D (tys3 cI cJ cZ) room_1 cL_law 7 RL (wZ cI cJ cZ qo qx qm R C ov dr sz2 false cu fi2 st2 lo2 hi2 wa2 sw2 0 kn3 me3 ns3 he3 nx3 (rv dr) nl3 lp3 cu so3 wi3 us3 ho3 nh3 ke3 ta3 de3 se3) (cs) (ss) 775 [(0, .ref (b)), (1, .ref (qx 0)), (2, .ref (qm 0)), (3, .ref (qo)), (4, .int (nI (i)))] [.int (nI (wall (sol R C cu LL) (rv dr))), .int (nI (WS R C cu dr (nE R C) 0 1672))]
  refine j_icmp_eq (tgt := 905) dL_law_775 (by decide) (fun c775 => ?_) (fun c775 => ?_)
  · refine j_widen (k2 := cs + 1) (n2 := ss + 6) (by omega) (by omega) ?_
    exact hk ov 0 dr cu _ _ hd hcu ⟨sz2, false, fi2, st2, lo2, hi2, wa2, sw2, hI2, rfl⟩ (MW_of hI3)
  · exact absurd (congrArg nI ((hA8 dr hd).1)) c775

set_option maxHeartbeats 8000000 in
set_option maxRecDepth 100000 in
theorem l_alive {k : VK} (l : Launch) (hfl : l.flags = flags0) (D : va_G) (cI cJ cZ : ClassId) (qo : Nat) (qx qm : Nat → Nat) (R C : Nat) (hG : GS R C) (LL : List Nat) (hMt : Mth R C LL) (b L : Nat) (xs : Nat → Int32) (hL : L ≤ 258) (hX : SX k b L xs) (hZ : ZX k.2.2.1.1 k.1.2.2.1 k.2.2.1.2) (i cs ss : Nat) (hi : i + 4 ≤ L) (hcs : cs ≤ 10000) (hss : ss ≤ 100000) (ov : Nat → Int64) (dr sz : Nat) (sa : Bool) (cu fi st : Nat → Nat) (lo hi_ : Nat → Option Nat) (wa sw : Nat → Nat) (mth : Nat) (mkn mme : Bool) (mns mhe mnx mnl : Nat) (mlp mso mwi mus mho mnh : Nat → Nat) (mke : Nat → Int64) (mta mde : Nat → Nat) (mse : Nat → Bool) (hd : dr < 2 ^ nE R C) (hcu : CU R C cu) (hIx : XI0 R C cu sa sz fi st lo hi_ wa dr) (hIm : MI R C LL cu mkn mme mns mnl mlp mso mwi mus mde mse (rv dr))  (hk : ∀ (ov2 : Nat → Int64) (th2 d2 : Nat) (cu2 : Nat → Nat) (u1 u2 : va_W), d2 < 2 ^ nE R C → CU R C cu2 → OW cI cJ cZ qo qx R C ov2 d2 cu2 u1 → MW cI cJ cZ qm R C LL th2 (rv d2) cu2 u2 → V k l D (tys3 cI cJ cZ) room_1 cL_law 7 RL (u1 ++ u2) (cs + 1) (ss + 6) 905 [(0, .ref (b)), (1, .ref (qx 0)), (2, .ref (qm 0)), (3, .ref (qo)), (4, .int (nI (i)))] []) : V k l D (tys3 cI cJ cZ) room_1 cL_law 7 RL (wZ cI cJ cZ qo qx qm R C ov dr sz sa cu fi st lo hi_ wa sw mth mkn mme mns mhe mnx (rv dr) mnl mlp cu mso mwi mus mho mnh mke mta mde mse) (cs) (ss) 780 [(0, .ref (b)), (1, .ref (qx 0)), (2, .ref (qm 0)), (3, .ref (qo)), (4, .int (nI (i)))] [] := by
  obtain ⟨hLO, hND, hA, hB, hB2, hCc⟩ := hMt
  obtain ⟨hx, hMo, hA1, hA2, hA6, hA8⟩ := hCc cu hcu
  have hE := hG.E
  obtain ⟨hr31, hpop, hil⟩ := hA dr hd
  refine j_aload_n dL_law_780 rfl 1 rfl ?_
  refine j_callV (mc := 0) (ms := 0) (wc := wX cI cZ qx R C dr sz sa cu fi st lo hi_ wa sw) (wr := (qo, .inl (cJ, 1, .inr (.inl ov))) :: wM cI cJ cZ qm R C mth mkn mme mns mhe mnx (rv dr) mnl mlp cu mso mwi mus mho mnh mke mta mde mse) (tys3 := tys3 cI cJ cZ) (av := []) (rest := []) (c_alive l hfl D cI cJ cZ qx R C hG dr sz sa cu fi st lo hi_ wa sw hx hIx.1 hIx.2) 1 rfl rfl mw1_194 mw1_195 mw1_196 mw1_1 mw1_197 ⟨rfl, hd_X2_alive⟩ rfl ⟨rfl, rfl⟩ ⟨Nat.le_of_ble_eq_true rfl, Nat.le_of_ble_eq_true rfl⟩ (⟨show cs + 0 ≤ 600128 by omega, show ss + 0 ≤ 7301064 by omega⟩) (Nat.le_of_ble_eq_true rfl) [1, 2, 3, 4, 5, 6, 7, 8, 9, 10, 11, 12, 13] [0, 14, 15, 16, 17, 18, 19, 20, 21, 22, 23, 24, 25, 26, 27, 28, 29, 30, 31, 32, 33, 34] rfl rfl rfl rfl (by decide) (fun _ h _ => h) rfl dL_law_781 ?_
  rintro _ _ ⟨rfl, sz2, fi2, st2, lo2, hi2, wa2, hg2, hW2, rfl⟩
  have hI2 : XI0 R C cu false sz2 fi2 st2 lo2 hi2 wa2 dr := ⟨fun _ => ⟨hg2, hW2⟩, hIx.2⟩
  refine j_cut (w2 := wZ cI cJ cZ qo qx qm R C ov dr sz2 false cu fi2 st2 lo2 hi2 wa2 sw mth mkn mme mns mhe mnx (rv dr) mnl mlp cu mso mwi mus mho mnh mke mta mde mse) [0, 22, 23, 24, 25, 26, 27, 28, 29, 30, 31, 32, 33, 34, 1, 2, 3, 4, 5, 6, 7, 8, 9, 10, 11, 12, 13, 14, 15, 16, 17, 18, 19, 20, 21] rfl rfl ?_
  show V k l D (tys3 cI cJ cZ) room_1 cL_law 7 RL (wZ cI cJ cZ qo qx qm R C ov dr sz2 false cu fi2 st2 lo2 hi2 wa2 sw mth mkn mme mns mhe mnx (rv dr) mnl mlp cu mso mwi mus mho mnh mke mta mde mse) (cs) (ss) 784 [(0, .ref (b)), (1, .ref (qx 0)), (2, .ref (qm 0)), (3, .ref (qo)), (4, .int (nI (i)))] [.int (nI (alA R C cu dr (nE R C) 0 1672))]
  refine j_aload_n dL_law_784 rfl 2 rfl ?_
  refine j_callV (mc := 0) (ms := 0) (wc := wM cI cJ cZ qm R C mth mkn mme mns mhe mnx (rv dr) mnl mlp cu mso mwi mus mho mnh mke mta mde mse) (wr := wO cI cJ cZ qo qx R C ov dr sz2 false cu fi2 st2 lo2 hi2 wa2 sw) (tys3 := tys3 cI cJ cZ) (av := []) (rest := [.int (nI (alA R C cu dr (nE R C) 0 1672))]) (cm_alive l hfl D cI cJ cZ qm R C hG mth mkn mme mns mhe mnx (rv dr) mnl mlp cu mso mwi mus mho mnh mke mta mde mse LL hLO hMo hIm ) 14 rfl rfl mw3_230 mw3_231 mw3_232 mw1_4 mw3_233 ⟨rfl, hd_X3_alive⟩ rfl ⟨rfl, rfl⟩ ⟨Nat.le_of_ble_eq_true rfl, Nat.le_of_ble_eq_true rfl⟩ (⟨show cs + 0 ≤ 600128 by omega, show ss + 0 ≤ 7301064 by omega⟩) (Nat.le_of_ble_eq_true rfl) [14, 15, 16, 17, 18, 19, 20, 21, 22, 23, 24, 25, 26, 27, 28, 29, 30, 31, 32, 33, 34] [0, 1, 2, 3, 4, 5, 6, 7, 8, 9, 10, 11, 12, 13] rfl rfl rfl rfl (by decide) (fun _ h _ => h) rfl dL_law_785 ?_
  rintro _ _ ⟨rfl, hMW⟩
  obtain ⟨kn3, me3, ns3, he3, nx3, nl3, lp3, so3, wi3, us3, ho3, nh3, ke3, ta3, de3, se3, hI3, rfl⟩ := hMW
  show V k l D (tys3 cI cJ cZ) room_1 cL_law 7 RL (wZ cI cJ cZ qo qx qm R C ov dr sz2 false cu fi2 st2 lo2 hi2 wa2 sw 0 kn3 me3 ns3 he3 nx3 (rv dr) nl3 lp3 cu so3 wi3 us3 ho3 nh3 ke3 ta3 de3 se3) (cs) (ss) 788 [(0, .ref (b)), (1, .ref (qx 0)), (2, .ref (qm 0)), (3, .ref (qo)), (4, .int (nI (i)))] [.int (nI (mAl R C (rv dr) cu (nE R C))), .int (nI (alA R C cu dr (nE R C) 0 1672))]
  refine j_icmp_eq (tgt := 905) dL_law_788 (by decide) (fun c788 => ?_) (fun c788 => ?_)
  · refine j_widen (k2 := cs + 1) (n2 := ss + 6) (by omega) (by omega) ?_
    exact hk ov 0 dr cu _ _ hd hcu ⟨sz2, false, fi2, st2, lo2, hi2, wa2, sw, hI2, rfl⟩ (MW_of hI3)
  · exact absurd (congrArg nI ((hA8 dr hd).2.2.2)) c788

set_option maxHeartbeats 8000000 in
set_option maxRecDepth 100000 in
theorem l_point_false {k : VK} (l : Launch) (hfl : l.flags = flags0) (D : va_G) (cI cJ cZ : ClassId) (qo : Nat) (qx qm : Nat → Nat) (R C : Nat) (hG : GS R C) (LL : List Nat) (hMt : Mth R C LL) (b L : Nat) (xs : Nat → Int32) (hL : L ≤ 258) (hX : SX k b L xs) (hZ : ZX k.2.2.1.1 k.1.2.2.1 k.2.2.1.2) (i cs ss : Nat) (hi : i + 4 ≤ L) (hcs : cs ≤ 10000) (hss : ss ≤ 100000) (ov : Nat → Int64) (dr sz : Nat) (sa : Bool) (cu fi st : Nat → Nat) (lo hi_ : Nat → Option Nat) (wa sw : Nat → Nat) (mth : Nat) (mkn mme : Bool) (mns mhe mnx mnl : Nat) (mlp mso mwi mus mho mnh : Nat → Nat) (mke : Nat → Int64) (mta mde : Nat → Nat) (mse : Nat → Bool) (hd : dr < 2 ^ nE R C) (hcu : CU R C cu) (hIx : XI0 R C cu sa sz fi st lo hi_ wa dr) (hIm : MI R C LL cu mkn mme mns mnl mlp mso mwi mus mde mse (rv dr)) (hb2 : xs (i + 2) = 0) (e : Nat) (hee : e < nE R C) (h1 : xs (i + 1) = nI e) (hk : ∀ (ov2 : Nat → Int64) (th2 d2 : Nat) (cu2 : Nat → Nat) (u1 u2 : va_W), d2 < 2 ^ nE R C → CU R C cu2 → OW cI cJ cZ qo qx R C ov2 d2 cu2 u1 → MW cI cJ cZ qm R C LL th2 (rv d2) cu2 u2 → V k l D (tys3 cI cJ cZ) room_1 cL_law 7 RL (u1 ++ u2) (cs + 1) (ss + 6) 905 [(0, .ref (b)), (1, .ref (qx 0)), (2, .ref (qm 0)), (3, .ref (qo)), (4, .int (nI (i)))] []) : V k l D (tys3 cI cJ cZ) room_1 cL_law 7 RL (wZ cI cJ cZ qo qx qm R C ov dr sz sa cu fi st lo hi_ wa sw mth mkn mme mns mhe mnx (rv dr) mnl mlp cu mso mwi mus mho mnh mke mta mde mse) (cs) (ss) 157 [(0, .ref (b)), (1, .ref (qx 0)), (2, .ref (qm 0)), (3, .ref (qo)), (4, .int (nI (i)))] [] := by
  obtain ⟨hLO, hND, hA, hB, hB2, hCc⟩ := hMt
  obtain ⟨hx, hMo, hA1, hA2, hA6, hA8⟩ := hCc cu hcu
  have hE := hG.E
  obtain ⟨hr31, hpop, hil⟩ := hA dr hd
  refine j_aload_n dL_law_157 rfl 1 rfl ?_
  refine j_aload_n dL_law_158 rfl 0 rfl ?_
  refine j_iload dL_law_159 4 rfl ?_
  refine j_iconst (v := nI (1)) dL_law_161 (by decide) ?_
  refine jn_iadd (v := i + 1) dL_law_162 rfl ?_
  refine j_sld hX (by omega) (by omega) dL_law_163 ?_
  refine j_topi (y := nI (e)) (h1) ?_
  refine j_aload_n dL_law_164 rfl 0 rfl ?_
  refine j_iload dL_law_165 4 rfl ?_
  refine j_iconst (v := nI (2)) dL_law_167 (by decide) ?_
  refine jn_iadd (v := i + 2) dL_law_168 rfl ?_
  refine j_sld hX (by omega) (by omega) dL_law_169 ?_
  refine j_if_eq (tgt := 177) dL_law_170 (by decide) (fun c170 => ?_) (fun c170 => ?_)
  · refine j_iconst (v := nI (0)) dL_law_177 (by decide) ?_
    refine j_aload_n dL_law_178 rfl 3 rfl ?_
    refine j_st (st' := [.ref (qo), .int (bI (false)), .int (nI (e)), .ref (qx 0)]) (by rfl) ?_
    refine j_callSW (mc := 1) (ms := 6) (wc := wO cI cJ cZ qo qx R C ov dr sz sa cu fi st lo hi_ wa sw) (wr := wM cI cJ cZ qm R C mth mkn mme mns mhe mnx (rv dr) mnl mlp cu mso mwi mus mho mnh mke mta mde mse) (av := [.ref (qx 0), .int (nI (e)), .int (bI (false)), .ref (qo)]) (rest := []) (w_point l hfl D cI cJ cZ qo qx R C hG dr sz sa cu fi st lo hi_ wa sw ov hx hIx e hee false) mw1_205 mw1_206 mw1_0 mw1_207 hd_L_point rfl ⟨rfl, rfl⟩ ⟨Nat.le_of_ble_eq_true rfl, Nat.le_of_ble_eq_true rfl⟩ (⟨show cs + 1 ≤ 600128 by omega, show ss + 6 ≤ 7301064 by omega⟩) (Nat.le_of_ble_eq_true rfl) [0, 1, 2, 3, 4, 5, 6, 7, 8, 9, 10, 11, 12, 13] [14, 15, 16, 17, 18, 19, 20, 21, 22, 23, 24, 25, 26, 27, 28, 29, 30, 31, 32, 33, 34] rfl rfl rfl rfl (by decide) hZ rfl dL_law_179 ?_
    rintro _ _ ⟨rfl, sz2, sa2, fi2, st2, lo2, hi2, wa2, sw2, hI2, rfl⟩
    refine j_cut (w2 := wZ cI cJ cZ qo qx qm R C (va_up ov 0 ((nI (if false then mHigh R C e else mLow R C e)).toInt64)) dr sz2 sa2 cu fi2 st2 lo2 hi2 wa2 sw2 mth mkn mme mns mhe mnx (rv dr) mnl mlp cu mso mwi mus mho mnh mke mta mde mse) [21, 22, 23, 24, 25, 26, 27, 28, 29, 30, 31, 32, 33, 34, 0, 1, 2, 3, 4, 5, 6, 7, 8, 9, 10, 11, 12, 13, 14, 15, 16, 17, 18, 19, 20] rfl rfl ?_
    show V k l D (tys3 cI cJ cZ) room_1 cL_law 7 RL (wZ cI cJ cZ qo qx qm R C (va_up ov 0 ((nI (if false then mHigh R C e else mLow R C e)).toInt64)) dr sz2 sa2 cu fi2 st2 lo2 hi2 wa2 sw2 mth mkn mme mns mhe mnx (rv dr) mnl mlp cu mso mwi mus mho mnh mke mta mde mse) (cs + 1) (ss + 6) 182 [(0, .ref (b)), (1, .ref (qx 0)), (2, .ref (qm 0)), (3, .ref (qo)), (4, .int (nI (i)))] [.int (nI (0))]
    refine j_istore [(5, .int (nI (0))), (0, .ref (b)), (1, .ref (qx 0)), (2, .ref (qm 0)), (3, .ref (qo)), (4, .int (nI (i)))] dL_law_182 (by decide) rfl ?_
    refine j_aload_n dL_law_184 rfl 3 rfl ?_
    refine j_aload_n dL_law_185 rfl 1 rfl ?_
    refine j_iload dL_law_186 5 rfl ?_
    refine j_iconst (v := nI (1)) dL_law_188 (by decide) ?_
    refine jn_iadd (v := i + 1) dL_law_189 rfl ?_
    refine j_sld hX (by omega) (by omega) dL_law_190 ?_
    refine j_topi (y := nI (e)) (h1) ?_
    refine j_aload_n dL_law_191 rfl 1 rfl ?_
    refine j_iload dL_law_192 5 rfl ?_
    refine j_iconst (v := nI (2)) dL_law_194 (by decide) ?_
    refine jn_iadd (v := i + 2) dL_law_195 rfl ?_
    refine j_sld hX (by omega) (by omega) dL_law_196 ?_
    refine j_if_eq (tgt := 204) dL_law_197 (by decide) (fun c197 => ?_) (fun c197 => ?_)
    · refine j_iconst (v := nI (0)) dL_law_204 (by decide) ?_
      refine j_st (st' := [.int (bI (false)), .int (nI (e)), .ref (qm 0)]) (by rfl) ?_
      refine j_callV (mc := 0) (ms := 0) (wc := wM cI cJ cZ qm R C mth mkn mme mns mhe mnx (rv dr) mnl mlp cu mso mwi mus mho mnh mke mta mde mse) (wr := wO cI cJ cZ qo qx R C (va_up ov 0 ((nI (if false then mHigh R C e else mLow R C e)).toInt64)) dr sz2 sa2 cu fi2 st2 lo2 hi2 wa2 sw2) (tys3 := tys3 cI cJ cZ) (av := [.int (nI (e)), .int (bI (false))]) (rest := []) (cm_point l hfl D cI cJ cZ qm R C hG mth mkn mme mns mhe mnx (rv dr) mnl mlp cu mso mwi mus mho mnh mke mta mde mse LL hLO hMo hIm e hee false) 14 rfl rfl mw3_113 mw3_114 mw3_115 mw1_4 mw3_116 ⟨rfl, hd_X3_point⟩ rfl ⟨rfl, rfl⟩ ⟨Nat.le_of_ble_eq_true rfl, Nat.le_of_ble_eq_true rfl⟩ (⟨show cs + 1 + 0 ≤ 600128 by omega, show ss + 6 + 0 ≤ 7301064 by omega⟩) (Nat.le_of_ble_eq_true rfl) [14, 15, 16, 17, 18, 19, 20, 21, 22, 23, 24, 25, 26, 27, 28, 29, 30, 31, 32, 33, 34] [0, 1, 2, 3, 4, 5, 6, 7, 8, 9, 10, 11, 12, 13] rfl rfl rfl rfl (by decide) (fun _ h _ => h) rfl dL_law_205 ?_
      rintro _ _ ⟨rfl, hMW⟩
      obtain ⟨kn3, me3, ns3, he3, nx3, nl3, lp3, so3, wi3, us3, ho3, nh3, ke3, ta3, de3, se3, hI3, rfl⟩ := hMW
      show V k l D (tys3 cI cJ cZ) room_1 cL_law 7 RL (wZ cI cJ cZ qo qx qm R C (va_up ov 0 ((nI (if false then mHigh R C e else mLow R C e)).toInt64)) dr sz2 sa2 cu fi2 st2 lo2 hi2 wa2 sw2 0 kn3 me3 ns3 he3 nx3 (rv dr) nl3 lp3 cu so3 wi3 us3 ho3 nh3 ke3 ta3 de3 se3) (cs + 1) (ss + 6) 208 [(5, .int (nI (0))), (0, .ref (b)), (1, .ref (qx 0)), (2, .ref (qm 0)), (3, .ref (qo)), (4, .int (nI (i)))] [.int (nI (if false then mHigh R C e else mLow R C e))]
      refine j_istore [(6, .int (nI (if false then mHigh R C e else mLow R C e))), (5, .int (nI (0))), (0, .ref (b)), (1, .ref (qx 0)), (2, .ref (qm 0)), (3, .ref (qo)), (4, .int (nI (i)))] dL_law_208 (by decide) rfl ?_
      refine j_aload_n dL_law_210 rfl 4 rfl ?_
      refine j_callV (mc := 0) (ms := 0) (wc := wM cI cJ cZ qm R C 0 kn3 me3 ns3 he3 nx3 (rv dr) nl3 lp3 cu so3 wi3 us3 ho3 nh3 ke3 ta3 de3 se3) (wr := wO cI cJ cZ qo qx R C (va_up ov 0 ((nI (if false then mHigh R C e else mLow R C e)).toInt64)) dr sz2 sa2 cu fi2 st2 lo2 hi2 wa2 sw2) (tys3 := tys3 cI cJ cZ) (av := []) (rest := []) (cm_thrown l hfl D cI cJ cZ qm R C hG 0 kn3 me3 ns3 he3 nx3 (rv dr) nl3 lp3 cu so3 wi3 us3 ho3 nh3 ke3 ta3 de3 se3) 14 rfl rfl mw3_105 mw3_106 mw3_107 mw1_4 mw3_108 ⟨rfl, hd_X3_thrown⟩ rfl ⟨rfl, rfl⟩ ⟨Nat.le_of_ble_eq_true rfl, Nat.le_of_ble_eq_true rfl⟩ (⟨show cs + 1 + 0 ≤ 600128 by omega, show ss + 6 + 0 ≤ 7301064 by omega⟩) (Nat.le_of_ble_eq_true rfl) [14, 15, 16, 17, 18, 19, 20, 21, 22, 23, 24, 25, 26, 27, 28, 29, 30, 31, 32, 33, 34] [0, 1, 2, 3, 4, 5, 6, 7, 8, 9, 10, 11, 12, 13] rfl rfl rfl rfl (by decide) (fun _ h _ => h) rfl dL_law_211 ?_
      rintro _ _ ⟨rfl, rfl⟩
      show V k l D (tys3 cI cJ cZ) room_1 cL_law 7 RL (wZ cI cJ cZ qo qx qm R C (va_up ov 0 ((nI (if false then mHigh R C e else mLow R C e)).toInt64)) dr sz2 sa2 cu fi2 st2 lo2 hi2 wa2 sw2 0 kn3 me3 ns3 he3 nx3 (rv dr) nl3 lp3 cu so3 wi3 us3 ho3 nh3 ke3 ta3 de3 se3) (cs + 1) (ss + 6) 214 [(6, .int (nI (if false then mHigh R C e else mLow R C e))), (5, .int (nI (0))), (0, .ref (b)), (1, .ref (qx 0)), (2, .ref (qm 0)), (3, .ref (qo)), (4, .int (nI (i)))] [.int (nI (0))]
      refine j_iload dL_law_214 1 rfl ?_
      refine jn_icmp_eq (tgt := 221) (a := 0) (b := 0) (by omega) (by omega) dL_law_216 (by decide) (fun c216 => ?_) (fun c216 => ?_)
      · refine j_iload dL_law_221 1 rfl ?_
        refine jn_if_ne (tgt := 238) (a := 0) (by omega) dL_law_223 (by decide) (fun c223 => ?_) (fun c223 => ?_)
        · exact absurd c223 (by first | decide | omega)
        · refine j_aload_n dL_law_226 rfl 5 rfl ?_
          refine j_iconst (v := nI (0)) dL_law_227 (by decide) ?_
          refine jn_lald (v := (nI (if false then mHigh R C e else mLow R C e)).toInt64) 0 1 rfl rfl (by omega) (by omega) (by exact va_up_self _ _ _) dL_law_228 ?_
          refine j_iload dL_law_229 0 rfl ?_
          refine j_i2l dL_law_231 rfl ?_
          refine j_lcmp dL_law_232 rfl ?_
          refine j_if_eq (tgt := 238) dL_law_233 (by decide) (fun c233 => ?_) (fun c233 => ?_)
          · refine j_goto (tgt := 905) dL_law_238 (by decide) ?_
            refine j_sub [2, 3, 4, 5, 6] [(0, .ref (b)), (1, .ref (qx 0)), (2, .ref (qm 0)), (3, .ref (qo)), (4, .int (nI (i)))] rfl ?_
            exact hk (va_up ov 0 ((nI (if false then mHigh R C e else mLow R C e)).toInt64)) 0 dr cu _ _ hd hcu ⟨sz2, sa2, fi2, st2, lo2, hi2, wa2, sw2, hI2, rfl⟩ (MW_of hI3)
          · exact absurd ((lg_cmp_eq _ _).mpr (rfl)) c233
      · exact absurd c216 (by first | decide | omega)
    · exact absurd hb2 c197
  · exact absurd hb2 c170

set_option maxHeartbeats 8000000 in
set_option maxRecDepth 100000 in
theorem l_pointX_false {k : VK} (l : Launch) (hfl : l.flags = flags0) (D : va_G) (cI cJ cZ : ClassId) (qo : Nat) (qx qm : Nat → Nat) (R C : Nat) (hG : GS R C) (LL : List Nat) (hMt : Mth R C LL) (b L : Nat) (xs : Nat → Int32) (hL : L ≤ 258) (hX : SX k b L xs) (hZ : ZX k.2.2.1.1 k.1.2.2.1 k.2.2.1.2) (i cs ss : Nat) (hi : i + 4 ≤ L) (hcs : cs ≤ 10000) (hss : ss ≤ 100000) (ov : Nat → Int64) (dr sz : Nat) (sa : Bool) (cu fi st : Nat → Nat) (lo hi_ : Nat → Option Nat) (wa sw : Nat → Nat) (mth : Nat) (mkn mme : Bool) (mns mhe mnx mnl : Nat) (mlp mso mwi mus mho mnh : Nat → Nat) (mke : Nat → Int64) (mta mde : Nat → Nat) (mse : Nat → Bool) (hd : dr < 2 ^ nE R C) (hcu : CU R C cu) (hIx : XI0 R C cu sa sz fi st lo hi_ wa dr) (hIm : MI R C LL cu mkn mme mns mnl mlp mso mwi mus mde mse (rv dr)) (hb2 : xs (i + 2) = 0) (h1 : inB (nE R C) (xs (i + 1)) = false) (hk : ∀ (ov2 : Nat → Int64) (th2 d2 : Nat) (cu2 : Nat → Nat) (u1 u2 : va_W), d2 < 2 ^ nE R C → CU R C cu2 → OW cI cJ cZ qo qx R C ov2 d2 cu2 u1 → MW cI cJ cZ qm R C LL th2 (rv d2) cu2 u2 → V k l D (tys3 cI cJ cZ) room_1 cL_law 7 RL (u1 ++ u2) (cs + 1) (ss + 6) 905 [(0, .ref (b)), (1, .ref (qx 0)), (2, .ref (qm 0)), (3, .ref (qo)), (4, .int (nI (i)))] []) : V k l D (tys3 cI cJ cZ) room_1 cL_law 7 RL (wZ cI cJ cZ qo qx qm R C ov dr sz sa cu fi st lo hi_ wa sw mth mkn mme mns mhe mnx (rv dr) mnl mlp cu mso mwi mus mho mnh mke mta mde mse) (cs) (ss) 157 [(0, .ref (b)), (1, .ref (qx 0)), (2, .ref (qm 0)), (3, .ref (qo)), (4, .int (nI (i)))] [] := by
  obtain ⟨hLO, hND, hA, hB, hB2, hCc⟩ := hMt
  obtain ⟨hx, hMo, hA1, hA2, hA6, hA8⟩ := hCc cu hcu
  have hE := hG.E
  obtain ⟨hr31, hpop, hil⟩ := hA dr hd
  refine j_aload_n dL_law_157 rfl 1 rfl ?_
  refine j_aload_n dL_law_158 rfl 0 rfl ?_
  refine j_iload dL_law_159 4 rfl ?_
  refine j_iconst (v := nI (1)) dL_law_161 (by decide) ?_
  refine jn_iadd (v := i + 1) dL_law_162 rfl ?_
  refine j_sld hX (by omega) (by omega) dL_law_163 ?_
  refine j_aload_n dL_law_164 rfl 0 rfl ?_
  refine j_iload dL_law_165 4 rfl ?_
  refine j_iconst (v := nI (2)) dL_law_167 (by decide) ?_
  refine jn_iadd (v := i + 2) dL_law_168 rfl ?_
  refine j_sld hX (by omega) (by omega) dL_law_169 ?_
  refine j_if_eq (tgt := 177) dL_law_170 (by decide) (fun c170 => ?_) (fun c170 => ?_)
  · refine j_iconst (v := nI (0)) dL_law_177 (by decide) ?_
    refine j_aload_n dL_law_178 rfl 3 rfl ?_
    refine j_st (st' := [.ref (qo), .int (bI (false)), .int ((xs (i + 1))), .ref (qx 0)]) (by rfl) ?_
    refine j_callSW (mc := 1) (ms := 6) (wc := wO cI cJ cZ qo qx R C ov dr sz sa cu fi st lo hi_ wa sw) (wr := wM cI cJ cZ qm R C mth mkn mme mns mhe mnx (rv dr) mnl mlp cu mso mwi mus mho mnh mke mta mde mse) (av := [.ref (qx 0), .int ((xs (i + 1))), .int (bI (false)), .ref (qo)]) (rest := []) (w_pointX l hfl D cI cJ cZ qo qx R C hG dr sz sa cu fi st lo hi_ wa sw ov hx hIx (xs (i + 1)) h1 false) mw1_205 mw1_206 mw1_0 mw1_207 hd_L_point rfl ⟨rfl, rfl⟩ ⟨Nat.le_of_ble_eq_true rfl, Nat.le_of_ble_eq_true rfl⟩ (⟨show cs + 1 ≤ 600128 by omega, show ss + 6 ≤ 7301064 by omega⟩) (Nat.le_of_ble_eq_true rfl) [0, 1, 2, 3, 4, 5, 6, 7, 8, 9, 10, 11, 12, 13] [14, 15, 16, 17, 18, 19, 20, 21, 22, 23, 24, 25, 26, 27, 28, 29, 30, 31, 32, 33, 34] rfl rfl rfl rfl (by decide) hZ rfl dL_law_179 ?_
    rintro _ _ ⟨rfl, sz2, sa2, fi2, st2, lo2, hi2, wa2, sw2, hI2, rfl⟩
    refine j_cut (w2 := wZ cI cJ cZ qo qx qm R C ov dr sz2 sa2 cu fi2 st2 lo2 hi2 wa2 sw2 mth mkn mme mns mhe mnx (rv dr) mnl mlp cu mso mwi mus mho mnh mke mta mde mse) [21, 22, 23, 24, 25, 26, 27, 28, 29, 30, 31, 32, 33, 34, 0, 1, 2, 3, 4, 5, 6, 7, 8, 9, 10, 11, 12, 13, 14, 15, 16, 17, 18, 19, 20] rfl rfl ?_
    show V k l D (tys3 cI cJ cZ) room_1 cL_law 7 RL (wZ cI cJ cZ qo qx qm R C ov dr sz2 sa2 cu fi2 st2 lo2 hi2 wa2 sw2 mth mkn mme mns mhe mnx (rv dr) mnl mlp cu mso mwi mus mho mnh mke mta mde mse) (cs + 1) (ss + 6) 182 [(0, .ref (b)), (1, .ref (qx 0)), (2, .ref (qm 0)), (3, .ref (qo)), (4, .int (nI (i)))] [.int (nI (1))]
    refine j_istore [(5, .int (nI (1))), (0, .ref (b)), (1, .ref (qx 0)), (2, .ref (qm 0)), (3, .ref (qo)), (4, .int (nI (i)))] dL_law_182 (by decide) rfl ?_
    refine j_aload_n dL_law_184 rfl 3 rfl ?_
    refine j_aload_n dL_law_185 rfl 1 rfl ?_
    refine j_iload dL_law_186 5 rfl ?_
    refine j_iconst (v := nI (1)) dL_law_188 (by decide) ?_
    refine jn_iadd (v := i + 1) dL_law_189 rfl ?_
    refine j_sld hX (by omega) (by omega) dL_law_190 ?_
    refine j_aload_n dL_law_191 rfl 1 rfl ?_
    refine j_iload dL_law_192 5 rfl ?_
    refine j_iconst (v := nI (2)) dL_law_194 (by decide) ?_
    refine jn_iadd (v := i + 2) dL_law_195 rfl ?_
    refine j_sld hX (by omega) (by omega) dL_law_196 ?_
    refine j_if_eq (tgt := 204) dL_law_197 (by decide) (fun c197 => ?_) (fun c197 => ?_)
    · refine j_iconst (v := nI (0)) dL_law_204 (by decide) ?_
      refine j_st (st' := [.int (bI (false)), .int ((xs (i + 1))), .ref (qm 0)]) (by rfl) ?_
      refine j_callV (mc := 0) (ms := 0) (wc := wM cI cJ cZ qm R C mth mkn mme mns mhe mnx (rv dr) mnl mlp cu mso mwi mus mho mnh mke mta mde mse) (wr := wO cI cJ cZ qo qx R C ov dr sz2 sa2 cu fi2 st2 lo2 hi2 wa2 sw2) (tys3 := tys3 cI cJ cZ) (av := [.int ((xs (i + 1))), .int (bI (false))]) (rest := []) (cm_pointX l hfl D cI cJ cZ qm R C hG mth mkn mme mns mhe mnx (rv dr) mnl mlp cu mso mwi mus mho mnh mke mta mde mse LL hLO hMo hIm (xs (i + 1)) h1 false) 14 rfl rfl mw3_113 mw3_114 mw3_115 mw1_4 mw3_116 ⟨rfl, hd_X3_point⟩ rfl ⟨rfl, rfl⟩ ⟨Nat.le_of_ble_eq_true rfl, Nat.le_of_ble_eq_true rfl⟩ (⟨show cs + 1 + 0 ≤ 600128 by omega, show ss + 6 + 0 ≤ 7301064 by omega⟩) (Nat.le_of_ble_eq_true rfl) [14, 15, 16, 17, 18, 19, 20, 21, 22, 23, 24, 25, 26, 27, 28, 29, 30, 31, 32, 33, 34] [0, 1, 2, 3, 4, 5, 6, 7, 8, 9, 10, 11, 12, 13] rfl rfl rfl rfl (by decide) (fun _ h _ => h) rfl dL_law_205 ?_
      rintro _ _ ⟨rfl, hMW⟩
      obtain ⟨kn3, me3, ns3, he3, nx3, nl3, lp3, so3, wi3, us3, ho3, nh3, ke3, ta3, de3, se3, hI3, rfl⟩ := hMW
      show V k l D (tys3 cI cJ cZ) room_1 cL_law 7 RL (wZ cI cJ cZ qo qx qm R C ov dr sz2 sa2 cu fi2 st2 lo2 hi2 wa2 sw2 1 kn3 me3 ns3 he3 nx3 (rv dr) nl3 lp3 cu so3 wi3 us3 ho3 nh3 ke3 ta3 de3 se3) (cs + 1) (ss + 6) 208 [(5, .int (nI (1))), (0, .ref (b)), (1, .ref (qx 0)), (2, .ref (qm 0)), (3, .ref (qo)), (4, .int (nI (i)))] [.int (nI (0))]
      refine j_istore [(6, .int (nI (0))), (5, .int (nI (1))), (0, .ref (b)), (1, .ref (qx 0)), (2, .ref (qm 0)), (3, .ref (qo)), (4, .int (nI (i)))] dL_law_208 (by decide) rfl ?_
      refine j_aload_n dL_law_210 rfl 4 rfl ?_
      refine j_callV (mc := 0) (ms := 0) (wc := wM cI cJ cZ qm R C 1 kn3 me3 ns3 he3 nx3 (rv dr) nl3 lp3 cu so3 wi3 us3 ho3 nh3 ke3 ta3 de3 se3) (wr := wO cI cJ cZ qo qx R C ov dr sz2 sa2 cu fi2 st2 lo2 hi2 wa2 sw2) (tys3 := tys3 cI cJ cZ) (av := []) (rest := []) (cm_thrown l hfl D cI cJ cZ qm R C hG 1 kn3 me3 ns3 he3 nx3 (rv dr) nl3 lp3 cu so3 wi3 us3 ho3 nh3 ke3 ta3 de3 se3) 14 rfl rfl mw3_105 mw3_106 mw3_107 mw1_4 mw3_108 ⟨rfl, hd_X3_thrown⟩ rfl ⟨rfl, rfl⟩ ⟨Nat.le_of_ble_eq_true rfl, Nat.le_of_ble_eq_true rfl⟩ (⟨show cs + 1 + 0 ≤ 600128 by omega, show ss + 6 + 0 ≤ 7301064 by omega⟩) (Nat.le_of_ble_eq_true rfl) [14, 15, 16, 17, 18, 19, 20, 21, 22, 23, 24, 25, 26, 27, 28, 29, 30, 31, 32, 33, 34] [0, 1, 2, 3, 4, 5, 6, 7, 8, 9, 10, 11, 12, 13] rfl rfl rfl rfl (by decide) (fun _ h _ => h) rfl dL_law_211 ?_
      rintro _ _ ⟨rfl, rfl⟩
      show V k l D (tys3 cI cJ cZ) room_1 cL_law 7 RL (wZ cI cJ cZ qo qx qm R C ov dr sz2 sa2 cu fi2 st2 lo2 hi2 wa2 sw2 1 kn3 me3 ns3 he3 nx3 (rv dr) nl3 lp3 cu so3 wi3 us3 ho3 nh3 ke3 ta3 de3 se3) (cs + 1) (ss + 6) 214 [(6, .int (nI (0))), (5, .int (nI (1))), (0, .ref (b)), (1, .ref (qx 0)), (2, .ref (qm 0)), (3, .ref (qo)), (4, .int (nI (i)))] [.int (nI (1))]
      refine j_iload dL_law_214 1 rfl ?_
      refine jn_icmp_eq (tgt := 221) (a := 1) (b := 1) (by omega) (by omega) dL_law_216 (by decide) (fun c216 => ?_) (fun c216 => ?_)
      · refine j_iload dL_law_221 1 rfl ?_
        refine jn_if_ne (tgt := 238) (a := 1) (by omega) dL_law_223 (by decide) (fun c223 => ?_) (fun c223 => ?_)
        · refine j_goto (tgt := 905) dL_law_238 (by decide) ?_
          refine j_sub [2, 3, 4, 5, 6] [(0, .ref (b)), (1, .ref (qx 0)), (2, .ref (qm 0)), (3, .ref (qo)), (4, .int (nI (i)))] rfl ?_
          exact hk ov 1 dr cu _ _ hd hcu ⟨sz2, sa2, fi2, st2, lo2, hi2, wa2, sw2, hI2, rfl⟩ (MW_of hI3)
        · exact absurd c223 (by first | decide | omega)
      · exact absurd c216 (by first | decide | omega)
    · exact absurd hb2 c197
  · exact absurd hb2 c170

set_option maxHeartbeats 8000000 in
set_option maxRecDepth 100000 in
theorem l_width_false {k : VK} (l : Launch) (hfl : l.flags = flags0) (D : va_G) (cI cJ cZ : ClassId) (qo : Nat) (qx qm : Nat → Nat) (R C : Nat) (hG : GS R C) (LL : List Nat) (hMt : Mth R C LL) (b L : Nat) (xs : Nat → Int32) (hL : L ≤ 258) (hX : SX k b L xs) (hZ : ZX k.2.2.1.1 k.1.2.2.1 k.2.2.1.2) (i cs ss : Nat) (hi : i + 4 ≤ L) (hcs : cs ≤ 10000) (hss : ss ≤ 100000) (ov : Nat → Int64) (dr sz : Nat) (sa : Bool) (cu fi st : Nat → Nat) (lo hi_ : Nat → Option Nat) (wa sw : Nat → Nat) (mth : Nat) (mkn mme : Bool) (mns mhe mnx mnl : Nat) (mlp mso mwi mus mho mnh : Nat → Nat) (mke : Nat → Int64) (mta mde : Nat → Nat) (mse : Nat → Bool) (hd : dr < 2 ^ nE R C) (hcu : CU R C cu) (hIx : XI0 R C cu sa sz fi st lo hi_ wa dr) (hIm : MI R C LL cu mkn mme mns mnl mlp mso mwi mus mde mse (rv dr)) (hb2 : xs (i + 2) = 0) (kq : Nat) (hkq : kq ≤ nE R C) (h1 : xs (i + 1) = nI kq) (hk : ∀ (ov2 : Nat → Int64) (th2 d2 : Nat) (cu2 : Nat → Nat) (u1 u2 : va_W), d2 < 2 ^ nE R C → CU R C cu2 → OW cI cJ cZ qo qx R C ov2 d2 cu2 u1 → MW cI cJ cZ qm R C LL th2 (rv d2) cu2 u2 → V k l D (tys3 cI cJ cZ) room_1 cL_law 7 RL (u1 ++ u2) (cs + 1) (ss + 6) 905 [(0, .ref (b)), (1, .ref (qx 0)), (2, .ref (qm 0)), (3, .ref (qo)), (4, .int (nI (i)))] []) : V k l D (tys3 cI cJ cZ) room_1 cL_law 7 RL (wZ cI cJ cZ qo qx qm R C ov dr sz sa cu fi st lo hi_ wa sw mth mkn mme mns mhe mnx (rv dr) mnl mlp cu mso mwi mus mho mnh mke mta mde mse) (cs) (ss) 314 [(0, .ref (b)), (1, .ref (qx 0)), (2, .ref (qm 0)), (3, .ref (qo)), (4, .int (nI (i)))] [] := by
  obtain ⟨hLO, hND, hA, hB, hB2, hCc⟩ := hMt
  obtain ⟨hx, hMo, hA1, hA2, hA6, hA8⟩ := hCc cu hcu
  have hE := hG.E
  obtain ⟨hr31, hpop, hil⟩ := hA dr hd
  refine j_aload_n dL_law_314 rfl 1 rfl ?_
  refine j_aload_n dL_law_315 rfl 0 rfl ?_
  refine j_iload dL_law_316 4 rfl ?_
  refine j_iconst (v := nI (1)) dL_law_318 (by decide) ?_
  refine jn_iadd (v := i + 1) dL_law_319 rfl ?_
  refine j_sld hX (by omega) (by omega) dL_law_320 ?_
  refine j_topi (y := nI (kq)) (h1) ?_
  refine j_aload_n dL_law_321 rfl 0 rfl ?_
  refine j_iload dL_law_322 4 rfl ?_
  refine j_iconst (v := nI (2)) dL_law_324 (by decide) ?_
  refine jn_iadd (v := i + 2) dL_law_325 rfl ?_
  refine j_sld hX (by omega) (by omega) dL_law_326 ?_
  refine j_if_eq (tgt := 334) dL_law_327 (by decide) (fun c327 => ?_) (fun c327 => ?_)
  · refine j_iconst (v := nI (0)) dL_law_334 (by decide) ?_
    refine j_aload_n dL_law_335 rfl 3 rfl ?_
    refine j_st (st' := [.ref (qo), .int (bI (false)), .int (nI (kq)), .ref (qx 0)]) (by rfl) ?_
    refine j_callSW (mc := 1) (ms := 6) (wc := wO cI cJ cZ qo qx R C ov dr sz sa cu fi st lo hi_ wa sw) (wr := wM cI cJ cZ qm R C mth mkn mme mns mhe mnx (rv dr) mnl mlp cu mso mwi mus mho mnh mke mta mde mse) (av := [.ref (qx 0), .int (nI (kq)), .int (bI (false)), .ref (qo)]) (rest := []) (w_width l hfl D cI cJ cZ qo qx R C hG dr sz sa cu fi st lo hi_ wa sw ov hx hIx kq hkq false) mw2_72 mw2_73 mw1_0 mw2_74 hd_L_width rfl ⟨rfl, rfl⟩ ⟨Nat.le_of_ble_eq_true rfl, Nat.le_of_ble_eq_true rfl⟩ (⟨show cs + 1 ≤ 600128 by omega, show ss + 6 ≤ 7301064 by omega⟩) (Nat.le_of_ble_eq_true rfl) [0, 1, 2, 3, 4, 5, 6, 7, 8, 9, 10, 11, 12, 13] [14, 15, 16, 17, 18, 19, 20, 21, 22, 23, 24, 25, 26, 27, 28, 29, 30, 31, 32, 33, 34] rfl rfl rfl rfl (by decide) hZ rfl dL_law_336 ?_
    rintro _ _ ⟨rfl, sz2, sa2, fi2, st2, lo2, hi2, wa2, sw2, hI2, rfl⟩
    refine j_cut (w2 := wZ cI cJ cZ qo qx qm R C (va_up ov 0 ((nI (if false then usA R C cu kq (LvS R C cu kq).length else (LvS R C cu kq).length)).toInt64)) dr sz2 sa2 cu fi2 st2 lo2 hi2 wa2 sw2 mth mkn mme mns mhe mnx (rv dr) mnl mlp cu mso mwi mus mho mnh mke mta mde mse) [21, 22, 23, 24, 25, 26, 27, 28, 29, 30, 31, 32, 33, 34, 0, 1, 2, 3, 4, 5, 6, 7, 8, 9, 10, 11, 12, 13, 14, 15, 16, 17, 18, 19, 20] rfl rfl ?_
    show V k l D (tys3 cI cJ cZ) room_1 cL_law 7 RL (wZ cI cJ cZ qo qx qm R C (va_up ov 0 ((nI (if false then usA R C cu kq (LvS R C cu kq).length else (LvS R C cu kq).length)).toInt64)) dr sz2 sa2 cu fi2 st2 lo2 hi2 wa2 sw2 mth mkn mme mns mhe mnx (rv dr) mnl mlp cu mso mwi mus mho mnh mke mta mde mse) (cs + 1) (ss + 6) 339 [(0, .ref (b)), (1, .ref (qx 0)), (2, .ref (qm 0)), (3, .ref (qo)), (4, .int (nI (i)))] [.int (nI (0))]
    refine j_istore [(5, .int (nI (0))), (0, .ref (b)), (1, .ref (qx 0)), (2, .ref (qm 0)), (3, .ref (qo)), (4, .int (nI (i)))] dL_law_339 (by decide) rfl ?_
    refine j_aload_n dL_law_341 rfl 3 rfl ?_
    refine j_aload_n dL_law_342 rfl 1 rfl ?_
    refine j_iload dL_law_343 5 rfl ?_
    refine j_iconst (v := nI (1)) dL_law_345 (by decide) ?_
    refine jn_iadd (v := i + 1) dL_law_346 rfl ?_
    refine j_sld hX (by omega) (by omega) dL_law_347 ?_
    refine j_topi (y := nI (kq)) (h1) ?_
    refine j_aload_n dL_law_348 rfl 1 rfl ?_
    refine j_iload dL_law_349 5 rfl ?_
    refine j_iconst (v := nI (2)) dL_law_351 (by decide) ?_
    refine jn_iadd (v := i + 2) dL_law_352 rfl ?_
    refine j_sld hX (by omega) (by omega) dL_law_353 ?_
    refine j_if_eq (tgt := 361) dL_law_354 (by decide) (fun c354 => ?_) (fun c354 => ?_)
    · refine j_iconst (v := nI (0)) dL_law_361 (by decide) ?_
      refine j_st (st' := [.int (bI (false)), .int (nI (kq)), .ref (qm 0)]) (by rfl) ?_
      refine j_callV (mc := 0) (ms := 0) (wc := wM cI cJ cZ qm R C mth mkn mme mns mhe mnx (rv dr) mnl mlp cu mso mwi mus mho mnh mke mta mde mse) (wr := wO cI cJ cZ qo qx R C (va_up ov 0 ((nI (if false then usA R C cu kq (LvS R C cu kq).length else (LvS R C cu kq).length)).toInt64)) dr sz2 sa2 cu fi2 st2 lo2 hi2 wa2 sw2) (tys3 := tys3 cI cJ cZ) (av := [.int (nI (kq)), .int (bI (false))]) (rest := []) (cm_width l hfl D cI cJ cZ qm R C hG mth mkn mme mns mhe mnx (rv dr) mnl mlp cu mso mwi mus mho mnh mke mta mde mse LL hLO hMo hIm kq hkq false) 14 rfl rfl mw3_145 mw3_146 mw3_147 mw1_4 mw3_148 ⟨rfl, hd_X3_width⟩ rfl ⟨rfl, rfl⟩ ⟨Nat.le_of_ble_eq_true rfl, Nat.le_of_ble_eq_true rfl⟩ (⟨show cs + 1 + 0 ≤ 600128 by omega, show ss + 6 + 0 ≤ 7301064 by omega⟩) (Nat.le_of_ble_eq_true rfl) [14, 15, 16, 17, 18, 19, 20, 21, 22, 23, 24, 25, 26, 27, 28, 29, 30, 31, 32, 33, 34] [0, 1, 2, 3, 4, 5, 6, 7, 8, 9, 10, 11, 12, 13] rfl rfl rfl rfl (by decide) (fun _ h _ => h) rfl dL_law_362 ?_
      rintro _ _ ⟨rfl, hMW⟩
      obtain ⟨kn3, me3, ns3, he3, nx3, nl3, lp3, so3, wi3, us3, ho3, nh3, ke3, ta3, de3, se3, hI3, rfl⟩ := hMW
      show V k l D (tys3 cI cJ cZ) room_1 cL_law 7 RL (wZ cI cJ cZ qo qx qm R C (va_up ov 0 ((nI (if false then usA R C cu kq (LvS R C cu kq).length else (LvS R C cu kq).length)).toInt64)) dr sz2 sa2 cu fi2 st2 lo2 hi2 wa2 sw2 0 kn3 me3 ns3 he3 nx3 (rv dr) nl3 lp3 cu so3 wi3 us3 ho3 nh3 ke3 ta3 de3 se3) (cs + 1) (ss + 6) 365 [(5, .int (nI (0))), (0, .ref (b)), (1, .ref (qx 0)), (2, .ref (qm 0)), (3, .ref (qo)), (4, .int (nI (i)))] [.int (nI (if false then usM R C cu (sol R C cu LL) kq else (Lm R C cu kq).length))]
      refine j_istore [(6, .int (nI (if false then usM R C cu (sol R C cu LL) kq else (Lm R C cu kq).length))), (5, .int (nI (0))), (0, .ref (b)), (1, .ref (qx 0)), (2, .ref (qm 0)), (3, .ref (qo)), (4, .int (nI (i)))] dL_law_365 (by decide) rfl ?_
      refine j_aload_n dL_law_367 rfl 4 rfl ?_
      refine j_callV (mc := 0) (ms := 0) (wc := wM cI cJ cZ qm R C 0 kn3 me3 ns3 he3 nx3 (rv dr) nl3 lp3 cu so3 wi3 us3 ho3 nh3 ke3 ta3 de3 se3) (wr := wO cI cJ cZ qo qx R C (va_up ov 0 ((nI (if false then usA R C cu kq (LvS R C cu kq).length else (LvS R C cu kq).length)).toInt64)) dr sz2 sa2 cu fi2 st2 lo2 hi2 wa2 sw2) (tys3 := tys3 cI cJ cZ) (av := []) (rest := []) (cm_thrown l hfl D cI cJ cZ qm R C hG 0 kn3 me3 ns3 he3 nx3 (rv dr) nl3 lp3 cu so3 wi3 us3 ho3 nh3 ke3 ta3 de3 se3) 14 rfl rfl mw3_105 mw3_106 mw3_107 mw1_4 mw3_108 ⟨rfl, hd_X3_thrown⟩ rfl ⟨rfl, rfl⟩ ⟨Nat.le_of_ble_eq_true rfl, Nat.le_of_ble_eq_true rfl⟩ (⟨show cs + 1 + 0 ≤ 600128 by omega, show ss + 6 + 0 ≤ 7301064 by omega⟩) (Nat.le_of_ble_eq_true rfl) [14, 15, 16, 17, 18, 19, 20, 21, 22, 23, 24, 25, 26, 27, 28, 29, 30, 31, 32, 33, 34] [0, 1, 2, 3, 4, 5, 6, 7, 8, 9, 10, 11, 12, 13] rfl rfl rfl rfl (by decide) (fun _ h _ => h) rfl dL_law_368 ?_
      rintro _ _ ⟨rfl, rfl⟩
      show V k l D (tys3 cI cJ cZ) room_1 cL_law 7 RL (wZ cI cJ cZ qo qx qm R C (va_up ov 0 ((nI (if false then usA R C cu kq (LvS R C cu kq).length else (LvS R C cu kq).length)).toInt64)) dr sz2 sa2 cu fi2 st2 lo2 hi2 wa2 sw2 0 kn3 me3 ns3 he3 nx3 (rv dr) nl3 lp3 cu so3 wi3 us3 ho3 nh3 ke3 ta3 de3 se3) (cs + 1) (ss + 6) 371 [(6, .int (nI (if false then usM R C cu (sol R C cu LL) kq else (Lm R C cu kq).length))), (5, .int (nI (0))), (0, .ref (b)), (1, .ref (qx 0)), (2, .ref (qm 0)), (3, .ref (qo)), (4, .int (nI (i)))] [.int (nI (0))]
      refine j_iload dL_law_371 1 rfl ?_
      refine jn_icmp_eq (tgt := 378) (a := 0) (b := 0) (by omega) (by omega) dL_law_373 (by decide) (fun c373 => ?_) (fun c373 => ?_)
      · refine j_iload dL_law_378 1 rfl ?_
        refine jn_if_ne (tgt := 395) (a := 0) (by omega) dL_law_380 (by decide) (fun c380 => ?_) (fun c380 => ?_)
        · exact absurd c380 (by first | decide | omega)
        · refine j_aload_n dL_law_383 rfl 5 rfl ?_
          refine j_iconst (v := nI (0)) dL_law_384 (by decide) ?_
          refine jn_lald (v := (nI (if false then usA R C cu kq (LvS R C cu kq).length else (LvS R C cu kq).length)).toInt64) 0 1 rfl rfl (by omega) (by omega) (by exact va_up_self _ _ _) dL_law_385 ?_
          refine j_iload dL_law_386 0 rfl ?_
          refine j_i2l dL_law_388 rfl ?_
          refine j_lcmp dL_law_389 rfl ?_
          refine j_if_eq (tgt := 395) dL_law_390 (by decide) (fun c390 => ?_) (fun c390 => ?_)
          · refine j_goto (tgt := 905) dL_law_395 (by decide) ?_
            refine j_sub [2, 3, 4, 5, 6] [(0, .ref (b)), (1, .ref (qx 0)), (2, .ref (qm 0)), (3, .ref (qo)), (4, .int (nI (i)))] rfl ?_
            exact hk (va_up ov 0 ((nI (if false then usA R C cu kq (LvS R C cu kq).length else (LvS R C cu kq).length)).toInt64)) 0 dr cu _ _ hd hcu ⟨sz2, sa2, fi2, st2, lo2, hi2, wa2, sw2, hI2, rfl⟩ (MW_of hI3)
          · exact absurd ((lg_cmp_eq _ _).mpr (by rw [show (if false then usA R C cu kq (LvS R C cu kq).length else (LvS R C cu kq).length) = (if false then usM R C cu (sol R C cu LL) kq else (Lm R C cu kq).length) from (hA2 kq hkq).1])) c390
      · exact absurd c373 (by first | decide | omega)
    · exact absurd hb2 c354
  · exact absurd hb2 c327

set_option maxHeartbeats 8000000 in
set_option maxRecDepth 100000 in
theorem l_widthX_false {k : VK} (l : Launch) (hfl : l.flags = flags0) (D : va_G) (cI cJ cZ : ClassId) (qo : Nat) (qx qm : Nat → Nat) (R C : Nat) (hG : GS R C) (LL : List Nat) (hMt : Mth R C LL) (b L : Nat) (xs : Nat → Int32) (hL : L ≤ 258) (hX : SX k b L xs) (hZ : ZX k.2.2.1.1 k.1.2.2.1 k.2.2.1.2) (i cs ss : Nat) (hi : i + 4 ≤ L) (hcs : cs ≤ 10000) (hss : ss ≤ 100000) (ov : Nat → Int64) (dr sz : Nat) (sa : Bool) (cu fi st : Nat → Nat) (lo hi_ : Nat → Option Nat) (wa sw : Nat → Nat) (mth : Nat) (mkn mme : Bool) (mns mhe mnx mnl : Nat) (mlp mso mwi mus mho mnh : Nat → Nat) (mke : Nat → Int64) (mta mde : Nat → Nat) (mse : Nat → Bool) (hd : dr < 2 ^ nE R C) (hcu : CU R C cu) (hIx : XI0 R C cu sa sz fi st lo hi_ wa dr) (hIm : MI R C LL cu mkn mme mns mnl mlp mso mwi mus mde mse (rv dr)) (hb2 : xs (i + 2) = 0) (h1 : inB (nE R C + 1) (xs (i + 1)) = false) (hk : ∀ (ov2 : Nat → Int64) (th2 d2 : Nat) (cu2 : Nat → Nat) (u1 u2 : va_W), d2 < 2 ^ nE R C → CU R C cu2 → OW cI cJ cZ qo qx R C ov2 d2 cu2 u1 → MW cI cJ cZ qm R C LL th2 (rv d2) cu2 u2 → V k l D (tys3 cI cJ cZ) room_1 cL_law 7 RL (u1 ++ u2) (cs + 1) (ss + 6) 905 [(0, .ref (b)), (1, .ref (qx 0)), (2, .ref (qm 0)), (3, .ref (qo)), (4, .int (nI (i)))] []) : V k l D (tys3 cI cJ cZ) room_1 cL_law 7 RL (wZ cI cJ cZ qo qx qm R C ov dr sz sa cu fi st lo hi_ wa sw mth mkn mme mns mhe mnx (rv dr) mnl mlp cu mso mwi mus mho mnh mke mta mde mse) (cs) (ss) 314 [(0, .ref (b)), (1, .ref (qx 0)), (2, .ref (qm 0)), (3, .ref (qo)), (4, .int (nI (i)))] [] := by
  obtain ⟨hLO, hND, hA, hB, hB2, hCc⟩ := hMt
  obtain ⟨hx, hMo, hA1, hA2, hA6, hA8⟩ := hCc cu hcu
  have hE := hG.E
  obtain ⟨hr31, hpop, hil⟩ := hA dr hd
  refine j_aload_n dL_law_314 rfl 1 rfl ?_
  refine j_aload_n dL_law_315 rfl 0 rfl ?_
  refine j_iload dL_law_316 4 rfl ?_
  refine j_iconst (v := nI (1)) dL_law_318 (by decide) ?_
  refine jn_iadd (v := i + 1) dL_law_319 rfl ?_
  refine j_sld hX (by omega) (by omega) dL_law_320 ?_
  refine j_aload_n dL_law_321 rfl 0 rfl ?_
  refine j_iload dL_law_322 4 rfl ?_
  refine j_iconst (v := nI (2)) dL_law_324 (by decide) ?_
  refine jn_iadd (v := i + 2) dL_law_325 rfl ?_
  refine j_sld hX (by omega) (by omega) dL_law_326 ?_
  refine j_if_eq (tgt := 334) dL_law_327 (by decide) (fun c327 => ?_) (fun c327 => ?_)
  · refine j_iconst (v := nI (0)) dL_law_334 (by decide) ?_
    refine j_aload_n dL_law_335 rfl 3 rfl ?_
    refine j_st (st' := [.ref (qo), .int (bI (false)), .int ((xs (i + 1))), .ref (qx 0)]) (by rfl) ?_
    refine j_callSW (mc := 1) (ms := 6) (wc := wO cI cJ cZ qo qx R C ov dr sz sa cu fi st lo hi_ wa sw) (wr := wM cI cJ cZ qm R C mth mkn mme mns mhe mnx (rv dr) mnl mlp cu mso mwi mus mho mnh mke mta mde mse) (av := [.ref (qx 0), .int ((xs (i + 1))), .int (bI (false)), .ref (qo)]) (rest := []) (w_widthX l hfl D cI cJ cZ qo qx R C hG dr sz sa cu fi st lo hi_ wa sw ov hx hIx (xs (i + 1)) h1 false) mw2_72 mw2_73 mw1_0 mw2_74 hd_L_width rfl ⟨rfl, rfl⟩ ⟨Nat.le_of_ble_eq_true rfl, Nat.le_of_ble_eq_true rfl⟩ (⟨show cs + 1 ≤ 600128 by omega, show ss + 6 ≤ 7301064 by omega⟩) (Nat.le_of_ble_eq_true rfl) [0, 1, 2, 3, 4, 5, 6, 7, 8, 9, 10, 11, 12, 13] [14, 15, 16, 17, 18, 19, 20, 21, 22, 23, 24, 25, 26, 27, 28, 29, 30, 31, 32, 33, 34] rfl rfl rfl rfl (by decide) hZ rfl dL_law_336 ?_
    rintro _ _ ⟨rfl, sz2, sa2, fi2, st2, lo2, hi2, wa2, sw2, hI2, rfl⟩
    refine j_cut (w2 := wZ cI cJ cZ qo qx qm R C ov dr sz2 sa2 cu fi2 st2 lo2 hi2 wa2 sw2 mth mkn mme mns mhe mnx (rv dr) mnl mlp cu mso mwi mus mho mnh mke mta mde mse) [21, 22, 23, 24, 25, 26, 27, 28, 29, 30, 31, 32, 33, 34, 0, 1, 2, 3, 4, 5, 6, 7, 8, 9, 10, 11, 12, 13, 14, 15, 16, 17, 18, 19, 20] rfl rfl ?_
    show V k l D (tys3 cI cJ cZ) room_1 cL_law 7 RL (wZ cI cJ cZ qo qx qm R C ov dr sz2 sa2 cu fi2 st2 lo2 hi2 wa2 sw2 mth mkn mme mns mhe mnx (rv dr) mnl mlp cu mso mwi mus mho mnh mke mta mde mse) (cs + 1) (ss + 6) 339 [(0, .ref (b)), (1, .ref (qx 0)), (2, .ref (qm 0)), (3, .ref (qo)), (4, .int (nI (i)))] [.int (nI (1))]
    refine j_istore [(5, .int (nI (1))), (0, .ref (b)), (1, .ref (qx 0)), (2, .ref (qm 0)), (3, .ref (qo)), (4, .int (nI (i)))] dL_law_339 (by decide) rfl ?_
    refine j_aload_n dL_law_341 rfl 3 rfl ?_
    refine j_aload_n dL_law_342 rfl 1 rfl ?_
    refine j_iload dL_law_343 5 rfl ?_
    refine j_iconst (v := nI (1)) dL_law_345 (by decide) ?_
    refine jn_iadd (v := i + 1) dL_law_346 rfl ?_
    refine j_sld hX (by omega) (by omega) dL_law_347 ?_
    refine j_aload_n dL_law_348 rfl 1 rfl ?_
    refine j_iload dL_law_349 5 rfl ?_
    refine j_iconst (v := nI (2)) dL_law_351 (by decide) ?_
    refine jn_iadd (v := i + 2) dL_law_352 rfl ?_
    refine j_sld hX (by omega) (by omega) dL_law_353 ?_
    refine j_if_eq (tgt := 361) dL_law_354 (by decide) (fun c354 => ?_) (fun c354 => ?_)
    · refine j_iconst (v := nI (0)) dL_law_361 (by decide) ?_
      refine j_st (st' := [.int (bI (false)), .int ((xs (i + 1))), .ref (qm 0)]) (by rfl) ?_
      refine j_callV (mc := 0) (ms := 0) (wc := wM cI cJ cZ qm R C mth mkn mme mns mhe mnx (rv dr) mnl mlp cu mso mwi mus mho mnh mke mta mde mse) (wr := wO cI cJ cZ qo qx R C ov dr sz2 sa2 cu fi2 st2 lo2 hi2 wa2 sw2) (tys3 := tys3 cI cJ cZ) (av := [.int ((xs (i + 1))), .int (bI (false))]) (rest := []) (cm_widthX l hfl D cI cJ cZ qm R C hG mth mkn mme mns mhe mnx (rv dr) mnl mlp cu mso mwi mus mho mnh mke mta mde mse LL hLO hMo hIm (xs (i + 1)) h1 false) 14 rfl rfl mw3_145 mw3_146 mw3_147 mw1_4 mw3_148 ⟨rfl, hd_X3_width⟩ rfl ⟨rfl, rfl⟩ ⟨Nat.le_of_ble_eq_true rfl, Nat.le_of_ble_eq_true rfl⟩ (⟨show cs + 1 + 0 ≤ 600128 by omega, show ss + 6 + 0 ≤ 7301064 by omega⟩) (Nat.le_of_ble_eq_true rfl) [14, 15, 16, 17, 18, 19, 20, 21, 22, 23, 24, 25, 26, 27, 28, 29, 30, 31, 32, 33, 34] [0, 1, 2, 3, 4, 5, 6, 7, 8, 9, 10, 11, 12, 13] rfl rfl rfl rfl (by decide) (fun _ h _ => h) rfl dL_law_362 ?_
      rintro _ _ ⟨rfl, hMW⟩
      obtain ⟨kn3, me3, ns3, he3, nx3, nl3, lp3, so3, wi3, us3, ho3, nh3, ke3, ta3, de3, se3, hI3, rfl⟩ := hMW
      show V k l D (tys3 cI cJ cZ) room_1 cL_law 7 RL (wZ cI cJ cZ qo qx qm R C ov dr sz2 sa2 cu fi2 st2 lo2 hi2 wa2 sw2 1 kn3 me3 ns3 he3 nx3 (rv dr) nl3 lp3 cu so3 wi3 us3 ho3 nh3 ke3 ta3 de3 se3) (cs + 1) (ss + 6) 365 [(5, .int (nI (1))), (0, .ref (b)), (1, .ref (qx 0)), (2, .ref (qm 0)), (3, .ref (qo)), (4, .int (nI (i)))] [.int (nI (0))]
      refine j_istore [(6, .int (nI (0))), (5, .int (nI (1))), (0, .ref (b)), (1, .ref (qx 0)), (2, .ref (qm 0)), (3, .ref (qo)), (4, .int (nI (i)))] dL_law_365 (by decide) rfl ?_
      refine j_aload_n dL_law_367 rfl 4 rfl ?_
      refine j_callV (mc := 0) (ms := 0) (wc := wM cI cJ cZ qm R C 1 kn3 me3 ns3 he3 nx3 (rv dr) nl3 lp3 cu so3 wi3 us3 ho3 nh3 ke3 ta3 de3 se3) (wr := wO cI cJ cZ qo qx R C ov dr sz2 sa2 cu fi2 st2 lo2 hi2 wa2 sw2) (tys3 := tys3 cI cJ cZ) (av := []) (rest := []) (cm_thrown l hfl D cI cJ cZ qm R C hG 1 kn3 me3 ns3 he3 nx3 (rv dr) nl3 lp3 cu so3 wi3 us3 ho3 nh3 ke3 ta3 de3 se3) 14 rfl rfl mw3_105 mw3_106 mw3_107 mw1_4 mw3_108 ⟨rfl, hd_X3_thrown⟩ rfl ⟨rfl, rfl⟩ ⟨Nat.le_of_ble_eq_true rfl, Nat.le_of_ble_eq_true rfl⟩ (⟨show cs + 1 + 0 ≤ 600128 by omega, show ss + 6 + 0 ≤ 7301064 by omega⟩) (Nat.le_of_ble_eq_true rfl) [14, 15, 16, 17, 18, 19, 20, 21, 22, 23, 24, 25, 26, 27, 28, 29, 30, 31, 32, 33, 34] [0, 1, 2, 3, 4, 5, 6, 7, 8, 9, 10, 11, 12, 13] rfl rfl rfl rfl (by decide) (fun _ h _ => h) rfl dL_law_368 ?_
      rintro _ _ ⟨rfl, rfl⟩
      show V k l D (tys3 cI cJ cZ) room_1 cL_law 7 RL (wZ cI cJ cZ qo qx qm R C ov dr sz2 sa2 cu fi2 st2 lo2 hi2 wa2 sw2 1 kn3 me3 ns3 he3 nx3 (rv dr) nl3 lp3 cu so3 wi3 us3 ho3 nh3 ke3 ta3 de3 se3) (cs + 1) (ss + 6) 371 [(6, .int (nI (0))), (5, .int (nI (1))), (0, .ref (b)), (1, .ref (qx 0)), (2, .ref (qm 0)), (3, .ref (qo)), (4, .int (nI (i)))] [.int (nI (1))]
      refine j_iload dL_law_371 1 rfl ?_
      refine jn_icmp_eq (tgt := 378) (a := 1) (b := 1) (by omega) (by omega) dL_law_373 (by decide) (fun c373 => ?_) (fun c373 => ?_)
      · refine j_iload dL_law_378 1 rfl ?_
        refine jn_if_ne (tgt := 395) (a := 1) (by omega) dL_law_380 (by decide) (fun c380 => ?_) (fun c380 => ?_)
        · refine j_goto (tgt := 905) dL_law_395 (by decide) ?_
          refine j_sub [2, 3, 4, 5, 6] [(0, .ref (b)), (1, .ref (qx 0)), (2, .ref (qm 0)), (3, .ref (qo)), (4, .int (nI (i)))] rfl ?_
          exact hk ov 1 dr cu _ _ hd hcu ⟨sz2, sa2, fi2, st2, lo2, hi2, wa2, sw2, hI2, rfl⟩ (MW_of hI3)
        · exact absurd c380 (by first | decide | omega)
      · exact absurd c373 (by first | decide | omega)
    · exact absurd hb2 c354
  · exact absurd hb2 c327

set_option maxHeartbeats 8000000 in
set_option maxRecDepth 100000 in
theorem l_point_true {k : VK} (l : Launch) (hfl : l.flags = flags0) (D : va_G) (cI cJ cZ : ClassId) (qo : Nat) (qx qm : Nat → Nat) (R C : Nat) (hG : GS R C) (LL : List Nat) (hMt : Mth R C LL) (b L : Nat) (xs : Nat → Int32) (hL : L ≤ 258) (hX : SX k b L xs) (hZ : ZX k.2.2.1.1 k.1.2.2.1 k.2.2.1.2) (i cs ss : Nat) (hi : i + 4 ≤ L) (hcs : cs ≤ 10000) (hss : ss ≤ 100000) (ov : Nat → Int64) (dr sz : Nat) (sa : Bool) (cu fi st : Nat → Nat) (lo hi_ : Nat → Option Nat) (wa sw : Nat → Nat) (mth : Nat) (mkn mme : Bool) (mns mhe mnx mnl : Nat) (mlp mso mwi mus mho mnh : Nat → Nat) (mke : Nat → Int64) (mta mde : Nat → Nat) (mse : Nat → Bool) (hd : dr < 2 ^ nE R C) (hcu : CU R C cu) (hIx : XI0 R C cu sa sz fi st lo hi_ wa dr) (hIm : MI R C LL cu mkn mme mns mnl mlp mso mwi mus mde mse (rv dr)) (hb2 : xs (i + 2) ≠ 0) (e : Nat) (hee : e < nE R C) (h1 : xs (i + 1) = nI e) (hk : ∀ (ov2 : Nat → Int64) (th2 d2 : Nat) (cu2 : Nat → Nat) (u1 u2 : va_W), d2 < 2 ^ nE R C → CU R C cu2 → OW cI cJ cZ qo qx R C ov2 d2 cu2 u1 → MW cI cJ cZ qm R C LL th2 (rv d2) cu2 u2 → V k l D (tys3 cI cJ cZ) room_1 cL_law 7 RL (u1 ++ u2) (cs + 1) (ss + 6) 905 [(0, .ref (b)), (1, .ref (qx 0)), (2, .ref (qm 0)), (3, .ref (qo)), (4, .int (nI (i)))] []) : V k l D (tys3 cI cJ cZ) room_1 cL_law 7 RL (wZ cI cJ cZ qo qx qm R C ov dr sz sa cu fi st lo hi_ wa sw mth mkn mme mns mhe mnx (rv dr) mnl mlp cu mso mwi mus mho mnh mke mta mde mse) (cs) (ss) 157 [(0, .ref (b)), (1, .ref (qx 0)), (2, .ref (qm 0)), (3, .ref (qo)), (4, .int (nI (i)))] [] := by
  obtain ⟨hLO, hND, hA, hB, hB2, hCc⟩ := hMt
  obtain ⟨hx, hMo, hA1, hA2, hA6, hA8⟩ := hCc cu hcu
  have hE := hG.E
  obtain ⟨hr31, hpop, hil⟩ := hA dr hd
  refine j_aload_n dL_law_157 rfl 1 rfl ?_
  refine j_aload_n dL_law_158 rfl 0 rfl ?_
  refine j_iload dL_law_159 4 rfl ?_
  refine j_iconst (v := nI (1)) dL_law_161 (by decide) ?_
  refine jn_iadd (v := i + 1) dL_law_162 rfl ?_
  refine j_sld hX (by omega) (by omega) dL_law_163 ?_
  refine j_topi (y := nI (e)) (h1) ?_
  refine j_aload_n dL_law_164 rfl 0 rfl ?_
  refine j_iload dL_law_165 4 rfl ?_
  refine j_iconst (v := nI (2)) dL_law_167 (by decide) ?_
  refine jn_iadd (v := i + 2) dL_law_168 rfl ?_
  refine j_sld hX (by omega) (by omega) dL_law_169 ?_
  refine j_if_eq (tgt := 177) dL_law_170 (by decide) (fun c170 => ?_) (fun c170 => ?_)
  · exact absurd c170 hb2
  · refine j_iconst (v := nI (1)) dL_law_173 (by decide) ?_
    refine j_goto (tgt := 178) dL_law_174 (by decide) ?_
    refine j_aload_n dL_law_178 rfl 3 rfl ?_
    refine j_st (st' := [.ref (qo), .int (bI (true)), .int (nI (e)), .ref (qx 0)]) (by rfl) ?_
    refine j_callSW (mc := 1) (ms := 6) (wc := wO cI cJ cZ qo qx R C ov dr sz sa cu fi st lo hi_ wa sw) (wr := wM cI cJ cZ qm R C mth mkn mme mns mhe mnx (rv dr) mnl mlp cu mso mwi mus mho mnh mke mta mde mse) (av := [.ref (qx 0), .int (nI (e)), .int (bI (true)), .ref (qo)]) (rest := []) (w_point l hfl D cI cJ cZ qo qx R C hG dr sz sa cu fi st lo hi_ wa sw ov hx hIx e hee true) mw1_205 mw1_206 mw1_0 mw1_207 hd_L_point rfl ⟨rfl, rfl⟩ ⟨Nat.le_of_ble_eq_true rfl, Nat.le_of_ble_eq_true rfl⟩ (⟨show cs + 1 ≤ 600128 by omega, show ss + 6 ≤ 7301064 by omega⟩) (Nat.le_of_ble_eq_true rfl) [0, 1, 2, 3, 4, 5, 6, 7, 8, 9, 10, 11, 12, 13] [14, 15, 16, 17, 18, 19, 20, 21, 22, 23, 24, 25, 26, 27, 28, 29, 30, 31, 32, 33, 34] rfl rfl rfl rfl (by decide) hZ rfl dL_law_179 ?_
    rintro _ _ ⟨rfl, sz2, sa2, fi2, st2, lo2, hi2, wa2, sw2, hI2, rfl⟩
    refine j_cut (w2 := wZ cI cJ cZ qo qx qm R C (va_up ov 0 ((nI (if true then mHigh R C e else mLow R C e)).toInt64)) dr sz2 sa2 cu fi2 st2 lo2 hi2 wa2 sw2 mth mkn mme mns mhe mnx (rv dr) mnl mlp cu mso mwi mus mho mnh mke mta mde mse) [21, 22, 23, 24, 25, 26, 27, 28, 29, 30, 31, 32, 33, 34, 0, 1, 2, 3, 4, 5, 6, 7, 8, 9, 10, 11, 12, 13, 14, 15, 16, 17, 18, 19, 20] rfl rfl ?_
    show V k l D (tys3 cI cJ cZ) room_1 cL_law 7 RL (wZ cI cJ cZ qo qx qm R C (va_up ov 0 ((nI (if true then mHigh R C e else mLow R C e)).toInt64)) dr sz2 sa2 cu fi2 st2 lo2 hi2 wa2 sw2 mth mkn mme mns mhe mnx (rv dr) mnl mlp cu mso mwi mus mho mnh mke mta mde mse) (cs + 1) (ss + 6) 182 [(0, .ref (b)), (1, .ref (qx 0)), (2, .ref (qm 0)), (3, .ref (qo)), (4, .int (nI (i)))] [.int (nI (0))]
    refine j_istore [(5, .int (nI (0))), (0, .ref (b)), (1, .ref (qx 0)), (2, .ref (qm 0)), (3, .ref (qo)), (4, .int (nI (i)))] dL_law_182 (by decide) rfl ?_
    refine j_aload_n dL_law_184 rfl 3 rfl ?_
    refine j_aload_n dL_law_185 rfl 1 rfl ?_
    refine j_iload dL_law_186 5 rfl ?_
    refine j_iconst (v := nI (1)) dL_law_188 (by decide) ?_
    refine jn_iadd (v := i + 1) dL_law_189 rfl ?_
    refine j_sld hX (by omega) (by omega) dL_law_190 ?_
    refine j_topi (y := nI (e)) (h1) ?_
    refine j_aload_n dL_law_191 rfl 1 rfl ?_
    refine j_iload dL_law_192 5 rfl ?_
    refine j_iconst (v := nI (2)) dL_law_194 (by decide) ?_
    refine jn_iadd (v := i + 2) dL_law_195 rfl ?_
    refine j_sld hX (by omega) (by omega) dL_law_196 ?_
    refine j_if_eq (tgt := 204) dL_law_197 (by decide) (fun c197 => ?_) (fun c197 => ?_)
    · exact absurd c197 hb2
    · refine j_iconst (v := nI (1)) dL_law_200 (by decide) ?_
      refine j_goto (tgt := 205) dL_law_201 (by decide) ?_
      refine j_st (st' := [.int (bI (true)), .int (nI (e)), .ref (qm 0)]) (by rfl) ?_
      refine j_callV (mc := 0) (ms := 0) (wc := wM cI cJ cZ qm R C mth mkn mme mns mhe mnx (rv dr) mnl mlp cu mso mwi mus mho mnh mke mta mde mse) (wr := wO cI cJ cZ qo qx R C (va_up ov 0 ((nI (if true then mHigh R C e else mLow R C e)).toInt64)) dr sz2 sa2 cu fi2 st2 lo2 hi2 wa2 sw2) (tys3 := tys3 cI cJ cZ) (av := [.int (nI (e)), .int (bI (true))]) (rest := []) (cm_point l hfl D cI cJ cZ qm R C hG mth mkn mme mns mhe mnx (rv dr) mnl mlp cu mso mwi mus mho mnh mke mta mde mse LL hLO hMo hIm e hee true) 14 rfl rfl mw3_113 mw3_114 mw3_115 mw1_4 mw3_116 ⟨rfl, hd_X3_point⟩ rfl ⟨rfl, rfl⟩ ⟨Nat.le_of_ble_eq_true rfl, Nat.le_of_ble_eq_true rfl⟩ (⟨show cs + 1 + 0 ≤ 600128 by omega, show ss + 6 + 0 ≤ 7301064 by omega⟩) (Nat.le_of_ble_eq_true rfl) [14, 15, 16, 17, 18, 19, 20, 21, 22, 23, 24, 25, 26, 27, 28, 29, 30, 31, 32, 33, 34] [0, 1, 2, 3, 4, 5, 6, 7, 8, 9, 10, 11, 12, 13] rfl rfl rfl rfl (by decide) (fun _ h _ => h) rfl dL_law_205 ?_
      rintro _ _ ⟨rfl, hMW⟩
      obtain ⟨kn3, me3, ns3, he3, nx3, nl3, lp3, so3, wi3, us3, ho3, nh3, ke3, ta3, de3, se3, hI3, rfl⟩ := hMW
      show V k l D (tys3 cI cJ cZ) room_1 cL_law 7 RL (wZ cI cJ cZ qo qx qm R C (va_up ov 0 ((nI (if true then mHigh R C e else mLow R C e)).toInt64)) dr sz2 sa2 cu fi2 st2 lo2 hi2 wa2 sw2 0 kn3 me3 ns3 he3 nx3 (rv dr) nl3 lp3 cu so3 wi3 us3 ho3 nh3 ke3 ta3 de3 se3) (cs + 1) (ss + 6) 208 [(5, .int (nI (0))), (0, .ref (b)), (1, .ref (qx 0)), (2, .ref (qm 0)), (3, .ref (qo)), (4, .int (nI (i)))] [.int (nI (if true then mHigh R C e else mLow R C e))]
      refine j_istore [(6, .int (nI (if true then mHigh R C e else mLow R C e))), (5, .int (nI (0))), (0, .ref (b)), (1, .ref (qx 0)), (2, .ref (qm 0)), (3, .ref (qo)), (4, .int (nI (i)))] dL_law_208 (by decide) rfl ?_
      refine j_aload_n dL_law_210 rfl 4 rfl ?_
      refine j_callV (mc := 0) (ms := 0) (wc := wM cI cJ cZ qm R C 0 kn3 me3 ns3 he3 nx3 (rv dr) nl3 lp3 cu so3 wi3 us3 ho3 nh3 ke3 ta3 de3 se3) (wr := wO cI cJ cZ qo qx R C (va_up ov 0 ((nI (if true then mHigh R C e else mLow R C e)).toInt64)) dr sz2 sa2 cu fi2 st2 lo2 hi2 wa2 sw2) (tys3 := tys3 cI cJ cZ) (av := []) (rest := []) (cm_thrown l hfl D cI cJ cZ qm R C hG 0 kn3 me3 ns3 he3 nx3 (rv dr) nl3 lp3 cu so3 wi3 us3 ho3 nh3 ke3 ta3 de3 se3) 14 rfl rfl mw3_105 mw3_106 mw3_107 mw1_4 mw3_108 ⟨rfl, hd_X3_thrown⟩ rfl ⟨rfl, rfl⟩ ⟨Nat.le_of_ble_eq_true rfl, Nat.le_of_ble_eq_true rfl⟩ (⟨show cs + 1 + 0 ≤ 600128 by omega, show ss + 6 + 0 ≤ 7301064 by omega⟩) (Nat.le_of_ble_eq_true rfl) [14, 15, 16, 17, 18, 19, 20, 21, 22, 23, 24, 25, 26, 27, 28, 29, 30, 31, 32, 33, 34] [0, 1, 2, 3, 4, 5, 6, 7, 8, 9, 10, 11, 12, 13] rfl rfl rfl rfl (by decide) (fun _ h _ => h) rfl dL_law_211 ?_
      rintro _ _ ⟨rfl, rfl⟩
      show V k l D (tys3 cI cJ cZ) room_1 cL_law 7 RL (wZ cI cJ cZ qo qx qm R C (va_up ov 0 ((nI (if true then mHigh R C e else mLow R C e)).toInt64)) dr sz2 sa2 cu fi2 st2 lo2 hi2 wa2 sw2 0 kn3 me3 ns3 he3 nx3 (rv dr) nl3 lp3 cu so3 wi3 us3 ho3 nh3 ke3 ta3 de3 se3) (cs + 1) (ss + 6) 214 [(6, .int (nI (if true then mHigh R C e else mLow R C e))), (5, .int (nI (0))), (0, .ref (b)), (1, .ref (qx 0)), (2, .ref (qm 0)), (3, .ref (qo)), (4, .int (nI (i)))] [.int (nI (0))]
      refine j_iload dL_law_214 1 rfl ?_
      refine jn_icmp_eq (tgt := 221) (a := 0) (b := 0) (by omega) (by omega) dL_law_216 (by decide) (fun c216 => ?_) (fun c216 => ?_)
      · refine j_iload dL_law_221 1 rfl ?_
        refine jn_if_ne (tgt := 238) (a := 0) (by omega) dL_law_223 (by decide) (fun c223 => ?_) (fun c223 => ?_)
        · exact absurd c223 (by first | decide | omega)
        · refine j_aload_n dL_law_226 rfl 5 rfl ?_
          refine j_iconst (v := nI (0)) dL_law_227 (by decide) ?_
          refine jn_lald (v := (nI (if true then mHigh R C e else mLow R C e)).toInt64) 0 1 rfl rfl (by omega) (by omega) (by exact va_up_self _ _ _) dL_law_228 ?_
          refine j_iload dL_law_229 0 rfl ?_
          refine j_i2l dL_law_231 rfl ?_
          refine j_lcmp dL_law_232 rfl ?_
          refine j_if_eq (tgt := 238) dL_law_233 (by decide) (fun c233 => ?_) (fun c233 => ?_)
          · refine j_goto (tgt := 905) dL_law_238 (by decide) ?_
            refine j_sub [2, 3, 4, 5, 6] [(0, .ref (b)), (1, .ref (qx 0)), (2, .ref (qm 0)), (3, .ref (qo)), (4, .int (nI (i)))] rfl ?_
            exact hk (va_up ov 0 ((nI (if true then mHigh R C e else mLow R C e)).toInt64)) 0 dr cu _ _ hd hcu ⟨sz2, sa2, fi2, st2, lo2, hi2, wa2, sw2, hI2, rfl⟩ (MW_of hI3)
          · exact absurd ((lg_cmp_eq _ _).mpr (rfl)) c233
      · exact absurd c216 (by first | decide | omega)

set_option maxHeartbeats 8000000 in
set_option maxRecDepth 100000 in
theorem l_pointX_true {k : VK} (l : Launch) (hfl : l.flags = flags0) (D : va_G) (cI cJ cZ : ClassId) (qo : Nat) (qx qm : Nat → Nat) (R C : Nat) (hG : GS R C) (LL : List Nat) (hMt : Mth R C LL) (b L : Nat) (xs : Nat → Int32) (hL : L ≤ 258) (hX : SX k b L xs) (hZ : ZX k.2.2.1.1 k.1.2.2.1 k.2.2.1.2) (i cs ss : Nat) (hi : i + 4 ≤ L) (hcs : cs ≤ 10000) (hss : ss ≤ 100000) (ov : Nat → Int64) (dr sz : Nat) (sa : Bool) (cu fi st : Nat → Nat) (lo hi_ : Nat → Option Nat) (wa sw : Nat → Nat) (mth : Nat) (mkn mme : Bool) (mns mhe mnx mnl : Nat) (mlp mso mwi mus mho mnh : Nat → Nat) (mke : Nat → Int64) (mta mde : Nat → Nat) (mse : Nat → Bool) (hd : dr < 2 ^ nE R C) (hcu : CU R C cu) (hIx : XI0 R C cu sa sz fi st lo hi_ wa dr) (hIm : MI R C LL cu mkn mme mns mnl mlp mso mwi mus mde mse (rv dr)) (hb2 : xs (i + 2) ≠ 0) (h1 : inB (nE R C) (xs (i + 1)) = false) (hk : ∀ (ov2 : Nat → Int64) (th2 d2 : Nat) (cu2 : Nat → Nat) (u1 u2 : va_W), d2 < 2 ^ nE R C → CU R C cu2 → OW cI cJ cZ qo qx R C ov2 d2 cu2 u1 → MW cI cJ cZ qm R C LL th2 (rv d2) cu2 u2 → V k l D (tys3 cI cJ cZ) room_1 cL_law 7 RL (u1 ++ u2) (cs + 1) (ss + 6) 905 [(0, .ref (b)), (1, .ref (qx 0)), (2, .ref (qm 0)), (3, .ref (qo)), (4, .int (nI (i)))] []) : V k l D (tys3 cI cJ cZ) room_1 cL_law 7 RL (wZ cI cJ cZ qo qx qm R C ov dr sz sa cu fi st lo hi_ wa sw mth mkn mme mns mhe mnx (rv dr) mnl mlp cu mso mwi mus mho mnh mke mta mde mse) (cs) (ss) 157 [(0, .ref (b)), (1, .ref (qx 0)), (2, .ref (qm 0)), (3, .ref (qo)), (4, .int (nI (i)))] [] := by
  obtain ⟨hLO, hND, hA, hB, hB2, hCc⟩ := hMt
  obtain ⟨hx, hMo, hA1, hA2, hA6, hA8⟩ := hCc cu hcu
  have hE := hG.E
  obtain ⟨hr31, hpop, hil⟩ := hA dr hd
  refine j_aload_n dL_law_157 rfl 1 rfl ?_
  refine j_aload_n dL_law_158 rfl 0 rfl ?_
  refine j_iload dL_law_159 4 rfl ?_
  refine j_iconst (v := nI (1)) dL_law_161 (by decide) ?_
  refine jn_iadd (v := i + 1) dL_law_162 rfl ?_
  refine j_sld hX (by omega) (by omega) dL_law_163 ?_
  refine j_aload_n dL_law_164 rfl 0 rfl ?_
  refine j_iload dL_law_165 4 rfl ?_
  refine j_iconst (v := nI (2)) dL_law_167 (by decide) ?_
  refine jn_iadd (v := i + 2) dL_law_168 rfl ?_
  refine j_sld hX (by omega) (by omega) dL_law_169 ?_
  refine j_if_eq (tgt := 177) dL_law_170 (by decide) (fun c170 => ?_) (fun c170 => ?_)
  · exact absurd c170 hb2
  · refine j_iconst (v := nI (1)) dL_law_173 (by decide) ?_
    refine j_goto (tgt := 178) dL_law_174 (by decide) ?_
    refine j_aload_n dL_law_178 rfl 3 rfl ?_
    refine j_st (st' := [.ref (qo), .int (bI (true)), .int ((xs (i + 1))), .ref (qx 0)]) (by rfl) ?_
    refine j_callSW (mc := 1) (ms := 6) (wc := wO cI cJ cZ qo qx R C ov dr sz sa cu fi st lo hi_ wa sw) (wr := wM cI cJ cZ qm R C mth mkn mme mns mhe mnx (rv dr) mnl mlp cu mso mwi mus mho mnh mke mta mde mse) (av := [.ref (qx 0), .int ((xs (i + 1))), .int (bI (true)), .ref (qo)]) (rest := []) (w_pointX l hfl D cI cJ cZ qo qx R C hG dr sz sa cu fi st lo hi_ wa sw ov hx hIx (xs (i + 1)) h1 true) mw1_205 mw1_206 mw1_0 mw1_207 hd_L_point rfl ⟨rfl, rfl⟩ ⟨Nat.le_of_ble_eq_true rfl, Nat.le_of_ble_eq_true rfl⟩ (⟨show cs + 1 ≤ 600128 by omega, show ss + 6 ≤ 7301064 by omega⟩) (Nat.le_of_ble_eq_true rfl) [0, 1, 2, 3, 4, 5, 6, 7, 8, 9, 10, 11, 12, 13] [14, 15, 16, 17, 18, 19, 20, 21, 22, 23, 24, 25, 26, 27, 28, 29, 30, 31, 32, 33, 34] rfl rfl rfl rfl (by decide) hZ rfl dL_law_179 ?_
    rintro _ _ ⟨rfl, sz2, sa2, fi2, st2, lo2, hi2, wa2, sw2, hI2, rfl⟩
    refine j_cut (w2 := wZ cI cJ cZ qo qx qm R C ov dr sz2 sa2 cu fi2 st2 lo2 hi2 wa2 sw2 mth mkn mme mns mhe mnx (rv dr) mnl mlp cu mso mwi mus mho mnh mke mta mde mse) [21, 22, 23, 24, 25, 26, 27, 28, 29, 30, 31, 32, 33, 34, 0, 1, 2, 3, 4, 5, 6, 7, 8, 9, 10, 11, 12, 13, 14, 15, 16, 17, 18, 19, 20] rfl rfl ?_
    show V k l D (tys3 cI cJ cZ) room_1 cL_law 7 RL (wZ cI cJ cZ qo qx qm R C ov dr sz2 sa2 cu fi2 st2 lo2 hi2 wa2 sw2 mth mkn mme mns mhe mnx (rv dr) mnl mlp cu mso mwi mus mho mnh mke mta mde mse) (cs + 1) (ss + 6) 182 [(0, .ref (b)), (1, .ref (qx 0)), (2, .ref (qm 0)), (3, .ref (qo)), (4, .int (nI (i)))] [.int (nI (1))]
    refine j_istore [(5, .int (nI (1))), (0, .ref (b)), (1, .ref (qx 0)), (2, .ref (qm 0)), (3, .ref (qo)), (4, .int (nI (i)))] dL_law_182 (by decide) rfl ?_
    refine j_aload_n dL_law_184 rfl 3 rfl ?_
    refine j_aload_n dL_law_185 rfl 1 rfl ?_
    refine j_iload dL_law_186 5 rfl ?_
    refine j_iconst (v := nI (1)) dL_law_188 (by decide) ?_
    refine jn_iadd (v := i + 1) dL_law_189 rfl ?_
    refine j_sld hX (by omega) (by omega) dL_law_190 ?_
    refine j_aload_n dL_law_191 rfl 1 rfl ?_
    refine j_iload dL_law_192 5 rfl ?_
    refine j_iconst (v := nI (2)) dL_law_194 (by decide) ?_
    refine jn_iadd (v := i + 2) dL_law_195 rfl ?_
    refine j_sld hX (by omega) (by omega) dL_law_196 ?_
    refine j_if_eq (tgt := 204) dL_law_197 (by decide) (fun c197 => ?_) (fun c197 => ?_)
    · exact absurd c197 hb2
    · refine j_iconst (v := nI (1)) dL_law_200 (by decide) ?_
      refine j_goto (tgt := 205) dL_law_201 (by decide) ?_
      refine j_st (st' := [.int (bI (true)), .int ((xs (i + 1))), .ref (qm 0)]) (by rfl) ?_
      refine j_callV (mc := 0) (ms := 0) (wc := wM cI cJ cZ qm R C mth mkn mme mns mhe mnx (rv dr) mnl mlp cu mso mwi mus mho mnh mke mta mde mse) (wr := wO cI cJ cZ qo qx R C ov dr sz2 sa2 cu fi2 st2 lo2 hi2 wa2 sw2) (tys3 := tys3 cI cJ cZ) (av := [.int ((xs (i + 1))), .int (bI (true))]) (rest := []) (cm_pointX l hfl D cI cJ cZ qm R C hG mth mkn mme mns mhe mnx (rv dr) mnl mlp cu mso mwi mus mho mnh mke mta mde mse LL hLO hMo hIm (xs (i + 1)) h1 true) 14 rfl rfl mw3_113 mw3_114 mw3_115 mw1_4 mw3_116 ⟨rfl, hd_X3_point⟩ rfl ⟨rfl, rfl⟩ ⟨Nat.le_of_ble_eq_true rfl, Nat.le_of_ble_eq_true rfl⟩ (⟨show cs + 1 + 0 ≤ 600128 by omega, show ss + 6 + 0 ≤ 7301064 by omega⟩) (Nat.le_of_ble_eq_true rfl) [14, 15, 16, 17, 18, 19, 20, 21, 22, 23, 24, 25, 26, 27, 28, 29, 30, 31, 32, 33, 34] [0, 1, 2, 3, 4, 5, 6, 7, 8, 9, 10, 11, 12, 13] rfl rfl rfl rfl (by decide) (fun _ h _ => h) rfl dL_law_205 ?_
      rintro _ _ ⟨rfl, hMW⟩
      obtain ⟨kn3, me3, ns3, he3, nx3, nl3, lp3, so3, wi3, us3, ho3, nh3, ke3, ta3, de3, se3, hI3, rfl⟩ := hMW
      show V k l D (tys3 cI cJ cZ) room_1 cL_law 7 RL (wZ cI cJ cZ qo qx qm R C ov dr sz2 sa2 cu fi2 st2 lo2 hi2 wa2 sw2 1 kn3 me3 ns3 he3 nx3 (rv dr) nl3 lp3 cu so3 wi3 us3 ho3 nh3 ke3 ta3 de3 se3) (cs + 1) (ss + 6) 208 [(5, .int (nI (1))), (0, .ref (b)), (1, .ref (qx 0)), (2, .ref (qm 0)), (3, .ref (qo)), (4, .int (nI (i)))] [.int (nI (0))]
      refine j_istore [(6, .int (nI (0))), (5, .int (nI (1))), (0, .ref (b)), (1, .ref (qx 0)), (2, .ref (qm 0)), (3, .ref (qo)), (4, .int (nI (i)))] dL_law_208 (by decide) rfl ?_
      refine j_aload_n dL_law_210 rfl 4 rfl ?_
      refine j_callV (mc := 0) (ms := 0) (wc := wM cI cJ cZ qm R C 1 kn3 me3 ns3 he3 nx3 (rv dr) nl3 lp3 cu so3 wi3 us3 ho3 nh3 ke3 ta3 de3 se3) (wr := wO cI cJ cZ qo qx R C ov dr sz2 sa2 cu fi2 st2 lo2 hi2 wa2 sw2) (tys3 := tys3 cI cJ cZ) (av := []) (rest := []) (cm_thrown l hfl D cI cJ cZ qm R C hG 1 kn3 me3 ns3 he3 nx3 (rv dr) nl3 lp3 cu so3 wi3 us3 ho3 nh3 ke3 ta3 de3 se3) 14 rfl rfl mw3_105 mw3_106 mw3_107 mw1_4 mw3_108 ⟨rfl, hd_X3_thrown⟩ rfl ⟨rfl, rfl⟩ ⟨Nat.le_of_ble_eq_true rfl, Nat.le_of_ble_eq_true rfl⟩ (⟨show cs + 1 + 0 ≤ 600128 by omega, show ss + 6 + 0 ≤ 7301064 by omega⟩) (Nat.le_of_ble_eq_true rfl) [14, 15, 16, 17, 18, 19, 20, 21, 22, 23, 24, 25, 26, 27, 28, 29, 30, 31, 32, 33, 34] [0, 1, 2, 3, 4, 5, 6, 7, 8, 9, 10, 11, 12, 13] rfl rfl rfl rfl (by decide) (fun _ h _ => h) rfl dL_law_211 ?_
      rintro _ _ ⟨rfl, rfl⟩
      show V k l D (tys3 cI cJ cZ) room_1 cL_law 7 RL (wZ cI cJ cZ qo qx qm R C ov dr sz2 sa2 cu fi2 st2 lo2 hi2 wa2 sw2 1 kn3 me3 ns3 he3 nx3 (rv dr) nl3 lp3 cu so3 wi3 us3 ho3 nh3 ke3 ta3 de3 se3) (cs + 1) (ss + 6) 214 [(6, .int (nI (0))), (5, .int (nI (1))), (0, .ref (b)), (1, .ref (qx 0)), (2, .ref (qm 0)), (3, .ref (qo)), (4, .int (nI (i)))] [.int (nI (1))]
      refine j_iload dL_law_214 1 rfl ?_
      refine jn_icmp_eq (tgt := 221) (a := 1) (b := 1) (by omega) (by omega) dL_law_216 (by decide) (fun c216 => ?_) (fun c216 => ?_)
      · refine j_iload dL_law_221 1 rfl ?_
        refine jn_if_ne (tgt := 238) (a := 1) (by omega) dL_law_223 (by decide) (fun c223 => ?_) (fun c223 => ?_)
        · refine j_goto (tgt := 905) dL_law_238 (by decide) ?_
          refine j_sub [2, 3, 4, 5, 6] [(0, .ref (b)), (1, .ref (qx 0)), (2, .ref (qm 0)), (3, .ref (qo)), (4, .int (nI (i)))] rfl ?_
          exact hk ov 1 dr cu _ _ hd hcu ⟨sz2, sa2, fi2, st2, lo2, hi2, wa2, sw2, hI2, rfl⟩ (MW_of hI3)
        · exact absurd c223 (by first | decide | omega)
      · exact absurd c216 (by first | decide | omega)

set_option maxHeartbeats 8000000 in
set_option maxRecDepth 100000 in
theorem l_width_true {k : VK} (l : Launch) (hfl : l.flags = flags0) (D : va_G) (cI cJ cZ : ClassId) (qo : Nat) (qx qm : Nat → Nat) (R C : Nat) (hG : GS R C) (LL : List Nat) (hMt : Mth R C LL) (b L : Nat) (xs : Nat → Int32) (hL : L ≤ 258) (hX : SX k b L xs) (hZ : ZX k.2.2.1.1 k.1.2.2.1 k.2.2.1.2) (i cs ss : Nat) (hi : i + 4 ≤ L) (hcs : cs ≤ 10000) (hss : ss ≤ 100000) (ov : Nat → Int64) (dr sz : Nat) (sa : Bool) (cu fi st : Nat → Nat) (lo hi_ : Nat → Option Nat) (wa sw : Nat → Nat) (mth : Nat) (mkn mme : Bool) (mns mhe mnx mnl : Nat) (mlp mso mwi mus mho mnh : Nat → Nat) (mke : Nat → Int64) (mta mde : Nat → Nat) (mse : Nat → Bool) (hd : dr < 2 ^ nE R C) (hcu : CU R C cu) (hIx : XI0 R C cu sa sz fi st lo hi_ wa dr) (hIm : MI R C LL cu mkn mme mns mnl mlp mso mwi mus mde mse (rv dr)) (hb2 : xs (i + 2) ≠ 0) (kq : Nat) (hkq : kq ≤ nE R C) (h1 : xs (i + 1) = nI kq) (hk : ∀ (ov2 : Nat → Int64) (th2 d2 : Nat) (cu2 : Nat → Nat) (u1 u2 : va_W), d2 < 2 ^ nE R C → CU R C cu2 → OW cI cJ cZ qo qx R C ov2 d2 cu2 u1 → MW cI cJ cZ qm R C LL th2 (rv d2) cu2 u2 → V k l D (tys3 cI cJ cZ) room_1 cL_law 7 RL (u1 ++ u2) (cs + 1) (ss + 6) 905 [(0, .ref (b)), (1, .ref (qx 0)), (2, .ref (qm 0)), (3, .ref (qo)), (4, .int (nI (i)))] []) : V k l D (tys3 cI cJ cZ) room_1 cL_law 7 RL (wZ cI cJ cZ qo qx qm R C ov dr sz sa cu fi st lo hi_ wa sw mth mkn mme mns mhe mnx (rv dr) mnl mlp cu mso mwi mus mho mnh mke mta mde mse) (cs) (ss) 314 [(0, .ref (b)), (1, .ref (qx 0)), (2, .ref (qm 0)), (3, .ref (qo)), (4, .int (nI (i)))] [] := by
  obtain ⟨hLO, hND, hA, hB, hB2, hCc⟩ := hMt
  obtain ⟨hx, hMo, hA1, hA2, hA6, hA8⟩ := hCc cu hcu
  have hE := hG.E
  obtain ⟨hr31, hpop, hil⟩ := hA dr hd
  refine j_aload_n dL_law_314 rfl 1 rfl ?_
  refine j_aload_n dL_law_315 rfl 0 rfl ?_
  refine j_iload dL_law_316 4 rfl ?_
  refine j_iconst (v := nI (1)) dL_law_318 (by decide) ?_
  refine jn_iadd (v := i + 1) dL_law_319 rfl ?_
  refine j_sld hX (by omega) (by omega) dL_law_320 ?_
  refine j_topi (y := nI (kq)) (h1) ?_
  refine j_aload_n dL_law_321 rfl 0 rfl ?_
  refine j_iload dL_law_322 4 rfl ?_
  refine j_iconst (v := nI (2)) dL_law_324 (by decide) ?_
  refine jn_iadd (v := i + 2) dL_law_325 rfl ?_
  refine j_sld hX (by omega) (by omega) dL_law_326 ?_
  refine j_if_eq (tgt := 334) dL_law_327 (by decide) (fun c327 => ?_) (fun c327 => ?_)
  · exact absurd c327 hb2
  · refine j_iconst (v := nI (1)) dL_law_330 (by decide) ?_
    refine j_goto (tgt := 335) dL_law_331 (by decide) ?_
    refine j_aload_n dL_law_335 rfl 3 rfl ?_
    refine j_st (st' := [.ref (qo), .int (bI (true)), .int (nI (kq)), .ref (qx 0)]) (by rfl) ?_
    refine j_callSW (mc := 1) (ms := 6) (wc := wO cI cJ cZ qo qx R C ov dr sz sa cu fi st lo hi_ wa sw) (wr := wM cI cJ cZ qm R C mth mkn mme mns mhe mnx (rv dr) mnl mlp cu mso mwi mus mho mnh mke mta mde mse) (av := [.ref (qx 0), .int (nI (kq)), .int (bI (true)), .ref (qo)]) (rest := []) (w_width l hfl D cI cJ cZ qo qx R C hG dr sz sa cu fi st lo hi_ wa sw ov hx hIx kq hkq true) mw2_72 mw2_73 mw1_0 mw2_74 hd_L_width rfl ⟨rfl, rfl⟩ ⟨Nat.le_of_ble_eq_true rfl, Nat.le_of_ble_eq_true rfl⟩ (⟨show cs + 1 ≤ 600128 by omega, show ss + 6 ≤ 7301064 by omega⟩) (Nat.le_of_ble_eq_true rfl) [0, 1, 2, 3, 4, 5, 6, 7, 8, 9, 10, 11, 12, 13] [14, 15, 16, 17, 18, 19, 20, 21, 22, 23, 24, 25, 26, 27, 28, 29, 30, 31, 32, 33, 34] rfl rfl rfl rfl (by decide) hZ rfl dL_law_336 ?_
    rintro _ _ ⟨rfl, sz2, sa2, fi2, st2, lo2, hi2, wa2, sw2, hI2, rfl⟩
    refine j_cut (w2 := wZ cI cJ cZ qo qx qm R C (va_up ov 0 ((nI (if true then usA R C cu kq (LvS R C cu kq).length else (LvS R C cu kq).length)).toInt64)) dr sz2 sa2 cu fi2 st2 lo2 hi2 wa2 sw2 mth mkn mme mns mhe mnx (rv dr) mnl mlp cu mso mwi mus mho mnh mke mta mde mse) [21, 22, 23, 24, 25, 26, 27, 28, 29, 30, 31, 32, 33, 34, 0, 1, 2, 3, 4, 5, 6, 7, 8, 9, 10, 11, 12, 13, 14, 15, 16, 17, 18, 19, 20] rfl rfl ?_
    show V k l D (tys3 cI cJ cZ) room_1 cL_law 7 RL (wZ cI cJ cZ qo qx qm R C (va_up ov 0 ((nI (if true then usA R C cu kq (LvS R C cu kq).length else (LvS R C cu kq).length)).toInt64)) dr sz2 sa2 cu fi2 st2 lo2 hi2 wa2 sw2 mth mkn mme mns mhe mnx (rv dr) mnl mlp cu mso mwi mus mho mnh mke mta mde mse) (cs + 1) (ss + 6) 339 [(0, .ref (b)), (1, .ref (qx 0)), (2, .ref (qm 0)), (3, .ref (qo)), (4, .int (nI (i)))] [.int (nI (0))]
    refine j_istore [(5, .int (nI (0))), (0, .ref (b)), (1, .ref (qx 0)), (2, .ref (qm 0)), (3, .ref (qo)), (4, .int (nI (i)))] dL_law_339 (by decide) rfl ?_
    refine j_aload_n dL_law_341 rfl 3 rfl ?_
    refine j_aload_n dL_law_342 rfl 1 rfl ?_
    refine j_iload dL_law_343 5 rfl ?_
    refine j_iconst (v := nI (1)) dL_law_345 (by decide) ?_
    refine jn_iadd (v := i + 1) dL_law_346 rfl ?_
    refine j_sld hX (by omega) (by omega) dL_law_347 ?_
    refine j_topi (y := nI (kq)) (h1) ?_
    refine j_aload_n dL_law_348 rfl 1 rfl ?_
    refine j_iload dL_law_349 5 rfl ?_
    refine j_iconst (v := nI (2)) dL_law_351 (by decide) ?_
    refine jn_iadd (v := i + 2) dL_law_352 rfl ?_
    refine j_sld hX (by omega) (by omega) dL_law_353 ?_
    refine j_if_eq (tgt := 361) dL_law_354 (by decide) (fun c354 => ?_) (fun c354 => ?_)
    · exact absurd c354 hb2
    · refine j_iconst (v := nI (1)) dL_law_357 (by decide) ?_
      refine j_goto (tgt := 362) dL_law_358 (by decide) ?_
      refine j_st (st' := [.int (bI (true)), .int (nI (kq)), .ref (qm 0)]) (by rfl) ?_
      refine j_callV (mc := 0) (ms := 0) (wc := wM cI cJ cZ qm R C mth mkn mme mns mhe mnx (rv dr) mnl mlp cu mso mwi mus mho mnh mke mta mde mse) (wr := wO cI cJ cZ qo qx R C (va_up ov 0 ((nI (if true then usA R C cu kq (LvS R C cu kq).length else (LvS R C cu kq).length)).toInt64)) dr sz2 sa2 cu fi2 st2 lo2 hi2 wa2 sw2) (tys3 := tys3 cI cJ cZ) (av := [.int (nI (kq)), .int (bI (true))]) (rest := []) (cm_width l hfl D cI cJ cZ qm R C hG mth mkn mme mns mhe mnx (rv dr) mnl mlp cu mso mwi mus mho mnh mke mta mde mse LL hLO hMo hIm kq hkq true) 14 rfl rfl mw3_145 mw3_146 mw3_147 mw1_4 mw3_148 ⟨rfl, hd_X3_width⟩ rfl ⟨rfl, rfl⟩ ⟨Nat.le_of_ble_eq_true rfl, Nat.le_of_ble_eq_true rfl⟩ (⟨show cs + 1 + 0 ≤ 600128 by omega, show ss + 6 + 0 ≤ 7301064 by omega⟩) (Nat.le_of_ble_eq_true rfl) [14, 15, 16, 17, 18, 19, 20, 21, 22, 23, 24, 25, 26, 27, 28, 29, 30, 31, 32, 33, 34] [0, 1, 2, 3, 4, 5, 6, 7, 8, 9, 10, 11, 12, 13] rfl rfl rfl rfl (by decide) (fun _ h _ => h) rfl dL_law_362 ?_
      rintro _ _ ⟨rfl, hMW⟩
      obtain ⟨kn3, me3, ns3, he3, nx3, nl3, lp3, so3, wi3, us3, ho3, nh3, ke3, ta3, de3, se3, hI3, rfl⟩ := hMW
      show V k l D (tys3 cI cJ cZ) room_1 cL_law 7 RL (wZ cI cJ cZ qo qx qm R C (va_up ov 0 ((nI (if true then usA R C cu kq (LvS R C cu kq).length else (LvS R C cu kq).length)).toInt64)) dr sz2 sa2 cu fi2 st2 lo2 hi2 wa2 sw2 0 kn3 me3 ns3 he3 nx3 (rv dr) nl3 lp3 cu so3 wi3 us3 ho3 nh3 ke3 ta3 de3 se3) (cs + 1) (ss + 6) 365 [(5, .int (nI (0))), (0, .ref (b)), (1, .ref (qx 0)), (2, .ref (qm 0)), (3, .ref (qo)), (4, .int (nI (i)))] [.int (nI (if true then usM R C cu (sol R C cu LL) kq else (Lm R C cu kq).length))]
      refine j_istore [(6, .int (nI (if true then usM R C cu (sol R C cu LL) kq else (Lm R C cu kq).length))), (5, .int (nI (0))), (0, .ref (b)), (1, .ref (qx 0)), (2, .ref (qm 0)), (3, .ref (qo)), (4, .int (nI (i)))] dL_law_365 (by decide) rfl ?_
      refine j_aload_n dL_law_367 rfl 4 rfl ?_
      refine j_callV (mc := 0) (ms := 0) (wc := wM cI cJ cZ qm R C 0 kn3 me3 ns3 he3 nx3 (rv dr) nl3 lp3 cu so3 wi3 us3 ho3 nh3 ke3 ta3 de3 se3) (wr := wO cI cJ cZ qo qx R C (va_up ov 0 ((nI (if true then usA R C cu kq (LvS R C cu kq).length else (LvS R C cu kq).length)).toInt64)) dr sz2 sa2 cu fi2 st2 lo2 hi2 wa2 sw2) (tys3 := tys3 cI cJ cZ) (av := []) (rest := []) (cm_thrown l hfl D cI cJ cZ qm R C hG 0 kn3 me3 ns3 he3 nx3 (rv dr) nl3 lp3 cu so3 wi3 us3 ho3 nh3 ke3 ta3 de3 se3) 14 rfl rfl mw3_105 mw3_106 mw3_107 mw1_4 mw3_108 ⟨rfl, hd_X3_thrown⟩ rfl ⟨rfl, rfl⟩ ⟨Nat.le_of_ble_eq_true rfl, Nat.le_of_ble_eq_true rfl⟩ (⟨show cs + 1 + 0 ≤ 600128 by omega, show ss + 6 + 0 ≤ 7301064 by omega⟩) (Nat.le_of_ble_eq_true rfl) [14, 15, 16, 17, 18, 19, 20, 21, 22, 23, 24, 25, 26, 27, 28, 29, 30, 31, 32, 33, 34] [0, 1, 2, 3, 4, 5, 6, 7, 8, 9, 10, 11, 12, 13] rfl rfl rfl rfl (by decide) (fun _ h _ => h) rfl dL_law_368 ?_
      rintro _ _ ⟨rfl, rfl⟩
      show V k l D (tys3 cI cJ cZ) room_1 cL_law 7 RL (wZ cI cJ cZ qo qx qm R C (va_up ov 0 ((nI (if true then usA R C cu kq (LvS R C cu kq).length else (LvS R C cu kq).length)).toInt64)) dr sz2 sa2 cu fi2 st2 lo2 hi2 wa2 sw2 0 kn3 me3 ns3 he3 nx3 (rv dr) nl3 lp3 cu so3 wi3 us3 ho3 nh3 ke3 ta3 de3 se3) (cs + 1) (ss + 6) 371 [(6, .int (nI (if true then usM R C cu (sol R C cu LL) kq else (Lm R C cu kq).length))), (5, .int (nI (0))), (0, .ref (b)), (1, .ref (qx 0)), (2, .ref (qm 0)), (3, .ref (qo)), (4, .int (nI (i)))] [.int (nI (0))]
      refine j_iload dL_law_371 1 rfl ?_
      refine jn_icmp_eq (tgt := 378) (a := 0) (b := 0) (by omega) (by omega) dL_law_373 (by decide) (fun c373 => ?_) (fun c373 => ?_)
      · refine j_iload dL_law_378 1 rfl ?_
        refine jn_if_ne (tgt := 395) (a := 0) (by omega) dL_law_380 (by decide) (fun c380 => ?_) (fun c380 => ?_)
        · exact absurd c380 (by first | decide | omega)
        · refine j_aload_n dL_law_383 rfl 5 rfl ?_
          refine j_iconst (v := nI (0)) dL_law_384 (by decide) ?_
          refine jn_lald (v := (nI (if true then usA R C cu kq (LvS R C cu kq).length else (LvS R C cu kq).length)).toInt64) 0 1 rfl rfl (by omega) (by omega) (by exact va_up_self _ _ _) dL_law_385 ?_
          refine j_iload dL_law_386 0 rfl ?_
          refine j_i2l dL_law_388 rfl ?_
          refine j_lcmp dL_law_389 rfl ?_
          refine j_if_eq (tgt := 395) dL_law_390 (by decide) (fun c390 => ?_) (fun c390 => ?_)
          · refine j_goto (tgt := 905) dL_law_395 (by decide) ?_
            refine j_sub [2, 3, 4, 5, 6] [(0, .ref (b)), (1, .ref (qx 0)), (2, .ref (qm 0)), (3, .ref (qo)), (4, .int (nI (i)))] rfl ?_
            exact hk (va_up ov 0 ((nI (if true then usA R C cu kq (LvS R C cu kq).length else (LvS R C cu kq).length)).toInt64)) 0 dr cu _ _ hd hcu ⟨sz2, sa2, fi2, st2, lo2, hi2, wa2, sw2, hI2, rfl⟩ (MW_of hI3)
          · exact absurd ((lg_cmp_eq _ _).mpr (by rw [show (if true then usA R C cu kq (LvS R C cu kq).length else (LvS R C cu kq).length) = (if true then usM R C cu (sol R C cu LL) kq else (Lm R C cu kq).length) from (hA2 kq hkq).2])) c390
      · exact absurd c373 (by first | decide | omega)

set_option maxHeartbeats 8000000 in
set_option maxRecDepth 100000 in
theorem l_widthX_true {k : VK} (l : Launch) (hfl : l.flags = flags0) (D : va_G) (cI cJ cZ : ClassId) (qo : Nat) (qx qm : Nat → Nat) (R C : Nat) (hG : GS R C) (LL : List Nat) (hMt : Mth R C LL) (b L : Nat) (xs : Nat → Int32) (hL : L ≤ 258) (hX : SX k b L xs) (hZ : ZX k.2.2.1.1 k.1.2.2.1 k.2.2.1.2) (i cs ss : Nat) (hi : i + 4 ≤ L) (hcs : cs ≤ 10000) (hss : ss ≤ 100000) (ov : Nat → Int64) (dr sz : Nat) (sa : Bool) (cu fi st : Nat → Nat) (lo hi_ : Nat → Option Nat) (wa sw : Nat → Nat) (mth : Nat) (mkn mme : Bool) (mns mhe mnx mnl : Nat) (mlp mso mwi mus mho mnh : Nat → Nat) (mke : Nat → Int64) (mta mde : Nat → Nat) (mse : Nat → Bool) (hd : dr < 2 ^ nE R C) (hcu : CU R C cu) (hIx : XI0 R C cu sa sz fi st lo hi_ wa dr) (hIm : MI R C LL cu mkn mme mns mnl mlp mso mwi mus mde mse (rv dr)) (hb2 : xs (i + 2) ≠ 0) (h1 : inB (nE R C + 1) (xs (i + 1)) = false) (hk : ∀ (ov2 : Nat → Int64) (th2 d2 : Nat) (cu2 : Nat → Nat) (u1 u2 : va_W), d2 < 2 ^ nE R C → CU R C cu2 → OW cI cJ cZ qo qx R C ov2 d2 cu2 u1 → MW cI cJ cZ qm R C LL th2 (rv d2) cu2 u2 → V k l D (tys3 cI cJ cZ) room_1 cL_law 7 RL (u1 ++ u2) (cs + 1) (ss + 6) 905 [(0, .ref (b)), (1, .ref (qx 0)), (2, .ref (qm 0)), (3, .ref (qo)), (4, .int (nI (i)))] []) : V k l D (tys3 cI cJ cZ) room_1 cL_law 7 RL (wZ cI cJ cZ qo qx qm R C ov dr sz sa cu fi st lo hi_ wa sw mth mkn mme mns mhe mnx (rv dr) mnl mlp cu mso mwi mus mho mnh mke mta mde mse) (cs) (ss) 314 [(0, .ref (b)), (1, .ref (qx 0)), (2, .ref (qm 0)), (3, .ref (qo)), (4, .int (nI (i)))] [] := by
  obtain ⟨hLO, hND, hA, hB, hB2, hCc⟩ := hMt
  obtain ⟨hx, hMo, hA1, hA2, hA6, hA8⟩ := hCc cu hcu
  have hE := hG.E
  obtain ⟨hr31, hpop, hil⟩ := hA dr hd
  refine j_aload_n dL_law_314 rfl 1 rfl ?_
  refine j_aload_n dL_law_315 rfl 0 rfl ?_
  refine j_iload dL_law_316 4 rfl ?_
  refine j_iconst (v := nI (1)) dL_law_318 (by decide) ?_
  refine jn_iadd (v := i + 1) dL_law_319 rfl ?_
  refine j_sld hX (by omega) (by omega) dL_law_320 ?_
  refine j_aload_n dL_law_321 rfl 0 rfl ?_
  refine j_iload dL_law_322 4 rfl ?_
  refine j_iconst (v := nI (2)) dL_law_324 (by decide) ?_
  refine jn_iadd (v := i + 2) dL_law_325 rfl ?_
  refine j_sld hX (by omega) (by omega) dL_law_326 ?_
  refine j_if_eq (tgt := 334) dL_law_327 (by decide) (fun c327 => ?_) (fun c327 => ?_)
  · exact absurd c327 hb2
  · refine j_iconst (v := nI (1)) dL_law_330 (by decide) ?_
    refine j_goto (tgt := 335) dL_law_331 (by decide) ?_
    refine j_aload_n dL_law_335 rfl 3 rfl ?_
    refine j_st (st' := [.ref (qo), .int (bI (true)), .int ((xs (i + 1))), .ref (qx 0)]) (by rfl) ?_
    refine j_callSW (mc := 1) (ms := 6) (wc := wO cI cJ cZ qo qx R C ov dr sz sa cu fi st lo hi_ wa sw) (wr := wM cI cJ cZ qm R C mth mkn mme mns mhe mnx (rv dr) mnl mlp cu mso mwi mus mho mnh mke mta mde mse) (av := [.ref (qx 0), .int ((xs (i + 1))), .int (bI (true)), .ref (qo)]) (rest := []) (w_widthX l hfl D cI cJ cZ qo qx R C hG dr sz sa cu fi st lo hi_ wa sw ov hx hIx (xs (i + 1)) h1 true) mw2_72 mw2_73 mw1_0 mw2_74 hd_L_width rfl ⟨rfl, rfl⟩ ⟨Nat.le_of_ble_eq_true rfl, Nat.le_of_ble_eq_true rfl⟩ (⟨show cs + 1 ≤ 600128 by omega, show ss + 6 ≤ 7301064 by omega⟩) (Nat.le_of_ble_eq_true rfl) [0, 1, 2, 3, 4, 5, 6, 7, 8, 9, 10, 11, 12, 13] [14, 15, 16, 17, 18, 19, 20, 21, 22, 23, 24, 25, 26, 27, 28, 29, 30, 31, 32, 33, 34] rfl rfl rfl rfl (by decide) hZ rfl dL_law_336 ?_
    rintro _ _ ⟨rfl, sz2, sa2, fi2, st2, lo2, hi2, wa2, sw2, hI2, rfl⟩
    refine j_cut (w2 := wZ cI cJ cZ qo qx qm R C ov dr sz2 sa2 cu fi2 st2 lo2 hi2 wa2 sw2 mth mkn mme mns mhe mnx (rv dr) mnl mlp cu mso mwi mus mho mnh mke mta mde mse) [21, 22, 23, 24, 25, 26, 27, 28, 29, 30, 31, 32, 33, 34, 0, 1, 2, 3, 4, 5, 6, 7, 8, 9, 10, 11, 12, 13, 14, 15, 16, 17, 18, 19, 20] rfl rfl ?_
    show V k l D (tys3 cI cJ cZ) room_1 cL_law 7 RL (wZ cI cJ cZ qo qx qm R C ov dr sz2 sa2 cu fi2 st2 lo2 hi2 wa2 sw2 mth mkn mme mns mhe mnx (rv dr) mnl mlp cu mso mwi mus mho mnh mke mta mde mse) (cs + 1) (ss + 6) 339 [(0, .ref (b)), (1, .ref (qx 0)), (2, .ref (qm 0)), (3, .ref (qo)), (4, .int (nI (i)))] [.int (nI (1))]
    refine j_istore [(5, .int (nI (1))), (0, .ref (b)), (1, .ref (qx 0)), (2, .ref (qm 0)), (3, .ref (qo)), (4, .int (nI (i)))] dL_law_339 (by decide) rfl ?_
    refine j_aload_n dL_law_341 rfl 3 rfl ?_
    refine j_aload_n dL_law_342 rfl 1 rfl ?_
    refine j_iload dL_law_343 5 rfl ?_
    refine j_iconst (v := nI (1)) dL_law_345 (by decide) ?_
    refine jn_iadd (v := i + 1) dL_law_346 rfl ?_
    refine j_sld hX (by omega) (by omega) dL_law_347 ?_
    refine j_aload_n dL_law_348 rfl 1 rfl ?_
    refine j_iload dL_law_349 5 rfl ?_
    refine j_iconst (v := nI (2)) dL_law_351 (by decide) ?_
    refine jn_iadd (v := i + 2) dL_law_352 rfl ?_
    refine j_sld hX (by omega) (by omega) dL_law_353 ?_
    refine j_if_eq (tgt := 361) dL_law_354 (by decide) (fun c354 => ?_) (fun c354 => ?_)
    · exact absurd c354 hb2
    · refine j_iconst (v := nI (1)) dL_law_357 (by decide) ?_
      refine j_goto (tgt := 362) dL_law_358 (by decide) ?_
      refine j_st (st' := [.int (bI (true)), .int ((xs (i + 1))), .ref (qm 0)]) (by rfl) ?_
      refine j_callV (mc := 0) (ms := 0) (wc := wM cI cJ cZ qm R C mth mkn mme mns mhe mnx (rv dr) mnl mlp cu mso mwi mus mho mnh mke mta mde mse) (wr := wO cI cJ cZ qo qx R C ov dr sz2 sa2 cu fi2 st2 lo2 hi2 wa2 sw2) (tys3 := tys3 cI cJ cZ) (av := [.int ((xs (i + 1))), .int (bI (true))]) (rest := []) (cm_widthX l hfl D cI cJ cZ qm R C hG mth mkn mme mns mhe mnx (rv dr) mnl mlp cu mso mwi mus mho mnh mke mta mde mse LL hLO hMo hIm (xs (i + 1)) h1 true) 14 rfl rfl mw3_145 mw3_146 mw3_147 mw1_4 mw3_148 ⟨rfl, hd_X3_width⟩ rfl ⟨rfl, rfl⟩ ⟨Nat.le_of_ble_eq_true rfl, Nat.le_of_ble_eq_true rfl⟩ (⟨show cs + 1 + 0 ≤ 600128 by omega, show ss + 6 + 0 ≤ 7301064 by omega⟩) (Nat.le_of_ble_eq_true rfl) [14, 15, 16, 17, 18, 19, 20, 21, 22, 23, 24, 25, 26, 27, 28, 29, 30, 31, 32, 33, 34] [0, 1, 2, 3, 4, 5, 6, 7, 8, 9, 10, 11, 12, 13] rfl rfl rfl rfl (by decide) (fun _ h _ => h) rfl dL_law_362 ?_
      rintro _ _ ⟨rfl, hMW⟩
      obtain ⟨kn3, me3, ns3, he3, nx3, nl3, lp3, so3, wi3, us3, ho3, nh3, ke3, ta3, de3, se3, hI3, rfl⟩ := hMW
      show V k l D (tys3 cI cJ cZ) room_1 cL_law 7 RL (wZ cI cJ cZ qo qx qm R C ov dr sz2 sa2 cu fi2 st2 lo2 hi2 wa2 sw2 1 kn3 me3 ns3 he3 nx3 (rv dr) nl3 lp3 cu so3 wi3 us3 ho3 nh3 ke3 ta3 de3 se3) (cs + 1) (ss + 6) 365 [(5, .int (nI (1))), (0, .ref (b)), (1, .ref (qx 0)), (2, .ref (qm 0)), (3, .ref (qo)), (4, .int (nI (i)))] [.int (nI (0))]
      refine j_istore [(6, .int (nI (0))), (5, .int (nI (1))), (0, .ref (b)), (1, .ref (qx 0)), (2, .ref (qm 0)), (3, .ref (qo)), (4, .int (nI (i)))] dL_law_365 (by decide) rfl ?_
      refine j_aload_n dL_law_367 rfl 4 rfl ?_
      refine j_callV (mc := 0) (ms := 0) (wc := wM cI cJ cZ qm R C 1 kn3 me3 ns3 he3 nx3 (rv dr) nl3 lp3 cu so3 wi3 us3 ho3 nh3 ke3 ta3 de3 se3) (wr := wO cI cJ cZ qo qx R C ov dr sz2 sa2 cu fi2 st2 lo2 hi2 wa2 sw2) (tys3 := tys3 cI cJ cZ) (av := []) (rest := []) (cm_thrown l hfl D cI cJ cZ qm R C hG 1 kn3 me3 ns3 he3 nx3 (rv dr) nl3 lp3 cu so3 wi3 us3 ho3 nh3 ke3 ta3 de3 se3) 14 rfl rfl mw3_105 mw3_106 mw3_107 mw1_4 mw3_108 ⟨rfl, hd_X3_thrown⟩ rfl ⟨rfl, rfl⟩ ⟨Nat.le_of_ble_eq_true rfl, Nat.le_of_ble_eq_true rfl⟩ (⟨show cs + 1 + 0 ≤ 600128 by omega, show ss + 6 + 0 ≤ 7301064 by omega⟩) (Nat.le_of_ble_eq_true rfl) [14, 15, 16, 17, 18, 19, 20, 21, 22, 23, 24, 25, 26, 27, 28, 29, 30, 31, 32, 33, 34] [0, 1, 2, 3, 4, 5, 6, 7, 8, 9, 10, 11, 12, 13] rfl rfl rfl rfl (by decide) (fun _ h _ => h) rfl dL_law_368 ?_
      rintro _ _ ⟨rfl, rfl⟩
      show V k l D (tys3 cI cJ cZ) room_1 cL_law 7 RL (wZ cI cJ cZ qo qx qm R C ov dr sz2 sa2 cu fi2 st2 lo2 hi2 wa2 sw2 1 kn3 me3 ns3 he3 nx3 (rv dr) nl3 lp3 cu so3 wi3 us3 ho3 nh3 ke3 ta3 de3 se3) (cs + 1) (ss + 6) 371 [(6, .int (nI (0))), (5, .int (nI (1))), (0, .ref (b)), (1, .ref (qx 0)), (2, .ref (qm 0)), (3, .ref (qo)), (4, .int (nI (i)))] [.int (nI (1))]
      refine j_iload dL_law_371 1 rfl ?_
      refine jn_icmp_eq (tgt := 378) (a := 1) (b := 1) (by omega) (by omega) dL_law_373 (by decide) (fun c373 => ?_) (fun c373 => ?_)
      · refine j_iload dL_law_378 1 rfl ?_
        refine jn_if_ne (tgt := 395) (a := 1) (by omega) dL_law_380 (by decide) (fun c380 => ?_) (fun c380 => ?_)
        · refine j_goto (tgt := 905) dL_law_395 (by decide) ?_
          refine j_sub [2, 3, 4, 5, 6] [(0, .ref (b)), (1, .ref (qx 0)), (2, .ref (qm 0)), (3, .ref (qo)), (4, .int (nI (i)))] rfl ?_
          exact hk ov 1 dr cu _ _ hd hcu ⟨sz2, sa2, fi2, st2, lo2, hi2, wa2, sw2, hI2, rfl⟩ (MW_of hI3)
        · exact absurd c380 (by first | decide | omega)
      · exact absurd c373 (by first | decide | omega)

set_option maxHeartbeats 8000000 in
set_option maxRecDepth 100000 in
theorem l_clue {k : VK} (l : Launch) (hfl : l.flags = flags0) (D : va_G) (cI cJ cZ : ClassId) (qo : Nat) (qx qm : Nat → Nat) (R C : Nat) (hG : GS R C) (LL : List Nat) (hMt : Mth R C LL) (b L : Nat) (xs : Nat → Int32) (hL : L ≤ 258) (hX : SX k b L xs) (hZ : ZX k.2.2.1.1 k.1.2.2.1 k.2.2.1.2) (i cs ss : Nat) (hi : i + 4 ≤ L) (hcs : cs ≤ 10000) (hss : ss ≤ 100000) (ov : Nat → Int64) (dr sz : Nat) (sa : Bool) (cu fi st : Nat → Nat) (lo hi_ : Nat → Option Nat) (wa sw : Nat → Nat) (mth : Nat) (mkn mme : Bool) (mns mhe mnx mnl : Nat) (mlp mso mwi mus mho mnh : Nat → Nat) (mke : Nat → Int64) (mta mde : Nat → Nat) (mse : Nat → Bool) (hd : dr < 2 ^ nE R C) (hcu : CU R C cu) (hIx : XI0 R C cu sa sz fi st lo hi_ wa dr) (hIm : MI R C LL cu mkn mme mns mnl mlp mso mwi mus mde mse (rv dr)) (yr xc : Nat) (hr : yr < R) (hc : xc < C) (h1 : xs (i + 1) = nI yr) (h2 : xs (i + 2) = nI xc) (v : Nat) (hv : v = 99 ∨ v ≤ 4) (h3 : xs (i + 3) = eI v) (hk : ∀ (ov2 : Nat → Int64) (th2 d2 : Nat) (cu2 : Nat → Nat) (u1 u2 : va_W), d2 < 2 ^ nE R C → CU R C cu2 → OW cI cJ cZ qo qx R C ov2 d2 cu2 u1 → MW cI cJ cZ qm R C LL th2 (rv d2) cu2 u2 → V k l D (tys3 cI cJ cZ) room_1 cL_law 7 RL (u1 ++ u2) (cs + 1) (ss + 6) 905 [(0, .ref (b)), (1, .ref (qx 0)), (2, .ref (qm 0)), (3, .ref (qo)), (4, .int (nI (i)))] []) : V k l D (tys3 cI cJ cZ) room_1 cL_law 7 RL (wZ cI cJ cZ qo qx qm R C ov dr sz sa cu fi st lo hi_ wa sw mth mkn mme mns mhe mnx (rv dr) mnl mlp cu mso mwi mus mho mnh mke mta mde mse) (cs) (ss) 241 [(0, .ref (b)), (1, .ref (qx 0)), (2, .ref (qm 0)), (3, .ref (qo)), (4, .int (nI (i)))] [] := by
  obtain ⟨hLO, hND, hA, hB, hB2, hCc⟩ := hMt
  obtain ⟨hx, hMo, hA1, hA2, hA6, hA8⟩ := hCc cu hcu
  have hE := hG.E
  obtain ⟨hr31, hpop, hil⟩ := hA dr hd
  refine j_aload_n dL_law_241 rfl 1 rfl ?_
  refine j_aload_n dL_law_242 rfl 0 rfl ?_
  refine j_iload dL_law_243 4 rfl ?_
  refine j_iconst (v := nI (1)) dL_law_245 (by decide) ?_
  refine jn_iadd (v := i + 1) dL_law_246 rfl ?_
  refine j_sld hX (by omega) (by omega) dL_law_247 ?_
  refine j_topi (y := nI (yr)) (h1) ?_
  refine j_aload_n dL_law_248 rfl 0 rfl ?_
  refine j_iload dL_law_249 4 rfl ?_
  refine j_iconst (v := nI (2)) dL_law_251 (by decide) ?_
  refine jn_iadd (v := i + 2) dL_law_252 rfl ?_
  refine j_sld hX (by omega) (by omega) dL_law_253 ?_
  refine j_topi (y := nI (xc)) (h2) ?_
  refine j_aload_n dL_law_254 rfl 0 rfl ?_
  refine j_iload dL_law_255 4 rfl ?_
  refine j_iconst (v := nI (3)) dL_law_257 (by decide) ?_
  refine jn_iadd (v := i + 3) dL_law_258 rfl ?_
  refine j_sld hX (by omega) (by omega) dL_law_259 ?_
  refine j_topi (y := eI (v)) (h3) ?_
  refine j_callSW (mc := 1) (ms := 6) (wc := wX cI cZ qx R C dr sz sa cu fi st lo hi_ wa sw) (wr := (qo, .inl (cJ, 1, .inr (.inl ov))) :: wM cI cJ cZ qm R C mth mkn mme mns mhe mnx (rv dr) mnl mlp cu mso mwi mus mho mnh mke mta mde mse) (av := [.ref (qx 0), .int (nI (yr)), .int (nI (xc)), .int (eI (v))]) (rest := []) (w_clue l hfl D cI cJ cZ qx R C hG dr sz sa cu fi st lo hi_ wa sw hx hIx yr xc v hr hc hv) mw2_41 mw2_42 mw1_0 mw2_43 hd_L_clue rfl ⟨rfl, rfl⟩ ⟨Nat.le_of_ble_eq_true rfl, Nat.le_of_ble_eq_true rfl⟩ (⟨show cs + 1 ≤ 600128 by omega, show ss + 6 ≤ 7301064 by omega⟩) (Nat.le_of_ble_eq_true rfl) [1, 2, 3, 4, 5, 6, 7, 8, 9, 10, 11, 12, 13] [0, 14, 15, 16, 17, 18, 19, 20, 21, 22, 23, 24, 25, 26, 27, 28, 29, 30, 31, 32, 33, 34] rfl rfl rfl rfl (by decide) hZ rfl dL_law_260 ?_
  rintro _ _ ⟨rfl, sz2, sa2, fi2, st2, lo2, hi2, wa2, sw2, hI2, rfl⟩
  refine j_cut (w2 := wZ cI cJ cZ qo qx qm R C ov dr sz2 sa2 (va_up cu (yr * C + xc) v) fi2 st2 lo2 hi2 wa2 sw2 mth mkn mme mns mhe mnx (rv dr) mnl mlp cu mso mwi mus mho mnh mke mta mde mse) [0, 22, 23, 24, 25, 26, 27, 28, 29, 30, 31, 32, 33, 34, 1, 2, 3, 4, 5, 6, 7, 8, 9, 10, 11, 12, 13, 14, 15, 16, 17, 18, 19, 20, 21] rfl rfl ?_
  show V k l D (tys3 cI cJ cZ) room_1 cL_law 7 RL (wZ cI cJ cZ qo qx qm R C ov dr sz2 sa2 (va_up cu (yr * C + xc) v) fi2 st2 lo2 hi2 wa2 sw2 mth mkn mme mns mhe mnx (rv dr) mnl mlp cu mso mwi mus mho mnh mke mta mde mse) (cs + 1) (ss + 6) 263 [(0, .ref (b)), (1, .ref (qx 0)), (2, .ref (qm 0)), (3, .ref (qo)), (4, .int (nI (i)))] [.int (nI (0))]
  refine j_istore [(5, .int (nI (0))), (0, .ref (b)), (1, .ref (qx 0)), (2, .ref (qm 0)), (3, .ref (qo)), (4, .int (nI (i)))] dL_law_263 (by decide) rfl ?_
  refine j_aload_n dL_law_265 rfl 3 rfl ?_
  refine j_aload_n dL_law_266 rfl 1 rfl ?_
  refine j_iload dL_law_267 5 rfl ?_
  refine j_iconst (v := nI (1)) dL_law_269 (by decide) ?_
  refine jn_iadd (v := i + 1) dL_law_270 rfl ?_
  refine j_sld hX (by omega) (by omega) dL_law_271 ?_
  refine j_topi (y := nI (yr)) (h1) ?_
  refine j_aload_n dL_law_272 rfl 1 rfl ?_
  refine j_iload dL_law_273 5 rfl ?_
  refine j_iconst (v := nI (2)) dL_law_275 (by decide) ?_
  refine jn_iadd (v := i + 2) dL_law_276 rfl ?_
  refine j_sld hX (by omega) (by omega) dL_law_277 ?_
  refine j_topi (y := nI (xc)) (h2) ?_
  refine j_aload_n dL_law_278 rfl 1 rfl ?_
  refine j_iload dL_law_279 5 rfl ?_
  refine j_iconst (v := nI (3)) dL_law_281 (by decide) ?_
  refine jn_iadd (v := i + 3) dL_law_282 rfl ?_
  refine j_sld hX (by omega) (by omega) dL_law_283 ?_
  refine j_topi (y := eI (v)) (h3) ?_
  refine j_callV (mc := 0) (ms := 0) (wc := wM cI cJ cZ qm R C mth mkn mme mns mhe mnx (rv dr) mnl mlp cu mso mwi mus mho mnh mke mta mde mse) (wr := wO cI cJ cZ qo qx R C ov dr sz2 sa2 (va_up cu (yr * C + xc) v) fi2 st2 lo2 hi2 wa2 sw2) (tys3 := tys3 cI cJ cZ) (av := [.int (nI (yr)), .int (nI (xc)), .int (eI (v))]) (rest := []) (cm_clue l hfl D cI cJ cZ qm R C hG mth mkn mme mns mhe mnx (rv dr) mnl mlp cu mso mwi mus mho mnh mke mta mde mse LL hLO hMo hIm yr xc v hr hc hv) 14 rfl rfl mw3_121 mw3_122 mw3_123 mw1_4 mw3_124 ⟨rfl, hd_X3_clue⟩ rfl ⟨rfl, rfl⟩ ⟨Nat.le_of_ble_eq_true rfl, Nat.le_of_ble_eq_true rfl⟩ (⟨show cs + 1 + 0 ≤ 600128 by omega, show ss + 6 + 0 ≤ 7301064 by omega⟩) (Nat.le_of_ble_eq_true rfl) [14, 15, 16, 17, 18, 19, 20, 21, 22, 23, 24, 25, 26, 27, 28, 29, 30, 31, 32, 33, 34] [0, 1, 2, 3, 4, 5, 6, 7, 8, 9, 10, 11, 12, 13] rfl rfl rfl rfl (by decide) (fun _ h _ => h) rfl dL_law_284 ?_
  rintro _ _ ⟨rfl, hMW⟩
  obtain ⟨kn3, me3, ns3, he3, nx3, nl3, lp3, so3, wi3, us3, ho3, nh3, ke3, ta3, de3, se3, hI3, rfl⟩ := hMW
  show V k l D (tys3 cI cJ cZ) room_1 cL_law 7 RL (wZ cI cJ cZ qo qx qm R C ov dr sz2 sa2 (va_up cu (yr * C + xc) v) fi2 st2 lo2 hi2 wa2 sw2 0 kn3 me3 ns3 he3 nx3 (rv dr) nl3 lp3 (va_up cu (yr * C + xc) v) so3 wi3 us3 ho3 nh3 ke3 ta3 de3 se3) (cs + 1) (ss + 6) 287 [(5, .int (nI (0))), (0, .ref (b)), (1, .ref (qx 0)), (2, .ref (qm 0)), (3, .ref (qo)), (4, .int (nI (i)))] []
  refine j_aload_n dL_law_287 rfl 3 rfl ?_
  refine j_callV (mc := 0) (ms := 0) (wc := wM cI cJ cZ qm R C 0 kn3 me3 ns3 he3 nx3 (rv dr) nl3 lp3 (va_up cu (yr * C + xc) v) so3 wi3 us3 ho3 nh3 ke3 ta3 de3 se3) (wr := wO cI cJ cZ qo qx R C ov dr sz2 sa2 (va_up cu (yr * C + xc) v) fi2 st2 lo2 hi2 wa2 sw2) (tys3 := tys3 cI cJ cZ) (av := []) (rest := []) (cm_thrown l hfl D cI cJ cZ qm R C hG 0 kn3 me3 ns3 he3 nx3 (rv dr) nl3 lp3 (va_up cu (yr * C + xc) v) so3 wi3 us3 ho3 nh3 ke3 ta3 de3 se3) 14 rfl rfl mw3_105 mw3_106 mw3_107 mw1_4 mw3_108 ⟨rfl, hd_X3_thrown⟩ rfl ⟨rfl, rfl⟩ ⟨Nat.le_of_ble_eq_true rfl, Nat.le_of_ble_eq_true rfl⟩ (⟨show cs + 1 + 0 ≤ 600128 by omega, show ss + 6 + 0 ≤ 7301064 by omega⟩) (Nat.le_of_ble_eq_true rfl) [14, 15, 16, 17, 18, 19, 20, 21, 22, 23, 24, 25, 26, 27, 28, 29, 30, 31, 32, 33, 34] [0, 1, 2, 3, 4, 5, 6, 7, 8, 9, 10, 11, 12, 13] rfl rfl rfl rfl (by decide) (fun _ h _ => h) rfl dL_law_288 ?_
  rintro _ _ ⟨rfl, rfl⟩
  show V k l D (tys3 cI cJ cZ) room_1 cL_law 7 RL (wZ cI cJ cZ qo qx qm R C ov dr sz2 sa2 (va_up cu (yr * C + xc) v) fi2 st2 lo2 hi2 wa2 sw2 0 kn3 me3 ns3 he3 nx3 (rv dr) nl3 lp3 (va_up cu (yr * C + xc) v) so3 wi3 us3 ho3 nh3 ke3 ta3 de3 se3) (cs + 1) (ss + 6) 291 [(5, .int (nI (0))), (0, .ref (b)), (1, .ref (qx 0)), (2, .ref (qm 0)), (3, .ref (qo)), (4, .int (nI (i)))] [.int (nI (0))]
  refine j_iload dL_law_291 0 rfl ?_
  refine jn_icmp_eq (tgt := 298) (a := 0) (b := 0) (by omega) (by omega) dL_law_293 (by decide) (fun c293 => ?_) (fun c293 => ?_)
  · refine j_goto (tgt := 905) dL_law_298 (by decide) ?_
    refine j_sub [1, 2, 3, 4, 5] [(0, .ref (b)), (1, .ref (qx 0)), (2, .ref (qm 0)), (3, .ref (qo)), (4, .int (nI (i)))] rfl ?_
    exact hk ov 0 dr (va_up cu (yr * C + xc) v) _ _ hd (CU_up hcu hv) ⟨sz2, sa2, fi2, st2, lo2, hi2, wa2, sw2, hI2, rfl⟩ (MW_of hI3)
  · exact absurd c293 (by first | decide | omega)

set_option maxHeartbeats 8000000 in
set_option maxRecDepth 100000 in
theorem l_clueV {k : VK} (l : Launch) (hfl : l.flags = flags0) (D : va_G) (cI cJ cZ : ClassId) (qo : Nat) (qx qm : Nat → Nat) (R C : Nat) (hG : GS R C) (LL : List Nat) (hMt : Mth R C LL) (b L : Nat) (xs : Nat → Int32) (hL : L ≤ 258) (hX : SX k b L xs) (hZ : ZX k.2.2.1.1 k.1.2.2.1 k.2.2.1.2) (i cs ss : Nat) (hi : i + 4 ≤ L) (hcs : cs ≤ 10000) (hss : ss ≤ 100000) (ov : Nat → Int64) (dr sz : Nat) (sa : Bool) (cu fi st : Nat → Nat) (lo hi_ : Nat → Option Nat) (wa sw : Nat → Nat) (mth : Nat) (mkn mme : Bool) (mns mhe mnx mnl : Nat) (mlp mso mwi mus mho mnh : Nat → Nat) (mke : Nat → Int64) (mta mde : Nat → Nat) (mse : Nat → Bool) (hd : dr < 2 ^ nE R C) (hcu : CU R C cu) (hIx : XI0 R C cu sa sz fi st lo hi_ wa dr) (hIm : MI R C LL cu mkn mme mns mnl mlp mso mwi mus mde mse (rv dr)) (yr xc : Nat) (hr : yr < R) (hc : xc < C) (h1 : xs (i + 1) = nI yr) (h2 : xs (i + 2) = nI xc) (h3 : xs (i + 3) < -1 ∨ ¬ xs (i + 3) ≤ nI 4) (hk : ∀ (ov2 : Nat → Int64) (th2 d2 : Nat) (cu2 : Nat → Nat) (u1 u2 : va_W), d2 < 2 ^ nE R C → CU R C cu2 → OW cI cJ cZ qo qx R C ov2 d2 cu2 u1 → MW cI cJ cZ qm R C LL th2 (rv d2) cu2 u2 → V k l D (tys3 cI cJ cZ) room_1 cL_law 7 RL (u1 ++ u2) (cs + 1) (ss + 6) 905 [(0, .ref (b)), (1, .ref (qx 0)), (2, .ref (qm 0)), (3, .ref (qo)), (4, .int (nI (i)))] []) : V k l D (tys3 cI cJ cZ) room_1 cL_law 7 RL (wZ cI cJ cZ qo qx qm R C ov dr sz sa cu fi st lo hi_ wa sw mth mkn mme mns mhe mnx (rv dr) mnl mlp cu mso mwi mus mho mnh mke mta mde mse) (cs) (ss) 241 [(0, .ref (b)), (1, .ref (qx 0)), (2, .ref (qm 0)), (3, .ref (qo)), (4, .int (nI (i)))] [] := by
  obtain ⟨hLO, hND, hA, hB, hB2, hCc⟩ := hMt
  obtain ⟨hx, hMo, hA1, hA2, hA6, hA8⟩ := hCc cu hcu
  have hE := hG.E
  obtain ⟨hr31, hpop, hil⟩ := hA dr hd
  refine j_aload_n dL_law_241 rfl 1 rfl ?_
  refine j_aload_n dL_law_242 rfl 0 rfl ?_
  refine j_iload dL_law_243 4 rfl ?_
  refine j_iconst (v := nI (1)) dL_law_245 (by decide) ?_
  refine jn_iadd (v := i + 1) dL_law_246 rfl ?_
  refine j_sld hX (by omega) (by omega) dL_law_247 ?_
  refine j_topi (y := nI (yr)) (h1) ?_
  refine j_aload_n dL_law_248 rfl 0 rfl ?_
  refine j_iload dL_law_249 4 rfl ?_
  refine j_iconst (v := nI (2)) dL_law_251 (by decide) ?_
  refine jn_iadd (v := i + 2) dL_law_252 rfl ?_
  refine j_sld hX (by omega) (by omega) dL_law_253 ?_
  refine j_topi (y := nI (xc)) (h2) ?_
  refine j_aload_n dL_law_254 rfl 0 rfl ?_
  refine j_iload dL_law_255 4 rfl ?_
  refine j_iconst (v := nI (3)) dL_law_257 (by decide) ?_
  refine jn_iadd (v := i + 3) dL_law_258 rfl ?_
  refine j_sld hX (by omega) (by omega) dL_law_259 ?_
  refine j_callSW (mc := 1) (ms := 6) (wc := wX cI cZ qx R C dr sz sa cu fi st lo hi_ wa sw) (wr := (qo, .inl (cJ, 1, .inr (.inl ov))) :: wM cI cJ cZ qm R C mth mkn mme mns mhe mnx (rv dr) mnl mlp cu mso mwi mus mho mnh mke mta mde mse) (av := [.ref (qx 0), .int (nI (yr)), .int (nI (xc)), .int ((xs (i + 3)))]) (rest := []) (w_clueV l hfl D cI cJ cZ qx R C hG dr sz sa cu fi st lo hi_ wa sw hx hIx yr xc hr hc (xs (i + 3)) h3) mw2_41 mw2_42 mw1_0 mw2_43 hd_L_clue rfl ⟨rfl, rfl⟩ ⟨Nat.le_of_ble_eq_true rfl, Nat.le_of_ble_eq_true rfl⟩ (⟨show cs + 1 ≤ 600128 by omega, show ss + 6 ≤ 7301064 by omega⟩) (Nat.le_of_ble_eq_true rfl) [1, 2, 3, 4, 5, 6, 7, 8, 9, 10, 11, 12, 13] [0, 14, 15, 16, 17, 18, 19, 20, 21, 22, 23, 24, 25, 26, 27, 28, 29, 30, 31, 32, 33, 34] rfl rfl rfl rfl (by decide) hZ rfl dL_law_260 ?_
  rintro _ _ ⟨rfl, sz2, sa2, fi2, st2, lo2, hi2, wa2, sw2, hI2, rfl⟩
  refine j_cut (w2 := wZ cI cJ cZ qo qx qm R C ov dr sz2 sa2 cu fi2 st2 lo2 hi2 wa2 sw2 mth mkn mme mns mhe mnx (rv dr) mnl mlp cu mso mwi mus mho mnh mke mta mde mse) [0, 22, 23, 24, 25, 26, 27, 28, 29, 30, 31, 32, 33, 34, 1, 2, 3, 4, 5, 6, 7, 8, 9, 10, 11, 12, 13, 14, 15, 16, 17, 18, 19, 20, 21] rfl rfl ?_
  show V k l D (tys3 cI cJ cZ) room_1 cL_law 7 RL (wZ cI cJ cZ qo qx qm R C ov dr sz2 sa2 cu fi2 st2 lo2 hi2 wa2 sw2 mth mkn mme mns mhe mnx (rv dr) mnl mlp cu mso mwi mus mho mnh mke mta mde mse) (cs + 1) (ss + 6) 263 [(0, .ref (b)), (1, .ref (qx 0)), (2, .ref (qm 0)), (3, .ref (qo)), (4, .int (nI (i)))] [.int (nI (2))]
  refine j_istore [(5, .int (nI (2))), (0, .ref (b)), (1, .ref (qx 0)), (2, .ref (qm 0)), (3, .ref (qo)), (4, .int (nI (i)))] dL_law_263 (by decide) rfl ?_
  refine j_aload_n dL_law_265 rfl 3 rfl ?_
  refine j_aload_n dL_law_266 rfl 1 rfl ?_
  refine j_iload dL_law_267 5 rfl ?_
  refine j_iconst (v := nI (1)) dL_law_269 (by decide) ?_
  refine jn_iadd (v := i + 1) dL_law_270 rfl ?_
  refine j_sld hX (by omega) (by omega) dL_law_271 ?_
  refine j_topi (y := nI (yr)) (h1) ?_
  refine j_aload_n dL_law_272 rfl 1 rfl ?_
  refine j_iload dL_law_273 5 rfl ?_
  refine j_iconst (v := nI (2)) dL_law_275 (by decide) ?_
  refine jn_iadd (v := i + 2) dL_law_276 rfl ?_
  refine j_sld hX (by omega) (by omega) dL_law_277 ?_
  refine j_topi (y := nI (xc)) (h2) ?_
  refine j_aload_n dL_law_278 rfl 1 rfl ?_
  refine j_iload dL_law_279 5 rfl ?_
  refine j_iconst (v := nI (3)) dL_law_281 (by decide) ?_
  refine jn_iadd (v := i + 3) dL_law_282 rfl ?_
  refine j_sld hX (by omega) (by omega) dL_law_283 ?_
  refine j_callV (mc := 0) (ms := 0) (wc := wM cI cJ cZ qm R C mth mkn mme mns mhe mnx (rv dr) mnl mlp cu mso mwi mus mho mnh mke mta mde mse) (wr := wO cI cJ cZ qo qx R C ov dr sz2 sa2 cu fi2 st2 lo2 hi2 wa2 sw2) (tys3 := tys3 cI cJ cZ) (av := [.int (nI (yr)), .int (nI (xc)), .int ((xs (i + 3)))]) (rest := []) (cm_clueV l hfl D cI cJ cZ qm R C hG mth mkn mme mns mhe mnx (rv dr) mnl mlp cu mso mwi mus mho mnh mke mta mde mse LL hLO hMo hIm yr xc hr hc (xs (i + 3)) h3) 14 rfl rfl mw3_121 mw3_122 mw3_123 mw1_4 mw3_124 ⟨rfl, hd_X3_clue⟩ rfl ⟨rfl, rfl⟩ ⟨Nat.le_of_ble_eq_true rfl, Nat.le_of_ble_eq_true rfl⟩ (⟨show cs + 1 + 0 ≤ 600128 by omega, show ss + 6 + 0 ≤ 7301064 by omega⟩) (Nat.le_of_ble_eq_true rfl) [14, 15, 16, 17, 18, 19, 20, 21, 22, 23, 24, 25, 26, 27, 28, 29, 30, 31, 32, 33, 34] [0, 1, 2, 3, 4, 5, 6, 7, 8, 9, 10, 11, 12, 13] rfl rfl rfl rfl (by decide) (fun _ h _ => h) rfl dL_law_284 ?_
  rintro _ _ ⟨rfl, hMW⟩
  obtain ⟨kn3, me3, ns3, he3, nx3, nl3, lp3, so3, wi3, us3, ho3, nh3, ke3, ta3, de3, se3, hI3, rfl⟩ := hMW
  show V k l D (tys3 cI cJ cZ) room_1 cL_law 7 RL (wZ cI cJ cZ qo qx qm R C ov dr sz2 sa2 cu fi2 st2 lo2 hi2 wa2 sw2 2 kn3 me3 ns3 he3 nx3 (rv dr) nl3 lp3 cu so3 wi3 us3 ho3 nh3 ke3 ta3 de3 se3) (cs + 1) (ss + 6) 287 [(5, .int (nI (2))), (0, .ref (b)), (1, .ref (qx 0)), (2, .ref (qm 0)), (3, .ref (qo)), (4, .int (nI (i)))] []
  refine j_aload_n dL_law_287 rfl 3 rfl ?_
  refine j_callV (mc := 0) (ms := 0) (wc := wM cI cJ cZ qm R C 2 kn3 me3 ns3 he3 nx3 (rv dr) nl3 lp3 cu so3 wi3 us3 ho3 nh3 ke3 ta3 de3 se3) (wr := wO cI cJ cZ qo qx R C ov dr sz2 sa2 cu fi2 st2 lo2 hi2 wa2 sw2) (tys3 := tys3 cI cJ cZ) (av := []) (rest := []) (cm_thrown l hfl D cI cJ cZ qm R C hG 2 kn3 me3 ns3 he3 nx3 (rv dr) nl3 lp3 cu so3 wi3 us3 ho3 nh3 ke3 ta3 de3 se3) 14 rfl rfl mw3_105 mw3_106 mw3_107 mw1_4 mw3_108 ⟨rfl, hd_X3_thrown⟩ rfl ⟨rfl, rfl⟩ ⟨Nat.le_of_ble_eq_true rfl, Nat.le_of_ble_eq_true rfl⟩ (⟨show cs + 1 + 0 ≤ 600128 by omega, show ss + 6 + 0 ≤ 7301064 by omega⟩) (Nat.le_of_ble_eq_true rfl) [14, 15, 16, 17, 18, 19, 20, 21, 22, 23, 24, 25, 26, 27, 28, 29, 30, 31, 32, 33, 34] [0, 1, 2, 3, 4, 5, 6, 7, 8, 9, 10, 11, 12, 13] rfl rfl rfl rfl (by decide) (fun _ h _ => h) rfl dL_law_288 ?_
  rintro _ _ ⟨rfl, rfl⟩
  show V k l D (tys3 cI cJ cZ) room_1 cL_law 7 RL (wZ cI cJ cZ qo qx qm R C ov dr sz2 sa2 cu fi2 st2 lo2 hi2 wa2 sw2 2 kn3 me3 ns3 he3 nx3 (rv dr) nl3 lp3 cu so3 wi3 us3 ho3 nh3 ke3 ta3 de3 se3) (cs + 1) (ss + 6) 291 [(5, .int (nI (2))), (0, .ref (b)), (1, .ref (qx 0)), (2, .ref (qm 0)), (3, .ref (qo)), (4, .int (nI (i)))] [.int (nI (2))]
  refine j_iload dL_law_291 0 rfl ?_
  refine jn_icmp_eq (tgt := 298) (a := 2) (b := 2) (by omega) (by omega) dL_law_293 (by decide) (fun c293 => ?_) (fun c293 => ?_)
  · refine j_goto (tgt := 905) dL_law_298 (by decide) ?_
    refine j_sub [1, 2, 3, 4, 5] [(0, .ref (b)), (1, .ref (qx 0)), (2, .ref (qm 0)), (3, .ref (qo)), (4, .int (nI (i)))] rfl ?_
    exact hk ov 2 dr cu _ _ hd hcu ⟨sz2, sa2, fi2, st2, lo2, hi2, wa2, sw2, hI2, rfl⟩ (MW_of hI3)
  · exact absurd c293 (by first | decide | omega)

set_option maxHeartbeats 8000000 in
set_option maxRecDepth 100000 in
theorem l_clueX {k : VK} (l : Launch) (hfl : l.flags = flags0) (D : va_G) (cI cJ cZ : ClassId) (qo : Nat) (qx qm : Nat → Nat) (R C : Nat) (hG : GS R C) (LL : List Nat) (hMt : Mth R C LL) (b L : Nat) (xs : Nat → Int32) (hL : L ≤ 258) (hX : SX k b L xs) (hZ : ZX k.2.2.1.1 k.1.2.2.1 k.2.2.1.2) (i cs ss : Nat) (hi : i + 4 ≤ L) (hcs : cs ≤ 10000) (hss : ss ≤ 100000) (ov : Nat → Int64) (dr sz : Nat) (sa : Bool) (cu fi st : Nat → Nat) (lo hi_ : Nat → Option Nat) (wa sw : Nat → Nat) (mth : Nat) (mkn mme : Bool) (mns mhe mnx mnl : Nat) (mlp mso mwi mus mho mnh : Nat → Nat) (mke : Nat → Int64) (mta mde : Nat → Nat) (mse : Nat → Bool) (hd : dr < 2 ^ nE R C) (hcu : CU R C cu) (hIx : XI0 R C cu sa sz fi st lo hi_ wa dr) (hIm : MI R C LL cu mkn mme mns mnl mlp mso mwi mus mde mse (rv dr)) (h1 : (inB R (xs (i + 1)) && inB C (xs (i + 2))) = false) (hk : ∀ (ov2 : Nat → Int64) (th2 d2 : Nat) (cu2 : Nat → Nat) (u1 u2 : va_W), d2 < 2 ^ nE R C → CU R C cu2 → OW cI cJ cZ qo qx R C ov2 d2 cu2 u1 → MW cI cJ cZ qm R C LL th2 (rv d2) cu2 u2 → V k l D (tys3 cI cJ cZ) room_1 cL_law 7 RL (u1 ++ u2) (cs + 1) (ss + 6) 905 [(0, .ref (b)), (1, .ref (qx 0)), (2, .ref (qm 0)), (3, .ref (qo)), (4, .int (nI (i)))] []) : V k l D (tys3 cI cJ cZ) room_1 cL_law 7 RL (wZ cI cJ cZ qo qx qm R C ov dr sz sa cu fi st lo hi_ wa sw mth mkn mme mns mhe mnx (rv dr) mnl mlp cu mso mwi mus mho mnh mke mta mde mse) (cs) (ss) 241 [(0, .ref (b)), (1, .ref (qx 0)), (2, .ref (qm 0)), (3, .ref (qo)), (4, .int (nI (i)))] [] := by
  obtain ⟨hLO, hND, hA, hB, hB2, hCc⟩ := hMt
  obtain ⟨hx, hMo, hA1, hA2, hA6, hA8⟩ := hCc cu hcu
  have hE := hG.E
  obtain ⟨hr31, hpop, hil⟩ := hA dr hd
  refine j_aload_n dL_law_241 rfl 1 rfl ?_
  refine j_aload_n dL_law_242 rfl 0 rfl ?_
  refine j_iload dL_law_243 4 rfl ?_
  refine j_iconst (v := nI (1)) dL_law_245 (by decide) ?_
  refine jn_iadd (v := i + 1) dL_law_246 rfl ?_
  refine j_sld hX (by omega) (by omega) dL_law_247 ?_
  refine j_aload_n dL_law_248 rfl 0 rfl ?_
  refine j_iload dL_law_249 4 rfl ?_
  refine j_iconst (v := nI (2)) dL_law_251 (by decide) ?_
  refine jn_iadd (v := i + 2) dL_law_252 rfl ?_
  refine j_sld hX (by omega) (by omega) dL_law_253 ?_
  refine j_aload_n dL_law_254 rfl 0 rfl ?_
  refine j_iload dL_law_255 4 rfl ?_
  refine j_iconst (v := nI (3)) dL_law_257 (by decide) ?_
  refine jn_iadd (v := i + 3) dL_law_258 rfl ?_
  refine j_sld hX (by omega) (by omega) dL_law_259 ?_
  refine j_callSW (mc := 1) (ms := 6) (wc := wX cI cZ qx R C dr sz sa cu fi st lo hi_ wa sw) (wr := (qo, .inl (cJ, 1, .inr (.inl ov))) :: wM cI cJ cZ qm R C mth mkn mme mns mhe mnx (rv dr) mnl mlp cu mso mwi mus mho mnh mke mta mde mse) (av := [.ref (qx 0), .int ((xs (i + 1))), .int ((xs (i + 2))), .int ((xs (i + 3)))]) (rest := []) (w_clueX l hfl D cI cJ cZ qx R C hG dr sz sa cu fi st lo hi_ wa sw hx hIx (xs (i + 1)) (xs (i + 2)) (xs (i + 3)) h1) mw2_41 mw2_42 mw1_0 mw2_43 hd_L_clue rfl ⟨rfl, rfl⟩ ⟨Nat.le_of_ble_eq_true rfl, Nat.le_of_ble_eq_true rfl⟩ (⟨show cs + 1 ≤ 600128 by omega, show ss + 6 ≤ 7301064 by omega⟩) (Nat.le_of_ble_eq_true rfl) [1, 2, 3, 4, 5, 6, 7, 8, 9, 10, 11, 12, 13] [0, 14, 15, 16, 17, 18, 19, 20, 21, 22, 23, 24, 25, 26, 27, 28, 29, 30, 31, 32, 33, 34] rfl rfl rfl rfl (by decide) hZ rfl dL_law_260 ?_
  rintro _ _ ⟨rfl, sz2, sa2, fi2, st2, lo2, hi2, wa2, sw2, hI2, rfl⟩
  refine j_cut (w2 := wZ cI cJ cZ qo qx qm R C ov dr sz2 sa2 cu fi2 st2 lo2 hi2 wa2 sw2 mth mkn mme mns mhe mnx (rv dr) mnl mlp cu mso mwi mus mho mnh mke mta mde mse) [0, 22, 23, 24, 25, 26, 27, 28, 29, 30, 31, 32, 33, 34, 1, 2, 3, 4, 5, 6, 7, 8, 9, 10, 11, 12, 13, 14, 15, 16, 17, 18, 19, 20, 21] rfl rfl ?_
  show V k l D (tys3 cI cJ cZ) room_1 cL_law 7 RL (wZ cI cJ cZ qo qx qm R C ov dr sz2 sa2 cu fi2 st2 lo2 hi2 wa2 sw2 mth mkn mme mns mhe mnx (rv dr) mnl mlp cu mso mwi mus mho mnh mke mta mde mse) (cs + 1) (ss + 6) 263 [(0, .ref (b)), (1, .ref (qx 0)), (2, .ref (qm 0)), (3, .ref (qo)), (4, .int (nI (i)))] [.int (nI (1))]
  refine j_istore [(5, .int (nI (1))), (0, .ref (b)), (1, .ref (qx 0)), (2, .ref (qm 0)), (3, .ref (qo)), (4, .int (nI (i)))] dL_law_263 (by decide) rfl ?_
  refine j_aload_n dL_law_265 rfl 3 rfl ?_
  refine j_aload_n dL_law_266 rfl 1 rfl ?_
  refine j_iload dL_law_267 5 rfl ?_
  refine j_iconst (v := nI (1)) dL_law_269 (by decide) ?_
  refine jn_iadd (v := i + 1) dL_law_270 rfl ?_
  refine j_sld hX (by omega) (by omega) dL_law_271 ?_
  refine j_aload_n dL_law_272 rfl 1 rfl ?_
  refine j_iload dL_law_273 5 rfl ?_
  refine j_iconst (v := nI (2)) dL_law_275 (by decide) ?_
  refine jn_iadd (v := i + 2) dL_law_276 rfl ?_
  refine j_sld hX (by omega) (by omega) dL_law_277 ?_
  refine j_aload_n dL_law_278 rfl 1 rfl ?_
  refine j_iload dL_law_279 5 rfl ?_
  refine j_iconst (v := nI (3)) dL_law_281 (by decide) ?_
  refine jn_iadd (v := i + 3) dL_law_282 rfl ?_
  refine j_sld hX (by omega) (by omega) dL_law_283 ?_
  refine j_callV (mc := 0) (ms := 0) (wc := wM cI cJ cZ qm R C mth mkn mme mns mhe mnx (rv dr) mnl mlp cu mso mwi mus mho mnh mke mta mde mse) (wr := wO cI cJ cZ qo qx R C ov dr sz2 sa2 cu fi2 st2 lo2 hi2 wa2 sw2) (tys3 := tys3 cI cJ cZ) (av := [.int ((xs (i + 1))), .int ((xs (i + 2))), .int ((xs (i + 3)))]) (rest := []) (cm_clueX l hfl D cI cJ cZ qm R C hG mth mkn mme mns mhe mnx (rv dr) mnl mlp cu mso mwi mus mho mnh mke mta mde mse LL hLO hMo hIm (xs (i + 1)) (xs (i + 2)) (xs (i + 3)) h1) 14 rfl rfl mw3_121 mw3_122 mw3_123 mw1_4 mw3_124 ⟨rfl, hd_X3_clue⟩ rfl ⟨rfl, rfl⟩ ⟨Nat.le_of_ble_eq_true rfl, Nat.le_of_ble_eq_true rfl⟩ (⟨show cs + 1 + 0 ≤ 600128 by omega, show ss + 6 + 0 ≤ 7301064 by omega⟩) (Nat.le_of_ble_eq_true rfl) [14, 15, 16, 17, 18, 19, 20, 21, 22, 23, 24, 25, 26, 27, 28, 29, 30, 31, 32, 33, 34] [0, 1, 2, 3, 4, 5, 6, 7, 8, 9, 10, 11, 12, 13] rfl rfl rfl rfl (by decide) (fun _ h _ => h) rfl dL_law_284 ?_
  rintro _ _ ⟨rfl, hMW⟩
  obtain ⟨kn3, me3, ns3, he3, nx3, nl3, lp3, so3, wi3, us3, ho3, nh3, ke3, ta3, de3, se3, hI3, rfl⟩ := hMW
  show V k l D (tys3 cI cJ cZ) room_1 cL_law 7 RL (wZ cI cJ cZ qo qx qm R C ov dr sz2 sa2 cu fi2 st2 lo2 hi2 wa2 sw2 1 kn3 me3 ns3 he3 nx3 (rv dr) nl3 lp3 cu so3 wi3 us3 ho3 nh3 ke3 ta3 de3 se3) (cs + 1) (ss + 6) 287 [(5, .int (nI (1))), (0, .ref (b)), (1, .ref (qx 0)), (2, .ref (qm 0)), (3, .ref (qo)), (4, .int (nI (i)))] []
  refine j_aload_n dL_law_287 rfl 3 rfl ?_
  refine j_callV (mc := 0) (ms := 0) (wc := wM cI cJ cZ qm R C 1 kn3 me3 ns3 he3 nx3 (rv dr) nl3 lp3 cu so3 wi3 us3 ho3 nh3 ke3 ta3 de3 se3) (wr := wO cI cJ cZ qo qx R C ov dr sz2 sa2 cu fi2 st2 lo2 hi2 wa2 sw2) (tys3 := tys3 cI cJ cZ) (av := []) (rest := []) (cm_thrown l hfl D cI cJ cZ qm R C hG 1 kn3 me3 ns3 he3 nx3 (rv dr) nl3 lp3 cu so3 wi3 us3 ho3 nh3 ke3 ta3 de3 se3) 14 rfl rfl mw3_105 mw3_106 mw3_107 mw1_4 mw3_108 ⟨rfl, hd_X3_thrown⟩ rfl ⟨rfl, rfl⟩ ⟨Nat.le_of_ble_eq_true rfl, Nat.le_of_ble_eq_true rfl⟩ (⟨show cs + 1 + 0 ≤ 600128 by omega, show ss + 6 + 0 ≤ 7301064 by omega⟩) (Nat.le_of_ble_eq_true rfl) [14, 15, 16, 17, 18, 19, 20, 21, 22, 23, 24, 25, 26, 27, 28, 29, 30, 31, 32, 33, 34] [0, 1, 2, 3, 4, 5, 6, 7, 8, 9, 10, 11, 12, 13] rfl rfl rfl rfl (by decide) (fun _ h _ => h) rfl dL_law_288 ?_
  rintro _ _ ⟨rfl, rfl⟩
  show V k l D (tys3 cI cJ cZ) room_1 cL_law 7 RL (wZ cI cJ cZ qo qx qm R C ov dr sz2 sa2 cu fi2 st2 lo2 hi2 wa2 sw2 1 kn3 me3 ns3 he3 nx3 (rv dr) nl3 lp3 cu so3 wi3 us3 ho3 nh3 ke3 ta3 de3 se3) (cs + 1) (ss + 6) 291 [(5, .int (nI (1))), (0, .ref (b)), (1, .ref (qx 0)), (2, .ref (qm 0)), (3, .ref (qo)), (4, .int (nI (i)))] [.int (nI (1))]
  refine j_iload dL_law_291 0 rfl ?_
  refine jn_icmp_eq (tgt := 298) (a := 1) (b := 1) (by omega) (by omega) dL_law_293 (by decide) (fun c293 => ?_) (fun c293 => ?_)
  · refine j_goto (tgt := 905) dL_law_298 (by decide) ?_
    refine j_sub [1, 2, 3, 4, 5] [(0, .ref (b)), (1, .ref (qx 0)), (2, .ref (qm 0)), (3, .ref (qo)), (4, .int (nI (i)))] rfl ?_
    exact hk ov 1 dr cu _ _ hd hcu ⟨sz2, sa2, fi2, st2, lo2, hi2, wa2, sw2, hI2, rfl⟩ (MW_of hI3)
  · exact absurd c293 (by first | decide | omega)

set_option maxHeartbeats 8000000 in
set_option maxRecDepth 100000 in
theorem l_clueOf {k : VK} (l : Launch) (hfl : l.flags = flags0) (D : va_G) (cI cJ cZ : ClassId) (qo : Nat) (qx qm : Nat → Nat) (R C : Nat) (hG : GS R C) (LL : List Nat) (hMt : Mth R C LL) (b L : Nat) (xs : Nat → Int32) (hL : L ≤ 258) (hX : SX k b L xs) (hZ : ZX k.2.2.1.1 k.1.2.2.1 k.2.2.1.2) (i cs ss : Nat) (hi : i + 4 ≤ L) (hcs : cs ≤ 10000) (hss : ss ≤ 100000) (ov : Nat → Int64) (dr sz : Nat) (sa : Bool) (cu fi st : Nat → Nat) (lo hi_ : Nat → Option Nat) (wa sw : Nat → Nat) (mth : Nat) (mkn mme : Bool) (mns mhe mnx mnl : Nat) (mlp mso mwi mus mho mnh : Nat → Nat) (mke : Nat → Int64) (mta mde : Nat → Nat) (mse : Nat → Bool) (hd : dr < 2 ^ nE R C) (hcu : CU R C cu) (hIx : XI0 R C cu sa sz fi st lo hi_ wa dr) (hIm : MI R C LL cu mkn mme mns mnl mlp mso mwi mus mde mse (rv dr)) (yr xc : Nat) (hr : yr < R) (hc : xc < C) (h1 : xs (i + 1) = nI yr) (h2 : xs (i + 2) = nI xc) (hk : ∀ (ov2 : Nat → Int64) (th2 d2 : Nat) (cu2 : Nat → Nat) (u1 u2 : va_W), d2 < 2 ^ nE R C → CU R C cu2 → OW cI cJ cZ qo qx R C ov2 d2 cu2 u1 → MW cI cJ cZ qm R C LL th2 (rv d2) cu2 u2 → V k l D (tys3 cI cJ cZ) room_1 cL_law 7 RL (u1 ++ u2) (cs + 1) (ss + 6) 905 [(0, .ref (b)), (1, .ref (qx 0)), (2, .ref (qm 0)), (3, .ref (qo)), (4, .int (nI (i)))] []) : V k l D (tys3 cI cJ cZ) room_1 cL_law 7 RL (wZ cI cJ cZ qo qx qm R C ov dr sz sa cu fi st lo hi_ wa sw mth mkn mme mns mhe mnx (rv dr) mnl mlp cu mso mwi mus mho mnh mke mta mde mse) (cs) (ss) 837 [(0, .ref (b)), (1, .ref (qx 0)), (2, .ref (qm 0)), (3, .ref (qo)), (4, .int (nI (i)))] [] := by
  obtain ⟨hLO, hND, hA, hB, hB2, hCc⟩ := hMt
  obtain ⟨hx, hMo, hA1, hA2, hA6, hA8⟩ := hCc cu hcu
  have hE := hG.E
  obtain ⟨hr31, hpop, hil⟩ := hA dr hd
  refine j_aload_n dL_law_837 rfl 1 rfl ?_
  refine j_aload_n dL_law_838 rfl 0 rfl ?_
  refine j_iload dL_law_839 4 rfl ?_
  refine j_iconst (v := nI (1)) dL_law_841 (by decide) ?_
  refine jn_iadd (v := i + 1) dL_law_842 rfl ?_
  refine j_sld hX (by omega) (by omega) dL_law_843 ?_
  refine j_topi (y := nI (yr)) (h1) ?_
  refine j_aload_n dL_law_844 rfl 0 rfl ?_
  refine j_iload dL_law_845 4 rfl ?_
  refine j_iconst (v := nI (2)) dL_law_847 (by decide) ?_
  refine jn_iadd (v := i + 2) dL_law_848 rfl ?_
  refine j_sld hX (by omega) (by omega) dL_law_849 ?_
  refine j_topi (y := nI (xc)) (h2) ?_
  refine j_aload_n dL_law_850 rfl 3 rfl ?_
  refine j_callSW (mc := 1) (ms := 6) (wc := wO cI cJ cZ qo qx R C ov dr sz sa cu fi st lo hi_ wa sw) (wr := wM cI cJ cZ qm R C mth mkn mme mns mhe mnx (rv dr) mnl mlp cu mso mwi mus mho mnh mke mta mde mse) (av := [.ref (qx 0), .int (nI (yr)), .int (nI (xc)), .ref (qo)]) (rest := []) (w_clueOf l hfl D cI cJ cZ qo qx R C hG dr sz sa cu fi st lo hi_ wa sw ov hx hIx yr xc hr hc) mw2_172 mw2_173 mw1_0 mw2_174 hd_L_clueOf rfl ⟨rfl, rfl⟩ ⟨Nat.le_of_ble_eq_true rfl, Nat.le_of_ble_eq_true rfl⟩ (⟨show cs + 1 ≤ 600128 by omega, show ss + 6 ≤ 7301064 by omega⟩) (Nat.le_of_ble_eq_true rfl) [0, 1, 2, 3, 4, 5, 6, 7, 8, 9, 10, 11, 12, 13] [14, 15, 16, 17, 18, 19, 20, 21, 22, 23, 24, 25, 26, 27, 28, 29, 30, 31, 32, 33, 34] rfl rfl rfl rfl (by decide) hZ rfl dL_law_851 ?_
  rintro _ _ ⟨rfl, sz2, sa2, fi2, st2, lo2, hi2, wa2, sw2, hI2, rfl⟩
  refine j_cut (w2 := wZ cI cJ cZ qo qx qm R C (va_up ov 0 ((eI (cu (yr * C + xc))).toInt64)) dr sz2 sa2 cu fi2 st2 lo2 hi2 wa2 sw2 mth mkn mme mns mhe mnx (rv dr) mnl mlp cu mso mwi mus mho mnh mke mta mde mse) [21, 22, 23, 24, 25, 26, 27, 28, 29, 30, 31, 32, 33, 34, 0, 1, 2, 3, 4, 5, 6, 7, 8, 9, 10, 11, 12, 13, 14, 15, 16, 17, 18, 19, 20] rfl rfl ?_
  show V k l D (tys3 cI cJ cZ) room_1 cL_law 7 RL (wZ cI cJ cZ qo qx qm R C (va_up ov 0 ((eI (cu (yr * C + xc))).toInt64)) dr sz2 sa2 cu fi2 st2 lo2 hi2 wa2 sw2 mth mkn mme mns mhe mnx (rv dr) mnl mlp cu mso mwi mus mho mnh mke mta mde mse) (cs + 1) (ss + 6) 854 [(0, .ref (b)), (1, .ref (qx 0)), (2, .ref (qm 0)), (3, .ref (qo)), (4, .int (nI (i)))] [.int (nI (0))]
  refine j_istore [(5, .int (nI (0))), (0, .ref (b)), (1, .ref (qx 0)), (2, .ref (qm 0)), (3, .ref (qo)), (4, .int (nI (i)))] dL_law_854 (by decide) rfl ?_
  refine j_aload_n dL_law_856 rfl 3 rfl ?_
  refine j_aload_n dL_law_857 rfl 1 rfl ?_
  refine j_iload dL_law_858 5 rfl ?_
  refine j_iconst (v := nI (1)) dL_law_860 (by decide) ?_
  refine jn_iadd (v := i + 1) dL_law_861 rfl ?_
  refine j_sld hX (by omega) (by omega) dL_law_862 ?_
  refine j_topi (y := nI (yr)) (h1) ?_
  refine j_aload_n dL_law_863 rfl 1 rfl ?_
  refine j_iload dL_law_864 5 rfl ?_
  refine j_iconst (v := nI (2)) dL_law_866 (by decide) ?_
  refine jn_iadd (v := i + 2) dL_law_867 rfl ?_
  refine j_sld hX (by omega) (by omega) dL_law_868 ?_
  refine j_topi (y := nI (xc)) (h2) ?_
  refine j_callV (mc := 0) (ms := 0) (wc := wM cI cJ cZ qm R C mth mkn mme mns mhe mnx (rv dr) mnl mlp cu mso mwi mus mho mnh mke mta mde mse) (wr := wO cI cJ cZ qo qx R C (va_up ov 0 ((eI (cu (yr * C + xc))).toInt64)) dr sz2 sa2 cu fi2 st2 lo2 hi2 wa2 sw2) (tys3 := tys3 cI cJ cZ) (av := [.int (nI (yr)), .int (nI (xc))]) (rest := []) (cm_clueOf l hfl D cI cJ cZ qm R C hG mth mkn mme mns mhe mnx (rv dr) mnl mlp cu mso mwi mus mho mnh mke mta mde mse LL hLO hMo hIm yr xc hr hc) 14 rfl rfl mw3_125 mw3_126 mw3_127 mw1_4 mw3_128 ⟨rfl, hd_X3_clueOf⟩ rfl ⟨rfl, rfl⟩ ⟨Nat.le_of_ble_eq_true rfl, Nat.le_of_ble_eq_true rfl⟩ (⟨show cs + 1 + 0 ≤ 600128 by omega, show ss + 6 + 0 ≤ 7301064 by omega⟩) (Nat.le_of_ble_eq_true rfl) [14, 15, 16, 17, 18, 19, 20, 21, 22, 23, 24, 25, 26, 27, 28, 29, 30, 31, 32, 33, 34] [0, 1, 2, 3, 4, 5, 6, 7, 8, 9, 10, 11, 12, 13] rfl rfl rfl rfl (by decide) (fun _ h _ => h) rfl dL_law_869 ?_
  rintro _ _ ⟨rfl, hMW⟩
  obtain ⟨kn3, me3, ns3, he3, nx3, nl3, lp3, so3, wi3, us3, ho3, nh3, ke3, ta3, de3, se3, hI3, rfl⟩ := hMW
  show V k l D (tys3 cI cJ cZ) room_1 cL_law 7 RL (wZ cI cJ cZ qo qx qm R C (va_up ov 0 ((eI (cu (yr * C + xc))).toInt64)) dr sz2 sa2 cu fi2 st2 lo2 hi2 wa2 sw2 0 kn3 me3 ns3 he3 nx3 (rv dr) nl3 lp3 cu so3 wi3 us3 ho3 nh3 ke3 ta3 de3 se3) (cs + 1) (ss + 6) 872 [(5, .int (nI (0))), (0, .ref (b)), (1, .ref (qx 0)), (2, .ref (qm 0)), (3, .ref (qo)), (4, .int (nI (i)))] [.int (eI (cu (yr * C + xc)))]
  refine j_istore [(6, .int (eI (cu (yr * C + xc)))), (5, .int (nI (0))), (0, .ref (b)), (1, .ref (qx 0)), (2, .ref (qm 0)), (3, .ref (qo)), (4, .int (nI (i)))] dL_law_872 (by decide) rfl ?_
  refine j_aload_n dL_law_874 rfl 4 rfl ?_
  refine j_callV (mc := 0) (ms := 0) (wc := wM cI cJ cZ qm R C 0 kn3 me3 ns3 he3 nx3 (rv dr) nl3 lp3 cu so3 wi3 us3 ho3 nh3 ke3 ta3 de3 se3) (wr := wO cI cJ cZ qo qx R C (va_up ov 0 ((eI (cu (yr * C + xc))).toInt64)) dr sz2 sa2 cu fi2 st2 lo2 hi2 wa2 sw2) (tys3 := tys3 cI cJ cZ) (av := []) (rest := []) (cm_thrown l hfl D cI cJ cZ qm R C hG 0 kn3 me3 ns3 he3 nx3 (rv dr) nl3 lp3 cu so3 wi3 us3 ho3 nh3 ke3 ta3 de3 se3) 14 rfl rfl mw3_105 mw3_106 mw3_107 mw1_4 mw3_108 ⟨rfl, hd_X3_thrown⟩ rfl ⟨rfl, rfl⟩ ⟨Nat.le_of_ble_eq_true rfl, Nat.le_of_ble_eq_true rfl⟩ (⟨show cs + 1 + 0 ≤ 600128 by omega, show ss + 6 + 0 ≤ 7301064 by omega⟩) (Nat.le_of_ble_eq_true rfl) [14, 15, 16, 17, 18, 19, 20, 21, 22, 23, 24, 25, 26, 27, 28, 29, 30, 31, 32, 33, 34] [0, 1, 2, 3, 4, 5, 6, 7, 8, 9, 10, 11, 12, 13] rfl rfl rfl rfl (by decide) (fun _ h _ => h) rfl dL_law_875 ?_
  rintro _ _ ⟨rfl, rfl⟩
  show V k l D (tys3 cI cJ cZ) room_1 cL_law 7 RL (wZ cI cJ cZ qo qx qm R C (va_up ov 0 ((eI (cu (yr * C + xc))).toInt64)) dr sz2 sa2 cu fi2 st2 lo2 hi2 wa2 sw2 0 kn3 me3 ns3 he3 nx3 (rv dr) nl3 lp3 cu so3 wi3 us3 ho3 nh3 ke3 ta3 de3 se3) (cs + 1) (ss + 6) 878 [(6, .int (eI (cu (yr * C + xc)))), (5, .int (nI (0))), (0, .ref (b)), (1, .ref (qx 0)), (2, .ref (qm 0)), (3, .ref (qo)), (4, .int (nI (i)))] [.int (nI (0))]
  refine j_iload dL_law_878 1 rfl ?_
  refine jn_icmp_eq (tgt := 885) (a := 0) (b := 0) (by omega) (by omega) dL_law_880 (by decide) (fun c880 => ?_) (fun c880 => ?_)
  · refine j_iload dL_law_885 1 rfl ?_
    refine jn_if_ne (tgt := 902) (a := 0) (by omega) dL_law_887 (by decide) (fun c887 => ?_) (fun c887 => ?_)
    · exact absurd c887 (by first | decide | omega)
    · refine j_aload_n dL_law_890 rfl 5 rfl ?_
      refine j_iconst (v := nI (0)) dL_law_891 (by decide) ?_
      refine jn_lald (v := (eI (cu (yr * C + xc))).toInt64) 0 1 rfl rfl (by omega) (by omega) (by exact va_up_self _ _ _) dL_law_892 ?_
      refine j_iload dL_law_893 0 rfl ?_
      refine j_i2l dL_law_895 rfl ?_
      refine j_lcmp dL_law_896 rfl ?_
      refine j_if_eq (tgt := 902) dL_law_897 (by decide) (fun c897 => ?_) (fun c897 => ?_)
      · refine j_goto (tgt := 905) dL_law_902 (by decide) ?_
        refine j_sub [2, 3, 4, 5, 6] [(0, .ref (b)), (1, .ref (qx 0)), (2, .ref (qm 0)), (3, .ref (qo)), (4, .int (nI (i)))] rfl ?_
        exact hk (va_up ov 0 ((eI (cu (yr * C + xc))).toInt64)) 0 dr cu _ _ hd hcu ⟨sz2, sa2, fi2, st2, lo2, hi2, wa2, sw2, hI2, rfl⟩ (MW_of hI3)
      · exact absurd ((lg_cmp_eq _ _).mpr (rfl)) c897
  · exact absurd c880 (by first | decide | omega)

set_option maxHeartbeats 8000000 in
set_option maxRecDepth 100000 in
theorem l_clueOfX {k : VK} (l : Launch) (hfl : l.flags = flags0) (D : va_G) (cI cJ cZ : ClassId) (qo : Nat) (qx qm : Nat → Nat) (R C : Nat) (hG : GS R C) (LL : List Nat) (hMt : Mth R C LL) (b L : Nat) (xs : Nat → Int32) (hL : L ≤ 258) (hX : SX k b L xs) (hZ : ZX k.2.2.1.1 k.1.2.2.1 k.2.2.1.2) (i cs ss : Nat) (hi : i + 4 ≤ L) (hcs : cs ≤ 10000) (hss : ss ≤ 100000) (ov : Nat → Int64) (dr sz : Nat) (sa : Bool) (cu fi st : Nat → Nat) (lo hi_ : Nat → Option Nat) (wa sw : Nat → Nat) (mth : Nat) (mkn mme : Bool) (mns mhe mnx mnl : Nat) (mlp mso mwi mus mho mnh : Nat → Nat) (mke : Nat → Int64) (mta mde : Nat → Nat) (mse : Nat → Bool) (hd : dr < 2 ^ nE R C) (hcu : CU R C cu) (hIx : XI0 R C cu sa sz fi st lo hi_ wa dr) (hIm : MI R C LL cu mkn mme mns mnl mlp mso mwi mus mde mse (rv dr)) (h1 : (inB R (xs (i + 1)) && inB C (xs (i + 2))) = false) (hk : ∀ (ov2 : Nat → Int64) (th2 d2 : Nat) (cu2 : Nat → Nat) (u1 u2 : va_W), d2 < 2 ^ nE R C → CU R C cu2 → OW cI cJ cZ qo qx R C ov2 d2 cu2 u1 → MW cI cJ cZ qm R C LL th2 (rv d2) cu2 u2 → V k l D (tys3 cI cJ cZ) room_1 cL_law 7 RL (u1 ++ u2) (cs + 1) (ss + 6) 905 [(0, .ref (b)), (1, .ref (qx 0)), (2, .ref (qm 0)), (3, .ref (qo)), (4, .int (nI (i)))] []) : V k l D (tys3 cI cJ cZ) room_1 cL_law 7 RL (wZ cI cJ cZ qo qx qm R C ov dr sz sa cu fi st lo hi_ wa sw mth mkn mme mns mhe mnx (rv dr) mnl mlp cu mso mwi mus mho mnh mke mta mde mse) (cs) (ss) 837 [(0, .ref (b)), (1, .ref (qx 0)), (2, .ref (qm 0)), (3, .ref (qo)), (4, .int (nI (i)))] [] := by
  obtain ⟨hLO, hND, hA, hB, hB2, hCc⟩ := hMt
  obtain ⟨hx, hMo, hA1, hA2, hA6, hA8⟩ := hCc cu hcu
  have hE := hG.E
  obtain ⟨hr31, hpop, hil⟩ := hA dr hd
  refine j_aload_n dL_law_837 rfl 1 rfl ?_
  refine j_aload_n dL_law_838 rfl 0 rfl ?_
  refine j_iload dL_law_839 4 rfl ?_
  refine j_iconst (v := nI (1)) dL_law_841 (by decide) ?_
  refine jn_iadd (v := i + 1) dL_law_842 rfl ?_
  refine j_sld hX (by omega) (by omega) dL_law_843 ?_
  refine j_aload_n dL_law_844 rfl 0 rfl ?_
  refine j_iload dL_law_845 4 rfl ?_
  refine j_iconst (v := nI (2)) dL_law_847 (by decide) ?_
  refine jn_iadd (v := i + 2) dL_law_848 rfl ?_
  refine j_sld hX (by omega) (by omega) dL_law_849 ?_
  refine j_aload_n dL_law_850 rfl 3 rfl ?_
  refine j_callSW (mc := 1) (ms := 6) (wc := wO cI cJ cZ qo qx R C ov dr sz sa cu fi st lo hi_ wa sw) (wr := wM cI cJ cZ qm R C mth mkn mme mns mhe mnx (rv dr) mnl mlp cu mso mwi mus mho mnh mke mta mde mse) (av := [.ref (qx 0), .int ((xs (i + 1))), .int ((xs (i + 2))), .ref (qo)]) (rest := []) (w_clueOfX l hfl D cI cJ cZ qo qx R C hG dr sz sa cu fi st lo hi_ wa sw ov hx hIx (xs (i + 1)) (xs (i + 2)) h1) mw2_172 mw2_173 mw1_0 mw2_174 hd_L_clueOf rfl ⟨rfl, rfl⟩ ⟨Nat.le_of_ble_eq_true rfl, Nat.le_of_ble_eq_true rfl⟩ (⟨show cs + 1 ≤ 600128 by omega, show ss + 6 ≤ 7301064 by omega⟩) (Nat.le_of_ble_eq_true rfl) [0, 1, 2, 3, 4, 5, 6, 7, 8, 9, 10, 11, 12, 13] [14, 15, 16, 17, 18, 19, 20, 21, 22, 23, 24, 25, 26, 27, 28, 29, 30, 31, 32, 33, 34] rfl rfl rfl rfl (by decide) hZ rfl dL_law_851 ?_
  rintro _ _ ⟨rfl, sz2, sa2, fi2, st2, lo2, hi2, wa2, sw2, hI2, rfl⟩
  refine j_cut (w2 := wZ cI cJ cZ qo qx qm R C ov dr sz2 sa2 cu fi2 st2 lo2 hi2 wa2 sw2 mth mkn mme mns mhe mnx (rv dr) mnl mlp cu mso mwi mus mho mnh mke mta mde mse) [21, 22, 23, 24, 25, 26, 27, 28, 29, 30, 31, 32, 33, 34, 0, 1, 2, 3, 4, 5, 6, 7, 8, 9, 10, 11, 12, 13, 14, 15, 16, 17, 18, 19, 20] rfl rfl ?_
  show V k l D (tys3 cI cJ cZ) room_1 cL_law 7 RL (wZ cI cJ cZ qo qx qm R C ov dr sz2 sa2 cu fi2 st2 lo2 hi2 wa2 sw2 mth mkn mme mns mhe mnx (rv dr) mnl mlp cu mso mwi mus mho mnh mke mta mde mse) (cs + 1) (ss + 6) 854 [(0, .ref (b)), (1, .ref (qx 0)), (2, .ref (qm 0)), (3, .ref (qo)), (4, .int (nI (i)))] [.int (nI (1))]
  refine j_istore [(5, .int (nI (1))), (0, .ref (b)), (1, .ref (qx 0)), (2, .ref (qm 0)), (3, .ref (qo)), (4, .int (nI (i)))] dL_law_854 (by decide) rfl ?_
  refine j_aload_n dL_law_856 rfl 3 rfl ?_
  refine j_aload_n dL_law_857 rfl 1 rfl ?_
  refine j_iload dL_law_858 5 rfl ?_
  refine j_iconst (v := nI (1)) dL_law_860 (by decide) ?_
  refine jn_iadd (v := i + 1) dL_law_861 rfl ?_
  refine j_sld hX (by omega) (by omega) dL_law_862 ?_
  refine j_aload_n dL_law_863 rfl 1 rfl ?_
  refine j_iload dL_law_864 5 rfl ?_
  refine j_iconst (v := nI (2)) dL_law_866 (by decide) ?_
  refine jn_iadd (v := i + 2) dL_law_867 rfl ?_
  refine j_sld hX (by omega) (by omega) dL_law_868 ?_
  refine j_callV (mc := 0) (ms := 0) (wc := wM cI cJ cZ qm R C mth mkn mme mns mhe mnx (rv dr) mnl mlp cu mso mwi mus mho mnh mke mta mde mse) (wr := wO cI cJ cZ qo qx R C ov dr sz2 sa2 cu fi2 st2 lo2 hi2 wa2 sw2) (tys3 := tys3 cI cJ cZ) (av := [.int ((xs (i + 1))), .int ((xs (i + 2)))]) (rest := []) (cm_clueOfX l hfl D cI cJ cZ qm R C hG mth mkn mme mns mhe mnx (rv dr) mnl mlp cu mso mwi mus mho mnh mke mta mde mse LL hLO hMo hIm (xs (i + 1)) (xs (i + 2)) h1) 14 rfl rfl mw3_125 mw3_126 mw3_127 mw1_4 mw3_128 ⟨rfl, hd_X3_clueOf⟩ rfl ⟨rfl, rfl⟩ ⟨Nat.le_of_ble_eq_true rfl, Nat.le_of_ble_eq_true rfl⟩ (⟨show cs + 1 + 0 ≤ 600128 by omega, show ss + 6 + 0 ≤ 7301064 by omega⟩) (Nat.le_of_ble_eq_true rfl) [14, 15, 16, 17, 18, 19, 20, 21, 22, 23, 24, 25, 26, 27, 28, 29, 30, 31, 32, 33, 34] [0, 1, 2, 3, 4, 5, 6, 7, 8, 9, 10, 11, 12, 13] rfl rfl rfl rfl (by decide) (fun _ h _ => h) rfl dL_law_869 ?_
  rintro _ _ ⟨rfl, hMW⟩
  obtain ⟨kn3, me3, ns3, he3, nx3, nl3, lp3, so3, wi3, us3, ho3, nh3, ke3, ta3, de3, se3, hI3, rfl⟩ := hMW
  show V k l D (tys3 cI cJ cZ) room_1 cL_law 7 RL (wZ cI cJ cZ qo qx qm R C ov dr sz2 sa2 cu fi2 st2 lo2 hi2 wa2 sw2 1 kn3 me3 ns3 he3 nx3 (rv dr) nl3 lp3 cu so3 wi3 us3 ho3 nh3 ke3 ta3 de3 se3) (cs + 1) (ss + 6) 872 [(5, .int (nI (1))), (0, .ref (b)), (1, .ref (qx 0)), (2, .ref (qm 0)), (3, .ref (qo)), (4, .int (nI (i)))] [.int (nI (0))]
  refine j_istore [(6, .int (nI (0))), (5, .int (nI (1))), (0, .ref (b)), (1, .ref (qx 0)), (2, .ref (qm 0)), (3, .ref (qo)), (4, .int (nI (i)))] dL_law_872 (by decide) rfl ?_
  refine j_aload_n dL_law_874 rfl 4 rfl ?_
  refine j_callV (mc := 0) (ms := 0) (wc := wM cI cJ cZ qm R C 1 kn3 me3 ns3 he3 nx3 (rv dr) nl3 lp3 cu so3 wi3 us3 ho3 nh3 ke3 ta3 de3 se3) (wr := wO cI cJ cZ qo qx R C ov dr sz2 sa2 cu fi2 st2 lo2 hi2 wa2 sw2) (tys3 := tys3 cI cJ cZ) (av := []) (rest := []) (cm_thrown l hfl D cI cJ cZ qm R C hG 1 kn3 me3 ns3 he3 nx3 (rv dr) nl3 lp3 cu so3 wi3 us3 ho3 nh3 ke3 ta3 de3 se3) 14 rfl rfl mw3_105 mw3_106 mw3_107 mw1_4 mw3_108 ⟨rfl, hd_X3_thrown⟩ rfl ⟨rfl, rfl⟩ ⟨Nat.le_of_ble_eq_true rfl, Nat.le_of_ble_eq_true rfl⟩ (⟨show cs + 1 + 0 ≤ 600128 by omega, show ss + 6 + 0 ≤ 7301064 by omega⟩) (Nat.le_of_ble_eq_true rfl) [14, 15, 16, 17, 18, 19, 20, 21, 22, 23, 24, 25, 26, 27, 28, 29, 30, 31, 32, 33, 34] [0, 1, 2, 3, 4, 5, 6, 7, 8, 9, 10, 11, 12, 13] rfl rfl rfl rfl (by decide) (fun _ h _ => h) rfl dL_law_875 ?_
  rintro _ _ ⟨rfl, rfl⟩
  show V k l D (tys3 cI cJ cZ) room_1 cL_law 7 RL (wZ cI cJ cZ qo qx qm R C ov dr sz2 sa2 cu fi2 st2 lo2 hi2 wa2 sw2 1 kn3 me3 ns3 he3 nx3 (rv dr) nl3 lp3 cu so3 wi3 us3 ho3 nh3 ke3 ta3 de3 se3) (cs + 1) (ss + 6) 878 [(6, .int (nI (0))), (5, .int (nI (1))), (0, .ref (b)), (1, .ref (qx 0)), (2, .ref (qm 0)), (3, .ref (qo)), (4, .int (nI (i)))] [.int (nI (1))]
  refine j_iload dL_law_878 1 rfl ?_
  refine jn_icmp_eq (tgt := 885) (a := 1) (b := 1) (by omega) (by omega) dL_law_880 (by decide) (fun c880 => ?_) (fun c880 => ?_)
  · refine j_iload dL_law_885 1 rfl ?_
    refine jn_if_ne (tgt := 902) (a := 1) (by omega) dL_law_887 (by decide) (fun c887 => ?_) (fun c887 => ?_)
    · refine j_goto (tgt := 905) dL_law_902 (by decide) ?_
      refine j_sub [2, 3, 4, 5, 6] [(0, .ref (b)), (1, .ref (qx 0)), (2, .ref (qm 0)), (3, .ref (qo)), (4, .int (nI (i)))] rfl ?_
      exact hk ov 1 dr cu _ _ hd hcu ⟨sz2, sa2, fi2, st2, lo2, hi2, wa2, sw2, hI2, rfl⟩ (MW_of hI3)
    · exact absurd c887 (by first | decide | omega)
  · exact absurd c880 (by first | decide | omega)

set_option maxHeartbeats 8000000 in
set_option maxRecDepth 100000 in
theorem l_often {k : VK} (l : Launch) (hfl : l.flags = flags0) (D : va_G) (cI cJ cZ : ClassId) (qo : Nat) (qx qm : Nat → Nat) (R C : Nat) (hG : GS R C) (LL : List Nat) (hMt : Mth R C LL) (b L : Nat) (xs : Nat → Int32) (hL : L ≤ 258) (hX : SX k b L xs) (hZ : ZX k.2.2.1.1 k.1.2.2.1 k.2.2.1.2) (i cs ss : Nat) (hi : i + 4 ≤ L) (hcs : cs ≤ 10000) (hss : ss ≤ 100000) (ov : Nat → Int64) (dr sz : Nat) (sa : Bool) (cu fi st : Nat → Nat) (lo hi_ : Nat → Option Nat) (wa sw : Nat → Nat) (mth : Nat) (mkn mme : Bool) (mns mhe mnx mnl : Nat) (mlp mso mwi mus mho mnh : Nat → Nat) (mke : Nat → Int64) (mta mde : Nat → Nat) (mse : Nat → Bool) (hd : dr < 2 ^ nE R C) (hcu : CU R C cu) (hIx : XI0 R C cu sa sz fi st lo hi_ wa dr) (hIm : MI R C LL cu mkn mme mns mnl mlp mso mwi mus mde mse (rv dr)) (e : Nat) (hee : e < nE R C) (h1 : xs (i + 1) = nI e) (hk : ∀ (ov2 : Nat → Int64) (th2 d2 : Nat) (cu2 : Nat → Nat) (u1 u2 : va_W), d2 < 2 ^ nE R C → CU R C cu2 → OW cI cJ cZ qo qx R C ov2 d2 cu2 u1 → MW cI cJ cZ qm R C LL th2 (rv d2) cu2 u2 → V k l D (tys3 cI cJ cZ) room_1 cL_law 7 RL (u1 ++ u2) (cs + 1) (ss + 6) 905 [(0, .ref (b)), (1, .ref (qx 0)), (2, .ref (qm 0)), (3, .ref (qo)), (4, .int (nI (i)))] []) : V k l D (tys3 cI cJ cZ) room_1 cL_law 7 RL (wZ cI cJ cZ qo qx qm R C ov dr sz sa cu fi st lo hi_ wa sw mth mkn mme mns mhe mnx (rv dr) mnl mlp cu mso mwi mus mho mnh mke mta mde mse) (cs) (ss) 542 [(0, .ref (b)), (1, .ref (qx 0)), (2, .ref (qm 0)), (3, .ref (qo)), (4, .int (nI (i)))] [] := by
  obtain ⟨hLO, hND, hA, hB, hB2, hCc⟩ := hMt
  obtain ⟨hx, hMo, hA1, hA2, hA6, hA8⟩ := hCc cu hcu
  have hE := hG.E
  obtain ⟨hr31, hpop, hil⟩ := hA dr hd
  refine j_aload_n dL_law_542 rfl 1 rfl ?_
  refine j_aload_n dL_law_543 rfl 0 rfl ?_
  refine j_iload dL_law_544 4 rfl ?_
  refine j_iconst (v := nI (1)) dL_law_546 (by decide) ?_
  refine jn_iadd (v := i + 1) dL_law_547 rfl ?_
  refine j_sld hX (by omega) (by omega) dL_law_548 ?_
  refine j_topi (y := nI (e)) (h1) ?_
  refine j_aload_n dL_law_549 rfl 3 rfl ?_
  refine j_callSW (mc := 1) (ms := 6) (wc := wO cI cJ cZ qo qx R C ov dr sz sa cu fi st lo hi_ wa sw) (wr := wM cI cJ cZ qm R C mth mkn mme mns mhe mnx (rv dr) mnl mlp cu mso mwi mus mho mnh mke mta mde mse) (av := [.ref (qx 0), .int (nI (e)), .ref (qo)]) (rest := []) (w_often l hfl D cI cJ cZ qo qx R C hG dr sz sa cu fi st lo hi_ wa sw ov hx hIx e hee) mw2_117 mw2_118 mw1_0 mw2_119 hd_L_often rfl ⟨rfl, rfl⟩ ⟨Nat.le_of_ble_eq_true rfl, Nat.le_of_ble_eq_true rfl⟩ (⟨show cs + 1 ≤ 600128 by omega, show ss + 6 ≤ 7301064 by omega⟩) (Nat.le_of_ble_eq_true rfl) [0, 1, 2, 3, 4, 5, 6, 7, 8, 9, 10, 11, 12, 13] [14, 15, 16, 17, 18, 19, 20, 21, 22, 23, 24, 25, 26, 27, 28, 29, 30, 31, 32, 33, 34] rfl rfl rfl rfl (by decide) hZ rfl dL_law_550 ?_
  rintro _ _ ⟨rfl, sz2, sa2, fi2, st2, lo2, hi2, wa2, sw2, hI2, rfl⟩
  refine j_cut (w2 := wZ cI cJ cZ qo qx qm R C (va_up ov 0 ((nI (WS R C cu (2 ^ e) (nE R C) 0 1672)).toInt64)) dr sz2 sa2 cu fi2 st2 lo2 hi2 wa2 sw2 mth mkn mme mns mhe mnx (rv dr) mnl mlp cu mso mwi mus mho mnh mke mta mde mse) [21, 22, 23, 24, 25, 26, 27, 28, 29, 30, 31, 32, 33, 34, 0, 1, 2, 3, 4, 5, 6, 7, 8, 9, 10, 11, 12, 13, 14, 15, 16, 17, 18, 19, 20] rfl rfl ?_
  show V k l D (tys3 cI cJ cZ) room_1 cL_law 7 RL (wZ cI cJ cZ qo qx qm R C (va_up ov 0 ((nI (WS R C cu (2 ^ e) (nE R C) 0 1672)).toInt64)) dr sz2 sa2 cu fi2 st2 lo2 hi2 wa2 sw2 mth mkn mme mns mhe mnx (rv dr) mnl mlp cu mso mwi mus mho mnh mke mta mde mse) (cs + 1) (ss + 6) 553 [(0, .ref (b)), (1, .ref (qx 0)), (2, .ref (qm 0)), (3, .ref (qo)), (4, .int (nI (i)))] [.int (nI (0))]
  refine j_istore [(5, .int (nI (0))), (0, .ref (b)), (1, .ref (qx 0)), (2, .ref (qm 0)), (3, .ref (qo)), (4, .int (nI (i)))] dL_law_553 (by decide) rfl ?_
  refine j_aload_n dL_law_555 rfl 3 rfl ?_
  refine j_aload_n dL_law_556 rfl 1 rfl ?_
  refine j_iload dL_law_557 5 rfl ?_
  refine j_iconst (v := nI (1)) dL_law_559 (by decide) ?_
  refine jn_iadd (v := i + 1) dL_law_560 rfl ?_
  refine j_sld hX (by omega) (by omega) dL_law_561 ?_
  refine j_topi (y := nI (e)) (h1) ?_
  refine j_callV (mc := 0) (ms := 0) (wc := wM cI cJ cZ qm R C mth mkn mme mns mhe mnx (rv dr) mnl mlp cu mso mwi mus mho mnh mke mta mde mse) (wr := wO cI cJ cZ qo qx R C (va_up ov 0 ((nI (WS R C cu (2 ^ e) (nE R C) 0 1672)).toInt64)) dr sz2 sa2 cu fi2 st2 lo2 hi2 wa2 sw2) (tys3 := tys3 cI cJ cZ) (av := [.int (nI (e))]) (rest := []) (cm_often l hfl D cI cJ cZ qm R C hG mth mkn mme mns mhe mnx (rv dr) mnl mlp cu mso mwi mus mho mnh mke mta mde mse LL hLO hMo hIm e hee) 14 rfl rfl mw3_198 mw3_199 mw3_200 mw1_4 mw3_201 ⟨rfl, hd_X3_often⟩ rfl ⟨rfl, rfl⟩ ⟨Nat.le_of_ble_eq_true rfl, Nat.le_of_ble_eq_true rfl⟩ (⟨show cs + 1 + 0 ≤ 600128 by omega, show ss + 6 + 0 ≤ 7301064 by omega⟩) (Nat.le_of_ble_eq_true rfl) [14, 15, 16, 17, 18, 19, 20, 21, 22, 23, 24, 25, 26, 27, 28, 29, 30, 31, 32, 33, 34] [0, 1, 2, 3, 4, 5, 6, 7, 8, 9, 10, 11, 12, 13] rfl rfl rfl rfl (by decide) (fun _ h _ => h) rfl dL_law_562 ?_
  rintro _ _ ⟨rfl, hMW⟩
  obtain ⟨kn3, me3, ns3, he3, nx3, nl3, lp3, so3, wi3, us3, ho3, nh3, ke3, ta3, de3, se3, hI3, rfl⟩ := hMW
  show V k l D (tys3 cI cJ cZ) room_1 cL_law 7 RL (wZ cI cJ cZ qo qx qm R C (va_up ov 0 ((nI (WS R C cu (2 ^ e) (nE R C) 0 1672)).toInt64)) dr sz2 sa2 cu fi2 st2 lo2 hi2 wa2 sw2 0 kn3 me3 ns3 he3 nx3 (rv dr) nl3 lp3 cu so3 wi3 us3 ho3 nh3 ke3 ta3 de3 se3) (cs + 1) (ss + 6) 565 [(5, .int (nI (0))), (0, .ref (b)), (1, .ref (qx 0)), (2, .ref (qm 0)), (3, .ref (qo)), (4, .int (nI (i)))] [.int (nI (wall (sol R C cu LL) (2 ^ (30 - e))))]
  refine j_istore [(6, .int (nI (wall (sol R C cu LL) (2 ^ (30 - e))))), (5, .int (nI (0))), (0, .ref (b)), (1, .ref (qx 0)), (2, .ref (qm 0)), (3, .ref (qo)), (4, .int (nI (i)))] dL_law_565 (by decide) rfl ?_
  refine j_aload_n dL_law_567 rfl 4 rfl ?_
  refine j_callV (mc := 0) (ms := 0) (wc := wM cI cJ cZ qm R C 0 kn3 me3 ns3 he3 nx3 (rv dr) nl3 lp3 cu so3 wi3 us3 ho3 nh3 ke3 ta3 de3 se3) (wr := wO cI cJ cZ qo qx R C (va_up ov 0 ((nI (WS R C cu (2 ^ e) (nE R C) 0 1672)).toInt64)) dr sz2 sa2 cu fi2 st2 lo2 hi2 wa2 sw2) (tys3 := tys3 cI cJ cZ) (av := []) (rest := []) (cm_thrown l hfl D cI cJ cZ qm R C hG 0 kn3 me3 ns3 he3 nx3 (rv dr) nl3 lp3 cu so3 wi3 us3 ho3 nh3 ke3 ta3 de3 se3) 14 rfl rfl mw3_105 mw3_106 mw3_107 mw1_4 mw3_108 ⟨rfl, hd_X3_thrown⟩ rfl ⟨rfl, rfl⟩ ⟨Nat.le_of_ble_eq_true rfl, Nat.le_of_ble_eq_true rfl⟩ (⟨show cs + 1 + 0 ≤ 600128 by omega, show ss + 6 + 0 ≤ 7301064 by omega⟩) (Nat.le_of_ble_eq_true rfl) [14, 15, 16, 17, 18, 19, 20, 21, 22, 23, 24, 25, 26, 27, 28, 29, 30, 31, 32, 33, 34] [0, 1, 2, 3, 4, 5, 6, 7, 8, 9, 10, 11, 12, 13] rfl rfl rfl rfl (by decide) (fun _ h _ => h) rfl dL_law_568 ?_
  rintro _ _ ⟨rfl, rfl⟩
  show V k l D (tys3 cI cJ cZ) room_1 cL_law 7 RL (wZ cI cJ cZ qo qx qm R C (va_up ov 0 ((nI (WS R C cu (2 ^ e) (nE R C) 0 1672)).toInt64)) dr sz2 sa2 cu fi2 st2 lo2 hi2 wa2 sw2 0 kn3 me3 ns3 he3 nx3 (rv dr) nl3 lp3 cu so3 wi3 us3 ho3 nh3 ke3 ta3 de3 se3) (cs + 1) (ss + 6) 571 [(6, .int (nI (wall (sol R C cu LL) (2 ^ (30 - e))))), (5, .int (nI (0))), (0, .ref (b)), (1, .ref (qx 0)), (2, .ref (qm 0)), (3, .ref (qo)), (4, .int (nI (i)))] [.int (nI (0))]
  refine j_iload dL_law_571 1 rfl ?_
  refine jn_icmp_eq (tgt := 578) (a := 0) (b := 0) (by omega) (by omega) dL_law_573 (by decide) (fun c573 => ?_) (fun c573 => ?_)
  · refine j_iload dL_law_578 1 rfl ?_
    refine jn_if_ne (tgt := 595) (a := 0) (by omega) dL_law_580 (by decide) (fun c580 => ?_) (fun c580 => ?_)
    · exact absurd c580 (by first | decide | omega)
    · refine j_aload_n dL_law_583 rfl 5 rfl ?_
      refine j_iconst (v := nI (0)) dL_law_584 (by decide) ?_
      refine jn_lald (v := (nI (WS R C cu (2 ^ e) (nE R C) 0 1672)).toInt64) 0 1 rfl rfl (by omega) (by omega) (by exact va_up_self _ _ _) dL_law_585 ?_
      refine j_iload dL_law_586 0 rfl ?_
      refine j_i2l dL_law_588 rfl ?_
      refine j_lcmp dL_law_589 rfl ?_
      refine j_if_eq (tgt := 595) dL_law_590 (by decide) (fun c590 => ?_) (fun c590 => ?_)
      · refine j_goto (tgt := 905) dL_law_595 (by decide) ?_
        refine j_sub [2, 3, 4, 5, 6] [(0, .ref (b)), (1, .ref (qx 0)), (2, .ref (qm 0)), (3, .ref (qo)), (4, .int (nI (i)))] rfl ?_
        exact hk (va_up ov 0 ((nI (WS R C cu (2 ^ e) (nE R C) 0 1672)).toInt64)) 0 dr cu _ _ hd hcu ⟨sz2, sa2, fi2, st2, lo2, hi2, wa2, sw2, hI2, rfl⟩ (MW_of hI3)
      · exact absurd ((lg_cmp_eq _ _).mpr (by rw [(hA8 (2 ^ e) (Nat.pow_lt_pow_right (by decide) hee)).1, hB2 e hee])) c590
  · exact absurd c573 (by first | decide | omega)

set_option maxHeartbeats 8000000 in
set_option maxRecDepth 100000 in
theorem l_oftenX {k : VK} (l : Launch) (hfl : l.flags = flags0) (D : va_G) (cI cJ cZ : ClassId) (qo : Nat) (qx qm : Nat → Nat) (R C : Nat) (hG : GS R C) (LL : List Nat) (hMt : Mth R C LL) (b L : Nat) (xs : Nat → Int32) (hL : L ≤ 258) (hX : SX k b L xs) (hZ : ZX k.2.2.1.1 k.1.2.2.1 k.2.2.1.2) (i cs ss : Nat) (hi : i + 4 ≤ L) (hcs : cs ≤ 10000) (hss : ss ≤ 100000) (ov : Nat → Int64) (dr sz : Nat) (sa : Bool) (cu fi st : Nat → Nat) (lo hi_ : Nat → Option Nat) (wa sw : Nat → Nat) (mth : Nat) (mkn mme : Bool) (mns mhe mnx mnl : Nat) (mlp mso mwi mus mho mnh : Nat → Nat) (mke : Nat → Int64) (mta mde : Nat → Nat) (mse : Nat → Bool) (hd : dr < 2 ^ nE R C) (hcu : CU R C cu) (hIx : XI0 R C cu sa sz fi st lo hi_ wa dr) (hIm : MI R C LL cu mkn mme mns mnl mlp mso mwi mus mde mse (rv dr)) (h1 : inB (nE R C) (xs (i + 1)) = false) (hk : ∀ (ov2 : Nat → Int64) (th2 d2 : Nat) (cu2 : Nat → Nat) (u1 u2 : va_W), d2 < 2 ^ nE R C → CU R C cu2 → OW cI cJ cZ qo qx R C ov2 d2 cu2 u1 → MW cI cJ cZ qm R C LL th2 (rv d2) cu2 u2 → V k l D (tys3 cI cJ cZ) room_1 cL_law 7 RL (u1 ++ u2) (cs + 1) (ss + 6) 905 [(0, .ref (b)), (1, .ref (qx 0)), (2, .ref (qm 0)), (3, .ref (qo)), (4, .int (nI (i)))] []) : V k l D (tys3 cI cJ cZ) room_1 cL_law 7 RL (wZ cI cJ cZ qo qx qm R C ov dr sz sa cu fi st lo hi_ wa sw mth mkn mme mns mhe mnx (rv dr) mnl mlp cu mso mwi mus mho mnh mke mta mde mse) (cs) (ss) 542 [(0, .ref (b)), (1, .ref (qx 0)), (2, .ref (qm 0)), (3, .ref (qo)), (4, .int (nI (i)))] [] := by
  obtain ⟨hLO, hND, hA, hB, hB2, hCc⟩ := hMt
  obtain ⟨hx, hMo, hA1, hA2, hA6, hA8⟩ := hCc cu hcu
  have hE := hG.E
  obtain ⟨hr31, hpop, hil⟩ := hA dr hd
  refine j_aload_n dL_law_542 rfl 1 rfl ?_
  refine j_aload_n dL_law_543 rfl 0 rfl ?_
  refine j_iload dL_law_544 4 rfl ?_
  refine j_iconst (v := nI (1)) dL_law_546 (by decide) ?_
  refine jn_iadd (v := i + 1) dL_law_547 rfl ?_
  refine j_sld hX (by omega) (by omega) dL_law_548 ?_
  refine j_aload_n dL_law_549 rfl 3 rfl ?_
  refine j_callSW (mc := 1) (ms := 6) (wc := wO cI cJ cZ qo qx R C ov dr sz sa cu fi st lo hi_ wa sw) (wr := wM cI cJ cZ qm R C mth mkn mme mns mhe mnx (rv dr) mnl mlp cu mso mwi mus mho mnh mke mta mde mse) (av := [.ref (qx 0), .int ((xs (i + 1))), .ref (qo)]) (rest := []) (w_oftenX l hfl D cI cJ cZ qo qx R C hG dr sz sa cu fi st lo hi_ wa sw ov hx hIx (xs (i + 1)) h1) mw2_117 mw2_118 mw1_0 mw2_119 hd_L_often rfl ⟨rfl, rfl⟩ ⟨Nat.le_of_ble_eq_true rfl, Nat.le_of_ble_eq_true rfl⟩ (⟨show cs + 1 ≤ 600128 by omega, show ss + 6 ≤ 7301064 by omega⟩) (Nat.le_of_ble_eq_true rfl) [0, 1, 2, 3, 4, 5, 6, 7, 8, 9, 10, 11, 12, 13] [14, 15, 16, 17, 18, 19, 20, 21, 22, 23, 24, 25, 26, 27, 28, 29, 30, 31, 32, 33, 34] rfl rfl rfl rfl (by decide) hZ rfl dL_law_550 ?_
  rintro _ _ ⟨rfl, sz2, sa2, fi2, st2, lo2, hi2, wa2, sw2, hI2, rfl⟩
  refine j_cut (w2 := wZ cI cJ cZ qo qx qm R C ov dr sz2 sa2 cu fi2 st2 lo2 hi2 wa2 sw2 mth mkn mme mns mhe mnx (rv dr) mnl mlp cu mso mwi mus mho mnh mke mta mde mse) [21, 22, 23, 24, 25, 26, 27, 28, 29, 30, 31, 32, 33, 34, 0, 1, 2, 3, 4, 5, 6, 7, 8, 9, 10, 11, 12, 13, 14, 15, 16, 17, 18, 19, 20] rfl rfl ?_
  show V k l D (tys3 cI cJ cZ) room_1 cL_law 7 RL (wZ cI cJ cZ qo qx qm R C ov dr sz2 sa2 cu fi2 st2 lo2 hi2 wa2 sw2 mth mkn mme mns mhe mnx (rv dr) mnl mlp cu mso mwi mus mho mnh mke mta mde mse) (cs + 1) (ss + 6) 553 [(0, .ref (b)), (1, .ref (qx 0)), (2, .ref (qm 0)), (3, .ref (qo)), (4, .int (nI (i)))] [.int (nI (1))]
  refine j_istore [(5, .int (nI (1))), (0, .ref (b)), (1, .ref (qx 0)), (2, .ref (qm 0)), (3, .ref (qo)), (4, .int (nI (i)))] dL_law_553 (by decide) rfl ?_
  refine j_aload_n dL_law_555 rfl 3 rfl ?_
  refine j_aload_n dL_law_556 rfl 1 rfl ?_
  refine j_iload dL_law_557 5 rfl ?_
  refine j_iconst (v := nI (1)) dL_law_559 (by decide) ?_
  refine jn_iadd (v := i + 1) dL_law_560 rfl ?_
  refine j_sld hX (by omega) (by omega) dL_law_561 ?_
  refine j_callV (mc := 0) (ms := 0) (wc := wM cI cJ cZ qm R C mth mkn mme mns mhe mnx (rv dr) mnl mlp cu mso mwi mus mho mnh mke mta mde mse) (wr := wO cI cJ cZ qo qx R C ov dr sz2 sa2 cu fi2 st2 lo2 hi2 wa2 sw2) (tys3 := tys3 cI cJ cZ) (av := [.int ((xs (i + 1)))]) (rest := []) (cm_oftenX l hfl D cI cJ cZ qm R C hG mth mkn mme mns mhe mnx (rv dr) mnl mlp cu mso mwi mus mho mnh mke mta mde mse LL hLO hMo hIm (xs (i + 1)) h1) 14 rfl rfl mw3_198 mw3_199 mw3_200 mw1_4 mw3_201 ⟨rfl, hd_X3_often⟩ rfl ⟨rfl, rfl⟩ ⟨Nat.le_of_ble_eq_true rfl, Nat.le_of_ble_eq_true rfl⟩ (⟨show cs + 1 + 0 ≤ 600128 by omega, show ss + 6 + 0 ≤ 7301064 by omega⟩) (Nat.le_of_ble_eq_true rfl) [14, 15, 16, 17, 18, 19, 20, 21, 22, 23, 24, 25, 26, 27, 28, 29, 30, 31, 32, 33, 34] [0, 1, 2, 3, 4, 5, 6, 7, 8, 9, 10, 11, 12, 13] rfl rfl rfl rfl (by decide) (fun _ h _ => h) rfl dL_law_562 ?_
  rintro _ _ ⟨rfl, hMW⟩
  obtain ⟨kn3, me3, ns3, he3, nx3, nl3, lp3, so3, wi3, us3, ho3, nh3, ke3, ta3, de3, se3, hI3, rfl⟩ := hMW
  show V k l D (tys3 cI cJ cZ) room_1 cL_law 7 RL (wZ cI cJ cZ qo qx qm R C ov dr sz2 sa2 cu fi2 st2 lo2 hi2 wa2 sw2 1 kn3 me3 ns3 he3 nx3 (rv dr) nl3 lp3 cu so3 wi3 us3 ho3 nh3 ke3 ta3 de3 se3) (cs + 1) (ss + 6) 565 [(5, .int (nI (1))), (0, .ref (b)), (1, .ref (qx 0)), (2, .ref (qm 0)), (3, .ref (qo)), (4, .int (nI (i)))] [.int (nI (0))]
  refine j_istore [(6, .int (nI (0))), (5, .int (nI (1))), (0, .ref (b)), (1, .ref (qx 0)), (2, .ref (qm 0)), (3, .ref (qo)), (4, .int (nI (i)))] dL_law_565 (by decide) rfl ?_
  refine j_aload_n dL_law_567 rfl 4 rfl ?_
  refine j_callV (mc := 0) (ms := 0) (wc := wM cI cJ cZ qm R C 1 kn3 me3 ns3 he3 nx3 (rv dr) nl3 lp3 cu so3 wi3 us3 ho3 nh3 ke3 ta3 de3 se3) (wr := wO cI cJ cZ qo qx R C ov dr sz2 sa2 cu fi2 st2 lo2 hi2 wa2 sw2) (tys3 := tys3 cI cJ cZ) (av := []) (rest := []) (cm_thrown l hfl D cI cJ cZ qm R C hG 1 kn3 me3 ns3 he3 nx3 (rv dr) nl3 lp3 cu so3 wi3 us3 ho3 nh3 ke3 ta3 de3 se3) 14 rfl rfl mw3_105 mw3_106 mw3_107 mw1_4 mw3_108 ⟨rfl, hd_X3_thrown⟩ rfl ⟨rfl, rfl⟩ ⟨Nat.le_of_ble_eq_true rfl, Nat.le_of_ble_eq_true rfl⟩ (⟨show cs + 1 + 0 ≤ 600128 by omega, show ss + 6 + 0 ≤ 7301064 by omega⟩) (Nat.le_of_ble_eq_true rfl) [14, 15, 16, 17, 18, 19, 20, 21, 22, 23, 24, 25, 26, 27, 28, 29, 30, 31, 32, 33, 34] [0, 1, 2, 3, 4, 5, 6, 7, 8, 9, 10, 11, 12, 13] rfl rfl rfl rfl (by decide) (fun _ h _ => h) rfl dL_law_568 ?_
  rintro _ _ ⟨rfl, rfl⟩
  show V k l D (tys3 cI cJ cZ) room_1 cL_law 7 RL (wZ cI cJ cZ qo qx qm R C ov dr sz2 sa2 cu fi2 st2 lo2 hi2 wa2 sw2 1 kn3 me3 ns3 he3 nx3 (rv dr) nl3 lp3 cu so3 wi3 us3 ho3 nh3 ke3 ta3 de3 se3) (cs + 1) (ss + 6) 571 [(6, .int (nI (0))), (5, .int (nI (1))), (0, .ref (b)), (1, .ref (qx 0)), (2, .ref (qm 0)), (3, .ref (qo)), (4, .int (nI (i)))] [.int (nI (1))]
  refine j_iload dL_law_571 1 rfl ?_
  refine jn_icmp_eq (tgt := 578) (a := 1) (b := 1) (by omega) (by omega) dL_law_573 (by decide) (fun c573 => ?_) (fun c573 => ?_)
  · refine j_iload dL_law_578 1 rfl ?_
    refine jn_if_ne (tgt := 595) (a := 1) (by omega) dL_law_580 (by decide) (fun c580 => ?_) (fun c580 => ?_)
    · refine j_goto (tgt := 905) dL_law_595 (by decide) ?_
      refine j_sub [2, 3, 4, 5, 6] [(0, .ref (b)), (1, .ref (qx 0)), (2, .ref (qm 0)), (3, .ref (qo)), (4, .int (nI (i)))] rfl ?_
      exact hk ov 1 dr cu _ _ hd hcu ⟨sz2, sa2, fi2, st2, lo2, hi2, wa2, sw2, hI2, rfl⟩ (MW_of hI3)
    · exact absurd c580 (by first | decide | omega)
  · exact absurd c573 (by first | decide | omega)

set_option maxHeartbeats 8000000 in
set_option maxRecDepth 100000 in
theorem l_draw {k : VK} (l : Launch) (hfl : l.flags = flags0) (D : va_G) (cI cJ cZ : ClassId) (qo : Nat) (qx qm : Nat → Nat) (R C : Nat) (hG : GS R C) (LL : List Nat) (hMt : Mth R C LL) (b L : Nat) (xs : Nat → Int32) (hL : L ≤ 258) (hX : SX k b L xs) (hZ : ZX k.2.2.1.1 k.1.2.2.1 k.2.2.1.2) (i cs ss : Nat) (hi : i + 4 ≤ L) (hcs : cs ≤ 10000) (hss : ss ≤ 100000) (ov : Nat → Int64) (dr sz : Nat) (sa : Bool) (cu fi st : Nat → Nat) (lo hi_ : Nat → Option Nat) (wa sw : Nat → Nat) (mth : Nat) (mkn mme : Bool) (mns mhe mnx mnl : Nat) (mlp mso mwi mus mho mnh : Nat → Nat) (mke : Nat → Int64) (mta mde : Nat → Nat) (mse : Nat → Bool) (hd : dr < 2 ^ nE R C) (hcu : CU R C cu) (hIx : XI0 R C cu sa sz fi st lo hi_ wa dr) (hIm : MI R C LL cu mkn mme mns mnl mlp mso mwi mus mde mse (rv dr)) (e : Nat) (hee : e < nE R C) (h1 : xs (i + 1) = nI e) (hk : ∀ (ov2 : Nat → Int64) (th2 d2 : Nat) (cu2 : Nat → Nat) (u1 u2 : va_W), d2 < 2 ^ nE R C → CU R C cu2 → OW cI cJ cZ qo qx R C ov2 d2 cu2 u1 → MW cI cJ cZ qm R C LL th2 (rv d2) cu2 u2 → V k l D (tys3 cI cJ cZ) room_1 cL_law 7 RL (u1 ++ u2) (cs + 1) (ss + 6) 905 [(0, .ref (b)), (1, .ref (qx 0)), (2, .ref (qm 0)), (3, .ref (qo)), (4, .int (nI (i)))] []) : V k l D (tys3 cI cJ cZ) room_1 cL_law 7 RL (wZ cI cJ cZ qo qx qm R C ov dr sz sa cu fi st lo hi_ wa sw mth mkn mme mns mhe mnx (rv dr) mnl mlp cu mso mwi mus mho mnh mke mta mde mse) (cs) (ss) 598 [(0, .ref (b)), (1, .ref (qx 0)), (2, .ref (qm 0)), (3, .ref (qo)), (4, .int (nI (i)))] [] := by
  obtain ⟨hLO, hND, hA, hB, hB2, hCc⟩ := hMt
  obtain ⟨hx, hMo, hA1, hA2, hA6, hA8⟩ := hCc cu hcu
  have hE := hG.E
  obtain ⟨hr31, hpop, hil⟩ := hA dr hd
  have hx2 : dr ^^^ 2 ^ e < 2 ^ nE R C := Nat.xor_lt_two_pow hd (Nat.pow_lt_pow_right (by decide) hee)
  have hrv := (hB dr e hd hee).1
  have hbt := (hB (dr ^^^ 2 ^ e) e hx2 hee).2
  refine j_aload_n dL_law_598 rfl 1 rfl ?_
  refine j_aload_n dL_law_599 rfl 0 rfl ?_
  refine j_iload dL_law_600 4 rfl ?_
  refine j_iconst (v := nI (1)) dL_law_602 (by decide) ?_
  refine jn_iadd (v := i + 1) dL_law_603 rfl ?_
  refine j_sld hX (by omega) (by omega) dL_law_604 ?_
  refine j_topi (y := nI (e)) (h1) ?_
  refine j_aload_n dL_law_605 rfl 3 rfl ?_
  refine j_callSW (mc := 1) (ms := 6) (wc := wO cI cJ cZ qo qx R C ov dr sz sa cu fi st lo hi_ wa sw) (wr := wM cI cJ cZ qm R C mth mkn mme mns mhe mnx (rv dr) mnl mlp cu mso mwi mus mho mnh mke mta mde mse) (av := [.ref (qx 0), .int (nI (e)), .ref (qo)]) (rest := []) (w_draw l hfl D cI cJ cZ qo qx R C hG dr sz sa cu fi st lo hi_ wa sw ov hx hIx e hee) mw2_124 mw2_125 mw1_0 mw2_126 hd_L_draw rfl ⟨rfl, rfl⟩ ⟨Nat.le_of_ble_eq_true rfl, Nat.le_of_ble_eq_true rfl⟩ (⟨show cs + 1 ≤ 600128 by omega, show ss + 6 ≤ 7301064 by omega⟩) (Nat.le_of_ble_eq_true rfl) [0, 1, 2, 3, 4, 5, 6, 7, 8, 9, 10, 11, 12, 13] [14, 15, 16, 17, 18, 19, 20, 21, 22, 23, 24, 25, 26, 27, 28, 29, 30, 31, 32, 33, 34] rfl rfl rfl rfl (by decide) hZ rfl dL_law_606 ?_
  rintro _ _ ⟨rfl, sz2, sa2, fi2, st2, lo2, hi2, wa2, sw2, hI2, rfl⟩
  refine j_cut (w2 := wZ cI cJ cZ qo qx qm R C (va_up ov 0 (if Nat.testBit (dr ^^^ 2 ^ e) e then 1 else 0)) (dr ^^^ 2 ^ e) sz2 sa2 cu fi2 st2 lo2 hi2 wa2 sw2 mth mkn mme mns mhe mnx (rv dr) mnl mlp cu mso mwi mus mho mnh mke mta mde mse) [21, 22, 23, 24, 25, 26, 27, 28, 29, 30, 31, 32, 33, 34, 0, 1, 2, 3, 4, 5, 6, 7, 8, 9, 10, 11, 12, 13, 14, 15, 16, 17, 18, 19, 20] rfl rfl ?_
  show V k l D (tys3 cI cJ cZ) room_1 cL_law 7 RL (wZ cI cJ cZ qo qx qm R C (va_up ov 0 (if Nat.testBit (dr ^^^ 2 ^ e) e then 1 else 0)) (dr ^^^ 2 ^ e) sz2 sa2 cu fi2 st2 lo2 hi2 wa2 sw2 mth mkn mme mns mhe mnx (rv dr) mnl mlp cu mso mwi mus mho mnh mke mta mde mse) (cs + 1) (ss + 6) 609 [(0, .ref (b)), (1, .ref (qx 0)), (2, .ref (qm 0)), (3, .ref (qo)), (4, .int (nI (i)))] [.int (nI (0))]
  refine j_istore [(5, .int (nI (0))), (0, .ref (b)), (1, .ref (qx 0)), (2, .ref (qm 0)), (3, .ref (qo)), (4, .int (nI (i)))] dL_law_609 (by decide) rfl ?_
  refine j_aload_n dL_law_611 rfl 3 rfl ?_
  refine j_aload_n dL_law_612 rfl 1 rfl ?_
  refine j_iload dL_law_613 5 rfl ?_
  refine j_iconst (v := nI (1)) dL_law_615 (by decide) ?_
  refine jn_iadd (v := i + 1) dL_law_616 rfl ?_
  refine j_sld hX (by omega) (by omega) dL_law_617 ?_
  refine j_topi (y := nI (e)) (h1) ?_
  refine j_callV (mc := 0) (ms := 0) (wc := wM cI cJ cZ qm R C mth mkn mme mns mhe mnx (rv dr) mnl mlp cu mso mwi mus mho mnh mke mta mde mse) (wr := wO cI cJ cZ qo qx R C (va_up ov 0 (if Nat.testBit (dr ^^^ 2 ^ e) e then 1 else 0)) (dr ^^^ 2 ^ e) sz2 sa2 cu fi2 st2 lo2 hi2 wa2 sw2) (tys3 := tys3 cI cJ cZ) (av := [.int (nI (e))]) (rest := []) (cm_draw l hfl D cI cJ cZ qm R C hG mth mkn mme mns mhe mnx (rv dr) mnl mlp cu mso mwi mus mho mnh mke mta mde mse LL hLO hMo hIm e hee) 14 rfl rfl mw3_206 mw3_207 mw3_208 mw1_4 mw3_209 ⟨rfl, hd_X3_draw⟩ rfl ⟨rfl, rfl⟩ ⟨Nat.le_of_ble_eq_true rfl, Nat.le_of_ble_eq_true rfl⟩ (⟨show cs + 1 + 0 ≤ 600128 by omega, show ss + 6 + 0 ≤ 7301064 by omega⟩) (Nat.le_of_ble_eq_true rfl) [14, 15, 16, 17, 18, 19, 20, 21, 22, 23, 24, 25, 26, 27, 28, 29, 30, 31, 32, 33, 34] [0, 1, 2, 3, 4, 5, 6, 7, 8, 9, 10, 11, 12, 13] rfl rfl rfl rfl (by decide) (fun _ h _ => h) rfl dL_law_618 ?_
  rw [← hrv]; rintro _ _ ⟨rfl, hMW⟩
  obtain ⟨kn3, me3, ns3, he3, nx3, nl3, lp3, so3, wi3, us3, ho3, nh3, ke3, ta3, de3, se3, hI3, rfl⟩ := hMW
  show V k l D (tys3 cI cJ cZ) room_1 cL_law 7 RL (wZ cI cJ cZ qo qx qm R C (va_up ov 0 (if Nat.testBit (dr ^^^ 2 ^ e) e then 1 else 0)) (dr ^^^ 2 ^ e) sz2 sa2 cu fi2 st2 lo2 hi2 wa2 sw2 0 kn3 me3 ns3 he3 nx3 (rv (dr ^^^ 2 ^ e)) nl3 lp3 cu so3 wi3 us3 ho3 nh3 ke3 ta3 de3 se3) (cs + 1) (ss + 6) 621 [(5, .int (nI (0))), (0, .ref (b)), (1, .ref (qx 0)), (2, .ref (qm 0)), (3, .ref (qo)), (4, .int (nI (i)))] [.int (bI ((isI (rv (dr ^^^ 2 ^ e)) e)))]
  refine j_istore [(6, .int (bI ((isI (rv (dr ^^^ 2 ^ e)) e)))), (5, .int (nI (0))), (0, .ref (b)), (1, .ref (qx 0)), (2, .ref (qm 0)), (3, .ref (qo)), (4, .int (nI (i)))] dL_law_621 (by decide) rfl ?_
  refine j_aload_n dL_law_623 rfl 4 rfl ?_
  refine j_callV (mc := 0) (ms := 0) (wc := wM cI cJ cZ qm R C 0 kn3 me3 ns3 he3 nx3 (rv (dr ^^^ 2 ^ e)) nl3 lp3 cu so3 wi3 us3 ho3 nh3 ke3 ta3 de3 se3) (wr := wO cI cJ cZ qo qx R C (va_up ov 0 (if Nat.testBit (dr ^^^ 2 ^ e) e then 1 else 0)) (dr ^^^ 2 ^ e) sz2 sa2 cu fi2 st2 lo2 hi2 wa2 sw2) (tys3 := tys3 cI cJ cZ) (av := []) (rest := []) (cm_thrown l hfl D cI cJ cZ qm R C hG 0 kn3 me3 ns3 he3 nx3 (rv (dr ^^^ 2 ^ e)) nl3 lp3 cu so3 wi3 us3 ho3 nh3 ke3 ta3 de3 se3) 14 rfl rfl mw3_105 mw3_106 mw3_107 mw1_4 mw3_108 ⟨rfl, hd_X3_thrown⟩ rfl ⟨rfl, rfl⟩ ⟨Nat.le_of_ble_eq_true rfl, Nat.le_of_ble_eq_true rfl⟩ (⟨show cs + 1 + 0 ≤ 600128 by omega, show ss + 6 + 0 ≤ 7301064 by omega⟩) (Nat.le_of_ble_eq_true rfl) [14, 15, 16, 17, 18, 19, 20, 21, 22, 23, 24, 25, 26, 27, 28, 29, 30, 31, 32, 33, 34] [0, 1, 2, 3, 4, 5, 6, 7, 8, 9, 10, 11, 12, 13] rfl rfl rfl rfl (by decide) (fun _ h _ => h) rfl dL_law_624 ?_
  rintro _ _ ⟨rfl, rfl⟩
  show V k l D (tys3 cI cJ cZ) room_1 cL_law 7 RL (wZ cI cJ cZ qo qx qm R C (va_up ov 0 (if Nat.testBit (dr ^^^ 2 ^ e) e then 1 else 0)) (dr ^^^ 2 ^ e) sz2 sa2 cu fi2 st2 lo2 hi2 wa2 sw2 0 kn3 me3 ns3 he3 nx3 (rv (dr ^^^ 2 ^ e)) nl3 lp3 cu so3 wi3 us3 ho3 nh3 ke3 ta3 de3 se3) (cs + 1) (ss + 6) 627 [(6, .int (bI ((isI (rv (dr ^^^ 2 ^ e)) e)))), (5, .int (nI (0))), (0, .ref (b)), (1, .ref (qx 0)), (2, .ref (qm 0)), (3, .ref (qo)), (4, .int (nI (i)))] [.int (nI (0))]
  refine j_iload dL_law_627 1 rfl ?_
  refine jn_icmp_eq (tgt := 634) (a := 0) (b := 0) (by omega) (by omega) dL_law_629 (by decide) (fun c629 => ?_) (fun c629 => ?_)
  · refine j_iload dL_law_634 1 rfl ?_
    refine jn_if_ne (tgt := 658) (a := 0) (by omega) dL_law_636 (by decide) (fun c636 => ?_) (fun c636 => ?_)
    · exact absurd c636 (by first | decide | omega)
    · refine j_aload_n dL_law_639 rfl 5 rfl ?_
      refine j_iconst (v := nI (0)) dL_law_640 (by decide) ?_
      refine jn_lald (v := if Nat.testBit (dr ^^^ 2 ^ e) e then 1 else 0) 0 1 rfl rfl (by omega) (by omega) (by exact va_up_self _ _ _) dL_law_641 ?_
      refine j_iload dL_law_642 0 rfl ?_
      refine jb_if_eq (tgt := 651) (b := (isI (rv (dr ^^^ 2 ^ e)) e)) dL_law_644 (by decide) (fun c644 => ?_) (fun c644 => ?_)
      · refine j_lconst (v := 0) dL_law_651 (by decide) ?_
        refine j_lcmp dL_law_652 rfl ?_
        refine j_if_eq (tgt := 658) dL_law_653 (by decide) (fun c653 => ?_) (fun c653 => ?_)
        · refine j_goto (tgt := 905) dL_law_658 (by decide) ?_
          refine j_sub [2, 3, 4, 5, 6] [(0, .ref (b)), (1, .ref (qx 0)), (2, .ref (qm 0)), (3, .ref (qo)), (4, .int (nI (i)))] rfl ?_
          exact hk (va_up ov 0 (if Nat.testBit (dr ^^^ 2 ^ e) e then 1 else 0)) 0 (dr ^^^ 2 ^ e) cu _ _ hx2 hcu ⟨sz2, sa2, fi2, st2, lo2, hi2, wa2, sw2, hI2, rfl⟩ (MW_of hI3)
        · exact absurd ((lg_cmp_eq _ _).mpr (by rw [← hbt, c644]; rfl)) c653
      · refine j_lconst (v := 1) dL_law_647 (by decide) ?_
        refine j_goto (tgt := 652) dL_law_648 (by decide) ?_
        refine j_lcmp dL_law_652 rfl ?_
        refine j_if_eq (tgt := 658) dL_law_653 (by decide) (fun c653 => ?_) (fun c653 => ?_)
        · refine j_goto (tgt := 905) dL_law_658 (by decide) ?_
          refine j_sub [2, 3, 4, 5, 6] [(0, .ref (b)), (1, .ref (qx 0)), (2, .ref (qm 0)), (3, .ref (qo)), (4, .int (nI (i)))] rfl ?_
          exact hk (va_up ov 0 (if Nat.testBit (dr ^^^ 2 ^ e) e then 1 else 0)) 0 (dr ^^^ 2 ^ e) cu _ _ hx2 hcu ⟨sz2, sa2, fi2, st2, lo2, hi2, wa2, sw2, hI2, rfl⟩ (MW_of hI3)
        · exact absurd ((lg_cmp_eq _ _).mpr (by rw [← hbt, c644]; rfl)) c653
  · exact absurd c629 (by first | decide | omega)

set_option maxHeartbeats 8000000 in
set_option maxRecDepth 100000 in
theorem l_drawX {k : VK} (l : Launch) (hfl : l.flags = flags0) (D : va_G) (cI cJ cZ : ClassId) (qo : Nat) (qx qm : Nat → Nat) (R C : Nat) (hG : GS R C) (LL : List Nat) (hMt : Mth R C LL) (b L : Nat) (xs : Nat → Int32) (hL : L ≤ 258) (hX : SX k b L xs) (hZ : ZX k.2.2.1.1 k.1.2.2.1 k.2.2.1.2) (i cs ss : Nat) (hi : i + 4 ≤ L) (hcs : cs ≤ 10000) (hss : ss ≤ 100000) (ov : Nat → Int64) (dr sz : Nat) (sa : Bool) (cu fi st : Nat → Nat) (lo hi_ : Nat → Option Nat) (wa sw : Nat → Nat) (mth : Nat) (mkn mme : Bool) (mns mhe mnx mnl : Nat) (mlp mso mwi mus mho mnh : Nat → Nat) (mke : Nat → Int64) (mta mde : Nat → Nat) (mse : Nat → Bool) (hd : dr < 2 ^ nE R C) (hcu : CU R C cu) (hIx : XI0 R C cu sa sz fi st lo hi_ wa dr) (hIm : MI R C LL cu mkn mme mns mnl mlp mso mwi mus mde mse (rv dr)) (h1 : inB (nE R C) (xs (i + 1)) = false) (hk : ∀ (ov2 : Nat → Int64) (th2 d2 : Nat) (cu2 : Nat → Nat) (u1 u2 : va_W), d2 < 2 ^ nE R C → CU R C cu2 → OW cI cJ cZ qo qx R C ov2 d2 cu2 u1 → MW cI cJ cZ qm R C LL th2 (rv d2) cu2 u2 → V k l D (tys3 cI cJ cZ) room_1 cL_law 7 RL (u1 ++ u2) (cs + 1) (ss + 6) 905 [(0, .ref (b)), (1, .ref (qx 0)), (2, .ref (qm 0)), (3, .ref (qo)), (4, .int (nI (i)))] []) : V k l D (tys3 cI cJ cZ) room_1 cL_law 7 RL (wZ cI cJ cZ qo qx qm R C ov dr sz sa cu fi st lo hi_ wa sw mth mkn mme mns mhe mnx (rv dr) mnl mlp cu mso mwi mus mho mnh mke mta mde mse) (cs) (ss) 598 [(0, .ref (b)), (1, .ref (qx 0)), (2, .ref (qm 0)), (3, .ref (qo)), (4, .int (nI (i)))] [] := by
  obtain ⟨hLO, hND, hA, hB, hB2, hCc⟩ := hMt
  obtain ⟨hx, hMo, hA1, hA2, hA6, hA8⟩ := hCc cu hcu
  have hE := hG.E
  obtain ⟨hr31, hpop, hil⟩ := hA dr hd
  refine j_aload_n dL_law_598 rfl 1 rfl ?_
  refine j_aload_n dL_law_599 rfl 0 rfl ?_
  refine j_iload dL_law_600 4 rfl ?_
  refine j_iconst (v := nI (1)) dL_law_602 (by decide) ?_
  refine jn_iadd (v := i + 1) dL_law_603 rfl ?_
  refine j_sld hX (by omega) (by omega) dL_law_604 ?_
  refine j_aload_n dL_law_605 rfl 3 rfl ?_
  refine j_callSW (mc := 1) (ms := 6) (wc := wO cI cJ cZ qo qx R C ov dr sz sa cu fi st lo hi_ wa sw) (wr := wM cI cJ cZ qm R C mth mkn mme mns mhe mnx (rv dr) mnl mlp cu mso mwi mus mho mnh mke mta mde mse) (av := [.ref (qx 0), .int ((xs (i + 1))), .ref (qo)]) (rest := []) (w_drawX l hfl D cI cJ cZ qo qx R C hG dr sz sa cu fi st lo hi_ wa sw ov hx hIx (xs (i + 1)) h1) mw2_124 mw2_125 mw1_0 mw2_126 hd_L_draw rfl ⟨rfl, rfl⟩ ⟨Nat.le_of_ble_eq_true rfl, Nat.le_of_ble_eq_true rfl⟩ (⟨show cs + 1 ≤ 600128 by omega, show ss + 6 ≤ 7301064 by omega⟩) (Nat.le_of_ble_eq_true rfl) [0, 1, 2, 3, 4, 5, 6, 7, 8, 9, 10, 11, 12, 13] [14, 15, 16, 17, 18, 19, 20, 21, 22, 23, 24, 25, 26, 27, 28, 29, 30, 31, 32, 33, 34] rfl rfl rfl rfl (by decide) hZ rfl dL_law_606 ?_
  rintro _ _ ⟨rfl, sz2, sa2, fi2, st2, lo2, hi2, wa2, sw2, hI2, rfl⟩
  refine j_cut (w2 := wZ cI cJ cZ qo qx qm R C ov dr sz2 sa2 cu fi2 st2 lo2 hi2 wa2 sw2 mth mkn mme mns mhe mnx (rv dr) mnl mlp cu mso mwi mus mho mnh mke mta mde mse) [21, 22, 23, 24, 25, 26, 27, 28, 29, 30, 31, 32, 33, 34, 0, 1, 2, 3, 4, 5, 6, 7, 8, 9, 10, 11, 12, 13, 14, 15, 16, 17, 18, 19, 20] rfl rfl ?_
  show V k l D (tys3 cI cJ cZ) room_1 cL_law 7 RL (wZ cI cJ cZ qo qx qm R C ov dr sz2 sa2 cu fi2 st2 lo2 hi2 wa2 sw2 mth mkn mme mns mhe mnx (rv dr) mnl mlp cu mso mwi mus mho mnh mke mta mde mse) (cs + 1) (ss + 6) 609 [(0, .ref (b)), (1, .ref (qx 0)), (2, .ref (qm 0)), (3, .ref (qo)), (4, .int (nI (i)))] [.int (nI (1))]
  refine j_istore [(5, .int (nI (1))), (0, .ref (b)), (1, .ref (qx 0)), (2, .ref (qm 0)), (3, .ref (qo)), (4, .int (nI (i)))] dL_law_609 (by decide) rfl ?_
  refine j_aload_n dL_law_611 rfl 3 rfl ?_
  refine j_aload_n dL_law_612 rfl 1 rfl ?_
  refine j_iload dL_law_613 5 rfl ?_
  refine j_iconst (v := nI (1)) dL_law_615 (by decide) ?_
  refine jn_iadd (v := i + 1) dL_law_616 rfl ?_
  refine j_sld hX (by omega) (by omega) dL_law_617 ?_
  refine j_callV (mc := 0) (ms := 0) (wc := wM cI cJ cZ qm R C mth mkn mme mns mhe mnx (rv dr) mnl mlp cu mso mwi mus mho mnh mke mta mde mse) (wr := wO cI cJ cZ qo qx R C ov dr sz2 sa2 cu fi2 st2 lo2 hi2 wa2 sw2) (tys3 := tys3 cI cJ cZ) (av := [.int ((xs (i + 1)))]) (rest := []) (cm_drawX l hfl D cI cJ cZ qm R C hG mth mkn mme mns mhe mnx (rv dr) mnl mlp cu mso mwi mus mho mnh mke mta mde mse LL hLO hMo hIm (xs (i + 1)) h1) 14 rfl rfl mw3_206 mw3_207 mw3_208 mw1_4 mw3_209 ⟨rfl, hd_X3_draw⟩ rfl ⟨rfl, rfl⟩ ⟨Nat.le_of_ble_eq_true rfl, Nat.le_of_ble_eq_true rfl⟩ (⟨show cs + 1 + 0 ≤ 600128 by omega, show ss + 6 + 0 ≤ 7301064 by omega⟩) (Nat.le_of_ble_eq_true rfl) [14, 15, 16, 17, 18, 19, 20, 21, 22, 23, 24, 25, 26, 27, 28, 29, 30, 31, 32, 33, 34] [0, 1, 2, 3, 4, 5, 6, 7, 8, 9, 10, 11, 12, 13] rfl rfl rfl rfl (by decide) (fun _ h _ => h) rfl dL_law_618 ?_
  rintro _ _ ⟨rfl, hMW⟩
  obtain ⟨kn3, me3, ns3, he3, nx3, nl3, lp3, so3, wi3, us3, ho3, nh3, ke3, ta3, de3, se3, hI3, rfl⟩ := hMW
  show V k l D (tys3 cI cJ cZ) room_1 cL_law 7 RL (wZ cI cJ cZ qo qx qm R C ov dr sz2 sa2 cu fi2 st2 lo2 hi2 wa2 sw2 1 kn3 me3 ns3 he3 nx3 (rv dr) nl3 lp3 cu so3 wi3 us3 ho3 nh3 ke3 ta3 de3 se3) (cs + 1) (ss + 6) 621 [(5, .int (nI (1))), (0, .ref (b)), (1, .ref (qx 0)), (2, .ref (qm 0)), (3, .ref (qo)), (4, .int (nI (i)))] [.int (bI (false))]
  refine j_istore [(6, .int (bI (false))), (5, .int (nI (1))), (0, .ref (b)), (1, .ref (qx 0)), (2, .ref (qm 0)), (3, .ref (qo)), (4, .int (nI (i)))] dL_law_621 (by decide) rfl ?_
  refine j_aload_n dL_law_623 rfl 4 rfl ?_
  refine j_callV (mc := 0) (ms := 0) (wc := wM cI cJ cZ qm R C 1 kn3 me3 ns3 he3 nx3 (rv dr) nl3 lp3 cu so3 wi3 us3 ho3 nh3 ke3 ta3 de3 se3) (wr := wO cI cJ cZ qo qx R C ov dr sz2 sa2 cu fi2 st2 lo2 hi2 wa2 sw2) (tys3 := tys3 cI cJ cZ) (av := []) (rest := []) (cm_thrown l hfl D cI cJ cZ qm R C hG 1 kn3 me3 ns3 he3 nx3 (rv dr) nl3 lp3 cu so3 wi3 us3 ho3 nh3 ke3 ta3 de3 se3) 14 rfl rfl mw3_105 mw3_106 mw3_107 mw1_4 mw3_108 ⟨rfl, hd_X3_thrown⟩ rfl ⟨rfl, rfl⟩ ⟨Nat.le_of_ble_eq_true rfl, Nat.le_of_ble_eq_true rfl⟩ (⟨show cs + 1 + 0 ≤ 600128 by omega, show ss + 6 + 0 ≤ 7301064 by omega⟩) (Nat.le_of_ble_eq_true rfl) [14, 15, 16, 17, 18, 19, 20, 21, 22, 23, 24, 25, 26, 27, 28, 29, 30, 31, 32, 33, 34] [0, 1, 2, 3, 4, 5, 6, 7, 8, 9, 10, 11, 12, 13] rfl rfl rfl rfl (by decide) (fun _ h _ => h) rfl dL_law_624 ?_
  rintro _ _ ⟨rfl, rfl⟩
  show V k l D (tys3 cI cJ cZ) room_1 cL_law 7 RL (wZ cI cJ cZ qo qx qm R C ov dr sz2 sa2 cu fi2 st2 lo2 hi2 wa2 sw2 1 kn3 me3 ns3 he3 nx3 (rv dr) nl3 lp3 cu so3 wi3 us3 ho3 nh3 ke3 ta3 de3 se3) (cs + 1) (ss + 6) 627 [(6, .int (bI (false))), (5, .int (nI (1))), (0, .ref (b)), (1, .ref (qx 0)), (2, .ref (qm 0)), (3, .ref (qo)), (4, .int (nI (i)))] [.int (nI (1))]
  refine j_iload dL_law_627 1 rfl ?_
  refine jn_icmp_eq (tgt := 634) (a := 1) (b := 1) (by omega) (by omega) dL_law_629 (by decide) (fun c629 => ?_) (fun c629 => ?_)
  · refine j_iload dL_law_634 1 rfl ?_
    refine jn_if_ne (tgt := 658) (a := 1) (by omega) dL_law_636 (by decide) (fun c636 => ?_) (fun c636 => ?_)
    · refine j_goto (tgt := 905) dL_law_658 (by decide) ?_
      refine j_sub [2, 3, 4, 5, 6] [(0, .ref (b)), (1, .ref (qx 0)), (2, .ref (qm 0)), (3, .ref (qo)), (4, .int (nI (i)))] rfl ?_
      exact hk ov 1 dr cu _ _ hd hcu ⟨sz2, sa2, fi2, st2, lo2, hi2, wa2, sw2, hI2, rfl⟩ (MW_of hI3)
    · exact absurd c636 (by first | decide | omega)
  · exact absurd c629 (by first | decide | omega)

set_option maxHeartbeats 8000000 in
set_option maxRecDepth 100000 in
theorem l_has {k : VK} (l : Launch) (hfl : l.flags = flags0) (D : va_G) (cI cJ cZ : ClassId) (qo : Nat) (qx qm : Nat → Nat) (R C : Nat) (hG : GS R C) (LL : List Nat) (hMt : Mth R C LL) (b L : Nat) (xs : Nat → Int32) (hL : L ≤ 258) (hX : SX k b L xs) (hZ : ZX k.2.2.1.1 k.1.2.2.1 k.2.2.1.2) (i cs ss : Nat) (hi : i + 4 ≤ L) (hcs : cs ≤ 10000) (hss : ss ≤ 100000) (ov : Nat → Int64) (dr sz : Nat) (sa : Bool) (cu fi st : Nat → Nat) (lo hi_ : Nat → Option Nat) (wa sw : Nat → Nat) (mth : Nat) (mkn mme : Bool) (mns mhe mnx mnl : Nat) (mlp mso mwi mus mho mnh : Nat → Nat) (mke : Nat → Int64) (mta mde : Nat → Nat) (mse : Nat → Bool) (hd : dr < 2 ^ nE R C) (hcu : CU R C cu) (hIx : XI0 R C cu sa sz fi st lo hi_ wa dr) (hIm : MI R C LL cu mkn mme mns mnl mlp mso mwi mus mde mse (rv dr)) (j y : Nat) (hy : (sol R C cu LL)[j]? = some y) (h1 : xs (i + 1) = nI j) (e : Nat) (hee : e < nE R C) (h2 : xs (i + 2) = nI e) (hk : ∀ (ov2 : Nat → Int64) (th2 d2 : Nat) (cu2 : Nat → Nat) (u1 u2 : va_W), d2 < 2 ^ nE R C → CU R C cu2 → OW cI cJ cZ qo qx R C ov2 d2 cu2 u1 → MW cI cJ cZ qm R C LL th2 (rv d2) cu2 u2 → V k l D (tys3 cI cJ cZ) room_1 cL_law 7 RL (u1 ++ u2) (cs + 1) (ss + 6) 905 [(0, .ref (b)), (1, .ref (qx 0)), (2, .ref (qm 0)), (3, .ref (qo)), (4, .int (nI (i)))] []) : V k l D (tys3 cI cJ cZ) room_1 cL_law 7 RL (wZ cI cJ cZ qo qx qm R C ov dr sz sa cu fi st lo hi_ wa sw mth mkn mme mns mhe mnx (rv dr) mnl mlp cu mso mwi mus mho mnh mke mta mde mse) (cs) (ss) 411 [(0, .ref (b)), (1, .ref (qx 0)), (2, .ref (qm 0)), (3, .ref (qo)), (4, .int (nI (i)))] [] := by
  obtain ⟨hLO, hND, hA, hB, hB2, hCc⟩ := hMt
  obtain ⟨hx, hMo, hA1, hA2, hA6, hA8⟩ := hCc cu hcu
  have hE := hG.E
  obtain ⟨hr31, hpop, hil⟩ := hA dr hd
  obtain ⟨s1, s2, s3⟩ := hA6 j y hy
  have hbt := (hB _ e s2 hee).2
  refine j_aload_n dL_law_411 rfl 1 rfl ?_
  refine j_aload_n dL_law_412 rfl 0 rfl ?_
  refine j_iload dL_law_413 4 rfl ?_
  refine j_iconst (v := nI (1)) dL_law_415 (by decide) ?_
  refine jn_iadd (v := i + 1) dL_law_416 rfl ?_
  refine j_sld hX (by omega) (by omega) dL_law_417 ?_
  refine j_topi (y := nI (j)) (h1) ?_
  refine j_aload_n dL_law_418 rfl 0 rfl ?_
  refine j_iload dL_law_419 4 rfl ?_
  refine j_iconst (v := nI (2)) dL_law_421 (by decide) ?_
  refine jn_iadd (v := i + 2) dL_law_422 rfl ?_
  refine j_sld hX (by omega) (by omega) dL_law_423 ?_
  refine j_topi (y := nI (e)) (h2) ?_
  refine j_aload_n dL_law_424 rfl 3 rfl ?_
  refine j_callSW (mc := 1) (ms := 6) (wc := wO cI cJ cZ qo qx R C ov dr sz sa cu fi st lo hi_ wa sw) (wr := wM cI cJ cZ qm R C mth mkn mme mns mhe mnx (rv dr) mnl mlp cu mso mwi mus mho mnh mke mta mde mse) (av := [.ref (qx 0), .int (nI (j)), .int (nI (e)), .ref (qo)]) (rest := []) (w_has l hfl D cI cJ cZ qo qx R C hG dr sz sa cu fi st lo hi_ wa sw ov hx hIx (nI j) s1 e hee) mw2_83 mw2_84 mw1_0 mw2_85 hd_L_has rfl ⟨rfl, rfl⟩ ⟨Nat.le_of_ble_eq_true rfl, Nat.le_of_ble_eq_true rfl⟩ (⟨show cs + 1 ≤ 600128 by omega, show ss + 6 ≤ 7301064 by omega⟩) (Nat.le_of_ble_eq_true rfl) [0, 1, 2, 3, 4, 5, 6, 7, 8, 9, 10, 11, 12, 13] [14, 15, 16, 17, 18, 19, 20, 21, 22, 23, 24, 25, 26, 27, 28, 29, 30, 31, 32, 33, 34] rfl rfl rfl rfl (by decide) hZ rfl dL_law_425 ?_
  rintro _ _ ⟨rfl, sz2, sa2, fi2, st2, lo2, hi2, wa2, sw2, hI2, rfl⟩
  refine j_cut (w2 := wZ cI cJ cZ qo qx qm R C (va_up ov 0 (if Nat.testBit (solI R C cu (nI j)) e then 1 else 0)) dr sz2 sa2 cu fi2 st2 lo2 hi2 wa2 sw2 mth mkn mme mns mhe mnx (rv dr) mnl mlp cu mso mwi mus mho mnh mke mta mde mse) [21, 22, 23, 24, 25, 26, 27, 28, 29, 30, 31, 32, 33, 34, 0, 1, 2, 3, 4, 5, 6, 7, 8, 9, 10, 11, 12, 13, 14, 15, 16, 17, 18, 19, 20] rfl rfl ?_
  show V k l D (tys3 cI cJ cZ) room_1 cL_law 7 RL (wZ cI cJ cZ qo qx qm R C (va_up ov 0 (if Nat.testBit (solI R C cu (nI j)) e then 1 else 0)) dr sz2 sa2 cu fi2 st2 lo2 hi2 wa2 sw2 mth mkn mme mns mhe mnx (rv dr) mnl mlp cu mso mwi mus mho mnh mke mta mde mse) (cs + 1) (ss + 6) 428 [(0, .ref (b)), (1, .ref (qx 0)), (2, .ref (qm 0)), (3, .ref (qo)), (4, .int (nI (i)))] [.int (nI (0))]
  refine j_istore [(5, .int (nI (0))), (0, .ref (b)), (1, .ref (qx 0)), (2, .ref (qm 0)), (3, .ref (qo)), (4, .int (nI (i)))] dL_law_428 (by decide) rfl ?_
  refine j_aload_n dL_law_430 rfl 3 rfl ?_
  refine j_aload_n dL_law_431 rfl 1 rfl ?_
  refine j_iload dL_law_432 5 rfl ?_
  refine j_iconst (v := nI (1)) dL_law_434 (by decide) ?_
  refine jn_iadd (v := i + 1) dL_law_435 rfl ?_
  refine j_sld hX (by omega) (by omega) dL_law_436 ?_
  refine j_topi (y := nI (j)) (h1) ?_
  refine j_aload_n dL_law_437 rfl 1 rfl ?_
  refine j_iload dL_law_438 5 rfl ?_
  refine j_iconst (v := nI (2)) dL_law_440 (by decide) ?_
  refine jn_iadd (v := i + 2) dL_law_441 rfl ?_
  refine j_sld hX (by omega) (by omega) dL_law_442 ?_
  refine j_topi (y := nI (e)) (h2) ?_
  refine j_callV (mc := 0) (ms := 0) (wc := wM cI cJ cZ qm R C mth mkn mme mns mhe mnx (rv dr) mnl mlp cu mso mwi mus mho mnh mke mta mde mse) (wr := wO cI cJ cZ qo qx R C (va_up ov 0 (if Nat.testBit (solI R C cu (nI j)) e then 1 else 0)) dr sz2 sa2 cu fi2 st2 lo2 hi2 wa2 sw2) (tys3 := tys3 cI cJ cZ) (av := [.int (nI (j)), .int (nI (e))]) (rest := []) (cm_has l hfl D cI cJ cZ qm R C hG mth mkn mme mns mhe mnx (rv dr) mnl mlp cu mso mwi mus mho mnh mke mta mde mse LL hLO hMo hIm j y hy e hee) 14 rfl rfl mw3_182 mw3_183 mw3_184 mw1_4 mw3_185 ⟨rfl, hd_X3_has⟩ rfl ⟨rfl, rfl⟩ ⟨Nat.le_of_ble_eq_true rfl, Nat.le_of_ble_eq_true rfl⟩ (⟨show cs + 1 + 0 ≤ 600128 by omega, show ss + 6 + 0 ≤ 7301064 by omega⟩) (Nat.le_of_ble_eq_true rfl) [14, 15, 16, 17, 18, 19, 20, 21, 22, 23, 24, 25, 26, 27, 28, 29, 30, 31, 32, 33, 34] [0, 1, 2, 3, 4, 5, 6, 7, 8, 9, 10, 11, 12, 13] rfl rfl rfl rfl (by decide) (fun _ h _ => h) rfl dL_law_443 ?_
  rintro _ _ ⟨rfl, hMW⟩
  obtain ⟨kn3, me3, ns3, he3, nx3, nl3, lp3, so3, wi3, us3, ho3, nh3, ke3, ta3, de3, se3, hI3, rfl⟩ := hMW
  show V k l D (tys3 cI cJ cZ) room_1 cL_law 7 RL (wZ cI cJ cZ qo qx qm R C (va_up ov 0 (if Nat.testBit (solI R C cu (nI j)) e then 1 else 0)) dr sz2 sa2 cu fi2 st2 lo2 hi2 wa2 sw2 0 kn3 me3 ns3 he3 nx3 (rv dr) nl3 lp3 cu so3 wi3 us3 ho3 nh3 ke3 ta3 de3 se3) (cs + 1) (ss + 6) 446 [(5, .int (nI (0))), (0, .ref (b)), (1, .ref (qx 0)), (2, .ref (qm 0)), (3, .ref (qo)), (4, .int (nI (i)))] [.int (bI ((isI y e)))]
  refine j_istore [(6, .int (bI ((isI y e)))), (5, .int (nI (0))), (0, .ref (b)), (1, .ref (qx 0)), (2, .ref (qm 0)), (3, .ref (qo)), (4, .int (nI (i)))] dL_law_446 (by decide) rfl ?_
  refine j_aload_n dL_law_448 rfl 4 rfl ?_
  refine j_callV (mc := 0) (ms := 0) (wc := wM cI cJ cZ qm R C 0 kn3 me3 ns3 he3 nx3 (rv dr) nl3 lp3 cu so3 wi3 us3 ho3 nh3 ke3 ta3 de3 se3) (wr := wO cI cJ cZ qo qx R C (va_up ov 0 (if Nat.testBit (solI R C cu (nI j)) e then 1 else 0)) dr sz2 sa2 cu fi2 st2 lo2 hi2 wa2 sw2) (tys3 := tys3 cI cJ cZ) (av := []) (rest := []) (cm_thrown l hfl D cI cJ cZ qm R C hG 0 kn3 me3 ns3 he3 nx3 (rv dr) nl3 lp3 cu so3 wi3 us3 ho3 nh3 ke3 ta3 de3 se3) 14 rfl rfl mw3_105 mw3_106 mw3_107 mw1_4 mw3_108 ⟨rfl, hd_X3_thrown⟩ rfl ⟨rfl, rfl⟩ ⟨Nat.le_of_ble_eq_true rfl, Nat.le_of_ble_eq_true rfl⟩ (⟨show cs + 1 + 0 ≤ 600128 by omega, show ss + 6 + 0 ≤ 7301064 by omega⟩) (Nat.le_of_ble_eq_true rfl) [14, 15, 16, 17, 18, 19, 20, 21, 22, 23, 24, 25, 26, 27, 28, 29, 30, 31, 32, 33, 34] [0, 1, 2, 3, 4, 5, 6, 7, 8, 9, 10, 11, 12, 13] rfl rfl rfl rfl (by decide) (fun _ h _ => h) rfl dL_law_449 ?_
  rintro _ _ ⟨rfl, rfl⟩
  show V k l D (tys3 cI cJ cZ) room_1 cL_law 7 RL (wZ cI cJ cZ qo qx qm R C (va_up ov 0 (if Nat.testBit (solI R C cu (nI j)) e then 1 else 0)) dr sz2 sa2 cu fi2 st2 lo2 hi2 wa2 sw2 0 kn3 me3 ns3 he3 nx3 (rv dr) nl3 lp3 cu so3 wi3 us3 ho3 nh3 ke3 ta3 de3 se3) (cs + 1) (ss + 6) 452 [(6, .int (bI ((isI y e)))), (5, .int (nI (0))), (0, .ref (b)), (1, .ref (qx 0)), (2, .ref (qm 0)), (3, .ref (qo)), (4, .int (nI (i)))] [.int (nI (0))]
  refine j_iload dL_law_452 1 rfl ?_
  refine jn_icmp_eq (tgt := 459) (a := 0) (b := 0) (by omega) (by omega) dL_law_454 (by decide) (fun c454 => ?_) (fun c454 => ?_)
  · refine j_iload dL_law_459 1 rfl ?_
    refine jn_if_ne (tgt := 483) (a := 0) (by omega) dL_law_461 (by decide) (fun c461 => ?_) (fun c461 => ?_)
    · exact absurd c461 (by first | decide | omega)
    · refine j_aload_n dL_law_464 rfl 5 rfl ?_
      refine j_iconst (v := nI (0)) dL_law_465 (by decide) ?_
      refine jn_lald (v := if Nat.testBit (solI R C cu (nI j)) e then 1 else 0) 0 1 rfl rfl (by omega) (by omega) (by exact va_up_self _ _ _) dL_law_466 ?_
      refine j_iload dL_law_467 0 rfl ?_
      refine jb_if_eq (tgt := 476) (b := (isI y e)) dL_law_469 (by decide) (fun c469 => ?_) (fun c469 => ?_)
      · refine j_lconst (v := 0) dL_law_476 (by decide) ?_
        refine j_lcmp dL_law_477 rfl ?_
        refine j_if_eq (tgt := 483) dL_law_478 (by decide) (fun c478 => ?_) (fun c478 => ?_)
        · refine j_goto (tgt := 905) dL_law_483 (by decide) ?_
          refine j_sub [2, 3, 4, 5, 6] [(0, .ref (b)), (1, .ref (qx 0)), (2, .ref (qm 0)), (3, .ref (qo)), (4, .int (nI (i)))] rfl ?_
          exact hk (va_up ov 0 (if Nat.testBit (solI R C cu (nI j)) e then 1 else 0)) 0 dr cu _ _ hd hcu ⟨sz2, sa2, fi2, st2, lo2, hi2, wa2, sw2, hI2, rfl⟩ (MW_of hI3)
        · exact absurd ((lg_cmp_eq _ _).mpr (by rw [← hbt, s3, c469]; rfl)) c478
      · refine j_lconst (v := 1) dL_law_472 (by decide) ?_
        refine j_goto (tgt := 477) dL_law_473 (by decide) ?_
        refine j_lcmp dL_law_477 rfl ?_
        refine j_if_eq (tgt := 483) dL_law_478 (by decide) (fun c478 => ?_) (fun c478 => ?_)
        · refine j_goto (tgt := 905) dL_law_483 (by decide) ?_
          refine j_sub [2, 3, 4, 5, 6] [(0, .ref (b)), (1, .ref (qx 0)), (2, .ref (qm 0)), (3, .ref (qo)), (4, .int (nI (i)))] rfl ?_
          exact hk (va_up ov 0 (if Nat.testBit (solI R C cu (nI j)) e then 1 else 0)) 0 dr cu _ _ hd hcu ⟨sz2, sa2, fi2, st2, lo2, hi2, wa2, sw2, hI2, rfl⟩ (MW_of hI3)
        · exact absurd ((lg_cmp_eq _ _).mpr (by rw [← hbt, s3, c469]; rfl)) c478
  · exact absurd c454 (by first | decide | omega)

set_option maxHeartbeats 8000000 in
set_option maxRecDepth 100000 in
theorem l_hasX {k : VK} (l : Launch) (hfl : l.flags = flags0) (D : va_G) (cI cJ cZ : ClassId) (qo : Nat) (qx qm : Nat → Nat) (R C : Nat) (hG : GS R C) (LL : List Nat) (hMt : Mth R C LL) (b L : Nat) (xs : Nat → Int32) (hL : L ≤ 258) (hX : SX k b L xs) (hZ : ZX k.2.2.1.1 k.1.2.2.1 k.2.2.1.2) (i cs ss : Nat) (hi : i + 4 ≤ L) (hcs : cs ≤ 10000) (hss : ss ≤ 100000) (ov : Nat → Int64) (dr sz : Nat) (sa : Bool) (cu fi st : Nat → Nat) (lo hi_ : Nat → Option Nat) (wa sw : Nat → Nat) (mth : Nat) (mkn mme : Bool) (mns mhe mnx mnl : Nat) (mlp mso mwi mus mho mnh : Nat → Nat) (mke : Nat → Int64) (mta mde : Nat → Nat) (mse : Nat → Bool) (hd : dr < 2 ^ nE R C) (hcu : CU R C cu) (hIx : XI0 R C cu sa sz fi st lo hi_ wa dr) (hIm : MI R C LL cu mkn mme mns mnl mlp mso mwi mus mde mse (rv dr)) (h1 : inB (sol R C cu LL).length (xs (i + 1)) = false) (hk : ∀ (ov2 : Nat → Int64) (th2 d2 : Nat) (cu2 : Nat → Nat) (u1 u2 : va_W), d2 < 2 ^ nE R C → CU R C cu2 → OW cI cJ cZ qo qx R C ov2 d2 cu2 u1 → MW cI cJ cZ qm R C LL th2 (rv d2) cu2 u2 → V k l D (tys3 cI cJ cZ) room_1 cL_law 7 RL (u1 ++ u2) (cs + 1) (ss + 6) 905 [(0, .ref (b)), (1, .ref (qx 0)), (2, .ref (qm 0)), (3, .ref (qo)), (4, .int (nI (i)))] []) : V k l D (tys3 cI cJ cZ) room_1 cL_law 7 RL (wZ cI cJ cZ qo qx qm R C ov dr sz sa cu fi st lo hi_ wa sw mth mkn mme mns mhe mnx (rv dr) mnl mlp cu mso mwi mus mho mnh mke mta mde mse) (cs) (ss) 411 [(0, .ref (b)), (1, .ref (qx 0)), (2, .ref (qm 0)), (3, .ref (qo)), (4, .int (nI (i)))] [] := by
  obtain ⟨hLO, hND, hA, hB, hB2, hCc⟩ := hMt
  obtain ⟨hx, hMo, hA1, hA2, hA6, hA8⟩ := hCc cu hcu
  have hE := hG.E
  obtain ⟨hr31, hpop, hil⟩ := hA dr hd
  have hsl := sol_len (R := R) (C := C) (cu := cu) (L := LL)
  have hl13 := hLO.2.1
  have hs0 := solI_x (show (sol R C cu LL).length < 2 ^ 31 by omega) hA1 h1
  refine j_aload_n dL_law_411 rfl 1 rfl ?_
  refine j_aload_n dL_law_412 rfl 0 rfl ?_
  refine j_iload dL_law_413 4 rfl ?_
  refine j_iconst (v := nI (1)) dL_law_415 (by decide) ?_
  refine jn_iadd (v := i + 1) dL_law_416 rfl ?_
  refine j_sld hX (by omega) (by omega) dL_law_417 ?_
  refine j_aload_n dL_law_418 rfl 0 rfl ?_
  refine j_iload dL_law_419 4 rfl ?_
  refine j_iconst (v := nI (2)) dL_law_421 (by decide) ?_
  refine jn_iadd (v := i + 2) dL_law_422 rfl ?_
  refine j_sld hX (by omega) (by omega) dL_law_423 ?_
  refine j_aload_n dL_law_424 rfl 3 rfl ?_
  refine j_callSW (mc := 1) (ms := 6) (wc := wO cI cJ cZ qo qx R C ov dr sz sa cu fi st lo hi_ wa sw) (wr := wM cI cJ cZ qm R C mth mkn mme mns mhe mnx (rv dr) mnl mlp cu mso mwi mus mho mnh mke mta mde mse) (av := [.ref (qx 0), .int ((xs (i + 1))), .int ((xs (i + 2))), .ref (qo)]) (rest := []) (w_hasX l hfl D cI cJ cZ qo qx R C hG dr sz sa cu fi st lo hi_ wa sw ov hx hIx (xs (i + 1)) hs0 (xs (i + 2))) mw2_83 mw2_84 mw1_0 mw2_85 hd_L_has rfl ⟨rfl, rfl⟩ ⟨Nat.le_of_ble_eq_true rfl, Nat.le_of_ble_eq_true rfl⟩ (⟨show cs + 1 ≤ 600128 by omega, show ss + 6 ≤ 7301064 by omega⟩) (Nat.le_of_ble_eq_true rfl) [0, 1, 2, 3, 4, 5, 6, 7, 8, 9, 10, 11, 12, 13] [14, 15, 16, 17, 18, 19, 20, 21, 22, 23, 24, 25, 26, 27, 28, 29, 30, 31, 32, 33, 34] rfl rfl rfl rfl (by decide) hZ rfl dL_law_425 ?_
  rintro _ _ ⟨rfl, sz2, sa2, fi2, st2, lo2, hi2, wa2, sw2, hI2, rfl⟩
  refine j_cut (w2 := wZ cI cJ cZ qo qx qm R C ov dr sz2 sa2 cu fi2 st2 lo2 hi2 wa2 sw2 mth mkn mme mns mhe mnx (rv dr) mnl mlp cu mso mwi mus mho mnh mke mta mde mse) [21, 22, 23, 24, 25, 26, 27, 28, 29, 30, 31, 32, 33, 34, 0, 1, 2, 3, 4, 5, 6, 7, 8, 9, 10, 11, 12, 13, 14, 15, 16, 17, 18, 19, 20] rfl rfl ?_
  show V k l D (tys3 cI cJ cZ) room_1 cL_law 7 RL (wZ cI cJ cZ qo qx qm R C ov dr sz2 sa2 cu fi2 st2 lo2 hi2 wa2 sw2 mth mkn mme mns mhe mnx (rv dr) mnl mlp cu mso mwi mus mho mnh mke mta mde mse) (cs + 1) (ss + 6) 428 [(0, .ref (b)), (1, .ref (qx 0)), (2, .ref (qm 0)), (3, .ref (qo)), (4, .int (nI (i)))] [.int (nI (1))]
  refine j_istore [(5, .int (nI (1))), (0, .ref (b)), (1, .ref (qx 0)), (2, .ref (qm 0)), (3, .ref (qo)), (4, .int (nI (i)))] dL_law_428 (by decide) rfl ?_
  refine j_aload_n dL_law_430 rfl 3 rfl ?_
  refine j_aload_n dL_law_431 rfl 1 rfl ?_
  refine j_iload dL_law_432 5 rfl ?_
  refine j_iconst (v := nI (1)) dL_law_434 (by decide) ?_
  refine jn_iadd (v := i + 1) dL_law_435 rfl ?_
  refine j_sld hX (by omega) (by omega) dL_law_436 ?_
  refine j_aload_n dL_law_437 rfl 1 rfl ?_
  refine j_iload dL_law_438 5 rfl ?_
  refine j_iconst (v := nI (2)) dL_law_440 (by decide) ?_
  refine jn_iadd (v := i + 2) dL_law_441 rfl ?_
  refine j_sld hX (by omega) (by omega) dL_law_442 ?_
  refine j_callV (mc := 0) (ms := 0) (wc := wM cI cJ cZ qm R C mth mkn mme mns mhe mnx (rv dr) mnl mlp cu mso mwi mus mho mnh mke mta mde mse) (wr := wO cI cJ cZ qo qx R C ov dr sz2 sa2 cu fi2 st2 lo2 hi2 wa2 sw2) (tys3 := tys3 cI cJ cZ) (av := [.int ((xs (i + 1))), .int ((xs (i + 2)))]) (rest := []) (cm_hasX l hfl D cI cJ cZ qm R C hG mth mkn mme mns mhe mnx (rv dr) mnl mlp cu mso mwi mus mho mnh mke mta mde mse LL hLO hMo hIm (xs (i + 1)) h1 (xs (i + 2))) 14 rfl rfl mw3_182 mw3_183 mw3_184 mw1_4 mw3_185 ⟨rfl, hd_X3_has⟩ rfl ⟨rfl, rfl⟩ ⟨Nat.le_of_ble_eq_true rfl, Nat.le_of_ble_eq_true rfl⟩ (⟨show cs + 1 + 0 ≤ 600128 by omega, show ss + 6 + 0 ≤ 7301064 by omega⟩) (Nat.le_of_ble_eq_true rfl) [14, 15, 16, 17, 18, 19, 20, 21, 22, 23, 24, 25, 26, 27, 28, 29, 30, 31, 32, 33, 34] [0, 1, 2, 3, 4, 5, 6, 7, 8, 9, 10, 11, 12, 13] rfl rfl rfl rfl (by decide) (fun _ h _ => h) rfl dL_law_443 ?_
  rintro _ _ ⟨rfl, hMW⟩
  obtain ⟨kn3, me3, ns3, he3, nx3, nl3, lp3, so3, wi3, us3, ho3, nh3, ke3, ta3, de3, se3, hI3, rfl⟩ := hMW
  show V k l D (tys3 cI cJ cZ) room_1 cL_law 7 RL (wZ cI cJ cZ qo qx qm R C ov dr sz2 sa2 cu fi2 st2 lo2 hi2 wa2 sw2 1 kn3 me3 ns3 he3 nx3 (rv dr) nl3 lp3 cu so3 wi3 us3 ho3 nh3 ke3 ta3 de3 se3) (cs + 1) (ss + 6) 446 [(5, .int (nI (1))), (0, .ref (b)), (1, .ref (qx 0)), (2, .ref (qm 0)), (3, .ref (qo)), (4, .int (nI (i)))] [.int (bI (false))]
  refine j_istore [(6, .int (bI (false))), (5, .int (nI (1))), (0, .ref (b)), (1, .ref (qx 0)), (2, .ref (qm 0)), (3, .ref (qo)), (4, .int (nI (i)))] dL_law_446 (by decide) rfl ?_
  refine j_aload_n dL_law_448 rfl 4 rfl ?_
  refine j_callV (mc := 0) (ms := 0) (wc := wM cI cJ cZ qm R C 1 kn3 me3 ns3 he3 nx3 (rv dr) nl3 lp3 cu so3 wi3 us3 ho3 nh3 ke3 ta3 de3 se3) (wr := wO cI cJ cZ qo qx R C ov dr sz2 sa2 cu fi2 st2 lo2 hi2 wa2 sw2) (tys3 := tys3 cI cJ cZ) (av := []) (rest := []) (cm_thrown l hfl D cI cJ cZ qm R C hG 1 kn3 me3 ns3 he3 nx3 (rv dr) nl3 lp3 cu so3 wi3 us3 ho3 nh3 ke3 ta3 de3 se3) 14 rfl rfl mw3_105 mw3_106 mw3_107 mw1_4 mw3_108 ⟨rfl, hd_X3_thrown⟩ rfl ⟨rfl, rfl⟩ ⟨Nat.le_of_ble_eq_true rfl, Nat.le_of_ble_eq_true rfl⟩ (⟨show cs + 1 + 0 ≤ 600128 by omega, show ss + 6 + 0 ≤ 7301064 by omega⟩) (Nat.le_of_ble_eq_true rfl) [14, 15, 16, 17, 18, 19, 20, 21, 22, 23, 24, 25, 26, 27, 28, 29, 30, 31, 32, 33, 34] [0, 1, 2, 3, 4, 5, 6, 7, 8, 9, 10, 11, 12, 13] rfl rfl rfl rfl (by decide) (fun _ h _ => h) rfl dL_law_449 ?_
  rintro _ _ ⟨rfl, rfl⟩
  show V k l D (tys3 cI cJ cZ) room_1 cL_law 7 RL (wZ cI cJ cZ qo qx qm R C ov dr sz2 sa2 cu fi2 st2 lo2 hi2 wa2 sw2 1 kn3 me3 ns3 he3 nx3 (rv dr) nl3 lp3 cu so3 wi3 us3 ho3 nh3 ke3 ta3 de3 se3) (cs + 1) (ss + 6) 452 [(6, .int (bI (false))), (5, .int (nI (1))), (0, .ref (b)), (1, .ref (qx 0)), (2, .ref (qm 0)), (3, .ref (qo)), (4, .int (nI (i)))] [.int (nI (1))]
  refine j_iload dL_law_452 1 rfl ?_
  refine jn_icmp_eq (tgt := 459) (a := 1) (b := 1) (by omega) (by omega) dL_law_454 (by decide) (fun c454 => ?_) (fun c454 => ?_)
  · refine j_iload dL_law_459 1 rfl ?_
    refine jn_if_ne (tgt := 483) (a := 1) (by omega) dL_law_461 (by decide) (fun c461 => ?_) (fun c461 => ?_)
    · refine j_goto (tgt := 905) dL_law_483 (by decide) ?_
      refine j_sub [2, 3, 4, 5, 6] [(0, .ref (b)), (1, .ref (qx 0)), (2, .ref (qm 0)), (3, .ref (qo)), (4, .int (nI (i)))] rfl ?_
      exact hk ov 1 dr cu _ _ hd hcu ⟨sz2, sa2, fi2, st2, lo2, hi2, wa2, sw2, hI2, rfl⟩ (MW_of hI3)
    · exact absurd c461 (by first | decide | omega)
  · exact absurd c454 (by first | decide | omega)

set_option maxHeartbeats 8000000 in
set_option maxRecDepth 100000 in
theorem l_hasE {k : VK} (l : Launch) (hfl : l.flags = flags0) (D : va_G) (cI cJ cZ : ClassId) (qo : Nat) (qx qm : Nat → Nat) (R C : Nat) (hG : GS R C) (LL : List Nat) (hMt : Mth R C LL) (b L : Nat) (xs : Nat → Int32) (hL : L ≤ 258) (hX : SX k b L xs) (hZ : ZX k.2.2.1.1 k.1.2.2.1 k.2.2.1.2) (i cs ss : Nat) (hi : i + 4 ≤ L) (hcs : cs ≤ 10000) (hss : ss ≤ 100000) (ov : Nat → Int64) (dr sz : Nat) (sa : Bool) (cu fi st : Nat → Nat) (lo hi_ : Nat → Option Nat) (wa sw : Nat → Nat) (mth : Nat) (mkn mme : Bool) (mns mhe mnx mnl : Nat) (mlp mso mwi mus mho mnh : Nat → Nat) (mke : Nat → Int64) (mta mde : Nat → Nat) (mse : Nat → Bool) (hd : dr < 2 ^ nE R C) (hcu : CU R C cu) (hIx : XI0 R C cu sa sz fi st lo hi_ wa dr) (hIm : MI R C LL cu mkn mme mns mnl mlp mso mwi mus mde mse (rv dr)) (j y : Nat) (hy : (sol R C cu LL)[j]? = some y) (h1 : xs (i + 1) = nI j) (h2 : inB (nE R C) (xs (i + 2)) = false) (hk : ∀ (ov2 : Nat → Int64) (th2 d2 : Nat) (cu2 : Nat → Nat) (u1 u2 : va_W), d2 < 2 ^ nE R C → CU R C cu2 → OW cI cJ cZ qo qx R C ov2 d2 cu2 u1 → MW cI cJ cZ qm R C LL th2 (rv d2) cu2 u2 → V k l D (tys3 cI cJ cZ) room_1 cL_law 7 RL (u1 ++ u2) (cs + 1) (ss + 6) 905 [(0, .ref (b)), (1, .ref (qx 0)), (2, .ref (qm 0)), (3, .ref (qo)), (4, .int (nI (i)))] []) : V k l D (tys3 cI cJ cZ) room_1 cL_law 7 RL (wZ cI cJ cZ qo qx qm R C ov dr sz sa cu fi st lo hi_ wa sw mth mkn mme mns mhe mnx (rv dr) mnl mlp cu mso mwi mus mho mnh mke mta mde mse) (cs) (ss) 411 [(0, .ref (b)), (1, .ref (qx 0)), (2, .ref (qm 0)), (3, .ref (qo)), (4, .int (nI (i)))] [] := by
  obtain ⟨hLO, hND, hA, hB, hB2, hCc⟩ := hMt
  obtain ⟨hx, hMo, hA1, hA2, hA6, hA8⟩ := hCc cu hcu
  have hE := hG.E
  obtain ⟨hr31, hpop, hil⟩ := hA dr hd
  obtain ⟨s1, s2, s3⟩ := hA6 j y hy
  refine j_aload_n dL_law_411 rfl 1 rfl ?_
  refine j_aload_n dL_law_412 rfl 0 rfl ?_
  refine j_iload dL_law_413 4 rfl ?_
  refine j_iconst (v := nI (1)) dL_law_415 (by decide) ?_
  refine jn_iadd (v := i + 1) dL_law_416 rfl ?_
  refine j_sld hX (by omega) (by omega) dL_law_417 ?_
  refine j_topi (y := nI (j)) (h1) ?_
  refine j_aload_n dL_law_418 rfl 0 rfl ?_
  refine j_iload dL_law_419 4 rfl ?_
  refine j_iconst (v := nI (2)) dL_law_421 (by decide) ?_
  refine jn_iadd (v := i + 2) dL_law_422 rfl ?_
  refine j_sld hX (by omega) (by omega) dL_law_423 ?_
  refine j_aload_n dL_law_424 rfl 3 rfl ?_
  refine j_callSW (mc := 1) (ms := 6) (wc := wO cI cJ cZ qo qx R C ov dr sz sa cu fi st lo hi_ wa sw) (wr := wM cI cJ cZ qm R C mth mkn mme mns mhe mnx (rv dr) mnl mlp cu mso mwi mus mho mnh mke mta mde mse) (av := [.ref (qx 0), .int (nI (j)), .int ((xs (i + 2))), .ref (qo)]) (rest := []) (w_hasE l hfl D cI cJ cZ qo qx R C hG dr sz sa cu fi st lo hi_ wa sw ov hx hIx (nI j) s1 (xs (i + 2)) h2) mw2_83 mw2_84 mw1_0 mw2_85 hd_L_has rfl ⟨rfl, rfl⟩ ⟨Nat.le_of_ble_eq_true rfl, Nat.le_of_ble_eq_true rfl⟩ (⟨show cs + 1 ≤ 600128 by omega, show ss + 6 ≤ 7301064 by omega⟩) (Nat.le_of_ble_eq_true rfl) [0, 1, 2, 3, 4, 5, 6, 7, 8, 9, 10, 11, 12, 13] [14, 15, 16, 17, 18, 19, 20, 21, 22, 23, 24, 25, 26, 27, 28, 29, 30, 31, 32, 33, 34] rfl rfl rfl rfl (by decide) hZ rfl dL_law_425 ?_
  rintro _ _ ⟨rfl, sz2, sa2, fi2, st2, lo2, hi2, wa2, sw2, hI2, rfl⟩
  refine j_cut (w2 := wZ cI cJ cZ qo qx qm R C ov dr sz2 sa2 cu fi2 st2 lo2 hi2 wa2 sw2 mth mkn mme mns mhe mnx (rv dr) mnl mlp cu mso mwi mus mho mnh mke mta mde mse) [21, 22, 23, 24, 25, 26, 27, 28, 29, 30, 31, 32, 33, 34, 0, 1, 2, 3, 4, 5, 6, 7, 8, 9, 10, 11, 12, 13, 14, 15, 16, 17, 18, 19, 20] rfl rfl ?_
  show V k l D (tys3 cI cJ cZ) room_1 cL_law 7 RL (wZ cI cJ cZ qo qx qm R C ov dr sz2 sa2 cu fi2 st2 lo2 hi2 wa2 sw2 mth mkn mme mns mhe mnx (rv dr) mnl mlp cu mso mwi mus mho mnh mke mta mde mse) (cs + 1) (ss + 6) 428 [(0, .ref (b)), (1, .ref (qx 0)), (2, .ref (qm 0)), (3, .ref (qo)), (4, .int (nI (i)))] [.int (nI (2))]
  refine j_istore [(5, .int (nI (2))), (0, .ref (b)), (1, .ref (qx 0)), (2, .ref (qm 0)), (3, .ref (qo)), (4, .int (nI (i)))] dL_law_428 (by decide) rfl ?_
  refine j_aload_n dL_law_430 rfl 3 rfl ?_
  refine j_aload_n dL_law_431 rfl 1 rfl ?_
  refine j_iload dL_law_432 5 rfl ?_
  refine j_iconst (v := nI (1)) dL_law_434 (by decide) ?_
  refine jn_iadd (v := i + 1) dL_law_435 rfl ?_
  refine j_sld hX (by omega) (by omega) dL_law_436 ?_
  refine j_topi (y := nI (j)) (h1) ?_
  refine j_aload_n dL_law_437 rfl 1 rfl ?_
  refine j_iload dL_law_438 5 rfl ?_
  refine j_iconst (v := nI (2)) dL_law_440 (by decide) ?_
  refine jn_iadd (v := i + 2) dL_law_441 rfl ?_
  refine j_sld hX (by omega) (by omega) dL_law_442 ?_
  refine j_callV (mc := 0) (ms := 0) (wc := wM cI cJ cZ qm R C mth mkn mme mns mhe mnx (rv dr) mnl mlp cu mso mwi mus mho mnh mke mta mde mse) (wr := wO cI cJ cZ qo qx R C ov dr sz2 sa2 cu fi2 st2 lo2 hi2 wa2 sw2) (tys3 := tys3 cI cJ cZ) (av := [.int (nI (j)), .int ((xs (i + 2)))]) (rest := []) (cm_hasE l hfl D cI cJ cZ qm R C hG mth mkn mme mns mhe mnx (rv dr) mnl mlp cu mso mwi mus mho mnh mke mta mde mse LL hLO hMo hIm j y hy (xs (i + 2)) h2) 14 rfl rfl mw3_182 mw3_183 mw3_184 mw1_4 mw3_185 ⟨rfl, hd_X3_has⟩ rfl ⟨rfl, rfl⟩ ⟨Nat.le_of_ble_eq_true rfl, Nat.le_of_ble_eq_true rfl⟩ (⟨show cs + 1 + 0 ≤ 600128 by omega, show ss + 6 + 0 ≤ 7301064 by omega⟩) (Nat.le_of_ble_eq_true rfl) [14, 15, 16, 17, 18, 19, 20, 21, 22, 23, 24, 25, 26, 27, 28, 29, 30, 31, 32, 33, 34] [0, 1, 2, 3, 4, 5, 6, 7, 8, 9, 10, 11, 12, 13] rfl rfl rfl rfl (by decide) (fun _ h _ => h) rfl dL_law_443 ?_
  rintro _ _ ⟨rfl, hMW⟩
  obtain ⟨kn3, me3, ns3, he3, nx3, nl3, lp3, so3, wi3, us3, ho3, nh3, ke3, ta3, de3, se3, hI3, rfl⟩ := hMW
  show V k l D (tys3 cI cJ cZ) room_1 cL_law 7 RL (wZ cI cJ cZ qo qx qm R C ov dr sz2 sa2 cu fi2 st2 lo2 hi2 wa2 sw2 2 kn3 me3 ns3 he3 nx3 (rv dr) nl3 lp3 cu so3 wi3 us3 ho3 nh3 ke3 ta3 de3 se3) (cs + 1) (ss + 6) 446 [(5, .int (nI (2))), (0, .ref (b)), (1, .ref (qx 0)), (2, .ref (qm 0)), (3, .ref (qo)), (4, .int (nI (i)))] [.int (bI (false))]
  refine j_istore [(6, .int (bI (false))), (5, .int (nI (2))), (0, .ref (b)), (1, .ref (qx 0)), (2, .ref (qm 0)), (3, .ref (qo)), (4, .int (nI (i)))] dL_law_446 (by decide) rfl ?_
  refine j_aload_n dL_law_448 rfl 4 rfl ?_
  refine j_callV (mc := 0) (ms := 0) (wc := wM cI cJ cZ qm R C 2 kn3 me3 ns3 he3 nx3 (rv dr) nl3 lp3 cu so3 wi3 us3 ho3 nh3 ke3 ta3 de3 se3) (wr := wO cI cJ cZ qo qx R C ov dr sz2 sa2 cu fi2 st2 lo2 hi2 wa2 sw2) (tys3 := tys3 cI cJ cZ) (av := []) (rest := []) (cm_thrown l hfl D cI cJ cZ qm R C hG 2 kn3 me3 ns3 he3 nx3 (rv dr) nl3 lp3 cu so3 wi3 us3 ho3 nh3 ke3 ta3 de3 se3) 14 rfl rfl mw3_105 mw3_106 mw3_107 mw1_4 mw3_108 ⟨rfl, hd_X3_thrown⟩ rfl ⟨rfl, rfl⟩ ⟨Nat.le_of_ble_eq_true rfl, Nat.le_of_ble_eq_true rfl⟩ (⟨show cs + 1 + 0 ≤ 600128 by omega, show ss + 6 + 0 ≤ 7301064 by omega⟩) (Nat.le_of_ble_eq_true rfl) [14, 15, 16, 17, 18, 19, 20, 21, 22, 23, 24, 25, 26, 27, 28, 29, 30, 31, 32, 33, 34] [0, 1, 2, 3, 4, 5, 6, 7, 8, 9, 10, 11, 12, 13] rfl rfl rfl rfl (by decide) (fun _ h _ => h) rfl dL_law_449 ?_
  rintro _ _ ⟨rfl, rfl⟩
  show V k l D (tys3 cI cJ cZ) room_1 cL_law 7 RL (wZ cI cJ cZ qo qx qm R C ov dr sz2 sa2 cu fi2 st2 lo2 hi2 wa2 sw2 2 kn3 me3 ns3 he3 nx3 (rv dr) nl3 lp3 cu so3 wi3 us3 ho3 nh3 ke3 ta3 de3 se3) (cs + 1) (ss + 6) 452 [(6, .int (bI (false))), (5, .int (nI (2))), (0, .ref (b)), (1, .ref (qx 0)), (2, .ref (qm 0)), (3, .ref (qo)), (4, .int (nI (i)))] [.int (nI (2))]
  refine j_iload dL_law_452 1 rfl ?_
  refine jn_icmp_eq (tgt := 459) (a := 2) (b := 2) (by omega) (by omega) dL_law_454 (by decide) (fun c454 => ?_) (fun c454 => ?_)
  · refine j_iload dL_law_459 1 rfl ?_
    refine jn_if_ne (tgt := 483) (a := 2) (by omega) dL_law_461 (by decide) (fun c461 => ?_) (fun c461 => ?_)
    · refine j_goto (tgt := 905) dL_law_483 (by decide) ?_
      refine j_sub [2, 3, 4, 5, 6] [(0, .ref (b)), (1, .ref (qx 0)), (2, .ref (qm 0)), (3, .ref (qo)), (4, .int (nI (i)))] rfl ?_
      exact hk ov 2 dr cu _ _ hd hcu ⟨sz2, sa2, fi2, st2, lo2, hi2, wa2, sw2, hI2, rfl⟩ (MW_of hI3)
    · exact absurd c461 (by first | decide | omega)
  · exact absurd c454 (by first | decide | omega)

set_option maxHeartbeats 8000000 in
set_option maxRecDepth 100000 in
theorem l_length {k : VK} (l : Launch) (hfl : l.flags = flags0) (D : va_G) (cI cJ cZ : ClassId) (qo : Nat) (qx qm : Nat → Nat) (R C : Nat) (hG : GS R C) (LL : List Nat) (hMt : Mth R C LL) (b L : Nat) (xs : Nat → Int32) (hL : L ≤ 258) (hX : SX k b L xs) (hZ : ZX k.2.2.1.1 k.1.2.2.1 k.2.2.1.2) (i cs ss : Nat) (hi : i + 4 ≤ L) (hcs : cs ≤ 10000) (hss : ss ≤ 100000) (ov : Nat → Int64) (dr sz : Nat) (sa : Bool) (cu fi st : Nat → Nat) (lo hi_ : Nat → Option Nat) (wa sw : Nat → Nat) (mth : Nat) (mkn mme : Bool) (mns mhe mnx mnl : Nat) (mlp mso mwi mus mho mnh : Nat → Nat) (mke : Nat → Int64) (mta mde : Nat → Nat) (mse : Nat → Bool) (hd : dr < 2 ^ nE R C) (hcu : CU R C cu) (hIx : XI0 R C cu sa sz fi st lo hi_ wa dr) (hIm : MI R C LL cu mkn mme mns mnl mlp mso mwi mus mde mse (rv dr)) (j y : Nat) (hy : (sol R C cu LL)[j]? = some y) (h1 : xs (i + 1) = nI j) (hk : ∀ (ov2 : Nat → Int64) (th2 d2 : Nat) (cu2 : Nat → Nat) (u1 u2 : va_W), d2 < 2 ^ nE R C → CU R C cu2 → OW cI cJ cZ qo qx R C ov2 d2 cu2 u1 → MW cI cJ cZ qm R C LL th2 (rv d2) cu2 u2 → V k l D (tys3 cI cJ cZ) room_1 cL_law 7 RL (u1 ++ u2) (cs + 1) (ss + 6) 905 [(0, .ref (b)), (1, .ref (qx 0)), (2, .ref (qm 0)), (3, .ref (qo)), (4, .int (nI (i)))] []) : V k l D (tys3 cI cJ cZ) room_1 cL_law 7 RL (wZ cI cJ cZ qo qx qm R C ov dr sz sa cu fi st lo hi_ wa sw mth mkn mme mns mhe mnx (rv dr) mnl mlp cu mso mwi mus mho mnh mke mta mde mse) (cs) (ss) 486 [(0, .ref (b)), (1, .ref (qx 0)), (2, .ref (qm 0)), (3, .ref (qo)), (4, .int (nI (i)))] [] := by
  obtain ⟨hLO, hND, hA, hB, hB2, hCc⟩ := hMt
  obtain ⟨hx, hMo, hA1, hA2, hA6, hA8⟩ := hCc cu hcu
  have hE := hG.E
  obtain ⟨hr31, hpop, hil⟩ := hA dr hd
  obtain ⟨s1, s2, s3⟩ := hA6 j y hy
  refine j_aload_n dL_law_486 rfl 1 rfl ?_
  refine j_aload_n dL_law_487 rfl 0 rfl ?_
  refine j_iload dL_law_488 4 rfl ?_
  refine j_iconst (v := nI (1)) dL_law_490 (by decide) ?_
  refine jn_iadd (v := i + 1) dL_law_491 rfl ?_
  refine j_sld hX (by omega) (by omega) dL_law_492 ?_
  refine j_topi (y := nI (j)) (h1) ?_
  refine j_aload_n dL_law_493 rfl 3 rfl ?_
  refine j_callSW (mc := 1) (ms := 6) (wc := wO cI cJ cZ qo qx R C ov dr sz sa cu fi st lo hi_ wa sw) (wr := wM cI cJ cZ qm R C mth mkn mme mns mhe mnx (rv dr) mnl mlp cu mso mwi mus mho mnh mke mta mde mse) (av := [.ref (qx 0), .int (nI (j)), .ref (qo)]) (rest := []) (w_length l hfl D cI cJ cZ qo qx R C hG dr sz sa cu fi st lo hi_ wa sw ov hx hIx (nI j) s1) mw2_110 mw2_111 mw1_0 mw2_112 hd_L_length rfl ⟨rfl, rfl⟩ ⟨Nat.le_of_ble_eq_true rfl, Nat.le_of_ble_eq_true rfl⟩ (⟨show cs + 1 ≤ 600128 by omega, show ss + 6 ≤ 7301064 by omega⟩) (Nat.le_of_ble_eq_true rfl) [0, 1, 2, 3, 4, 5, 6, 7, 8, 9, 10, 11, 12, 13] [14, 15, 16, 17, 18, 19, 20, 21, 22, 23, 24, 25, 26, 27, 28, 29, 30, 31, 32, 33, 34] rfl rfl rfl rfl (by decide) hZ rfl dL_law_494 ?_
  rintro _ _ ⟨rfl, sz2, sa2, fi2, st2, lo2, hi2, wa2, sw2, hI2, rfl⟩
  refine j_cut (w2 := wZ cI cJ cZ qo qx qm R C (va_up ov 0 ((nI (pop (solI R C cu (nI j)) 32)).toInt64)) dr sz2 sa2 cu fi2 st2 lo2 hi2 wa2 sw2 mth mkn mme mns mhe mnx (rv dr) mnl mlp cu mso mwi mus mho mnh mke mta mde mse) [21, 22, 23, 24, 25, 26, 27, 28, 29, 30, 31, 32, 33, 34, 0, 1, 2, 3, 4, 5, 6, 7, 8, 9, 10, 11, 12, 13, 14, 15, 16, 17, 18, 19, 20] rfl rfl ?_
  show V k l D (tys3 cI cJ cZ) room_1 cL_law 7 RL (wZ cI cJ cZ qo qx qm R C (va_up ov 0 ((nI (pop (solI R C cu (nI j)) 32)).toInt64)) dr sz2 sa2 cu fi2 st2 lo2 hi2 wa2 sw2 mth mkn mme mns mhe mnx (rv dr) mnl mlp cu mso mwi mus mho mnh mke mta mde mse) (cs + 1) (ss + 6) 497 [(0, .ref (b)), (1, .ref (qx 0)), (2, .ref (qm 0)), (3, .ref (qo)), (4, .int (nI (i)))] [.int (nI (0))]
  refine j_istore [(5, .int (nI (0))), (0, .ref (b)), (1, .ref (qx 0)), (2, .ref (qm 0)), (3, .ref (qo)), (4, .int (nI (i)))] dL_law_497 (by decide) rfl ?_
  refine j_aload_n dL_law_499 rfl 3 rfl ?_
  refine j_aload_n dL_law_500 rfl 1 rfl ?_
  refine j_iload dL_law_501 5 rfl ?_
  refine j_iconst (v := nI (1)) dL_law_503 (by decide) ?_
  refine jn_iadd (v := i + 1) dL_law_504 rfl ?_
  refine j_sld hX (by omega) (by omega) dL_law_505 ?_
  refine j_topi (y := nI (j)) (h1) ?_
  refine j_callV (mc := 0) (ms := 0) (wc := wM cI cJ cZ qm R C mth mkn mme mns mhe mnx (rv dr) mnl mlp cu mso mwi mus mho mnh mke mta mde mse) (wr := wO cI cJ cZ qo qx R C (va_up ov 0 ((nI (pop (solI R C cu (nI j)) 32)).toInt64)) dr sz2 sa2 cu fi2 st2 lo2 hi2 wa2 sw2) (tys3 := tys3 cI cJ cZ) (av := [.int (nI (j))]) (rest := []) (cm_length l hfl D cI cJ cZ qm R C hG mth mkn mme mns mhe mnx (rv dr) mnl mlp cu mso mwi mus mho mnh mke mta mde mse LL hLO hMo hIm j y hy) 14 rfl rfl mw3_190 mw3_191 mw3_192 mw1_4 mw3_193 ⟨rfl, hd_X3_length⟩ rfl ⟨rfl, rfl⟩ ⟨Nat.le_of_ble_eq_true rfl, Nat.le_of_ble_eq_true rfl⟩ (⟨show cs + 1 + 0 ≤ 600128 by omega, show ss + 6 + 0 ≤ 7301064 by omega⟩) (Nat.le_of_ble_eq_true rfl) [14, 15, 16, 17, 18, 19, 20, 21, 22, 23, 24, 25, 26, 27, 28, 29, 30, 31, 32, 33, 34] [0, 1, 2, 3, 4, 5, 6, 7, 8, 9, 10, 11, 12, 13] rfl rfl rfl rfl (by decide) (fun _ h _ => h) rfl dL_law_506 ?_
  rintro _ _ ⟨rfl, hMW⟩
  obtain ⟨kn3, me3, ns3, he3, nx3, nl3, lp3, so3, wi3, us3, ho3, nh3, ke3, ta3, de3, se3, hI3, rfl⟩ := hMW
  show V k l D (tys3 cI cJ cZ) room_1 cL_law 7 RL (wZ cI cJ cZ qo qx qm R C (va_up ov 0 ((nI (pop (solI R C cu (nI j)) 32)).toInt64)) dr sz2 sa2 cu fi2 st2 lo2 hi2 wa2 sw2 0 kn3 me3 ns3 he3 nx3 (rv dr) nl3 lp3 cu so3 wi3 us3 ho3 nh3 ke3 ta3 de3 se3) (cs + 1) (ss + 6) 509 [(5, .int (nI (0))), (0, .ref (b)), (1, .ref (qx 0)), (2, .ref (qm 0)), (3, .ref (qo)), (4, .int (nI (i)))] [.int (nI (szA y (nE R C)))]
  refine j_istore [(6, .int (nI (szA y (nE R C)))), (5, .int (nI (0))), (0, .ref (b)), (1, .ref (qx 0)), (2, .ref (qm 0)), (3, .ref (qo)), (4, .int (nI (i)))] dL_law_509 (by decide) rfl ?_
  refine j_aload_n dL_law_511 rfl 4 rfl ?_
  refine j_callV (mc := 0) (ms := 0) (wc := wM cI cJ cZ qm R C 0 kn3 me3 ns3 he3 nx3 (rv dr) nl3 lp3 cu so3 wi3 us3 ho3 nh3 ke3 ta3 de3 se3) (wr := wO cI cJ cZ qo qx R C (va_up ov 0 ((nI (pop (solI R C cu (nI j)) 32)).toInt64)) dr sz2 sa2 cu fi2 st2 lo2 hi2 wa2 sw2) (tys3 := tys3 cI cJ cZ) (av := []) (rest := []) (cm_thrown l hfl D cI cJ cZ qm R C hG 0 kn3 me3 ns3 he3 nx3 (rv dr) nl3 lp3 cu so3 wi3 us3 ho3 nh3 ke3 ta3 de3 se3) 14 rfl rfl mw3_105 mw3_106 mw3_107 mw1_4 mw3_108 ⟨rfl, hd_X3_thrown⟩ rfl ⟨rfl, rfl⟩ ⟨Nat.le_of_ble_eq_true rfl, Nat.le_of_ble_eq_true rfl⟩ (⟨show cs + 1 + 0 ≤ 600128 by omega, show ss + 6 + 0 ≤ 7301064 by omega⟩) (Nat.le_of_ble_eq_true rfl) [14, 15, 16, 17, 18, 19, 20, 21, 22, 23, 24, 25, 26, 27, 28, 29, 30, 31, 32, 33, 34] [0, 1, 2, 3, 4, 5, 6, 7, 8, 9, 10, 11, 12, 13] rfl rfl rfl rfl (by decide) (fun _ h _ => h) rfl dL_law_512 ?_
  rintro _ _ ⟨rfl, rfl⟩
  show V k l D (tys3 cI cJ cZ) room_1 cL_law 7 RL (wZ cI cJ cZ qo qx qm R C (va_up ov 0 ((nI (pop (solI R C cu (nI j)) 32)).toInt64)) dr sz2 sa2 cu fi2 st2 lo2 hi2 wa2 sw2 0 kn3 me3 ns3 he3 nx3 (rv dr) nl3 lp3 cu so3 wi3 us3 ho3 nh3 ke3 ta3 de3 se3) (cs + 1) (ss + 6) 515 [(6, .int (nI (szA y (nE R C)))), (5, .int (nI (0))), (0, .ref (b)), (1, .ref (qx 0)), (2, .ref (qm 0)), (3, .ref (qo)), (4, .int (nI (i)))] [.int (nI (0))]
  refine j_iload dL_law_515 1 rfl ?_
  refine jn_icmp_eq (tgt := 522) (a := 0) (b := 0) (by omega) (by omega) dL_law_517 (by decide) (fun c517 => ?_) (fun c517 => ?_)
  · refine j_iload dL_law_522 1 rfl ?_
    refine jn_if_ne (tgt := 539) (a := 0) (by omega) dL_law_524 (by decide) (fun c524 => ?_) (fun c524 => ?_)
    · exact absurd c524 (by first | decide | omega)
    · refine j_aload_n dL_law_527 rfl 5 rfl ?_
      refine j_iconst (v := nI (0)) dL_law_528 (by decide) ?_
      refine jn_lald (v := (nI (pop (solI R C cu (nI j)) 32)).toInt64) 0 1 rfl rfl (by omega) (by omega) (by exact va_up_self _ _ _) dL_law_529 ?_
      refine j_iload dL_law_530 0 rfl ?_
      refine j_i2l dL_law_532 rfl ?_
      refine j_lcmp dL_law_533 rfl ?_
      refine j_if_eq (tgt := 539) dL_law_534 (by decide) (fun c534 => ?_) (fun c534 => ?_)
      · refine j_goto (tgt := 905) dL_law_539 (by decide) ?_
        refine j_sub [2, 3, 4, 5, 6] [(0, .ref (b)), (1, .ref (qx 0)), (2, .ref (qm 0)), (3, .ref (qo)), (4, .int (nI (i)))] rfl ?_
        exact hk (va_up ov 0 ((nI (pop (solI R C cu (nI j)) 32)).toInt64)) 0 dr cu _ _ hd hcu ⟨sz2, sa2, fi2, st2, lo2, hi2, wa2, sw2, hI2, rfl⟩ (MW_of hI3)
      · exact absurd ((lg_cmp_eq _ _).mpr (by rw [(hA _ s2).2.1, s3])) c534
  · exact absurd c517 (by first | decide | omega)

set_option maxHeartbeats 8000000 in
set_option maxRecDepth 100000 in
theorem l_lengthX {k : VK} (l : Launch) (hfl : l.flags = flags0) (D : va_G) (cI cJ cZ : ClassId) (qo : Nat) (qx qm : Nat → Nat) (R C : Nat) (hG : GS R C) (LL : List Nat) (hMt : Mth R C LL) (b L : Nat) (xs : Nat → Int32) (hL : L ≤ 258) (hX : SX k b L xs) (hZ : ZX k.2.2.1.1 k.1.2.2.1 k.2.2.1.2) (i cs ss : Nat) (hi : i + 4 ≤ L) (hcs : cs ≤ 10000) (hss : ss ≤ 100000) (ov : Nat → Int64) (dr sz : Nat) (sa : Bool) (cu fi st : Nat → Nat) (lo hi_ : Nat → Option Nat) (wa sw : Nat → Nat) (mth : Nat) (mkn mme : Bool) (mns mhe mnx mnl : Nat) (mlp mso mwi mus mho mnh : Nat → Nat) (mke : Nat → Int64) (mta mde : Nat → Nat) (mse : Nat → Bool) (hd : dr < 2 ^ nE R C) (hcu : CU R C cu) (hIx : XI0 R C cu sa sz fi st lo hi_ wa dr) (hIm : MI R C LL cu mkn mme mns mnl mlp mso mwi mus mde mse (rv dr)) (h1 : inB (sol R C cu LL).length (xs (i + 1)) = false) (hk : ∀ (ov2 : Nat → Int64) (th2 d2 : Nat) (cu2 : Nat → Nat) (u1 u2 : va_W), d2 < 2 ^ nE R C → CU R C cu2 → OW cI cJ cZ qo qx R C ov2 d2 cu2 u1 → MW cI cJ cZ qm R C LL th2 (rv d2) cu2 u2 → V k l D (tys3 cI cJ cZ) room_1 cL_law 7 RL (u1 ++ u2) (cs + 1) (ss + 6) 905 [(0, .ref (b)), (1, .ref (qx 0)), (2, .ref (qm 0)), (3, .ref (qo)), (4, .int (nI (i)))] []) : V k l D (tys3 cI cJ cZ) room_1 cL_law 7 RL (wZ cI cJ cZ qo qx qm R C ov dr sz sa cu fi st lo hi_ wa sw mth mkn mme mns mhe mnx (rv dr) mnl mlp cu mso mwi mus mho mnh mke mta mde mse) (cs) (ss) 486 [(0, .ref (b)), (1, .ref (qx 0)), (2, .ref (qm 0)), (3, .ref (qo)), (4, .int (nI (i)))] [] := by
  obtain ⟨hLO, hND, hA, hB, hB2, hCc⟩ := hMt
  obtain ⟨hx, hMo, hA1, hA2, hA6, hA8⟩ := hCc cu hcu
  have hE := hG.E
  obtain ⟨hr31, hpop, hil⟩ := hA dr hd
  have hsl := sol_len (R := R) (C := C) (cu := cu) (L := LL)
  have hl13 := hLO.2.1
  have hs0 := solI_x (show (sol R C cu LL).length < 2 ^ 31 by omega) hA1 h1
  refine j_aload_n dL_law_486 rfl 1 rfl ?_
  refine j_aload_n dL_law_487 rfl 0 rfl ?_
  refine j_iload dL_law_488 4 rfl ?_
  refine j_iconst (v := nI (1)) dL_law_490 (by decide) ?_
  refine jn_iadd (v := i + 1) dL_law_491 rfl ?_
  refine j_sld hX (by omega) (by omega) dL_law_492 ?_
  refine j_aload_n dL_law_493 rfl 3 rfl ?_
  refine j_callSW (mc := 1) (ms := 6) (wc := wO cI cJ cZ qo qx R C ov dr sz sa cu fi st lo hi_ wa sw) (wr := wM cI cJ cZ qm R C mth mkn mme mns mhe mnx (rv dr) mnl mlp cu mso mwi mus mho mnh mke mta mde mse) (av := [.ref (qx 0), .int ((xs (i + 1))), .ref (qo)]) (rest := []) (w_lengthX l hfl D cI cJ cZ qo qx R C hG dr sz sa cu fi st lo hi_ wa sw ov hx hIx (xs (i + 1)) hs0) mw2_110 mw2_111 mw1_0 mw2_112 hd_L_length rfl ⟨rfl, rfl⟩ ⟨Nat.le_of_ble_eq_true rfl, Nat.le_of_ble_eq_true rfl⟩ (⟨show cs + 1 ≤ 600128 by omega, show ss + 6 ≤ 7301064 by omega⟩) (Nat.le_of_ble_eq_true rfl) [0, 1, 2, 3, 4, 5, 6, 7, 8, 9, 10, 11, 12, 13] [14, 15, 16, 17, 18, 19, 20, 21, 22, 23, 24, 25, 26, 27, 28, 29, 30, 31, 32, 33, 34] rfl rfl rfl rfl (by decide) hZ rfl dL_law_494 ?_
  rintro _ _ ⟨rfl, sz2, sa2, fi2, st2, lo2, hi2, wa2, sw2, hI2, rfl⟩
  refine j_cut (w2 := wZ cI cJ cZ qo qx qm R C ov dr sz2 sa2 cu fi2 st2 lo2 hi2 wa2 sw2 mth mkn mme mns mhe mnx (rv dr) mnl mlp cu mso mwi mus mho mnh mke mta mde mse) [21, 22, 23, 24, 25, 26, 27, 28, 29, 30, 31, 32, 33, 34, 0, 1, 2, 3, 4, 5, 6, 7, 8, 9, 10, 11, 12, 13, 14, 15, 16, 17, 18, 19, 20] rfl rfl ?_
  show V k l D (tys3 cI cJ cZ) room_1 cL_law 7 RL (wZ cI cJ cZ qo qx qm R C ov dr sz2 sa2 cu fi2 st2 lo2 hi2 wa2 sw2 mth mkn mme mns mhe mnx (rv dr) mnl mlp cu mso mwi mus mho mnh mke mta mde mse) (cs + 1) (ss + 6) 497 [(0, .ref (b)), (1, .ref (qx 0)), (2, .ref (qm 0)), (3, .ref (qo)), (4, .int (nI (i)))] [.int (nI (1))]
  refine j_istore [(5, .int (nI (1))), (0, .ref (b)), (1, .ref (qx 0)), (2, .ref (qm 0)), (3, .ref (qo)), (4, .int (nI (i)))] dL_law_497 (by decide) rfl ?_
  refine j_aload_n dL_law_499 rfl 3 rfl ?_
  refine j_aload_n dL_law_500 rfl 1 rfl ?_
  refine j_iload dL_law_501 5 rfl ?_
  refine j_iconst (v := nI (1)) dL_law_503 (by decide) ?_
  refine jn_iadd (v := i + 1) dL_law_504 rfl ?_
  refine j_sld hX (by omega) (by omega) dL_law_505 ?_
  refine j_callV (mc := 0) (ms := 0) (wc := wM cI cJ cZ qm R C mth mkn mme mns mhe mnx (rv dr) mnl mlp cu mso mwi mus mho mnh mke mta mde mse) (wr := wO cI cJ cZ qo qx R C ov dr sz2 sa2 cu fi2 st2 lo2 hi2 wa2 sw2) (tys3 := tys3 cI cJ cZ) (av := [.int ((xs (i + 1)))]) (rest := []) (cm_lengthX l hfl D cI cJ cZ qm R C hG mth mkn mme mns mhe mnx (rv dr) mnl mlp cu mso mwi mus mho mnh mke mta mde mse LL hLO hMo hIm (xs (i + 1)) h1) 14 rfl rfl mw3_190 mw3_191 mw3_192 mw1_4 mw3_193 ⟨rfl, hd_X3_length⟩ rfl ⟨rfl, rfl⟩ ⟨Nat.le_of_ble_eq_true rfl, Nat.le_of_ble_eq_true rfl⟩ (⟨show cs + 1 + 0 ≤ 600128 by omega, show ss + 6 + 0 ≤ 7301064 by omega⟩) (Nat.le_of_ble_eq_true rfl) [14, 15, 16, 17, 18, 19, 20, 21, 22, 23, 24, 25, 26, 27, 28, 29, 30, 31, 32, 33, 34] [0, 1, 2, 3, 4, 5, 6, 7, 8, 9, 10, 11, 12, 13] rfl rfl rfl rfl (by decide) (fun _ h _ => h) rfl dL_law_506 ?_
  rintro _ _ ⟨rfl, hMW⟩
  obtain ⟨kn3, me3, ns3, he3, nx3, nl3, lp3, so3, wi3, us3, ho3, nh3, ke3, ta3, de3, se3, hI3, rfl⟩ := hMW
  show V k l D (tys3 cI cJ cZ) room_1 cL_law 7 RL (wZ cI cJ cZ qo qx qm R C ov dr sz2 sa2 cu fi2 st2 lo2 hi2 wa2 sw2 1 kn3 me3 ns3 he3 nx3 (rv dr) nl3 lp3 cu so3 wi3 us3 ho3 nh3 ke3 ta3 de3 se3) (cs + 1) (ss + 6) 509 [(5, .int (nI (1))), (0, .ref (b)), (1, .ref (qx 0)), (2, .ref (qm 0)), (3, .ref (qo)), (4, .int (nI (i)))] [.int (nI (0))]
  refine j_istore [(6, .int (nI (0))), (5, .int (nI (1))), (0, .ref (b)), (1, .ref (qx 0)), (2, .ref (qm 0)), (3, .ref (qo)), (4, .int (nI (i)))] dL_law_509 (by decide) rfl ?_
  refine j_aload_n dL_law_511 rfl 4 rfl ?_
  refine j_callV (mc := 0) (ms := 0) (wc := wM cI cJ cZ qm R C 1 kn3 me3 ns3 he3 nx3 (rv dr) nl3 lp3 cu so3 wi3 us3 ho3 nh3 ke3 ta3 de3 se3) (wr := wO cI cJ cZ qo qx R C ov dr sz2 sa2 cu fi2 st2 lo2 hi2 wa2 sw2) (tys3 := tys3 cI cJ cZ) (av := []) (rest := []) (cm_thrown l hfl D cI cJ cZ qm R C hG 1 kn3 me3 ns3 he3 nx3 (rv dr) nl3 lp3 cu so3 wi3 us3 ho3 nh3 ke3 ta3 de3 se3) 14 rfl rfl mw3_105 mw3_106 mw3_107 mw1_4 mw3_108 ⟨rfl, hd_X3_thrown⟩ rfl ⟨rfl, rfl⟩ ⟨Nat.le_of_ble_eq_true rfl, Nat.le_of_ble_eq_true rfl⟩ (⟨show cs + 1 + 0 ≤ 600128 by omega, show ss + 6 + 0 ≤ 7301064 by omega⟩) (Nat.le_of_ble_eq_true rfl) [14, 15, 16, 17, 18, 19, 20, 21, 22, 23, 24, 25, 26, 27, 28, 29, 30, 31, 32, 33, 34] [0, 1, 2, 3, 4, 5, 6, 7, 8, 9, 10, 11, 12, 13] rfl rfl rfl rfl (by decide) (fun _ h _ => h) rfl dL_law_512 ?_
  rintro _ _ ⟨rfl, rfl⟩
  show V k l D (tys3 cI cJ cZ) room_1 cL_law 7 RL (wZ cI cJ cZ qo qx qm R C ov dr sz2 sa2 cu fi2 st2 lo2 hi2 wa2 sw2 1 kn3 me3 ns3 he3 nx3 (rv dr) nl3 lp3 cu so3 wi3 us3 ho3 nh3 ke3 ta3 de3 se3) (cs + 1) (ss + 6) 515 [(6, .int (nI (0))), (5, .int (nI (1))), (0, .ref (b)), (1, .ref (qx 0)), (2, .ref (qm 0)), (3, .ref (qo)), (4, .int (nI (i)))] [.int (nI (1))]
  refine j_iload dL_law_515 1 rfl ?_
  refine jn_icmp_eq (tgt := 522) (a := 1) (b := 1) (by omega) (by omega) dL_law_517 (by decide) (fun c517 => ?_) (fun c517 => ?_)
  · refine j_iload dL_law_522 1 rfl ?_
    refine jn_if_ne (tgt := 539) (a := 1) (by omega) dL_law_524 (by decide) (fun c524 => ?_) (fun c524 => ?_)
    · refine j_goto (tgt := 905) dL_law_539 (by decide) ?_
      refine j_sub [2, 3, 4, 5, 6] [(0, .ref (b)), (1, .ref (qx 0)), (2, .ref (qm 0)), (3, .ref (qo)), (4, .int (nI (i)))] rfl ?_
      exact hk ov 1 dr cu _ _ hd hcu ⟨sz2, sa2, fi2, st2, lo2, hi2, wa2, sw2, hI2, rfl⟩ (MW_of hI3)
    · exact absurd c524 (by first | decide | omega)
  · exact absurd c517 (by first | decide | omega)

set_option maxHeartbeats 8000000 in
set_option maxRecDepth 100000 in
theorem l_copy {k : VK} (l : Launch) (hfl : l.flags = flags0) (D : va_G) (cI cJ cZ : ClassId) (qo : Nat) (qx qm : Nat → Nat) (R C : Nat) (hG : GS R C) (LL : List Nat) (hMt : Mth R C LL) (b L : Nat) (xs : Nat → Int32) (hL : L ≤ 258) (hX : SX k b L xs) (hZ : ZX k.2.2.1.1 k.1.2.2.1 k.2.2.1.2) (i cs ss : Nat) (hi : i + 4 ≤ L) (hcs : cs ≤ 10000) (hss : ss ≤ 100000) (ov : Nat → Int64) (dr sz : Nat) (sa : Bool) (cu fi st : Nat → Nat) (lo hi_ : Nat → Option Nat) (wa sw : Nat → Nat) (mth : Nat) (mkn mme : Bool) (mns mhe mnx mnl : Nat) (mlp mso mwi mus mho mnh : Nat → Nat) (mke : Nat → Int64) (mta mde : Nat → Nat) (mse : Nat → Bool) (hd : dr < 2 ^ nE R C) (hcu : CU R C cu) (hIx : XI0 R C cu sa sz fi st lo hi_ wa dr) (hIm : MI R C LL cu mkn mme mns mnl mlp mso mwi mus mde mse (rv dr)) (j y : Nat) (hy : (sol R C cu LL)[j]? = some y) (h1 : xs (i + 1) = nI j) (hk : ∀ (ov2 : Nat → Int64) (th2 d2 : Nat) (cu2 : Nat → Nat) (u1 u2 : va_W), d2 < 2 ^ nE R C → CU R C cu2 → OW cI cJ cZ qo qx R C ov2 d2 cu2 u1 → MW cI cJ cZ qm R C LL th2 (rv d2) cu2 u2 → V k l D (tys3 cI cJ cZ) room_1 cL_law 7 RL (u1 ++ u2) (cs + 1) (ss + 6) 905 [(0, .ref (b)), (1, .ref (qx 0)), (2, .ref (qm 0)), (3, .ref (qo)), (4, .int (nI (i)))] []) : V k l D (tys3 cI cJ cZ) room_1 cL_law 7 RL (wZ cI cJ cZ qo qx qm R C ov dr sz sa cu fi st lo hi_ wa sw mth mkn mme mns mhe mnx (rv dr) mnl mlp cu mso mwi mus mho mnh mke mta mde mse) (cs) (ss) 661 [(0, .ref (b)), (1, .ref (qx 0)), (2, .ref (qm 0)), (3, .ref (qo)), (4, .int (nI (i)))] [] := by
  obtain ⟨hLO, hND, hA, hB, hB2, hCc⟩ := hMt
  obtain ⟨hx, hMo, hA1, hA2, hA6, hA8⟩ := hCc cu hcu
  have hE := hG.E
  obtain ⟨hr31, hpop, hil⟩ := hA dr hd
  obtain ⟨s1, s2, s3⟩ := hA6 j y hy
  refine j_aload_n dL_law_661 rfl 1 rfl ?_
  refine j_aload_n dL_law_662 rfl 0 rfl ?_
  refine j_iload dL_law_663 4 rfl ?_
  refine j_iconst (v := nI (1)) dL_law_665 (by decide) ?_
  refine jn_iadd (v := i + 1) dL_law_666 rfl ?_
  refine j_sld hX (by omega) (by omega) dL_law_667 ?_
  refine j_topi (y := nI (j)) (h1) ?_
  refine j_callSW (mc := 1) (ms := 6) (wc := wX cI cZ qx R C dr sz sa cu fi st lo hi_ wa sw) (wr := (qo, .inl (cJ, 1, .inr (.inl ov))) :: wM cI cJ cZ qm R C mth mkn mme mns mhe mnx (rv dr) mnl mlp cu mso mwi mus mho mnh mke mta mde mse) (av := [.ref (qx 0), .int (nI (j))]) (rest := []) (w_copy l hfl D cI cJ cZ qx R C hG dr sz sa cu fi st lo hi_ wa sw hx hIx (nI j) s1) mw2_131 mw2_132 mw1_0 mw2_133 hd_L_copy rfl ⟨rfl, rfl⟩ ⟨Nat.le_of_ble_eq_true rfl, Nat.le_of_ble_eq_true rfl⟩ (⟨show cs + 1 ≤ 600128 by omega, show ss + 6 ≤ 7301064 by omega⟩) (Nat.le_of_ble_eq_true rfl) [1, 2, 3, 4, 5, 6, 7, 8, 9, 10, 11, 12, 13] [0, 14, 15, 16, 17, 18, 19, 20, 21, 22, 23, 24, 25, 26, 27, 28, 29, 30, 31, 32, 33, 34] rfl rfl rfl rfl (by decide) hZ rfl dL_law_668 ?_
  rintro _ _ ⟨rfl, sz2, sa2, fi2, st2, lo2, hi2, wa2, sw2, hI2, rfl⟩
  refine j_cut (w2 := wZ cI cJ cZ qo qx qm R C ov (solI R C cu (nI j)) sz2 sa2 cu fi2 st2 lo2 hi2 wa2 sw2 mth mkn mme mns mhe mnx (rv dr) mnl mlp cu mso mwi mus mho mnh mke mta mde mse) [0, 22, 23, 24, 25, 26, 27, 28, 29, 30, 31, 32, 33, 34, 1, 2, 3, 4, 5, 6, 7, 8, 9, 10, 11, 12, 13, 14, 15, 16, 17, 18, 19, 20, 21] rfl rfl ?_
  show V k l D (tys3 cI cJ cZ) room_1 cL_law 7 RL (wZ cI cJ cZ qo qx qm R C ov (solI R C cu (nI j)) sz2 sa2 cu fi2 st2 lo2 hi2 wa2 sw2 mth mkn mme mns mhe mnx (rv dr) mnl mlp cu mso mwi mus mho mnh mke mta mde mse) (cs + 1) (ss + 6) 671 [(0, .ref (b)), (1, .ref (qx 0)), (2, .ref (qm 0)), (3, .ref (qo)), (4, .int (nI (i)))] [.int (nI (0))]
  refine j_istore [(5, .int (nI (0))), (0, .ref (b)), (1, .ref (qx 0)), (2, .ref (qm 0)), (3, .ref (qo)), (4, .int (nI (i)))] dL_law_671 (by decide) rfl ?_
  refine j_aload_n dL_law_673 rfl 3 rfl ?_
  refine j_aload_n dL_law_674 rfl 1 rfl ?_
  refine j_iload dL_law_675 5 rfl ?_
  refine j_iconst (v := nI (1)) dL_law_677 (by decide) ?_
  refine jn_iadd (v := i + 1) dL_law_678 rfl ?_
  refine j_sld hX (by omega) (by omega) dL_law_679 ?_
  refine j_topi (y := nI (j)) (h1) ?_
  refine j_callV (mc := 0) (ms := 0) (wc := wM cI cJ cZ qm R C mth mkn mme mns mhe mnx (rv dr) mnl mlp cu mso mwi mus mho mnh mke mta mde mse) (wr := wO cI cJ cZ qo qx R C ov (solI R C cu (nI j)) sz2 sa2 cu fi2 st2 lo2 hi2 wa2 sw2) (tys3 := tys3 cI cJ cZ) (av := [.int (nI (j))]) (rest := []) (cm_copy l hfl D cI cJ cZ qm R C hG mth mkn mme mns mhe mnx (rv dr) mnl mlp cu mso mwi mus mho mnh mke mta mde mse LL hLO hMo hIm j y hy) 14 rfl rfl mw3_210 mw3_211 mw3_212 mw1_4 mw3_213 ⟨rfl, hd_X3_copy⟩ rfl ⟨rfl, rfl⟩ ⟨Nat.le_of_ble_eq_true rfl, Nat.le_of_ble_eq_true rfl⟩ (⟨show cs + 1 + 0 ≤ 600128 by omega, show ss + 6 + 0 ≤ 7301064 by omega⟩) (Nat.le_of_ble_eq_true rfl) [14, 15, 16, 17, 18, 19, 20, 21, 22, 23, 24, 25, 26, 27, 28, 29, 30, 31, 32, 33, 34] [0, 1, 2, 3, 4, 5, 6, 7, 8, 9, 10, 11, 12, 13] rfl rfl rfl rfl (by decide) (fun _ h _ => h) rfl dL_law_680 ?_
  rw [← s3]; rintro _ _ ⟨rfl, hMW⟩
  obtain ⟨kn3, me3, ns3, he3, nx3, nl3, lp3, so3, wi3, us3, ho3, nh3, ke3, ta3, de3, se3, hI3, rfl⟩ := hMW
  show V k l D (tys3 cI cJ cZ) room_1 cL_law 7 RL (wZ cI cJ cZ qo qx qm R C ov (solI R C cu (nI j)) sz2 sa2 cu fi2 st2 lo2 hi2 wa2 sw2 0 kn3 me3 ns3 he3 nx3 (rv (solI R C cu (nI j))) nl3 lp3 cu so3 wi3 us3 ho3 nh3 ke3 ta3 de3 se3) (cs + 1) (ss + 6) 683 [(5, .int (nI (0))), (0, .ref (b)), (1, .ref (qx 0)), (2, .ref (qm 0)), (3, .ref (qo)), (4, .int (nI (i)))] []
  refine j_aload_n dL_law_683 rfl 3 rfl ?_
  refine j_callV (mc := 0) (ms := 0) (wc := wM cI cJ cZ qm R C 0 kn3 me3 ns3 he3 nx3 (rv (solI R C cu (nI j))) nl3 lp3 cu so3 wi3 us3 ho3 nh3 ke3 ta3 de3 se3) (wr := wO cI cJ cZ qo qx R C ov (solI R C cu (nI j)) sz2 sa2 cu fi2 st2 lo2 hi2 wa2 sw2) (tys3 := tys3 cI cJ cZ) (av := []) (rest := []) (cm_thrown l hfl D cI cJ cZ qm R C hG 0 kn3 me3 ns3 he3 nx3 (rv (solI R C cu (nI j))) nl3 lp3 cu so3 wi3 us3 ho3 nh3 ke3 ta3 de3 se3) 14 rfl rfl mw3_105 mw3_106 mw3_107 mw1_4 mw3_108 ⟨rfl, hd_X3_thrown⟩ rfl ⟨rfl, rfl⟩ ⟨Nat.le_of_ble_eq_true rfl, Nat.le_of_ble_eq_true rfl⟩ (⟨show cs + 1 + 0 ≤ 600128 by omega, show ss + 6 + 0 ≤ 7301064 by omega⟩) (Nat.le_of_ble_eq_true rfl) [14, 15, 16, 17, 18, 19, 20, 21, 22, 23, 24, 25, 26, 27, 28, 29, 30, 31, 32, 33, 34] [0, 1, 2, 3, 4, 5, 6, 7, 8, 9, 10, 11, 12, 13] rfl rfl rfl rfl (by decide) (fun _ h _ => h) rfl dL_law_684 ?_
  rintro _ _ ⟨rfl, rfl⟩
  show V k l D (tys3 cI cJ cZ) room_1 cL_law 7 RL (wZ cI cJ cZ qo qx qm R C ov (solI R C cu (nI j)) sz2 sa2 cu fi2 st2 lo2 hi2 wa2 sw2 0 kn3 me3 ns3 he3 nx3 (rv (solI R C cu (nI j))) nl3 lp3 cu so3 wi3 us3 ho3 nh3 ke3 ta3 de3 se3) (cs + 1) (ss + 6) 687 [(5, .int (nI (0))), (0, .ref (b)), (1, .ref (qx 0)), (2, .ref (qm 0)), (3, .ref (qo)), (4, .int (nI (i)))] [.int (nI (0))]
  refine j_iload dL_law_687 0 rfl ?_
  refine jn_icmp_eq (tgt := 694) (a := 0) (b := 0) (by omega) (by omega) dL_law_689 (by decide) (fun c689 => ?_) (fun c689 => ?_)
  · refine j_goto (tgt := 905) dL_law_694 (by decide) ?_
    refine j_sub [1, 2, 3, 4, 5] [(0, .ref (b)), (1, .ref (qx 0)), (2, .ref (qm 0)), (3, .ref (qo)), (4, .int (nI (i)))] rfl ?_
    exact hk ov 0 (solI R C cu (nI j)) cu _ _ s2 hcu ⟨sz2, sa2, fi2, st2, lo2, hi2, wa2, sw2, hI2, rfl⟩ (MW_of hI3)
  · exact absurd c689 (by first | decide | omega)

set_option maxHeartbeats 8000000 in
set_option maxRecDepth 100000 in
theorem l_copyX {k : VK} (l : Launch) (hfl : l.flags = flags0) (D : va_G) (cI cJ cZ : ClassId) (qo : Nat) (qx qm : Nat → Nat) (R C : Nat) (hG : GS R C) (LL : List Nat) (hMt : Mth R C LL) (b L : Nat) (xs : Nat → Int32) (hL : L ≤ 258) (hX : SX k b L xs) (hZ : ZX k.2.2.1.1 k.1.2.2.1 k.2.2.1.2) (i cs ss : Nat) (hi : i + 4 ≤ L) (hcs : cs ≤ 10000) (hss : ss ≤ 100000) (ov : Nat → Int64) (dr sz : Nat) (sa : Bool) (cu fi st : Nat → Nat) (lo hi_ : Nat → Option Nat) (wa sw : Nat → Nat) (mth : Nat) (mkn mme : Bool) (mns mhe mnx mnl : Nat) (mlp mso mwi mus mho mnh : Nat → Nat) (mke : Nat → Int64) (mta mde : Nat → Nat) (mse : Nat → Bool) (hd : dr < 2 ^ nE R C) (hcu : CU R C cu) (hIx : XI0 R C cu sa sz fi st lo hi_ wa dr) (hIm : MI R C LL cu mkn mme mns mnl mlp mso mwi mus mde mse (rv dr)) (h1 : inB (sol R C cu LL).length (xs (i + 1)) = false) (hk : ∀ (ov2 : Nat → Int64) (th2 d2 : Nat) (cu2 : Nat → Nat) (u1 u2 : va_W), d2 < 2 ^ nE R C → CU R C cu2 → OW cI cJ cZ qo qx R C ov2 d2 cu2 u1 → MW cI cJ cZ qm R C LL th2 (rv d2) cu2 u2 → V k l D (tys3 cI cJ cZ) room_1 cL_law 7 RL (u1 ++ u2) (cs + 1) (ss + 6) 905 [(0, .ref (b)), (1, .ref (qx 0)), (2, .ref (qm 0)), (3, .ref (qo)), (4, .int (nI (i)))] []) : V k l D (tys3 cI cJ cZ) room_1 cL_law 7 RL (wZ cI cJ cZ qo qx qm R C ov dr sz sa cu fi st lo hi_ wa sw mth mkn mme mns mhe mnx (rv dr) mnl mlp cu mso mwi mus mho mnh mke mta mde mse) (cs) (ss) 661 [(0, .ref (b)), (1, .ref (qx 0)), (2, .ref (qm 0)), (3, .ref (qo)), (4, .int (nI (i)))] [] := by
  obtain ⟨hLO, hND, hA, hB, hB2, hCc⟩ := hMt
  obtain ⟨hx, hMo, hA1, hA2, hA6, hA8⟩ := hCc cu hcu
  have hE := hG.E
  obtain ⟨hr31, hpop, hil⟩ := hA dr hd
  have hsl := sol_len (R := R) (C := C) (cu := cu) (L := LL)
  have hl13 := hLO.2.1
  have hs0 := solI_x (show (sol R C cu LL).length < 2 ^ 31 by omega) hA1 h1
  refine j_aload_n dL_law_661 rfl 1 rfl ?_
  refine j_aload_n dL_law_662 rfl 0 rfl ?_
  refine j_iload dL_law_663 4 rfl ?_
  refine j_iconst (v := nI (1)) dL_law_665 (by decide) ?_
  refine jn_iadd (v := i + 1) dL_law_666 rfl ?_
  refine j_sld hX (by omega) (by omega) dL_law_667 ?_
  refine j_callSW (mc := 1) (ms := 6) (wc := wX cI cZ qx R C dr sz sa cu fi st lo hi_ wa sw) (wr := (qo, .inl (cJ, 1, .inr (.inl ov))) :: wM cI cJ cZ qm R C mth mkn mme mns mhe mnx (rv dr) mnl mlp cu mso mwi mus mho mnh mke mta mde mse) (av := [.ref (qx 0), .int ((xs (i + 1)))]) (rest := []) (w_copyX l hfl D cI cJ cZ qx R C hG dr sz sa cu fi st lo hi_ wa sw hx hIx (xs (i + 1)) hs0) mw2_131 mw2_132 mw1_0 mw2_133 hd_L_copy rfl ⟨rfl, rfl⟩ ⟨Nat.le_of_ble_eq_true rfl, Nat.le_of_ble_eq_true rfl⟩ (⟨show cs + 1 ≤ 600128 by omega, show ss + 6 ≤ 7301064 by omega⟩) (Nat.le_of_ble_eq_true rfl) [1, 2, 3, 4, 5, 6, 7, 8, 9, 10, 11, 12, 13] [0, 14, 15, 16, 17, 18, 19, 20, 21, 22, 23, 24, 25, 26, 27, 28, 29, 30, 31, 32, 33, 34] rfl rfl rfl rfl (by decide) hZ rfl dL_law_668 ?_
  rintro _ _ ⟨rfl, sz2, sa2, fi2, st2, lo2, hi2, wa2, sw2, hI2, rfl⟩
  refine j_cut (w2 := wZ cI cJ cZ qo qx qm R C ov dr sz2 sa2 cu fi2 st2 lo2 hi2 wa2 sw2 mth mkn mme mns mhe mnx (rv dr) mnl mlp cu mso mwi mus mho mnh mke mta mde mse) [0, 22, 23, 24, 25, 26, 27, 28, 29, 30, 31, 32, 33, 34, 1, 2, 3, 4, 5, 6, 7, 8, 9, 10, 11, 12, 13, 14, 15, 16, 17, 18, 19, 20, 21] rfl rfl ?_
  show V k l D (tys3 cI cJ cZ) room_1 cL_law 7 RL (wZ cI cJ cZ qo qx qm R C ov dr sz2 sa2 cu fi2 st2 lo2 hi2 wa2 sw2 mth mkn mme mns mhe mnx (rv dr) mnl mlp cu mso mwi mus mho mnh mke mta mde mse) (cs + 1) (ss + 6) 671 [(0, .ref (b)), (1, .ref (qx 0)), (2, .ref (qm 0)), (3, .ref (qo)), (4, .int (nI (i)))] [.int (nI (1))]
  refine j_istore [(5, .int (nI (1))), (0, .ref (b)), (1, .ref (qx 0)), (2, .ref (qm 0)), (3, .ref (qo)), (4, .int (nI (i)))] dL_law_671 (by decide) rfl ?_
  refine j_aload_n dL_law_673 rfl 3 rfl ?_
  refine j_aload_n dL_law_674 rfl 1 rfl ?_
  refine j_iload dL_law_675 5 rfl ?_
  refine j_iconst (v := nI (1)) dL_law_677 (by decide) ?_
  refine jn_iadd (v := i + 1) dL_law_678 rfl ?_
  refine j_sld hX (by omega) (by omega) dL_law_679 ?_
  refine j_callV (mc := 0) (ms := 0) (wc := wM cI cJ cZ qm R C mth mkn mme mns mhe mnx (rv dr) mnl mlp cu mso mwi mus mho mnh mke mta mde mse) (wr := wO cI cJ cZ qo qx R C ov dr sz2 sa2 cu fi2 st2 lo2 hi2 wa2 sw2) (tys3 := tys3 cI cJ cZ) (av := [.int ((xs (i + 1)))]) (rest := []) (cm_copyX l hfl D cI cJ cZ qm R C hG mth mkn mme mns mhe mnx (rv dr) mnl mlp cu mso mwi mus mho mnh mke mta mde mse LL hLO hMo hIm (xs (i + 1)) h1) 14 rfl rfl mw3_210 mw3_211 mw3_212 mw1_4 mw3_213 ⟨rfl, hd_X3_copy⟩ rfl ⟨rfl, rfl⟩ ⟨Nat.le_of_ble_eq_true rfl, Nat.le_of_ble_eq_true rfl⟩ (⟨show cs + 1 + 0 ≤ 600128 by omega, show ss + 6 + 0 ≤ 7301064 by omega⟩) (Nat.le_of_ble_eq_true rfl) [14, 15, 16, 17, 18, 19, 20, 21, 22, 23, 24, 25, 26, 27, 28, 29, 30, 31, 32, 33, 34] [0, 1, 2, 3, 4, 5, 6, 7, 8, 9, 10, 11, 12, 13] rfl rfl rfl rfl (by decide) (fun _ h _ => h) rfl dL_law_680 ?_
  rintro _ _ ⟨rfl, hMW⟩
  obtain ⟨kn3, me3, ns3, he3, nx3, nl3, lp3, so3, wi3, us3, ho3, nh3, ke3, ta3, de3, se3, hI3, rfl⟩ := hMW
  show V k l D (tys3 cI cJ cZ) room_1 cL_law 7 RL (wZ cI cJ cZ qo qx qm R C ov dr sz2 sa2 cu fi2 st2 lo2 hi2 wa2 sw2 1 kn3 me3 ns3 he3 nx3 (rv dr) nl3 lp3 cu so3 wi3 us3 ho3 nh3 ke3 ta3 de3 se3) (cs + 1) (ss + 6) 683 [(5, .int (nI (1))), (0, .ref (b)), (1, .ref (qx 0)), (2, .ref (qm 0)), (3, .ref (qo)), (4, .int (nI (i)))] []
  refine j_aload_n dL_law_683 rfl 3 rfl ?_
  refine j_callV (mc := 0) (ms := 0) (wc := wM cI cJ cZ qm R C 1 kn3 me3 ns3 he3 nx3 (rv dr) nl3 lp3 cu so3 wi3 us3 ho3 nh3 ke3 ta3 de3 se3) (wr := wO cI cJ cZ qo qx R C ov dr sz2 sa2 cu fi2 st2 lo2 hi2 wa2 sw2) (tys3 := tys3 cI cJ cZ) (av := []) (rest := []) (cm_thrown l hfl D cI cJ cZ qm R C hG 1 kn3 me3 ns3 he3 nx3 (rv dr) nl3 lp3 cu so3 wi3 us3 ho3 nh3 ke3 ta3 de3 se3) 14 rfl rfl mw3_105 mw3_106 mw3_107 mw1_4 mw3_108 ⟨rfl, hd_X3_thrown⟩ rfl ⟨rfl, rfl⟩ ⟨Nat.le_of_ble_eq_true rfl, Nat.le_of_ble_eq_true rfl⟩ (⟨show cs + 1 + 0 ≤ 600128 by omega, show ss + 6 + 0 ≤ 7301064 by omega⟩) (Nat.le_of_ble_eq_true rfl) [14, 15, 16, 17, 18, 19, 20, 21, 22, 23, 24, 25, 26, 27, 28, 29, 30, 31, 32, 33, 34] [0, 1, 2, 3, 4, 5, 6, 7, 8, 9, 10, 11, 12, 13] rfl rfl rfl rfl (by decide) (fun _ h _ => h) rfl dL_law_684 ?_
  rintro _ _ ⟨rfl, rfl⟩
  show V k l D (tys3 cI cJ cZ) room_1 cL_law 7 RL (wZ cI cJ cZ qo qx qm R C ov dr sz2 sa2 cu fi2 st2 lo2 hi2 wa2 sw2 1 kn3 me3 ns3 he3 nx3 (rv dr) nl3 lp3 cu so3 wi3 us3 ho3 nh3 ke3 ta3 de3 se3) (cs + 1) (ss + 6) 687 [(5, .int (nI (1))), (0, .ref (b)), (1, .ref (qx 0)), (2, .ref (qm 0)), (3, .ref (qo)), (4, .int (nI (i)))] [.int (nI (1))]
  refine j_iload dL_law_687 0 rfl ?_
  refine jn_icmp_eq (tgt := 694) (a := 1) (b := 1) (by omega) (by omega) dL_law_689 (by decide) (fun c689 => ?_) (fun c689 => ?_)
  · refine j_goto (tgt := 905) dL_law_694 (by decide) ?_
    refine j_sub [1, 2, 3, 4, 5] [(0, .ref (b)), (1, .ref (qx 0)), (2, .ref (qm 0)), (3, .ref (qo)), (4, .int (nI (i)))] rfl ?_
    exact hk ov 1 dr cu _ _ hd hcu ⟨sz2, sa2, fi2, st2, lo2, hi2, wa2, sw2, hI2, rfl⟩ (MW_of hI3)
  · exact absurd c689 (by first | decide | omega)

set_option maxHeartbeats 8000000 in
set_option maxRecDepth 100000 in
theorem l_rank {k : VK} (l : Launch) (hfl : l.flags = flags0) (D : va_G) (cI cJ cZ : ClassId) (qo : Nat) (qx qm : Nat → Nat) (R C : Nat) (hG : GS R C) (LL : List Nat) (hMt : Mth R C LL) (b L : Nat) (xs : Nat → Int32) (hL : L ≤ 258) (hX : SX k b L xs) (hZ : ZX k.2.2.1.1 k.1.2.2.1 k.2.2.1.2) (i cs ss : Nat) (hi : i + 4 ≤ L) (hcs : cs ≤ 10000) (hss : ss ≤ 100000) (ov : Nat → Int64) (dr sz : Nat) (sa : Bool) (cu fi st : Nat → Nat) (lo hi_ : Nat → Option Nat) (wa sw : Nat → Nat) (mth : Nat) (mkn mme : Bool) (mns mhe mnx mnl : Nat) (mlp mso mwi mus mho mnh : Nat → Nat) (mke : Nat → Int64) (mta mde : Nat → Nat) (mse : Nat → Bool) (hd : dr < 2 ^ nE R C) (hcu : CU R C cu) (hIx : XI0 R C cu sa sz fi st lo hi_ wa dr) (hIm : MI R C LL cu mkn mme mns mnl mlp mso mwi mus mde mse (rv dr)) (kq : Nat) (hk0 : rkA R C cu dr (nE R C) 0 1672 0 = some kq) (hk : ∀ (ov2 : Nat → Int64) (th2 d2 : Nat) (cu2 : Nat → Nat) (u1 u2 : va_W), d2 < 2 ^ nE R C → CU R C cu2 → OW cI cJ cZ qo qx R C ov2 d2 cu2 u1 → MW cI cJ cZ qm R C LL th2 (rv d2) cu2 u2 → V k l D (tys3 cI cJ cZ) room_1 cL_law 7 RL (u1 ++ u2) (cs + 1) (ss + 6) 905 [(0, .ref (b)), (1, .ref (qx 0)), (2, .ref (qm 0)), (3, .ref (qo)), (4, .int (nI (i)))] []) : V k l D (tys3 cI cJ cZ) room_1 cL_law 7 RL (wZ cI cJ cZ qo qx qm R C ov dr sz sa cu fi st lo hi_ wa sw mth mkn mme mns mhe mnx (rv dr) mnl mlp cu mso mwi mus mho mnh mke mta mde mse) (cs) (ss) 723 [(0, .ref (b)), (1, .ref (qx 0)), (2, .ref (qm 0)), (3, .ref (qo)), (4, .int (nI (i)))] [] := by
  obtain ⟨hLO, hND, hA, hB, hB2, hCc⟩ := hMt
  obtain ⟨hx, hMo, hA1, hA2, hA6, hA8⟩ := hCc cu hcu
  have hE := hG.E
  obtain ⟨hr31, hpop, hil⟩ := hA dr hd
  refine j_aload_n dL_law_723 rfl 1 rfl ?_
  refine j_aload_n dL_law_724 rfl 3 rfl ?_
  refine j_callSW (mc := 1) (ms := 6) (wc := wO cI cJ cZ qo qx R C ov dr sz sa cu fi st lo hi_ wa sw) (wr := wM cI cJ cZ qm R C mth mkn mme mns mhe mnx (rv dr) mnl mlp cu mso mwi mus mho mnh mke mta mde mse) (av := [.ref (qx 0), .ref (qo)]) (rest := []) (w_rank l hfl D cI cJ cZ qo qx R C hG dr sz sa cu fi st lo hi_ wa sw ov hx hIx kq hk0 (by have := (List.getElem?_eq_some_iff.mp ((hA8 dr hd).2.1 kq hk0)).1; have := sol_len (R := R) (C := C) (cu := cu) (L := LL); have := hLO.2.1; omega)) mw2_138 mw2_139 mw1_0 mw2_140 hd_L_rank rfl ⟨rfl, rfl⟩ ⟨Nat.le_of_ble_eq_true rfl, Nat.le_of_ble_eq_true rfl⟩ (⟨show cs + 1 ≤ 600128 by omega, show ss + 6 ≤ 7301064 by omega⟩) (Nat.le_of_ble_eq_true rfl) [0, 1, 2, 3, 4, 5, 6, 7, 8, 9, 10, 11, 12, 13] [14, 15, 16, 17, 18, 19, 20, 21, 22, 23, 24, 25, 26, 27, 28, 29, 30, 31, 32, 33, 34] rfl rfl rfl rfl (by decide) hZ rfl dL_law_725 ?_
  rintro _ _ ⟨rfl, sz2, sa2, fi2, st2, lo2, hi2, wa2, sw2, hI2, rfl⟩
  refine j_cut (w2 := wZ cI cJ cZ qo qx qm R C (va_up ov 0 ((nI (kq)).toInt64)) dr sz2 sa2 cu fi2 st2 lo2 hi2 wa2 sw2 mth mkn mme mns mhe mnx (rv dr) mnl mlp cu mso mwi mus mho mnh mke mta mde mse) [21, 22, 23, 24, 25, 26, 27, 28, 29, 30, 31, 32, 33, 34, 0, 1, 2, 3, 4, 5, 6, 7, 8, 9, 10, 11, 12, 13, 14, 15, 16, 17, 18, 19, 20] rfl rfl ?_
  show V k l D (tys3 cI cJ cZ) room_1 cL_law 7 RL (wZ cI cJ cZ qo qx qm R C (va_up ov 0 ((nI (kq)).toInt64)) dr sz2 sa2 cu fi2 st2 lo2 hi2 wa2 sw2 mth mkn mme mns mhe mnx (rv dr) mnl mlp cu mso mwi mus mho mnh mke mta mde mse) (cs + 1) (ss + 6) 728 [(0, .ref (b)), (1, .ref (qx 0)), (2, .ref (qm 0)), (3, .ref (qo)), (4, .int (nI (i)))] [.int (nI (0))]
  refine j_istore [(5, .int (nI (0))), (0, .ref (b)), (1, .ref (qx 0)), (2, .ref (qm 0)), (3, .ref (qo)), (4, .int (nI (i)))] dL_law_728 (by decide) rfl ?_
  refine j_aload_n dL_law_730 rfl 3 rfl ?_
  refine j_callV (mc := 0) (ms := 0) (wc := wM cI cJ cZ qm R C mth mkn mme mns mhe mnx (rv dr) mnl mlp cu mso mwi mus mho mnh mke mta mde mse) (wr := wO cI cJ cZ qo qx R C (va_up ov 0 ((nI (kq)).toInt64)) dr sz2 sa2 cu fi2 st2 lo2 hi2 wa2 sw2) (tys3 := tys3 cI cJ cZ) (av := []) (rest := []) (cm_rank l hfl D cI cJ cZ qm R C hG mth mkn mme mns mhe mnx (rv dr) mnl mlp cu mso mwi mus mho mnh mke mta mde mse LL hLO hMo hIm ) 14 rfl rfl mw3_222 mw3_223 mw3_224 mw1_4 mw3_225 ⟨rfl, hd_X3_rank⟩ rfl ⟨rfl, rfl⟩ ⟨Nat.le_of_ble_eq_true rfl, Nat.le_of_ble_eq_true rfl⟩ (⟨show cs + 1 + 0 ≤ 600128 by omega, show ss + 6 + 0 ≤ 7301064 by omega⟩) (Nat.le_of_ble_eq_true rfl) [14, 15, 16, 17, 18, 19, 20, 21, 22, 23, 24, 25, 26, 27, 28, 29, 30, 31, 32, 33, 34] [0, 1, 2, 3, 4, 5, 6, 7, 8, 9, 10, 11, 12, 13] rfl rfl rfl rfl (by decide) (fun _ h _ => h) rfl dL_law_731 ?_
  rintro _ _ hp0
  have hks := (hA8 dr hd).2.1 kq hk0
  rcases hp0 with ⟨i3, rfl, hi3, hMW⟩ | ⟨-, hno, -⟩
  rotate_left
  · exact absurd (List.mem_of_getElem? hks) hno
  obtain ⟨kn3, me3, ns3, he3, nx3, nl3, lp3, so3, wi3, us3, ho3, nh3, ke3, ta3, de3, se3, hI3, rfl⟩ := hMW
  show V k l D (tys3 cI cJ cZ) room_1 cL_law 7 RL (wZ cI cJ cZ qo qx qm R C (va_up ov 0 ((nI (kq)).toInt64)) dr sz2 sa2 cu fi2 st2 lo2 hi2 wa2 sw2 0 kn3 me3 ns3 he3 nx3 (rv dr) nl3 lp3 cu so3 wi3 us3 ho3 nh3 ke3 ta3 de3 se3) (cs + 1) (ss + 6) 734 [(5, .int (nI (0))), (0, .ref (b)), (1, .ref (qx 0)), (2, .ref (qm 0)), (3, .ref (qo)), (4, .int (nI (i)))] [.int (nI (i3))]
  refine j_istore [(6, .int (nI (i3))), (5, .int (nI (0))), (0, .ref (b)), (1, .ref (qx 0)), (2, .ref (qm 0)), (3, .ref (qo)), (4, .int (nI (i)))] dL_law_734 (by decide) rfl ?_
  refine j_aload_n dL_law_736 rfl 4 rfl ?_
  refine j_callV (mc := 0) (ms := 0) (wc := wM cI cJ cZ qm R C 0 kn3 me3 ns3 he3 nx3 (rv dr) nl3 lp3 cu so3 wi3 us3 ho3 nh3 ke3 ta3 de3 se3) (wr := wO cI cJ cZ qo qx R C (va_up ov 0 ((nI (kq)).toInt64)) dr sz2 sa2 cu fi2 st2 lo2 hi2 wa2 sw2) (tys3 := tys3 cI cJ cZ) (av := []) (rest := []) (cm_thrown l hfl D cI cJ cZ qm R C hG 0 kn3 me3 ns3 he3 nx3 (rv dr) nl3 lp3 cu so3 wi3 us3 ho3 nh3 ke3 ta3 de3 se3) 14 rfl rfl mw3_105 mw3_106 mw3_107 mw1_4 mw3_108 ⟨rfl, hd_X3_thrown⟩ rfl ⟨rfl, rfl⟩ ⟨Nat.le_of_ble_eq_true rfl, Nat.le_of_ble_eq_true rfl⟩ (⟨show cs + 1 + 0 ≤ 600128 by omega, show ss + 6 + 0 ≤ 7301064 by omega⟩) (Nat.le_of_ble_eq_true rfl) [14, 15, 16, 17, 18, 19, 20, 21, 22, 23, 24, 25, 26, 27, 28, 29, 30, 31, 32, 33, 34] [0, 1, 2, 3, 4, 5, 6, 7, 8, 9, 10, 11, 12, 13] rfl rfl rfl rfl (by decide) (fun _ h _ => h) rfl dL_law_737 ?_
  rintro _ _ ⟨rfl, rfl⟩
  show V k l D (tys3 cI cJ cZ) room_1 cL_law 7 RL (wZ cI cJ cZ qo qx qm R C (va_up ov 0 ((nI (kq)).toInt64)) dr sz2 sa2 cu fi2 st2 lo2 hi2 wa2 sw2 0 kn3 me3 ns3 he3 nx3 (rv dr) nl3 lp3 cu so3 wi3 us3 ho3 nh3 ke3 ta3 de3 se3) (cs + 1) (ss + 6) 740 [(6, .int (nI (i3))), (5, .int (nI (0))), (0, .ref (b)), (1, .ref (qx 0)), (2, .ref (qm 0)), (3, .ref (qo)), (4, .int (nI (i)))] [.int (nI (0))]
  refine j_iload dL_law_740 1 rfl ?_
  refine jn_icmp_eq (tgt := 747) (a := 0) (b := 0) (by omega) (by omega) dL_law_742 (by decide) (fun c742 => ?_) (fun c742 => ?_)
  · refine j_iload dL_law_747 1 rfl ?_
    refine jn_if_ne (tgt := 764) (a := 0) (by omega) dL_law_749 (by decide) (fun c749 => ?_) (fun c749 => ?_)
    · exact absurd c749 (by first | decide | omega)
    · refine j_aload_n dL_law_752 rfl 5 rfl ?_
      refine j_iconst (v := nI (0)) dL_law_753 (by decide) ?_
      refine jn_lald (v := (nI (kq)).toInt64) 0 1 rfl rfl (by omega) (by omega) (by exact va_up_self _ _ _) dL_law_754 ?_
      refine j_iload dL_law_755 0 rfl ?_
      refine j_i2l dL_law_757 rfl ?_
      refine j_lcmp dL_law_758 rfl ?_
      refine j_if_eq (tgt := 764) dL_law_759 (by decide) (fun c759 => ?_) (fun c759 => ?_)
      · refine j_goto (tgt := 905) dL_law_764 (by decide) ?_
        refine j_sub [2, 3, 4, 5, 6] [(0, .ref (b)), (1, .ref (qx 0)), (2, .ref (qm 0)), (3, .ref (qo)), (4, .int (nI (i)))] rfl ?_
        exact hk (va_up ov 0 ((nI (kq)).toInt64)) 0 dr cu _ _ hd hcu ⟨sz2, sa2, fi2, st2, lo2, hi2, wa2, sw2, hI2, rfl⟩ (MW_of hI3)
      · exact absurd ((lg_cmp_eq _ _).mpr (by rw [nodup_ix (hND.sublist List.filter_sublist) hks hi3])) c759
  · exact absurd c742 (by first | decide | omega)

set_option maxHeartbeats 8000000 in
set_option maxRecDepth 100000 in
theorem l_rankX {k : VK} (l : Launch) (hfl : l.flags = flags0) (D : va_G) (cI cJ cZ : ClassId) (qo : Nat) (qx qm : Nat → Nat) (R C : Nat) (hG : GS R C) (LL : List Nat) (hMt : Mth R C LL) (b L : Nat) (xs : Nat → Int32) (hL : L ≤ 258) (hX : SX k b L xs) (hZ : ZX k.2.2.1.1 k.1.2.2.1 k.2.2.1.2) (i cs ss : Nat) (hi : i + 4 ≤ L) (hcs : cs ≤ 10000) (hss : ss ≤ 100000) (ov : Nat → Int64) (dr sz : Nat) (sa : Bool) (cu fi st : Nat → Nat) (lo hi_ : Nat → Option Nat) (wa sw : Nat → Nat) (mth : Nat) (mkn mme : Bool) (mns mhe mnx mnl : Nat) (mlp mso mwi mus mho mnh : Nat → Nat) (mke : Nat → Int64) (mta mde : Nat → Nat) (mse : Nat → Bool) (hd : dr < 2 ^ nE R C) (hcu : CU R C cu) (hIx : XI0 R C cu sa sz fi st lo hi_ wa dr) (hIm : MI R C LL cu mkn mme mns mnl mlp mso mwi mus mde mse (rv dr)) (hk0 : rkA R C cu dr (nE R C) 0 1672 0 = none) (hk : ∀ (ov2 : Nat → Int64) (th2 d2 : Nat) (cu2 : Nat → Nat) (u1 u2 : va_W), d2 < 2 ^ nE R C → CU R C cu2 → OW cI cJ cZ qo qx R C ov2 d2 cu2 u1 → MW cI cJ cZ qm R C LL th2 (rv d2) cu2 u2 → V k l D (tys3 cI cJ cZ) room_1 cL_law 7 RL (u1 ++ u2) (cs + 1) (ss + 6) 905 [(0, .ref (b)), (1, .ref (qx 0)), (2, .ref (qm 0)), (3, .ref (qo)), (4, .int (nI (i)))] []) : V k l D (tys3 cI cJ cZ) room_1 cL_law 7 RL (wZ cI cJ cZ qo qx qm R C ov dr sz sa cu fi st lo hi_ wa sw mth mkn mme mns mhe mnx (rv dr) mnl mlp cu mso mwi mus mho mnh mke mta mde mse) (cs) (ss) 723 [(0, .ref (b)), (1, .ref (qx 0)), (2, .ref (qm 0)), (3, .ref (qo)), (4, .int (nI (i)))] [] := by
  obtain ⟨hLO, hND, hA, hB, hB2, hCc⟩ := hMt
  obtain ⟨hx, hMo, hA1, hA2, hA6, hA8⟩ := hCc cu hcu
  have hE := hG.E
  obtain ⟨hr31, hpop, hil⟩ := hA dr hd
  refine j_aload_n dL_law_723 rfl 1 rfl ?_
  refine j_aload_n dL_law_724 rfl 3 rfl ?_
  refine j_callSW (mc := 1) (ms := 6) (wc := wO cI cJ cZ qo qx R C ov dr sz sa cu fi st lo hi_ wa sw) (wr := wM cI cJ cZ qm R C mth mkn mme mns mhe mnx (rv dr) mnl mlp cu mso mwi mus mho mnh mke mta mde mse) (av := [.ref (qx 0), .ref (qo)]) (rest := []) (w_rankX l hfl D cI cJ cZ qo qx R C hG dr sz sa cu fi st lo hi_ wa sw ov hx hIx hk0) mw2_138 mw2_139 mw1_0 mw2_140 hd_L_rank rfl ⟨rfl, rfl⟩ ⟨Nat.le_of_ble_eq_true rfl, Nat.le_of_ble_eq_true rfl⟩ (⟨show cs + 1 ≤ 600128 by omega, show ss + 6 ≤ 7301064 by omega⟩) (Nat.le_of_ble_eq_true rfl) [0, 1, 2, 3, 4, 5, 6, 7, 8, 9, 10, 11, 12, 13] [14, 15, 16, 17, 18, 19, 20, 21, 22, 23, 24, 25, 26, 27, 28, 29, 30, 31, 32, 33, 34] rfl rfl rfl rfl (by decide) hZ rfl dL_law_725 ?_
  rintro _ _ ⟨rfl, sz2, sa2, fi2, st2, lo2, hi2, wa2, sw2, hI2, rfl⟩
  refine j_cut (w2 := wZ cI cJ cZ qo qx qm R C ov dr sz2 sa2 cu fi2 st2 lo2 hi2 wa2 sw2 mth mkn mme mns mhe mnx (rv dr) mnl mlp cu mso mwi mus mho mnh mke mta mde mse) [21, 22, 23, 24, 25, 26, 27, 28, 29, 30, 31, 32, 33, 34, 0, 1, 2, 3, 4, 5, 6, 7, 8, 9, 10, 11, 12, 13, 14, 15, 16, 17, 18, 19, 20] rfl rfl ?_
  show V k l D (tys3 cI cJ cZ) room_1 cL_law 7 RL (wZ cI cJ cZ qo qx qm R C ov dr sz2 sa2 cu fi2 st2 lo2 hi2 wa2 sw2 mth mkn mme mns mhe mnx (rv dr) mnl mlp cu mso mwi mus mho mnh mke mta mde mse) (cs + 1) (ss + 6) 728 [(0, .ref (b)), (1, .ref (qx 0)), (2, .ref (qm 0)), (3, .ref (qo)), (4, .int (nI (i)))] [.int (nI (1))]
  refine j_istore [(5, .int (nI (1))), (0, .ref (b)), (1, .ref (qx 0)), (2, .ref (qm 0)), (3, .ref (qo)), (4, .int (nI (i)))] dL_law_728 (by decide) rfl ?_
  refine j_aload_n dL_law_730 rfl 3 rfl ?_
  refine j_callV (mc := 0) (ms := 0) (wc := wM cI cJ cZ qm R C mth mkn mme mns mhe mnx (rv dr) mnl mlp cu mso mwi mus mho mnh mke mta mde mse) (wr := wO cI cJ cZ qo qx R C ov dr sz2 sa2 cu fi2 st2 lo2 hi2 wa2 sw2) (tys3 := tys3 cI cJ cZ) (av := []) (rest := []) (cm_rank l hfl D cI cJ cZ qm R C hG mth mkn mme mns mhe mnx (rv dr) mnl mlp cu mso mwi mus mho mnh mke mta mde mse LL hLO hMo hIm ) 14 rfl rfl mw3_222 mw3_223 mw3_224 mw1_4 mw3_225 ⟨rfl, hd_X3_rank⟩ rfl ⟨rfl, rfl⟩ ⟨Nat.le_of_ble_eq_true rfl, Nat.le_of_ble_eq_true rfl⟩ (⟨show cs + 1 + 0 ≤ 600128 by omega, show ss + 6 + 0 ≤ 7301064 by omega⟩) (Nat.le_of_ble_eq_true rfl) [14, 15, 16, 17, 18, 19, 20, 21, 22, 23, 24, 25, 26, 27, 28, 29, 30, 31, 32, 33, 34] [0, 1, 2, 3, 4, 5, 6, 7, 8, 9, 10, 11, 12, 13] rfl rfl rfl rfl (by decide) (fun _ h _ => h) rfl dL_law_731 ?_
  rintro _ _ hp0
  have hks := (hA8 dr hd).2.2.1 hk0
  rcases hp0 with ⟨i3, rfl, hi3, hMW⟩ | ⟨rfl, -, hMW⟩
  · exact absurd (List.mem_of_getElem? hi3) hks
  obtain ⟨kn3, me3, ns3, he3, nx3, nl3, lp3, so3, wi3, us3, ho3, nh3, ke3, ta3, de3, se3, hI3, rfl⟩ := hMW
  show V k l D (tys3 cI cJ cZ) room_1 cL_law 7 RL (wZ cI cJ cZ qo qx qm R C ov dr sz2 sa2 cu fi2 st2 lo2 hi2 wa2 sw2 1 kn3 me3 ns3 he3 nx3 (rv dr) nl3 lp3 cu so3 wi3 us3 ho3 nh3 ke3 ta3 de3 se3) (cs + 1) (ss + 6) 734 [(5, .int (nI (1))), (0, .ref (b)), (1, .ref (qx 0)), (2, .ref (qm 0)), (3, .ref (qo)), (4, .int (nI (i)))] [.int (nI (0))]
  refine j_istore [(6, .int (nI (0))), (5, .int (nI (1))), (0, .ref (b)), (1, .ref (qx 0)), (2, .ref (qm 0)), (3, .ref (qo)), (4, .int (nI (i)))] dL_law_734 (by decide) rfl ?_
  refine j_aload_n dL_law_736 rfl 4 rfl ?_
  refine j_callV (mc := 0) (ms := 0) (wc := wM cI cJ cZ qm R C 1 kn3 me3 ns3 he3 nx3 (rv dr) nl3 lp3 cu so3 wi3 us3 ho3 nh3 ke3 ta3 de3 se3) (wr := wO cI cJ cZ qo qx R C ov dr sz2 sa2 cu fi2 st2 lo2 hi2 wa2 sw2) (tys3 := tys3 cI cJ cZ) (av := []) (rest := []) (cm_thrown l hfl D cI cJ cZ qm R C hG 1 kn3 me3 ns3 he3 nx3 (rv dr) nl3 lp3 cu so3 wi3 us3 ho3 nh3 ke3 ta3 de3 se3) 14 rfl rfl mw3_105 mw3_106 mw3_107 mw1_4 mw3_108 ⟨rfl, hd_X3_thrown⟩ rfl ⟨rfl, rfl⟩ ⟨Nat.le_of_ble_eq_true rfl, Nat.le_of_ble_eq_true rfl⟩ (⟨show cs + 1 + 0 ≤ 600128 by omega, show ss + 6 + 0 ≤ 7301064 by omega⟩) (Nat.le_of_ble_eq_true rfl) [14, 15, 16, 17, 18, 19, 20, 21, 22, 23, 24, 25, 26, 27, 28, 29, 30, 31, 32, 33, 34] [0, 1, 2, 3, 4, 5, 6, 7, 8, 9, 10, 11, 12, 13] rfl rfl rfl rfl (by decide) (fun _ h _ => h) rfl dL_law_737 ?_
  rintro _ _ ⟨rfl, rfl⟩
  show V k l D (tys3 cI cJ cZ) room_1 cL_law 7 RL (wZ cI cJ cZ qo qx qm R C ov dr sz2 sa2 cu fi2 st2 lo2 hi2 wa2 sw2 1 kn3 me3 ns3 he3 nx3 (rv dr) nl3 lp3 cu so3 wi3 us3 ho3 nh3 ke3 ta3 de3 se3) (cs + 1) (ss + 6) 740 [(6, .int (nI (0))), (5, .int (nI (1))), (0, .ref (b)), (1, .ref (qx 0)), (2, .ref (qm 0)), (3, .ref (qo)), (4, .int (nI (i)))] [.int (nI (1))]
  refine j_iload dL_law_740 1 rfl ?_
  refine jn_icmp_eq (tgt := 747) (a := 1) (b := 1) (by omega) (by omega) dL_law_742 (by decide) (fun c742 => ?_) (fun c742 => ?_)
  · refine j_iload dL_law_747 1 rfl ?_
    refine jn_if_ne (tgt := 764) (a := 1) (by omega) dL_law_749 (by decide) (fun c749 => ?_) (fun c749 => ?_)
    · refine j_goto (tgt := 905) dL_law_764 (by decide) ?_
      refine j_sub [2, 3, 4, 5, 6] [(0, .ref (b)), (1, .ref (qx 0)), (2, .ref (qm 0)), (3, .ref (qo)), (4, .int (nI (i)))] rfl ?_
      exact hk ov 1 dr cu _ _ hd hcu ⟨sz2, sa2, fi2, st2, lo2, hi2, wa2, sw2, hI2, rfl⟩ (MW_of hI3)
    · exact absurd c749 (by first | decide | omega)
  · exact absurd c742 (by first | decide | omega)

set_option maxHeartbeats 8000000 in
set_option maxRecDepth 100000 in
theorem l_spare {k : VK} (l : Launch) (hfl : l.flags = flags0) (D : va_G) (cI cJ cZ : ClassId) (qo : Nat) (qx qm : Nat → Nat) (R C : Nat) (hG : GS R C) (LL : List Nat) (hMt : Mth R C LL) (b L : Nat) (xs : Nat → Int32) (hL : L ≤ 258) (hX : SX k b L xs) (hZ : ZX k.2.2.1.1 k.1.2.2.1 k.2.2.1.2) (i cs ss : Nat) (hi : i + 4 ≤ L) (hcs : cs ≤ 10000) (hss : ss ≤ 100000) (ov : Nat → Int64) (dr sz : Nat) (sa : Bool) (cu fi st : Nat → Nat) (lo hi_ : Nat → Option Nat) (wa sw : Nat → Nat) (mth : Nat) (mkn mme : Bool) (mns mhe mnx mnl : Nat) (mlp mso mwi mus mho mnh : Nat → Nat) (mke : Nat → Int64) (mta mde : Nat → Nat) (mse : Nat → Bool) (hd : dr < 2 ^ nE R C) (hcu : CU R C cu) (hIx : XI0 R C cu sa sz fi st lo hi_ wa dr) (hIm : MI R C LL cu mkn mme mns mnl mlp mso mwi mus mde mse (rv dr)) (hone : WS R C cu 0 (nE R C) 0 1672 = 1) (hk : ∀ (ov2 : Nat → Int64) (th2 d2 : Nat) (cu2 : Nat → Nat) (u1 u2 : va_W), d2 < 2 ^ nE R C → CU R C cu2 → OW cI cJ cZ qo qx R C ov2 d2 cu2 u1 → MW cI cJ cZ qm R C LL th2 (rv d2) cu2 u2 → V k l D (tys3 cI cJ cZ) room_1 cL_law 7 RL (u1 ++ u2) (cs + 1) (ss + 6) 905 [(0, .ref (b)), (1, .ref (qx 0)), (2, .ref (qm 0)), (3, .ref (qo)), (4, .int (nI (i)))] []) : V k l D (tys3 cI cJ cZ) room_1 cL_law 7 RL (wZ cI cJ cZ qo qx qm R C ov dr sz sa cu fi st lo hi_ wa sw mth mkn mme mns mhe mnx (rv dr) mnl mlp cu mso mwi mus mho mnh mke mta mde mse) (cs) (ss) 793 [(0, .ref (b)), (1, .ref (qx 0)), (2, .ref (qm 0)), (3, .ref (qo)), (4, .int (nI (i)))] [] := by
  obtain ⟨hLO, hND, hA, hB, hB2, hCc⟩ := hMt
  obtain ⟨hx, hMo, hA1, hA2, hA6, hA8⟩ := hCc cu hcu
  have hE := hG.E
  obtain ⟨hr31, hpop, hil⟩ := hA dr hd
  have hspe := sp_eq (LL := LL) hcu (fun c2 h2 => (hCc c2 h2).2.2.1) (R * C)
  refine j_aload_n dL_law_793 rfl 1 rfl ?_
  refine j_aload_n dL_law_794 rfl 3 rfl ?_
  refine j_callSW (mc := 1) (ms := 6) (wc := wO cI cJ cZ qo qx R C ov dr sz sa cu fi st lo hi_ wa sw) (wr := wM cI cJ cZ qm R C mth mkn mme mns mhe mnx (rv dr) mnl mlp cu mso mwi mus mho mnh mke mta mde mse) (av := [.ref (qx 0), .ref (qo)]) (rest := []) (w_spare l hfl D cI cJ cZ qo qx R C hG dr sz sa cu fi st lo hi_ wa sw ov hx hIx (fun c2 h2 => (hCc c2 h2).1) hone) mw2_149 mw2_150 mw1_0 mw2_151 hd_L_spare rfl ⟨rfl, rfl⟩ ⟨Nat.le_of_ble_eq_true rfl, Nat.le_of_ble_eq_true rfl⟩ (⟨show cs + 1 ≤ 600128 by omega, show ss + 6 ≤ 7301064 by omega⟩) (Nat.le_of_ble_eq_true rfl) [0, 1, 2, 3, 4, 5, 6, 7, 8, 9, 10, 11, 12, 13] [14, 15, 16, 17, 18, 19, 20, 21, 22, 23, 24, 25, 26, 27, 28, 29, 30, 31, 32, 33, 34] rfl rfl rfl rfl (by decide) hZ rfl dL_law_795 ?_
  rintro _ _ ⟨rfl, sz2, sa2, fi2, st2, lo2, hi2, wa2, sw2, hI2, rfl⟩
  refine j_cut (w2 := wZ cI cJ cZ qo qx qm R C (va_up ov 0 ((nI ((spX R C cu (R * C)).2)).toInt64)) dr sz2 sa2 ((spX R C cu (R * C)).1) fi2 st2 lo2 hi2 wa2 sw2 mth mkn mme mns mhe mnx (rv dr) mnl mlp cu mso mwi mus mho mnh mke mta mde mse) [21, 22, 23, 24, 25, 26, 27, 28, 29, 30, 31, 32, 33, 34, 0, 1, 2, 3, 4, 5, 6, 7, 8, 9, 10, 11, 12, 13, 14, 15, 16, 17, 18, 19, 20] rfl rfl ?_
  show V k l D (tys3 cI cJ cZ) room_1 cL_law 7 RL (wZ cI cJ cZ qo qx qm R C (va_up ov 0 ((nI ((spX R C cu (R * C)).2)).toInt64)) dr sz2 sa2 ((spX R C cu (R * C)).1) fi2 st2 lo2 hi2 wa2 sw2 mth mkn mme mns mhe mnx (rv dr) mnl mlp cu mso mwi mus mho mnh mke mta mde mse) (cs + 1) (ss + 6) 798 [(0, .ref (b)), (1, .ref (qx 0)), (2, .ref (qm 0)), (3, .ref (qo)), (4, .int (nI (i)))] [.int (nI (0))]
  refine j_istore [(5, .int (nI (0))), (0, .ref (b)), (1, .ref (qx 0)), (2, .ref (qm 0)), (3, .ref (qo)), (4, .int (nI (i)))] dL_law_798 (by decide) rfl ?_
  refine j_aload_n dL_law_800 rfl 3 rfl ?_
  refine j_callV (mc := 0) (ms := 0) (wc := wM cI cJ cZ qm R C mth mkn mme mns mhe mnx (rv dr) mnl mlp cu mso mwi mus mho mnh mke mta mde mse) (wr := wO cI cJ cZ qo qx R C (va_up ov 0 ((nI ((spX R C cu (R * C)).2)).toInt64)) dr sz2 sa2 ((spX R C cu (R * C)).1) fi2 st2 lo2 hi2 wa2 sw2) (tys3 := tys3 cI cJ cZ) (av := []) (rest := []) (cm_spare l hfl D cI cJ cZ qm R C hG mth mkn mme mns mhe mnx (rv dr) mnl mlp cu mso mwi mus mho mnh mke mta mde mse LL hLO hMo hIm ) 14 rfl rfl mw3_234 mw3_235 mw3_236 mw1_4 mw3_237 ⟨rfl, hd_X3_spare⟩ rfl ⟨rfl, rfl⟩ ⟨Nat.le_of_ble_eq_true rfl, Nat.le_of_ble_eq_true rfl⟩ (⟨show cs + 1 + 0 ≤ 600128 by omega, show ss + 6 + 0 ≤ 7301064 by omega⟩) (Nat.le_of_ble_eq_true rfl) [14, 15, 16, 17, 18, 19, 20, 21, 22, 23, 24, 25, 26, 27, 28, 29, 30, 31, 32, 33, 34] [0, 1, 2, 3, 4, 5, 6, 7, 8, 9, 10, 11, 12, 13] rfl rfl rfl rfl (by decide) (fun _ h _ => h) rfl dL_law_801 ?_
  rw [← hspe]; rintro _ _ hp0
  rcases hp0 with ⟨-, rfl, hMW⟩ | ⟨-, hno, -⟩
  rotate_left
  · exact absurd (by rw [← hA1]; exact hone) hno
  obtain ⟨kn3, me3, ns3, he3, nx3, nl3, lp3, so3, wi3, us3, ho3, nh3, ke3, ta3, de3, se3, hI3, rfl⟩ := hMW
  show V k l D (tys3 cI cJ cZ) room_1 cL_law 7 RL (wZ cI cJ cZ qo qx qm R C (va_up ov 0 ((nI ((spX R C cu (R * C)).2)).toInt64)) dr sz2 sa2 ((spX R C cu (R * C)).1) fi2 st2 lo2 hi2 wa2 sw2 0 kn3 me3 ns3 he3 nx3 (rv dr) nl3 lp3 ((spX R C cu (R * C)).1) so3 wi3 us3 ho3 nh3 ke3 ta3 de3 se3) (cs + 1) (ss + 6) 804 [(5, .int (nI (0))), (0, .ref (b)), (1, .ref (qx 0)), (2, .ref (qm 0)), (3, .ref (qo)), (4, .int (nI (i)))] [.int (nI ((spX R C cu (R * C)).2))]
  refine j_istore [(6, .int (nI ((spX R C cu (R * C)).2))), (5, .int (nI (0))), (0, .ref (b)), (1, .ref (qx 0)), (2, .ref (qm 0)), (3, .ref (qo)), (4, .int (nI (i)))] dL_law_804 (by decide) rfl ?_
  refine j_aload_n dL_law_806 rfl 4 rfl ?_
  refine j_callV (mc := 0) (ms := 0) (wc := wM cI cJ cZ qm R C 0 kn3 me3 ns3 he3 nx3 (rv dr) nl3 lp3 ((spX R C cu (R * C)).1) so3 wi3 us3 ho3 nh3 ke3 ta3 de3 se3) (wr := wO cI cJ cZ qo qx R C (va_up ov 0 ((nI ((spX R C cu (R * C)).2)).toInt64)) dr sz2 sa2 ((spX R C cu (R * C)).1) fi2 st2 lo2 hi2 wa2 sw2) (tys3 := tys3 cI cJ cZ) (av := []) (rest := []) (cm_thrown l hfl D cI cJ cZ qm R C hG 0 kn3 me3 ns3 he3 nx3 (rv dr) nl3 lp3 ((spX R C cu (R * C)).1) so3 wi3 us3 ho3 nh3 ke3 ta3 de3 se3) 14 rfl rfl mw3_105 mw3_106 mw3_107 mw1_4 mw3_108 ⟨rfl, hd_X3_thrown⟩ rfl ⟨rfl, rfl⟩ ⟨Nat.le_of_ble_eq_true rfl, Nat.le_of_ble_eq_true rfl⟩ (⟨show cs + 1 + 0 ≤ 600128 by omega, show ss + 6 + 0 ≤ 7301064 by omega⟩) (Nat.le_of_ble_eq_true rfl) [14, 15, 16, 17, 18, 19, 20, 21, 22, 23, 24, 25, 26, 27, 28, 29, 30, 31, 32, 33, 34] [0, 1, 2, 3, 4, 5, 6, 7, 8, 9, 10, 11, 12, 13] rfl rfl rfl rfl (by decide) (fun _ h _ => h) rfl dL_law_807 ?_
  rintro _ _ ⟨rfl, rfl⟩
  show V k l D (tys3 cI cJ cZ) room_1 cL_law 7 RL (wZ cI cJ cZ qo qx qm R C (va_up ov 0 ((nI ((spX R C cu (R * C)).2)).toInt64)) dr sz2 sa2 ((spX R C cu (R * C)).1) fi2 st2 lo2 hi2 wa2 sw2 0 kn3 me3 ns3 he3 nx3 (rv dr) nl3 lp3 ((spX R C cu (R * C)).1) so3 wi3 us3 ho3 nh3 ke3 ta3 de3 se3) (cs + 1) (ss + 6) 810 [(6, .int (nI ((spX R C cu (R * C)).2))), (5, .int (nI (0))), (0, .ref (b)), (1, .ref (qx 0)), (2, .ref (qm 0)), (3, .ref (qo)), (4, .int (nI (i)))] [.int (nI (0))]
  refine j_iload dL_law_810 1 rfl ?_
  refine jn_icmp_eq (tgt := 817) (a := 0) (b := 0) (by omega) (by omega) dL_law_812 (by decide) (fun c812 => ?_) (fun c812 => ?_)
  · refine j_iload dL_law_817 1 rfl ?_
    refine jn_if_ne (tgt := 834) (a := 0) (by omega) dL_law_819 (by decide) (fun c819 => ?_) (fun c819 => ?_)
    · exact absurd c819 (by first | decide | omega)
    · refine j_aload_n dL_law_822 rfl 5 rfl ?_
      refine j_iconst (v := nI (0)) dL_law_823 (by decide) ?_
      refine jn_lald (v := (nI ((spX R C cu (R * C)).2)).toInt64) 0 1 rfl rfl (by omega) (by omega) (by exact va_up_self _ _ _) dL_law_824 ?_
      refine j_iload dL_law_825 0 rfl ?_
      refine j_i2l dL_law_827 rfl ?_
      refine j_lcmp dL_law_828 rfl ?_
      refine j_if_eq (tgt := 834) dL_law_829 (by decide) (fun c829 => ?_) (fun c829 => ?_)
      · refine j_goto (tgt := 905) dL_law_834 (by decide) ?_
        refine j_sub [2, 3, 4, 5, 6] [(0, .ref (b)), (1, .ref (qx 0)), (2, .ref (qm 0)), (3, .ref (qo)), (4, .int (nI (i)))] rfl ?_
        exact hk (va_up ov 0 ((nI ((spX R C cu (R * C)).2)).toInt64)) 0 dr ((spX R C cu (R * C)).1) _ _ hd (spX_CU hcu _) ⟨sz2, sa2, fi2, st2, lo2, hi2, wa2, sw2, hI2, rfl⟩ (MW_of hI3)
      · exact absurd ((lg_cmp_eq _ _).mpr (rfl)) c829
  · exact absurd c812 (by first | decide | omega)

set_option maxHeartbeats 8000000 in
set_option maxRecDepth 100000 in
theorem l_spareX {k : VK} (l : Launch) (hfl : l.flags = flags0) (D : va_G) (cI cJ cZ : ClassId) (qo : Nat) (qx qm : Nat → Nat) (R C : Nat) (hG : GS R C) (LL : List Nat) (hMt : Mth R C LL) (b L : Nat) (xs : Nat → Int32) (hL : L ≤ 258) (hX : SX k b L xs) (hZ : ZX k.2.2.1.1 k.1.2.2.1 k.2.2.1.2) (i cs ss : Nat) (hi : i + 4 ≤ L) (hcs : cs ≤ 10000) (hss : ss ≤ 100000) (ov : Nat → Int64) (dr sz : Nat) (sa : Bool) (cu fi st : Nat → Nat) (lo hi_ : Nat → Option Nat) (wa sw : Nat → Nat) (mth : Nat) (mkn mme : Bool) (mns mhe mnx mnl : Nat) (mlp mso mwi mus mho mnh : Nat → Nat) (mke : Nat → Int64) (mta mde : Nat → Nat) (mse : Nat → Bool) (hd : dr < 2 ^ nE R C) (hcu : CU R C cu) (hIx : XI0 R C cu sa sz fi st lo hi_ wa dr) (hIm : MI R C LL cu mkn mme mns mnl mlp mso mwi mus mde mse (rv dr)) (hone : WS R C cu 0 (nE R C) 0 1672 ≠ 1) (hk : ∀ (ov2 : Nat → Int64) (th2 d2 : Nat) (cu2 : Nat → Nat) (u1 u2 : va_W), d2 < 2 ^ nE R C → CU R C cu2 → OW cI cJ cZ qo qx R C ov2 d2 cu2 u1 → MW cI cJ cZ qm R C LL th2 (rv d2) cu2 u2 → V k l D (tys3 cI cJ cZ) room_1 cL_law 7 RL (u1 ++ u2) (cs + 1) (ss + 6) 905 [(0, .ref (b)), (1, .ref (qx 0)), (2, .ref (qm 0)), (3, .ref (qo)), (4, .int (nI (i)))] []) : V k l D (tys3 cI cJ cZ) room_1 cL_law 7 RL (wZ cI cJ cZ qo qx qm R C ov dr sz sa cu fi st lo hi_ wa sw mth mkn mme mns mhe mnx (rv dr) mnl mlp cu mso mwi mus mho mnh mke mta mde mse) (cs) (ss) 793 [(0, .ref (b)), (1, .ref (qx 0)), (2, .ref (qm 0)), (3, .ref (qo)), (4, .int (nI (i)))] [] := by
  obtain ⟨hLO, hND, hA, hB, hB2, hCc⟩ := hMt
  obtain ⟨hx, hMo, hA1, hA2, hA6, hA8⟩ := hCc cu hcu
  have hE := hG.E
  obtain ⟨hr31, hpop, hil⟩ := hA dr hd
  refine j_aload_n dL_law_793 rfl 1 rfl ?_
  refine j_aload_n dL_law_794 rfl 3 rfl ?_
  refine j_callSW (mc := 1) (ms := 6) (wc := wO cI cJ cZ qo qx R C ov dr sz sa cu fi st lo hi_ wa sw) (wr := wM cI cJ cZ qm R C mth mkn mme mns mhe mnx (rv dr) mnl mlp cu mso mwi mus mho mnh mke mta mde mse) (av := [.ref (qx 0), .ref (qo)]) (rest := []) (w_spareX l hfl D cI cJ cZ qo qx R C hG dr sz sa cu fi st lo hi_ wa sw ov hx hIx hone) mw2_149 mw2_150 mw1_0 mw2_151 hd_L_spare rfl ⟨rfl, rfl⟩ ⟨Nat.le_of_ble_eq_true rfl, Nat.le_of_ble_eq_true rfl⟩ (⟨show cs + 1 ≤ 600128 by omega, show ss + 6 ≤ 7301064 by omega⟩) (Nat.le_of_ble_eq_true rfl) [0, 1, 2, 3, 4, 5, 6, 7, 8, 9, 10, 11, 12, 13] [14, 15, 16, 17, 18, 19, 20, 21, 22, 23, 24, 25, 26, 27, 28, 29, 30, 31, 32, 33, 34] rfl rfl rfl rfl (by decide) hZ rfl dL_law_795 ?_
  rintro _ _ ⟨rfl, sz2, sa2, fi2, st2, lo2, hi2, wa2, sw2, hI2, rfl⟩
  refine j_cut (w2 := wZ cI cJ cZ qo qx qm R C ov dr sz2 sa2 cu fi2 st2 lo2 hi2 wa2 sw2 mth mkn mme mns mhe mnx (rv dr) mnl mlp cu mso mwi mus mho mnh mke mta mde mse) [21, 22, 23, 24, 25, 26, 27, 28, 29, 30, 31, 32, 33, 34, 0, 1, 2, 3, 4, 5, 6, 7, 8, 9, 10, 11, 12, 13, 14, 15, 16, 17, 18, 19, 20] rfl rfl ?_
  show V k l D (tys3 cI cJ cZ) room_1 cL_law 7 RL (wZ cI cJ cZ qo qx qm R C ov dr sz2 sa2 cu fi2 st2 lo2 hi2 wa2 sw2 mth mkn mme mns mhe mnx (rv dr) mnl mlp cu mso mwi mus mho mnh mke mta mde mse) (cs + 1) (ss + 6) 798 [(0, .ref (b)), (1, .ref (qx 0)), (2, .ref (qm 0)), (3, .ref (qo)), (4, .int (nI (i)))] [.int (nI (1))]
  refine j_istore [(5, .int (nI (1))), (0, .ref (b)), (1, .ref (qx 0)), (2, .ref (qm 0)), (3, .ref (qo)), (4, .int (nI (i)))] dL_law_798 (by decide) rfl ?_
  refine j_aload_n dL_law_800 rfl 3 rfl ?_
  refine j_callV (mc := 0) (ms := 0) (wc := wM cI cJ cZ qm R C mth mkn mme mns mhe mnx (rv dr) mnl mlp cu mso mwi mus mho mnh mke mta mde mse) (wr := wO cI cJ cZ qo qx R C ov dr sz2 sa2 cu fi2 st2 lo2 hi2 wa2 sw2) (tys3 := tys3 cI cJ cZ) (av := []) (rest := []) (cm_spare l hfl D cI cJ cZ qm R C hG mth mkn mme mns mhe mnx (rv dr) mnl mlp cu mso mwi mus mho mnh mke mta mde mse LL hLO hMo hIm ) 14 rfl rfl mw3_234 mw3_235 mw3_236 mw1_4 mw3_237 ⟨rfl, hd_X3_spare⟩ rfl ⟨rfl, rfl⟩ ⟨Nat.le_of_ble_eq_true rfl, Nat.le_of_ble_eq_true rfl⟩ (⟨show cs + 1 + 0 ≤ 600128 by omega, show ss + 6 + 0 ≤ 7301064 by omega⟩) (Nat.le_of_ble_eq_true rfl) [14, 15, 16, 17, 18, 19, 20, 21, 22, 23, 24, 25, 26, 27, 28, 29, 30, 31, 32, 33, 34] [0, 1, 2, 3, 4, 5, 6, 7, 8, 9, 10, 11, 12, 13] rfl rfl rfl rfl (by decide) (fun _ h _ => h) rfl dL_law_801 ?_
  rintro _ _ hp0
  rcases hp0 with ⟨ho1, -, -⟩ | ⟨rfl, -, hMW⟩
  · exact absurd (by rw [hA1]; exact ho1) hone
  obtain ⟨kn3, me3, ns3, he3, nx3, nl3, lp3, so3, wi3, us3, ho3, nh3, ke3, ta3, de3, se3, hI3, rfl⟩ := hMW
  show V k l D (tys3 cI cJ cZ) room_1 cL_law 7 RL (wZ cI cJ cZ qo qx qm R C ov dr sz2 sa2 cu fi2 st2 lo2 hi2 wa2 sw2 1 kn3 me3 ns3 he3 nx3 (rv dr) nl3 lp3 cu so3 wi3 us3 ho3 nh3 ke3 ta3 de3 se3) (cs + 1) (ss + 6) 804 [(5, .int (nI (1))), (0, .ref (b)), (1, .ref (qx 0)), (2, .ref (qm 0)), (3, .ref (qo)), (4, .int (nI (i)))] [.int (nI (0))]
  refine j_istore [(6, .int (nI (0))), (5, .int (nI (1))), (0, .ref (b)), (1, .ref (qx 0)), (2, .ref (qm 0)), (3, .ref (qo)), (4, .int (nI (i)))] dL_law_804 (by decide) rfl ?_
  refine j_aload_n dL_law_806 rfl 4 rfl ?_
  refine j_callV (mc := 0) (ms := 0) (wc := wM cI cJ cZ qm R C 1 kn3 me3 ns3 he3 nx3 (rv dr) nl3 lp3 cu so3 wi3 us3 ho3 nh3 ke3 ta3 de3 se3) (wr := wO cI cJ cZ qo qx R C ov dr sz2 sa2 cu fi2 st2 lo2 hi2 wa2 sw2) (tys3 := tys3 cI cJ cZ) (av := []) (rest := []) (cm_thrown l hfl D cI cJ cZ qm R C hG 1 kn3 me3 ns3 he3 nx3 (rv dr) nl3 lp3 cu so3 wi3 us3 ho3 nh3 ke3 ta3 de3 se3) 14 rfl rfl mw3_105 mw3_106 mw3_107 mw1_4 mw3_108 ⟨rfl, hd_X3_thrown⟩ rfl ⟨rfl, rfl⟩ ⟨Nat.le_of_ble_eq_true rfl, Nat.le_of_ble_eq_true rfl⟩ (⟨show cs + 1 + 0 ≤ 600128 by omega, show ss + 6 + 0 ≤ 7301064 by omega⟩) (Nat.le_of_ble_eq_true rfl) [14, 15, 16, 17, 18, 19, 20, 21, 22, 23, 24, 25, 26, 27, 28, 29, 30, 31, 32, 33, 34] [0, 1, 2, 3, 4, 5, 6, 7, 8, 9, 10, 11, 12, 13] rfl rfl rfl rfl (by decide) (fun _ h _ => h) rfl dL_law_807 ?_
  rintro _ _ ⟨rfl, rfl⟩
  show V k l D (tys3 cI cJ cZ) room_1 cL_law 7 RL (wZ cI cJ cZ qo qx qm R C ov dr sz2 sa2 cu fi2 st2 lo2 hi2 wa2 sw2 1 kn3 me3 ns3 he3 nx3 (rv dr) nl3 lp3 cu so3 wi3 us3 ho3 nh3 ke3 ta3 de3 se3) (cs + 1) (ss + 6) 810 [(6, .int (nI (0))), (5, .int (nI (1))), (0, .ref (b)), (1, .ref (qx 0)), (2, .ref (qm 0)), (3, .ref (qo)), (4, .int (nI (i)))] [.int (nI (1))]
  refine j_iload dL_law_810 1 rfl ?_
  refine jn_icmp_eq (tgt := 817) (a := 1) (b := 1) (by omega) (by omega) dL_law_812 (by decide) (fun c812 => ?_) (fun c812 => ?_)
  · refine j_iload dL_law_817 1 rfl ?_
    refine jn_if_ne (tgt := 834) (a := 1) (by omega) dL_law_819 (by decide) (fun c819 => ?_) (fun c819 => ?_)
    · refine j_goto (tgt := 905) dL_law_834 (by decide) ?_
      refine j_sub [2, 3, 4, 5, 6] [(0, .ref (b)), (1, .ref (qx 0)), (2, .ref (qm 0)), (3, .ref (qo)), (4, .int (nI (i)))] rfl ?_
      exact hk ov 1 dr cu _ _ hd hcu ⟨sz2, sa2, fi2, st2, lo2, hi2, wa2, sw2, hI2, rfl⟩ (MW_of hI3)
    · exact absurd c819 (by first | decide | omega)
  · exact absurd c812 (by first | decide | omega)

