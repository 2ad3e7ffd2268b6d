/-! the trees of all twelve sizes -/
theorem tx_11 : T2 1 1 1023 1047552 := by unfold T2; decide +kernel
theorem tx_12 : T2 1 2 1074823167 34358723584 := by unfold T2; decide +kernel
theorem tx_13 : T2 1 3 71470469382143 1125898902340608 := by unfold T2; decide +kernel
theorem tx_21 : T2 2 1 1139803135 34327297024 := by unfold T2; decide +kernel
theorem tx_22 : T2 2 2 110446010656915455 1152889724095988736 := by unfold T2; decide +kernel
theorem tx_23 : T2 2 3 6199475755018447481765887 38685595283579266385609728 := by unfold T2; decide +kernel
theorem tx_31 : T2 3 1 73634059125759 1124872303475712 := by unfold T2; decide +kernel
theorem tx_32 : T2 3 2 6201799935597992261746687 38684636017808583408256000 := by unfold T2; decide +kernel
theorem tx_33 : T2 3 3 341647332295103897269974889403547647 1329227055229982787134211373947454464 := by unfold T2; decide +kernel
theorem tx_41 : T2 4 1 3601827436048679935 36860976760005655552 := by unfold T2; decide +kernel
theorem tx_42 : T2 4 2 291844595323530783726487292903423 1298043544449125597171611736245248 := by unfold T2; decide +kernel
theorem tx_43 : T2 4 3 16158776774354327770464809398879124505083543551 45671898064479900433425395610180492498974049280 := by unfold T2; decide +kernel
theorem tree_all {R C : Nat} (hG : GS R C) : ∃ TF TT, ∀ m x, m ≤ nE R C → x < 2 ^ m → OKt R C TF TT x m (rnP R C x m 0 1672) := by
  obtain ⟨r1, r2, c1, c2⟩ := id hG
  have hr : R = 1 ∨ R = 2 ∨ R = 3 ∨ R = 4 := by omega
  have hc : C = 1 ∨ C = 2 ∨ C = 3 := by omega
  rcases hr with rfl | rfl | rfl | rfl <;> rcases hc with rfl | rfl | rfl
  · exact ⟨_, _, tree_ok hG tk_11 tx_11 (L := 0) ch_11⟩
  · exact ⟨_, _, tree_ok hG tk_12 tx_12 (L := 0) ch_12⟩
  · exact ⟨_, _, tree_ok hG tk_13 tx_13 (L := 0) ch_13⟩
  · exact ⟨_, _, tree_ok hG tk_21 tx_21 (L := 0) ch_21⟩
  · exact ⟨_, _, tree_ok hG tk_22 tx_22 (L := 0) ch_22⟩
  · exact ⟨_, _, tree_ok hG tk_23 tx_23 (L := 0) ch_23⟩
  · exact ⟨_, _, tree_ok hG tk_31 tx_31 (L := 0) ch_31⟩
  · exact ⟨_, _, tree_ok hG tk_32 tx_32 (L := 0) ch_32⟩
  · exact ⟨_, _, tree_ok hG tk_33 tx_33 (L := 3) ch_33⟩
  · exact ⟨_, _, tree_ok hG tk_41 tx_41 (L := 0) ch_41⟩
  · exact ⟨_, _, tree_ok hG tk_42 tx_42 (L := 0) ch_42⟩
  · exact ⟨_, _, tree_ok hG tk_43 tx_43 (L := 6) ch_43⟩
