/-! the words of the throws -/
abbrev nmX : List String := ["java/lang/RuntimeException", "java/lang/Exception"]
theorem fit_nm : ∀ n ∈ nmX, Bundle.fit n = true := by decide
theorem at0_XI {own : String} {ic : Nat} (hl : Cond.methodLink own ic (Bundle.init0 XI) ∈ aL) : ∀ w ∈ vx_at0 own ic XI nmX, w ∈ aL ∨ w ∈ fL := by
  intro w hw
  obtain ⟨h, hn⟩ := List.mem_filter.mp hw
  simp only [Bundle.ownAtoms0, Bundle.throwableAtoms, Bundle.chain0Atoms, Bundle.passAtoms, nmX, List.mem_append, List.mem_cons, List.not_mem_nil, or_false, or_assoc] at h
  rcases h with rfl | rfl | rfl | rfl | rfl | rfl | rfl | rfl | rfl | rfl | rfl | rfl | rfl | rfl | rfl | rfl | rfl | rfl | rfl | rfl | rfl | rfl | rfl | rfl | rfl | rfl | rfl | rfl | rfl | rfl | rfl | rfl | rfl | rfl | rfl | rfl | rfl | rfl | rfl | rfl | rfl | rfl | rfl | rfl | rfl | rfl | rfl | rfl | rfl | rfl | rfl | rfl | rfl
  · exact Or.inl mw1_5
  · exact Or.inl (aL_in (tb_1 (List.mem_of_getElem? (i := 239) rfl)) rfl)
  · exact Or.inl mw2_8
  · exact Or.inl (aL_in (tb_2 (List.mem_of_getElem? (i := 13) rfl)) rfl)
  · exact Or.inl mw2_16
  · exact Or.inl (aL_in (tb_2 (List.mem_of_getElem? (i := 18) rfl)) rfl)
  · exact Or.inl mw2_0
  · exact Or.inl mw2_1
  · exact Or.inl mw1_19
  · exact Or.inl mw1_20
  · exact Or.inl mw2_2
  · exact Or.inl mw2_7
  · exact Or.inl mw2_14
  · exact Or.inl mw2_30
  · exact Or.inl mw1_229
  · exact Or.inl mw2_31
  · exact Or.inl mw1_231
  · exact Or.inl mw2_32
  · exact Or.inl mw1_233
  · exact Or.inl mw2_3
  · exact absurd hn (by decide)
  · exact Or.inl mw2_5
  · exact absurd hn (by decide)
  · exact Or.inl mw1_235
  · exact Or.inl mw2_20
  · exact Or.inl mw2_21
  · exact Or.inl mw2_22
  · exact Or.inl mw2_23
  · exact Or.inr (fL_in (tb_1 (List.mem_of_getElem? (i := 220) rfl)) rfl)
  · exact Or.inl mw2_23
  · exact Or.inl mw2_24
  · exact Or.inl mw2_25
  · exact Or.inl mw2_26
  · exact Or.inr (fL_in (tb_1 (List.mem_of_getElem? (i := 222) rfl)) rfl)
  · exact Or.inl mw2_26
  · exact Or.inl mw2_27
  · exact Or.inl mw2_28
  · exact Or.inl mw2_0
  · exact Or.inr (fL_in (tb_1 (List.mem_of_getElem? (i := 224) rfl)) rfl)
  · exact Or.inl hl
  · exact Or.inl mw1_218
  · exact Or.inr (fL_in (tb_1 (List.mem_of_getElem? (i := 219) rfl)) rfl)
  · exact Or.inl mw1_226
  · exact Or.inl mw1_227
  · exact Or.inl mw1_228
  · exact Or.inl mw1_230
  · exact Or.inl mw1_232
  · exact Or.inl mw1_234
  · exact absurd hn (by decide)
  · exact absurd hn (by decide)
  · exact Or.inl mw2_29
  · exact Or.inl mw1_237
  · exact Or.inl mw1_236
theorem go_XI {own : String} {ic ik : Nat} : ∀ w ∈ Cond.classLink own ik XI :: Cond.initialized XI :: vx_at0 own ic XI nmX, vx_ot w = true := by
  intro w hw
  rcases List.mem_cons.mp hw with rfl | hw
  · rfl
  rcases List.mem_cons.mp hw with rfl | hw
  · rfl
  obtain ⟨h, hn⟩ := List.mem_filter.mp hw
  simp only [Bundle.ownAtoms0, Bundle.throwableAtoms, Bundle.chain0Atoms, Bundle.passAtoms, nmX, List.mem_append, List.mem_cons, List.not_mem_nil, or_false, or_assoc] at h
  rcases h with rfl | rfl | rfl | rfl | rfl | rfl | rfl | rfl | rfl | rfl | rfl | rfl | rfl | rfl | rfl | rfl | rfl | rfl | rfl | rfl | rfl | rfl | rfl | rfl | rfl | rfl | rfl | rfl | rfl | rfl | rfl | rfl | rfl | rfl | rfl | rfl | rfl | rfl | rfl | rfl | rfl | rfl | rfl | rfl | rfl | rfl | rfl | rfl | rfl | rfl | rfl | rfl | rfl
  · rfl
  · rfl
  · rfl
  · rfl
  · rfl
  · rfl
  · rfl
  · rfl
  · rfl
  · rfl
  · rfl
  · rfl
  · rfl
  · rfl
  · rfl
  · rfl
  · rfl
  · rfl
  · rfl
  · rfl
  · exact absurd hn (by decide)
  · rfl
  · exact absurd hn (by decide)
  · rfl
  · rfl
  · rfl
  · rfl
  · rfl
  · rfl
  · rfl
  · rfl
  · rfl
  · rfl
  · rfl
  · rfl
  · rfl
  · rfl
  · rfl
  · rfl
  · rfl
  · rfl
  · rfl
  · rfl
  · rfl
  · rfl
  · rfl
  · rfl
  · rfl
  · exact absurd hn (by decide)
  · exact absurd hn (by decide)
  · rfl
  · rfl
  · rfl
theorem at0_XA {own : String} {ic : Nat} (hl : Cond.methodLink own ic (Bundle.init0 XA) ∈ aL) : ∀ w ∈ vx_at0 own ic XA nmX, w ∈ aL ∨ w ∈ fL := by
  intro w hw
  obtain ⟨h, hn⟩ := List.mem_filter.mp hw
  simp only [Bundle.ownAtoms0, Bundle.throwableAtoms, Bundle.chain0Atoms, Bundle.passAtoms, nmX, List.mem_append, List.mem_cons, List.not_mem_nil, or_false, or_assoc] at h
  rcases h with rfl | rfl | rfl | rfl | rfl | rfl | rfl | rfl | rfl | rfl | rfl | rfl | rfl | rfl | rfl | rfl | rfl | rfl | rfl | rfl | rfl | rfl | rfl | rfl | rfl | rfl | rfl | rfl | rfl | rfl | rfl | rfl | rfl | rfl | rfl | rfl | rfl | rfl | rfl | rfl | rfl | rfl | rfl | rfl | rfl | rfl | rfl | rfl | rfl | rfl | rfl | rfl | rfl
  · exact Or.inl mw1_5
  · exact Or.inl (aL_in (tb_1 (List.mem_of_getElem? (i := 239) rfl)) rfl)
  · exact Or.inl mw2_8
  · exact Or.inl (aL_in (tb_2 (List.mem_of_getElem? (i := 13) rfl)) rfl)
  · exact Or.inl mw2_16
  · exact Or.inl (aL_in (tb_2 (List.mem_of_getElem? (i := 18) rfl)) rfl)
  · exact Or.inl mw2_0
  · exact Or.inl mw2_1
  · exact Or.inl mw1_19
  · exact Or.inl mw1_20
  · exact Or.inl mw2_2
  · exact Or.inl mw2_7
  · exact Or.inl mw2_14
  · exact Or.inl mw2_30
  · exact Or.inl mw1_229
  · exact Or.inl mw2_31
  · exact Or.inl mw1_231
  · exact Or.inl mw2_32
  · exact Or.inl mw1_233
  · exact Or.inl mw2_3
  · exact absurd hn (by decide)
  · exact Or.inl mw2_5
  · exact absurd hn (by decide)
  · exact Or.inl mw1_235
  · exact Or.inl mw2_63
  · exact Or.inl mw2_64
  · exact Or.inl mw2_65
  · exact Or.inl mw2_23
  · exact Or.inr (fL_in (tb_1 (List.mem_of_getElem? (i := 220) rfl)) rfl)
  · exact Or.inl mw2_23
  · exact Or.inl mw2_24
  · exact Or.inl mw2_25
  · exact Or.inl mw2_26
  · exact Or.inr (fL_in (tb_1 (List.mem_of_getElem? (i := 222) rfl)) rfl)
  · exact Or.inl mw2_26
  · exact Or.inl mw2_27
  · exact Or.inl mw2_28
  · exact Or.inl mw2_0
  · exact Or.inr (fL_in (tb_1 (List.mem_of_getElem? (i := 224) rfl)) rfl)
  · exact Or.inl hl
  · exact Or.inl mw2_54
  · exact Or.inr (fL_in (tb_2 (List.mem_of_getElem? (i := 55) rfl)) rfl)
  · exact Or.inl mw2_56
  · exact Or.inl mw2_10
  · exact Or.inl mw2_57
  · exact Or.inl mw2_58
  · exact Or.inl mw2_59
  · exact Or.inl mw2_60
  · exact absurd hn (by decide)
  · exact absurd hn (by decide)
  · exact Or.inl mw2_29
  · exact Or.inl mw1_237
  · exact Or.inl mw2_61
theorem go_XA {own : String} {ic ik : Nat} : ∀ w ∈ Cond.classLink own ik XA :: Cond.initialized XA :: vx_at0 own ic XA nmX, vx_ot w = true := by
  intro w hw
  rcases List.mem_cons.mp hw with rfl | hw
  · rfl
  rcases List.mem_cons.mp hw with rfl | hw
  · rfl
  obtain ⟨h, hn⟩ := List.mem_filter.mp hw
  simp only [Bundle.ownAtoms0, Bundle.throwableAtoms, Bundle.chain0Atoms, Bundle.passAtoms, nmX, List.mem_append, List.mem_cons, List.not_mem_nil, or_false, or_assoc] at h
  rcases h with rfl | rfl | rfl | rfl | rfl | rfl | rfl | rfl | rfl | rfl | rfl | rfl | rfl | rfl | rfl | rfl | rfl | rfl | rfl | rfl | rfl | rfl | rfl | rfl | rfl | rfl | rfl | rfl | rfl | rfl | rfl | rfl | rfl | rfl | rfl | rfl | rfl | rfl | rfl | rfl | rfl | rfl | rfl | rfl | rfl | rfl | rfl | rfl | rfl | rfl | rfl | rfl | rfl
  · rfl
  · rfl
  · rfl
  · rfl
  · rfl
  · rfl
  · rfl
  · rfl
  · rfl
  · rfl
  · rfl
  · rfl
  · rfl
  · rfl
  · rfl
  · rfl
  · rfl
  · rfl
  · rfl
  · rfl
  · exact absurd hn (by decide)
  · rfl
  · exact absurd hn (by decide)
  · rfl
  · rfl
  · rfl
  · rfl
  · rfl
  · rfl
  · rfl
  · rfl
  · rfl
  · rfl
  · rfl
  · rfl
  · rfl
  · rfl
  · rfl
  · rfl
  · rfl
  · rfl
  · rfl
  · rfl
  · rfl
  · rfl
  · rfl
  · rfl
  · rfl
  · exact absurd hn (by decide)
  · exact absurd hn (by decide)
  · rfl
  · rfl
  · rfl
theorem at0_XN {own : String} {ic : Nat} (hl : Cond.methodLink own ic (Bundle.init0 XN) ∈ aL) : ∀ w ∈ vx_at0 own ic XN nmX, w ∈ aL ∨ w ∈ fL := by
  intro w hw
  obtain ⟨h, hn⟩ := List.mem_filter.mp hw
  simp only [Bundle.ownAtoms0, Bundle.throwableAtoms, Bundle.chain0Atoms, Bundle.passAtoms, nmX, List.mem_append, List.mem_cons, List.not_mem_nil, or_false, or_assoc] at h
  rcases h with rfl | rfl | rfl | rfl | rfl | rfl | rfl | rfl | rfl | rfl | rfl | rfl | rfl | rfl | rfl | rfl | rfl | rfl | rfl | rfl | rfl | rfl | rfl | rfl | rfl | rfl | rfl | rfl | rfl | rfl | rfl | rfl | rfl | rfl | rfl | rfl | rfl | rfl | rfl | rfl | rfl | rfl | rfl | rfl | rfl | rfl | rfl | rfl | rfl | rfl | rfl | rfl | rfl
  · exact Or.inl mw1_5
  · exact Or.inl (aL_in (tb_1 (List.mem_of_getElem? (i := 239) rfl)) rfl)
  · exact Or.inl mw2_8
  · exact Or.inl (aL_in (tb_2 (List.mem_of_getElem? (i := 13) rfl)) rfl)
  · exact Or.inl mw2_16
  · exact Or.inl (aL_in (tb_2 (List.mem_of_getElem? (i := 18) rfl)) rfl)
  · exact Or.inl mw2_0
  · exact Or.inl mw2_1
  · exact Or.inl mw1_19
  · exact Or.inl mw1_20
  · exact Or.inl mw2_2
  · exact Or.inl mw2_7
  · exact Or.inl mw2_14
  · exact Or.inl mw2_30
  · exact Or.inl mw1_229
  · exact Or.inl mw2_31
  · exact Or.inl mw1_231
  · exact Or.inl mw2_32
  · exact Or.inl mw1_233
  · exact Or.inl mw2_3
  · exact absurd hn (by decide)
  · exact Or.inl mw2_5
  · exact absurd hn (by decide)
  · exact Or.inl mw1_235
  · exact Or.inl mw2_105
  · exact Or.inl mw2_106
  · exact Or.inl mw2_107
  · exact Or.inl mw2_23
  · exact Or.inr (fL_in (tb_1 (List.mem_of_getElem? (i := 220) rfl)) rfl)
  · exact Or.inl mw2_23
  · exact Or.inl mw2_24
  · exact Or.inl mw2_25
  · exact Or.inl mw2_26
  · exact Or.inr (fL_in (tb_1 (List.mem_of_getElem? (i := 222) rfl)) rfl)
  · exact Or.inl mw2_26
  · exact Or.inl mw2_27
  · exact Or.inl mw2_28
  · exact Or.inl mw2_0
  · exact Or.inr (fL_in (tb_1 (List.mem_of_getElem? (i := 224) rfl)) rfl)
  · exact Or.inl hl
  · exact Or.inl mw2_96
  · exact Or.inr (fL_in (tb_2 (List.mem_of_getElem? (i := 97) rfl)) rfl)
  · exact Or.inl mw2_98
  · exact Or.inl mw2_12
  · exact Or.inl mw2_99
  · exact Or.inl mw2_100
  · exact Or.inl mw2_101
  · exact Or.inl mw2_102
  · exact absurd hn (by decide)
  · exact absurd hn (by decide)
  · exact Or.inl mw2_29
  · exact Or.inl mw1_237
  · exact Or.inl mw2_103
theorem go_XN {own : String} {ic ik : Nat} : ∀ w ∈ Cond.classLink own ik XN :: Cond.initialized XN :: vx_at0 own ic XN nmX, vx_ot w = true := by
  intro w hw
  rcases List.mem_cons.mp hw with rfl | hw
  · rfl
  rcases List.mem_cons.mp hw with rfl | hw
  · rfl
  obtain ⟨h, hn⟩ := List.mem_filter.mp hw
  simp only [Bundle.ownAtoms0, Bundle.throwableAtoms, Bundle.chain0Atoms, Bundle.passAtoms, nmX, List.mem_append, List.mem_cons, List.not_mem_nil, or_false, or_assoc] at h
  rcases h with rfl | rfl | rfl | rfl | rfl | rfl | rfl | rfl | rfl | rfl | rfl | rfl | rfl | rfl | rfl | rfl | rfl | rfl | rfl | rfl | rfl | rfl | rfl | rfl | rfl | rfl | rfl | rfl | rfl | rfl | rfl | rfl | rfl | rfl | rfl | rfl | rfl | rfl | rfl | rfl | rfl | rfl | rfl | rfl | rfl | rfl | rfl | rfl | rfl | rfl | rfl | rfl | rfl
  · rfl
  · rfl
  · rfl
  · rfl
  · rfl
  · rfl
  · rfl
  · rfl
  · rfl
  · rfl
  · rfl
  · rfl
  · rfl
  · rfl
  · rfl
  · rfl
  · rfl
  · rfl
  · rfl
  · rfl
  · exact absurd hn (by decide)
  · rfl
  · exact absurd hn (by decide)
  · rfl
  · rfl
  · rfl
  · rfl
  · rfl
  · rfl
  · rfl
  · rfl
  · rfl
  · rfl
  · rfl
  · rfl
  · rfl
  · rfl
  · rfl
  · rfl
  · rfl
  · rfl
  · rfl
  · rfl
  · rfl
  · rfl
  · rfl
  · rfl
  · rfl
  · exact absurd hn (by decide)
  · exact absurd hn (by decide)
  · rfl
  · rfl
  · rfl
theorem at0_XS {own : String} {ic : Nat} (hl : Cond.methodLink own ic (Bundle.init0 XS) ∈ aL) : ∀ w ∈ vx_at0 own ic XS nmX, w ∈ aL ∨ w ∈ fL := by
  intro w hw
  obtain ⟨h, hn⟩ := List.mem_filter.mp hw
  simp only [Bundle.ownAtoms0, Bundle.throwableAtoms, Bundle.chain0Atoms, Bundle.passAtoms, nmX, List.mem_append, List.mem_cons, List.not_mem_nil, or_false, or_assoc] at h
  rcases h with rfl | rfl | rfl | rfl | rfl | rfl | rfl | rfl | rfl | rfl | rfl | rfl | rfl | rfl | rfl | rfl | rfl | rfl | rfl | rfl | rfl | rfl | rfl | rfl | rfl | rfl | rfl | rfl | rfl | rfl | rfl | rfl | rfl | rfl | rfl | rfl | rfl | rfl | rfl | rfl | rfl | rfl | rfl | rfl | rfl | rfl | rfl | rfl | rfl | rfl | rfl | rfl | rfl
  · exact Or.inl mw1_5
  · exact Or.inl (aL_in (tb_1 (List.mem_of_getElem? (i := 239) rfl)) rfl)
  · exact Or.inl mw2_8
  · exact Or.inl (aL_in (tb_2 (List.mem_of_getElem? (i := 13) rfl)) rfl)
  · exact Or.inl mw2_16
  · exact Or.inl (aL_in (tb_2 (List.mem_of_getElem? (i := 18) rfl)) rfl)
  · exact Or.inl mw2_0
  · exact Or.inl mw2_1
  · exact Or.inl mw1_19
  · exact Or.inl mw1_20
  · exact Or.inl mw2_2
  · exact Or.inl mw2_7
  · exact Or.inl mw2_14
  · exact Or.inl mw2_30
  · exact Or.inl mw1_229
  · exact Or.inl mw2_31
  · exact Or.inl mw1_231
  · exact Or.inl mw2_32
  · exact Or.inl mw1_233
  · exact Or.inl mw2_3
  · exact absurd hn (by decide)
  · exact Or.inl mw2_5
  · exact absurd hn (by decide)
  · exact Or.inl mw1_235
  · exact Or.inl mw2_167
  · exact Or.inl mw2_168
  · exact Or.inl mw2_169
  · exact Or.inl mw2_23
  · exact Or.inr (fL_in (tb_1 (List.mem_of_getElem? (i := 220) rfl)) rfl)
  · exact Or.inl mw2_23
  · exact Or.inl mw2_24
  · exact Or.inl mw2_25
  · exact Or.inl mw2_26
  · exact Or.inr (fL_in (tb_1 (List.mem_of_getElem? (i := 222) rfl)) rfl)
  · exact Or.inl mw2_26
  · exact Or.inl mw2_27
  · exact Or.inl mw2_28
  · exact Or.inl mw2_0
  · exact Or.inr (fL_in (tb_1 (List.mem_of_getElem? (i := 224) rfl)) rfl)
  · exact Or.inl hl
  · exact Or.inl mw2_158
  · exact Or.inr (fL_in (tb_2 (List.mem_of_getElem? (i := 159) rfl)) rfl)
  · exact Or.inl mw2_160
  · exact Or.inl mw2_11
  · exact Or.inl mw2_161
  · exact Or.inl mw2_162
  · exact Or.inl mw2_163
  · exact Or.inl mw2_164
  · exact absurd hn (by decide)
  · exact absurd hn (by decide)
  · exact Or.inl mw2_29
  · exact Or.inl mw1_237
  · exact Or.inl mw2_165
theorem go_XS {own : String} {ic ik : Nat} : ∀ w ∈ Cond.classLink own ik XS :: Cond.initialized XS :: vx_at0 own ic XS nmX, vx_ot w = true := by
  intro w hw
  rcases List.mem_cons.mp hw with rfl | hw
  · rfl
  rcases List.mem_cons.mp hw with rfl | hw
  · rfl
  obtain ⟨h, hn⟩ := List.mem_filter.mp hw
  simp only [Bundle.ownAtoms0, Bundle.throwableAtoms, Bundle.chain0Atoms, Bundle.passAtoms, nmX, List.mem_append, List.mem_cons, List.not_mem_nil, or_false, or_assoc] at h
  rcases h with rfl | rfl | rfl | rfl | rfl | rfl | rfl | rfl | rfl | rfl | rfl | rfl | rfl | rfl | rfl | rfl | rfl | rfl | rfl | rfl | rfl | rfl | rfl | rfl | rfl | rfl | rfl | rfl | rfl | rfl | rfl | rfl | rfl | rfl | rfl | rfl | rfl | rfl | rfl | rfl | rfl | rfl | rfl | rfl | rfl | rfl | rfl | rfl | rfl | rfl | rfl | rfl | rfl
  · rfl
  · rfl
  · rfl
  · rfl
  · rfl
  · rfl
  · rfl
  · rfl
  · rfl
  · rfl
  · rfl
  · rfl
  · rfl
  · rfl
  · rfl
  · rfl
  · rfl
  · rfl
  · rfl
  · rfl
  · exact absurd hn (by decide)
  · rfl
  · exact absurd hn (by decide)
  · rfl
  · rfl
  · rfl
  · rfl
  · rfl
  · rfl
  · rfl
  · rfl
  · rfl
  · rfl
  · rfl
  · rfl
  · rfl
  · rfl
  · rfl
  · rfl
  · rfl
  · rfl
  · rfl
  · rfl
  · rfl
  · rfl
  · rfl
  · rfl
  · rfl
  · exact absurd hn (by decide)
  · exact absurd hn (by decide)
  · rfl
  · rfl
  · rfl
theorem ca_XI : Cond.castable XI XI ∈ fL := (fL_in (tb_1 (List.mem_of_getElem? (i := 219) rfl)) rfl)
theorem ca_XA : Cond.castable XA XA ∈ fL := (fL_in (tb_2 (List.mem_of_getElem? (i := 55) rfl)) rfl)
theorem ca_XN : Cond.castable XN XN ∈ fL := (fL_in (tb_2 (List.mem_of_getElem? (i := 97) rfl)) rfl)
theorem ca_XS : Cond.castable XS XS ∈ fL := (fL_in (tb_2 (List.mem_of_getElem? (i := 159) rfl)) rfl)
