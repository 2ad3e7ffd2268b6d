theorem blindP {av : List Value} {D : va_G} {tys : List (ClassId × FieldType)} {w : va_W} {sz : Nat} : FrameBlind (va_Pc av (PCt D tys w sz)) := fun a U g mk q => by
  obtain ⟨q0, q1, qP, qK, qD, qN⟩ := q
  exact ⟨q0, q1, qP, va_K.moved (u := U) (U := U.calling g mk a) (Vm.Alike.refl U.vm) qK, qD, va_Nw.same (u := U) (U := U.calling g mk a) rfl rfl qN⟩
theorem goodAll {y : MethodName} {cc : ByteArray} {n : Nat} {ret : Option FieldType} (h : Cond.code y cc n ret ∈ aL) : GoodIn aL (Cond.code y cc n ret :: aL) := fun w hw => by
  rcases List.mem_cons.mp hw with h1 | h1
  · rw [h1]; exact ⟨h, aL_good h⟩
  · exact ⟨h1, aL_good h1⟩
theorem goodS {own : String} {index : Nat} {y : MethodName} {cc : ByteArray} {n : Nat} {ret : Option FieldType} (h1 : Cond.methodLink own index y ∈ aL) (h2 : Cond.static y ∈ aL) (h3 : Cond.initialized y.cls ∈ aL) (h : Cond.code y cc n ret ∈ aL) : GoodIn aL (va_wsS own index y (Cond.code y cc n ret :: aL)) :=
  goodIn_app (fun w hw => by
    simp only [List.mem_cons, List.not_mem_nil, or_false] at hw
    rcases hw with e | e | e
    · rw [e]; exact ⟨h1, aL_good h1⟩
    · rw [e]; exact ⟨h2, aL_good h2⟩
    · rw [e]; exact ⟨h3, aL_good h3⟩) (goodAll h)
theorem goodV {own C : String} {index : Nat} {y : MethodName} {cc : ByteArray} {n : Nat} {ret : Option FieldType} (h1 : Cond.methodLink own index y ∈ aL) (h2 : Cond.instanceMethod y ∈ aL) (h3 : Cond.selects C y y ∈ aL) (h4 : Cond.initialized C ∈ aL) (h : Cond.code y cc n ret ∈ aL) : GoodIn aL (wsV own index C y (Cond.code y cc n ret :: aL)) :=
  goodIn_app (fun w hw => by
    simp only [List.mem_cons, List.not_mem_nil, or_false] at hw
    rcases hw with e | e | e | e
    · rw [e]; exact ⟨h1, aL_good h1⟩
    · rw [e]; exact ⟨h2, aL_good h2⟩
    · rw [e]; exact ⟨h3, aL_good h3⟩
    · rw [e]; exact ⟨h4, aL_good h4⟩) (goodAll h)
section JCO
variable {p : Program} {l : Launch} {e : Env} {R : Room} {s : State} {m : MethodId} {args : Array Value} {below : List Frame} {meth : Method} {c : Code} {H : Heap} {locs : List Loc} {cells slots : Nat} {Q : State → Prop}
variable {pc : Nat} {ls : Array Slot} {rest st0 : List Value} {a : Array Value} {A0 A1 : Nat → Prop} {H0 : Heap} {mc ms : Nat} {free : Addr → Prop}
theorem va_callO {D : va_G} {tys2 : List (ClassId × FieldType)} {Po : Option Value → va_W → Prop} (hr : va_Run p l e R s m args below meth c H locs cells slots mc ms (F0 m pc ls st0) rest (QCt D tys2 A1 Po a) free) (hS : va_S A0 H0 H locs) (hA : ∀ q, q < H.size → A1 q → A0 q) (hf : ∀ q, free q → A0 q)
    (kk : ∀ (r : Option Value) (u : va_W) (t : State) (H1 : Heap) (locs1 : List Loc), t.heap = H1 → s.vm.Alike t.vm → Po r u → va_P D vwCl u t.heap → va_K D vwCl tys2 t → va_D A1 u → H.size ≤ H1.size → (∀ q : Nat, q < H.size → ¬ A1 q → H1[q]? = H[q]?) → va_S A0 H0 H1 locs1 → W p l e R s m args below meth c H1 locs1 (cells + mc) (slots + ms) Q (F0 m (pc + 3) ls (r.toList ++ rest))) : W p l e R s m args below meth c H locs cells slots Q (F0 m pc ls st0) := by
  intro T hT X
  obtain ⟨v, st₀, t, T', L, h0, X', hL, e1, e2, ⟨⟨r, u, hv, hp, hb, hk1, hd1⟩, hz, hk⟩, st⟩ := hr T hT X
  cases hv
  rw [h0] at hz hk
  obtain ⟨t2, a1, b1⟩ := kk v u t T'.heap (locs ++ L) e1.symm (by rw [← e2]; exact X'.warmed.alike) hp hb hk1 hd1 (by rw [e1]; exact hz) (fun q h1 h2 => by rw [e1]; exact hk q h1 h2)
    ⟨Nat.le_trans hS.1 (by rw [e1]; exact hz), fun q h1 h2 => by rw [e1, hk q (Nat.lt_of_lt_of_le h1 hS.1) (fun z => h2 (hA q (Nat.lt_of_lt_of_le h1 hS.1) z))]; exact hS.2.1 q h1 h2, fun q hq => by
      rcases List.mem_append.mp hq with h | h
      · exact hS.2.2 q h
      · exact hf _ (hL q h)⟩ T' rfl X'
  exact ⟨t2, st t2 a1, b1⟩
end JCO
section JC
variable {k : VK} {l : Launch} {D : va_G} {tys : List (ClassId × FieldType)} {R : Room} {cc : ByteArray} {nL : Nat} {own : String} {w : va_W} {cells slots pc : Nat} {lv : List (Nat × Value)} {rest : List Value}
theorem j_callS {y : MethodName} {cc2 : ByteArray} {n2 index n mc ms : Nat} {ret2 : Option FieldType} {rm : Room} {tys2 : List (ClassId × FieldType)} {wc wr : va_W} {av : List Value} {Po : Option Value → va_W → Prop} {tys3 : List (ClassId × FieldType)} (hM : Ct l y cc2 n2 ret2 rm D tys tys2 wc av Po mc ms) (h1 : Cond.methodLink own index y ∈ aL) (h2 : Cond.static y ∈ aL) (h3 : Cond.initialized y.cls ∈ aL) (h4 : Cond.code y cc2 n2 ret2 ∈ aL) (hd : y.cls ≠ "java/lang/invoke/MethodHandle" ∧ y.cls ≠ "java/lang/invoke/VarHandle" ∧ (parseMethodDescriptor y.desc).map (fun d => d.parameters.length) = some n) (hlen : av.length = n) (hrm : rm.cells = mc ∧ rm.slots = ms) (hR : rm.frames + 1 ≤ R.frames ∧ 8 + (n2 + 11) + rm.locals ≤ R.locals) (hc : cells + mc ≤ R.cells ∧ slots + ms ≤ R.slots) (hW : (rest.map fun v => v.category).sum ≤ 8) (isC isR : List Nat) (hC : isC.map (fun i => w[i]?) = wc.map some) (hRr : isR.map (fun i => w[i]?) = wr.map some) (hnC : va_nd isC = true) (hnd : va_nd isR = true) (hdis : ∀ i ∈ isR, i ∉ isC) (htt : ∀ s : State, va_K D vwCl tys s → va_K D vwCl tys2 s → va_K D vwCl tys3 s) {st : List Value} (hst : st = av.reverse ++ rest) (hdg : decode cc pc = .ok (.invokestatic index, 3)) (kk : ∀ (r : Option Value) (u : va_W), Po r u → V k l D tys3 R cc nL own (wr ++ u) (cells + mc) (slots + ms) (pc + 3) lv (r.toList ++ rest)) : V k l D tys R cc nL own w cells slots (pc) lv (st) := by
  obtain ⟨⟨p, e, s, m, args⟩, ⟨below, meth, c⟩, ⟨A, H0⟩, Q⟩ := k
  intro C H locs ls hP hD hS hl
  obtain ⟨hx, hb, hml, hown, hts, hK, hA, hlk, hN, hfl⟩ := id C
  dsimp only at *
  subst hst
  have hPc : va_P D vwCl wc H := by
    intro j q hq
    have h1 : (isC.map (fun i => w[i]?))[j]? = some (some q) := by rw [hC, List.getElem?_map, hq]; rfl
    rw [List.getElem?_map] at h1
    cases hi : isC[j]? with
    | none => rw [hi] at h1; cases h1
    | some i => rw [hi] at h1; exact hP i q (Option.some.inj h1)
  have hDc := hD.sub isC hnC hC
  have hFc := va_free (wc := wc) hD hS hA isC hC
  refine va_callO (va_runS (As := av) (rest := rest) ⟨hx, hb, hml, hown, hts⟩ (hM H.size) (va_cwS n hts (goodS h1 h2 h3 h4) rfl hrm.1 hrm.2 hd hR) ⟨blindP, fun U hU hW => ⟨rfl, by rw [hU], by rw [hU]; exact hPc, va_K.moved hW.alike hK, hDc.weaken (fun _ _ _ _ => trivial), va_Nw.warmM hW hN⟩⟩ rfl hlen hl.1 rfl (lv_room hW) hdg hc) hS (fun q _ h => hFc q h) hFc (fun r u t H1 locs1 ht hvm hpo hP1 hK1 hD1 hz1 hk1 hS1 => ?_)
  rw [ht] at hP1
  have hK1 := va_K.moved hvm.symm hK1
  obtain ⟨hP2, hD2⟩ := va_join (wr := wr) (w1 := u) hP hD isC isR hC hRr hnd hdis hk1 hFc hP1 hD1
  exact kk r u hpo ⟨hx, hb, hml, hown, hts, htt _ hK hK1, hA, hlk, hN, hfl⟩ H1 locs1 ls hP2 hD2 hS1 hl
theorem j_callSN {y : MethodName} {cc2 : ByteArray} {n2 index n mc ms : Nat} {ret2 : Option FieldType} {rm : Room} {tys2 : List (ClassId × FieldType)} {wc wr : va_W} {av : List Value} {Po : Option Value → va_W → Prop} {tys3 : List (ClassId × FieldType)} (hM : Ct l y cc2 n2 ret2 rm D tys tys2 wc av Po mc ms) (h1 : nestW = Cond.methodLinkNest own index y RX2) (h2 : Cond.static y ∈ aL) (h3 : Cond.initialized y.cls ∈ aL) (h4 : Cond.code y cc2 n2 ret2 ∈ aL) (hd : y.cls ≠ "java/lang/invoke/MethodHandle" ∧ y.cls ≠ "java/lang/invoke/VarHandle" ∧ (parseMethodDescriptor y.desc).map (fun d => d.parameters.length) = some n) (hlen : av.length = n) (hrm : rm.cells = mc ∧ rm.slots = ms) (hR : rm.frames + 1 ≤ R.frames ∧ 8 + (n2 + 11) + rm.locals ≤ R.locals) (hc : cells + mc ≤ R.cells ∧ slots + ms ≤ R.slots) (hW : (rest.map fun v => v.category).sum ≤ 8) (isC isR : List Nat) (hC : isC.map (fun i => w[i]?) = wc.map some) (hRr : isR.map (fun i => w[i]?) = wr.map some) (hnC : va_nd isC = true) (hnd : va_nd isR = true) (hdis : ∀ i ∈ isR, i ∉ isC) (htt : ∀ s : State, va_K D vwCl tys s → va_K D vwCl tys2 s → va_K D vwCl tys3 s) {st : List Value} (hst : st = av.reverse ++ rest) (hdg : decode cc pc = .ok (.invokestatic index, 3)) (kk : ∀ (r : Option Value) (u : va_W), Po r u → V k l D tys3 R cc nL own (wr ++ u) (cells + mc) (slots + ms) (pc + 3) lv (r.toList ++ rest)) : V k l D tys R cc nL own w cells slots (pc) lv (st) := by
  obtain ⟨⟨p, e, s, m, args⟩, ⟨below, meth, c⟩, ⟨A, H0⟩, Q⟩ := k
  intro C H locs ls hP hD hS hl
  obtain ⟨hx, hb, hml, hown, hts, hK, hA, hlk, hN, hfl⟩ := id C
  dsimp only at *
  subst hst
  have hPc : va_P D vwCl wc H := by
    intro j q hq
    have h1 : (isC.map (fun i => w[i]?))[j]? = some (some q) := by rw [hC, List.getElem?_map, hq]; rfl
    rw [List.getElem?_map] at h1
    cases hi : isC[j]? with
    | none => rw [hi] at h1; cases h1
    | some i => rw [hi] at h1; exact hP i q (Option.some.inj h1)
  have hDc := hD.sub isC hnC hC
  have hFc := va_free (wc := wc) hD hS hA isC hC
  refine va_callO (va_runSN (As := av) (rest := rest) ⟨hx, hb, hml, hown, hts⟩ (hM H.size) ⟨va_cnB n hts (goodAll h4) rfl hrm.1 hrm.2 (by rw [← h1]; exact hN) (hts _ h3) hd hR, hts _ h2, trivial⟩ ⟨blindP, fun U hU hW => ⟨rfl, by rw [hU], by rw [hU]; exact hPc, va_K.moved hW.alike hK, hDc.weaken (fun _ _ _ _ => trivial), va_Nw.warmM hW hN⟩⟩ rfl hlen hl.1 rfl (lv_room hW) hdg hc) hS (fun q _ h => hFc q h) hFc (fun r u t H1 locs1 ht hvm hpo hP1 hK1 hD1 hz1 hk1 hS1 => ?_)
  rw [ht] at hP1
  have hK1 := va_K.moved hvm.symm hK1
  obtain ⟨hP2, hD2⟩ := va_join (wr := wr) (w1 := u) hP hD isC isR hC hRr hnd hdis hk1 hFc hP1 hD1
  exact kk r u hpo ⟨hx, hb, hml, hown, hts, htt _ hK hK1, hA, hlk, hN, hfl⟩ H1 locs1 ls hP2 hD2 hS1 hl
theorem j_callV {y : MethodName} {cc2 : ByteArray} {n2 index n mc ms : Nat} {ret2 : Option FieldType} {rm : Room} {tys2 : List (ClassId × FieldType)} {wc wr : va_W} {av : List Value} {Po : Option Value → va_W → Prop} {tys3 : List (ClassId × FieldType)} {b ci : Nat} {qc : vw_C} {fs : List Value} (hM : Ct l y cc2 n2 ret2 rm D tys tys2 wc (.ref b :: av) Po mc ms) (q0 : Nat) (he : w[q0]? = some (b, .inr (ci, fs))) (hcl : vwCl[ci]? = some qc) (h1 : Cond.methodLink own index y ∈ aL) (h2 : Cond.instanceMethod y ∈ aL) (h5 : Cond.selects qc.1 y y ∈ aL) (h3 : Cond.initialized qc.1 ∈ aL) (h4 : Cond.code y cc2 n2 ret2 ∈ aL) (hd : y.cls = qc.1 ∧ y.cls ≠ "java/lang/invoke/MethodHandle" ∧ y.cls ≠ "java/lang/invoke/VarHandle" ∧ (parseMethodDescriptor y.desc).map (fun d => d.parameters.length) = some n) (hlen : av.length = n) (hrm : rm.cells = mc ∧ rm.slots = ms) (hR : rm.frames + 1 ≤ R.frames ∧ 8 + (n2 + 11) + rm.locals ≤ R.locals) (hc : cells + mc ≤ R.cells ∧ slots + ms ≤ R.slots) (hW : (rest.map fun v => v.category).sum ≤ 8) (isC isR : List Nat) (hC : isC.map (fun i => w[i]?) = wc.map some) (hRr : isR.map (fun i => w[i]?) = wr.map some) (hnC : va_nd isC = true) (hnd : va_nd isR = true) (hdis : ∀ i ∈ isR, i ∉ isC) (htt : ∀ s : State, va_K D vwCl tys s → va_K D vwCl tys2 s → va_K D vwCl tys3 s) {st : List Value} (hst : st = av.reverse ++ .ref b :: rest) (hdg : decode cc pc = .ok (.invokevirtual index, 3)) (kk : ∀ (r : Option Value) (u : va_W), Po r u → V k l D tys3 R cc nL own (wr ++ u) (cells + mc) (slots + ms) (pc + 3) lv (r.toList ++ rest)) : V k l D tys R cc nL own w cells slots (pc) lv (st) := by
  obtain ⟨⟨p, e, s, m, args⟩, ⟨below, meth, c⟩, ⟨A, H0⟩, Q⟩ := k
  intro C H locs ls hP hD hS hl
  obtain ⟨hx, hb, hml, hown, hts, hK, hA, hlk, hN, hfl⟩ := id C
  dsimp only at *
  subst hst
  have hrcv := va_recv hK hP (ci := ci) (q0 := q0) hcl he
  have hPc : va_P D vwCl wc H := by
    intro j q hq
    have h1 : (isC.map (fun i => w[i]?))[j]? = some (some q) := by rw [hC, List.getElem?_map, hq]; rfl
    rw [List.getElem?_map] at h1
    cases hi : isC[j]? with
    | none => rw [hi] at h1; cases h1
    | some i => rw [hi] at h1; exact hP i q (Option.some.inj h1)
  have hDc := hD.sub isC hnC hC
  have hFc := va_free (wc := wc) hD hS hA isC hC
  refine va_callO (va_runV (C := qc.1) (As := av) (rest := rest) ⟨hx, hb, hml, hown, hts⟩ (hM H.size) (cwV n hts (goodV h1 h2 h5 h3 h4) rfl hrm.1 hrm.2 hd hR) ⟨blindP, hrcv, fun U hU hW => ⟨rfl, by rw [hU], by rw [hU]; exact hPc, va_K.moved hW.alike hK, hDc.weaken (fun _ _ _ _ => trivial), va_Nw.warmM hW hN⟩⟩ rfl hlen hl.1 rfl (lv_room hW) hdg hc) hS (fun q _ h => hFc q h) hFc (fun r u t H1 locs1 ht hvm hpo hP1 hK1 hD1 hz1 hk1 hS1 => ?_)
  rw [ht] at hP1
  have hK1 := va_K.moved hvm.symm hK1
  obtain ⟨hP2, hD2⟩ := va_join (wr := wr) (w1 := u) hP hD isC isR hC hRr hnd hdis hk1 hFc hP1 hD1
  exact kk r u hpo ⟨hx, hb, hml, hown, hts, htt _ hK hK1, hA, hlk, hN, hfl⟩ H1 locs1 ls hP2 hD2 hS1 hl
theorem j_callI {y : MethodName} {cc2 : ByteArray} {n2 index n mc ms : Nat} {rm : Room} {tys2 : List (ClassId × FieldType)} {wc wr : va_W} {av : List Value} {Po : Option Value → va_W → Prop} {tys3 : List (ClassId × FieldType)} {b : Nat} (hM : Ct l y cc2 n2 none rm D tys tys2 wc (.ref b :: av) Po mc ms) (h1 : Cond.methodLink own index y ∈ aL) (h2 : Cond.instanceMethod y ∈ aL) (h3 : Cond.initialized y.cls ∈ aL) (h4 : Cond.code y cc2 n2 none ∈ aL) (hy1 : y.name = "<init>") (hd : y.cls ≠ "java/lang/invoke/MethodHandle" ∧ y.cls ≠ "java/lang/invoke/VarHandle" ∧ (parseMethodDescriptor y.desc).map (fun d => d.parameters.length) = some n) (hlen : av.length = n) (hrm : rm.cells = mc ∧ rm.slots = ms) (hR : rm.frames + 1 ≤ R.frames ∧ 8 + (n2 + 11) + rm.locals ≤ R.locals) (hc : cells + mc ≤ R.cells ∧ slots + ms ≤ R.slots) (hW : (rest.map fun v => v.category).sum ≤ 8) (isC isR : List Nat) (hC : isC.map (fun i => w[i]?) = wc.map some) (hRr : isR.map (fun i => w[i]?) = wr.map some) (hnC : va_nd isC = true) (hnd : va_nd isR = true) (hdis : ∀ i ∈ isR, i ∉ isC) (htt : ∀ s : State, va_K D vwCl tys s → va_K D vwCl tys2 s → va_K D vwCl tys3 s) {st : List Value} (hst : st = av.reverse ++ .ref b :: rest) (hdg : decode cc pc = .ok (.invokespecial index, 3)) (kk : ∀ (r : Option Value) (u : va_W), Po r u → V k l D tys3 R cc nL own (wr ++ u) (cells + mc) (slots + ms) (pc + 3) lv (r.toList ++ rest)) : V k l D tys R cc nL own w cells slots (pc) lv (st) := by
  obtain ⟨⟨p, e, s, m, args⟩, ⟨below, meth, c⟩, ⟨A, H0⟩, Q⟩ := k
  intro C H locs ls hP hD hS hl
  obtain ⟨hx, hb, hml, hown, hts, hK, hA, hlk, hN, hfl⟩ := id C
  dsimp only at *
  subst hst
  have hPc : va_P D vwCl wc H := by
    intro j q hq
    have h1 : (isC.map (fun i => w[i]?))[j]? = some (some q) := by rw [hC, List.getElem?_map, hq]; rfl
    rw [List.getElem?_map] at h1
    cases hi : isC[j]? with
    | none => rw [hi] at h1; cases h1
    | some i => rw [hi] at h1; exact hP i q (Option.some.inj h1)
  have hDc := hD.sub isC hnC hC
  have hFc := va_free (wc := wc) hD hS hA isC hC
  refine va_callO (va_runI (As := av) (rest := rest) ⟨hx, hb, hml, hown, hts⟩ (hM H.size) (cwI n hts (goodAll h4) rfl hrm.1 hrm.2 (hts _ h3) (hts _ h1) (hts _ h2) hy1 hd hR) ⟨blindP, fun U hU hW => ⟨rfl, by rw [hU], by rw [hU]; exact hPc, va_K.moved hW.alike hK, hDc.weaken (fun _ _ _ _ => trivial), va_Nw.warmM hW hN⟩⟩ rfl hlen hl.1 rfl (lv_room hW) hdg hc) hS (fun q _ h => hFc q h) hFc (fun r u t H1 locs1 ht hvm hpo hP1 hK1 hD1 hz1 hk1 hS1 => ?_)
  rw [ht] at hP1
  have hK1 := va_K.moved hvm.symm hK1
  obtain ⟨hP2, hD2⟩ := va_join (wr := wr) (w1 := u) hP hD isC isR hC hRr hnd hdis hk1 hFc hP1 hD1
  exact kk r u hpo ⟨hx, hb, hml, hown, hts, htt _ hK hK1, hA, hlk, hN, hfl⟩ H1 locs1 ls hP2 hD2 hS1 hl
theorem j_objInit {index : Nat} {b : Nat} (h1 : Cond.methodLink own index objectInit ∈ aL) (h2 : Cond.instanceMethod objectInit ∈ aL) (h3 : Cond.code objectInit ⟨#[0xb1]⟩ 1 none ∈ aL) (hdg : decode cc pc = .ok (.invokespecial index, 3)) (hf : 1 ≤ R.frames) (hlo : (rest.map fun v => v.category).sum + 12 ≤ R.locals) (kk : V k l D tys R cc nL own w cells slots (pc + 3) lv (rest)) : V k l D tys R cc nL own w cells slots (pc) lv (.ref b :: rest) := by
  obtain ⟨⟨p, e, s, m, args⟩, ⟨below, meth, c⟩, ⟨A, H0⟩, Q⟩ := k
  intro C H locs ls hP hD hS hl
  obtain ⟨hx, hb, hml, hown, hts, hK, hA, hlk, hN, hfl⟩ := id C
  dsimp only at *
  exact W.objInit hx hb hown (hts _ h1) (hts _ h2) (hts _ h3) rfl (by rw [hml]; exact hl.1) rfl hdg hf (by show 2 * 0 + _ + 12 ≤ _; omega) (kk C H locs ls hP hD hS hl)
theorem j_new {index N ci : Nat} {C0 : String} {T : u_T} (hin : ∀ w ∈ u_ws C0 T N, w ∈ aL) (ty : Nat → FieldType) (hty : ∀ k, k < N → parseFieldDescriptor (T k).2.2.1 = some (ty k)) (h1 : Cond.classLink own index C0 ∈ aL) (h2 : Cond.instantiable C0 N ∈ aL) (h3 : Cond.initialized C0 ∈ aL) (hc : vwCl[ci]? = some (C0, T, N)) {fs : List Value} (hfs : ∀ j, j < N → defaultValue (ty j) = vp_V fs j) (hcells : cells + 1 ≤ R.cells) (hslots : slots + N ≤ R.slots) (hdg : decode cc pc = .ok (.new index, 3)) (kk : ∀ q : Nat, V k l D tys R cc nL own (w ++ [(q, .inr (ci, fs))]) (cells + 1) (slots + N) (pc + 3) lv (.ref q :: rest)) : V k l D tys R cc nL own w cells slots (pc) lv (rest) := by
  obtain ⟨⟨p, e, s, m, args⟩, ⟨below, meth, c⟩, ⟨A, H0⟩, Q⟩ := k
  intro C H locs ls hP hD hS hl
  obtain ⟨hx, hb, hml, hown, hts, hK, hA, hlk, hN, hfl⟩ := id C
  dsimp only at *
  exact va_new (fs := fs) hx hb hts hin ty hty hown (hts _ h1) (hts _ h2) (hts _ h3) hK hP hD hS hA hc hfs hcells hslots hdg (fun q H1 hP1 hD1 hS1 => kk q C H1 locs ls hP1 hD1 hS1 hl)
theorem j_newa {atype : ArrayType} {ty : FieldType} (h1 : Cond.arrayClass (newarray.typeOf atype) ∈ aL) (hty : newarray.typeOf atype = ty) {n : Int32} {N : Nat} {a0 : vp_A} (ha : ∀ cA : ClassId, vp_cell cA a0 = arrV cA N (fun _ => defaultValue ty)) (hn : ¬ n < 0) (hN : n.toNatClampNeg = N) (hbytes : N * componentBytes ty ≤ 536870912) (hcells : cells + 1 ≤ R.cells) (hslots : slots + N ≤ R.slots) (hdg : decode cc pc = .ok (.newarray atype, 2)) (kk : ∀ (q : Nat) (cA : ClassId), V k l D (tys ++ [(cA, ty)]) R cc nL own (w ++ [(q, .inl (cA, a0))]) (cells + 1) (slots + N) (pc + 2) lv (.ref q :: rest)) : V k l D tys R cc nL own w cells slots (pc) lv (.int n :: rest) := by
  obtain ⟨⟨p, e, s, m, args⟩, ⟨below, meth, c⟩, ⟨A, H0⟩, Q⟩ := k
  intro C H locs ls hP hD hS hl
  obtain ⟨hx, hb, hml, hown, hts, hK, hA, hlk, hN0, hfl⟩ := id C
  dsimp only at *
  exact va_newa hx hb (hts _ h1) hty hK hP hD hS hA ha hn hN hbytes hcells hslots hdg (fun q cA H1 hK1 hP1 hD1 hS1 => kk q cA ⟨hx, hb, hml, hown, hts, hK1, hA, hlk, hN0, hfl⟩ H1 locs ls hP1 hD1 hS1 hl)
theorem j_newaP {atype : ArrayType} {ty : FieldType} {cA0 : ClassId} (t0 : Nat) (ht : tys[t0]? = some (cA0, ty)) (hpr : ∀ U cA, va_RA U cA ty → U.vm.findClass ("[" ++ ty.toString) = some cA) (h1 : Cond.arrayClass (newarray.typeOf atype) ∈ aL) (hty : newarray.typeOf atype = ty) {n : Int32} {N : Nat} {a0 : vp_A} (ha : ∀ cA : ClassId, vp_cell cA a0 = arrV cA N (fun _ => defaultValue ty)) (hn : ¬ n < 0) (hN : n.toNatClampNeg = N) (hbytes : N * componentBytes ty ≤ 536870912) (hcells : cells + 1 ≤ R.cells) (hslots : slots + N ≤ R.slots) (hdg : decode cc pc = .ok (.newarray atype, 2)) (kk : ∀ (q : Nat), V k l D tys R cc nL own (w ++ [(q, .inl (cA0, a0))]) (cells + 1) (slots + N) (pc + 2) lv (.ref q :: rest)) : V k l D tys R cc nL own w cells slots (pc) lv (.int n :: rest) := by
  obtain ⟨⟨p, e, s, m, args⟩, ⟨below, meth, c⟩, ⟨A, H0⟩, Q⟩ := k
  intro C H locs ls hP hD hS hl
  obtain ⟨hx, hb, hml, hown, hts, hK, hA, hlk, hN0, hfl⟩ := id C
  dsimp only at *
  exact va_newa hx hb (hts _ h1) hty hK hP hD hS hA ha hn hN hbytes hcells hslots hdg (fun q cA H1 hK1 hP1 hD1 hS1 => by
    have e1 := hpr _ _ (hK1.2 tys.length (cA, ty) (by rw [List.getElem?_append_right (Nat.le_refl _), Nat.sub_self]; rfl)).2
    have e2 := hpr _ _ (hK.2 t0 _ ht).2
    have e3 : cA = cA0 := Option.some.inj (e1.symm.trans e2)
    subst e3
    exact kk q C H1 locs ls hP1 hD1 hS1 hl)
theorem j_widen {k2 n2 : Nat} (h1 : cells ≤ k2) (h2 : slots ≤ n2) (kk : V k l D tys R cc nL own w k2 n2 (pc) lv (rest)) : V k l D tys R cc nL own w cells slots (pc) lv (rest) := by
  obtain ⟨⟨p, e, s, m, args⟩, ⟨below, meth, c⟩, ⟨A, H0⟩, Q⟩ := k
  intro C H locs ls hP hD hS hl
  obtain ⟨hx, hb, hml, hown, hts, hK, hA, hlk, hN, hfl⟩ := id C
  dsimp only at *
  exact W.widen h1 h2 (kk C H locs ls hP hD hS hl)
theorem j_aret {a : Nat} {rt : FieldType} {ret : Option FieldType} {Po : Option Value → va_W → Prop} (hret : ret = some rt) (hrt : (∃ n, rt = .object n) ∨ ∃ t, rt = .array t) (hR : VRet k D tys ret Po cells slots) (hdg : decode cc pc = .ok (.areturn, 1)) (hpo : Po (some (.ref a)) w) : V k l D tys R cc nL own w cells slots (pc) lv ([.ref a]) := by
  obtain ⟨⟨p, e, s, m, args⟩, ⟨below, meth, c⟩, ⟨A, H0⟩, Q⟩ := k
  intro C H locs ls hP hD hS hl
  obtain ⟨hx, hb, hml, hown, hts, hK, hA, hlk, hN, hfl⟩ := id C
  dsimp only at *
  obtain ⟨h1, h2, h3⟩ := hR
  dsimp only at h1 h2 h3
  subst h2 h3
  subst hret
  exact W.aret hx hb h1 hrt (Or.inr ⟨a, rfl⟩) (fun t ht hW => ⟨⟨_, w, rfl, hpo, by rw [ht]; exact hP, va_K.moved hW.alike hK, hD⟩, hS.F ht⟩) hS.2.2 hdg
end JC
section JP
variable {k : VK} {l : Launch} {D : va_G} {tys : List (ClassId × FieldType)} {R : Room} {cc : ByteArray} {nL : Nat} {own : String} {w : va_W} {cells slots pc : Nat} {lv : List (Nat × Value)} {rest : List Value}
/-- a static method of numbers alone: the world stays -/
theorem j_callS0 {y : MethodName} {cc2 : ByteArray} {n2 index n : Nat} {ret2 : Option FieldType} {rm : Room} {av : List Value} {r0 : Value} (hM : Ct l y cc2 n2 ret2 rm D tys tys [] av (fun r u => r = some r0 ∧ u = []) 0 0) (h1 : Cond.methodLink own index y ∈ aL) (h2 : Cond.static y ∈ aL) (h3 : Cond.initialized y.cls ∈ aL) (h4 : Cond.code y cc2 n2 ret2 ∈ aL) (hd : y.cls ≠ "java/lang/invoke/MethodHandle" ∧ y.cls ≠ "java/lang/invoke/VarHandle" ∧ (parseMethodDescriptor y.desc).map (fun d => d.parameters.length) = some n) (hlen : av.length = n) (hrm : rm.cells = 0 ∧ rm.slots = 0) (hR : rm.frames + 1 ≤ R.frames ∧ 8 + (n2 + 11) + rm.locals ≤ R.locals) (hc : cells ≤ R.cells ∧ slots ≤ R.slots) (hW : (rest.map fun v => v.category).sum ≤ 8) (hnw : ∀ i ∈ List.range w.length, i ∉ ([] : List Nat)) (hnd : va_nd (List.range w.length) = true) {st : List Value} (hst : st = av.reverse ++ rest) (hdg : decode cc pc = .ok (.invokestatic index, 3)) (kk : V k l D tys R cc nL own w cells slots (pc + 3) lv (r0 :: rest)) : V k l D tys R cc nL own w cells slots (pc) lv (st) :=
  j_callS (mc := 0) (ms := 0) (wr := w) (tys3 := tys) hM h1 h2 h3 h4 hd hlen hrm hR hc hW [] (List.range w.length) rfl (by
    apply List.ext_getElem?
    intro i
    simp only [List.getElem?_map]
    by_cases hi : i < w.length
    · rw [List.getElem?_range hi, List.getElem?_eq_getElem hi]
      simp only [Option.map_some, List.getElem?_eq_getElem hi]
    · rw [List.getElem?_eq_none (by simpa using hi), List.getElem?_eq_none (by omega)]
      rfl) rfl hnd hnw (fun _ h _ => h) hst hdg (fun r u hpo => by
    obtain ⟨rfl, rfl⟩ := hpo
    rw [List.append_nil]
    exact kk)
theorem j_callSN0 {y : MethodName} {cc2 : ByteArray} {n2 index n : Nat} {ret2 : Option FieldType} {rm : Room} {av : List Value} {r0 : Value} (hM : Ct l y cc2 n2 ret2 rm D tys tys [] av (fun r u => r = some r0 ∧ u = []) 0 0) (h1 : nestW = Cond.methodLinkNest own index y RX2) (h2 : Cond.static y ∈ aL) (h3 : Cond.initialized y.cls ∈ aL) (h4 : Cond.code y cc2 n2 ret2 ∈ aL) (hd : y.cls ≠ "java/lang/invoke/MethodHandle" ∧ y.cls ≠ "java/lang/invoke/VarHandle" ∧ (parseMethodDescriptor y.desc).map (fun d => d.parameters.length) = some n) (hlen : av.length = n) (hrm : rm.cells = 0 ∧ rm.slots = 0) (hR : rm.frames + 1 ≤ R.frames ∧ 8 + (n2 + 11) + rm.locals ≤ R.locals) (hc : cells ≤ R.cells ∧ slots ≤ R.slots) (hW : (rest.map fun v => v.category).sum ≤ 8) (hnw : ∀ i ∈ List.range w.length, i ∉ ([] : List Nat)) (hnd : va_nd (List.range w.length) = true) {st : List Value} (hst : st = av.reverse ++ rest) (hdg : decode cc pc = .ok (.invokestatic index, 3)) (kk : V k l D tys R cc nL own w cells slots (pc + 3) lv (r0 :: rest)) : V k l D tys R cc nL own w cells slots (pc) lv (st) :=
  j_callSN (mc := 0) (ms := 0) (wr := w) (tys3 := tys) hM h1 h2 h3 h4 hd hlen hrm hR hc hW [] (List.range w.length) rfl (by
    apply List.ext_getElem?
    intro i
    simp only [List.getElem?_map]
    by_cases hi : i < w.length
    · rw [List.getElem?_range hi, List.getElem?_eq_getElem hi]
      simp only [Option.map_some, List.getElem?_eq_getElem hi]
    · rw [List.getElem?_eq_none (by simpa using hi), List.getElem?_eq_none (by omega)]
      rfl) rfl hnd hnw (fun _ h _ => h) hst hdg (fun r u hpo => by
    obtain ⟨rfl, rfl⟩ := hpo
    rw [List.append_nil]
    exact kk)
end JP
