/-! contracts that throw, and their catching, over V -/
def faceW : Cond → Bool
  | .castable .. => true
  | .declares _ => true
  | _ => false
def fL : List Cond := lw_tbl.filter faceW
theorem fL_in {w : Cond} (h : w ∈ lw_tbl) (g : faceW w = true) : w ∈ fL := List.mem_filter.mpr ⟨h, g⟩
theorem fL_ot {w : Cond} (h : w ∈ fL) : w.onTables = true := by
  have hg := (List.mem_filter.mp h).2
  cases w <;> first | rfl | exact absurd hg Bool.false_ne_true
theorem fL_warm {s U : State} (hW : s.WarmedH U.vm) (h : ∀ w ∈ fL, va_Nw w s) : ∀ w ∈ fL, va_Nw w U := by
  intro w hw
  have hg := (List.mem_filter.mp hw).2
  cases w <;> first | exact va_Nw.warmC hW (h _ hw) | exact va_Nw.warmD hW (h _ hw) | exact absurd hg Bool.false_ne_true
abbrev XI : String := "java/lang/IndexOutOfBoundsException"
abbrev XA : String := "java/lang/IllegalArgumentException"
abbrev XN : String := "java/util/NoSuchElementException"
abbrev XS : String := "java/lang/IllegalStateException"
/-- what a throw and a catch rest on -/
def ZX (A : Nat → Prop) (U : State) (H : Heap) : Prop := vx_Zq Bundle.tN "UNASSIGNED_STACK" Bundle.steD A U H ∧ vx_Zq Bundle.tN "SUPPRESSED_SENTINEL" Bundle.listD A U H ∧ (∀ w ∈ fL, va_Nw w U) ∧ va_Nc XA XI U ∧ va_Nc XI XN U
theorem ZX_call {s U : State} {A : Nat → Prop} {H0 H : Heap} {locs : List Loc} {w : va_W} (hW : s.WarmedH U.vm) (hS : va_S A H0 H locs) (hF : ∀ q, va_A w H.size q → A q) (h : ZX A s H0) (hU : U.heap = H) : ZX (va_A w H.size) U U.heap := by
  obtain ⟨h1, h2, h3, h4, h5⟩ := h
  rw [hU]
  exact ⟨((h1.kept hS.2.1).moved hW.alike).narrow hF, ((h2.kept hS.2.1).moved hW.alike).narrow hF, fL_warm hW h3, h4.moved hW.alike, h5.moved hW.alike⟩
def PCX (D : va_G) (tys : List (ClassId × FieldType)) (w : va_W) (sz : Nat) : State → Prop := fun U => PCt D tys w sz U ∧ ZX (va_A w sz) U U.heap
theorem fL_same {u U : State} (hvm : u.vm = U.vm) (h : ∀ w ∈ fL, va_Nw w u) : ∀ w ∈ fL, va_Nw w U := fun w hw => va_Nw.same (fL_ot hw) hvm (h w hw)
theorem blindX {av : List Value} {D : va_G} {tys : List (ClassId × FieldType)} {w : va_W} {sz : Nat} : FrameBlind (va_Pc av (PCX D tys w sz)) := fun a U g mk q => by
  obtain ⟨q0, ⟨q1, qP, qK, qD, qN⟩, z1, z2, z3, z4, z5⟩ := q
  have hal : U.vm.Alike (U.calling g mk a).vm := Vm.Alike.refl U.vm
  exact ⟨q0, ⟨q1, qP, va_K.moved (u := U) (U := U.calling g mk a) hal qK, qD, va_Nw.same (u := U) (U := U.calling g mk a) rfl rfl qN⟩, vx_Zq.moved (U := U.calling g mk a) hal z1, vx_Zq.moved (U := U.calling g mk a) hal z2, fL_same (u := U) (U := U.calling g mk a) rfl z3, va_Nc.moved (U := U.calling g mk a) hal z4, va_Nc.moved (U := U.calling g mk a) hal z5⟩
def XCt (D : va_G) (tys : List (ClassId × FieldType)) (A : Nat → Prop) (E0 : String) (Po : va_W → Prop) : String → State → State → Prop := fun E st t =>
  (E = E0 ∧ ∃ u : va_W, Po u ∧ va_P D vwCl u t.heap ∧ va_K D vwCl tys t ∧ va_D A u) ∧ va_F A st t
def noQ : Array Value → State → Outcome → State → Prop := fun _ _ _ _ => False
/-- a method that throws E0, and leaves the world u with Po u -/
def CtT (l : Launch) (y : MethodName) (cc : ByteArray) (n : Nat) (ret : Option FieldType) (rm : Room) (D : va_G) (tys : List (ClassId × FieldType)) (w : va_W) (av : List Value) (E0 : String) (Po : va_W → Prop) (mc ms : Nat) : Prop :=
  ∀ sz : Nat, vx_Met l y (Cond.code y cc n ret :: aL) rm (va_Pc av (PCX D tys w sz)) noQ (XCt D tys (va_A w sz) E0 Po) mc ms (va_A w sz)
def VThr (k : VK) (D : va_G) (tys : List (ClassId × FieldType)) (E0 : String) (Po : va_W → Prop) (mc ms : Nat) : Prop :=
  k.2.2.1.2 = k.1.2.2.1.heap ∧ k.2.2.2 = vx_MQ k.2.1.1 noQ (XCt D tys k.2.2.1.1 E0 Po) k.1.2.2.2.2 k.1.2.2.1 mc ms k.2.2.1.1 ∧ (∀ x ∈ k.2.1.2.2.exceptionTable.toList, False) ∧ ZX k.2.2.1.1 k.1.2.2.1 k.1.2.2.1.heap
theorem CtT.of {l : Launch} {y : MethodName} {cc : ByteArray} {n : Nat} {ret : Option FieldType} {rm : Room} {D : va_G} {tys : List (ClassId × FieldType)} {w : va_W} {av : List Value} {E0 : String} {Po : va_W → Prop} {mc ms : Nat} (hfl : l.flags = flags0) (hy : plainName y.cls = true) (hn : (lg_sl av).length ≤ n)
    (body : ∀ k : VK, VThr k D tys E0 Po mc ms → V k l D tys rm cc n y.cls w 0 0 0 (lv_args 0 av) []) : CtT l y cc n ret rm D tys w av E0 Po mc ms := by
  intro sz
  refine vx_ofW (cc := cc) (maxL := n) (ret := ret) hy rfl ?_
  intro p e s m args below meth c s₁ B hml htab hv
  obtain ⟨rfl, ⟨hsz, hP, hK, hD0, hN⟩, hZ⟩ := hv
  subst hsz
  have hts : ∀ w ∈ aL, w.before av.toArray s = true := fun w hw => atoms_spec (ws := Cond.code y cc n ret :: aL) B.pre w (List.mem_cons_of_mem _ hw)
  have hl := lv_entry av (n := n) hn
  rw [lg_entry_eq]
  have hb := body ((p, e, s, m, av.toArray), (below, meth, c), (va_A w s.heap.size, s.heap), vx_MQ below noQ (XCt D tys (va_A w s.heap.size) E0 Po) av.toArray s mc ms (va_A w s.heap.size)) ⟨rfl, rfl, htab, hZ⟩
  exact hb ⟨B.exec, B.bytes, hml, findClass_of_methodNamed B.named, hts, hK, fun q h => Or.inr h, B.notSynchronized, hN, hfl⟩ s.heap [] _ hP hD0.self va_S.rf hl
theorem l_noTr {l : Launch} (h : l.flags = flags0) : l.stackTraces = false := by
  unfold Launch.stackTraces; rw [h]; decide
/-- a static method with handlers -/
def CtW (l : Launch) (y : MethodName) (cc : ByteArray) (n : Nat) (ret : Option FieldType) (hh : List (Nat × Nat × Nat × Nat)) (rm : Room) (D : va_G) (tys : List (ClassId × FieldType)) (w : va_W) (av : List Value) (Po : Option Value → va_W → Prop) (mc ms : Nat) : Prop :=
  ∀ sz : Nat, Met l y (Cond.codeWith y cc n ret hh :: aL) rm (va_Pc av (PCX D tys w sz)) (QCt D tys (va_A w sz) Po) mc ms (va_A w sz)
def VCat (k : VK) (hh : List (Nat × Nat × Nat × Nat)) : Prop := k.2.1.2.2.exceptionTable.toList = tableOf hh ∧ ZX k.2.2.1.1 k.1.2.2.1 k.2.2.1.2
theorem CtW.of {l : Launch} {y : MethodName} {cc : ByteArray} {n : Nat} {ret : Option FieldType} {hh : List (Nat × Nat × Nat × Nat)} {rm : Room} {D : va_G} {tys : List (ClassId × FieldType)} {w : va_W} {av : List Value} {Po : Option Value → va_W → Prop} {mc ms : Nat} (hfl : l.flags = flags0) (hy : plainName y.cls = true) (hn : (lg_sl av).length ≤ n)
    (body : ∀ k : VK, VRet k D tys ret Po mc ms → VCat k hh → V k l D tys rm cc n y.cls w 0 0 0 (lv_args 0 av) []) : CtW l y cc n ret hh rm D tys w av Po mc ms := by
  intro sz
  refine va_MetW (cc := cc) (maxL := n) (ret := ret) (hh := hh) hy rfl ?_
  intro p e s m args below meth c s₁ B hml hv
  obtain ⟨rfl, ⟨hsz, hP, hK, hD0, hN⟩, hZ⟩ := hv
  subst hsz
  have hts : ∀ w ∈ aL, w.before av.toArray s = true := fun w hw => atoms_spec (ws := Cond.codeWith y cc n ret hh :: aL) B.pre w (List.mem_cons_of_mem _ hw)
  have hl := lv_entry av (n := n) hn
  have htab := vx_table (x := y) B (atoms_spec (ws := Cond.codeWith y cc n ret hh :: aL) B.pre _ List.mem_cons_self)
  rw [lg_entry_eq]
  have hb := body ((p, e, s, m, av.toArray), (below, meth, c), (va_A w s.heap.size, s.heap), MQ below (QCt D tys (va_A w s.heap.size) Po) av.toArray s mc ms (va_A w s.heap.size)) ⟨B.returns, rfl, rfl⟩ ⟨htab, hZ⟩
  exact hb ⟨B.exec, B.bytes, hml, findClass_of_methodNamed B.named, hts, hK, fun q h => Or.inr h, B.notSynchronized, hN, hfl⟩ s.heap [] _ hP hD0.self va_S.rf hl
section VXT
variable {p : Program} {l : Launch} {e : Env} {R : Room} {s : State} {m : MethodId} {args : Array Value} {below : List Frame} {meth : Method} {c : Code} {H : Heap} {locs : List Loc} {cells slots : Nat} {Q : State → Prop}
variable {pc : Nat} {ls : Array Slot} {rest st0 : List Value} {a : Array Value} {A0 A1 : Nat → Prop} {H0 : Heap} {mc ms : Nat} {free : Addr → Prop}
theorem vx_callT {D : va_G} {tys : List (ClassId × FieldType)} {E0 : String} {Po : va_W → Prop} (hr : vx_Run p l e R s m args below meth c H locs cells slots mc ms (F0 m pc ls st0) rest (noQ a) (XCt D tys A1 E0 Po) free) (hS : va_S A0 H0 H locs) (hA : ∀ q, q < H.size → A1 q → A0 q) (hf : ∀ q, free q → A0 q)
    (kx : ∀ (ce : Cell) (q9 : Addr) (u : va_W) (t : State) (H1 : Heap) (locs1 : List Loc), t.heap = H1 → s.vm.Alike t.vm → Po u → va_P D vwCl u t.heap → va_K D vwCl tys t → va_D A1 u → H.size ≤ H1.size → (∀ q : Nat, q < H.size → ¬ A1 q → H1[q]? = H[q]?) → va_S A0 H0 H1 locs1 → H1[q9]? = some ce → ce.vm = .none → s.vm.findClass E0 = some ce.cls → vx_W p l e R s m args below meth c H1 locs1 (cells + mc) (slots + ms) Q (F0 m pc ls rest) q9) : W p l e R s m args below meth c H locs cells slots Q (F0 m pc ls st0) := by
  intro T hT X
  rcases hr T hT X with ⟨v, st₀, t, T', L, h0, X', hL, e1, e2, hq, st⟩ | ⟨q, st₀, t, T', L, E, ce, h0, X', hL, e1, e2, ⟨⟨rfl, u, hp, hb, hk1, hd1⟩, hF⟩, hce, hcv, hcl, st⟩
  · exact hq.elim
  · obtain ⟨k1, k2, k3⟩ := vx_keep h0 e1 hS hA hf hL hF
    obtain ⟨t2, a1, b1⟩ := kx ce q u t T'.heap (locs ++ L) e1.symm (by rw [← e2]; exact X'.warmed.alike) hp hb hk1 hd1 k1 k2 k3 (by rw [e1]; exact hce) hcv hcl T' rfl X'
    exact ⟨t2, st.trans a1, b1⟩
end VXT
section JX
variable {k : VK} {l : Launch} {D : va_G} {tys : List (ClassId × FieldType)} {R : Room} {cc : ByteArray} {nL : Nat} {own : String} {w : va_W} {cells slots pc : Nat} {lv : List (Nat × Value)} {rest : List Value}
/-- 'throw new E()' -/
theorem j_throw0 {E0 : String} {names : List String} {ik ic mc ms : Nat} {Po : va_W → Prop} (hT : VThr k D tys E0 Po mc ms) (hcls : Bundle.fit E0 = true) (hnames : ∀ n ∈ names, Bundle.fit n = true) (hk : Cond.classLink own ik E0 ∈ aL) (hini : Cond.initialized E0 ∈ aL) (hat : ∀ w ∈ vx_at0 own ic E0 names, w ∈ aL ∨ w ∈ fL) (hgood : ∀ w ∈ Cond.classLink own ik E0 :: Cond.initialized E0 :: vx_at0 own ic E0 names, vx_ot w = true)
    (d0 : decode cc pc = .ok (.new ik, 3)) (d3 : decode cc (pc + 3) = .ok (.dup, 1)) (d4 : decode cc (pc + 4) = .ok (.invokespecial ic, 3)) (d7 : decode cc (pc + 7) = .ok (.athrow, 1))
    (hRf : names.length + 3 < R.frames) (hRl : (rest.map fun v => v.category).sum + (13 * (names.length + 1) + 42) ≤ R.locals) (hRc : cells + 1 ≤ R.cells) (hRs : slots + 6 ≤ R.slots) (hpo : Po w) (hc : cells + 1 ≤ mc) (hs : slots + 6 ≤ ms) : V k l D tys R cc nL own (w) (cells) (slots) (pc) lv (rest) := by
  obtain ⟨⟨p, e, s, m, args⟩, ⟨below, meth, c⟩, ⟨A, H0⟩, Q⟩ := k
  intro C H locs ls hP hD hS hl
  obtain ⟨hx, hb, hml, hown, hts, hK, hA, hlk, hN, hfl⟩ := id C
  obtain ⟨t1, t2, t3, t4⟩ := hT
  dsimp only at *
  subst t1 t2
  obtain ⟨z1, z2, z3, -, -⟩ := t4
  refine vx_throw0 (A := A) (names := names) hx hb (l_noTr hfl) hown hcls hnames (hts _ hk) (hts _ hini) (fun w hw => (hat w hw).elim (hts w) (fun h => va_Nw.use (fL_ot h) (z3 w h))) hgood z1 z2 hS (hl.1.trans hml.symm) d0 d3 d4 d7 (fun x hx => (t3 x hx).elim) hRf hRl hRc hRs hlk (fun t hal hz hk => ?_) hS.2.2 hc hs
  refine ⟨⟨rfl, w, hpo, hP.kept (fun j q hq => hk q.1 (vx_lt hP hq)), va_K.moved hal hK, hD⟩, ?_⟩
  refine ⟨Nat.le_trans hS.1 hz, fun q h1 h2 => ?_⟩
  rw [hk q (Nat.lt_of_lt_of_le h1 hS.1)]
  exact hS.2.1 q h1 h2
/-- the call of a method that throws, and its catching here -/
theorem j_callT {y : MethodName} {cc2 : ByteArray} {n2 index n mc ms : Nat} {ret2 : Option FieldType} {rm : Room} {wc wr : va_W} {av : List Value} {E0 : String} {Po : va_W → Prop} {b ci : Nat} {qc : vw_C} {fs : List Value} {hh : List (Nat × Nat × Nat × Nat)} {name : String} (hM : CtT l y cc2 n2 ret2 rm D tys wc (.ref b :: av) E0 Po mc ms) (q0 : Nat) (he : w[q0]? = some (b, .inr (ci, fs))) (hcl : vwCl[ci]? = some qc) (h1 : Cond.methodLink own index y ∈ aL) (h2 : Cond.instanceMethod y ∈ aL) (h5 : Cond.selects qc.1 y y ∈ aL) (h3 : Cond.initialized qc.1 ∈ aL) (h4 : Cond.code y cc2 n2 ret2 ∈ aL) (hd : y.cls = qc.1 ∧ y.cls ≠ "java/lang/invoke/MethodHandle" ∧ y.cls ≠ "java/lang/invoke/VarHandle" ∧ (parseMethodDescriptor y.desc).map (fun d => d.parameters.length) = some n) (hlen : av.length = n) (hrm : rm.cells = mc ∧ rm.slots = ms) (hR : rm.frames + 1 ≤ R.frames ∧ 8 + (n2 + 11) + rm.locals ≤ R.locals) (hc : cells + mc ≤ R.cells ∧ slots + ms ≤ R.slots) (hW : (rest.map fun v => v.category).sum ≤ 8) (isC isR : List Nat) (hC : isC.map (fun i => w[i]?) = wc.map some) (hRr : isR.map (fun i => w[i]?) = wr.map some) (hnC : va_nd isC = true) (hnd : va_nd isR = true) (hdis : ∀ i ∈ isR, i ∉ isC)
    (hcat : VCat k hh) (pre : List ExceptionTableEntry) (xe : ExceptionTableEntry) (suf : List ExceptionTableEntry) (hsplit : tableOf hh = pre ++ xe :: suf) (hpass : ∀ z ∈ pre, z.catchType ≠ 0 ∧ ∃ nm : String, Cond.classLink own z.catchType nm ∈ aL ∧ ((E0 = XA ∧ nm = XI) ∨ (E0 = XI ∧ nm = XN))) (hcov : covers xe pc = true) (h0 : xe.catchType ≠ 0) (hlink : Cond.classLink own xe.catchType name ∈ aL) (hcast : Cond.castable E0 name ∈ fL)
    {st : List Value} (hst : st = av.reverse ++ .ref b :: rest) (hdg : decode cc pc = .ok (.invokevirtual index, 3)) (kk : ∀ (q9 : Nat) (u : va_W), Po u → V k l D tys R cc nL own (wr ++ u) (cells + mc) (slots + ms) (xe.handlerPc) lv ([.ref q9])) : V k l D tys R cc nL own (w) (cells) (slots) (pc) lv (st) := by
  obtain ⟨⟨p, e, s, m, args⟩, ⟨below, meth, c⟩, ⟨A, H0⟩, Q⟩ := k
  intro C H locs ls hP hD hS hl
  obtain ⟨hx, hb, hml, hown, hts, hK, hA, hlk, hN, hfl⟩ := id C
  dsimp only at *
  subst hst
  obtain ⟨htab, hZ⟩ := hcat
  dsimp only at htab hZ
  have hrcv := va_recv hK hP (ci := ci) (q0 := q0) hcl he
  have hPc : va_P D vwCl wc H := by
    intro j q hq
    have h1 : (isC.map (fun i => w[i]?))[j]? = some (some q) := by rw [hC, List.getElem?_map, hq]; rfl
    rw [List.getElem?_map] at h1
    cases hi : isC[j]? with
    | none => rw [hi] at h1; cases h1
    | some i => rw [hi] at h1; exact hP i q (Option.some.inj h1)
  have hDc := hD.sub isC hnC hC
  have hFc := va_free (wc := wc) hD hS hA isC hC
  refine vx_callT (vx_runV (C := qc.1) (As := av) (rest := rest) ⟨hx, hb, hml, hown, hts⟩ (hM H.size) (cwV n hts (goodV h1 h2 h5 h3 h4) rfl hrm.1 hrm.2 hd hR) ⟨blindX, hrcv, fun U hU hW => ⟨rfl, ⟨by rw [hU], by rw [hU]; exact hPc, va_K.moved hW.alike hK, hDc.weaken (fun _ _ _ _ => trivial), va_Nw.warmM hW hN⟩, ZX_call hW hS hFc hZ hU⟩⟩ rfl hlen hl.1 rfl (lv_room hW) hdg hc) hS (fun q _ h => hFc q h) hFc (fun ce q9 u t H1 locs1 ht hvm hpo hP1 hK1 hD1 hz1 hk1 hS1 hce hcv hcl9 => ?_)
  rw [ht] at hP1
  have hK1 := va_K.moved hvm.symm hK1
  obtain ⟨hP2, hD2⟩ := va_join (wr := wr) (w1 := u) hP hD isC isR hC hRr hnd hdis hk1 hFc hP1 hD1
  refine vx_catch hown pre xe suf (htab.trans hsplit) (fun z hz => Or.inr ?_) hcov h0 (hts _ hlink) (va_Nw.use (fL_ot hcast) (hZ.2.2.1 _ hcast)) hce hcv hcl9 (kk q9 u hpo ⟨hx, hb, hml, hown, hts, hK, hA, hlk, hN, hfl⟩ H1 locs1 ls hP2 hD2 hS1 hl)
  obtain ⟨h6, nm, h7, h8⟩ := hpass z hz
  refine ⟨h6, nm, hts _ h7, ?_⟩
  rcases h8 with ⟨rfl, rfl⟩ | ⟨rfl, rfl⟩
  · exact hZ.2.2.2.1
  · exact hZ.2.2.2.2
theorem goodSW {own : String} {index : Nat} {y : MethodName} {cc : ByteArray} {n : Nat} {ret : Option FieldType} {hh : List (Nat × Nat × Nat × Nat)} (h1 : Cond.methodLink own index y ∈ aL) (h2 : Cond.static y ∈ aL) (h3 : Cond.initialized y.cls ∈ aL) (h : Cond.codeWith y cc n ret hh ∈ aL) : GoodIn aL (va_wsS own index y (Cond.codeWith y cc n ret hh :: aL)) :=
  goodIn_app (fun w hw => by
    simp only [List.mem_cons, List.not_mem_nil, or_false] at hw
    rcases hw with e | e | e
    · rw [e]; exact ⟨h1, aL_good h1⟩
    · rw [e]; exact ⟨h2, aL_good h2⟩
    · rw [e]; exact ⟨h3, aL_good h3⟩) (fun w hw => by
    rcases List.mem_cons.mp hw with h1 | h1
    · rw [h1]; exact ⟨h, aL_good h⟩
    · exact ⟨h1, aL_good h1⟩)
/-- the call of a static method with handlers -/
theorem j_callSW {y : MethodName} {cc2 : ByteArray} {n2 index n mc ms : Nat} {ret2 : Option FieldType} {rm : Room} {wc wr : va_W} {av : List Value} {Po : Option Value → va_W → Prop} {hh : List (Nat × Nat × Nat × Nat)} (hM : CtW l y cc2 n2 ret2 hh rm D tys wc av Po mc ms) (h1 : Cond.methodLink own index y ∈ aL) (h2 : Cond.static y ∈ aL) (h3 : Cond.initialized y.cls ∈ aL) (h4 : Cond.codeWith y cc2 n2 ret2 hh ∈ aL) (hd : y.cls ≠ "java/lang/invoke/MethodHandle" ∧ y.cls ≠ "java/lang/invoke/VarHandle" ∧ (parseMethodDescriptor y.desc).map (fun d => d.parameters.length) = some n) (hlen : av.length = n) (hrm : rm.cells = mc ∧ rm.slots = ms) (hR : rm.frames + 1 ≤ R.frames ∧ 8 + (n2 + 11) + rm.locals ≤ R.locals) (hc : cells + mc ≤ R.cells ∧ slots + ms ≤ R.slots) (hW : (rest.map fun v => v.category).sum ≤ 8) (isC isR : List Nat) (hC : isC.map (fun i => w[i]?) = wc.map some) (hRr : isR.map (fun i => w[i]?) = wr.map some) (hnC : va_nd isC = true) (hnd : va_nd isR = true) (hdis : ∀ i ∈ isR, i ∉ isC)
    (hZ : ZX k.2.2.1.1 k.1.2.2.1 k.2.2.1.2) {st : List Value} (hst : st = av.reverse ++ rest) (hdg : decode cc pc = .ok (.invokestatic index, 3)) (kk : ∀ (r : Option Value) (u : va_W), Po r u → V k l D tys R cc nL own (wr ++ u) (cells + mc) (slots + ms) (pc + 3) lv (r.toList ++ rest)) : V k l D tys R cc nL own (w) (cells) (slots) (pc) lv (st) := by
  obtain ⟨⟨p, e, s, m, args⟩, ⟨below, meth, c⟩, ⟨A, H0⟩, Q⟩ := k
  intro C H locs ls hP hD hS hl
  obtain ⟨hx, hb, hml, hown, hts, hK, hA, hlk, hN, hfl⟩ := id C
  dsimp only at *
  subst hst
  have hPc : va_P D vwCl wc H := by
    intro j q hq
    have h1 : (isC.map (fun i => w[i]?))[j]? = some (some q) := by rw [hC, List.getElem?_map, hq]; rfl
    rw [List.getElem?_map] at h1
    cases hi : isC[j]? with
    | none => rw [hi] at h1; cases h1
    | some i => rw [hi] at h1; exact hP i q (Option.some.inj h1)
  have hDc := hD.sub isC hnC hC
  have hFc := va_free (wc := wc) hD hS hA isC hC
  refine va_callO (vx_runSW (As := av) (rest := rest) ⟨hx, hb, hml, hown, hts⟩ (hM H.size) (vx_cwSW n hts (goodSW h1 h2 h3 h4) rfl hrm.1 hrm.2 hd hR) ⟨blindX, fun U hU hW => ⟨rfl, ⟨by rw [hU], by rw [hU]; exact hPc, va_K.moved hW.alike hK, hDc.weaken (fun _ _ _ _ => trivial), va_Nw.warmM hW hN⟩, ZX_call hW hS hFc hZ hU⟩⟩ rfl hlen hl.1 rfl (lv_room hW) hdg hc) hS (fun q _ h => hFc q h) hFc (fun r u t H1 locs1 ht hvm hpo hP1 hK1 hD1 hz1 hk1 hS1 => ?_)
  rw [ht] at hP1
  have hK1 := va_K.moved hvm.symm hK1
  obtain ⟨hP2, hD2⟩ := va_join (wr := wr) (w1 := u) hP hD isC isR hC hRr hnd hdis hk1 hFc hP1 hD1
  exact kk r u hpo ⟨hx, hb, hml, hown, hts, hK, hA, hlk, hN, hfl⟩ H1 locs1 ls hP2 hD2 hS1 hl
/-- only some of the cells are wanted from here on, in another order -/
theorem j_cut {w2 : va_W} (is : List Nat) (hn : va_nd is = true) (hs : is.map (fun i => w[i]?) = w2.map some) (kk : V k l D tys R cc nL own (w2) (cells) (slots) (pc) lv (rest)) : V k l D tys R cc nL own (w) (cells) (slots) (pc) lv (rest) := by
  obtain ⟨⟨p, e, s, m, args⟩, ⟨below, meth, c⟩, ⟨A, H0⟩, Q⟩ := k
  intro C H locs ls hP hD hS hl
  obtain ⟨hx, hb, hml, hown, hts, hK, hA, hlk, hN, hfl⟩ := id C
  have hP2 : va_P D vwCl w2 H := by
    intro j q hq
    have h1 : (is.map (fun i => w[i]?))[j]? = some (some q) := by rw [hs, List.getElem?_map, hq]; rfl
    rw [List.getElem?_map] at h1
    cases hi : is[j]? with
    | none => rw [hi] at h1; cases h1
    | some i => rw [hi] at h1; exact hP i q (Option.some.inj h1)
  exact kk C H locs ls hP2 (hD.sub is hn hs) hS hl
end JX
