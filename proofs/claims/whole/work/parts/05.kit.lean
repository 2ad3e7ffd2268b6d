/-! The judgement V: a frame at pc with the listed locals and stack, over a world of cells; the heap, the locals' array and the facts of the method's frame are inside it. -/
abbrev VK : Type := (Program × Env × State × MethodId × Array Value) × (List Frame × Method × Code) × ((Nat → Prop) × Heap) × (State → Prop)
def nestW : Cond := Cond.methodLinkNest RX0 55 yX2_hasBit RX2
def VC (l : Launch) (D : va_G) (tys : List (ClassId × FieldType)) (cc : ByteArray) (nL : Nat) (own : String) (p : Program) (s : State) (m : MethodId) (args : Array Value) (meth : Method) (c : Code) (A : Nat → Prop) (H0 : Heap) : Prop :=
  p.tables.exec = Jvm.exec ∧ c.code = cc ∧ c.maxLocals = nL ∧ s.vm.findClass own = some m.cls ∧ (∀ w ∈ aL, w.before args s = true) ∧ va_K D vwCl tys s ∧ (∀ q, H0.size ≤ q → A q) ∧ meth.locks = false ∧ va_Nw nestW s ∧ l.flags = flags0
def V (k : VK) (l : Launch) (D : va_G) (tys : List (ClassId × FieldType)) (R : Room) (cc : ByteArray) (nL : Nat) (own : String) (w : va_W) (cells slots pc : Nat) (lv : List (Nat × Value)) (st : List Value) : Prop :=
  VC l D tys cc nL own k.1.1 k.1.2.2.1 k.1.2.2.2.1 k.1.2.2.2.2 k.2.1.2.1 k.2.1.2.2 k.2.2.1.1 k.2.2.1.2 →
  ∀ (H : Heap) (locs : List Loc) (ls : Array Slot), va_P D vwCl w H → va_D k.2.2.1.1 w → va_S k.2.2.1.1 k.2.2.1.2 H locs → lv_has ls nL lv →
    W k.1.1 l k.1.2.1 R k.1.2.2.1 k.1.2.2.2.1 k.1.2.2.2.2 k.2.1.1 k.2.1.2.1 k.2.1.2.2 H locs cells slots k.2.2.2 (F0 k.1.2.2.2.1 pc ls st)
def bI (b : Bool) : Int32 := if b then 1 else 0
/-- what a method leaves -/
def QCt (D : va_G) (tys : List (ClassId × FieldType)) (A : Nat → Prop) (Po : Option Value → va_W → Prop) : Array Value → State → Outcome → State → Prop := fun _ st oc t =>
  (∃ (r : Option Value) (u : va_W), oc = .returned r ∧ Po r u ∧ va_P D vwCl u t.heap ∧ va_K D vwCl tys t ∧ va_D A u) ∧ va_F A st t
def PCt (D : va_G) (tys : List (ClassId × FieldType)) (w : va_W) (sz : Nat) : State → Prop := fun U => U.heap.size = sz ∧ va_P D vwCl w U.heap ∧ va_K D vwCl tys U ∧ va_D (fun _ => True) w ∧ va_Nw nestW U
/-- a method's contract: from the world w with the arguments av it returns r and leaves the world u, with Po r u -/
def Ct (l : Launch) (y : MethodName) (cc : ByteArray) (n : Nat) (ret : Option FieldType) (rm : Room) (D : va_G) (tys tys2 : List (ClassId × FieldType)) (w : va_W) (av : List Value) (Po : Option Value → va_W → Prop) (mc ms : Nat) : Prop :=
  ∀ sz : Nat, Met l y (Cond.code y cc n ret :: aL) rm (va_Pc av (PCt D tys w sz)) (QCt D tys2 (va_A w sz) Po) mc ms (va_A w sz)
/-- the end that a method's body owes -/
def VRet (k : VK) (D : va_G) (tys2 : List (ClassId × FieldType)) (ret : Option FieldType) (Po : Option Value → va_W → Prop) (mc ms : Nat) : Prop :=
  k.2.1.2.1.sig.returnType = ret ∧ k.2.2.1.2 = k.1.2.2.1.heap ∧ k.2.2.2 = MQ k.2.1.1 (QCt D tys2 k.2.2.1.1 Po) k.1.2.2.2.2 k.1.2.2.1 mc ms k.2.2.1.1
def VInit (k : VK) : Prop := k.2.1.2.1.name = "<init>"
theorem Ct.of {l : Launch} {y : MethodName} {cc : ByteArray} {n : Nat} {ret : Option FieldType} {rm : Room} {D : va_G} {tys tys2 : List (ClassId × FieldType)} {w : va_W} {av : List Value} {Po : Option Value → va_W → Prop} {mc ms : Nat} (hfl : l.flags = flags0) (hy : plainName y.cls = true) (hn : (lg_sl av).length ≤ n)
    (body : ∀ k : VK, VRet k D tys2 ret Po mc ms → (∀ d, y = ⟨y.cls, "<init>", d⟩ → VInit k) → V k l D tys rm cc n y.cls w 0 0 0 (lv_args 0 av) []) : Ct l y cc n ret rm D tys tys2 w av Po mc ms := by
  intro sz
  refine Met.ofW (cc := cc) (maxL := n) (ret := ret) hy rfl ?_
  intro p e s m args below meth c s₁ B hml hv
  obtain ⟨rfl, hsz, hP, hK, hD0, hN⟩ := hv
  subst hsz
  have hts : ∀ w ∈ aL, w.before av.toArray s = true := fun w hw => atoms_spec (ws := Cond.code y cc n ret :: aL) B.pre w (List.mem_cons_of_mem _ hw)
  have hl := lv_entry av (n := n) hn
  rw [lg_entry_eq]
  have hb := body ((p, e, s, m, av.toArray), (below, meth, c), (va_A w s.heap.size, s.heap), MQ below (QCt D tys2 (va_A w s.heap.size) Po) av.toArray s mc ms (va_A w s.heap.size)) ⟨B.returns, rfl, rfl⟩ (fun d hd => by
    have h1 := (name_of_methodNamed B.named B.method).1
    show meth.name = "<init>"
    rw [h1, hd])
  exact hb ⟨B.exec, B.bytes, hml, findClass_of_methodNamed B.named, hts, hK, fun q h => Or.inr h, B.notSynchronized, hN, hfl⟩ s.heap [] _ hP hD0.self va_S.rf hl

section JV
variable {k : VK} {l : Launch} {D : va_G} {tys : List (ClassId × FieldType)} {R : Room} {cc : ByteArray} {nL : Nat} {own : String} {w : va_W} {cells slots pc : Nat} {lv : List (Nat × Value)} {rest : List Value}
theorem j_iconst {n : Int} {v : Int32} (hdg : decode cc pc = .ok (.iconst n, 1)) (hv : Int32.ofInt n = v) (kk : V k l D tys R cc nL own w cells slots (pc + 1) lv (.int v :: rest)) : V k l D tys R cc nL own w cells slots (pc) lv (rest) := by
  obtain ⟨⟨p, e, s, m, args⟩, ⟨below, meth, c⟩, ⟨A, H0⟩, Q⟩ := k
  intro C H locs ls hP hD hS hl
  obtain ⟨hx, hb, hml, hown, hts, hK, hA, hlk, hN, hfl⟩ := id C
  dsimp only at *
  exact lv_iconst hx hb hdg hv (kk C H locs ls hP hD hS hl)

theorem j_bipush {n : Int} {v : Int32} (hdg : decode cc pc = .ok (.bipush n, 2)) (hv : (Int8.ofInt n).toInt32 = v) (kk : V k l D tys R cc nL own w cells slots (pc + 2) lv (.int v :: rest)) : V k l D tys R cc nL own w cells slots (pc) lv (rest) := by
  obtain ⟨⟨p, e, s, m, args⟩, ⟨below, meth, c⟩, ⟨A, H0⟩, Q⟩ := k
  intro C H locs ls hP hD hS hl
  obtain ⟨hx, hb, hml, hown, hts, hK, hA, hlk, hN, hfl⟩ := id C
  dsimp only at *
  exact lv_bipush hx hb hdg hv (kk C H locs ls hP hD hS hl)

theorem j_sipush {n : Int} {v : Int32} (hdg : decode cc pc = .ok (.sipush n, 3)) (hv : (Int16.ofInt n).toInt32 = v) (kk : V k l D tys R cc nL own w cells slots (pc + 3) lv (.int v :: rest)) : V k l D tys R cc nL own w cells slots (pc) lv (rest) := by
  obtain ⟨⟨p, e, s, m, args⟩, ⟨below, meth, c⟩, ⟨A, H0⟩, Q⟩ := k
  intro C H locs ls hP hD hS hl
  obtain ⟨hx, hb, hml, hown, hts, hK, hA, hlk, hN, hfl⟩ := id C
  dsimp only at *
  exact lv_sipush hx hb hdg hv (kk C H locs ls hP hD hS hl)

theorem j_lconst {n : Fin 2} {v : Int64} (hdg : decode cc pc = .ok (.lconst n, 1)) (hv : Int64.ofNat (n : Nat) = v) (kk : V k l D tys R cc nL own w cells slots (pc + 1) lv (.long v :: rest)) : V k l D tys R cc nL own w cells slots (pc) lv (rest) := by
  obtain ⟨⟨p, e, s, m, args⟩, ⟨below, meth, c⟩, ⟨A, H0⟩, Q⟩ := k
  intro C H locs ls hP hD hS hl
  obtain ⟨hx, hb, hml, hown, hts, hK, hA, hlk, hN, hfl⟩ := id C
  dsimp only at *
  exact lv_lconst hx hb hdg hv (kk C H locs ls hP hD hS hl)

theorem j_ldc2 {index : Nat} {v : Int64} (hc : Cond.constantLong own index v ∈ aL) (hdg : decode cc pc = .ok (.ldc2_w index, 3)) (kk : V k l D tys R cc nL own w cells slots (pc + 3) lv (.long v :: rest)) : V k l D tys R cc nL own w cells slots (pc) lv (rest) := by
  obtain ⟨⟨p, e, s, m, args⟩, ⟨below, meth, c⟩, ⟨A, H0⟩, Q⟩ := k
  intro C H locs ls hP hD hS hl
  obtain ⟨hx, hb, hml, hown, hts, hK, hA, hlk, hN, hfl⟩ := id C
  dsimp only at *
  exact lv_ldc2 hx hb hown (hts _ hc) hdg (kk C H locs ls hP hD hS hl)

theorem j_ldc {index : Nat} {v : Int32} (hc : Cond.constant own index v ∈ aL) (hdg : decode cc pc = .ok (.ldc index, 2)) (kk : V k l D tys R cc nL own w cells slots (pc + 2) lv (.int v :: rest)) : V k l D tys R cc nL own w cells slots (pc) lv (rest) := by
  obtain ⟨⟨p, e, s, m, args⟩, ⟨below, meth, c⟩, ⟨A, H0⟩, Q⟩ := k
  intro C H locs ls hP hD hS hl
  obtain ⟨hx, hb, hml, hown, hts, hK, hA, hlk, hN, hfl⟩ := id C
  dsimp only at *
  exact lv_ldc hx hb hown (hts _ hc) hdg (kk C H locs ls hP hD hS hl)

theorem j_iload_n {j : Fin 4} {i : Nat} {x : Int32} (hdg : decode cc pc = .ok (.iload_n j, 1)) (hi : (j : Nat) = i) (n : Nat) (hn : lv[n]? = some (i, .int x)) (kk : V k l D tys R cc nL own w cells slots (pc + 1) lv (.int x :: rest)) : V k l D tys R cc nL own w cells slots (pc) lv (rest) := by
  obtain ⟨⟨p, e, s, m, args⟩, ⟨below, meth, c⟩, ⟨A, H0⟩, Q⟩ := k
  intro C H locs ls hP hD hS hl
  obtain ⟨hx, hb, hml, hown, hts, hK, hA, hlk, hN, hfl⟩ := id C
  dsimp only at *
  exact lv_iload_n hx hb hdg hi (lv_at hl n hn) (kk C H locs ls hP hD hS hl)

theorem j_iload {i : Nat} {x : Int32} (hdg : decode cc pc = .ok (.iload i, 2)) (n : Nat) (hn : lv[n]? = some (i, .int x)) (kk : V k l D tys R cc nL own w cells slots (pc + 2) lv (.int x :: rest)) : V k l D tys R cc nL own w cells slots (pc) lv (rest) := by
  obtain ⟨⟨p, e, s, m, args⟩, ⟨below, meth, c⟩, ⟨A, H0⟩, Q⟩ := k
  intro C H locs ls hP hD hS hl
  obtain ⟨hx, hb, hml, hown, hts, hK, hA, hlk, hN, hfl⟩ := id C
  dsimp only at *
  exact lv_iload hx hb hdg (lv_at hl n hn) (kk C H locs ls hP hD hS hl)

theorem j_istore_n {j : Fin 4} {i : Nat} {x : Int32} (lv' : List (Nat × Value)) (hdg : decode cc pc = .ok (.istore_n j, 1)) (hi : (j : Nat) = i) (hn : i < nL) (hl' : (i, Value.int x) :: lv.filter (fun q => !(q.1 == i) && !(q.1 + 1 == i && q.2.category == 2)) = lv') (kk : V k l D tys R cc nL own w cells slots (pc + 1) lv' (rest)) : V k l D tys R cc nL own w cells slots (pc) lv (.int x :: rest) := by
  obtain ⟨⟨p, e, s, m, args⟩, ⟨below, meth, c⟩, ⟨A, H0⟩, Q⟩ := k
  intro C H locs ls hP hD hS hl
  obtain ⟨hx, hb, hml, hown, hts, hK, hA, hlk, hN, hfl⟩ := id C
  dsimp only at *
  exact lv_istore_n hx hb hdg hi hl hn hl' (fun ls' h => kk C H locs ls' hP hD hS h)

theorem j_istore {i : Nat} {x : Int32} (lv' : List (Nat × Value)) (hdg : decode cc pc = .ok (.istore i, 2)) (hn : i < nL) (hl' : (i, Value.int x) :: lv.filter (fun q => !(q.1 == i) && !(q.1 + 1 == i && q.2.category == 2)) = lv') (kk : V k l D tys R cc nL own w cells slots (pc + 2) lv' (rest)) : V k l D tys R cc nL own w cells slots (pc) lv (.int x :: rest) := by
  obtain ⟨⟨p, e, s, m, args⟩, ⟨below, meth, c⟩, ⟨A, H0⟩, Q⟩ := k
  intro C H locs ls hP hD hS hl
  obtain ⟨hx, hb, hml, hown, hts, hK, hA, hlk, hN, hfl⟩ := id C
  dsimp only at *
  exact lv_istore hx hb hdg hl hn hl' (fun ls' h => kk C H locs ls' hP hD hS h)

theorem j_lload_n {j : Fin 4} {i : Nat} {x : Int64} (hdg : decode cc pc = .ok (.lload_n j, 1)) (hi : (j : Nat) = i) (n : Nat) (hn : lv[n]? = some (i, .long x)) (kk : V k l D tys R cc nL own w cells slots (pc + 1) lv (.long x :: rest)) : V k l D tys R cc nL own w cells slots (pc) lv (rest) := by
  obtain ⟨⟨p, e, s, m, args⟩, ⟨below, meth, c⟩, ⟨A, H0⟩, Q⟩ := k
  intro C H locs ls hP hD hS hl
  obtain ⟨hx, hb, hml, hown, hts, hK, hA, hlk, hN, hfl⟩ := id C
  dsimp only at *
  exact lv_lload_n hx hb hdg hi (lv_at hl n hn) (kk C H locs ls hP hD hS hl)

theorem j_lload {i : Nat} {x : Int64} (hdg : decode cc pc = .ok (.lload i, 2)) (n : Nat) (hn : lv[n]? = some (i, .long x)) (kk : V k l D tys R cc nL own w cells slots (pc + 2) lv (.long x :: rest)) : V k l D tys R cc nL own w cells slots (pc) lv (rest) := by
  obtain ⟨⟨p, e, s, m, args⟩, ⟨below, meth, c⟩, ⟨A, H0⟩, Q⟩ := k
  intro C H locs ls hP hD hS hl
  obtain ⟨hx, hb, hml, hown, hts, hK, hA, hlk, hN, hfl⟩ := id C
  dsimp only at *
  exact lv_lload hx hb hdg (lv_at hl n hn) (kk C H locs ls hP hD hS hl)

theorem j_lstore_n {j : Fin 4} {i : Nat} {x : Int64} (lv' : List (Nat × Value)) (hdg : decode cc pc = .ok (.lstore_n j, 1)) (hi : (j : Nat) = i) (hn : i + 1 < nL) (hl' : (i, Value.long x) :: lv.filter (fun q => !(q.1 == i) && (!(q.1 == i + 1) && !(q.1 + 1 == i && q.2.category == 2))) = lv') (kk : V k l D tys R cc nL own w cells slots (pc + 1) lv' (rest)) : V k l D tys R cc nL own w cells slots (pc) lv (.long x :: rest) := by
  obtain ⟨⟨p, e, s, m, args⟩, ⟨below, meth, c⟩, ⟨A, H0⟩, Q⟩ := k
  intro C H locs ls hP hD hS hl
  obtain ⟨hx, hb, hml, hown, hts, hK, hA, hlk, hN, hfl⟩ := id C
  dsimp only at *
  exact lv_lstore_n hx hb hdg hi hl hn hl' (fun ls' h => kk C H locs ls' hP hD hS h)

theorem j_lstore {i : Nat} {x : Int64} (lv' : List (Nat × Value)) (hdg : decode cc pc = .ok (.lstore i, 2)) (hn : i + 1 < nL) (hl' : (i, Value.long x) :: lv.filter (fun q => !(q.1 == i) && (!(q.1 == i + 1) && !(q.1 + 1 == i && q.2.category == 2))) = lv') (kk : V k l D tys R cc nL own w cells slots (pc + 2) lv' (rest)) : V k l D tys R cc nL own w cells slots (pc) lv (.long x :: rest) := by
  obtain ⟨⟨p, e, s, m, args⟩, ⟨below, meth, c⟩, ⟨A, H0⟩, Q⟩ := k
  intro C H locs ls hP hD hS hl
  obtain ⟨hx, hb, hml, hown, hts, hK, hA, hlk, hN, hfl⟩ := id C
  dsimp only at *
  exact lv_lstore hx hb hdg hl hn hl' (fun ls' h => kk C H locs ls' hP hD hS h)

theorem j_aload_n {j : Fin 4} {i : Nat} {x : Nat} (hdg : decode cc pc = .ok (.aload_n j, 1)) (hi : (j : Nat) = i) (n : Nat) (hn : lv[n]? = some (i, .ref x)) (kk : V k l D tys R cc nL own w cells slots (pc + 1) lv (.ref x :: rest)) : V k l D tys R cc nL own w cells slots (pc) lv (rest) := by
  obtain ⟨⟨p, e, s, m, args⟩, ⟨below, meth, c⟩, ⟨A, H0⟩, Q⟩ := k
  intro C H locs ls hP hD hS hl
  obtain ⟨hx, hb, hml, hown, hts, hK, hA, hlk, hN, hfl⟩ := id C
  dsimp only at *
  exact lv_aload_n hx hb hdg hi (lv_at hl n hn) (kk C H locs ls hP hD hS hl)

theorem j_aload {i : Nat} {x : Nat} (hdg : decode cc pc = .ok (.aload i, 2)) (n : Nat) (hn : lv[n]? = some (i, .ref x)) (kk : V k l D tys R cc nL own w cells slots (pc + 2) lv (.ref x :: rest)) : V k l D tys R cc nL own w cells slots (pc) lv (rest) := by
  obtain ⟨⟨p, e, s, m, args⟩, ⟨below, meth, c⟩, ⟨A, H0⟩, Q⟩ := k
  intro C H locs ls hP hD hS hl
  obtain ⟨hx, hb, hml, hown, hts, hK, hA, hlk, hN, hfl⟩ := id C
  dsimp only at *
  exact lv_aload hx hb hdg (lv_at hl n hn) (kk C H locs ls hP hD hS hl)

theorem j_astore_n {j : Fin 4} {i : Nat} {x : Nat} (lv' : List (Nat × Value)) (hdg : decode cc pc = .ok (.astore_n j, 1)) (hi : (j : Nat) = i) (hn : i < nL) (hl' : (i, Value.ref x) :: lv.filter (fun q => !(q.1 == i) && !(q.1 + 1 == i && q.2.category == 2)) = lv') (kk : V k l D tys R cc nL own w cells slots (pc + 1) lv' (rest)) : V k l D tys R cc nL own w cells slots (pc) lv (.ref x :: rest) := by
  obtain ⟨⟨p, e, s, m, args⟩, ⟨below, meth, c⟩, ⟨A, H0⟩, Q⟩ := k
  intro C H locs ls hP hD hS hl
  obtain ⟨hx, hb, hml, hown, hts, hK, hA, hlk, hN, hfl⟩ := id C
  dsimp only at *
  exact lv_astore_n hx hb hdg hi hl hn hl' (fun ls' h => kk C H locs ls' hP hD hS h)

theorem j_astore {i : Nat} {x : Nat} (lv' : List (Nat × Value)) (hdg : decode cc pc = .ok (.astore i, 2)) (hn : i < nL) (hl' : (i, Value.ref x) :: lv.filter (fun q => !(q.1 == i) && !(q.1 + 1 == i && q.2.category == 2)) = lv') (kk : V k l D tys R cc nL own w cells slots (pc + 2) lv' (rest)) : V k l D tys R cc nL own w cells slots (pc) lv (.ref x :: rest) := by
  obtain ⟨⟨p, e, s, m, args⟩, ⟨below, meth, c⟩, ⟨A, H0⟩, Q⟩ := k
  intro C H locs ls hP hD hS hl
  obtain ⟨hx, hb, hml, hown, hts, hK, hA, hlk, hN, hfl⟩ := id C
  dsimp only at *
  exact lv_astore hx hb hdg hl hn hl' (fun ls' h => kk C H locs ls' hP hD hS h)

theorem j_iinc {i n0 : Nat} {n : Int} {x v : Int32} (lv' : List (Nat × Value)) (hdg : decode cc pc = .ok (.iinc i n, 3)) (hk : lv[n0]? = some (i, .int x)) (hv : x + Int32.ofInt n = v) (hn : i < nL) (hl' : (i, Value.int v) :: lv.filter (fun q => !(q.1 == i) && !(q.1 + 1 == i && q.2.category == 2)) = lv') (kk : V k l D tys R cc nL own w cells slots (pc + 3) lv' (rest)) : V k l D tys R cc nL own w cells slots (pc) lv (rest) := by
  obtain ⟨⟨p, e, s, m, args⟩, ⟨below, meth, c⟩, ⟨A, H0⟩, Q⟩ := k
  intro C H locs ls hP hD hS hl
  obtain ⟨hx, hb, hml, hown, hts, hK, hA, hlk, hN, hfl⟩ := id C
  dsimp only at *
  exact lv_iinc hx hb hdg hl hk hv hn hl' (fun ls' h => kk C H locs ls' hP hD hS h)

theorem j_sub (ks : List Nat) (lv' : List (Nat × Value)) (hs : lv_pick lv ks = lv') (kk : V k l D tys R cc nL own w cells slots (pc) lv' (rest)) : V k l D tys R cc nL own w cells slots (pc) lv (rest) := by
  obtain ⟨⟨p, e, s, m, args⟩, ⟨below, meth, c⟩, ⟨A, H0⟩, Q⟩ := k
  intro C H locs ls hP hD hS hl
  obtain ⟨hx, hb, hml, hown, hts, hK, hA, hlk, hN, hfl⟩ := id C
  dsimp only at *
  exact kk C H locs ls hP hD hS (lv_sub hl ks hs)

theorem j_world {w' : va_W} (h : w = w') (kk : V k l D tys R cc nL own w' cells slots (pc) lv (rest)) : V k l D tys R cc nL own w cells slots (pc) lv (rest) := h ▸ kk
theorem j_lv {lv' : List (Nat × Value)} (h : lv = lv') (kk : V k l D tys R cc nL own w cells slots (pc) lv' (rest)) : V k l D tys R cc nL own w cells slots (pc) lv (rest) := h ▸ kk
theorem j_st {st' : List Value} (h : rest = st') (kk : V k l D tys R cc nL own w cells slots (pc) lv (st')) : V k l D tys R cc nL own w cells slots (pc) lv (rest) := h ▸ kk
theorem j_topi {x y : Int32} (h : x = y) (kk : V k l D tys R cc nL own w cells slots (pc) lv (.int y :: rest)) : V k l D tys R cc nL own w cells slots (pc) lv (.int x :: rest) := h ▸ kk
theorem j_topl {x y : Int64} (h : x = y) (kk : V k l D tys R cc nL own w cells slots (pc) lv (.long y :: rest)) : V k l D tys R cc nL own w cells slots (pc) lv (.long x :: rest) := h ▸ kk
theorem j_iadd {x y v : Int32} (hdg : decode cc pc = .ok (.iadd, 1)) (hv : x + y = v) (kk : V k l D tys R cc nL own w cells slots (pc + 1) lv (.int v :: rest)) : V k l D tys R cc nL own w cells slots (pc) lv (.int y :: .int x :: rest) := by
  obtain ⟨⟨p, e, s, m, args⟩, ⟨below, meth, c⟩, ⟨A, H0⟩, Q⟩ := k
  intro C H locs ls hP hD hS hl
  obtain ⟨hx, hb, hml, hown, hts, hK, hA, hlk, hN, hfl⟩ := id C
  dsimp only at *
  subst hv
  exact lv_iadd hx hb hdg (kk C H locs ls hP hD hS hl)

theorem j_isub {x y v : Int32} (hdg : decode cc pc = .ok (.isub, 1)) (hv : x - y = v) (kk : V k l D tys R cc nL own w cells slots (pc + 1) lv (.int v :: rest)) : V k l D tys R cc nL own w cells slots (pc) lv (.int y :: .int x :: rest) := by
  obtain ⟨⟨p, e, s, m, args⟩, ⟨below, meth, c⟩, ⟨A, H0⟩, Q⟩ := k
  intro C H locs ls hP hD hS hl
  obtain ⟨hx, hb, hml, hown, hts, hK, hA, hlk, hN, hfl⟩ := id C
  dsimp only at *
  subst hv
  exact lv_isub hx hb hdg (kk C H locs ls hP hD hS hl)

theorem j_imul {x y v : Int32} (hdg : decode cc pc = .ok (.imul, 1)) (hv : x * y = v) (kk : V k l D tys R cc nL own w cells slots (pc + 1) lv (.int v :: rest)) : V k l D tys R cc nL own w cells slots (pc) lv (.int y :: .int x :: rest) := by
  obtain ⟨⟨p, e, s, m, args⟩, ⟨below, meth, c⟩, ⟨A, H0⟩, Q⟩ := k
  intro C H locs ls hP hD hS hl
  obtain ⟨hx, hb, hml, hown, hts, hK, hA, hlk, hN, hfl⟩ := id C
  dsimp only at *
  subst hv
  exact lv_imul hx hb hdg (kk C H locs ls hP hD hS hl)

theorem j_iand {x y v : Int32} (hdg : decode cc pc = .ok (.iand, 1)) (hv : x &&& y = v) (kk : V k l D tys R cc nL own w cells slots (pc + 1) lv (.int v :: rest)) : V k l D tys R cc nL own w cells slots (pc) lv (.int y :: .int x :: rest) := by
  obtain ⟨⟨p, e, s, m, args⟩, ⟨below, meth, c⟩, ⟨A, H0⟩, Q⟩ := k
  intro C H locs ls hP hD hS hl
  obtain ⟨hx, hb, hml, hown, hts, hK, hA, hlk, hN, hfl⟩ := id C
  dsimp only at *
  subst hv
  exact lv_iand hx hb hdg (kk C H locs ls hP hD hS hl)

theorem j_ior {x y v : Int32} (hdg : decode cc pc = .ok (.ior, 1)) (hv : x ||| y = v) (kk : V k l D tys R cc nL own w cells slots (pc + 1) lv (.int v :: rest)) : V k l D tys R cc nL own w cells slots (pc) lv (.int y :: .int x :: rest) := by
  obtain ⟨⟨p, e, s, m, args⟩, ⟨below, meth, c⟩, ⟨A, H0⟩, Q⟩ := k
  intro C H locs ls hP hD hS hl
  obtain ⟨hx, hb, hml, hown, hts, hK, hA, hlk, hN, hfl⟩ := id C
  dsimp only at *
  subst hv
  exact lv_ior hx hb hdg (kk C H locs ls hP hD hS hl)

theorem j_ixor {x y v : Int32} (hdg : decode cc pc = .ok (.ixor, 1)) (hv : x ^^^ y = v) (kk : V k l D tys R cc nL own w cells slots (pc + 1) lv (.int v :: rest)) : V k l D tys R cc nL own w cells slots (pc) lv (.int y :: .int x :: rest) := by
  obtain ⟨⟨p, e, s, m, args⟩, ⟨below, meth, c⟩, ⟨A, H0⟩, Q⟩ := k
  intro C H locs ls hP hD hS hl
  obtain ⟨hx, hb, hml, hown, hts, hK, hA, hlk, hN, hfl⟩ := id C
  dsimp only at *
  subst hv
  exact lv_ixor hx hb hdg (kk C H locs ls hP hD hS hl)

theorem j_ishl {x y v : Int32} (hdg : decode cc pc = .ok (.ishl, 1)) (hv : x <<< (y &&& 31) = v) (kk : V k l D tys R cc nL own w cells slots (pc + 1) lv (.int v :: rest)) : V k l D tys R cc nL own w cells slots (pc) lv (.int y :: .int x :: rest) := by
  obtain ⟨⟨p, e, s, m, args⟩, ⟨below, meth, c⟩, ⟨A, H0⟩, Q⟩ := k
  intro C H locs ls hP hD hS hl
  obtain ⟨hx, hb, hml, hown, hts, hK, hA, hlk, hN, hfl⟩ := id C
  dsimp only at *
  subst hv
  exact lv_ishl hx hb hdg (kk C H locs ls hP hD hS hl)

theorem j_ishr {x y v : Int32} (hdg : decode cc pc = .ok (.ishr, 1)) (hv : x >>> (y &&& 31) = v) (kk : V k l D tys R cc nL own w cells slots (pc + 1) lv (.int v :: rest)) : V k l D tys R cc nL own w cells slots (pc) lv (.int y :: .int x :: rest) := by
  obtain ⟨⟨p, e, s, m, args⟩, ⟨below, meth, c⟩, ⟨A, H0⟩, Q⟩ := k
  intro C H locs ls hP hD hS hl
  obtain ⟨hx, hb, hml, hown, hts, hK, hA, hlk, hN, hfl⟩ := id C
  dsimp only at *
  subst hv
  exact lv_ishr hx hb hdg (kk C H locs ls hP hD hS hl)

theorem j_idiv {x y v : Int32} (hdg : decode cc pc = .ok (.idiv, 1)) (hne : ¬ y = 0) (hv : x / y = v) (kk : V k l D tys R cc nL own w cells slots (pc + 1) lv (.int v :: rest)) : V k l D tys R cc nL own w cells slots (pc) lv (.int y :: .int x :: rest) := by
  obtain ⟨⟨p, e, s, m, args⟩, ⟨below, meth, c⟩, ⟨A, H0⟩, Q⟩ := k
  intro C H locs ls hP hD hS hl
  obtain ⟨hx, hb, hml, hown, hts, hK, hA, hlk, hN, hfl⟩ := id C
  dsimp only at *
  subst hv
  exact lv_idiv hx hb hdg hne (kk C H locs ls hP hD hS hl)

theorem j_irem {x y v : Int32} (hdg : decode cc pc = .ok (.irem, 1)) (hne : ¬ y = 0) (hv : x - x / y * y = v) (kk : V k l D tys R cc nL own w cells slots (pc + 1) lv (.int v :: rest)) : V k l D tys R cc nL own w cells slots (pc) lv (.int y :: .int x :: rest) := by
  obtain ⟨⟨p, e, s, m, args⟩, ⟨below, meth, c⟩, ⟨A, H0⟩, Q⟩ := k
  intro C H locs ls hP hD hS hl
  obtain ⟨hx, hb, hml, hown, hts, hK, hA, hlk, hN, hfl⟩ := id C
  dsimp only at *
  subst hv
  exact lv_irem hx hb hdg hne (kk C H locs ls hP hD hS hl)

theorem j_iushr {x y v : Int32} (hdg : decode cc pc = .ok (.iushr, 1)) (hv : (x.toUInt32 >>> (y.toUInt32 &&& Int32.toUInt32 31)).toInt32 = v) (kk : V k l D tys R cc nL own w cells slots (pc + 1) lv (.int v :: rest)) : V k l D tys R cc nL own w cells slots (pc) lv (.int y :: .int x :: rest) := by
  obtain ⟨⟨p, e, s, m, args⟩, ⟨below, meth, c⟩, ⟨A, H0⟩, Q⟩ := k
  intro C H locs ls hP hD hS hl
  obtain ⟨hx, hb, hml, hown, hts, hK, hA, hlk, hN, hfl⟩ := id C
  dsimp only at *
  first | exact lv_iushr hx hb hdg hv (kk C H locs ls hP hD hS hl) | (subst hv; exact lv_iushr hx hb hdg (kk C H locs ls hP hD hS hl))

theorem j_ladd {x y v : Int64} (hdg : decode cc pc = .ok (.ladd, 1)) (hv : x + y = v) (kk : V k l D tys R cc nL own w cells slots (pc + 1) lv (.long v :: rest)) : V k l D tys R cc nL own w cells slots (pc) lv (.long y :: .long x :: rest) := by
  obtain ⟨⟨p, e, s, m, args⟩, ⟨below, meth, c⟩, ⟨A, H0⟩, Q⟩ := k
  intro C H locs ls hP hD hS hl
  obtain ⟨hx, hb, hml, hown, hts, hK, hA, hlk, hN, hfl⟩ := id C
  dsimp only at *
  subst hv
  exact lv_ladd hx hb hdg (kk C H locs ls hP hD hS hl)

theorem j_lmul {x y v : Int64} (hdg : decode cc pc = .ok (.lmul, 1)) (hv : x * y = v) (kk : V k l D tys R cc nL own w cells slots (pc + 1) lv (.long v :: rest)) : V k l D tys R cc nL own w cells slots (pc) lv (.long y :: .long x :: rest) := by
  obtain ⟨⟨p, e, s, m, args⟩, ⟨below, meth, c⟩, ⟨A, H0⟩, Q⟩ := k
  intro C H locs ls hP hD hS hl
  obtain ⟨hx, hb, hml, hown, hts, hK, hA, hlk, hN, hfl⟩ := id C
  dsimp only at *
  subst hv
  exact lv_lmul hx hb hdg (kk C H locs ls hP hD hS hl)

theorem j_lor {x y v : Int64} (hdg : decode cc pc = .ok (.lor, 1)) (hv : x ||| y = v) (kk : V k l D tys R cc nL own w cells slots (pc + 1) lv (.long v :: rest)) : V k l D tys R cc nL own w cells slots (pc) lv (.long y :: .long x :: rest) := by
  obtain ⟨⟨p, e, s, m, args⟩, ⟨below, meth, c⟩, ⟨A, H0⟩, Q⟩ := k
  intro C H locs ls hP hD hS hl
  obtain ⟨hx, hb, hml, hown, hts, hK, hA, hlk, hN, hfl⟩ := id C
  dsimp only at *
  subst hv
  exact lv_lor hx hb hdg (kk C H locs ls hP hD hS hl)

theorem j_lshl {x v : Int64} {y : Int32} (hdg : decode cc pc = .ok (.lshl, 1)) (hv : x <<< (y.toInt64 &&& 63) = v) (kk : V k l D tys R cc nL own w cells slots (pc + 1) lv (.long v :: rest)) : V k l D tys R cc nL own w cells slots (pc) lv (.int y :: .long x :: rest) := by
  obtain ⟨⟨p, e, s, m, args⟩, ⟨below, meth, c⟩, ⟨A, H0⟩, Q⟩ := k
  intro C H locs ls hP hD hS hl
  obtain ⟨hx, hb, hml, hown, hts, hK, hA, hlk, hN, hfl⟩ := id C
  dsimp only at *
  exact lv_lshl hx hb hdg hv (kk C H locs ls hP hD hS hl)

theorem j_lushr {x v : Int64} {y : Int32} (hdg : decode cc pc = .ok (.lushr, 1)) (hv : (x.toUInt64 >>> (y.toInt64.toUInt64 &&& Int64.toUInt64 63)).toInt64 = v) (kk : V k l D tys R cc nL own w cells slots (pc + 1) lv (.long v :: rest)) : V k l D tys R cc nL own w cells slots (pc) lv (.int y :: .long x :: rest) := by
  obtain ⟨⟨p, e, s, m, args⟩, ⟨below, meth, c⟩, ⟨A, H0⟩, Q⟩ := k
  intro C H locs ls hP hD hS hl
  obtain ⟨hx, hb, hml, hown, hts, hK, hA, hlk, hN, hfl⟩ := id C
  dsimp only at *
  exact lv_lushr hx hb hdg hv (kk C H locs ls hP hD hS hl)

theorem j_l2i {x : Int64} {v : Int32} (hdg : decode cc pc = .ok (.l2i, 1)) (hv : x.toInt32 = v) (kk : V k l D tys R cc nL own w cells slots (pc + 1) lv (.int v :: rest)) : V k l D tys R cc nL own w cells slots (pc) lv (.long x :: rest) := by
  obtain ⟨⟨p, e, s, m, args⟩, ⟨below, meth, c⟩, ⟨A, H0⟩, Q⟩ := k
  intro C H locs ls hP hD hS hl
  obtain ⟨hx, hb, hml, hown, hts, hK, hA, hlk, hN, hfl⟩ := id C
  dsimp only at *
  exact lv_l2i hx hb hdg hv (kk C H locs ls hP hD hS hl)

theorem j_i2l {x : Int32} {v : Int64} (hdg : decode cc pc = .ok (.i2l, 1)) (hv : x.toInt64 = v) (kk : V k l D tys R cc nL own w cells slots (pc + 1) lv (.long v :: rest)) : V k l D tys R cc nL own w cells slots (pc) lv (.int x :: rest) := by
  obtain ⟨⟨p, e, s, m, args⟩, ⟨below, meth, c⟩, ⟨A, H0⟩, Q⟩ := k
  intro C H locs ls hP hD hS hl
  obtain ⟨hx, hb, hml, hown, hts, hK, hA, hlk, hN, hfl⟩ := id C
  dsimp only at *
  exact lv_i2l hx hb hdg hv (kk C H locs ls hP hD hS hl)

theorem j_lcmp {x y : Int64} {v : Int32} (hdg : decode cc pc = .ok (.lcmp, 1)) (hv : lg_cmp x y = v) (kk : V k l D tys R cc nL own w cells slots (pc + 1) lv (.int v :: rest)) : V k l D tys R cc nL own w cells slots (pc) lv (.long y :: .long x :: rest) := by
  obtain ⟨⟨p, e, s, m, args⟩, ⟨below, meth, c⟩, ⟨A, H0⟩, Q⟩ := k
  intro C H locs ls hP hD hS hl
  obtain ⟨hx, hb, hml, hown, hts, hK, hA, hlk, hN, hfl⟩ := id C
  dsimp only at *
  subst hv
  exact W.lcmp hx hb hdg (kk C H locs ls hP hD hS hl)

theorem j_dup {va : Value} (hdg : decode cc pc = .ok (.dup, 1)) (hva : va.category = 1) (kk : V k l D tys R cc nL own w cells slots (pc + 1) lv (va :: va :: rest)) : V k l D tys R cc nL own w cells slots (pc) lv (va :: rest) := by
  obtain ⟨⟨p, e, s, m, args⟩, ⟨below, meth, c⟩, ⟨A, H0⟩, Q⟩ := k
  intro C H locs ls hP hD hS hl
  obtain ⟨hx, hb, hml, hown, hts, hK, hA, hlk, hN, hfl⟩ := id C
  dsimp only at *
  exact lv_dup hx hb hdg hva (kk C H locs ls hP hD hS hl)

theorem j_pop {va : Value} (hdg : decode cc pc = .ok (.pop, 1)) (hva : va.category = 1) (kk : V k l D tys R cc nL own w cells slots (pc + 1) lv (rest)) : V k l D tys R cc nL own w cells slots (pc) lv (va :: rest) := by
  obtain ⟨⟨p, e, s, m, args⟩, ⟨below, meth, c⟩, ⟨A, H0⟩, Q⟩ := k
  intro C H locs ls hP hD hS hl
  obtain ⟨hx, hb, hml, hown, hts, hK, hA, hlk, hN, hfl⟩ := id C
  dsimp only at *
  exact lv_pop hx hb hdg hva (kk C H locs ls hP hD hS hl)

theorem j_dup2 {va vb : Value} (hdg : decode cc pc = .ok (.dup2, 1)) (hva : va.category = 1) (hvb : vb.category = 1) (kk : V k l D tys R cc nL own w cells slots (pc + 1) lv (va :: vb :: va :: vb :: rest)) : V k l D tys R cc nL own w cells slots (pc) lv (va :: vb :: rest) := by
  obtain ⟨⟨p, e, s, m, args⟩, ⟨below, meth, c⟩, ⟨A, H0⟩, Q⟩ := k
  intro C H locs ls hP hD hS hl
  obtain ⟨hx, hb, hml, hown, hts, hK, hA, hlk, hN, hfl⟩ := id C
  dsimp only at *
  exact lv_dup2_11 hx hb hdg hva hvb (kk C H locs ls hP hD hS hl)

theorem j_dup_x1 {va vb : Value} (hdg : decode cc pc = .ok (.dup_x1, 1)) (hva : va.category = 1) (hvb : vb.category = 1) (kk : V k l D tys R cc nL own w cells slots (pc + 1) lv (va :: vb :: va :: rest)) : V k l D tys R cc nL own w cells slots (pc) lv (va :: vb :: rest) := by
  obtain ⟨⟨p, e, s, m, args⟩, ⟨below, meth, c⟩, ⟨A, H0⟩, Q⟩ := k
  intro C H locs ls hP hD hS hl
  obtain ⟨hx, hb, hml, hown, hts, hK, hA, hlk, hN, hfl⟩ := id C
  dsimp only at *
  exact lv_dup_x1 hx hb hdg hva hvb (kk C H locs ls hP hD hS hl)

theorem j_goto {off : Int} {tgt : Nat} (hdg : decode cc pc = .ok (.goto off, 3)) (ht : (pc : Int) + off = (tgt : Int)) (kk : V k l D tys R cc nL own w cells slots (tgt) lv (rest)) : V k l D tys R cc nL own w cells slots (pc) lv (rest) := by
  obtain ⟨⟨p, e, s, m, args⟩, ⟨below, meth, c⟩, ⟨A, H0⟩, Q⟩ := k
  intro C H locs ls hP hD hS hl
  obtain ⟨hx, hb, hml, hown, hts, hK, hA, hlk, hN, hfl⟩ := id C
  dsimp only at *
  exact lv_goto hx hb hdg ht (kk C H locs ls hP hD hS hl)

end JV
