/-! THE CLAIM OUT OF ONE WALK OF THE LAW'S BODY. Your part is whole_start (and what it stands on); all else here is the same for every law, but numbers. -/
def R_law : String := "LoopDiagramLaw"
def lw_P (b : Addr) (xs : List Int32) (args : Array Value) (s : State) : Prop := args = #[.ref b] ∧ s.IntsAt b xs ∧ xs.length ≤ 258 ∧ (Jvm.Cond.and given_1 narrow_1).before args s = true
def lw_Q (_ : Array Value) (s : State) (o : Outcome) (t : State) : Prop := o = .returned (some (.int 1)) ∧ Framed s o t [] 600128 7301064
def lw_Z (below : List Frame) (a : Array Value) (s : State) : State → Prop := fun t => ∃ o, t.status = .running ∧ Ended t below o ∧ lw_Q a s o t
/-- the law's own end, with 1 on the stack, nothing written that was there before, its room as the claim has it -/
theorem lw_ret {p : Program} {l : Launch} {e : Env} {s : State} {m : MethodId} {below : List Frame} {meth : Method} {c : Code} {b : Nat} (hx : p.tables.exec = Jvm.exec) (hb : c.code = code) (hr : meth.sig.returnType = ret) (hlocks : meth.locks = false) {pc : Nat} {H : Heap} {ls : Array Slot} (hdg : decode code pc = .ok (.ireturn, 1)) : W p l e room_1 s m #[Value.ref b] below meth c H [] 600128 7301064 (lw_Z below #[Value.ref b] s) (F0 m pc ls [.int 1]) := by
  intro T hT X
  obtain ⟨fs, hret, hrun, hended, hW, hframe⟩ := X.leave (v := some (.int 1)) (hlocks := hlocks) (fun h => by rw [hr] at h; cases h)
  have hmeth' : T.vm.method? m = some meth := X.method'
  refine ⟨T.setFrames fs, ?_, .returned (some (.int 1)), hrun, hended, rfl, ⟨_, rfl⟩, hW, hframe⟩
  jvm_step X.here [X.here.top, hx, hb, hdg, hmeth', hr, ret, narrow_b1]
  (try refine ⟨rfl, ?_⟩); (try refine ⟨rfl, ?_⟩)
  first | (intro acts; rw [hret _ acts rfl rfl rfl]) | rw [hret _ _ rfl rfl rfl]
  exact Steps.refl _
/-- what holds at the law's entry: the machine, the code, the tables' words (any of lw_tbl by 'hts w (by decide +kernel)'), the script of L ints xs at the cell b, what the Statement gives of the start (any of its parts by flat_of_before) -/
def lw_At (p : Program) (s : State) (m : MethodId) (meth : Method) (c : Code) (b L : Nat) (xs : Nat → Int32) : Prop :=
  p.tables.exec = Jvm.exec ∧ c.code = code ∧ meth.sig.returnType = ret ∧ c.maxLocals = 7 ∧ s.vm.findClass R_law = some m.cls ∧ (∀ w ∈ lw_tbl, w.before #[Value.ref b] s = true) ∧ va_X b L xs s s.heap ∧ b < s.heap.size ∧ meth.locks = false ∧ (Jvm.Cond.and given_1 narrow_1).before #[Value.ref b] s = true
/-! the script, and the law's own rows -/
/-- the script of L ints xs lies at b, and stays -/
def SX (k : VK) (b L : Nat) (xs : Nat → Int32) : Prop := va_X b L xs k.1.2.2.1 k.2.2.1.2 ∧ b < k.2.2.1.2.size ∧ ¬ k.2.2.1.1 b
section JL
variable {k : VK} {l : Launch} {D : va_G} {tys : List (ClassId × FieldType)} {R : Room} {cc : ByteArray} {nL : Nat} {own : String} {w : va_W} {cells slots pc : Nat} {lv : List (Nat × Value)} {rest : List Value}
theorem j_slen {b L : Nat} {xs : Nat → Int32} (hX : SX k b L xs) (hdg : decode cc pc = .ok (.arraylength, 1)) (kk : V k l D tys R cc nL own (w) (cells) (slots) (pc + 1) lv (.int (nI L) :: rest)) : V k l D tys R cc nL own (w) (cells) (slots) (pc) lv (.ref b :: rest) := by
  obtain ⟨⟨p, e, s, m, args⟩, ⟨below, meth, c⟩, ⟨A, H0⟩, Q⟩ := k
  intro C H locs ls hP hD hS hl
  obtain ⟨hx, hb, hml, hown, hts, hK, hA, hlk, hN, hfl⟩ := id C
  dsimp only at *
  exact va_slen hx hb hX.1 hX.2.1 hX.2.2 hS hdg (kk C H locs ls hP hD hS hl)
theorem j_sld {b L i : Nat} {xs : Nat → Int32} (hX : SX k b L xs) (hi : i < L) (hn : L < 2 ^ 31) (hdg : decode cc pc = .ok (.iaload, 1)) (kk : V k l D tys R cc nL own (w) (cells) (slots) (pc + 1) lv (.int (xs i) :: rest)) : V k l D tys R cc nL own (w) (cells) (slots) (pc) lv (.int (nI i) :: .ref b :: rest) := by
  obtain ⟨⟨p, e, s, m, args⟩, ⟨below, meth, c⟩, ⟨A, H0⟩, Q⟩ := k
  intro C H locs ls hP hD hS hl
  obtain ⟨hx, hb, hml, hown, hts, hK, hA, hlk, hN, hfl⟩ := id C
  dsimp only at *
  refine va_sld (i := nI i) hx hb hX.1 hX.2.1 hX.2.2 hS (vp_in_nI hi hn) hdg ?_
  rw [nI_clamp (Nat.lt_trans hi hn)]
  exact kk C H locs ls hP hD hS hl
theorem j_tabIn {dflt lo hi : Int} {offs : Array Int} {len j : Nat} {off : Int} {tgt : Nat} (hj : j < 2 ^ 31) (hdg : decode cc pc = .ok (.tableswitch dflt lo hi offs, len)) (h1 : ¬ (j : Int) < lo) (h2 : ¬ hi < (j : Int)) (ho : offs[((j : Int) - lo).toNat]? = some off) (ht : (pc : Int) + off = (tgt : Int)) (kk : V k l D tys R cc nL own (w) (cells) (slots) (tgt) lv (rest)) : V k l D tys R cc nL own (w) (cells) (slots) (pc) lv (.int (nI j) :: rest) := by
  obtain ⟨⟨p, e, s, m, args⟩, ⟨below, meth, c⟩, ⟨A, H0⟩, Q⟩ := k
  intro C H locs ls hP hD hS hl
  obtain ⟨hx, hb, hml, hown, hts, hK, hA, hlk, hN, hfl⟩ := id C
  dsimp only at *
  exact lv_tableIn (x := nI j) hx hb hdg (by rw [nI_toInt hj]; exact h1) (by rw [nI_toInt hj]; exact h2) (by rw [nI_toInt hj]; exact ho) ht (kk C H locs ls hP hD hS hl)
theorem j_tabOut {dflt lo hi : Int} {offs : Array Int} {len j : Nat} {tgt : Nat} (hj : j < 2 ^ 31) (hdg : decode cc pc = .ok (.tableswitch dflt lo hi offs, len)) (h : (j : Int) < lo ∨ hi < (j : Int)) (ht : (pc : Int) + dflt = (tgt : Int)) (kk : V k l D tys R cc nL own (w) (cells) (slots) (tgt) lv (rest)) : V k l D tys R cc nL own (w) (cells) (slots) (pc) lv (.int (nI j) :: rest) := by
  obtain ⟨⟨p, e, s, m, args⟩, ⟨below, meth, c⟩, ⟨A, H0⟩, Q⟩ := k
  intro C H locs ls hP hD hS hl
  obtain ⟨hx, hb, hml, hown, hts, hK, hA, hlk, hN, hfl⟩ := id C
  dsimp only at *
  exact lv_tableOut (x := nI j) hx hb hdg (by rw [nI_toInt hj]; exact h) ht (kk C H locs ls hP hD hS hl)
/-- the law's end -/
def VLaw (k : VK) (b : Nat) : Prop := k.1.2.2.2.2 = #[Value.ref b] ∧ k.2.2.1.1 = (fun q => k.1.2.2.1.heap.size ≤ q) ∧ k.2.2.1.2 = k.1.2.2.1.heap ∧ k.2.2.2 = lw_Z k.2.1.1 #[Value.ref b] k.1.2.2.1 ∧ k.2.1.2.1.sig.returnType = ret
theorem j_lawret {b : Nat} (hV : VLaw k b) (hdg : decode code pc = .ok (.ireturn, 1)) (hc : cells ≤ 600128) (hs : slots ≤ 7301064) : V k l D tys room_1 code nL own w cells slots pc lv [.int (nI 1)] := by
  obtain ⟨⟨p, e, s, m, args⟩, ⟨below, meth, c⟩, ⟨A, H0⟩, Q⟩ := k
  intro C H locs ls hP hD hS hl
  obtain ⟨hx, hb, hml, hown, hts, hK, hA, hlk, hN, hfl⟩ := id C
  obtain ⟨v1, v2, v3, v4, v5⟩ := hV
  dsimp only at *
  subst v1 v2 v3 v4
  refine va_forget (fun q hq => hS.2.2 q hq) (W.widen (k := 600128) (n := 7301064) hc hs ?_)
  exact lw_ret hx hb v5 hlk hdg
end JL
/-- a method that only reads the script -/
def CtS (l : Launch) (y : MethodName) (cc : ByteArray) (n : Nat) (ret : Option FieldType) (rm : Room) (D : va_G) (tys : List (ClassId × FieldType)) (b L : Nat) (xs : Nat → Int32) (av : List Value) (Po : Option Value → va_W → Prop) : Prop :=
  ∀ sz : Nat, Met l y (Cond.code y cc n ret :: aL) rm (va_Pc av (fun U => PCt D tys [] sz U ∧ va_X b L xs U U.heap ∧ b < sz)) (QCt D tys (va_A [] sz) Po) 0 0 (va_A [] sz)
theorem CtS.of {l : Launch} {y : MethodName} {cc : ByteArray} {n : Nat} {ret : Option FieldType} {rm : Room} {D : va_G} {tys : List (ClassId × FieldType)} {b L : Nat} {xs : Nat → Int32} {av : List Value} {Po : Option Value → va_W → Prop} (hfl : l.flags = flags0) (hy : plainName y.cls = true) (hn : (lg_sl av).length ≤ n)
    (body : ∀ k : VK, VRet k D tys ret Po 0 0 → SX k b L xs → V k l D tys rm cc n y.cls [] 0 0 0 (lv_args 0 av) []) : CtS l y cc n ret rm D tys b L xs av Po := by
  intro sz
  refine Met.ofW (cc := cc) (maxL := n) (ret := ret) hy rfl ?_
  intro p e s m args below meth c s₁ B hml hv
  obtain ⟨rfl, ⟨hsz, hP, hK, hD0, hN⟩, hX, hb⟩ := hv
  subst hsz
  have hts : ∀ w ∈ aL, w.before av.toArray s = true := fun w hw => atoms_spec (ws := Cond.code y cc n ret :: aL) B.pre w (List.mem_cons_of_mem _ hw)
  have hl := lv_entry av (n := n) hn
  rw [lg_entry_eq]
  have hb2 := body ((p, e, s, m, av.toArray), (below, meth, c), (va_A [] s.heap.size, s.heap), MQ below (QCt D tys (va_A [] s.heap.size) Po) av.toArray s 0 0 (va_A [] s.heap.size)) ⟨B.returns, rfl, rfl⟩ ⟨hX, hb, fun h => by
    rcases h with ⟨k, e, h⟩ | h
    · simp at h
    · exact absurd hb (Nat.not_lt.mpr h)⟩
  exact hb2 ⟨B.exec, B.bytes, hml, findClass_of_methodNamed B.named, hts, hK, fun q h => Or.inr h, B.notSynchronized, hN, hfl⟩ s.heap [] _ hP hD0.self va_S.rf hl
section JM
variable {k : VK} {l : Launch} {D : va_G} {tys : List (ClassId × FieldType)} {R : Room} {cc : ByteArray} {nL : Nat} {own : String} {w : va_W} {cells slots pc : Nat} {lv : List (Nat × Value)} {rest : List Value}
theorem j_callC {y : MethodName} {cc2 : ByteArray} {n2 index n : Nat} {ret2 : Option FieldType} {rm : Room} {av : List Value} {r0 : Value} {b L : Nat} {xs : Nat → Int32} (hM : CtS l y cc2 n2 ret2 rm D tys b L xs av (fun r u => r = some r0 ∧ u = [])) (h1 : Cond.methodLink own index y ∈ aL) (h2 : Cond.static y ∈ aL) (h3 : Cond.initialized y.cls ∈ aL) (h4 : Cond.code y cc2 n2 ret2 ∈ aL) (hd : y.cls ≠ "java/lang/invoke/MethodHandle" ∧ y.cls ≠ "java/lang/invoke/VarHandle" ∧ (parseMethodDescriptor y.desc).map (fun d => d.parameters.length) = some n) (hlen : av.length = n) (hrm : rm.cells = 0 ∧ rm.slots = 0) (hR : rm.frames + 1 ≤ R.frames ∧ 8 + (n2 + 11) + rm.locals ≤ R.locals) (hc : cells ≤ R.cells ∧ slots ≤ R.slots) (hW : (rest.map fun v => v.category).sum ≤ 8)
    (hX : SX k b L xs) {st : List Value} (hst : st = av.reverse ++ rest) (hdg : decode cc pc = .ok (.invokestatic index, 3)) (kk : V k l D tys R cc nL own (w) (cells) (slots) (pc + 3) lv (r0 :: rest)) : V k l D tys R cc nL own (w) (cells) (slots) (pc) lv (st) := by
  obtain ⟨⟨p, e, s, m, args⟩, ⟨below, meth, c⟩, ⟨A, H0⟩, Q⟩ := k
  intro C H locs ls hP hD hS hl
  obtain ⟨hx, hb, hml, hown, hts, hK, hA, hlk, hN, hfl⟩ := id C
  dsimp only at *
  subst hst
  obtain ⟨x1, x2, x3⟩ := hX
  dsimp only at x1 x2 x3
  have hDc : va_D A [] := ⟨fun i j p q h => by simp at h, fun k q h => by simp at h⟩
  have hFc := va_free (wc := []) hD hS hA [] rfl
  refine va_callO (va_runS (As := av) (rest := rest) ⟨hx, hb, hml, hown, hts⟩ (hM H.size) (va_cwS n hts (goodS h1 h2 h3 h4) rfl hrm.1 hrm.2 hd hR) ⟨fun a U g mk q => ?_, fun U hU hW => ⟨rfl, ⟨by rw [hU], fun k q h => by simp at h, va_K.moved hW.alike hK, hDc.weaken (fun _ _ _ _ => trivial), va_Nw.warmM hW hN⟩, ?_, Nat.lt_of_lt_of_le x2 hS.1⟩⟩ rfl hlen hl.1 rfl (lv_room hW) hdg hc) hS (fun q _ h => hFc q h) hFc (fun r u t H1 locs1 ht hvm hpo hP1 hK1 hD1 hz1 hk1 hS1 => ?_)
  · obtain ⟨q0, ⟨q1, qP, qK, qD, qN⟩, z1, z2⟩ := q
    have hal : U.vm.Alike (U.calling g mk a).vm := Vm.Alike.refl U.vm
    exact ⟨q0, ⟨q1, qP, va_K.moved (u := U) (U := U.calling g mk a) hal qK, qD, va_Nw.same (u := U) (U := U.calling g mk a) rfl rfl qN⟩, va_X.moved (U := U.calling g mk a) hal z1, z2⟩
  · rw [hU]
    exact (x1.kept (hS.2.1 b x2 x3)).moved hW.alike
  · obtain ⟨rfl, rfl⟩ := hpo
    rw [ht] at hP1
    refine kk C H1 locs1 ls (hP.kept (fun j q hq => hk1 q.1 (vx_lt hP hq) (fun hA1 => ?_))) hD hS1 hl
    rcases hA1 with ⟨k9, e9, h9⟩ | h9
    · simp at h9
    · exact absurd (vx_lt hP hq) (Nat.not_lt.mpr h9)
end JM
/-- an int of the script, 0 beyond -/
def xAt (L : Nat) (xs : Nat → Int32) (i : Nat) : Int32 := if i < L then xs i else 0
set_option maxHeartbeats 4000000 in
theorem c_cell (l : Launch) (hfl : l.flags = flags0) (D : va_G) (tys : List (ClassId × FieldType)) (b L : Nat) (xs : Nat → Int32) (hL : L < 2 ^ 31) (i : Nat) (hi : i < 2 ^ 31) : CtS l yL_cell cL_cell 2 (Option.some FieldType.int) ({ frames := 0, cells := 0, slots := 0, locals := 0 } : Room) D tys b L xs [.ref b, .int (nI i)] (fun r u => r = some (.int (xAt L xs i)) ∧ u = []) := by
  refine CtS.of hfl (by decide) (Nat.le_of_ble_eq_true rfl) ?_
  intro k hR hX
  show V k l D tys ({ frames := 0, cells := 0, slots := 0, locals := 0 } : Room) cL_cell 2 RL [] 0 0 0 [(0, .ref b), (1, .int (nI i))] []
  refine j_iload_n dL_cell_0 rfl 1 rfl ?_
  refine j_aload_n dL_cell_1 rfl 0 rfl ?_
  refine j_slen hX dL_cell_2 ?_
  refine jn_icmp_ge (tgt := 12) (a := i) (b := L) hi hL dL_cell_3 (by decide) (fun c3 => ?_) (fun c3 => ?_)
  · refine j_iconst (v := nI 0) dL_cell_12 (by decide) ?_
    exact j_iret (tys' := []) rfl hR dL_cell_13 ⟨by unfold xAt; rw [if_neg (by omega), nI_0], rfl⟩
  · refine j_aload_n dL_cell_6 rfl 0 rfl ?_
    refine j_iload_n dL_cell_7 rfl 1 rfl ?_
    refine j_sld hX c3 hL dL_cell_8 ?_
    refine j_goto (tgt := 13) dL_cell_9 (by decide) ?_
    exact j_iret (tys' := []) rfl hR dL_cell_13 ⟨by unfold xAt; rw [if_pos c3], rfl⟩
