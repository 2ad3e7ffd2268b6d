section
-- ===== PART A: goes FIRST, ahead of the names: the tables' words, and 'selects' of the private methods out of them =====
/-- a private method of a class that the tables say can be made, by its rows of tables_1 -/
def lw_okq (q : MethodName × Nat) : Prop := (q.1.cls ≠ "java/lang/invoke/MethodHandle" ∧ q.1.cls ≠ "java/lang/invoke/VarHandle") ∧ Cond.instantiable q.1.cls q.2 ∈ tables_1 ∧ Cond.privateMethod q.1 ∈ tables_1 ∧ Cond.instanceMethod q.1 ∈ tables_1
theorem lw_p0 : lw_okq (⟨"LoopDiagram", "fresh", "()LLoopDiagram$Diagram;"⟩, 4) := ⟨⟨by decide +kernel, by decide +kernel⟩, List.mem_of_getElem? (i := 14) (by decide +kernel), List.mem_of_getElem? (i := 115) (by decide +kernel), List.mem_of_getElem? (i := 116) (by decide +kernel)⟩
theorem lw_p1 : lw_okq (⟨"LoopDiagram$Diagram", "nodeAfter", "(IIZ)I"⟩, 8) := ⟨⟨by decide +kernel, by decide +kernel⟩, List.mem_of_getElem? (i := 60) (by decide +kernel), List.mem_of_getElem? (i := 123) (by decide +kernel), List.mem_of_getElem? (i := 124) (by decide +kernel)⟩
theorem lw_p2 : lw_okq (⟨"LoopDiagram$Grid", "sideAfter", "(IIIZZ)I"⟩, 7) := ⟨⟨by decide +kernel, by decide +kernel⟩, List.mem_of_getElem? (i := 22) (by decide +kernel), List.mem_of_getElem? (i := 153) (by decide +kernel), List.mem_of_getElem? (i := 154) (by decide +kernel)⟩
theorem lw_p3 : lw_okq (⟨"LoopDiagram$Diagram", "fillWays", "([II)V"⟩, 8) := ⟨⟨by decide +kernel, by decide +kernel⟩, List.mem_of_getElem? (i := 60) (by decide +kernel), List.mem_of_getElem? (i := 157) (by decide +kernel), List.mem_of_getElem? (i := 158) (by decide +kernel)⟩
theorem lw_p4 : lw_okq (⟨"LoopDiagram", "isNoEdge", "(I)Z"⟩, 4) := ⟨⟨by decide +kernel, by decide +kernel⟩, List.mem_of_getElem? (i := 14) (by decide +kernel), List.mem_of_getElem? (i := 214) (by decide +kernel), List.mem_of_getElem? (i := 215) (by decide +kernel)⟩
theorem lw_p5 : lw_okq (⟨"java/lang/Throwable", "fillInStackTrace", "(I)Ljava/lang/Throwable;"⟩, 6) := ⟨⟨by decide +kernel, by decide +kernel⟩, List.mem_of_getElem? (i := 257) (by decide +kernel), List.mem_of_getElem? (i := 255) (by decide +kernel), List.mem_of_getElem? (i := 256) (by decide +kernel)⟩
theorem lw_p6 : lw_okq (⟨"LoopDiagram", "isNoCell", "(II)Z"⟩, 4) := ⟨⟨by decide +kernel, by decide +kernel⟩, List.mem_of_getElem? (i := 14) (by decide +kernel), List.mem_of_getElem? (i := 290) (by decide +kernel), List.mem_of_getElem? (i := 291) (by decide +kernel)⟩
theorem lw_p7 : lw_okq (⟨"LoopDiagram", "setClue", "(II)V"⟩, 4) := ⟨⟨by decide +kernel, by decide +kernel⟩, List.mem_of_getElem? (i := 14) (by decide +kernel), List.mem_of_getElem? (i := 309) (by decide +kernel), List.mem_of_getElem? (i := 310) (by decide +kernel)⟩
theorem lw_p8 : lw_okq (⟨"LoopDiagramModel", "cell", "(II)I"⟩, 32) := ⟨⟨by decide +kernel, by decide +kernel⟩, List.mem_of_getElem? (i := 420) (by decide +kernel), List.mem_of_getElem? (i := 426) (by decide +kernel), List.mem_of_getElem? (i := 427) (by decide +kernel)⟩
theorem lw_p9 : lw_okq (⟨"LoopDiagramModel", "join", "(IIII)V"⟩, 32) := ⟨⟨by decide +kernel, by decide +kernel⟩, List.mem_of_getElem? (i := 420) (by decide +kernel), List.mem_of_getElem? (i := 430) (by decide +kernel), List.mem_of_getElem? (i := 431) (by decide +kernel)⟩
theorem lw_p10 : lw_okq (⟨"LoopDiagramModel", "meet", "(II)V"⟩, 32) := ⟨⟨by decide +kernel, by decide +kernel⟩, List.mem_of_getElem? (i := 420) (by decide +kernel), List.mem_of_getElem? (i := 434) (by decide +kernel), List.mem_of_getElem? (i := 435) (by decide +kernel)⟩
theorem lw_p11 : lw_okq (⟨"LoopDiagramModel", "border", "(II)V"⟩, 32) := ⟨⟨by decide +kernel, by decide +kernel⟩, List.mem_of_getElem? (i := 420) (by decide +kernel), List.mem_of_getElem? (i := 438) (by decide +kernel), List.mem_of_getElem? (i := 439) (by decide +kernel)⟩
theorem lw_p12 : lw_okq (⟨"LoopDiagramModel", "findLoops", "()V"⟩, 32) := ⟨⟨by decide +kernel, by decide +kernel⟩, List.mem_of_getElem? (i := 420) (by decide +kernel), List.mem_of_getElem? (i := 442) (by decide +kernel), List.mem_of_getElem? (i := 443) (by decide +kernel)⟩
theorem lw_p13 : lw_okq (⟨"LoopDiagramModel", "borderOf", "(I)I"⟩, 32) := ⟨⟨by decide +kernel, by decide +kernel⟩, List.mem_of_getElem? (i := 420) (by decide +kernel), List.mem_of_getElem? (i := 446) (by decide +kernel), List.mem_of_getElem? (i := 447) (by decide +kernel)⟩
theorem lw_p14 : lw_okq (⟨"LoopDiagramModel", "isLoopSet", "(I)Z"⟩, 32) := ⟨⟨by decide +kernel, by decide +kernel⟩, List.mem_of_getElem? (i := 420) (by decide +kernel), List.mem_of_getElem? (i := 453) (by decide +kernel), List.mem_of_getElem? (i := 454) (by decide +kernel)⟩
theorem lw_p15 : lw_okq (⟨"LoopDiagramModel", "measure", "(I)V"⟩, 32) := ⟨⟨by decide +kernel, by decide +kernel⟩, List.mem_of_getElem? (i := 420) (by decide +kernel), List.mem_of_getElem? (i := 457) (by decide +kernel), List.mem_of_getElem? (i := 458) (by decide +kernel)⟩
def lw_privs_1 : List (MethodName × Nat) := [(⟨"LoopDiagram", "fresh", "()LLoopDiagram$Diagram;"⟩, 4), (⟨"LoopDiagram$Diagram", "nodeAfter", "(IIZ)I"⟩, 8), (⟨"LoopDiagram$Grid", "sideAfter", "(IIIZZ)I"⟩, 7), (⟨"LoopDiagram$Diagram", "fillWays", "([II)V"⟩, 8), (⟨"LoopDiagram", "isNoEdge", "(I)Z"⟩, 4), (⟨"java/lang/Throwable", "fillInStackTrace", "(I)Ljava/lang/Throwable;"⟩, 6), (⟨"LoopDiagram", "isNoCell", "(II)Z"⟩, 4), (⟨"LoopDiagram", "setClue", "(II)V"⟩, 4), (⟨"LoopDiagramModel", "cell", "(II)I"⟩, 32), (⟨"LoopDiagramModel", "join", "(IIII)V"⟩, 32), (⟨"LoopDiagramModel", "meet", "(II)V"⟩, 32), (⟨"LoopDiagramModel", "border", "(II)V"⟩, 32), (⟨"LoopDiagramModel", "findLoops", "()V"⟩, 32), (⟨"LoopDiagramModel", "borderOf", "(I)I"⟩, 32), (⟨"LoopDiagramModel", "isLoopSet", "(I)Z"⟩, 32), (⟨"LoopDiagramModel", "measure", "(I)V"⟩, 32)]
theorem lw_r1 : ∀ q ∈ lw_privs_1, lw_okq q := List.forall_mem_cons.mpr ⟨lw_p0, List.forall_mem_cons.mpr ⟨lw_p1, List.forall_mem_cons.mpr ⟨lw_p2, List.forall_mem_cons.mpr ⟨lw_p3, List.forall_mem_cons.mpr ⟨lw_p4, List.forall_mem_cons.mpr ⟨lw_p5, List.forall_mem_cons.mpr ⟨lw_p6, List.forall_mem_cons.mpr ⟨lw_p7, List.forall_mem_cons.mpr ⟨lw_p8, List.forall_mem_cons.mpr ⟨lw_p9, List.forall_mem_cons.mpr ⟨lw_p10, List.forall_mem_cons.mpr ⟨lw_p11, List.forall_mem_cons.mpr ⟨lw_p12, List.forall_mem_cons.mpr ⟨lw_p13, List.forall_mem_cons.mpr ⟨lw_p14, List.forall_mem_cons.mpr ⟨lw_p15, fun _ h => absurd h List.not_mem_nil⟩⟩⟩⟩⟩⟩⟩⟩⟩⟩⟩⟩⟩⟩⟩⟩
theorem lw_p16 : lw_okq (⟨"LoopDiagramModel", "isRing", "(I)Z"⟩, 32) := ⟨⟨by decide +kernel, by decide +kernel⟩, List.mem_of_getElem? (i := 420) (by decide +kernel), List.mem_of_getElem? (i := 464) (by decide +kernel), List.mem_of_getElem? (i := 465) (by decide +kernel)⟩
theorem lw_p17 : lw_okq (⟨"LoopDiagramModel", "unseen", "()I"⟩, 32) := ⟨⟨by decide +kernel, by decide +kernel⟩, List.mem_of_getElem? (i := 420) (by decide +kernel), List.mem_of_getElem? (i := 468) (by decide +kernel), List.mem_of_getElem? (i := 469) (by decide +kernel)⟩
theorem lw_p18 : lw_okq (⟨"LoopDiagramModel", "isThin", "()Z"⟩, 32) := ⟨⟨by decide +kernel, by decide +kernel⟩, List.mem_of_getElem? (i := 420) (by decide +kernel), List.mem_of_getElem? (i := 472) (by decide +kernel), List.mem_of_getElem? (i := 473) (by decide +kernel)⟩
theorem lw_p19 : lw_okq (⟨"LoopDiagramModel", "hasEnds", "()Z"⟩, 32) := ⟨⟨by decide +kernel, by decide +kernel⟩, List.mem_of_getElem? (i := 420) (by decide +kernel), List.mem_of_getElem? (i := 476) (by decide +kernel), List.mem_of_getElem? (i := 477) (by decide +kernel)⟩
theorem lw_p20 : lw_okq (⟨"LoopDiagramModel", "walk", "(II)I"⟩, 32) := ⟨⟨by decide +kernel, by decide +kernel⟩, List.mem_of_getElem? (i := 420) (by decide +kernel), List.mem_of_getElem? (i := 480) (by decide +kernel), List.mem_of_getElem? (i := 481) (by decide +kernel)⟩
theorem lw_p21 : lw_okq (⟨"LoopDiagramModel", "onward", "(III)I"⟩, 32) := ⟨⟨by decide +kernel, by decide +kernel⟩, List.mem_of_getElem? (i := 420) (by decide +kernel), List.mem_of_getElem? (i := 484) (by decide +kernel), List.mem_of_getElem? (i := 485) (by decide +kernel)⟩
theorem lw_p22 : lw_okq (⟨"LoopDiagramModel", "isEdge", "(I)Z"⟩, 32) := ⟨⟨by decide +kernel, by decide +kernel⟩, List.mem_of_getElem? (i := 420) (by decide +kernel), List.mem_of_getElem? (i := 598) (by decide +kernel), List.mem_of_getElem? (i := 599) (by decide +kernel)⟩
theorem lw_p23 : lw_okq (⟨"LoopDiagramModel", "find", "()V"⟩, 32) := ⟨⟨by decide +kernel, by decide +kernel⟩, List.mem_of_getElem? (i := 420) (by decide +kernel), List.mem_of_getElem? (i := 614) (by decide +kernel), List.mem_of_getElem? (i := 615) (by decide +kernel)⟩
theorem lw_p24 : lw_okq (⟨"LoopDiagramModel", "keepsClues", "(I)Z"⟩, 32) := ⟨⟨by decide +kernel, by decide +kernel⟩, List.mem_of_getElem? (i := 420) (by decide +kernel), List.mem_of_getElem? (i := 618) (by decide +kernel), List.mem_of_getElem? (i := 619) (by decide +kernel)⟩
theorem lw_p25 : lw_okq (⟨"LoopDiagramModel", "sides", "(II)I"⟩, 32) := ⟨⟨by decide +kernel, by decide +kernel⟩, List.mem_of_getElem? (i := 420) (by decide +kernel), List.mem_of_getElem? (i := 622) (by decide +kernel), List.mem_of_getElem? (i := 623) (by decide +kernel)⟩
theorem lw_p26 : lw_okq (⟨"LoopDiagramModel", "measureLevels", "()V"⟩, 32) := ⟨⟨by decide +kernel, by decide +kernel⟩, List.mem_of_getElem? (i := 420) (by decide +kernel), List.mem_of_getElem? (i := 630) (by decide +kernel), List.mem_of_getElem? (i := 631) (by decide +kernel)⟩
theorem lw_p27 : lw_okq (⟨"LoopDiagramModel", "wipe", "()V"⟩, 32) := ⟨⟨by decide +kernel, by decide +kernel⟩, List.mem_of_getElem? (i := 420) (by decide +kernel), List.mem_of_getElem? (i := 634) (by decide +kernel), List.mem_of_getElem? (i := 635) (by decide +kernel)⟩
theorem lw_p28 : lw_okq (⟨"LoopDiagramModel", "isUseful", "(II)Z"⟩, 32) := ⟨⟨by decide +kernel, by decide +kernel⟩, List.mem_of_getElem? (i := 420) (by decide +kernel), List.mem_of_getElem? (i := 638) (by decide +kernel), List.mem_of_getElem? (i := 639) (by decide +kernel)⟩
theorem lw_p29 : lw_okq (⟨"LoopDiagramModel", "offer", "(II)V"⟩, 32) := ⟨⟨by decide +kernel, by decide +kernel⟩, List.mem_of_getElem? (i := 420) (by decide +kernel), List.mem_of_getElem? (i := 642) (by decide +kernel), List.mem_of_getElem? (i := 643) (by decide +kernel)⟩
theorem lw_p30 : lw_okq (⟨"LoopDiagramModel", "isAlive", "(II)Z"⟩, 32) := ⟨⟨by decide +kernel, by decide +kernel⟩, List.mem_of_getElem? (i := 420) (by decide +kernel), List.mem_of_getElem? (i := 646) (by decide +kernel), List.mem_of_getElem? (i := 647) (by decide +kernel)⟩
theorem lw_p31 : lw_okq (⟨"LoopDiagramModel", "isCellAlive", "(III)Z"⟩, 32) := ⟨⟨by decide +kernel, by decide +kernel⟩, List.mem_of_getElem? (i := 420) (by decide +kernel), List.mem_of_getElem? (i := 650) (by decide +kernel), List.mem_of_getElem? (i := 651) (by decide +kernel)⟩
def lw_privs_2 : List (MethodName × Nat) := [(⟨"LoopDiagramModel", "isRing", "(I)Z"⟩, 32), (⟨"LoopDiagramModel", "unseen", "()I"⟩, 32), (⟨"LoopDiagramModel", "isThin", "()Z"⟩, 32), (⟨"LoopDiagramModel", "hasEnds", "()Z"⟩, 32), (⟨"LoopDiagramModel", "walk", "(II)I"⟩, 32), (⟨"LoopDiagramModel", "onward", "(III)I"⟩, 32), (⟨"LoopDiagramModel", "isEdge", "(I)Z"⟩, 32), (⟨"LoopDiagramModel", "find", "()V"⟩, 32), (⟨"LoopDiagramModel", "keepsClues", "(I)Z"⟩, 32), (⟨"LoopDiagramModel", "sides", "(II)I"⟩, 32), (⟨"LoopDiagramModel", "measureLevels", "()V"⟩, 32), (⟨"LoopDiagramModel", "wipe", "()V"⟩, 32), (⟨"LoopDiagramModel", "isUseful", "(II)Z"⟩, 32), (⟨"LoopDiagramModel", "offer", "(II)V"⟩, 32), (⟨"LoopDiagramModel", "isAlive", "(II)Z"⟩, 32), (⟨"LoopDiagramModel", "isCellAlive", "(III)Z"⟩, 32)]
theorem lw_r2 : ∀ q ∈ lw_privs_2, lw_okq q := List.forall_mem_cons.mpr ⟨lw_p16, List.forall_mem_cons.mpr ⟨lw_p17, List.forall_mem_cons.mpr ⟨lw_p18, List.forall_mem_cons.mpr ⟨lw_p19, List.forall_mem_cons.mpr ⟨lw_p20, List.forall_mem_cons.mpr ⟨lw_p21, List.forall_mem_cons.mpr ⟨lw_p22, List.forall_mem_cons.mpr ⟨lw_p23, List.forall_mem_cons.mpr ⟨lw_p24, List.forall_mem_cons.mpr ⟨lw_p25, List.forall_mem_cons.mpr ⟨lw_p26, List.forall_mem_cons.mpr ⟨lw_p27, List.forall_mem_cons.mpr ⟨lw_p28, List.forall_mem_cons.mpr ⟨lw_p29, List.forall_mem_cons.mpr ⟨lw_p30, List.forall_mem_cons.mpr ⟨lw_p31, fun _ h => absurd h List.not_mem_nil⟩⟩⟩⟩⟩⟩⟩⟩⟩⟩⟩⟩⟩⟩⟩⟩
theorem lw_p32 : lw_okq (⟨"LoopDiagramModel", "trace", "(II)J"⟩, 32) := ⟨⟨by decide +kernel, by decide +kernel⟩, List.mem_of_getElem? (i := 420) (by decide +kernel), List.mem_of_getElem? (i := 654) (by decide +kernel), List.mem_of_getElem? (i := 655) (by decide +kernel)⟩
theorem lw_p33 : lw_okq (⟨"LoopDiagramModel", "isSolution", "(I)Z"⟩, 32) := ⟨⟨by decide +kernel, by decide +kernel⟩, List.mem_of_getElem? (i := 420) (by decide +kernel), List.mem_of_getElem? (i := 667) (by decide +kernel), List.mem_of_getElem? (i := 668) (by decide +kernel)⟩
theorem lw_p34 : lw_okq (⟨"LoopDiagramModel", "size", "(I)I"⟩, 32) := ⟨⟨by decide +kernel, by decide +kernel⟩, List.mem_of_getElem? (i := 420) (by decide +kernel), List.mem_of_getElem? (i := 675) (by decide +kernel), List.mem_of_getElem? (i := 676) (by decide +kernel)⟩
theorem lw_p35 : lw_okq (⟨"LoopDiagramModel", "withAll", "(I)I"⟩, 32) := ⟨⟨by decide +kernel, by decide +kernel⟩, List.mem_of_getElem? (i := 420) (by decide +kernel), List.mem_of_getElem? (i := 683) (by decide +kernel), List.mem_of_getElem? (i := 684) (by decide +kernel)⟩
theorem lw_p36 : lw_okq (⟨"LoopDiagramModel", "fail", "(I)I"⟩, 32) := ⟨⟨by decide +kernel, by decide +kernel⟩, List.mem_of_getElem? (i := 420) (by decide +kernel), List.mem_of_getElem? (i := 719) (by decide +kernel), List.mem_of_getElem? (i := 720) (by decide +kernel)⟩
def lw_privs_3 : List (MethodName × Nat) := [(⟨"LoopDiagramModel", "trace", "(II)J"⟩, 32), (⟨"LoopDiagramModel", "isSolution", "(I)Z"⟩, 32), (⟨"LoopDiagramModel", "size", "(I)I"⟩, 32), (⟨"LoopDiagramModel", "withAll", "(I)I"⟩, 32), (⟨"LoopDiagramModel", "fail", "(I)I"⟩, 32)]
theorem lw_r3 : ∀ q ∈ lw_privs_3, lw_okq q := List.forall_mem_cons.mpr ⟨lw_p32, List.forall_mem_cons.mpr ⟨lw_p33, List.forall_mem_cons.mpr ⟨lw_p34, List.forall_mem_cons.mpr ⟨lw_p35, List.forall_mem_cons.mpr ⟨lw_p36, fun _ h => absurd h List.not_mem_nil⟩⟩⟩⟩⟩
def lw_privs : List (MethodName × Nat) := lw_privs_1 ++ (lw_privs_2 ++ (lw_privs_3))
def lw_tbl : List Cond := k2_sels lw_privs ++ tables_1
theorem lw_privs_ok : ∀ q ∈ lw_privs, lw_okq q := by
  show ∀ q ∈ lw_privs_1 ++ (lw_privs_2 ++ (lw_privs_3)), lw_okq q
  exact List.forall_mem_append.mpr ⟨lw_r1, List.forall_mem_append.mpr ⟨lw_r2, lw_r3⟩⟩
end
section
/-! ===== BEGIN words of one list among another's, by their places ===== -/
theorem goodIn_r {big : List Cond} (ws : List Cond) (ps : List Nat) (hp : ws = ps.filterMap (fun i => big[i]?)) (h : ws.all goodWord = true) : GoodIn big ws := by
  intro w hw
  have h1 := List.all_eq_true.mp h w hw
  rw [hp] at hw
  obtain ⟨i, -, hi⟩ := List.mem_filterMap.mp hw
  have hm : w ∈ big := by first | exact List.mem_of_getElem? hi | exact List.getElem?_mem hi
  exact ⟨hm, good_of_word h1⟩
theorem goodIn_app {big a b : List Cond} (ha : GoodIn big a) (hb : GoodIn big b) : GoodIn big (a ++ b) := fun w h => (List.mem_append.mp h).elim (ha w) (hb w)
theorem goodIn_ca {big a b : List Cond} {c : Cond} (ha : GoodIn big (c :: a)) (hb : GoodIn big b) : GoodIn big (c :: (a ++ b)) := fun w h => (List.mem_cons.mp h).elim (fun e => ha w (List.mem_cons.mpr (Or.inl e))) (fun h => (List.mem_append.mp h).elim (fun h => ha w (List.mem_cons.mpr (Or.inr h))) (hb w))
theorem goodIn_sub {big ws : List Cond} (hm : ∀ w ∈ ws, w ∈ big) (h : ws.all goodWord = true) : GoodIn big ws := fun w hw => ⟨hm w hw, good_of_word (List.all_eq_true.mp h w hw)⟩
/-! ===== END ===== -/

/-! ===== BEGIN exceptions that leave a method, and their catching by the caller (launches without stack traces) ===== -/
section VXA
/-! The laws vx_back, vx_callV, vx_callS, vx_callSW, vx_throw0, vx_throwS follow proofs of the library, with one case more: JvmDerived/Free/Laws.lean (Back.of_free), Shelf42/LK1.lean (callV, callS), Shelf/KitTraced.lean (throwNew0V, throwNewS). -/
/-- where a method has thrown q: the class by its name, the cell, what was written, the world -/
def vx_T (XC : String → State → State → Prop) (st : State) (q : Addr) (t : State) (mc ms : Nat) (free : Addr → Prop) : Prop :=
  ∃ (E : String) (ce : Cell) (L : List Loc), XC E st t ∧ t.heap[q]? = some ce ∧ ce.vm = .none ∧ st.vm.findClass E = some ce.cls ∧ st.WarmedH t.vm ∧ st.sameButNew ({ t with vm := st.vm } : State) L mc ms ∧ ∀ z ∈ L, free z.base
def vx_Q (Qc : Array Value → State → Outcome → State → Prop) (XC : String → State → State → Prop) (mc ms : Nat) (free : Addr → Prop) : Array Value → State → Outcome → State → Prop := fun a st o t =>
  (Qc a st o t ∧ ∃ L, FrameEnd st o t L mc ms ∧ ∀ q ∈ L, free q.base) ∨ ∃ q, o = .threw q ∧ vx_T XC st q t mc ms free
/-- a callee that returns or throws -/
def vx_Met (l : Launch) (y : MethodName) (ws : List Cond) (rm : Room) (Pc : Array Value → State → Prop) (Qc : Array Value → State → Outcome → State → Prop) (XC : String → State → State → Prop) (mc ms : Nat) (free : Addr → Prop) : Prop :=
  MetFree l y (headSpec ws rm) Pc (fun _ _ _ _ _ => True) (vx_Q Qc XC mc ms free)
def vx_Post (XC : String → State → State → Prop) (mc ms : Nat) (free : Addr → Prop) : Pt → Array Value → Addr → Pt → Prop := fun A a q B =>
  ∃ (g : JFrame) (mk : MethodId) (t : State) (L : List Loc) (E : String) (ce : Cell), B.U.heap = t.heap ∧ B.U.vm = t.vm ∧ XC E (A.U.calling g mk a) t ∧ t.heap[q]? = some ce ∧ ce.vm = .none ∧ A.U.vm.findClass E = some ce.cls ∧ B.locs = A.locs ++ L ∧ (∀ z ∈ L, free z.base) ∧ B.cells = A.cells + mc ∧ B.slots = A.slots + ms
def vx_Back (l : Launch) (R : Room) (p : Program) (e : Env) (below : List Frame) (s : State) (sargs : Array Value) (y : MethodName) (len W9 : Nat)
    (Pre : Pt → Array Value → Prop) (Post : Pt → Array Value → Option Value → Pt → Prop) (PostX : Pt → Array Value → Addr → Pt → Prop) : Prop :=
  ∀ (m : MethodId) (meth : Method) (c : Code) (A : Pt) (g : JFrame) (ig : Instr) (mk : MethodId) (a : Array Value),
    Stand p l e R s m sargs below meth c A.U A.locs A.cells A.slots → g.method = m → g.locals.size = c.maxLocals → decode c.code g.pc = .ok (ig, len) →
    2 * g.monitorRoom + (g.stack.map fun v => v.category).sum ≤ W9 → A.U.methodNamed? y = some mk → Pre A a →
    (∃ (v : Option Value) (B : Pt), Stand p l e R s m sargs below meth c B.U B.locs B.cells B.slots ∧ Post A a v B ∧
      Steps p.tables e below (doInvoke e (A.U.setTop g) [] mk a).1 (B.U.setTop { g with pc := g.pc + len, stack := v.toList ++ g.stack })) ∨
    (∃ (q : Addr) (B : Pt), Stand p l e R s m sargs below meth c B.U B.locs B.cells B.slots ∧ PostX A a q B ∧
      Steps p.tables e below (doInvoke e (A.U.setTop g) [] mk a).1 ((B.U.setTop g).pushFrame (.throwing q)))
section Payer
variable {l : Launch} {R : Room} {p : Program} {e : Env} {below : List Frame} {s : State} {sargs : Array Value} {y : MethodName} {len W9 : Nat}
theorem vx_back {ws : List Cond} {rm : Room} {Pc : Array Value → State → Prop} {Qc : Array Value → State → Outcome → State → Prop} {XC : String → State → State → Prop} {mc ms : Nat} {free : Addr → Prop} {bytes : ByteArray} {maxL : Nat} {ret : Option FieldType}
    (hM : vx_Met l y ws rm Pc Qc XC mc ms free) (hblind : FrameBlind Pc) (hrc : rm.cells = mc) (hrs : rm.slots = ms)
    (hframes : rm.frames + 1 ≤ R.frames) (hlocals : W9 + (maxL + 11) + rm.locals ≤ R.locals)
    (hws : ∀ w ∈ ws, ∀ a' U, s.WarmedH U.vm → w.before a' U = true) (hcode : Cond.code y bytes maxL ret ∈ ws) (hinit : ∀ a' U, s.WarmedH U.vm → (Cond.initialized y.cls).before a' U = true) :
    vx_Back l R p e below s sargs y len W9 (PreOf R mc ms Pc) (PostOf Qc mc ms free) (vx_Post XC mc ms free) := by
  intro m meth c A g ig mk a X hg hsize hdg hW hn hp
  have h1 : (headSpec ws rm).pre.before a A.U = true := atoms_intro fun w hw => hws w hw _ _ X.warmed
  have h2 : (Cond.code y bytes maxL ret).before a A.U = true := hws _ hcode _ _ X.warmed
  have h3 : (Cond.initialized y.cls).before a A.U = true := hinit _ _ X.warmed
  have h4 : A.cells + (headSpec ws rm).room.cells ≤ R.cells := by rw [show (headSpec ws rm).room.cells = mc from hrc]; exact hp.1
  have h5 : A.slots + (headSpec ws rm).room.slots ≤ R.slots := by rw [show (headSpec ws rm).room.slots = ms from hrs]; exact hp.2.1
  have hPc : Pc a (A.U.calling g mk a) := hblind _ _ _ _ hp.2.2
  obtain ⟨U, Ls, c0, s0⟩ := A
  dsimp only [Pt.U, Pt.locs, Pt.cells, Pt.slots] at h1 h2 h3 h4 h5 X hn hPc ⊢
  obtain ⟨methY, cY, hmY, hcY, -, hlY, -, -, -, -⟩ := Cond.code_spec hn h2
  obtain ⟨kY, hkY, -⟩ := className_of_methodNamed hn
  have hinitY : kY.init = .initialized := Cond.initialized_spec (findClass_of_methodNamed hn) hkY h3
  have h : At U g.method c below := by rw [hg]; exact X.here
  have hlocals9 : W9 + (maxL + 11) + (headSpec ws rm).room.locals ≤ R.locals := hlocals
  have happ : (headSpec ws rm).appliesLoose y e.platform (U.calling g mk a) = true :=
    Spec.appliesLoose_calling (g := g) h hdg hn hkY hinitY
      (X.room_calling (g := g) (R' := (headSpec ws rm).room) hsize hmY hcY hframes (by rw [hlY]; omega) h4 h5) h1
  obtain ⟨mid, hmid⟩ := h.above
  have hfr : (U.setTop g).frames = (.java g :: mid) ++ below := by rw [State.frames_setTop' g h.top, hmid]; rfl
  obtain ⟨o, s₂, hsteps, -, hend, hq⟩ := Steps.callFree hM p X.admits X.cas X.clock (acts := []) hfr happ hPc trivial
  have hq' : vx_Q Qc XC mc ms free a (U.calling g mk a) o s₂ := hq
  rw [State.frames_setTop' g h.top] at hend
  obtain ⟨g₀, hg0⟩ := Option.isSome_iff_exists.mp h.top
  obtain ⟨r, hr⟩ := State.topJava?_eq_some.mp hg0
  have hr' : (({ U with heap := s₂.heap, slotsUsed := s₂.slotsUsed } : State).setVm s₂.vm).frames = .java g₀ :: r := hr
  rcases hq' with ⟨hqc, L, hfe, hL⟩ | ⟨q, rfl, E, ce, L, hx, hce, hcv, hcl, hW₂, hsm, hL⟩
  · obtain ⟨⟨v, rfl⟩, hW₂, e2, q2, q3, q4, q5, q6⟩ := id hfe
    have e3 : s₂ = ({ (U.calling g mk a).setFrames s₂.frames with heap := s₂.heap, slotsUsed := s₂.slotsUsed } : State).setVm s₂.vm := by
      have : s₂ = ({ s₂ with vm := (U.calling g mk a).vm } : State).setVm s₂.vm := rfl
      rw [e2] at this
      exact this
    obtain ⟨c₂, i₂, len₂, hc₂, hd₂, hf₂⟩ := hend
    have hW' : U.WarmedH s₂.vm := hW₂
    have hcc : c₂ = c := by
      have h1 : s₂.code? g.method = U.code? g.method := by
        rw [State.code?_eq, State.code?_eq, hW'.alike.method?]
      exact Option.some.inj (hc₂.symm.trans (h1.trans h.code))
    subst hcc
    have hlen : len₂ = len := by rw [hdg] at hd₂; cases hd₂; rfl
    subst hlen
    have hs₂ : s₂ = (({ U with heap := s₂.heap, slotsUsed := s₂.slotsUsed } : State).setVm s₂.vm).setTop { g with pc := g.pc + len₂, stack := v.toList ++ g.stack } := by
      refine e3.trans ?_
      rw [hf₂, State.calling_eq h.top, State.setFrames_setFrames, State.setTop_of_frames _ hr', hr]
      rfl
    have hsame : U.sameButNew ({ U with heap := s₂.heap, slotsUsed := s₂.slotsUsed } : State) L mc ms := by
      refine ⟨?_, q2, q3, q4, q5, q6⟩
      obtain ⟨t, ht, -⟩ := State.frames_cons hr
      show ({ U with heap := s₂.heap, slotsUsed := s₂.slotsUsed } : State) = { U.setFrames U.frames with heap := s₂.heap, slotsUsed := s₂.slotsUsed }
      rw [State.setFrames_self ht]
    subst hg
    refine Or.inl ⟨v, ⟨(({ U with heap := s₂.heap, slotsUsed := s₂.slotsUsed } : State).setVm s₂.vm), Ls ++ L, c0 + mc, s0 + ms⟩,
      ⟨X.admits, X.cas, X.clock, X.frames, X.room, X.hears, X.method, X.code, (X.here.setHeapUsed s₂.heap s₂.slotsUsed).setVm hW'.alike, X.tail, State.WarmedH.trans X.warmed hW', X.limits, X.bytes, X.same.trans (hsame.setVm s.vm)⟩,
      ⟨g, mk, s₂, L, rfl, rfl, hqc, rfl, hL, rfl, rfl⟩, ?_⟩
    show Steps p.tables e below _ ((({ U with heap := s₂.heap, slotsUsed := s₂.slotsUsed } : State).setVm s₂.vm).setTop { g with pc := g.pc + len₂, stack := v.toList ++ g.stack })
    rw [← hs₂]
    exact hsteps
  · obtain ⟨e2, q2, q3, q4, q5, q6⟩ := id hsm
    have e3 : s₂ = ({ (U.calling g mk a).setFrames s₂.frames with heap := s₂.heap, slotsUsed := s₂.slotsUsed } : State).setVm s₂.vm := by
      have : s₂ = ({ s₂ with vm := (U.calling g mk a).vm } : State).setVm s₂.vm := rfl
      rw [e2] at this
      exact this
    have hf₂ : s₂.frames = .throwing q :: .java g :: U.frames.tail := hend
    have hW' : U.WarmedH s₂.vm := hW₂
    have hs₂ : s₂ = ((({ U with heap := s₂.heap, slotsUsed := s₂.slotsUsed } : State).setVm s₂.vm).setTop g).pushFrame (.throwing q) := by
      refine e3.trans ?_
      rw [hf₂, State.calling_eq h.top, State.setFrames_setFrames, State.pushFrame, State.frames_setTop _ hr', State.setTop_of_frames _ hr', State.setFrames_setFrames, hr]
      rfl
    have hsame : U.sameButNew ({ U with heap := s₂.heap, slotsUsed := s₂.slotsUsed } : State) L mc ms := by
      refine ⟨?_, q2, q3, q4, q5, q6⟩
      obtain ⟨t, ht, -⟩ := State.frames_cons hr
      show ({ U with heap := s₂.heap, slotsUsed := s₂.slotsUsed } : State) = { U.setFrames U.frames with heap := s₂.heap, slotsUsed := s₂.slotsUsed }
      rw [State.setFrames_self ht]
    subst hg
    refine Or.inr ⟨q, ⟨(({ U with heap := s₂.heap, slotsUsed := s₂.slotsUsed } : State).setVm s₂.vm), Ls ++ L, c0 + mc, s0 + ms⟩,
      ⟨X.admits, X.cas, X.clock, X.frames, X.room, X.hears, X.method, X.code, (X.here.setHeapUsed s₂.heap s₂.slotsUsed).setVm hW'.alike, X.tail, State.WarmedH.trans X.warmed hW', X.limits, X.bytes, X.same.trans (hsame.setVm s.vm)⟩,
      ⟨g, mk, s₂, L, E, ce, rfl, rfl, hx, hce, hcv, hcl, rfl, hL, rfl, rfl⟩, ?_⟩
    show Steps p.tables e below _ (((({ U with heap := s₂.heap, slotsUsed := s₂.slotsUsed } : State).setVm s₂.vm).setTop g).pushFrame (.throwing q))
    rw [← hs₂]
    exact hsteps
end Payer
section Calls
variable {p : Program} {l : Launch} {e : Env} {R : Room} {s : State} {m : MethodId} {args : Array Value} {below : List Frame} {meth : Method} {c : Code} {T : State} {locs : List Loc} {cells slots : Nat}
theorem vx_callV (X : Stand p l e R s m args below meth c T locs cells slots) (hexec : p.tables.exec = Jvm.exec) {own C : String} {index : Nat} {y : MethodName} {bytes : ByteArray} {maxL : Nat} {ret : Option FieldType}
    (hown : s.vm.findClass own = some m.cls) (hlink : (Cond.methodLink own index y).before args s = true) (hinst : (Cond.instanceMethod y).before args s = true) (hsel : (Cond.selects C y y).before args s = true)
    (hcode : (Cond.code y bytes maxL ret).before args s = true) (hy : y.cls ≠ "java/lang/invoke/MethodHandle" ∧ y.cls ≠ "java/lang/invoke/VarHandle")
    {W9 : Nat} {Pre : Pt → Array Value → Prop} {Post : Pt → Array Value → Option Value → Pt → Prop} {PostX : Pt → Array Value → Addr → Pt → Prop} (hK : vx_Back l R p e below s args y 3 W9 Pre Post PostX)
    {b : Addr} {cellB : Cell} (hcell : T.heap[b]? = some cellB) (hobj : cellB.vm.isStatics = false) (hcls : s.vm.findClass C = some cellB.cls)
    {g : JFrame} (hg : g.method = m) (hsize : g.locals.size = c.maxLocals) {argsL rest : List Value} (hlen : ∀ sig, parseMethodDescriptor y.desc = some sig → argsL.length = sig.parameters.length)
    (hstack : g.stack = argsL.reverse ++ .ref b :: rest) (hW : 2 * g.monitorRoom + (rest.map fun v => v.category).sum ≤ W9) (hdg : decode c.code g.pc = .ok (.invokevirtual index, 3))
    (hpre : ∀ vm₁, s.WarmedH vm₁ → Pre ⟨T.setVm vm₁, locs, cells, slots⟩ (Value.ref b :: argsL).toArray) :
    (∃ (v : Option Value) (vm₁ : Vm) (B : Pt), s.WarmedH vm₁ ∧ Stand p l e R s m args below meth c B.U B.locs B.cells B.slots ∧ Post ⟨T.setVm vm₁, locs, cells, slots⟩ (Value.ref b :: argsL).toArray v B ∧
      ∀ target, Steps p.tables e below (B.U.setTop { g with pc := g.pc + 3, stack := v.toList ++ rest }) target → Steps p.tables e below (T.setTop g) target) ∨
    (∃ (q : Addr) (vm₁ : Vm) (B : Pt), s.WarmedH vm₁ ∧ Stand p l e R s m args below meth c B.U B.locs B.cells B.slots ∧ PostX ⟨T.setVm vm₁, locs, cells, slots⟩ (Value.ref b :: argsL).toArray q B ∧
      Steps p.tables e below (T.setTop g) ((B.U.setTop { g with stack := rest }).pushFrame (.throwing q))) := by
  obtain ⟨mk, methM, hnamed, hmethM, hstM, habM⟩ := Cond.instanceMethod_spec hinst
  obtain ⟨methM', cM, hmethM', -, -, -, -, -, -, hsigM⟩ := Cond.code_spec hnamed hcode
  cases hmethM.symm.trans hmethM'
  obtain ⟨c2, r2, m2, q1, q2, q3, q4, kP, hkP, hkPi⟩ := Cond.selects_spec hsel
  cases hcls.symm.trans q1
  cases (State.methodFound?_of_named hnamed hy).symm.trans q2
  cases hnamed.symm.trans q3
  have hselP : selectMethod e.platform s.vm cellB.cls mk = .method mk := by rw [Launch.admits_selectMethod X.admits]; exact q4
  obtain ⟨vm₁, X₁, hstep₁⟩ := X.invokevirtual hexec hown hlink hnamed hmethM hstM hkP hkPi hy (a := b) (cell := cellB) hcell
    (fun z h => by rw [h] at hobj; cases hobj) hselP hmethM habM hkP hkPi (g := g) hg (argsL := argsL) (rest := rest) (hlen _ hsigM) hstack hdg
  rcases hK m meth c ⟨T.setVm vm₁, locs, cells, slots⟩ { g with stack := rest } (.invokevirtual index) mk (Value.ref b :: argsL).toArray X₁ hg hsize hdg hW (X₁.named hnamed) (hpre vm₁ X₁.warmed) with ⟨v, B, X', hpost, hsteps⟩ | ⟨q, B, X', hpost, hsteps⟩
  · exact Or.inl ⟨v, vm₁, B, X₁.warmed, X', hpost, fun target h => hstep₁ _ fun acts => by rw [doInvoke_state]; exact hsteps.trans h⟩
  · exact Or.inr ⟨q, vm₁, B, X₁.warmed, X', hpost, hstep₁ _ fun acts => by rw [doInvoke_state]; exact hsteps⟩
theorem vx_callS (X : Stand p l e R s m args below meth c T locs cells slots) (hexec : p.tables.exec = Jvm.exec) {own : String} {index : Nat} {y : MethodName} {bytes : ByteArray} {maxL : Nat} {ret : Option FieldType}
    (hown : s.vm.findClass own = some m.cls) (hlink : (Cond.methodLink own index y).before args s = true) (hstat : (Cond.static y).before args s = true) (hinit : (Cond.initialized y.cls).before args s = true)
    (hcode : (Cond.code y bytes maxL ret).before args s = true) (hy : y.cls ≠ "java/lang/invoke/MethodHandle" ∧ y.cls ≠ "java/lang/invoke/VarHandle")
    {W9 : Nat} {Pre : Pt → Array Value → Prop} {Post : Pt → Array Value → Option Value → Pt → Prop} {PostX : Pt → Array Value → Addr → Pt → Prop} (hK : vx_Back l R p e below s args y 3 W9 Pre Post PostX)
    {g : JFrame} (hg : g.method = m) (hsize : g.locals.size = c.maxLocals) {argsL rest : List Value} (hlen : ∀ sig, parseMethodDescriptor y.desc = some sig → argsL.length = sig.parameters.length)
    (hstack : g.stack = argsL.reverse ++ rest) (hW : 2 * g.monitorRoom + (rest.map fun v => v.category).sum ≤ W9) (hdg : decode c.code g.pc = .ok (.invokestatic index, 3))
    (hpre : ∀ vm₁, s.WarmedH vm₁ → Pre ⟨T.setVm vm₁, locs, cells, slots⟩ argsL.toArray) :
    (∃ (v : Option Value) (vm₁ : Vm) (B : Pt), s.WarmedH vm₁ ∧ Stand p l e R s m args below meth c B.U B.locs B.cells B.slots ∧ Post ⟨T.setVm vm₁, locs, cells, slots⟩ argsL.toArray v B ∧
      ∀ target, Steps p.tables e below (B.U.setTop { g with pc := g.pc + 3, stack := v.toList ++ rest }) target → Steps p.tables e below (T.setTop g) target) ∨
    (∃ (q : Addr) (vm₁ : Vm) (B : Pt), s.WarmedH vm₁ ∧ Stand p l e R s m args below meth c B.U B.locs B.cells B.slots ∧ PostX ⟨T.setVm vm₁, locs, cells, slots⟩ argsL.toArray q B ∧
      Steps p.tables e below (T.setTop g) ((B.U.setTop { g with stack := rest }).pushFrame (.throwing q))) := by
  obtain ⟨mk, hnamed⟩ := Cond.code_named hcode
  obtain ⟨methM, cM, hmethM, -, -, -, -, -, -, hsigM⟩ := Cond.code_spec hnamed hcode
  have hstatic : methM.isStatic = true := Cond.static_spec hnamed hmethM hstat
  obtain ⟨kP, hkP, -⟩ := className_of_methodNamed hnamed
  have hinitP : kP.init = .initialized := Cond.initialized_spec (findClass_of_methodNamed hnamed) hkP hinit
  obtain ⟨vm₁, X₁, hstep₁⟩ := X.invokestatic hexec hown hlink hnamed hmethM hstatic hkP hinitP hy (g := g) hg (argsL := argsL) (rest := rest) (hlen _ hsigM) hstack hdg
  rcases hK m meth c ⟨T.setVm vm₁, locs, cells, slots⟩ { g with stack := rest } (.invokestatic index) mk argsL.toArray X₁ hg hsize hdg hW (X₁.named hnamed) (hpre vm₁ X₁.warmed) with ⟨v, B, X', hpost, hsteps⟩ | ⟨q, B, X', hpost, hsteps⟩
  · exact Or.inl ⟨v, vm₁, B, X₁.warmed, X', hpost, fun target h => hstep₁ _ fun acts => by rw [doInvoke_state]; exact hsteps.trans h⟩
  · exact Or.inr ⟨q, vm₁, B, X₁.warmed, X', hpost, hstep₁ _ fun acts => by rw [doInvoke_state]; exact hsteps⟩
end Calls
theorem vx_cls {s : State} {T : State} {vm₁ : Vm} {E : String} {k : ClassId} (hW : s.WarmedH vm₁) (h : (T.setVm vm₁).vm.findClass E = some k) : s.vm.findClass E = some k := by
  have h1 : vm₁.findClass E = some k := h
  rw [hW.alike.findClass] at h1
  exact h1
/-- the method's frame g, with q thrown over it -/
def vx_W (p : Program) (l : Launch) (e : Env) (R : Room) (s : State) (m : MethodId) (args : Array Value) (below : List Frame) (meth : Method) (c : Code) (H : Heap) (locs : List Loc) (cells slots : Nat) (Q : State → Prop) (g : JFrame) (q : Addr) : Prop :=
  ∀ T : State, T.heap = H → Stand p l e R s m args below meth c T locs cells slots → ∃ t, Steps p.tables e below ((T.setTop g).pushFrame (.throwing q)) t ∧ Q t
def vx_Run (p : Program) (l : Launch) (e : Env) (R : Room) (s : State) (m : MethodId) (args : Array Value) (below : List Frame) (meth : Method) (c : Code) (H : Heap) (locs : List Loc) (cells slots mc ms : Nat) (g : JFrame) (rest : List Value) (Qa : State → Outcome → State → Prop) (XC : String → State → State → Prop) (free : Addr → Prop) : Prop :=
  ∀ T : State, T.heap = H → Stand p l e R s m args below meth c T locs cells slots →
    (∃ (v : Option Value) (st₀ t T' : State) (L : List Loc), st₀.heap = H ∧ Stand p l e R s m args below meth c T' (locs ++ L) (cells + mc) (slots + ms) ∧ (∀ q ∈ L, free q.base) ∧ T'.heap = t.heap ∧ T'.vm = t.vm ∧ Qa st₀ (.returned v) t ∧
      Goes p e below T g T' { g with pc := g.pc + 3, stack := v.toList ++ rest }) ∨
    (∃ (q : Addr) (st₀ t T' : State) (L : List Loc) (E : String) (ce : Cell), st₀.heap = H ∧ Stand p l e R s m args below meth c T' (locs ++ L) (cells + mc) (slots + ms) ∧ (∀ z ∈ L, free z.base) ∧ T'.heap = t.heap ∧ T'.vm = t.vm ∧ XC E st₀ t ∧ t.heap[q]? = some ce ∧ ce.vm = .none ∧ s.vm.findClass E = some ce.cls ∧
      Steps p.tables e below (T.setTop g) ((T'.setTop { g with stack := rest }).pushFrame (.throwing q)))
def vx_X {S : Type} (px : S → Prop) (B : String → S → State → Prop) (A : Nat → Prop) : String → State → State → Prop := fun E st t => ∃ u : S, px u ∧ B E u t ∧ va_F A st t
section Runs
variable {p : Program} {l : Launch} {e : Env} {R : Room} {s : State} {m : MethodId} {args : Array Value} {below : List Frame} {meth : Method} {c : Code} {H : Heap} {locs : List Loc} {cells slots : Nat}
variable {y : MethodName} {bytes cc : ByteArray} {maxL nL mc ms n index : Nat} {ret : Option FieldType} {ws : List Cond} {rm : Room} {Pc : Array Value → State → Prop} {Qc : Array Value → State → Outcome → State → Prop} {XC : String → State → State → Prop} {free : Addr → Prop} {Ts : List Cond} {own C : String} {b : Addr} {As rest : List Value} {g : JFrame}
theorem vx_callBack (cb : CallB R s args own index y bytes maxL ret ws rm mc ms n) (hM : vx_Met l y ws rm Pc Qc XC mc ms free) (hbl : FrameBlind Pc) : vx_Back l R p e below s args y 3 8 (PreOf R mc ms Pc) (PostOf Qc mc ms free) (vx_Post XC mc ms free) := by
  obtain ⟨hrc, hrs, hfr, hlo, hws, hcw, -, hini, -⟩ := cb
  exact vx_back (bytes := bytes) (maxL := maxL) (ret := ret) hM hbl hrc hrs hfr hlo hws hcw (fun a' U hW => word_at hW (Or.inl (by first | rfl | simp [Cond.onTables, Cond.keeps, Cond.steady])) hini)
theorem vx_runV (S : CallFix p m c cc nL s args Ts own) (hM : vx_Met l y ws rm Pc Qc XC mc ms free) (cw : CallW R s args own C index y bytes maxL ret ws rm mc ms n) (hp : PreV s H C b Pc As)
    (hg : g.method = m) (hn : As.length = n) (hsize : g.locals.size = nL) (hstack : g.stack = As.reverse ++ .ref b :: rest) (hW : 2 * g.monitorRoom + (rest.map fun v => v.category).sum ≤ 8) (hdg : decode cc g.pc = .ok (.invokevirtual index, 3)) (hf : cells + mc ≤ R.cells ∧ slots + ms ≤ R.slots) :
    vx_Run p l e R s m args below meth c H locs cells slots mc ms g rest (Qc (Value.ref b :: As).toArray) XC free := by
  have hK : vx_Back l R p e below s args y 3 8 (PreOf R mc ms Pc) (PostOf Qc mc ms free) (vx_Post XC mc ms free) := vx_callBack cw.1 hM hp.1
  obtain ⟨⟨-, -, -, -, -, -, hcode, -, hy, hlen, hl⟩, hin, hse⟩ := cw
  obtain ⟨hx, hb, hml, ho, -⟩ := S
  obtain ⟨-, ⟨cellB, hcB, hoB, hclB⟩, hPc⟩ := hp
  intro T hT X
  rcases vx_callV X hx (C := C) (bytes := bytes) (maxL := maxL) (ret := ret) ho hl hin hse hcode hy hK (by rw [hT]; exact hcB) hoB hclB hg (hsize.trans hml.symm) (argsL := As) (rest := rest) (fun sig h => hn.trans (hlen sig h)) hstack hW (by rw [hb]; exact hdg)
    (fun vm₁ hW₁ => ⟨hf.1, hf.2, hPc (T.setVm vm₁) hT hW₁⟩) with ⟨v, vm₁, ⟨U', l2, c2, s2⟩, hW₁, X', ⟨g', mk, t, L, e1, e2, hq, h1, hL, h2, h3⟩, st⟩ | ⟨q, vm₁, ⟨U', l2, c2, s2⟩, hW₁, X', ⟨g', mk, t, L, E, ce, e1, e2, hq, hce, hcv, hcl, h1, hL, h2, h3⟩, st⟩
  · dsimp only [Pt.U, Pt.locs, Pt.cells, Pt.slots] at X' e1 e2 h1 h2 h3 st
    subst h1; subst h2; subst h3
    exact Or.inl ⟨v, (T.setVm vm₁).calling g' mk (Value.ref b :: As).toArray, t, U', L, hT, X', hL, e1, e2, hq, st⟩
  · dsimp only [Pt.U, Pt.locs, Pt.cells, Pt.slots] at X' e1 e2 h1 h2 h3 st hcl
    subst h1; subst h2; subst h3
    exact Or.inr ⟨q, (T.setVm vm₁).calling g' mk (Value.ref b :: As).toArray, t, U', L, E, ce, hT, X', hL, e1, e2, hq, hce, hcv, vx_cls hW₁ hcl, st⟩
theorem vx_runS (S : CallFix p m c cc nL s args Ts own) (hM : vx_Met l y ws rm Pc Qc XC mc ms free) (cw : CallB R s args own index y bytes maxL ret ws rm mc ms n ∧ (Cond.static y).before args s = true) (hp : PreS s H Pc As)
    (hg : g.method = m) (hn : As.length = n) (hsize : g.locals.size = nL) (hstack : g.stack = As.reverse ++ rest) (hW : 2 * g.monitorRoom + (rest.map fun v => v.category).sum ≤ 8) (hdg : decode cc g.pc = .ok (.invokestatic index, 3)) (hf : cells + mc ≤ R.cells ∧ slots + ms ≤ R.slots) :
    vx_Run p l e R s m args below meth c H locs cells slots mc ms g rest (Qc As.toArray) XC free := by
  have hK : vx_Back l R p e below s args y 3 8 (PreOf R mc ms Pc) (PostOf Qc mc ms free) (vx_Post XC mc ms free) := vx_callBack cw.1 hM hp.1
  obtain ⟨⟨-, -, -, -, -, -, hcode, hini, hy, hlen, hl⟩, hstt⟩ := cw
  obtain ⟨hx, hb, hml, ho, -⟩ := S
  intro T hT X
  rcases vx_callS X hx (bytes := bytes) (maxL := maxL) (ret := ret) ho hl hstt hini hcode hy hK hg (hsize.trans hml.symm) (argsL := As) (rest := rest) (fun sig h => hn.trans (hlen sig h)) hstack hW (by rw [hb]; exact hdg)
    (fun vm₁ hW₁ => ⟨hf.1, hf.2, hp.2 (T.setVm vm₁) hT hW₁⟩) with ⟨v, vm₁, ⟨U', l2, c2, s2⟩, hW₁, X', ⟨g', mk, t, L, e1, e2, hq, h1, hL, h2, h3⟩, st⟩ | ⟨q, vm₁, ⟨U', l2, c2, s2⟩, hW₁, X', ⟨g', mk, t, L, E, ce, e1, e2, hq, hce, hcv, hcl, h1, hL, h2, h3⟩, st⟩
  · dsimp only [Pt.U, Pt.locs, Pt.cells, Pt.slots] at X' e1 e2 h1 h2 h3 st
    subst h1; subst h2; subst h3
    exact Or.inl ⟨v, (T.setVm vm₁).calling g' mk As.toArray, t, U', L, hT, X', hL, e1, e2, hq, st⟩
  · dsimp only [Pt.U, Pt.locs, Pt.cells, Pt.slots] at X' e1 e2 h1 h2 h3 st hcl
    subst h1; subst h2; subst h3
    exact Or.inr ⟨q, (T.setVm vm₁).calling g' mk As.toArray, t, U', L, E, ce, hT, X', hL, e1, e2, hq, hce, hcv, vx_cls hW₁ hcl, st⟩
end Runs
section Rows
variable {p : Program} {l : Launch} {e : Env} {R : Room} {s : State} {m : MethodId} {args : Array Value} {below : List Frame} {meth : Method} {c : Code} {H : Heap} {locs : List Loc} {cells slots : Nat} {Q : State → Prop}
variable {mc ms : Nat} {free : Addr → Prop} {A0 A1 : Nat → Prop} {H0 : Heap} {a : Array Value} {pc : Nat} {ls : Array Slot} {st0 rest : List Value}
theorem vx_keep {st₀ t T' : State} {L : List Loc} (h0 : st₀.heap = H) (e1 : T'.heap = t.heap) (hS : va_S A0 H0 H locs) (hA : ∀ q, q < H.size → A1 q → A0 q) (hf : ∀ q, free q → A0 q) (hL : ∀ q ∈ L, free q.base) (hF : va_F A1 st₀ t) :
    H.size ≤ T'.heap.size ∧ (∀ q : Nat, q < H.size → ¬ A1 q → T'.heap[q]? = H[q]?) ∧ va_S A0 H0 T'.heap (locs ++ L) := by
  obtain ⟨hz, hk⟩ := hF
  rw [h0] at hz hk
  exact ⟨by rw [e1]; exact hz, fun q h1 h2 => by rw [e1]; exact hk q h1 h2,
    ⟨Nat.le_trans hS.1 (by rw [e1]; exact hz), fun q h1 h2 => by rw [e1, hk q (Nat.lt_of_lt_of_le h1 hS.1) (fun z => h2 (hA q (Nat.lt_of_lt_of_le h1 hS.1) z))]; exact hS.2.1 q h1 h2, fun q hq => by
      rcases List.mem_append.mp hq with h | h
      · exact hS.2.2 q h
      · exact hf _ (hL q h)⟩⟩
theorem vx_calli {S SX : Type} {post : Int32 → S → Prop} {px : SX → Prop} {B : S → State → Prop} {BX : String → SX → State → Prop} {AX : Nat → Prop} (hr : vx_Run p l e R s m args below meth c H locs cells slots mc ms (F0 m pc ls st0) rest (va_Qi post B A1 a) (vx_X px BX AX) free) (hS : va_S A0 H0 H locs) (hA : ∀ q, q < H.size → A1 q → A0 q) (hf : ∀ q, free q → A0 q) (hAX : ∀ q, q < H.size → AX q → A0 q)
    (kx : ∀ (E : String) (ce : Cell) (q9 : Addr) (u : SX) (t : State) (H1 : Heap) (locs1 : List Loc), t.heap = H1 → s.vm.Alike t.vm → px u → BX E u t → H.size ≤ H1.size → (∀ q : Nat, q < H.size → ¬ AX q → H1[q]? = H[q]?) → va_S A0 H0 H1 locs1 → H1[q9]? = some ce → ce.vm = .none → s.vm.findClass E = some ce.cls → vx_W p l e R s m args below meth c H1 locs1 (cells + mc) (slots + ms) Q (F0 m pc ls rest) q9)
    (kk : ∀ (r : Int32) (u : S) (t : State) (H1 : Heap) (locs1 : List Loc), t.heap = H1 → s.vm.Alike t.vm → post r u → B u t → H.size ≤ H1.size → (∀ q : Nat, q < H.size → ¬ A1 q → H1[q]? = H[q]?) → va_S A0 H0 H1 locs1 → W p l e R s m args below meth c H1 locs1 (cells + mc) (slots + ms) Q (F0 m (pc + 3) ls (.int r :: rest))) : W p l e R s m args below meth c H locs cells slots Q (F0 m pc ls st0) := by
  intro T hT X
  rcases hr T hT X with ⟨v, st₀, t, T', L, h0, X', hL, e1, e2, ⟨⟨r, u, hv, hp, hb⟩, hF⟩, st⟩ | ⟨q, st₀, t, T', L, E, ce, h0, X', hL, e1, e2, ⟨u, hp, hb, hF⟩, hce, hcv, hcl, st⟩
  · cases hv
    obtain ⟨k1, k2, k3⟩ := vx_keep h0 e1 hS hA hf hL hF
    obtain ⟨t2, a1, b1⟩ := kk r u t T'.heap (locs ++ L) e1.symm (by rw [← e2]; exact X'.warmed.alike) hp hb k1 k2 k3 T' rfl X'
    exact ⟨t2, st t2 a1, b1⟩
  · obtain ⟨k1, k2, k3⟩ := vx_keep h0 e1 hS hAX hf hL hF
    obtain ⟨t2, a1, b1⟩ := kx E ce q u t T'.heap (locs ++ L) e1.symm (by rw [← e2]; exact X'.warmed.alike) hp hb k1 k2 k3 (by rw [e1]; exact hce) hcv hcl T' rfl X'
    exact ⟨t2, st.trans a1, b1⟩
theorem vx_calll {S SX : Type} {post : Int64 → S → Prop} {px : SX → Prop} {B : S → State → Prop} {BX : String → SX → State → Prop} {AX : Nat → Prop} (hr : vx_Run p l e R s m args below meth c H locs cells slots mc ms (F0 m pc ls st0) rest (va_Ql post B A1 a) (vx_X px BX AX) free) (hS : va_S A0 H0 H locs) (hA : ∀ q, q < H.size → A1 q → A0 q) (hf : ∀ q, free q → A0 q) (hAX : ∀ q, q < H.size → AX q → A0 q)
    (kx : ∀ (E : String) (ce : Cell) (q9 : Addr) (u : SX) (t : State) (H1 : Heap) (locs1 : List Loc), t.heap = H1 → s.vm.Alike t.vm → px u → BX E u t → H.size ≤ H1.size → (∀ q : Nat, q < H.size → ¬ AX q → H1[q]? = H[q]?) → va_S A0 H0 H1 locs1 → H1[q9]? = some ce → ce.vm = .none → s.vm.findClass E = some ce.cls → vx_W p l e R s m args below meth c H1 locs1 (cells + mc) (slots + ms) Q (F0 m pc ls rest) q9)
    (kk : ∀ (r : Int64) (u : S) (t : State) (H1 : Heap) (locs1 : List Loc), t.heap = H1 → s.vm.Alike t.vm → post r u → B u t → H.size ≤ H1.size → (∀ q : Nat, q < H.size → ¬ A1 q → H1[q]? = H[q]?) → va_S A0 H0 H1 locs1 → W p l e R s m args below meth c H1 locs1 (cells + mc) (slots + ms) Q (F0 m (pc + 3) ls (.long r :: rest))) : W p l e R s m args below meth c H locs cells slots Q (F0 m pc ls st0) := by
  intro T hT X
  rcases hr T hT X with ⟨v, st₀, t, T', L, h0, X', hL, e1, e2, ⟨⟨r, u, hv, hp, hb⟩, hF⟩, st⟩ | ⟨q, st₀, t, T', L, E, ce, h0, X', hL, e1, e2, ⟨u, hp, hb, hF⟩, hce, hcv, hcl, st⟩
  · cases hv
    obtain ⟨k1, k2, k3⟩ := vx_keep h0 e1 hS hA hf hL hF
    obtain ⟨t2, a1, b1⟩ := kk r u t T'.heap (locs ++ L) e1.symm (by rw [← e2]; exact X'.warmed.alike) hp hb k1 k2 k3 T' rfl X'
    exact ⟨t2, st t2 a1, b1⟩
  · obtain ⟨k1, k2, k3⟩ := vx_keep h0 e1 hS hAX hf hL hF
    obtain ⟨t2, a1, b1⟩ := kx E ce q u t T'.heap (locs ++ L) e1.symm (by rw [← e2]; exact X'.warmed.alike) hp hb k1 k2 k3 (by rw [e1]; exact hce) hcv hcl T' rfl X'
    exact ⟨t2, st.trans a1, b1⟩
theorem vx_callf {S SX : Type} {post : UInt32 → S → Prop} {px : SX → Prop} {B : S → State → Prop} {BX : String → SX → State → Prop} {AX : Nat → Prop} (hr : vx_Run p l e R s m args below meth c H locs cells slots mc ms (F0 m pc ls st0) rest (va_Qf post B A1 a) (vx_X px BX AX) free) (hS : va_S A0 H0 H locs) (hA : ∀ q, q < H.size → A1 q → A0 q) (hf : ∀ q, free q → A0 q) (hAX : ∀ q, q < H.size → AX q → A0 q)
    (kx : ∀ (E : String) (ce : Cell) (q9 : Addr) (u : SX) (t : State) (H1 : Heap) (locs1 : List Loc), t.heap = H1 → s.vm.Alike t.vm → px u → BX E u t → H.size ≤ H1.size → (∀ q : Nat, q < H.size → ¬ AX q → H1[q]? = H[q]?) → va_S A0 H0 H1 locs1 → H1[q9]? = some ce → ce.vm = .none → s.vm.findClass E = some ce.cls → vx_W p l e R s m args below meth c H1 locs1 (cells + mc) (slots + ms) Q (F0 m pc ls rest) q9)
    (kk : ∀ (r : UInt32) (u : S) (t : State) (H1 : Heap) (locs1 : List Loc), t.heap = H1 → s.vm.Alike t.vm → post r u → B u t → H.size ≤ H1.size → (∀ q : Nat, q < H.size → ¬ A1 q → H1[q]? = H[q]?) → va_S A0 H0 H1 locs1 → W p l e R s m args below meth c H1 locs1 (cells + mc) (slots + ms) Q (F0 m (pc + 3) ls (.float r :: rest))) : W p l e R s m args below meth c H locs cells slots Q (F0 m pc ls st0) := by
  intro T hT X
  rcases hr T hT X with ⟨v, st₀, t, T', L, h0, X', hL, e1, e2, ⟨⟨r, u, hv, hp, hb⟩, hF⟩, st⟩ | ⟨q, st₀, t, T', L, E, ce, h0, X', hL, e1, e2, ⟨u, hp, hb, hF⟩, hce, hcv, hcl, st⟩
  · cases hv
    obtain ⟨k1, k2, k3⟩ := vx_keep h0 e1 hS hA hf hL hF
    obtain ⟨t2, a1, b1⟩ := kk r u t T'.heap (locs ++ L) e1.symm (by rw [← e2]; exact X'.warmed.alike) hp hb k1 k2 k3 T' rfl X'
    exact ⟨t2, st t2 a1, b1⟩
  · obtain ⟨k1, k2, k3⟩ := vx_keep h0 e1 hS hAX hf hL hF
    obtain ⟨t2, a1, b1⟩ := kx E ce q u t T'.heap (locs ++ L) e1.symm (by rw [← e2]; exact X'.warmed.alike) hp hb k1 k2 k3 (by rw [e1]; exact hce) hcv hcl T' rfl X'
    exact ⟨t2, st.trans a1, b1⟩
theorem vx_calld {S SX : Type} {post : UInt64 → S → Prop} {px : SX → Prop} {B : S → State → Prop} {BX : String → SX → State → Prop} {AX : Nat → Prop} (hr : vx_Run p l e R s m args below meth c H locs cells slots mc ms (F0 m pc ls st0) rest (va_Qd post B A1 a) (vx_X px BX AX) free) (hS : va_S A0 H0 H locs) (hA : ∀ q, q < H.size → A1 q → A0 q) (hf : ∀ q, free q → A0 q) (hAX : ∀ q, q < H.size → AX q → A0 q)
    (kx : ∀ (E : String) (ce : Cell) (q9 : Addr) (u : SX) (t : State) (H1 : Heap) (locs1 : List Loc), t.heap = H1 → s.vm.Alike t.vm → px u → BX E u t → H.size ≤ H1.size → (∀ q : Nat, q < H.size → ¬ AX q → H1[q]? = H[q]?) → va_S A0 H0 H1 locs1 → H1[q9]? = some ce → ce.vm = .none → s.vm.findClass E = some ce.cls → vx_W p l e R s m args below meth c H1 locs1 (cells + mc) (slots + ms) Q (F0 m pc ls rest) q9)
    (kk : ∀ (r : UInt64) (u : S) (t : State) (H1 : Heap) (locs1 : List Loc), t.heap = H1 → s.vm.Alike t.vm → post r u → B u t → H.size ≤ H1.size → (∀ q : Nat, q < H.size → ¬ A1 q → H1[q]? = H[q]?) → va_S A0 H0 H1 locs1 → W p l e R s m args below meth c H1 locs1 (cells + mc) (slots + ms) Q (F0 m (pc + 3) ls (.double r :: rest))) : W p l e R s m args below meth c H locs cells slots Q (F0 m pc ls st0) := by
  intro T hT X
  rcases hr T hT X with ⟨v, st₀, t, T', L, h0, X', hL, e1, e2, ⟨⟨r, u, hv, hp, hb⟩, hF⟩, st⟩ | ⟨q, st₀, t, T', L, E, ce, h0, X', hL, e1, e2, ⟨u, hp, hb, hF⟩, hce, hcv, hcl, st⟩
  · cases hv
    obtain ⟨k1, k2, k3⟩ := vx_keep h0 e1 hS hA hf hL hF
    obtain ⟨t2, a1, b1⟩ := kk r u t T'.heap (locs ++ L) e1.symm (by rw [← e2]; exact X'.warmed.alike) hp hb k1 k2 k3 T' rfl X'
    exact ⟨t2, st t2 a1, b1⟩
  · obtain ⟨k1, k2, k3⟩ := vx_keep h0 e1 hS hAX hf hL hF
    obtain ⟨t2, a1, b1⟩ := kx E ce q u t T'.heap (locs ++ L) e1.symm (by rw [← e2]; exact X'.warmed.alike) hp hb k1 k2 k3 (by rw [e1]; exact hce) hcv hcl T' rfl X'
    exact ⟨t2, st.trans a1, b1⟩
theorem vx_callv {S SX : Type} {post : S → Prop} {px : SX → Prop} {B : S → State → Prop} {BX : String → SX → State → Prop} {AX : Nat → Prop} (hr : vx_Run p l e R s m args below meth c H locs cells slots mc ms (F0 m pc ls st0) rest (va_Qv post B A1 a) (vx_X px BX AX) free) (hS : va_S A0 H0 H locs) (hA : ∀ q, q < H.size → A1 q → A0 q) (hf : ∀ q, free q → A0 q) (hAX : ∀ q, q < H.size → AX q → A0 q)
    (kx : ∀ (E : String) (ce : Cell) (q9 : Addr) (u : SX) (t : State) (H1 : Heap) (locs1 : List Loc), t.heap = H1 → s.vm.Alike t.vm → px u → BX E u t → H.size ≤ H1.size → (∀ q : Nat, q < H.size → ¬ AX q → H1[q]? = H[q]?) → va_S A0 H0 H1 locs1 → H1[q9]? = some ce → ce.vm = .none → s.vm.findClass E = some ce.cls → vx_W p l e R s m args below meth c H1 locs1 (cells + mc) (slots + ms) Q (F0 m pc ls rest) q9)
    (kk : ∀ (u : S) (t : State) (H1 : Heap) (locs1 : List Loc), t.heap = H1 → s.vm.Alike t.vm → post u → B u t → H.size ≤ H1.size → (∀ q : Nat, q < H.size → ¬ A1 q → H1[q]? = H[q]?) → va_S A0 H0 H1 locs1 → W p l e R s m args below meth c H1 locs1 (cells + mc) (slots + ms) Q (F0 m (pc + 3) ls (rest))) : W p l e R s m args below meth c H locs cells slots Q (F0 m pc ls st0) := by
  intro T hT X
  rcases hr T hT X with ⟨v, st₀, t, T', L, h0, X', hL, e1, e2, ⟨⟨u, hv, hp, hb⟩, hF⟩, st⟩ | ⟨q, st₀, t, T', L, E, ce, h0, X', hL, e1, e2, ⟨u, hp, hb, hF⟩, hce, hcv, hcl, st⟩
  · cases hv
    obtain ⟨k1, k2, k3⟩ := vx_keep h0 e1 hS hA hf hL hF
    obtain ⟨t2, a1, b1⟩ := kk u t T'.heap (locs ++ L) e1.symm (by rw [← e2]; exact X'.warmed.alike) hp hb k1 k2 k3 T' rfl X'
    exact ⟨t2, st t2 a1, b1⟩
  · obtain ⟨k1, k2, k3⟩ := vx_keep h0 e1 hS hAX hf hL hF
    obtain ⟨t2, a1, b1⟩ := kx E ce q u t T'.heap (locs ++ L) e1.symm (by rw [← e2]; exact X'.warmed.alike) hp hb k1 k2 k3 (by rw [e1]; exact hce) hcv hcl T' rfl X'
    exact ⟨t2, st.trans a1, b1⟩
/-- caught by the row x of this method's table; the rows ahead don't take it -/
theorem vx_catch {own name : String} {E : String} {ce : Cell} {q : Addr} (hown : s.vm.findClass own = some m.cls) (pre : List ExceptionTableEntry) (x : ExceptionTableEntry) (suf : List ExceptionTableEntry) (hsplit : c.exceptionTable.toList = pre ++ x :: suf)
    (hpass : ∀ z ∈ pre, covers z pc = false ∨ (z.catchType ≠ 0 ∧ ∃ nm : String, (Cond.classLink own z.catchType nm).before args s = true ∧ va_Nc E nm s)) (hx : covers x pc = true) (h0 : x.catchType ≠ 0)
    (hlink : (Cond.classLink own x.catchType name).before args s = true) (hcast : (Cond.castable E name).before args s = true) (hcell : H[q]? = some ce) (hv : ce.vm = .none) (hcl : s.vm.findClass E = some ce.cls)
    (kk : W p l e R s m args below meth c H locs cells slots Q (F0 m x.handlerPc ls [.ref q])) : vx_W p l e R s m args below meth c H locs cells slots Q (F0 m pc ls rest) q := by
  intro T hT X
  have hpl : e.platform.magicAccessors = ({} : Platform).magicAccessors := by rw [X.admits.platform]
  obtain ⟨c3, c4, hc3, hc4, hasg⟩ := Cond.castable_spec hcast
  cases Option.some.inj (hc3.symm.trans hcl)
  obtain ⟨c5, hc5, hcl5⟩ := Cond.classLink_spec hown hlink e.platform hpl
  cases Option.some.inj (hc4.symm.trans hc5)
  obtain ⟨vm', X', st⟩ := X.thenCaughtThrough q (g := F0 m pc ls rest) rfl (Steps.refl _) (by rw [hT]; exact hcell) (by rw [hv]; rfl) (by obtain ⟨k9, h9, -⟩ := Vm.findClass_spec hcl; exact ⟨k9, h9⟩) pre x suf hsplit
    (fun z hz => by
      rcases hpass z hz with h | ⟨hz0, nm, hl1, hn1⟩
      · exact Or.inl h
      · obtain ⟨c6, hc6, hcl6⟩ := Cond.classLink_spec hown hl1 e.platform hpl
        obtain ⟨a8, b8, h1, h2, h3⟩ := hn1
        cases Option.some.inj (h1.symm.trans hcl)
        cases Option.some.inj (h2.symm.trans hc6)
        exact Or.inr ⟨hz0, _, hcl6, h3⟩) hx (Or.inr ⟨h0, c4, hcl5, hasg⟩)
  obtain ⟨t, a1, b1⟩ := kk (T.setVm vm') hT X'
  exact ⟨t, st.trans a1, b1⟩
end Rows
section Ends
variable {p : Program} {l : Launch} {e : Env} {R : Room} {s : State} {m : MethodId} {args : Array Value} {below : List Frame} {meth : Method} {c : Code} {H : Heap} {locs : List Loc} {cells slots : Nat} {Q : State → Prop}
variable {mc ms : Nat} {free : Addr → Prop} {A0 A1 : Nat → Prop} {H0 : Heap} {a : Array Value} {ls : Array Slot} {st0 rest : List Value}
variable {Qc : Array Value → State → Outcome → State → Prop} {XC : String → State → State → Prop}
/-- what a body that may throw owes at its end -/
def vx_MQ (below : List Frame) (Qc : Array Value → State → Outcome → State → Prop) (XC : String → State → State → Prop) (a : Array Value) (s : State) (mc ms : Nat) (free : Addr → Prop) : State → Prop := fun t =>
  ∃ o, t.status = .running ∧ Ended t below o ∧ vx_Q Qc XC mc ms free a s o t
theorem vx_ret {g : JFrame} {mc ms : Nat} (k : W p l e R s m args below meth c H locs cells slots (MQ below Qc args s mc ms free) g) : W p l e R s m args below meth c H locs cells slots (vx_MQ below Qc XC args s mc ms free) g := by
  intro T hT X
  obtain ⟨t, a1, o, b1, b2, b3, b4⟩ := k T hT X
  exact ⟨t, a1, o, b1, b2, Or.inl ⟨b3, b4⟩⟩
/-- not caught here: it goes on to the caller -/
theorem vx_widen {g : JFrame} {q : Addr} {k n : Nat} (h1 : cells ≤ k) (h2 : slots ≤ n) (kk : vx_W p l e R s m args below meth c H locs k n Q g q) : vx_W p l e R s m args below meth c H locs cells slots Q g q := fun T hT X => kk T hT (stand_widen X h1 h2)
theorem vx_out {pc : Nat} {E : String} {ce : Cell} {q : Addr} {mc ms : Nat} (hout : ∀ x ∈ c.exceptionTable.toList, covers x pc = false) (hlocks : meth.locks = false) (hcell : H[q]? = some ce) (hv : ce.vm = .none) (hcl : s.vm.findClass E = some ce.cls)
    (hx : ∀ t : State, t.heap = H → s.vm.Alike t.vm → XC E s t) (hf : ∀ z ∈ locs, free z.base) (hc : cells ≤ mc) (hs : slots ≤ ms) :
    vx_W p l e R s m args below meth c H locs cells slots (vx_MQ below Qc XC args s mc ms free) (F0 m pc ls rest) q := by
  intro T hT X
  obtain ⟨st1, hrun, hend, hW, hsm⟩ := X.leaveThrown q (g := F0 m pc ls rest) rfl rfl rfl hout hlocks
  have hcell9 : (T.setFrames (.throwing q :: below)).heap[q]? = some ce := by
    show T.heap[q]? = some ce
    rw [hT]; exact hcell
  exact ⟨_, st1, .threw q, hrun, hend, Or.inr ⟨q, rfl, E, ce, locs, hx _ hT hW.alike, hcell9, hv, hcl, hW, hsm.mono hc hs, hf⟩⟩
theorem vx_frame {U : State} {k n : Nat} (h : s.sameButNew ({ U with vm := s.vm } : State) locs k n) : s.heap.size ≤ U.heap.size ∧ ∀ q : Nat, q < s.heap.size → (∀ z ∈ locs, z.base ≠ q) → U.heap[q]? = s.heap[q]? := by
  obtain ⟨-, h2, -, -, -, h6⟩ := h
  refine ⟨h2, fun q hq hz => ?_⟩
  obtain ⟨c9, e1, e2, e3, e4⟩ := h6 q _ (Array.getElem?_eq_getElem hq)
  have hs : c9.slots = (s.heap[q]).slots := Array.ext_getElem? fun i => e4 i fun hm => hz _ hm rfl
  have h9 : c9 = s.heap[q] := by
    rw [hs] at e2
    exact e2
  have e5 : U.heap[q]? = some c9 := e1
  rw [e5, h9, Array.getElem?_eq_getElem hq]
/-- the words of a throw but the four that speak of the heap -/
def vx_no (w : Cond) : Bool := decide (w ≠ .isRef (.static Bundle.tN "UNASSIGNED_STACK" Bundle.steD)) && decide (w ≠ .isRef (.static Bundle.tN "SUPPRESSED_SENTINEL" Bundle.listD)) && decide (w ≠ .laysStatic Bundle.tN "UNASSIGNED_STACK" Bundle.steD) && decide (w ≠ .laysStatic Bundle.tN "SUPPRESSED_SENTINEL" Bundle.listD)
def vx_at0 (own : String) (ic : Nat) (X : String) (names : List String) : List Cond := (Bundle.ownAtoms0 own ic X names).filter vx_no
def vx_atS (own : String) (ic : Nat) (X : String) (names : List String) : List Cond := (Bundle.ownAtoms own ic X names).filter vx_no
/-- a word that the tables alone decide, or a good one -/
def vx_ot (w : Cond) : Bool := w.onTables || goodWord w
theorem vx_ot_at {args a' : Array Value} {s U : State} {w : Cond} (hW : s.WarmedH U.vm) (hvm : s.vm = U.vm) (hg : vx_ot w = true) (h : w.before args s = true) : w.before a' U = true := by
  simp only [vx_ot, Bool.or_eq_true] at hg
  rcases hg with hg | hg
  · exact va_tabs hg hvm h
  · exact word_at hW (good_of_word hg) h
/-- a list's words: the good ones out of the method's own list, the others by premises of their own -/
theorem vx_hat {args : Array Value} {s : State} {L B : List Cond} (h1 : ∀ w ∈ L.filter goodWord, w.before args s = true) (h2 : ∀ w ∈ L.filter (fun w => !goodWord w), w ∈ B) (h3 : ∀ w ∈ B, w.before args s = true) : ∀ w ∈ L, w.before args s = true := by
  intro w hw
  by_cases g : goodWord w = true
  · exact h1 w (List.mem_filter.mpr ⟨hw, g⟩)
  · refine h3 w (h2 w (List.mem_filter.mpr ⟨hw, ?_⟩))
    show (!goodWord w) = true
    cases hgw : goodWord w
    · rfl
    · exact absurd hgw g
theorem vx_c {args : Array Value} {s : State} {w : Cond} {B : List Cond} (h : w.before args s = true) (t : ∀ w ∈ B, w.before args s = true) : ∀ w' ∈ w :: B, w'.before args s = true := fun w' h' => (List.mem_cons.mp h').elim (fun e => by rw [e]; exact h) (t w')
theorem vx_n {args : Array Value} {s : State} : ∀ w ∈ ([] : List Cond), w.before args s = true := fun _ h => nomatch h
theorem vx_own {args : Array Value} {s : State} {L : List Cond} (h1 : ∀ w ∈ L.filter vx_no, w.before args s = true)
    (hU : (Cond.isRef (.static Bundle.tN "UNASSIGNED_STACK" Bundle.steD)).before args s = true) (hN : (Cond.isRef (.static Bundle.tN "SUPPRESSED_SENTINEL" Bundle.listD)).before args s = true)
    (lU : (Cond.laysStatic Bundle.tN "UNASSIGNED_STACK" Bundle.steD).before args s = true) (lN : (Cond.laysStatic Bundle.tN "SUPPRESSED_SENTINEL" Bundle.listD).before args s = true) : ∀ w ∈ L, w.before args s = true := by
  intro w hw
  by_cases e1 : w = .isRef (.static Bundle.tN "UNASSIGNED_STACK" Bundle.steD)
  · rw [e1]; exact hU
  · by_cases e2 : w = .isRef (.static Bundle.tN "SUPPRESSED_SENTINEL" Bundle.listD)
    · rw [e2]; exact hN
    · by_cases e3 : w = .laysStatic Bundle.tN "UNASSIGNED_STACK" Bundle.steD
      · rw [e3]; exact lU
      · by_cases e4 : w = .laysStatic Bundle.tN "SUPPRESSED_SENTINEL" Bundle.listD
        · rw [e4]; exact lN
        · exact h1 w (List.mem_filter.mpr ⟨hw, by unfold vx_no; rw [decide_eq_true e1, decide_eq_true e2, decide_eq_true e3, decide_eq_true e4]; rfl⟩)
/-- where a static field lies, its class's statics cell in H -/
def vx_L (C n d : String) (A : Nat → Prop) (U : State) (H : Heap) : Prop := ∃ (c : ClassId) (k : Class) (i : Nat) (f : Field) (a : Nat) (cell : Cell), U.vm.findClass C = some c ∧ U.fieldFound? C n d = some (c, k, i, f) ∧ f.isStatic = true ∧ k.statics = some a ∧ H[a]? = some cell ∧ cell.vm.isStatics = true ∧ cell.cls = c ∧ f.slot < cell.slots.size ∧ k.staticTypes[f.slot]? = some f.type ∧ ¬ A a
theorem vx_L.moved {C n d : String} {A : Nat → Prop} {u U : State} {H : Heap} (hvm : u.vm.Alike U.vm) (h : vx_L C n d A u H) : vx_L C n d A U H := by
  obtain ⟨c, k, i, f, a, cell, h1, h2, h3, h4, h5, h6, h7, h8, h9, h10⟩ := h
  obtain ⟨k', hi', he⟩ := State.fieldFound?_setVm hvm h2
  exact ⟨c, k', i, f, a, cell, by rw [hvm.findClass]; exact h1, hi', h3, by rw [he]; exact h4, h5, h6, h7, h8, by rw [he]; exact h9, h10⟩
theorem vx_L.kept {C n d : String} {A : Nat → Prop} {U : State} {H H1 : Heap} (h : vx_L C n d A U H) (hq : ∀ a : Nat, a < H.size → ¬ A a → H1[a]? = H[a]?) : vx_L C n d A U H1 := by
  obtain ⟨c, k, i, f, a, cell, h1, h2, h3, h4, h5, h6, h7, h8, h9, h10⟩ := h
  exact ⟨c, k, i, f, a, cell, h1, h2, h3, h4, by rw [hq a (Array.getElem?_eq_some_iff.mp h5).1 h10]; exact h5, h6, h7, h8, h9, h10⟩
theorem vx_L.narrow {C n d : String} {A B : Nat → Prop} {U : State} {H : Heap} (h : vx_L C n d A U H) (hAB : ∀ q, B q → A q) : vx_L C n d B U H := by
  obtain ⟨c, k, i, f, a, cell, h1, h2, h3, h4, h5, h6, h7, h8, h9, h10⟩ := h
  exact ⟨c, k, i, f, a, cell, h1, h2, h3, h4, h5, h6, h7, h8, h9, fun z => h10 (hAB _ z)⟩
theorem vx_L.word {C n d : String} {A : Nat → Prop} {s : State} {args : Array Value} (h : vx_L C n d A s s.heap) : (Cond.laysStatic C n d).before args s = true := by
  obtain ⟨c, k, i, f, a, cell, h1, h2, h3, h4, h5, h6, h7, h8, h9, -⟩ := h
  show (Cond.laysStatic C n d).holds args s none s [] = true
  exact Cond.laysStatic_of h1 h2 h3 h4 h5 h6 h7 h8 h9
/-- .. and what it holds: null or some reference -/
def vx_Zq (C n d : String) (A : Nat → Prop) (U : State) (H : Heap) : Prop := va_Zq C n d A U H ∧ vx_L C n d A U H
theorem vx_Zq.moved {C n d : String} {A : Nat → Prop} {u U : State} {H : Heap} (hvm : u.vm.Alike U.vm) (h : vx_Zq C n d A u H) : vx_Zq C n d A U H := ⟨va_Zq.moved hvm h.1, vx_L.moved hvm h.2⟩
theorem vx_Zq.kept {C n d : String} {A : Nat → Prop} {U : State} {H H1 : Heap} (h : vx_Zq C n d A U H) (hq : ∀ a : Nat, a < H.size → ¬ A a → H1[a]? = H[a]?) : vx_Zq C n d A U H1 := ⟨va_Zq.kept h.1 hq, vx_L.kept h.2 hq⟩
theorem vx_Zq.narrow {C n d : String} {A B : Nat → Prop} {U : State} {H : Heap} (h : vx_Zq C n d A U H) (hAB : ∀ q, B q → A q) : vx_Zq C n d B U H := ⟨va_Zq.narrow h.1 hAB, vx_L.narrow h.2 hAB⟩
theorem vx_Zqof {args : Array Value} {s : State} {C n d : String} {A : Nat → Prop} (hl : (Cond.laysStatic C n d).before args s = true) (hini : (Cond.initialized C).before args s = true) (h : (Cond.isRef (.static C n d)).before args s = true) (hA : ∀ a : Nat, a < s.heap.size → ¬ A a) : vx_Zq C n d A s s.heap := by
  refine ⟨va_Zqof hl hini h hA, ?_⟩
  obtain ⟨c, k, i, f, a, cell, h1, h2, h3, h4, h5, h6, h7, h8, h9⟩ := Cond.laysStatic_spec hl
  exact ⟨c, k, i, f, a, cell, h1, h2, h3, h4, h5, h6, h7, h8, h9, hA a (Array.getElem?_eq_some_iff.mp h5).1⟩
theorem vx_isRef {C n d : String} {v : Value} {A : Nat → Prop} {s : State} {args : Array Value} (h : va_Z C n d v A s s.heap) (hv : v.isRef = true) : (Cond.isRef (.static C n d)).before args s = true := by
  obtain ⟨cf, kf, fi, f, a, cell, h1, h2, h3, h4, h5, h6, h7, -⟩ := h
  have he : (Term.static C n d).eval args s none [] s = some v := by
    simp [Term.eval, State.fieldNamed?, h1, h2, h4, h5, h6, h7]
  simp only [Cond.before, Cond.holds, Cond.value, he]
  cases v <;> simp_all [Value.isRef]
theorem vx_isRefq {C n d : String} {A : Nat → Prop} {s : State} {args : Array Value} (h : va_Zq C n d A s s.heap) : (Cond.isRef (.static C n d)).before args s = true := by
  rcases h with h | ⟨t, h⟩
  · exact vx_isRef h rfl
  · exact vx_isRef h rfl
/-- the same frame, seen from here: as if the method were called anew in this heap -/
theorem vx_rebase {T : State} (X : Stand p l e R s m args below meth c T locs cells slots) {R' : Room} (hf : R'.frames ≤ R.frames) (hl : R'.locals ≤ R.locals) (hc : cells + R'.cells ≤ R.cells) (hs : slots + R'.slots ≤ R.slots) :
    Stand p l e R' ((T.setVm s.vm).setFrames (.invoking m args :: below)) m args below meth c T [] 0 0 := by
  have htop : (T.setVm s.vm).topJava?.isSome := X.here.top
  have hF : ((T.setVm s.vm).setFrames (.invoking m args :: below)).frames = .invoking m args :: below := State.frames_setFrames _ (State.cur_lt_of_top htop)
  obtain ⟨g₀, hg0⟩ := Option.isSome_iff_exists.mp htop
  obtain ⟨r, hr⟩ := State.topJava?_eq_some.mp hg0
  have hl9 : e.platform.stackLimits (T.setVm s.vm).me = e.platform.stackLimits s.me := X.limits
  have hb9 : (T.setVm s.vm).me.stackBytes = s.me.stackBytes := X.bytes
  refine ⟨X.admits, X.cas, X.clock, hF, ?_, X.hears, X.method, X.code, X.here, X.tail, X.warmed, ?_, ?_, ?_⟩
  · have h := X.room
    have hU : ((T.setVm s.vm).setFrames (.invoking m args :: below)).localsInUse = s.localsInUse := by
      rw [State.localsInUse_invoking hF (meth := meth) (c := c) X.method X.code, State.localsInUse_invoking X.frames X.method X.code]
    simp only [State.hasRoom, Bool.and_eq_true, decide_eq_true_eq] at h ⊢
    obtain ⟨⟨⟨⟨h1, h2, h3, h4, h5, h6⟩, h7⟩, h8⟩, h9⟩ := h
    rw [X.frames, List.length_cons] at h2 h3
    have q1 := X.heapSize
    have q2 := X.used
    simp only [hF, hU, List.length_cons, State.stackLimits_setFrames, State.stackBytes_setFrames, hl9, hb9]
    refine ⟨⟨⟨⟨by omega, by omega, by omega, by omega, by omega, h6⟩, ?_⟩, ?_⟩, X.book⟩
    · show T.heap.size + R'.cells ≤ e.platform.maxCells
      omega
    · show T.slotsUsed + R'.slots ≤ e.platform.maxSlots
      omega
  · rw [State.stackLimits_setFrames]; rfl
  · rw [State.stackBytes_setFrames]; rfl
  · refine ⟨?_, Nat.le_refl _, Nat.le_refl _, ?_, ?_, fun a c9 h9 => ⟨c9, h9, rfl, rfl, fun _ _ => rfl⟩⟩
    · obtain ⟨t, ht, -⟩ := State.frames_cons hr
      show T.setVm s.vm = { ((T.setVm s.vm).setFrames (.invoking m args :: below)).setFrames (T.setVm s.vm).frames with heap := T.heap, slotsUsed := T.slotsUsed }
      rw [State.setFrames_setFrames, State.setFrames_self ht]
      rfl
    · show T.slotsUsed = T.slotsUsed + ((T.heap.toList.drop T.heap.size).map (·.slots.size)).sum
      rw [List.drop_eq_nil_of_le (Nat.le_of_eq Array.length_toList)]
      rfl
    · show ((T.heap.toList.drop T.heap.size).map (·.slots.size)).sum ≤ 0
      rw [List.drop_eq_nil_of_le (Nat.le_of_eq Array.length_toList)]
      exact Nat.le_refl _
/-- 'throw new E()': new; dup; invokespecial; athrow -/
theorem vx_throw0 {cc : ByteArray} {pc : Nat} (hexec : p.tables.exec = Jvm.exec) (hb : c.code = cc) (hl : l.stackTraces = false) {own cls : String} {names : List String} {ik ic mc ms : Nat} {A : Nat → Prop}
    (hown : s.vm.findClass own = some m.cls) (hcls : Bundle.fit cls = true) (hnames : ∀ n ∈ names, Bundle.fit n = true)
    (hk : (Cond.classLink own ik cls).before args s = true) (hini : (Cond.initialized cls).before args s = true) (hat : ∀ w ∈ vx_at0 own ic cls names, w.before args s = true)
    (hgood : ∀ w ∈ Cond.classLink own ik cls :: Cond.initialized cls :: vx_at0 own ic cls names, vx_ot w = true)
    (hU : vx_Zq Bundle.tN "UNASSIGNED_STACK" Bundle.steD A s s.heap) (hN : vx_Zq Bundle.tN "SUPPRESSED_SENTINEL" Bundle.listD A s s.heap) (hS : va_S A s.heap H locs) (hsize : ls.size = c.maxLocals)
    (d0 : decode cc pc = .ok (.new ik, 3)) (d3 : decode cc (pc + 3) = .ok (.dup, 1)) (d4 : decode cc (pc + 4) = .ok (.invokespecial ic, 3)) (d7 : decode cc (pc + 7) = .ok (.athrow, 1))
    (hout : ∀ x ∈ c.exceptionTable.toList, covers x (pc + 7) = false)
    (hRframes : names.length + 3 < R.frames) (hRlocals : (rest.map fun v => v.category).sum + (13 * (names.length + 1) + 42) ≤ R.locals) (hRcells : cells + 1 ≤ R.cells) (hRslots : slots + 6 ≤ R.slots) (hlocks : meth.locks = false)
    (hx : ∀ t : State, s.vm.Alike t.vm → H.size ≤ t.heap.size → (∀ q : Nat, q < H.size → t.heap[q]? = H[q]?) → XC cls s t)
    (hf : ∀ z ∈ locs, free z.base) (hc : cells + 1 ≤ mc) (hs : slots + 6 ≤ ms) :
    W p l e R s m args below meth c H locs cells slots (vx_MQ below Qc XC args s mc ms free) (F0 m pc ls rest) := by
  intro T hT X
  have htr : e.platform.stackTraces = false := (show e.platform.stackTraces = l.stackTraces by rw [X.admits.platform]).trans hl
  have Y := vx_rebase X (R' := { frames := R.frames, locals := R.locals, cells := 1, slots := 6 }) (Nat.le_refl _) (Nat.le_refl _) hRcells hRslots
  obtain ⟨s', hA⟩ : ∃ z, z = (T.setVm s.vm).setFrames (.invoking m args :: below) := ⟨_, rfl⟩
  rw [← hA] at Y
  have hvm : s'.vm = s.vm := by rw [hA]; rfl
  have hhp : s'.heap = H := by rw [hA]; exact hT
  have hW0 : s.WarmedH s'.vm := by rw [hvm]; exact State.WarmedH.refl s
  have hat' : ∀ w ∈ vx_at0 own ic cls names, w.before args s' = true := fun w hw => vx_ot_at hW0 hvm.symm (hgood w (List.mem_cons_of_mem _ (List.mem_cons_of_mem _ hw))) (hat w hw)
  have hk' : (Cond.classLink own ik cls).before args s' = true := vx_ot_at hW0 hvm.symm (hgood _ List.mem_cons_self) hk
  have hini' : (Cond.initialized cls).before args s' = true := vx_ot_at hW0 hvm.symm (hgood _ (List.mem_cons_of_mem _ List.mem_cons_self)) hini
  have hU' : vx_Zq Bundle.tN "UNASSIGNED_STACK" Bundle.steD A s' s'.heap := by rw [hhp]; exact vx_Zq.moved hW0.alike (hU.kept hS.2.1)
  have hN' : vx_Zq Bundle.tN "SUPPRESSED_SENTINEL" Bundle.listD A s' s'.heap := by rw [hhp]; exact vx_Zq.moved hW0.alike (hN.kept hS.2.1)
  have h : ∀ w ∈ Bundle.ownAtoms0 own ic cls names, w.before args s' = true := vx_own hat' (vx_isRefq hU'.1) (vx_isRefq hN'.1) hU'.2.word hN'.2.word
  have hown' : s'.vm.findClass own = some m.cls := by rw [hvm]; exact hown
  have hins : (Cond.instantiable cls 6).before args s' = true := h _ (by simp [Bundle.ownAtoms0])
  obtain ⟨vm₁, cX, kX, hfX, hkX, -, -, X₁, st1⟩ := Y.newCold hexec (own := own) (C := cls) (index := ik) (n := 6) hown' hk' hins hini'
    (g := F0 m pc ls rest) rfl (by rw [hb]; exact d0) (Nat.le_refl _) (Nat.le_refl _)
  generalize hT1 : (T.setVm vm₁).pushCell { cls := cX, slots := kX.instanceTypes.map defaultValue, vm := .none } = T1 at X₁ st1
  have hcat : (Value.ref T.heap.size).category = 1 := rfl
  have hcellA : T1.heap[T.heap.size]? = some (freshCell cX kX) := by rw [← hT1]; exact State.heap_pushCell_size _ _
  have d3' : decode c.code (pc + 3) = .ok (.dup, 1) := by rw [hb]; exact d3
  obtain ⟨U, hsteps, hrun, hend, hW, hsame, ce, hce, hO⟩ := X₁.ctorThrow0 hexec htr (own := own) (cls := cls) (names := names) (ic := ic) hown' hcls hnames h (fun x hx => nomatch hx) hfX hkX hcellA (by rw [hhp, hT]; exact Nat.le_refl _)
    (g := { method := m, pc := pc + 4, locals := ls, stack := .ref T.heap.size :: .ref T.heap.size :: rest, locked := none }) rfl hsize rfl rfl (rest := rest) rfl
    (by rw [hb]; exact d4) (by rw [hb]; exact d7) hout hRframes (by simp only [List.map_cons, List.sum_cons, hcat]; omega) hlocks
  obtain ⟨f1, f2⟩ := vx_frame hsame
  rw [hhp] at f1 f2
  have hWs : s.WarmedH U.vm := State.WarmedH.trans hW0 hW
  have hcl : s.vm.findClass cls = some ce.cls := by
    have h9 := hO.cls
    rw [hvm] at h9
    exact h9
  have hall : s.sameButNew ({ U with vm := s.vm } : State) locs mc ms := by
    subst hA
    obtain ⟨e1, e2⟩ := hsame
    rw [State.setFrames_setFrames] at e1
    have h2 : (T.setVm s.vm).sameButNew ({ U with vm := s.vm } : State) [] (0 + 1) (0 + 6) := ⟨e1, e2⟩
    have h3 := X.same.trans h2
    rw [List.append_nil] at h3
    exact h3.mono hc hs
  refine ⟨U, ?_, .threw T.heap.size, hrun, hend, Or.inr ⟨T.heap.size, rfl, cls, ce, locs, hx U hWs.alike f1 (fun q hq => f2 q hq (fun z hz => nomatch hz)), hce, hO.vm, hcl, hWs, hall, hf⟩⟩
  refine st1 _ ?_
  show Steps p.tables e below (T1.setTop { method := m, pc := pc + 3, locals := ls, stack := .ref T.heap.size :: rest, locked := none }) _
  jvm_step X₁.here [X₁.here.top, hexec, d3', Value.category]
  exact hsteps
/-- 'throw new E("text")': new; dup; ldc; invokespecial; athrow -/
theorem vx_throwS {cc : ByteArray} {pc : Nat} (hexec : p.tables.exec = Jvm.exec) (hb : c.code = cc) (hl : l.stackTraces = false) {own cls text : String} {names : List String} {ik is ic mc ms sa : Nat} {A : Nat → Prop}
    (hown : s.vm.findClass own = some m.cls) (hcls : Bundle.fit cls = true) (hnames : ∀ n ∈ names, Bundle.fit n = true)
    (hk : (Cond.classLink own ik cls).before args s = true) (hini : (Cond.initialized cls).before args s = true) (hstr : vk_R own is text sa s) (hat : ∀ w ∈ vx_atS own ic cls names, w.before args s = true)
    (hgood : ∀ w ∈ Cond.classLink own ik cls :: Cond.initialized cls :: vx_atS own ic cls names, vx_ot w = true)
    (hU : vx_Zq Bundle.tN "UNASSIGNED_STACK" Bundle.steD A s s.heap) (hN : vx_Zq Bundle.tN "SUPPRESSED_SENTINEL" Bundle.listD A s s.heap) (hS : va_S A s.heap H locs) (hsize : ls.size = c.maxLocals)
    (d0 : decode cc pc = .ok (.new ik, 3)) (d3 : decode cc (pc + 3) = .ok (.dup, 1)) (d4 : decode cc (pc + 4) = .ok (.ldc is, 2)) (d6 : decode cc (pc + 6) = .ok (.invokespecial ic, 3)) (d9 : decode cc (pc + 9) = .ok (.athrow, 1))
    (hout : ∀ x ∈ c.exceptionTable.toList, covers x (pc + 9) = false)
    (hRframes : names.length + 3 < R.frames) (hRlocals : (rest.map fun v => v.category).sum + (13 * (names.length + 1) + 43) ≤ R.locals) (hRcells : cells + 1 ≤ R.cells) (hRslots : slots + 6 ≤ R.slots) (hlocks : meth.locks = false)
    (hx : ∀ t : State, s.vm.Alike t.vm → H.size ≤ t.heap.size → (∀ q : Nat, q < H.size → t.heap[q]? = H[q]?) → XC cls s t)
    (hf : ∀ z ∈ locs, free z.base) (hc : cells + 1 ≤ mc) (hs : slots + 6 ≤ ms) :
    W p l e R s m args below meth c H locs cells slots (vx_MQ below Qc XC args s mc ms free) (F0 m pc ls rest) := by
  intro T hT X
  have htr : e.platform.stackTraces = false := (show e.platform.stackTraces = l.stackTraces by rw [X.admits.platform]).trans hl
  have Y := vx_rebase X (R' := { frames := R.frames, locals := R.locals, cells := 1, slots := 6 }) (Nat.le_refl _) (Nat.le_refl _) hRcells hRslots
  obtain ⟨s', hA⟩ : ∃ z, z = (T.setVm s.vm).setFrames (.invoking m args :: below) := ⟨_, rfl⟩
  rw [← hA] at Y
  have hvm : s'.vm = s.vm := by rw [hA]; rfl
  have hhp : s'.heap = H := by rw [hA]; exact hT
  have hW0 : s.WarmedH s'.vm := by rw [hvm]; exact State.WarmedH.refl s
  have hat' : ∀ w ∈ vx_atS own ic cls names, w.before args s' = true := fun w hw => vx_ot_at hW0 hvm.symm (hgood w (List.mem_cons_of_mem _ (List.mem_cons_of_mem _ hw))) (hat w hw)
  have hk' : (Cond.classLink own ik cls).before args s' = true := vx_ot_at hW0 hvm.symm (hgood _ List.mem_cons_self) hk
  have hini' : (Cond.initialized cls).before args s' = true := vx_ot_at hW0 hvm.symm (hgood _ (List.mem_cons_of_mem _ List.mem_cons_self)) hini
  have hU' : vx_Zq Bundle.tN "UNASSIGNED_STACK" Bundle.steD A s' s'.heap := by rw [hhp]; exact vx_Zq.moved hW0.alike (hU.kept hS.2.1)
  have hN' : vx_Zq Bundle.tN "SUPPRESSED_SENTINEL" Bundle.listD A s' s'.heap := by rw [hhp]; exact vx_Zq.moved hW0.alike (hN.kept hS.2.1)
  have h : ∀ w ∈ Bundle.ownAtoms own ic cls names, w.before args s' = true := vx_own hat' (vx_isRefq hU'.1) (vx_isRefq hN'.1) hU'.2.word hN'.2.word
  have hown' : s'.vm.findClass own = some m.cls := by rw [hvm]; exact hown
  have hins : (Cond.instantiable cls 6).before args s' = true := h _ (by simp [Bundle.ownAtoms])
  obtain ⟨vm₁, cX, kX, hfX, hkX, -, -, X₁, st1⟩ := Y.newCold hexec (own := own) (C := cls) (index := ik) (n := 6) hown' hk' hins hini'
    (g := F0 m pc ls rest) rfl (by rw [hb]; exact d0) (Nat.le_refl _) (Nat.le_refl _)
  generalize hT1 : (T.setVm vm₁).pushCell { cls := cX, slots := kX.instanceTypes.map defaultValue, vm := .none } = T1 at X₁ st1
  have hcat : (Value.ref T.heap.size).category = 1 := rfl
  have hcellA : T1.heap[T.heap.size]? = some (freshCell cX kX) := by rw [← hT1]; exact State.heap_pushCell_size _ _
  have d3' : decode c.code (pc + 3) = .ok (.dup, 1) := by rw [hb]; exact d3
  have d4' : decode c.code (pc + 4) = .ok (.ldc is, 2) := by rw [hb]; exact d4
  have hstr' : vk_R own is text sa s' := vk_R.warm hW0 hstr
  obtain ⟨U, hsteps, hrun, hend, hW, hsame, ce, hce, hO⟩ := X₁.ctorThrowS hexec htr (own := own) (cls := cls) (names := names) (ic := ic) hown' hcls hnames h (fun x hx => nomatch hx) hfX hkX hcellA (by rw [hhp, hT]; exact Nat.le_refl _) (msg := .ref sa) rfl
    (g := { method := m, pc := pc + 6, locals := ls, stack := .ref sa :: .ref T.heap.size :: .ref T.heap.size :: rest, locked := none }) rfl hsize rfl rfl (rest := rest) rfl
    (by rw [hb]; exact d6) (by rw [hb]; exact d9) hout hRframes (by simp only [List.map_cons, List.sum_cons, hcat]; omega) hlocks
  obtain ⟨f1, f2⟩ := vx_frame hsame
  rw [hhp] at f1 f2
  have hWs : s.WarmedH U.vm := State.WarmedH.trans hW0 hW
  have hcl : s.vm.findClass cls = some ce.cls := by
    have h9 := hO.cls
    rw [hvm] at h9
    exact h9
  have hall : s.sameButNew ({ U with vm := s.vm } : State) locs mc ms := by
    subst hA
    obtain ⟨e1, e2⟩ := hsame
    rw [State.setFrames_setFrames] at e1
    have h2 : (T.setVm s.vm).sameButNew ({ U with vm := s.vm } : State) [] (0 + 1) (0 + 6) := ⟨e1, e2⟩
    have h3 := X.same.trans h2
    rw [List.append_nil] at h3
    exact h3.mono hc hs
  refine ⟨U, ?_, .threw T.heap.size, hrun, hend, Or.inr ⟨T.heap.size, rfl, cls, ce, locs, hx U hWs.alike f1 (fun q hq => f2 q hq (fun z hz => nomatch hz)), hce, hO.vm, hcl, hWs, hall, hf⟩⟩
  refine st1 _ ?_
  show Steps p.tables e below (T1.setTop { method := m, pc := pc + 3, locals := ls, stack := .ref T.heap.size :: rest, locked := none }) _
  jvm_step X₁.here [X₁.here.top, hexec, d3', Value.category]
  exact X₁.ldcString hexec (own := own) (text := text) (index := is) (a := sa) hown' hstr'.1 hstr'.2
    (g := { method := m, pc := pc + 4, locals := ls, stack := .ref T.heap.size :: .ref T.heap.size :: rest, locked := none }) rfl d4' _ hsteps
/-- 'throw new E("text")', the text by a wide index -/
theorem vx_throwSW {cc : ByteArray} {pc : Nat} (hexec : p.tables.exec = Jvm.exec) (hb : c.code = cc) (hl : l.stackTraces = false) {own cls text : String} {names : List String} {ik is ic mc ms sa : Nat} {A : Nat → Prop}
    (hown : s.vm.findClass own = some m.cls) (hcls : Bundle.fit cls = true) (hnames : ∀ n ∈ names, Bundle.fit n = true)
    (hk : (Cond.classLink own ik cls).before args s = true) (hini : (Cond.initialized cls).before args s = true) (hstr : vk_R own is text sa s) (hat : ∀ w ∈ vx_atS own ic cls names, w.before args s = true)
    (hgood : ∀ w ∈ Cond.classLink own ik cls :: Cond.initialized cls :: vx_atS own ic cls names, vx_ot w = true)
    (hU : vx_Zq Bundle.tN "UNASSIGNED_STACK" Bundle.steD A s s.heap) (hN : vx_Zq Bundle.tN "SUPPRESSED_SENTINEL" Bundle.listD A s s.heap) (hS : va_S A s.heap H locs) (hsize : ls.size = c.maxLocals)
    (d0 : decode cc pc = .ok (.new ik, 3)) (d3 : decode cc (pc + 3) = .ok (.dup, 1)) (d4 : decode cc (pc + 4) = .ok (.ldc_w is, 3)) (d7 : decode cc (pc + 7) = .ok (.invokespecial ic, 3)) (d10 : decode cc (pc + 10) = .ok (.athrow, 1))
    (hout : ∀ x ∈ c.exceptionTable.toList, covers x (pc + 10) = false)
    (hRframes : names.length + 3 < R.frames) (hRlocals : (rest.map fun v => v.category).sum + (13 * (names.length + 1) + 43) ≤ R.locals) (hRcells : cells + 1 ≤ R.cells) (hRslots : slots + 6 ≤ R.slots) (hlocks : meth.locks = false)
    (hx : ∀ t : State, s.vm.Alike t.vm → H.size ≤ t.heap.size → (∀ q : Nat, q < H.size → t.heap[q]? = H[q]?) → XC cls s t)
    (hf : ∀ z ∈ locs, free z.base) (hc : cells + 1 ≤ mc) (hs : slots + 6 ≤ ms) :
    W p l e R s m args below meth c H locs cells slots (vx_MQ below Qc XC args s mc ms free) (F0 m pc ls rest) := by
  intro T hT X
  have htr : e.platform.stackTraces = false := (show e.platform.stackTraces = l.stackTraces by rw [X.admits.platform]).trans hl
  have Y := vx_rebase X (R' := { frames := R.frames, locals := R.locals, cells := 1, slots := 6 }) (Nat.le_refl _) (Nat.le_refl _) hRcells hRslots
  obtain ⟨s', hA⟩ : ∃ z, z = (T.setVm s.vm).setFrames (.invoking m args :: below) := ⟨_, rfl⟩
  rw [← hA] at Y
  have hvm : s'.vm = s.vm := by rw [hA]; rfl
  have hhp : s'.heap = H := by rw [hA]; exact hT
  have hW0 : s.WarmedH s'.vm := by rw [hvm]; exact State.WarmedH.refl s
  have hat' : ∀ w ∈ vx_atS own ic cls names, w.before args s' = true := fun w hw => vx_ot_at hW0 hvm.symm (hgood w (List.mem_cons_of_mem _ (List.mem_cons_of_mem _ hw))) (hat w hw)
  have hk' : (Cond.classLink own ik cls).before args s' = true := vx_ot_at hW0 hvm.symm (hgood _ List.mem_cons_self) hk
  have hini' : (Cond.initialized cls).before args s' = true := vx_ot_at hW0 hvm.symm (hgood _ (List.mem_cons_of_mem _ List.mem_cons_self)) hini
  have hU' : vx_Zq Bundle.tN "UNASSIGNED_STACK" Bundle.steD A s' s'.heap := by rw [hhp]; exact vx_Zq.moved hW0.alike (hU.kept hS.2.1)
  have hN' : vx_Zq Bundle.tN "SUPPRESSED_SENTINEL" Bundle.listD A s' s'.heap := by rw [hhp]; exact vx_Zq.moved hW0.alike (hN.kept hS.2.1)
  have h : ∀ w ∈ Bundle.ownAtoms own ic cls names, w.before args s' = true := vx_own hat' (vx_isRefq hU'.1) (vx_isRefq hN'.1) hU'.2.word hN'.2.word
  have hown' : s'.vm.findClass own = some m.cls := by rw [hvm]; exact hown
  have hins : (Cond.instantiable cls 6).before args s' = true := h _ (by simp [Bundle.ownAtoms])
  obtain ⟨vm₁, cX, kX, hfX, hkX, -, -, X₁, st1⟩ := Y.newCold hexec (own := own) (C := cls) (index := ik) (n := 6) hown' hk' hins hini'
    (g := F0 m pc ls rest) rfl (by rw [hb]; exact d0) (Nat.le_refl _) (Nat.le_refl _)
  generalize hT1 : (T.setVm vm₁).pushCell { cls := cX, slots := kX.instanceTypes.map defaultValue, vm := .none } = T1 at X₁ st1
  have hcat : (Value.ref T.heap.size).category = 1 := rfl
  have hcellA : T1.heap[T.heap.size]? = some (freshCell cX kX) := by rw [← hT1]; exact State.heap_pushCell_size _ _
  have d3' : decode c.code (pc + 3) = .ok (.dup, 1) := by rw [hb]; exact d3
  have d4' : decode c.code (pc + 4) = .ok (.ldc_w is, 3) := by rw [hb]; exact d4
  have hstr' : vk_R own is text sa s' := vk_R.warm hW0 hstr
  obtain ⟨U, hsteps, hrun, hend, hW, hsame, ce, hce, hO⟩ := X₁.ctorThrowS hexec htr (own := own) (cls := cls) (names := names) (ic := ic) hown' hcls hnames h (fun x hx => nomatch hx) hfX hkX hcellA (by rw [hhp, hT]; exact Nat.le_refl _) (msg := .ref sa) rfl
    (g := { method := m, pc := pc + 7, locals := ls, stack := .ref sa :: .ref T.heap.size :: .ref T.heap.size :: rest, locked := none }) rfl hsize rfl rfl (rest := rest) rfl
    (by rw [hb]; exact d7) (by rw [hb]; exact d10) hout hRframes (by simp only [List.map_cons, List.sum_cons, hcat]; omega) hlocks
  obtain ⟨f1, f2⟩ := vx_frame hsame
  rw [hhp] at f1 f2
  have hWs : s.WarmedH U.vm := State.WarmedH.trans hW0 hW
  have hcl : s.vm.findClass cls = some ce.cls := by
    have h9 := hO.cls
    rw [hvm] at h9
    exact h9
  have hall : s.sameButNew ({ U with vm := s.vm } : State) locs mc ms := by
    subst hA
    obtain ⟨e1, e2⟩ := hsame
    rw [State.setFrames_setFrames] at e1
    have h2 : (T.setVm s.vm).sameButNew ({ U with vm := s.vm } : State) [] (0 + 1) (0 + 6) := ⟨e1, e2⟩
    have h3 := X.same.trans h2
    rw [List.append_nil] at h3
    exact h3.mono hc hs
  refine ⟨U, ?_, .threw T.heap.size, hrun, hend, Or.inr ⟨T.heap.size, rfl, cls, ce, locs, hx U hWs.alike f1 (fun q hq => f2 q hq (fun z hz => nomatch hz)), hce, hO.vm, hcl, hWs, hall, hf⟩⟩
  refine st1 _ ?_
  show Steps p.tables e below (T1.setTop { method := m, pc := pc + 3, locals := ls, stack := .ref T.heap.size :: rest, locked := none }) _
  jvm_step X₁.here [X₁.here.top, hexec, d3', Value.category]
  exact X₁.ldcStringW hexec (own := own) (text := text) (index := is) (a := sa) hown' hstr'.1 hstr'.2
    (g := { method := m, pc := pc + 4, locals := ls, stack := .ref T.heap.size :: .ref T.heap.size :: rest, locked := none }) rfl d4' _ hsteps
end Ends
section Bodies
variable {l : Launch}
theorem vx_ofW {y : MethodName} {ws ws' : List Cond} {rm : Room} {Pc : Array Value → State → Prop} {Qc : Array Value → State → Outcome → State → Prop} {XC : String → State → State → Prop} {mc ms : Nat} {free : Addr → Prop} {cc : ByteArray} {maxL : Nat} {ret : Option FieldType}
    (hy : plainName y.cls = true) (hw : ws = Cond.code y cc maxL ret :: ws')
    (body : ∀ p e s m args below meth c s₁, BodyLoose p l y (headSpec ws rm) cc maxL ret e s m args below meth c s₁ → c.maxLocals = maxL → (∀ x ∈ c.exceptionTable.toList, False) → Pc args s →
      W p l e (headSpec ws rm).room s m args below meth c s.heap [] 0 0 (vx_MQ below Qc XC args s mc ms free) (entryFrame m args maxL)) : vx_Met l y ws rm Pc Qc XC mc ms free := by
  refine MetFree.of_bodyS (code := cc) (maxLocals := maxL) (ret := ret) hy ?_ ?_
  · intro args s m h hn
    obtain ⟨meth, c, h1, h2, h3, h4, h5, h6, -, -⟩ := Cond.code_spec hn (atoms_spec (ws := ws) h _ (by rw [hw]; exact List.mem_cons_self))
    exact ⟨meth, c, h1, h2, h3, h4, h5, h6⟩
  · intro p e s m args below meth c s₁ B hml hP _
    have hh0 : s₁.heap = s.heap := by rw [B.state]; rfl
    have ht : ∀ x ∈ c.exceptionTable.toList, False := by
      obtain ⟨meth9, c9, h1, h2, -, -, -, -, h7, -⟩ := Cond.code_spec B.named (atoms_spec (ws := ws) B.pre _ (by rw [hw]; exact List.mem_cons_self))
      cases Option.some.inj (h1.symm.trans B.method)
      cases Option.some.inj (h2.symm.trans (Stand.of_body B).code)
      intro x hx
      rw [Array.isEmpty_iff.mp h7] at hx
      cases hx
    obtain ⟨t, a1, o, b1, b2, b3⟩ := body p e s m args below meth c s₁ B hml ht hP s₁ hh0 (Stand.of_body B)
    exact ⟨t, o, a1, b1, b2, b3⟩
/-- the table of a body with handlers -/
theorem vx_table {p : Program} {x y : MethodName} {S : Spec} {cc bytes : ByteArray} {maxL maxL' : Nat} {ret ret' : Option FieldType} {e : Env} {s s₁ : State} {m : MethodId} {args : Array Value} {below : List Frame} {meth : Method} {c : Code} {hh : List (Nat × Nat × Nat × Nat)}
    (B : BodyLoose p l y S cc maxL ret e s m args below meth c s₁) (h : (Cond.codeWith y bytes maxL' ret' hh).before args s = true) : c.exceptionTable.toList = tableOf hh := by
  obtain ⟨m9, meth9, c9, hn9, h1, h2, -, -, h6, -⟩ := Cond.codeWith_spec h
  cases Option.some.inj (hn9.symm.trans B.named)
  cases Option.some.inj (h1.symm.trans B.method)
  cases Option.some.inj (h2.symm.trans (Stand.of_body B).code)
  rw [← h6, table_eq]
end Bodies
end VXA
/-! ===== END ===== -/
/-! ===== BEGIN a static call of a method with an exception table ===== -/
section VXS
variable {p : Program} {l : Launch} {e : Env} {R : Room} {s : State} {m : MethodId} {args : Array Value} {below : List Frame} {meth : Method} {c : Code} {T : State} {H : Heap} {locs : List Loc} {cells slots : Nat}
abbrev vx_CSW (R : Room) (s : State) (args : Array Value) (own : String) (index : Nat) (y : MethodName) (bytes : ByteArray) (maxL : Nat) (ret : Option FieldType) (hh : List (Nat × Nat × Nat × Nat)) (ws : List Cond) (rm : Room) (mc ms n : Nat) : Prop :=
  (rm.cells = mc ∧ rm.slots = ms ∧ rm.frames + 1 ≤ R.frames ∧ 8 + (maxL + 11) + rm.locals ≤ R.locals ∧ (∀ w ∈ ws, ∀ (a' : Array Value) (U : State), s.WarmedH U.vm → w.before a' U = true) ∧ Cond.codeWith y bytes maxL ret hh ∈ ws) ∧
  (Cond.codeWith y bytes maxL ret hh).before args s = true ∧ (Cond.initialized y.cls).before args s = true ∧ (y.cls ≠ "java/lang/invoke/MethodHandle" ∧ y.cls ≠ "java/lang/invoke/VarHandle") ∧
  (∀ sig, parseMethodDescriptor y.desc = some sig → n = sig.parameters.length) ∧ (Cond.methodLink own index y).before args s = true ∧ (Cond.static y).before args s = true
theorem vx_cwSW {own : String} {index maxL mc ms : Nat} {y : MethodName} {bytes : ByteArray} {ret : Option FieldType} {hh : List (Nat × Nat × Nat × Nat)} {Ts ws ws' : List Cond} {rm : Room} (n : Nat) (ht : ∀ w ∈ Ts, w.before args s = true) (hT : GoodIn Ts (va_wsS own index y ws)) (hw : ws = Cond.codeWith y bytes maxL ret hh :: ws') (hrc : rm.cells = mc) (hrs : rm.slots = ms)
    (hd : y.cls ≠ "java/lang/invoke/MethodHandle" ∧ y.cls ≠ "java/lang/invoke/VarHandle" ∧ (parseMethodDescriptor y.desc).map (fun d => d.parameters.length) = some n) (hR : rm.frames + 1 ≤ R.frames ∧ 8 + (maxL + 11) + rm.locals ≤ R.locals) :
    vx_CSW R s args own index y bytes maxL ret hh ws rm mc ms n := by
  have ok : ∀ w ∈ va_wsS own index y ws, w.before args s = true := fun w h => ht w (hT w h).1
  have hG : GoodIn Ts ws := fun w h => hT w (by unfold va_wsS; exact List.mem_append_right _ h)
  have hc : Cond.codeWith y bytes maxL ret hh ∈ ws := by rw [hw]; exact List.mem_cons_self
  refine ⟨⟨hrc, hrs, hR.1, hR.2, pay_in ht hG, hc⟩, ht _ (hG _ hc).1, ok _ (by simp [va_wsS]), ⟨hd.1, hd.2.1⟩, fun sig h => ?_, ok _ (by simp [va_wsS]), ok _ (by simp [va_wsS])⟩
  have h2 := hd.2.2
  rw [h] at h2
  exact (Option.some.inj h2).symm
theorem vx_callSW (X : Stand p l e R s m args below meth c T locs cells slots) (hexec : p.tables.exec = Jvm.exec) {own : String} {index : Nat} {y : MethodName} {bytes : ByteArray} {maxL : Nat} {ret : Option FieldType} {hh : List (Nat × Nat × Nat × Nat)}
    (hown : s.vm.findClass own = some m.cls) (hlink : (Cond.methodLink own index y).before args s = true) (hstat : (Cond.static y).before args s = true) (hinit : (Cond.initialized y.cls).before args s = true)
    (hcode : (Cond.codeWith y bytes maxL ret hh).before args s = true) (hy : y.cls ≠ "java/lang/invoke/MethodHandle" ∧ y.cls ≠ "java/lang/invoke/VarHandle")
    {W9 : Nat} {Pre : Pt → Array Value → Prop} {Post : Pt → Array Value → Option Value → Pt → Prop} (hK : Back l R p e below s args y 3 W9 Pre Post)
    {g : JFrame} (hg : g.method = m) (hsize : g.locals.size = c.maxLocals) {argsL rest : List Value} (hlen : ∀ sig, parseMethodDescriptor y.desc = some sig → argsL.length = sig.parameters.length)
    (hstack : g.stack = argsL.reverse ++ rest) (hW : 2 * g.monitorRoom + (rest.map fun v => v.category).sum ≤ W9) (hdg : decode c.code g.pc = .ok (.invokestatic index, 3))
    (hpre : ∀ vm₁, s.WarmedH vm₁ → Pre ⟨T.setVm vm₁, locs, cells, slots⟩ argsL.toArray) :
    ∃ (v : Option Value) (vm₁ : Vm) (B : Pt), s.WarmedH vm₁ ∧ Stand p l e R s m args below meth c B.U B.locs B.cells B.slots ∧ Post ⟨T.setVm vm₁, locs, cells, slots⟩ argsL.toArray v B ∧
      ∀ target, Steps p.tables e below (B.U.setTop { g with pc := g.pc + 3, stack := v.toList ++ rest }) target → Steps p.tables e below (T.setTop g) target := by
  obtain ⟨mk, methM, cM, hnamed, hmethM, -, -, -, -, -, -, hsigM⟩ := Cond.codeWith_spec hcode
  have hstatic : methM.isStatic = true := Cond.static_spec hnamed hmethM hstat
  obtain ⟨kP, hkP, -⟩ := className_of_methodNamed hnamed
  have hinitP : kP.init = .initialized := Cond.initialized_spec (findClass_of_methodNamed hnamed) hkP hinit
  obtain ⟨vm₁, X₁, hstep₁⟩ := X.invokestatic hexec hown hlink hnamed hmethM hstatic hkP hinitP hy (g := g) hg (argsL := argsL) (rest := rest) (hlen _ hsigM) hstack hdg
  obtain ⟨v, B, X', hpost, hsteps⟩ := hK m meth c ⟨T.setVm vm₁, locs, cells, slots⟩ { g with stack := rest } (.invokestatic index) mk argsL.toArray X₁ hg hsize hdg hW (X₁.named hnamed) (hpre vm₁ X₁.warmed)
  exact ⟨v, vm₁, B, X₁.warmed, X', hpost, fun target h => hstep₁ _ fun acts => by rw [doInvoke_state]; exact hsteps.trans h⟩
theorem vx_runSW {y : MethodName} {bytes cc : ByteArray} {maxL nL mc ms n index : Nat} {ret : Option FieldType} {hh : List (Nat × Nat × Nat × Nat)} {ws : List Cond} {rm : Room} {Pc : Array Value → State → Prop} {Qc : Array Value → State → Outcome → State → Prop} {free : Addr → Prop} {Ts : List Cond} {own : String} {As rest : List Value} {g : JFrame}
    (S : CallFix p m c cc nL s args Ts own) (hM : Met l y ws rm Pc Qc mc ms free) (cw : vx_CSW R s args own index y bytes maxL ret hh ws rm mc ms n) (hp : PreS s H Pc As)
    (hg : g.method = m) (hn : As.length = n) (hsize : g.locals.size = nL) (hstack : g.stack = As.reverse ++ rest) (hW : 2 * g.monitorRoom + (rest.map fun v => v.category).sum ≤ 8) (hdg : decode cc g.pc = .ok (.invokestatic index, 3)) (hf : cells + mc ≤ R.cells ∧ slots + ms ≤ R.slots) :
    va_Run p l e R s m args below meth c H locs cells slots mc ms g rest (Qc As.toArray) (free) := by
  obtain ⟨⟨hrc, hrs, hfr, hlo, hws, hcw⟩, hcode, hini, hy, hlen, hl, hstt⟩ := cw
  have hK : Back l R p e below s args y 3 8 (PreOf R mc ms Pc) (PostOf Qc mc ms free) := va_backW (hh := hh) (bytes := bytes) (maxL := maxL) (ret := ret) hM hp.1 hrc hrs hfr hlo hws hcw (fun a' U hW => word_at hW (Or.inl (by first | rfl | simp [Cond.onTables, Cond.keeps, Cond.steady])) hini)
  obtain ⟨hx, hb, hml, ho, -⟩ := S
  intro T hT X
  obtain ⟨v, vm₁, ⟨U', l2, c2, s2⟩, hW₁, X', ⟨g', mk, t, L, e1, e2, hq, h1, hL, h2, h3⟩, st⟩ := vx_callSW X hx (hh := hh) (bytes := bytes) (maxL := maxL) (ret := ret) ho hl hstt hini hcode hy hK hg (hsize.trans hml.symm) (argsL := As) (rest := rest) (fun sig h => hn.trans (hlen sig h)) hstack hW (by rw [hb]; exact hdg)
    (fun vm₁ hW₁ => ⟨hf.1, hf.2, hp.2 (T.setVm vm₁) hT hW₁⟩)
  dsimp only [Pt.U, Pt.locs, Pt.cells, Pt.slots] at X' e1 e2 h1 h2 h3 st
  subst h1; subst h2; subst h3
  exact ⟨v, (T.setVm vm₁).calling g' mk As.toArray, t, U', L, hT, X', hL, e1, e2, hq, st⟩
/-- not caught here, past rows that name other classes: it goes on to the caller -/
theorem vx_outP {p : Program} {l : Launch} {e : Env} {R : Room} {s : State} {m : MethodId} {args : Array Value} {below : List Frame} {meth : Method} {c : Code} {H : Heap} {locs : List Loc} {cells slots : Nat} {free : Addr → Prop} {ls : Array Slot} {rest : List Value} {Qc : Array Value → State → Outcome → State → Prop} {XC : String → State → State → Prop}
    {pc : Nat} {own E : String} {ce : Cell} {q : Addr} {mc ms : Nat} (hown : s.vm.findClass own = some m.cls) (hlocks : meth.locks = false)
    (hpass : ∀ z ∈ c.exceptionTable.toList, covers z pc = false ∨ (z.catchType ≠ 0 ∧ ∃ nm : String, (Cond.classLink own z.catchType nm).before args s = true ∧ va_Nc E nm s)) (hcell : H[q]? = some ce) (hv : ce.vm = .none) (hcl : s.vm.findClass E = some ce.cls)
    (hx : ∀ t : State, t.heap = H → s.vm.Alike t.vm → XC E s t) (hf : ∀ z ∈ locs, free z.base) (hc : cells ≤ mc) (hs : slots ≤ ms) :
    vx_W p l e R s m args below meth c H locs cells slots (vx_MQ below Qc XC args s mc ms free) (F0 m pc ls rest) q := by
  intro T hT X
  have hpl : e.platform.magicAccessors = ({} : Platform).magicAccessors := by rw [X.admits.platform]
  obtain ⟨vm', hW', X', st⟩ := X.outThrough hlocks q (g := F0 m pc ls rest) rfl rfl rfl (cell := ce) (by rw [hT]; exact hcell) (by rw [hv]; rfl)
    (by obtain ⟨k9, h9, -⟩ := Vm.findClass_spec hcl; exact ⟨k9, h9⟩) (fun z hz => by
      rcases hpass z hz with h | ⟨hz0, nm, hl1, hn1⟩
      · exact Or.inl h
      · obtain ⟨c6, hc6, hcl6⟩ := Cond.classLink_spec hown hl1 e.platform hpl
        obtain ⟨a8, b8, h1, h2, h3⟩ := hn1
        cases Option.some.inj (h1.symm.trans hcl)
        cases Option.some.inj (h2.symm.trans hc6)
        exact Or.inr ⟨hz0, _, hcl6, h3⟩)
  obtain ⟨g₀, hfr⟩ := X'.frames_eq
  have hcell9 : ((T.setVm vm').setFrames (.throwing q :: below)).heap[q]? = some ce := by
    show T.heap[q]? = some ce
    rw [hT]; exact hcell
  have hend : Ended ((T.setVm vm').setFrames (.throwing q :: below)) below (.threw q) := State.frames_setFrames _ (State.cur_lt_of_frames hfr)
  refine ⟨(T.setVm vm').setFrames (.throwing q :: below), ?_, .threw q, X'.here.running, hend, Or.inr ⟨q, rfl, E, ce, locs, hx _ hT (X'.ends _).1.alike, hcell9, hv, hcl, (X'.ends _).1, (X'.ends _).2.mono hc hs, hf⟩⟩
  rw [X.pushThrowing_eq]
  exact st
/-- a thing of a world lies in the heap -/
theorem vx_lt {D : va_G} {cl : List vw_C} {ws : va_W} {H1 : Heap} (h : va_P D cl ws H1) {k : Nat} {q : Nat × va_E} (hk : ws[k]? = some q) : q.1 < H1.size := (h k q hk).lt
end VXS
/-! ===== END ===== -/
/-! ===== BEGIN methods with a table of their own: called by a name, returning or throwing ===== -/
section VXH
/-! vx_backW, vx_callVX, vx_callSX, vx_callVW, vx_runVW, vx_runVX, vx_runSX, vx_ofWH follow the same proofs as their sisters above (Free/Laws.lean, Shelf42/LK1.lean); vx_outP calls Shelf42/NT130.lean (outThrough). -/
section
variable {l : Launch} {R : Room} {p : Program} {e : Env} {below : List Frame} {s : State} {sargs : Array Value} {y : MethodName} {len W9 : Nat}
theorem vx_backW {ws : List Cond} {rm : Room} {Pc : Array Value → State → Prop} {Qc : Array Value → State → Outcome → State → Prop} {XC : String → State → State → Prop} {mc ms : Nat} {free : Addr → Prop} {bytes : ByteArray} {maxL : Nat} {ret : Option FieldType} {hh : List (Nat × Nat × Nat × Nat)}
    (hM : vx_Met l y ws rm Pc Qc XC mc ms free) (hblind : FrameBlind Pc) (hrc : rm.cells = mc) (hrs : rm.slots = ms)
    (hframes : rm.frames + 1 ≤ R.frames) (hlocals : W9 + (maxL + 11) + rm.locals ≤ R.locals)
    (hws : ∀ w ∈ ws, ∀ a' U, s.WarmedH U.vm → w.before a' U = true) (hcode : Cond.codeWith y bytes maxL ret hh ∈ ws) (hinit : ∀ a' U, s.WarmedH U.vm → (Cond.initialized y.cls).before a' U = true) :
    vx_Back l R p e below s sargs y len W9 (PreOf R mc ms Pc) (PostOf Qc mc ms free) (vx_Post XC mc ms free) := by
  intro m meth c A g ig mk a X hg hsize hdg hW hn hp
  have h1 : (headSpec ws rm).pre.before a A.U = true := atoms_intro fun w hw => hws w hw _ _ X.warmed
  have h2 : (Cond.codeWith y bytes maxL ret hh).before a A.U = true := hws _ hcode _ _ X.warmed
  have h3 : (Cond.initialized y.cls).before a A.U = true := hinit _ _ X.warmed
  have h4 : A.cells + (headSpec ws rm).room.cells ≤ R.cells := by rw [show (headSpec ws rm).room.cells = mc from hrc]; exact hp.1
  have h5 : A.slots + (headSpec ws rm).room.slots ≤ R.slots := by rw [show (headSpec ws rm).room.slots = ms from hrs]; exact hp.2.1
  have hPc : Pc a (A.U.calling g mk a) := hblind _ _ _ _ hp.2.2
  obtain ⟨U, Ls, c0, s0⟩ := A
  dsimp only [Pt.U, Pt.locs, Pt.cells, Pt.slots] at h1 h2 h3 h4 h5 X hn hPc ⊢
  obtain ⟨m9, methY, cY, hn9, hmY, hcY, -, hlY, -⟩ := Cond.codeWith_spec h2
  cases Option.some.inj (hn9.symm.trans hn)
  obtain ⟨kY, hkY, -⟩ := className_of_methodNamed hn
  have hinitY : kY.init = .initialized := Cond.initialized_spec (findClass_of_methodNamed hn) hkY h3
  have h : At U g.method c below := by rw [hg]; exact X.here
  have hlocals9 : W9 + (maxL + 11) + (headSpec ws rm).room.locals ≤ R.locals := hlocals
  have happ : (headSpec ws rm).appliesLoose y e.platform (U.calling g mk a) = true :=
    Spec.appliesLoose_calling (g := g) h hdg hn hkY hinitY
      (X.room_calling (g := g) (R' := (headSpec ws rm).room) hsize hmY hcY hframes (by rw [hlY]; omega) h4 h5) h1
  obtain ⟨mid, hmid⟩ := h.above
  have hfr : (U.setTop g).frames = (.java g :: mid) ++ below := by rw [State.frames_setTop' g h.top, hmid]; rfl
  obtain ⟨o, s₂, hsteps, -, hend, hq⟩ := Steps.callFree hM p X.admits X.cas X.clock (acts := []) hfr happ hPc trivial
  have hq' : vx_Q Qc XC mc ms free a (U.calling g mk a) o s₂ := hq
  rw [State.frames_setTop' g h.top] at hend
  obtain ⟨g₀, hg0⟩ := Option.isSome_iff_exists.mp h.top
  obtain ⟨r, hr⟩ := State.topJava?_eq_some.mp hg0
  have hr' : (({ U with heap := s₂.heap, slotsUsed := s₂.slotsUsed } : State).setVm s₂.vm).frames = .java g₀ :: r := hr
  rcases hq' with ⟨hqc, L, hfe, hL⟩ | ⟨q, rfl, E, ce, L, hx, hce, hcv, hcl, hW₂, hsm, hL⟩
  · obtain ⟨⟨v, rfl⟩, hW₂, e2, q2, q3, q4, q5, q6⟩ := id hfe
    have e3 : s₂ = ({ (U.calling g mk a).setFrames s₂.frames with heap := s₂.heap, slotsUsed := s₂.slotsUsed } : State).setVm s₂.vm := by
      have : s₂ = ({ s₂ with vm := (U.calling g mk a).vm } : State).setVm s₂.vm := rfl
      rw [e2] at this
      exact this
    obtain ⟨c₂, i₂, len₂, hc₂, hd₂, hf₂⟩ := hend
    have hW' : U.WarmedH s₂.vm := hW₂
    have hcc : c₂ = c := by
      have h1 : s₂.code? g.method = U.code? g.method := by
        rw [State.code?_eq, State.code?_eq, hW'.alike.method?]
      exact Option.some.inj (hc₂.symm.trans (h1.trans h.code))
    subst hcc
    have hlen : len₂ = len := by rw [hdg] at hd₂; cases hd₂; rfl
    subst hlen
    have hs₂ : s₂ = (({ U with heap := s₂.heap, slotsUsed := s₂.slotsUsed } : State).setVm s₂.vm).setTop { g with pc := g.pc + len₂, stack := v.toList ++ g.stack } := by
      refine e3.trans ?_
      rw [hf₂, State.calling_eq h.top, State.setFrames_setFrames, State.setTop_of_frames _ hr', hr]
      rfl
    have hsame : U.sameButNew ({ U with heap := s₂.heap, slotsUsed := s₂.slotsUsed } : State) L mc ms := by
      refine ⟨?_, q2, q3, q4, q5, q6⟩
      obtain ⟨t, ht, -⟩ := State.frames_cons hr
      show ({ U with heap := s₂.heap, slotsUsed := s₂.slotsUsed } : State) = { U.setFrames U.frames with heap := s₂.heap, slotsUsed := s₂.slotsUsed }
      rw [State.setFrames_self ht]
    subst hg
    refine Or.inl ⟨v, ⟨(({ U with heap := s₂.heap, slotsUsed := s₂.slotsUsed } : State).setVm s₂.vm), Ls ++ L, c0 + mc, s0 + ms⟩,
      ⟨X.admits, X.cas, X.clock, X.frames, X.room, X.hears, X.method, X.code, (X.here.setHeapUsed s₂.heap s₂.slotsUsed).setVm hW'.alike, X.tail, State.WarmedH.trans X.warmed hW', X.limits, X.bytes, X.same.trans (hsame.setVm s.vm)⟩,
      ⟨g, mk, s₂, L, rfl, rfl, hqc, rfl, hL, rfl, rfl⟩, ?_⟩
    show Steps p.tables e below _ ((({ U with heap := s₂.heap, slotsUsed := s₂.slotsUsed } : State).setVm s₂.vm).setTop { g with pc := g.pc + len₂, stack := v.toList ++ g.stack })
    rw [← hs₂]
    exact hsteps
  · obtain ⟨e2, q2, q3, q4, q5, q6⟩ := id hsm
    have e3 : s₂ = ({ (U.calling g mk a).setFrames s₂.frames with heap := s₂.heap, slotsUsed := s₂.slotsUsed } : State).setVm s₂.vm := by
      have : s₂ = ({ s₂ with vm := (U.calling g mk a).vm } : State).setVm s₂.vm := rfl
      rw [e2] at this
      exact this
    have hf₂ : s₂.frames = .throwing q :: .java g :: U.frames.tail := hend
    have hW' : U.WarmedH s₂.vm := hW₂
    have hs₂ : s₂ = ((({ U with heap := s₂.heap, slotsUsed := s₂.slotsUsed } : State).setVm s₂.vm).setTop g).pushFrame (.throwing q) := by
      refine e3.trans ?_
      rw [hf₂, State.calling_eq h.top, State.setFrames_setFrames, State.pushFrame, State.frames_setTop _ hr', State.setTop_of_frames _ hr', State.setFrames_setFrames, hr]
      rfl
    have hsame : U.sameButNew ({ U with heap := s₂.heap, slotsUsed := s₂.slotsUsed } : State) L mc ms := by
      refine ⟨?_, q2, q3, q4, q5, q6⟩
      obtain ⟨t, ht, -⟩ := State.frames_cons hr
      show ({ U with heap := s₂.heap, slotsUsed := s₂.slotsUsed } : State) = { U.setFrames U.frames with heap := s₂.heap, slotsUsed := s₂.slotsUsed }
      rw [State.setFrames_self ht]
    subst hg
    refine Or.inr ⟨q, ⟨(({ U with heap := s₂.heap, slotsUsed := s₂.slotsUsed } : State).setVm s₂.vm), Ls ++ L, c0 + mc, s0 + ms⟩,
      ⟨X.admits, X.cas, X.clock, X.frames, X.room, X.hears, X.method, X.code, (X.here.setHeapUsed s₂.heap s₂.slotsUsed).setVm hW'.alike, X.tail, State.WarmedH.trans X.warmed hW', X.limits, X.bytes, X.same.trans (hsame.setVm s.vm)⟩,
      ⟨g, mk, s₂, L, E, ce, rfl, rfl, hx, hce, hcv, hcl, rfl, hL, rfl, rfl⟩, ?_⟩
    show Steps p.tables e below _ (((({ U with heap := s₂.heap, slotsUsed := s₂.slotsUsed } : State).setVm s₂.vm).setTop g).pushFrame (.throwing q))
    rw [← hs₂]
    exact hsteps
end
variable {p : Program} {l : Launch} {e : Env} {R : Room} {s : State} {m : MethodId} {args : Array Value} {below : List Frame} {meth : Method} {c : Code} {T : State} {H : Heap} {locs : List Loc} {cells slots : Nat}
theorem vx_callVX (X : Stand p l e R s m args below meth c T locs cells slots) (hexec : p.tables.exec = Jvm.exec) {own C : String} {index : Nat} {y : MethodName} {bytes : ByteArray} {maxL : Nat} {ret : Option FieldType} {hh : List (Nat × Nat × Nat × Nat)}
    (hown : s.vm.findClass own = some m.cls) (hlink : (Cond.methodLink own index y).before args s = true) (hinst : (Cond.instanceMethod y).before args s = true) (hsel : (Cond.selects C y y).before args s = true)
    (hcode : (Cond.codeWith y bytes maxL ret hh).before args s = true) (hy : y.cls ≠ "java/lang/invoke/MethodHandle" ∧ y.cls ≠ "java/lang/invoke/VarHandle")
    {W9 : Nat} {Pre : Pt → Array Value → Prop} {Post : Pt → Array Value → Option Value → Pt → Prop} {PostX : Pt → Array Value → Addr → Pt → Prop} (hK : vx_Back l R p e below s args y 3 W9 Pre Post PostX)
    {b : Addr} {cellB : Cell} (hcell : T.heap[b]? = some cellB) (hobj : cellB.vm.isStatics = false) (hcls : s.vm.findClass C = some cellB.cls)
    {g : JFrame} (hg : g.method = m) (hsize : g.locals.size = c.maxLocals) {argsL rest : List Value} (hlen : ∀ sig, parseMethodDescriptor y.desc = some sig → argsL.length = sig.parameters.length)
    (hstack : g.stack = argsL.reverse ++ .ref b :: rest) (hW : 2 * g.monitorRoom + (rest.map fun v => v.category).sum ≤ W9) (hdg : decode c.code g.pc = .ok (.invokevirtual index, 3))
    (hpre : ∀ vm₁, s.WarmedH vm₁ → Pre ⟨T.setVm vm₁, locs, cells, slots⟩ (Value.ref b :: argsL).toArray) :
    (∃ (v : Option Value) (vm₁ : Vm) (B : Pt), s.WarmedH vm₁ ∧ Stand p l e R s m args below meth c B.U B.locs B.cells B.slots ∧ Post ⟨T.setVm vm₁, locs, cells, slots⟩ (Value.ref b :: argsL).toArray v B ∧
      ∀ target, Steps p.tables e below (B.U.setTop { g with pc := g.pc + 3, stack := v.toList ++ rest }) target → Steps p.tables e below (T.setTop g) target) ∨
    (∃ (q : Addr) (vm₁ : Vm) (B : Pt), s.WarmedH vm₁ ∧ Stand p l e R s m args below meth c B.U B.locs B.cells B.slots ∧ PostX ⟨T.setVm vm₁, locs, cells, slots⟩ (Value.ref b :: argsL).toArray q B ∧
      Steps p.tables e below (T.setTop g) ((B.U.setTop { g with stack := rest }).pushFrame (.throwing q))) := by
  obtain ⟨mk, methM, hnamed, hmethM, hstM, habM⟩ := Cond.instanceMethod_spec hinst
  obtain ⟨m8, methM', cM, hn8, hmethM', -, -, -, -, -, -, hsigM⟩ := Cond.codeWith_spec hcode
  cases Option.some.inj (hn8.symm.trans hnamed)
  cases hmethM.symm.trans hmethM'
  obtain ⟨c2, r2, m2, q1, q2, q3, q4, kP, hkP, hkPi⟩ := Cond.selects_spec hsel
  cases hcls.symm.trans q1
  cases (State.methodFound?_of_named hnamed hy).symm.trans q2
  cases hnamed.symm.trans q3
  have hselP : selectMethod e.platform s.vm cellB.cls mk = .method mk := by rw [Launch.admits_selectMethod X.admits]; exact q4
  obtain ⟨vm₁, X₁, hstep₁⟩ := X.invokevirtual hexec hown hlink hnamed hmethM hstM hkP hkPi hy (a := b) (cell := cellB) hcell
    (fun z h => by rw [h] at hobj; cases hobj) hselP hmethM habM hkP hkPi (g := g) hg (argsL := argsL) (rest := rest) (hlen _ hsigM) hstack hdg
  rcases hK m meth c ⟨T.setVm vm₁, locs, cells, slots⟩ { g with stack := rest } (.invokevirtual index) mk (Value.ref b :: argsL).toArray X₁ hg hsize hdg hW (X₁.named hnamed) (hpre vm₁ X₁.warmed) with ⟨v, B, X', hpost, hsteps⟩ | ⟨q, B, X', hpost, hsteps⟩
  · exact Or.inl ⟨v, vm₁, B, X₁.warmed, X', hpost, fun target h => hstep₁ _ fun acts => by rw [doInvoke_state]; exact hsteps.trans h⟩
  · exact Or.inr ⟨q, vm₁, B, X₁.warmed, X', hpost, hstep₁ _ fun acts => by rw [doInvoke_state]; exact hsteps⟩
theorem vx_callSX (X : Stand p l e R s m args below meth c T locs cells slots) (hexec : p.tables.exec = Jvm.exec) {own : String} {index : Nat} {y : MethodName} {bytes : ByteArray} {maxL : Nat} {ret : Option FieldType} {hh : List (Nat × Nat × Nat × Nat)}
    (hown : s.vm.findClass own = some m.cls) (hlink : (Cond.methodLink own index y).before args s = true) (hstat : (Cond.static y).before args s = true) (hinit : (Cond.initialized y.cls).before args s = true)
    (hcode : (Cond.codeWith y bytes maxL ret hh).before args s = true) (hy : y.cls ≠ "java/lang/invoke/MethodHandle" ∧ y.cls ≠ "java/lang/invoke/VarHandle")
    {W9 : Nat} {Pre : Pt → Array Value → Prop} {Post : Pt → Array Value → Option Value → Pt → Prop} {PostX : Pt → Array Value → Addr → Pt → Prop} (hK : vx_Back l R p e below s args y 3 W9 Pre Post PostX)
    {g : JFrame} (hg : g.method = m) (hsize : g.locals.size = c.maxLocals) {argsL rest : List Value} (hlen : ∀ sig, parseMethodDescriptor y.desc = some sig → argsL.length = sig.parameters.length)
    (hstack : g.stack = argsL.reverse ++ rest) (hW : 2 * g.monitorRoom + (rest.map fun v => v.category).sum ≤ W9) (hdg : decode c.code g.pc = .ok (.invokestatic index, 3))
    (hpre : ∀ vm₁, s.WarmedH vm₁ → Pre ⟨T.setVm vm₁, locs, cells, slots⟩ argsL.toArray) :
    (∃ (v : Option Value) (vm₁ : Vm) (B : Pt), s.WarmedH vm₁ ∧ Stand p l e R s m args below meth c B.U B.locs B.cells B.slots ∧ Post ⟨T.setVm vm₁, locs, cells, slots⟩ argsL.toArray v B ∧
      ∀ target, Steps p.tables e below (B.U.setTop { g with pc := g.pc + 3, stack := v.toList ++ rest }) target → Steps p.tables e below (T.setTop g) target) ∨
    (∃ (q : Addr) (vm₁ : Vm) (B : Pt), s.WarmedH vm₁ ∧ Stand p l e R s m args below meth c B.U B.locs B.cells B.slots ∧ PostX ⟨T.setVm vm₁, locs, cells, slots⟩ argsL.toArray q B ∧
      Steps p.tables e below (T.setTop g) ((B.U.setTop { g with stack := rest }).pushFrame (.throwing q))) := by
  obtain ⟨mk, methM, cM, hnamed, hmethM, -, -, -, -, -, -, hsigM⟩ := Cond.codeWith_spec hcode
  have hstatic : methM.isStatic = true := Cond.static_spec hnamed hmethM hstat
  obtain ⟨kP, hkP, -⟩ := className_of_methodNamed hnamed
  have hinitP : kP.init = .initialized := Cond.initialized_spec (findClass_of_methodNamed hnamed) hkP hinit
  obtain ⟨vm₁, X₁, hstep₁⟩ := X.invokestatic hexec hown hlink hnamed hmethM hstatic hkP hinitP hy (g := g) hg (argsL := argsL) (rest := rest) (hlen _ hsigM) hstack hdg
  rcases hK m meth c ⟨T.setVm vm₁, locs, cells, slots⟩ { g with stack := rest } (.invokestatic index) mk argsL.toArray X₁ hg hsize hdg hW (X₁.named hnamed) (hpre vm₁ X₁.warmed) with ⟨v, B, X', hpost, hsteps⟩ | ⟨q, B, X', hpost, hsteps⟩
  · exact Or.inl ⟨v, vm₁, B, X₁.warmed, X', hpost, fun target h => hstep₁ _ fun acts => by rw [doInvoke_state]; exact hsteps.trans h⟩
  · exact Or.inr ⟨q, vm₁, B, X₁.warmed, X', hpost, hstep₁ _ fun acts => by rw [doInvoke_state]; exact hsteps⟩
theorem vx_callVW (X : Stand p l e R s m args below meth c T locs cells slots) (hexec : p.tables.exec = Jvm.exec) {own C : String} {index : Nat} {y : MethodName} {bytes : ByteArray} {maxL : Nat} {ret : Option FieldType} {hh : List (Nat × Nat × Nat × Nat)}
    (hown : s.vm.findClass own = some m.cls) (hlink : (Cond.methodLink own index y).before args s = true) (hinst : (Cond.instanceMethod y).before args s = true) (hsel : (Cond.selects C y y).before args s = true)
    (hcode : (Cond.codeWith y bytes maxL ret hh).before args s = true) (hy : y.cls ≠ "java/lang/invoke/MethodHandle" ∧ y.cls ≠ "java/lang/invoke/VarHandle")
    {W9 : Nat} {Pre : Pt → Array Value → Prop} {Post : Pt → Array Value → Option Value → Pt → Prop} (hK : Back l R p e below s args y 3 W9 Pre Post)
    {b : Addr} {cellB : Cell} (hcell : T.heap[b]? = some cellB) (hobj : cellB.vm.isStatics = false) (hcls : s.vm.findClass C = some cellB.cls)
    {g : JFrame} (hg : g.method = m) (hsize : g.locals.size = c.maxLocals) {argsL rest : List Value} (hlen : ∀ sig, parseMethodDescriptor y.desc = some sig → argsL.length = sig.parameters.length)
    (hstack : g.stack = argsL.reverse ++ .ref b :: rest) (hW : 2 * g.monitorRoom + (rest.map fun v => v.category).sum ≤ W9) (hdg : decode c.code g.pc = .ok (.invokevirtual index, 3))
    (hpre : ∀ vm₁, s.WarmedH vm₁ → Pre ⟨T.setVm vm₁, locs, cells, slots⟩ (Value.ref b :: argsL).toArray) :
    ∃ (v : Option Value) (vm₁ : Vm) (B : Pt), s.WarmedH vm₁ ∧ Stand p l e R s m args below meth c B.U B.locs B.cells B.slots ∧ Post ⟨T.setVm vm₁, locs, cells, slots⟩ (Value.ref b :: argsL).toArray v B ∧
      ∀ target, Steps p.tables e below (B.U.setTop { g with pc := g.pc + 3, stack := v.toList ++ rest }) target → Steps p.tables e below (T.setTop g) target := by
  obtain ⟨mk, methM, hnamed, hmethM, hstM, habM⟩ := Cond.instanceMethod_spec hinst
  obtain ⟨m8, methM', cM, hn8, hmethM', -, -, -, -, -, -, hsigM⟩ := Cond.codeWith_spec hcode
  cases Option.some.inj (hn8.symm.trans hnamed)
  cases hmethM.symm.trans hmethM'
  obtain ⟨c2, r2, m2, q1, q2, q3, q4, kP, hkP, hkPi⟩ := Cond.selects_spec hsel
  cases hcls.symm.trans q1
  cases (State.methodFound?_of_named hnamed hy).symm.trans q2
  cases hnamed.symm.trans q3
  have hselP : selectMethod e.platform s.vm cellB.cls mk = .method mk := by rw [Launch.admits_selectMethod X.admits]; exact q4
  obtain ⟨vm₁, X₁, hstep₁⟩ := X.invokevirtual hexec hown hlink hnamed hmethM hstM hkP hkPi hy (a := b) (cell := cellB) hcell
    (fun z h => by rw [h] at hobj; cases hobj) hselP hmethM habM hkP hkPi (g := g) hg (argsL := argsL) (rest := rest) (hlen _ hsigM) hstack hdg
  obtain ⟨v, B, X', hpost, hsteps⟩ := hK m meth c ⟨T.setVm vm₁, locs, cells, slots⟩ { g with stack := rest } (.invokevirtual index) mk (Value.ref b :: argsL).toArray X₁ hg hsize hdg hW (X₁.named hnamed) (hpre vm₁ X₁.warmed)
  exact ⟨v, vm₁, B, X₁.warmed, X', hpost, fun target h => hstep₁ _ fun acts => by rw [doInvoke_state]; exact hsteps.trans h⟩
abbrev vx_CVW (R : Room) (s : State) (args : Array Value) (own C : String) (index : Nat) (y : MethodName) (bytes : ByteArray) (maxL : Nat) (ret : Option FieldType) (hh : List (Nat × Nat × Nat × Nat)) (ws : List Cond) (rm : Room) (mc ms n : Nat) : Prop :=
  (rm.cells = mc ∧ rm.slots = ms ∧ rm.frames + 1 ≤ R.frames ∧ 8 + (maxL + 11) + rm.locals ≤ R.locals ∧ (∀ w ∈ ws, ∀ (a' : Array Value) (U : State), s.WarmedH U.vm → w.before a' U = true) ∧ Cond.codeWith y bytes maxL ret hh ∈ ws) ∧
  (Cond.codeWith y bytes maxL ret hh).before args s = true ∧ (Cond.initialized y.cls).before args s = true ∧ (y.cls ≠ "java/lang/invoke/MethodHandle" ∧ y.cls ≠ "java/lang/invoke/VarHandle") ∧
  (∀ sig, parseMethodDescriptor y.desc = some sig → n = sig.parameters.length) ∧ (Cond.methodLink own index y).before args s = true ∧ (Cond.instanceMethod y).before args s = true ∧ (Cond.selects C y y).before args s = true
theorem vx_cwVW {own C : String} {index maxL mc ms : Nat} {y : MethodName} {bytes : ByteArray} {ret : Option FieldType} {hh : List (Nat × Nat × Nat × Nat)} {Ts ws ws' : List Cond} {rm : Room} (n : Nat) (ht : ∀ w ∈ Ts, w.before args s = true) (hT : GoodIn Ts (wsV own index C y ws)) (hw : ws = Cond.codeWith y bytes maxL ret hh :: ws') (hrc : rm.cells = mc) (hrs : rm.slots = ms)
    (hd : y.cls = C ∧ y.cls ≠ "java/lang/invoke/MethodHandle" ∧ y.cls ≠ "java/lang/invoke/VarHandle" ∧ (parseMethodDescriptor y.desc).map (fun d => d.parameters.length) = some n) (hR : rm.frames + 1 ≤ R.frames ∧ 8 + (maxL + 11) + rm.locals ≤ R.locals) :
    vx_CVW R s args own C index y bytes maxL ret hh ws rm mc ms n := by
  obtain ⟨hC, hd⟩ := hd
  subst hC
  have ok : ∀ w ∈ wsV own index y.cls y ws, w.before args s = true := fun w h => ht w (hT w h).1
  have hG : GoodIn Ts ws := fun w h => hT w (by unfold wsV; exact List.mem_append_right _ h)
  have hc : Cond.codeWith y bytes maxL ret hh ∈ ws := by rw [hw]; exact List.mem_cons_self
  refine ⟨⟨hrc, hrs, hR.1, hR.2, pay_in ht hG, hc⟩, ht _ (hG _ hc).1, ok _ (by simp [wsV]), ⟨hd.1, hd.2.1⟩, fun sig h => ?_, ok _ (by simp [wsV]), ok _ (by simp [wsV]), ok _ (by simp [wsV])⟩
  have h2 := hd.2.2
  rw [h] at h2
  exact (Option.some.inj h2).symm
theorem vx_runVW {y : MethodName} {bytes cc : ByteArray} {maxL nL mc ms n index : Nat} {ret : Option FieldType} {hh : List (Nat × Nat × Nat × Nat)} {ws : List Cond} {rm : Room} {Pc : Array Value → State → Prop} {Qc : Array Value → State → Outcome → State → Prop} {free : Addr → Prop} {Ts : List Cond} {own C : String} {b : Addr} {As rest : List Value} {g : JFrame}
    (S : CallFix p m c cc nL s args Ts own) (hM : Met l y ws rm Pc Qc mc ms free) (cw : vx_CVW R s args own C index y bytes maxL ret hh ws rm mc ms n) (hp : PreV s H C b Pc As)
    (hg : g.method = m) (hn : As.length = n) (hsize : g.locals.size = nL) (hstack : g.stack = As.reverse ++ .ref b :: rest) (hW : 2 * g.monitorRoom + (rest.map fun v => v.category).sum ≤ 8) (hdg : decode cc g.pc = .ok (.invokevirtual index, 3)) (hf : cells + mc ≤ R.cells ∧ slots + ms ≤ R.slots) :
    va_Run p l e R s m args below meth c H locs cells slots mc ms g rest (Qc (Value.ref b :: As).toArray) free := by
  obtain ⟨⟨hrc, hrs, hfr, hlo, hws, hcw⟩, hcode, hini, hy, hlen, hl, hin, hse⟩ := cw
  have hK : Back l R p e below s args y 3 8 (PreOf R mc ms Pc) (PostOf Qc mc ms free) := va_backW (hh := hh) (bytes := bytes) (maxL := maxL) (ret := ret) hM hp.1 hrc hrs hfr hlo hws hcw (fun a' U hW => word_at hW (Or.inl (by first | rfl | simp [Cond.onTables, Cond.keeps, Cond.steady])) hini)
  obtain ⟨hx, hb, hml, ho, -⟩ := S
  obtain ⟨-, ⟨cellB, hcB, hoB, hclB⟩, hPc⟩ := hp
  intro T hT X
  obtain ⟨v, vm₁, ⟨U', l2, c2, s2⟩, hW₁, X', ⟨g', mk, t, L, e1, e2, hq, h1, hL, h2, h3⟩, st⟩ := vx_callVW X hx (C := C) (hh := hh) (bytes := bytes) (maxL := maxL) (ret := ret) ho hl hin hse hcode hy hK (by rw [hT]; exact hcB) hoB hclB hg (hsize.trans hml.symm) (argsL := As) (rest := rest) (fun sig h => hn.trans (hlen sig h)) hstack hW (by rw [hb]; exact hdg)
    (fun vm₁ hW₁ => ⟨hf.1, hf.2, hPc (T.setVm vm₁) hT hW₁⟩)
  dsimp only [Pt.U, Pt.locs, Pt.cells, Pt.slots] at X' e1 e2 h1 h2 h3 st
  subst h1; subst h2; subst h3
  exact ⟨v, (T.setVm vm₁).calling g' mk (Value.ref b :: As).toArray, t, U', L, hT, X', hL, e1, e2, hq, st⟩
section
variable {y : MethodName} {bytes cc : ByteArray} {maxL nL mc ms n index : Nat} {ret : Option FieldType} {ws : List Cond} {rm : Room} {Pc : Array Value → State → Prop} {Qc : Array Value → State → Outcome → State → Prop} {XC : String → State → State → Prop} {free : Addr → Prop} {Ts : List Cond} {own C : String} {b : Addr} {As rest : List Value} {g : JFrame}
theorem vx_runVX {hh : List (Nat × Nat × Nat × Nat)} (S : CallFix p m c cc nL s args Ts own) (hM : vx_Met l y ws rm Pc Qc XC mc ms free) (cw : vx_CVW R s args own C index y bytes maxL ret hh ws rm mc ms n) (hp : PreV s H C b Pc As)
    (hg : g.method = m) (hn : As.length = n) (hsize : g.locals.size = nL) (hstack : g.stack = As.reverse ++ .ref b :: rest) (hW : 2 * g.monitorRoom + (rest.map fun v => v.category).sum ≤ 8) (hdg : decode cc g.pc = .ok (.invokevirtual index, 3)) (hf : cells + mc ≤ R.cells ∧ slots + ms ≤ R.slots) :
    vx_Run p l e R s m args below meth c H locs cells slots mc ms g rest (Qc (Value.ref b :: As).toArray) XC free := by
  obtain ⟨⟨hrc, hrs, hfr, hlo, hws, hcw⟩, hcode, hini, hy, hlen, hl, hin, hse⟩ := cw
  have hK : vx_Back l R p e below s args y 3 8 (PreOf R mc ms Pc) (PostOf Qc mc ms free) (vx_Post XC mc ms free) := vx_backW (hh := hh) (bytes := bytes) (maxL := maxL) (ret := ret) hM hp.1 hrc hrs hfr hlo hws hcw (fun a' U hW => word_at hW (Or.inl (by first | rfl | simp [Cond.onTables, Cond.keeps, Cond.steady])) hini)
  obtain ⟨hx, hb, hml, ho, -⟩ := S
  obtain ⟨-, ⟨cellB, hcB, hoB, hclB⟩, hPc⟩ := hp
  intro T hT X
  rcases vx_callVX X hx (C := C) (hh := hh) (bytes := bytes) (maxL := maxL) (ret := ret) ho hl hin hse hcode hy hK (by rw [hT]; exact hcB) hoB hclB hg (hsize.trans hml.symm) (argsL := As) (rest := rest) (fun sig h => hn.trans (hlen sig h)) hstack hW (by rw [hb]; exact hdg)
    (fun vm₁ hW₁ => ⟨hf.1, hf.2, hPc (T.setVm vm₁) hT hW₁⟩) with ⟨v, vm₁, ⟨U', l2, c2, s2⟩, hW₁, X', ⟨g', mk, t, L, e1, e2, hq, h1, hL, h2, h3⟩, st⟩ | ⟨q, vm₁, ⟨U', l2, c2, s2⟩, hW₁, X', ⟨g', mk, t, L, E, ce, e1, e2, hq, hce, hcv, hcl, h1, hL, h2, h3⟩, st⟩
  · dsimp only [Pt.U, Pt.locs, Pt.cells, Pt.slots] at X' e1 e2 h1 h2 h3 st
    subst h1; subst h2; subst h3
    exact Or.inl ⟨v, (T.setVm vm₁).calling g' mk (Value.ref b :: As).toArray, t, U', L, hT, X', hL, e1, e2, hq, st⟩
  · dsimp only [Pt.U, Pt.locs, Pt.cells, Pt.slots] at X' e1 e2 h1 h2 h3 st hcl
    subst h1; subst h2; subst h3
    exact Or.inr ⟨q, (T.setVm vm₁).calling g' mk (Value.ref b :: As).toArray, t, U', L, E, ce, hT, X', hL, e1, e2, hq, hce, hcv, vx_cls hW₁ hcl, st⟩
theorem vx_runSX {hh : List (Nat × Nat × Nat × Nat)} (S : CallFix p m c cc nL s args Ts own) (hM : vx_Met l y ws rm Pc Qc XC mc ms free) (cw : vx_CSW R s args own index y bytes maxL ret hh ws rm mc ms n) (hp : PreS s H Pc As)
    (hg : g.method = m) (hn : As.length = n) (hsize : g.locals.size = nL) (hstack : g.stack = As.reverse ++ rest) (hW : 2 * g.monitorRoom + (rest.map fun v => v.category).sum ≤ 8) (hdg : decode cc g.pc = .ok (.invokestatic index, 3)) (hf : cells + mc ≤ R.cells ∧ slots + ms ≤ R.slots) :
    vx_Run p l e R s m args below meth c H locs cells slots mc ms g rest (Qc As.toArray) XC free := by
  obtain ⟨⟨hrc, hrs, hfr, hlo, hws, hcw⟩, hcode, hini, hy, hlen, hl, hstt⟩ := cw
  have hK : vx_Back l R p e below s args y 3 8 (PreOf R mc ms Pc) (PostOf Qc mc ms free) (vx_Post XC mc ms free) := vx_backW (hh := hh) (bytes := bytes) (maxL := maxL) (ret := ret) hM hp.1 hrc hrs hfr hlo hws hcw (fun a' U hW => word_at hW (Or.inl (by first | rfl | simp [Cond.onTables, Cond.keeps, Cond.steady])) hini)
  obtain ⟨hx, hb, hml, ho, -⟩ := S
  intro T hT X
  rcases vx_callSX X hx (hh := hh) (bytes := bytes) (maxL := maxL) (ret := ret) ho hl hstt hini hcode hy hK hg (hsize.trans hml.symm) (argsL := As) (rest := rest) (fun sig h => hn.trans (hlen sig h)) hstack hW (by rw [hb]; exact hdg)
    (fun vm₁ hW₁ => ⟨hf.1, hf.2, hp.2 (T.setVm vm₁) hT hW₁⟩) with ⟨v, vm₁, ⟨U', l2, c2, s2⟩, hW₁, X', ⟨g', mk, t, L, e1, e2, hq, h1, hL, h2, h3⟩, st⟩ | ⟨q, vm₁, ⟨U', l2, c2, s2⟩, hW₁, X', ⟨g', mk, t, L, E, ce, e1, e2, hq, hce, hcv, hcl, h1, hL, h2, h3⟩, st⟩
  · dsimp only [Pt.U, Pt.locs, Pt.cells, Pt.slots] at X' e1 e2 h1 h2 h3 st
    subst h1; subst h2; subst h3
    exact Or.inl ⟨v, (T.setVm vm₁).calling g' mk As.toArray, t, U', L, hT, X', hL, e1, e2, hq, st⟩
  · dsimp only [Pt.U, Pt.locs, Pt.cells, Pt.slots] at X' e1 e2 h1 h2 h3 st hcl
    subst h1; subst h2; subst h3
    exact Or.inr ⟨q, (T.setVm vm₁).calling g' mk As.toArray, t, U', L, E, ce, hT, X', hL, e1, e2, hq, hce, hcv, vx_cls hW₁ hcl, st⟩
end
end VXH
theorem vx_ofWH {l : Launch} {y : MethodName} {ws ws' : List Cond} {rm : Room} {Pc : Array Value → State → Prop} {Qc : Array Value → State → Outcome → State → Prop} {XC : String → State → State → Prop} {mc ms : Nat} {free : Addr → Prop} {cc : ByteArray} {maxL : Nat} {ret : Option FieldType} {hh : List (Nat × Nat × Nat × Nat)}
    (hy : plainName y.cls = true) (hw : ws = Cond.codeWith y cc maxL ret hh :: ws')
    (body : ∀ p e s m args below meth c s₁, BodyLoose p l y (headSpec ws rm) cc maxL ret e s m args below meth c s₁ → c.maxLocals = maxL → Pc args s →
      W p l e (headSpec ws rm).room s m args below meth c s.heap [] 0 0 (vx_MQ below Qc XC args s mc ms free) (entryFrame m args maxL)) : vx_Met l y ws rm Pc Qc XC mc ms free := by
  refine MetFree.of_bodyS (code := cc) (maxLocals := maxL) (ret := ret) hy ?_ ?_
  · intro args s m h hn
    obtain ⟨m9, meth, c, hn9, h1, h2, h3, h4, -, h5, h6, -⟩ := Cond.codeWith_spec (atoms_spec (ws := ws) h _ (by rw [hw]; exact List.mem_cons_self))
    cases hn.symm.trans hn9
    exact ⟨meth, c, h1, h2, h3, h4, h5, h6⟩
  · intro p e s m args below meth c s₁ B hml hP _
    have hh0 : s₁.heap = s.heap := by rw [B.state]; rfl
    obtain ⟨t, a1, o, b1, b2, b3⟩ := body p e s m args below meth c s₁ B hml hP s₁ hh0 (Stand.of_body B)
    exact ⟨t, o, a1, b1, b2, b3⟩
/-! ===== END ===== -/
end
section
/-! ===== BEGIN printed: names, fields, word lists, decode rows ===== -/
def RX0 : String := "LoopDiagram$Diagram"
def TX0 : u_T := fun k => match k with
  | 0 => ("LoopDiagram$Diagram", "grid", "LLoopDiagram$Grid;", true)
  | 1 => ("LoopDiagram$Diagram", "first", "[I", true)
  | 2 => ("LoopDiagram$Diagram", "size", "I", false)
  | 3 => ("LoopDiagram$Diagram", "states", "[I", true)
  | 4 => ("LoopDiagram$Diagram", "low", "[I", true)
  | 5 => ("LoopDiagram$Diagram", "high", "[I", true)
  | 6 => ("LoopDiagram$Diagram", "ways", "[I", true)
  | _ => ("LoopDiagram$Diagram", "someWays", "[I", true)
def tyX0 : Nat → FieldType := fun k => match k with
  | 0 => .object "LoopDiagram$Grid"
  | 1 => .array .int
  | 2 => .int
  | 3 => .array .int
  | 4 => .array .int
  | 5 => .array .int
  | 6 => .array .int
  | _ => .array .int
abbrev wsX00 : List Cond := u_ws RX0 TX0 8
theorem nmX0 : ∀ a, a < 8 → ∀ b, b < 8 → a ≠ b → (TX0 a).2.1 ≠ (TX0 b).2.1 := by decide +kernel
theorem tyX0_ok : ∀ k, k < 8 → parseFieldDescriptor (TX0 k).2.2.1 = some (tyX0 k) := by decide +kernel
abbrev cX0_init : ByteArray := prog_2_method_1_code
def yX0_init : MethodName := ⟨RX0, "<init>", "(LLoopDiagram$Grid;)V"⟩
abbrev cX0_grow : ByteArray := prog_2_method_2_code
def yX0_grow : MethodName := ⟨RX0, "grow", "()V"⟩
abbrev cX0_usefulAt : ByteArray := prog_2_method_3_code
def yX0_usefulAt : MethodName := ⟨RX0, "usefulAt", "(I)I"⟩
abbrev cX0_solutionsWith : ByteArray := prog_2_method_4_code
def yX0_solutionsWith : MethodName := ⟨RX0, "solutionsWith", "(I)I"⟩
abbrev cX0_solution : ByteArray := prog_2_method_5_code
def yX0_solution : MethodName := ⟨RX0, "solution", "(I)I"⟩
abbrev cX0_rankOf : ByteArray := prog_2_method_6_code
def yX0_rankOf : MethodName := ⟨RX0, "rankOf", "(I)I"⟩
abbrev cX0_aliveEdges : ByteArray := prog_2_method_7_code
def yX0_aliveEdges : MethodName := ⟨RX0, "aliveEdges", "(I)I"⟩
abbrev cX0_nodeAfter : ByteArray := prog_2_method_8_code
def yX0_nodeAfter : MethodName := ⟨RX0, "nodeAfter", "(IIZ)I"⟩
abbrev cX0_fillWays : ByteArray := prog_2_method_9_code
def yX0_fillWays : MethodName := ⟨RX0, "fillWays", "([II)V"⟩
abbrev cX0_waysOf : ByteArray := prog_2_method_10_code
def yX0_waysOf : MethodName := ⟨RX0, "waysOf", "([II)I"⟩
def RX1 : String := "LoopDiagram$Grid"
def TX1 : u_T := fun k => match k with
  | 0 => ("LoopDiagram$Grid", "rows", "I", true)
  | 1 => ("LoopDiagram$Grid", "columns", "I", true)
  | 2 => ("LoopDiagram$Grid", "edges", "I", true)
  | 3 => ("LoopDiagram$Grid", "row", "[I", true)
  | 4 => ("LoopDiagram$Grid", "column", "[I", true)
  | 5 => ("LoopDiagram$Grid", "goesDown", "[Z", true)
  | _ => ("LoopDiagram$Grid", "clues", "[I", true)
def tyX1 : Nat → FieldType := fun k => match k with
  | 0 => .int
  | 1 => .int
  | 2 => .int
  | 3 => .array .int
  | 4 => .array .int
  | 5 => .array .boolean
  | _ => .array .int
abbrev wsX10 : List Cond := u_ws RX1 TX1 7
theorem nmX1 : ∀ a, a < 7 → ∀ b, b < 7 → a ≠ b → (TX1 a).2.1 ≠ (TX1 b).2.1 := by decide +kernel
theorem tyX1_ok : ∀ k, k < 7 → parseFieldDescriptor (TX1 k).2.2.1 = some (tyX1 k) := by decide +kernel
abbrev cX1_init : ByteArray := prog_3_method_1_code
def yX1_init : MethodName := ⟨RX1, "<init>", "(II)V"⟩
abbrev cX1_pointsAfter : ByteArray := prog_3_method_2_code
def yX1_pointsAfter : MethodName := ⟨RX1, "pointsAfter", "(IIZ)I"⟩
abbrev cX1_cluesAfter : ByteArray := prog_3_method_3_code
def yX1_cluesAfter : MethodName := ⟨RX1, "cluesAfter", "(IIZ)I"⟩
abbrev cX1_downAfter : ByteArray := prog_3_method_4_code
def yX1_downAfter : MethodName := ⟨RX1, "downAfter", "(IIZ)I"⟩
abbrev cX1_joined : ByteArray := prog_3_method_5_code
def yX1_joined : MethodName := ⟨RX1, "joined", "(II)I"⟩
abbrev cX1_ended : ByteArray := prog_3_method_6_code
def yX1_ended : MethodName := ⟨RX1, "ended", "(II)I"⟩
abbrev cX1_sideAfter : ByteArray := prog_3_method_7_code
def yX1_sideAfter : MethodName := ⟨RX1, "sideAfter", "(IIIZZ)I"⟩
abbrev cX1_isPathEnd : ByteArray := prog_3_method_8_code
def yX1_isPathEnd : MethodName := ⟨RX1, "isPathEnd", "(II)Z"⟩
abbrev cX1_slot : ByteArray := prog_3_method_9_code
def yX1_slot : MethodName := ⟨RX1, "slot", "(II)I"⟩
abbrev cX1_put : ByteArray := prog_3_method_10_code
def yX1_put : MethodName := ⟨RX1, "put", "(III)I"⟩
def RX2 : String := "LoopDiagram"
def TX2 : u_T := fun k => match k with
  | 0 => ("LoopDiagram", "grid", "LLoopDiagram$Grid;", true)
  | 1 => ("LoopDiagram", "diagram", "LLoopDiagram$Diagram;", true)
  | 2 => ("LoopDiagram", "drawing", "I", false)
  | _ => ("LoopDiagram", "stale", "Z", false)
def tyX2 : Nat → FieldType := fun k => match k with
  | 0 => .object "LoopDiagram$Grid"
  | 1 => .object "LoopDiagram$Diagram"
  | 2 => .int
  | _ => .boolean
abbrev wsX20 : List Cond := u_ws RX2 TX2 4
theorem nmX2 : ∀ a, a < 4 → ∀ b, b < 4 → a ≠ b → (TX2 a).2.1 ≠ (TX2 b).2.1 := by decide +kernel
theorem tyX2_ok : ∀ k, k < 4 → parseFieldDescriptor (TX2 k).2.2.1 = some (tyX2 k) := by decide +kernel
abbrev cX2_init : ByteArray := prog_1_method_1_code
def yX2_init : MethodName := ⟨RX2, "<init>", "(II)V"⟩
abbrev cX2_edges : ByteArray := prog_1_method_2_code
def yX2_edges : MethodName := ⟨RX2, "edges", "()I"⟩
abbrev cX2_point : ByteArray := prog_1_method_3_code
def yX2_point : MethodName := ⟨RX2, "point", "(IZ)I"⟩
abbrev cX2_clue : ByteArray := prog_1_method_4_code
def yX2_clue : MethodName := ⟨RX2, "clue", "(III)V"⟩
abbrev cX2_count : ByteArray := prog_1_method_5_code
def yX2_count : MethodName := ⟨RX2, "count", "()I"⟩
abbrev cX2_width : ByteArray := prog_1_method_6_code
def yX2_width : MethodName := ⟨RX2, "width", "(IZ)I"⟩
abbrev cX2_nodes : ByteArray := prog_1_method_7_code
def yX2_nodes : MethodName := ⟨RX2, "nodes", "()I"⟩
abbrev cX2_has : ByteArray := prog_1_method_8_code
def yX2_has : MethodName := ⟨RX2, "has", "(II)Z"⟩
abbrev cX2_length : ByteArray := prog_1_method_9_code
def yX2_length : MethodName := ⟨RX2, "length", "(I)I"⟩
abbrev cX2_often : ByteArray := prog_1_method_10_code
def yX2_often : MethodName := ⟨RX2, "often", "(I)I"⟩
abbrev cX2_draw : ByteArray := prog_1_method_11_code
def yX2_draw : MethodName := ⟨RX2, "draw", "(I)Z"⟩
abbrev cX2_copy : ByteArray := prog_1_method_12_code
def yX2_copy : MethodName := ⟨RX2, "copy", "(I)V"⟩
abbrev cX2_drawn : ByteArray := prog_1_method_13_code
def yX2_drawn : MethodName := ⟨RX2, "drawn", "()I"⟩
abbrev cX2_isLoop : ByteArray := prog_1_method_14_code
def yX2_isLoop : MethodName := ⟨RX2, "isLoop", "()Z"⟩
abbrev cX2_rank : ByteArray := prog_1_method_15_code
def yX2_rank : MethodName := ⟨RX2, "rank", "()I"⟩
abbrev cX2_above : ByteArray := prog_1_method_16_code
def yX2_above : MethodName := ⟨RX2, "above", "()I"⟩
abbrev cX2_alive : ByteArray := prog_1_method_17_code
def yX2_alive : MethodName := ⟨RX2, "alive", "()I"⟩
abbrev cX2_spare : ByteArray := prog_1_method_18_code
def yX2_spare : MethodName := ⟨RX2, "spare", "()I"⟩
abbrev cX2_clueOf : ByteArray := prog_1_method_19_code
def yX2_clueOf : MethodName := ⟨RX2, "clueOf", "(II)I"⟩
abbrev cX2_isNoEdge : ByteArray := prog_1_method_20_code
def yX2_isNoEdge : MethodName := ⟨RX2, "isNoEdge", "(I)Z"⟩
abbrev cX2_isNoCell : ByteArray := prog_1_method_21_code
def yX2_isNoCell : MethodName := ⟨RX2, "isNoCell", "(II)Z"⟩
abbrev cX2_setClue : ByteArray := prog_1_method_22_code
def yX2_setClue : MethodName := ⟨RX2, "setClue", "(II)V"⟩
abbrev cX2_fresh : ByteArray := prog_1_method_23_code
def yX2_fresh : MethodName := ⟨RX2, "fresh", "()LLoopDiagram$Diagram;"⟩
abbrev cX2_hasBit : ByteArray := prog_1_method_24_code
def yX2_hasBit : MethodName := ⟨RX2, "hasBit", "(II)Z"⟩
def RX3 : String := "LoopDiagramModel"
def TX3 : u_T := fun k => match k with
  | 0 => ("LoopDiagramModel", "thrown", "I", false)
  | 1 => ("LoopDiagramModel", "rows", "I", false)
  | 2 => ("LoopDiagramModel", "columns", "I", false)
  | 3 => ("LoopDiagramModel", "points", "I", false)
  | 4 => ("LoopDiagramModel", "count", "I", false)
  | 5 => ("LoopDiagramModel", "low", "[I", true)
  | 6 => ("LoopDiagramModel", "high", "[I", true)
  | 7 => ("LoopDiagramModel", "one", "[I", true)
  | 8 => ("LoopDiagramModel", "other", "[I", true)
  | 9 => ("LoopDiagramModel", "ends", "[I", true)
  | 10 => ("LoopDiagramModel", "first", "[I", true)
  | 11 => ("LoopDiagramModel", "last", "[I", true)
  | 12 => ("LoopDiagramModel", "cellFirst", "[I", true)
  | 13 => ("LoopDiagramModel", "cellLast", "[I", true)
  | 14 => ("LoopDiagramModel", "loops", "I", false)
  | 15 => ("LoopDiagramModel", "loop", "[I", true)
  | 16 => ("LoopDiagramModel", "clues", "[I", true)
  | 17 => ("LoopDiagramModel", "known", "Z", false)
  | 18 => ("LoopDiagramModel", "solutions", "I", false)
  | 19 => ("LoopDiagramModel", "solution", "[I", true)
  | 20 => ("LoopDiagramModel", "measured", "Z", false)
  | 21 => ("LoopDiagramModel", "wide", "[I", true)
  | 22 => ("LoopDiagramModel", "useful", "[I", true)
  | 23 => ("LoopDiagramModel", "held", "I", false)
  | 24 => ("LoopDiagramModel", "hold", "[I", true)
  | 25 => ("LoopDiagramModel", "next", "I", false)
  | 26 => ("LoopDiagramModel", "nextHold", "[I", true)
  | 27 => ("LoopDiagramModel", "keys", "[J", true)
  | 28 => ("LoopDiagramModel", "table", "[I", true)
  | 29 => ("LoopDiagramModel", "drawing", "I", false)
  | 30 => ("LoopDiagramModel", "degree", "[I", true)
  | _ => ("LoopDiagramModel", "seen", "[Z", true)
def tyX3 : Nat → FieldType := fun k => match k with
  | 0 => .int
  | 1 => .int
  | 2 => .int
  | 3 => .int
  | 4 => .int
  | 5 => .array .int
  | 6 => .array .int
  | 7 => .array .int
  | 8 => .array .int
  | 9 => .array .int
  | 10 => .array .int
  | 11 => .array .int
  | 12 => .array .int
  | 13 => .array .int
  | 14 => .int
  | 15 => .array .int
  | 16 => .array .int
  | 17 => .boolean
  | 18 => .int
  | 19 => .array .int
  | 20 => .boolean
  | 21 => .array .int
  | 22 => .array .int
  | 23 => .int
  | 24 => .array .int
  | 25 => .int
  | 26 => .array .int
  | 27 => .array .long
  | 28 => .array .int
  | 29 => .int
  | 30 => .array .int
  | _ => .array .boolean
abbrev wsX30 : List Cond := u_ws RX3 TX3 32
theorem nmX3 : ∀ a, a < 32 → ∀ b, b < 32 → a ≠ b → (TX3 a).2.1 ≠ (TX3 b).2.1 := by decide +kernel
theorem tyX3_ok : ∀ k, k < 32 → parseFieldDescriptor (TX3 k).2.2.1 = some (tyX3 k) := by decide +kernel
abbrev cX3_init : ByteArray := prog_5_method_1_code
def yX3_init : MethodName := ⟨RX3, "<init>", "(II)V"⟩
abbrev cX3_cell : ByteArray := prog_5_method_2_code
def yX3_cell : MethodName := ⟨RX3, "cell", "(II)I"⟩
abbrev cX3_meet : ByteArray := prog_5_method_3_code
def yX3_meet : MethodName := ⟨RX3, "meet", "(II)V"⟩
abbrev cX3_border : ByteArray := prog_5_method_4_code
def yX3_border : MethodName := ⟨RX3, "border", "(II)V"⟩
abbrev cX3_join : ByteArray := prog_5_method_5_code
def yX3_join : MethodName := ⟨RX3, "join", "(IIII)V"⟩
abbrev cX3_thrown : ByteArray := prog_5_method_6_code
def yX3_thrown : MethodName := ⟨RX3, "thrown", "()I"⟩
abbrev cX3_fail : ByteArray := prog_5_method_7_code
def yX3_fail : MethodName := ⟨RX3, "fail", "(I)I"⟩
abbrev cX3_isIn : ByteArray := prog_5_method_8_code
def yX3_isIn : MethodName := ⟨RX3, "isIn", "(II)Z"⟩
abbrev cX3_bit : ByteArray := prog_5_method_9_code
def yX3_bit : MethodName := ⟨RX3, "bit", "(I)I"⟩
abbrev cX3_size : ByteArray := prog_5_method_10_code
def yX3_size : MethodName := ⟨RX3, "size", "(I)I"⟩
abbrev cX3_measure : ByteArray := prog_5_method_11_code
def yX3_measure : MethodName := ⟨RX3, "measure", "(I)V"⟩
abbrev cX3_onward : ByteArray := prog_5_method_12_code
def yX3_onward : MethodName := ⟨RX3, "onward", "(III)I"⟩
abbrev cX3_walk : ByteArray := prog_5_method_13_code
def yX3_walk : MethodName := ⟨RX3, "walk", "(II)I"⟩
abbrev cX3_isThin : ByteArray := prog_5_method_14_code
def yX3_isThin : MethodName := ⟨RX3, "isThin", "()Z"⟩
abbrev cX3_unseen : ByteArray := prog_5_method_15_code
def yX3_unseen : MethodName := ⟨RX3, "unseen", "()I"⟩
abbrev cX3_hasEnds : ByteArray := prog_5_method_16_code
def yX3_hasEnds : MethodName := ⟨RX3, "hasEnds", "()Z"⟩
abbrev cX3_isRing : ByteArray := prog_5_method_17_code
def yX3_isRing : MethodName := ⟨RX3, "isRing", "(I)Z"⟩
abbrev cX3_isLoopSet : ByteArray := prog_5_method_18_code
def yX3_isLoopSet : MethodName := ⟨RX3, "isLoopSet", "(I)Z"⟩
abbrev cX3_borderOf : ByteArray := prog_5_method_19_code
def yX3_borderOf : MethodName := ⟨RX3, "borderOf", "(I)I"⟩
abbrev cX3_findLoops : ByteArray := prog_5_method_20_code
def yX3_findLoops : MethodName := ⟨RX3, "findLoops", "()V"⟩
abbrev cX3_sides : ByteArray := prog_5_method_21_code
def yX3_sides : MethodName := ⟨RX3, "sides", "(II)I"⟩
abbrev cX3_keepsClues : ByteArray := prog_5_method_22_code
def yX3_keepsClues : MethodName := ⟨RX3, "keepsClues", "(I)Z"⟩
abbrev cX3_find : ByteArray := prog_5_method_23_code
def yX3_find : MethodName := ⟨RX3, "find", "()V"⟩
abbrev cX3_isCellAlive : ByteArray := prog_5_method_24_code
def yX3_isCellAlive : MethodName := ⟨RX3, "isCellAlive", "(III)Z"⟩
abbrev cX3_isAlive : ByteArray := prog_5_method_25_code
def yX3_isAlive : MethodName := ⟨RX3, "isAlive", "(II)Z"⟩
abbrev cX3_trace : ByteArray := prog_5_method_26_code
def yX3_trace : MethodName := ⟨RX3, "trace", "(II)J"⟩
abbrev cX3_offer : ByteArray := prog_5_method_27_code
def yX3_offer : MethodName := ⟨RX3, "offer", "(II)V"⟩
abbrev cX3_wipe : ByteArray := prog_5_method_28_code
def yX3_wipe : MethodName := ⟨RX3, "wipe", "()V"⟩
abbrev cX3_isUseful : ByteArray := prog_5_method_29_code
def yX3_isUseful : MethodName := ⟨RX3, "isUseful", "(II)Z"⟩
abbrev cX3_measureLevels : ByteArray := prog_5_method_30_code
def yX3_measureLevels : MethodName := ⟨RX3, "measureLevels", "()V"⟩
abbrev cX3_edges : ByteArray := prog_5_method_31_code
def yX3_edges : MethodName := ⟨RX3, "edges", "()I"⟩
abbrev cX3_isEdge : ByteArray := prog_5_method_32_code
def yX3_isEdge : MethodName := ⟨RX3, "isEdge", "(I)Z"⟩
abbrev cX3_point : ByteArray := prog_5_method_33_code
def yX3_point : MethodName := ⟨RX3, "point", "(IZ)I"⟩
abbrev cX3_clue : ByteArray := prog_5_method_34_code
def yX3_clue : MethodName := ⟨RX3, "clue", "(III)V"⟩
abbrev cX3_clueOf : ByteArray := prog_5_method_35_code
def yX3_clueOf : MethodName := ⟨RX3, "clueOf", "(II)I"⟩
abbrev cX3_count : ByteArray := prog_5_method_36_code
def yX3_count : MethodName := ⟨RX3, "count", "()I"⟩
abbrev cX3_width : ByteArray := prog_5_method_37_code
def yX3_width : MethodName := ⟨RX3, "width", "(IZ)I"⟩
abbrev cX3_nodes : ByteArray := prog_5_method_38_code
def yX3_nodes : MethodName := ⟨RX3, "nodes", "()I"⟩
abbrev cX3_isSolution : ByteArray := prog_5_method_39_code
def yX3_isSolution : MethodName := ⟨RX3, "isSolution", "(I)Z"⟩
abbrev cX3_has : ByteArray := prog_5_method_40_code
def yX3_has : MethodName := ⟨RX3, "has", "(II)Z"⟩
abbrev cX3_length : ByteArray := prog_5_method_41_code
def yX3_length : MethodName := ⟨RX3, "length", "(I)I"⟩
abbrev cX3_often : ByteArray := prog_5_method_42_code
def yX3_often : MethodName := ⟨RX3, "often", "(I)I"⟩
abbrev cX3_withAll : ByteArray := prog_5_method_43_code
def yX3_withAll : MethodName := ⟨RX3, "withAll", "(I)I"⟩
abbrev cX3_draw : ByteArray := prog_5_method_44_code
def yX3_draw : MethodName := ⟨RX3, "draw", "(I)Z"⟩
abbrev cX3_copy : ByteArray := prog_5_method_45_code
def yX3_copy : MethodName := ⟨RX3, "copy", "(I)V"⟩
abbrev cX3_drawn : ByteArray := prog_5_method_46_code
def yX3_drawn : MethodName := ⟨RX3, "drawn", "()I"⟩
abbrev cX3_isLoop : ByteArray := prog_5_method_47_code
def yX3_isLoop : MethodName := ⟨RX3, "isLoop", "()Z"⟩
abbrev cX3_rank : ByteArray := prog_5_method_48_code
def yX3_rank : MethodName := ⟨RX3, "rank", "()I"⟩
abbrev cX3_above : ByteArray := prog_5_method_49_code
def yX3_above : MethodName := ⟨RX3, "above", "()I"⟩
abbrev cX3_alive : ByteArray := prog_5_method_50_code
def yX3_alive : MethodName := ⟨RX3, "alive", "()I"⟩
abbrev cX3_spare : ByteArray := prog_5_method_51_code
def yX3_spare : MethodName := ⟨RX3, "spare", "()I"⟩
def RJx145de : String := "java/io/Serializable"
def TJx145de : u_T := fun k => match k with
  | _ => ("", "", "", false)
def tyJx145de : Nat → FieldType := fun k => match k with
  | _ => .int
abbrev wsJx145de0 : List Cond := u_ws RJx145de TJx145de 0
theorem nmJx145de : ∀ a, a < 0 → ∀ b, b < 0 → a ≠ b → (TJx145de a).2.1 ≠ (TJx145de b).2.1 := by decide +kernel
theorem tyJx145de_ok : ∀ k, k < 0 → parseFieldDescriptor (TJx145de k).2.2.1 = some (tyJx145de k) := by decide +kernel
def RJ6 : String := "java/lang/Integer"
def TJ6 : u_T := fun k => match k with
  | _ => ("", "", "", false)
def tyJ6 : Nat → FieldType := fun k => match k with
  | _ => .int
abbrev wsJ60 : List Cond := u_ws RJ6 TJ6 0
theorem nmJ6 : ∀ a, a < 0 → ∀ b, b < 0 → a ≠ b → (TJ6 a).2.1 ≠ (TJ6 b).2.1 := by decide +kernel
theorem tyJ6_ok : ∀ k, k < 0 → parseFieldDescriptor (TJ6 k).2.2.1 = some (tyJ6 k) := by decide +kernel
abbrev cJ6_bitCount_0f7a4 : ByteArray := prog_11_method_49_code
def yJ6_bitCount_0f7a4 : MethodName := ⟨RJ6, "bitCount", "(I)I"⟩
def RL : String := "LoopDiagramLaw"
abbrev cL_cell : ByteArray := method_2_code
def yL_cell : MethodName := ⟨RL, "cell", "([II)I"⟩
abbrev cL_point : ByteArray := method_3_code
def yL_point : MethodName := ⟨RL, "point", "(LLoopDiagram;IZ[J)I"⟩
abbrev cL_clue : ByteArray := method_4_code
def yL_clue : MethodName := ⟨RL, "clue", "(LLoopDiagram;III)I"⟩
abbrev cL_width : ByteArray := method_5_code
def yL_width : MethodName := ⟨RL, "width", "(LLoopDiagram;IZ[J)I"⟩
abbrev cL_has : ByteArray := method_6_code
def yL_has : MethodName := ⟨RL, "has", "(LLoopDiagram;II[J)I"⟩
abbrev cL_length : ByteArray := method_7_code
def yL_length : MethodName := ⟨RL, "length", "(LLoopDiagram;I[J)I"⟩
abbrev cL_often : ByteArray := method_8_code
def yL_often : MethodName := ⟨RL, "often", "(LLoopDiagram;I[J)I"⟩
abbrev cL_draw : ByteArray := method_9_code
def yL_draw : MethodName := ⟨RL, "draw", "(LLoopDiagram;I[J)I"⟩
abbrev cL_copy : ByteArray := method_10_code
def yL_copy : MethodName := ⟨RL, "copy", "(LLoopDiagram;I)I"⟩
abbrev cL_rank : ByteArray := method_11_code
def yL_rank : MethodName := ⟨RL, "rank", "(LLoopDiagram;[J)I"⟩
abbrev cL_spare : ByteArray := method_12_code
def yL_spare : MethodName := ⟨RL, "spare", "(LLoopDiagram;[J)I"⟩
abbrev cL_clueOf : ByteArray := method_13_code
def yL_clueOf : MethodName := ⟨RL, "clueOf", "(LLoopDiagram;II[J)I"⟩
abbrev cL_law : ByteArray := code
def yL_law : MethodName := ⟨RL, "law", "([I)Z"⟩
abbrev vwCl : List vw_C := [(RX0, TX0, 8), (RX1, TX1, 7), (RX2, TX2, 4), (RX3, TX3, 32)]
end
section
/-- all words of the tables that a callee may lean on -/
def aL : List Cond := lw_tbl.filter goodWord
theorem aL_in {w : Cond} (h : w ∈ lw_tbl) (g : goodWord w = true) : w ∈ aL := List.mem_filter.mpr ⟨h, g⟩
theorem aL_tbl {w : Cond} (h : w ∈ aL) : w ∈ lw_tbl := (List.mem_filter.mp h).1
theorem aL_good {w : Cond} (h : w ∈ aL) : (w.onTables && w.keeps) = true ∨ ∃ ty, w = .arrayClass ty := good_of_word (List.mem_filter.mp h).2
theorem tb_1 {w : Cond} (h : w ∈ tables_1_1) : w ∈ lw_tbl := List.mem_append_right _ (List.mem_append_left _ h)
theorem tb_2 {w : Cond} (h : w ∈ tables_1_2) : w ∈ lw_tbl := List.mem_append_right _ (List.mem_append_right _ (List.mem_append_left _ h))
theorem tb_3 {w : Cond} (h : w ∈ tables_1_3) : w ∈ lw_tbl := List.mem_append_right _ (List.mem_append_right _ (List.mem_append_right _ (List.mem_append_left _ h)))
theorem tb_4 {w : Cond} (h : w ∈ tables_1_4) : w ∈ lw_tbl := List.mem_append_right _ (List.mem_append_right _ (List.mem_append_right _ (List.mem_append_right _ h)))
theorem mw1_0 : Cond.initialized RL ∈ aL := aL_in (tb_1 (List.mem_of_getElem? (i := 0) rfl)) rfl
theorem mw1_1 : Cond.initialized RX2 ∈ aL := aL_in (tb_1 (List.mem_of_getElem? (i := 1) rfl)) rfl
theorem mw1_2 : Cond.initialized RX1 ∈ aL := aL_in (tb_1 (List.mem_of_getElem? (i := 2) rfl)) rfl
theorem mw1_3 : Cond.initialized RX0 ∈ aL := aL_in (tb_1 (List.mem_of_getElem? (i := 3) rfl)) rfl
theorem mw1_4 : Cond.initialized RX3 ∈ aL := aL_in (tb_1 (List.mem_of_getElem? (i := 4) rfl)) rfl
theorem mw1_5 : Cond.initialized "java/lang/Throwable" ∈ aL := aL_in (tb_1 (List.mem_of_getElem? (i := 5) rfl)) rfl
theorem mw1_6 : Cond.initialized "java/lang/Exception" ∈ aL := aL_in (tb_1 (List.mem_of_getElem? (i := 6) rfl)) rfl
theorem mw1_7 : Cond.initialized "java/lang/RuntimeException" ∈ aL := aL_in (tb_1 (List.mem_of_getElem? (i := 7) rfl)) rfl
theorem mw1_8 : Cond.initialized "java/lang/IndexOutOfBoundsException" ∈ aL := aL_in (tb_1 (List.mem_of_getElem? (i := 8) rfl)) rfl
theorem mw1_9 : Cond.initialized "java/lang/IllegalArgumentException" ∈ aL := aL_in (tb_1 (List.mem_of_getElem? (i := 9) rfl)) rfl
theorem mw1_10 : Cond.initialized "java/util/NoSuchElementException" ∈ aL := aL_in (tb_1 (List.mem_of_getElem? (i := 10) rfl)) rfl
theorem mw1_11 : Cond.initialized RJ6 ∈ aL := aL_in (tb_1 (List.mem_of_getElem? (i := 11) rfl)) rfl
theorem mw1_12 : Cond.initialized "java/lang/IllegalStateException" ∈ aL := aL_in (tb_1 (List.mem_of_getElem? (i := 12) rfl)) rfl
theorem mw1_13 : Cond.classLink RL 8 RX2 ∈ aL := aL_in (tb_1 (List.mem_of_getElem? (i := 13) rfl)) rfl
theorem mw1_14 : Cond.instantiable RX2 4 ∈ aL := aL_in (tb_1 (List.mem_of_getElem? (i := 14) rfl)) rfl
theorem mw1_15 : Cond.methodLink RL 64 yX2_init ∈ aL := aL_in (tb_1 (List.mem_of_getElem? (i := 15) rfl)) rfl
theorem mw1_16 : Cond.instanceMethod yX2_init ∈ aL := aL_in (tb_1 (List.mem_of_getElem? (i := 16) rfl)) rfl
theorem mw1_17 : Cond.code yX2_init cX2_init 5 none ∈ aL := aL_in (tb_1 (List.mem_of_getElem? (i := 17) rfl)) rfl
theorem mw1_18 : Cond.methodLink RX2 1 (⟨"java/lang/Object", "<init>", "()V"⟩ : MethodName) ∈ aL := aL_in (tb_1 (List.mem_of_getElem? (i := 18) rfl)) rfl
theorem mw1_19 : Cond.instanceMethod (⟨"java/lang/Object", "<init>", "()V"⟩ : MethodName) ∈ aL := aL_in (tb_1 (List.mem_of_getElem? (i := 19) rfl)) rfl
theorem mw1_20 : Cond.code (⟨"java/lang/Object", "<init>", "()V"⟩ : MethodName) object_method_1_code 1 none ∈ aL := aL_in (tb_1 (List.mem_of_getElem? (i := 20) rfl)) rfl
theorem mw1_21 : Cond.classLink RX2 9 RX1 ∈ aL := aL_in (tb_1 (List.mem_of_getElem? (i := 21) rfl)) rfl
theorem mw1_22 : Cond.instantiable RX1 7 ∈ aL := aL_in (tb_1 (List.mem_of_getElem? (i := 22) rfl)) rfl
theorem mw1_23 : Cond.methodLink RX2 11 yX1_init ∈ aL := aL_in (tb_1 (List.mem_of_getElem? (i := 23) rfl)) rfl
theorem mw1_24 : Cond.instanceMethod yX1_init ∈ aL := aL_in (tb_1 (List.mem_of_getElem? (i := 24) rfl)) rfl
theorem mw1_25 : Cond.code yX1_init cX1_init 6 none ∈ aL := aL_in (tb_1 (List.mem_of_getElem? (i := 25) rfl)) rfl
theorem mw1_26 : Cond.methodLink RX1 5 (⟨"java/lang/Object", "<init>", "()V"⟩ : MethodName) ∈ aL := aL_in (tb_1 (List.mem_of_getElem? (i := 26) rfl)) rfl
theorem mw1_27 : Cond.fieldLink RX1 11 "LoopDiagram$Grid" "rows" "I" ∈ aL := aL_in (tb_1 (List.mem_of_getElem? (i := 27) rfl)) rfl
theorem mw1_28 : Cond.fieldLink RX2 119 "LoopDiagram$Grid" "rows" "I" ∈ aL := aL_in (tb_1 (List.mem_of_getElem? (i := 28) rfl)) rfl
theorem mw1_29 : Cond.fieldLink RX1 15 "LoopDiagram$Grid" "columns" "I" ∈ aL := aL_in (tb_1 (List.mem_of_getElem? (i := 29) rfl)) rfl
theorem mw1_30 : Cond.fieldLink RX2 49 "LoopDiagram$Grid" "columns" "I" ∈ aL := aL_in (tb_1 (List.mem_of_getElem? (i := 30) rfl)) rfl
theorem mw1_31 : Cond.fieldLink RX0 15 "LoopDiagram$Grid" "edges" "I" ∈ aL := aL_in (tb_1 (List.mem_of_getElem? (i := 31) rfl)) rfl
theorem mw1_32 : Cond.fieldLink RX1 18 "LoopDiagram$Grid" "edges" "I" ∈ aL := aL_in (tb_1 (List.mem_of_getElem? (i := 32) rfl)) rfl
theorem mw1_33 : Cond.fieldLink RX2 35 "LoopDiagram$Grid" "edges" "I" ∈ aL := aL_in (tb_1 (List.mem_of_getElem? (i := 33) rfl)) rfl
theorem mw1_34 : Cond.fieldLink RX1 21 "LoopDiagram$Grid" "row" "[I" ∈ aL := aL_in (tb_1 (List.mem_of_getElem? (i := 34) rfl)) rfl
theorem mw1_35 : Cond.fieldLink RX2 45 "LoopDiagram$Grid" "row" "[I" ∈ aL := aL_in (tb_1 (List.mem_of_getElem? (i := 35) rfl)) rfl
theorem mw1_36 : Cond.fieldLink RX1 25 "LoopDiagram$Grid" "column" "[I" ∈ aL := aL_in (tb_1 (List.mem_of_getElem? (i := 36) rfl)) rfl
theorem mw1_37 : Cond.fieldLink RX2 52 "LoopDiagram$Grid" "column" "[I" ∈ aL := aL_in (tb_1 (List.mem_of_getElem? (i := 37) rfl)) rfl
theorem mw1_38 : Cond.fieldLink RX1 28 "LoopDiagram$Grid" "goesDown" "[Z" ∈ aL := aL_in (tb_1 (List.mem_of_getElem? (i := 38) rfl)) rfl
theorem mw1_39 : Cond.fieldLink RX2 55 "LoopDiagram$Grid" "goesDown" "[Z" ∈ aL := aL_in (tb_1 (List.mem_of_getElem? (i := 39) rfl)) rfl
theorem mw1_40 : Cond.fieldLink RX1 32 "LoopDiagram$Grid" "clues" "[I" ∈ aL := aL_in (tb_1 (List.mem_of_getElem? (i := 40) rfl)) rfl
theorem mw1_41 : Cond.fieldLink RX2 116 "LoopDiagram$Grid" "clues" "[I" ∈ aL := aL_in (tb_1 (List.mem_of_getElem? (i := 41) rfl)) rfl
theorem mw1_42 : Cond.laysFinal RX1 RX1 "rows" "I" ∈ aL := aL_in (tb_1 (List.mem_of_getElem? (i := 42) rfl)) rfl
theorem mw1_43 : Cond.soleField RX1 "rows" ∈ aL := aL_in (tb_1 (List.mem_of_getElem? (i := 43) rfl)) rfl
theorem mw1_44 : Cond.laysFinal RX1 RX1 "columns" "I" ∈ aL := aL_in (tb_1 (List.mem_of_getElem? (i := 44) rfl)) rfl
theorem mw1_45 : Cond.soleField RX1 "columns" ∈ aL := aL_in (tb_1 (List.mem_of_getElem? (i := 45) rfl)) rfl
theorem mw1_46 : Cond.laysFinal RX1 RX1 "edges" "I" ∈ aL := aL_in (tb_1 (List.mem_of_getElem? (i := 46) rfl)) rfl
theorem mw1_47 : Cond.soleField RX1 "edges" ∈ aL := aL_in (tb_1 (List.mem_of_getElem? (i := 47) rfl)) rfl
theorem mw1_48 : Cond.laysFinal RX1 RX1 "row" "[I" ∈ aL := aL_in (tb_1 (List.mem_of_getElem? (i := 48) rfl)) rfl
theorem mw1_49 : Cond.soleField RX1 "row" ∈ aL := aL_in (tb_1 (List.mem_of_getElem? (i := 49) rfl)) rfl
theorem mw1_50 : Cond.laysFinal RX1 RX1 "column" "[I" ∈ aL := aL_in (tb_1 (List.mem_of_getElem? (i := 50) rfl)) rfl
theorem mw1_51 : Cond.soleField RX1 "column" ∈ aL := aL_in (tb_1 (List.mem_of_getElem? (i := 51) rfl)) rfl
theorem mw1_52 : Cond.laysFinal RX1 RX1 "goesDown" "[Z" ∈ aL := aL_in (tb_1 (List.mem_of_getElem? (i := 52) rfl)) rfl
theorem mw1_53 : Cond.soleField RX1 "goesDown" ∈ aL := aL_in (tb_1 (List.mem_of_getElem? (i := 53) rfl)) rfl
theorem mw1_54 : Cond.laysFinal RX1 RX1 "clues" "[I" ∈ aL := aL_in (tb_1 (List.mem_of_getElem? (i := 54) rfl)) rfl
theorem mw1_55 : Cond.soleField RX1 "clues" ∈ aL := aL_in (tb_1 (List.mem_of_getElem? (i := 55) rfl)) rfl
theorem mw1_57 : Cond.arrayClass FieldType.int ∈ aL := aL_in (tb_1 (List.mem_of_getElem? (i := 57) rfl)) rfl
theorem mw1_58 : Cond.arrayClass FieldType.boolean ∈ aL := aL_in (tb_1 (List.mem_of_getElem? (i := 58) rfl)) rfl
theorem mw1_59 : Cond.classLink RX2 18 RX0 ∈ aL := aL_in (tb_1 (List.mem_of_getElem? (i := 59) rfl)) rfl
theorem mw1_60 : Cond.instantiable RX0 8 ∈ aL := aL_in (tb_1 (List.mem_of_getElem? (i := 60) rfl)) rfl
theorem mw1_61 : Cond.methodLink RX2 20 yX0_init ∈ aL := aL_in (tb_1 (List.mem_of_getElem? (i := 61) rfl)) rfl
theorem mw1_62 : Cond.instanceMethod yX0_init ∈ aL := aL_in (tb_1 (List.mem_of_getElem? (i := 62) rfl)) rfl
theorem mw1_63 : Cond.code yX0_init cX0_init 2 none ∈ aL := aL_in (tb_1 (List.mem_of_getElem? (i := 63) rfl)) rfl
theorem mw1_64 : Cond.methodLink RX0 3 (⟨"java/lang/Object", "<init>", "()V"⟩ : MethodName) ∈ aL := aL_in (tb_1 (List.mem_of_getElem? (i := 64) rfl)) rfl
theorem mw1_65 : Cond.fieldLink RX0 9 "LoopDiagram$Diagram" "grid" "LLoopDiagram$Grid;" ∈ aL := aL_in (tb_1 (List.mem_of_getElem? (i := 65) rfl)) rfl
theorem mw1_66 : Cond.fieldLink RX0 21 "LoopDiagram$Diagram" "first" "[I" ∈ aL := aL_in (tb_1 (List.mem_of_getElem? (i := 66) rfl)) rfl
theorem mw1_67 : Cond.fieldLink RX2 80 "LoopDiagram$Diagram" "first" "[I" ∈ aL := aL_in (tb_1 (List.mem_of_getElem? (i := 67) rfl)) rfl
theorem mw1_68 : Cond.fieldLink RX0 25 "LoopDiagram$Diagram" "size" "I" ∈ aL := aL_in (tb_1 (List.mem_of_getElem? (i := 68) rfl)) rfl
theorem mw1_69 : Cond.fieldLink RX2 83 "LoopDiagram$Diagram" "size" "I" ∈ aL := aL_in (tb_1 (List.mem_of_getElem? (i := 69) rfl)) rfl
theorem mw1_70 : Cond.fieldLink RX0 28 "LoopDiagram$Diagram" "states" "[I" ∈ aL := aL_in (tb_1 (List.mem_of_getElem? (i := 70) rfl)) rfl
theorem mw1_71 : Cond.fieldLink RX0 31 "LoopDiagram$Diagram" "low" "[I" ∈ aL := aL_in (tb_1 (List.mem_of_getElem? (i := 71) rfl)) rfl
theorem mw1_72 : Cond.fieldLink RX0 34 "LoopDiagram$Diagram" "high" "[I" ∈ aL := aL_in (tb_1 (List.mem_of_getElem? (i := 72) rfl)) rfl
theorem mw1_73 : Cond.fieldLink RX0 37 "LoopDiagram$Diagram" "ways" "[I" ∈ aL := aL_in (tb_1 (List.mem_of_getElem? (i := 73) rfl)) rfl
theorem mw1_74 : Cond.fieldLink RX2 73 "LoopDiagram$Diagram" "ways" "[I" ∈ aL := aL_in (tb_1 (List.mem_of_getElem? (i := 74) rfl)) rfl
theorem mw1_75 : Cond.fieldLink RX0 40 "LoopDiagram$Diagram" "someWays" "[I" ∈ aL := aL_in (tb_1 (List.mem_of_getElem? (i := 75) rfl)) rfl
theorem mw1_76 : Cond.laysFinal RX0 RX0 "grid" "LLoopDiagram$Grid;" ∈ aL := aL_in (tb_1 (List.mem_of_getElem? (i := 76) rfl)) rfl
theorem mw1_77 : Cond.soleField RX0 "grid" ∈ aL := aL_in (tb_1 (List.mem_of_getElem? (i := 77) rfl)) rfl
theorem mw1_78 : Cond.laysFinal RX0 RX0 "first" "[I" ∈ aL := aL_in (tb_1 (List.mem_of_getElem? (i := 78) rfl)) rfl
theorem mw1_79 : Cond.soleField RX0 "first" ∈ aL := aL_in (tb_1 (List.mem_of_getElem? (i := 79) rfl)) rfl
theorem mw1_80 : Cond.lays RX0 RX0 "size" "I" ∈ aL := aL_in (tb_1 (List.mem_of_getElem? (i := 80) rfl)) rfl
theorem mw1_81 : Cond.soleField RX0 "size" ∈ aL := aL_in (tb_1 (List.mem_of_getElem? (i := 81) rfl)) rfl
theorem mw1_82 : Cond.laysFinal RX0 RX0 "states" "[I" ∈ aL := aL_in (tb_1 (List.mem_of_getElem? (i := 82) rfl)) rfl
theorem mw1_83 : Cond.soleField RX0 "states" ∈ aL := aL_in (tb_1 (List.mem_of_getElem? (i := 83) rfl)) rfl
theorem mw1_84 : Cond.laysFinal RX0 RX0 "low" "[I" ∈ aL := aL_in (tb_1 (List.mem_of_getElem? (i := 84) rfl)) rfl
theorem mw1_85 : Cond.soleField RX0 "low" ∈ aL := aL_in (tb_1 (List.mem_of_getElem? (i := 85) rfl)) rfl
theorem mw1_86 : Cond.laysFinal RX0 RX0 "high" "[I" ∈ aL := aL_in (tb_1 (List.mem_of_getElem? (i := 86) rfl)) rfl
theorem mw1_87 : Cond.soleField RX0 "high" ∈ aL := aL_in (tb_1 (List.mem_of_getElem? (i := 87) rfl)) rfl
theorem mw1_88 : Cond.laysFinal RX0 RX0 "ways" "[I" ∈ aL := aL_in (tb_1 (List.mem_of_getElem? (i := 88) rfl)) rfl
theorem mw1_89 : Cond.soleField RX0 "ways" ∈ aL := aL_in (tb_1 (List.mem_of_getElem? (i := 89) rfl)) rfl
theorem mw1_90 : Cond.laysFinal RX0 RX0 "someWays" "[I" ∈ aL := aL_in (tb_1 (List.mem_of_getElem? (i := 90) rfl)) rfl
theorem mw1_91 : Cond.soleField RX0 "someWays" ∈ aL := aL_in (tb_1 (List.mem_of_getElem? (i := 91) rfl)) rfl
theorem mw1_93 : Cond.fieldLink RX2 14 "LoopDiagram" "grid" "LLoopDiagram$Grid;" ∈ aL := aL_in (tb_1 (List.mem_of_getElem? (i := 93) rfl)) rfl
theorem mw1_94 : Cond.fieldLink RX2 23 "LoopDiagram" "diagram" "LLoopDiagram$Diagram;" ∈ aL := aL_in (tb_1 (List.mem_of_getElem? (i := 94) rfl)) rfl
theorem mw1_95 : Cond.fieldLink RX2 27 "LoopDiagram" "drawing" "I" ∈ aL := aL_in (tb_1 (List.mem_of_getElem? (i := 95) rfl)) rfl
theorem mw1_96 : Cond.fieldLink RX2 31 "LoopDiagram" "stale" "Z" ∈ aL := aL_in (tb_1 (List.mem_of_getElem? (i := 96) rfl)) rfl
theorem mw1_97 : Cond.laysFinal RX2 RX2 "grid" "LLoopDiagram$Grid;" ∈ aL := aL_in (tb_1 (List.mem_of_getElem? (i := 97) rfl)) rfl
theorem mw1_98 : Cond.soleField RX2 "grid" ∈ aL := aL_in (tb_1 (List.mem_of_getElem? (i := 98) rfl)) rfl
theorem mw1_99 : Cond.laysFinal RX2 RX2 "diagram" "LLoopDiagram$Diagram;" ∈ aL := aL_in (tb_1 (List.mem_of_getElem? (i := 99) rfl)) rfl
theorem mw1_100 : Cond.soleField RX2 "diagram" ∈ aL := aL_in (tb_1 (List.mem_of_getElem? (i := 100) rfl)) rfl
theorem mw1_101 : Cond.lays RX2 RX2 "drawing" "I" ∈ aL := aL_in (tb_1 (List.mem_of_getElem? (i := 101) rfl)) rfl
theorem mw1_102 : Cond.soleField RX2 "drawing" ∈ aL := aL_in (tb_1 (List.mem_of_getElem? (i := 102) rfl)) rfl
theorem mw1_103 : Cond.lays RX2 RX2 "stale" "Z" ∈ aL := aL_in (tb_1 (List.mem_of_getElem? (i := 103) rfl)) rfl
theorem mw1_104 : Cond.soleField RX2 "stale" ∈ aL := aL_in (tb_1 (List.mem_of_getElem? (i := 104) rfl)) rfl
theorem mw1_106 : Cond.methodLink RL 70 yX2_edges ∈ aL := aL_in (tb_1 (List.mem_of_getElem? (i := 106) rfl)) rfl
theorem mw1_107 : Cond.instanceMethod yX2_edges ∈ aL := aL_in (tb_1 (List.mem_of_getElem? (i := 107) rfl)) rfl
theorem mw1_108 : Cond.selects RX2 yX2_edges yX2_edges ∈ aL := aL_in (tb_1 (List.mem_of_getElem? (i := 108) rfl)) rfl
theorem mw1_109 : Cond.code yX2_edges cX2_edges 1 (Option.some FieldType.int) ∈ aL := aL_in (tb_1 (List.mem_of_getElem? (i := 109) rfl)) rfl
theorem mw1_110 : Cond.methodLink RL 85 yX2_count ∈ aL := aL_in (tb_1 (List.mem_of_getElem? (i := 110) rfl)) rfl
theorem mw1_111 : Cond.instanceMethod yX2_count ∈ aL := aL_in (tb_1 (List.mem_of_getElem? (i := 111) rfl)) rfl
theorem mw1_112 : Cond.selects RX2 yX2_count yX2_count ∈ aL := aL_in (tb_1 (List.mem_of_getElem? (i := 112) rfl)) rfl
theorem mw1_113 : Cond.code yX2_count cX2_count 1 (Option.some FieldType.int) ∈ aL := aL_in (tb_1 (List.mem_of_getElem? (i := 113) rfl)) rfl
theorem mw1_114 : Cond.methodLink RX2 69 yX2_fresh ∈ aL := aL_in (tb_1 (List.mem_of_getElem? (i := 114) rfl)) rfl
theorem mw1_116 : Cond.instanceMethod yX2_fresh ∈ aL := aL_in (tb_1 (List.mem_of_getElem? (i := 116) rfl)) rfl
theorem mw1_117 : Cond.code yX2_fresh cX2_fresh 1 (Option.some (FieldType.object RX0)) ∈ aL := aL_in (tb_1 (List.mem_of_getElem? (i := 117) rfl)) rfl
theorem mw1_118 : Cond.methodLink RX2 122 yX0_grow ∈ aL := aL_in (tb_1 (List.mem_of_getElem? (i := 118) rfl)) rfl
theorem mw1_119 : Cond.instanceMethod yX0_grow ∈ aL := aL_in (tb_1 (List.mem_of_getElem? (i := 119) rfl)) rfl
theorem mw1_120 : Cond.selects RX0 yX0_grow yX0_grow ∈ aL := aL_in (tb_1 (List.mem_of_getElem? (i := 120) rfl)) rfl
theorem mw1_121 : Cond.code yX0_grow cX0_grow 3 none ∈ aL := aL_in (tb_1 (List.mem_of_getElem? (i := 121) rfl)) rfl
theorem mw1_122 : Cond.methodLink RX0 43 yX0_nodeAfter ∈ aL := aL_in (tb_1 (List.mem_of_getElem? (i := 122) rfl)) rfl
theorem mw1_124 : Cond.instanceMethod yX0_nodeAfter ∈ aL := aL_in (tb_1 (List.mem_of_getElem? (i := 124) rfl)) rfl
theorem mw1_125 : Cond.code yX0_nodeAfter cX0_nodeAfter 6 (Option.some FieldType.int) ∈ aL := aL_in (tb_1 (List.mem_of_getElem? (i := 125) rfl)) rfl
theorem mw1_126 : Cond.methodLink RX0 59 yX1_pointsAfter ∈ aL := aL_in (tb_1 (List.mem_of_getElem? (i := 126) rfl)) rfl
theorem mw1_127 : Cond.instanceMethod yX1_pointsAfter ∈ aL := aL_in (tb_1 (List.mem_of_getElem? (i := 127) rfl)) rfl
theorem mw1_128 : Cond.selects RX1 yX1_pointsAfter yX1_pointsAfter ∈ aL := aL_in (tb_1 (List.mem_of_getElem? (i := 128) rfl)) rfl
theorem mw1_129 : Cond.code yX1_pointsAfter cX1_pointsAfter 7 (Option.some FieldType.int) ∈ aL := aL_in (tb_1 (List.mem_of_getElem? (i := 129) rfl)) rfl
theorem mw1_130 : Cond.methodLink RX1 35 yX1_downAfter ∈ aL := aL_in (tb_1 (List.mem_of_getElem? (i := 130) rfl)) rfl
theorem mw1_131 : Cond.static yX1_downAfter ∈ aL := aL_in (tb_1 (List.mem_of_getElem? (i := 131) rfl)) rfl
theorem mw1_132 : Cond.code yX1_downAfter cX1_downAfter 3 (Option.some FieldType.int) ∈ aL := aL_in (tb_1 (List.mem_of_getElem? (i := 132) rfl)) rfl
theorem mw1_133 : Cond.methodLink RX1 46 yX1_slot ∈ aL := aL_in (tb_1 (List.mem_of_getElem? (i := 133) rfl)) rfl
theorem mw1_134 : Cond.static yX1_slot ∈ aL := aL_in (tb_1 (List.mem_of_getElem? (i := 134) rfl)) rfl
theorem mw1_135 : Cond.code yX1_slot cX1_slot 2 (Option.some FieldType.int) ∈ aL := aL_in (tb_1 (List.mem_of_getElem? (i := 135) rfl)) rfl
theorem mw1_136 : Cond.methodLink RX1 53 yX1_isPathEnd ∈ aL := aL_in (tb_1 (List.mem_of_getElem? (i := 136) rfl)) rfl
theorem mw1_137 : Cond.static yX1_isPathEnd ∈ aL := aL_in (tb_1 (List.mem_of_getElem? (i := 137) rfl)) rfl
theorem mw1_138 : Cond.code yX1_isPathEnd cX1_isPathEnd 2 (Option.some FieldType.boolean) ∈ aL := aL_in (tb_1 (List.mem_of_getElem? (i := 138) rfl)) rfl
theorem mw1_139 : Cond.methodLink RX1 57 yX1_put ∈ aL := aL_in (tb_1 (List.mem_of_getElem? (i := 139) rfl)) rfl
theorem mw1_140 : Cond.static yX1_put ∈ aL := aL_in (tb_1 (List.mem_of_getElem? (i := 140) rfl)) rfl
theorem mw1_141 : Cond.code yX1_put cX1_put 3 (Option.some FieldType.int) ∈ aL := aL_in (tb_1 (List.mem_of_getElem? (i := 141) rfl)) rfl
theorem mw1_142 : Cond.methodLink RX1 39 yX1_joined ∈ aL := aL_in (tb_1 (List.mem_of_getElem? (i := 142) rfl)) rfl
theorem mw1_143 : Cond.static yX1_joined ∈ aL := aL_in (tb_1 (List.mem_of_getElem? (i := 143) rfl)) rfl
theorem mw1_144 : Cond.code yX1_joined cX1_joined 7 (Option.some FieldType.int) ∈ aL := aL_in (tb_1 (List.mem_of_getElem? (i := 144) rfl)) rfl
theorem mw1_145 : Cond.methodLink RX1 43 yX1_ended ∈ aL := aL_in (tb_1 (List.mem_of_getElem? (i := 145) rfl)) rfl
theorem mw1_146 : Cond.static yX1_ended ∈ aL := aL_in (tb_1 (List.mem_of_getElem? (i := 146) rfl)) rfl
theorem mw1_147 : Cond.code yX1_ended cX1_ended 2 (Option.some FieldType.int) ∈ aL := aL_in (tb_1 (List.mem_of_getElem? (i := 147) rfl)) rfl
theorem mw1_148 : Cond.methodLink RX0 62 yX1_cluesAfter ∈ aL := aL_in (tb_1 (List.mem_of_getElem? (i := 148) rfl)) rfl
theorem mw1_149 : Cond.instanceMethod yX1_cluesAfter ∈ aL := aL_in (tb_1 (List.mem_of_getElem? (i := 149) rfl)) rfl
theorem mw1_150 : Cond.selects RX1 yX1_cluesAfter yX1_cluesAfter ∈ aL := aL_in (tb_1 (List.mem_of_getElem? (i := 150) rfl)) rfl
theorem mw1_151 : Cond.code yX1_cluesAfter cX1_cluesAfter 6 (Option.some FieldType.int) ∈ aL := aL_in (tb_1 (List.mem_of_getElem? (i := 151) rfl)) rfl
theorem mw1_152 : Cond.methodLink RX1 49 yX1_sideAfter ∈ aL := aL_in (tb_1 (List.mem_of_getElem? (i := 152) rfl)) rfl
theorem mw1_154 : Cond.instanceMethod yX1_sideAfter ∈ aL := aL_in (tb_1 (List.mem_of_getElem? (i := 154) rfl)) rfl
theorem mw1_155 : Cond.code yX1_sideAfter cX1_sideAfter 8 (Option.some FieldType.int) ∈ aL := aL_in (tb_1 (List.mem_of_getElem? (i := 155) rfl)) rfl
theorem mw1_156 : Cond.methodLink RX0 47 yX0_fillWays ∈ aL := aL_in (tb_1 (List.mem_of_getElem? (i := 156) rfl)) rfl
theorem mw1_158 : Cond.instanceMethod yX0_fillWays ∈ aL := aL_in (tb_1 (List.mem_of_getElem? (i := 158) rfl)) rfl
theorem mw1_159 : Cond.code yX0_fillWays cX0_fillWays 6 none ∈ aL := aL_in (tb_1 (List.mem_of_getElem? (i := 159) rfl)) rfl
theorem mw1_160 : Cond.methodLinkNest RX0 55 yX2_hasBit RX2 ∈ lw_tbl := tb_1 (List.mem_of_getElem? (i := 160) rfl)
theorem mw1_161 : Cond.static yX2_hasBit ∈ aL := aL_in (tb_1 (List.mem_of_getElem? (i := 161) rfl)) rfl
theorem mw1_162 : Cond.code yX2_hasBit cX2_hasBit 2 (Option.some FieldType.boolean) ∈ aL := aL_in (tb_1 (List.mem_of_getElem? (i := 162) rfl)) rfl
theorem mw1_163 : Cond.methodLink RX0 51 yX0_waysOf ∈ aL := aL_in (tb_1 (List.mem_of_getElem? (i := 163) rfl)) rfl
theorem mw1_164 : Cond.static yX0_waysOf ∈ aL := aL_in (tb_1 (List.mem_of_getElem? (i := 164) rfl)) rfl
theorem mw1_165 : Cond.code yX0_waysOf cX0_waysOf 2 (Option.some FieldType.int) ∈ aL := aL_in (tb_1 (List.mem_of_getElem? (i := 165) rfl)) rfl
theorem mw1_166 : Cond.methodLink RL 92 yX2_nodes ∈ aL := aL_in (tb_1 (List.mem_of_getElem? (i := 166) rfl)) rfl
theorem mw1_167 : Cond.instanceMethod yX2_nodes ∈ aL := aL_in (tb_1 (List.mem_of_getElem? (i := 167) rfl)) rfl
theorem mw1_168 : Cond.selects RX2 yX2_nodes yX2_nodes ∈ aL := aL_in (tb_1 (List.mem_of_getElem? (i := 168) rfl)) rfl
theorem mw1_169 : Cond.code yX2_nodes cX2_nodes 1 (Option.some FieldType.int) ∈ aL := aL_in (tb_1 (List.mem_of_getElem? (i := 169) rfl)) rfl
theorem mw1_170 : Cond.methodLink RL 114 yX2_drawn ∈ aL := aL_in (tb_1 (List.mem_of_getElem? (i := 170) rfl)) rfl
theorem mw1_171 : Cond.instanceMethod yX2_drawn ∈ aL := aL_in (tb_1 (List.mem_of_getElem? (i := 171) rfl)) rfl
theorem mw1_172 : Cond.selects RX2 yX2_drawn yX2_drawn ∈ aL := aL_in (tb_1 (List.mem_of_getElem? (i := 172) rfl)) rfl
theorem mw1_173 : Cond.code yX2_drawn cX2_drawn 1 (Option.some FieldType.int) ∈ aL := aL_in (tb_1 (List.mem_of_getElem? (i := 173) rfl)) rfl
theorem mw1_174 : Cond.methodLink RX2 95 yJ6_bitCount_0f7a4 ∈ aL := aL_in (tb_1 (List.mem_of_getElem? (i := 174) rfl)) rfl
theorem mw1_175 : Cond.static yJ6_bitCount_0f7a4 ∈ aL := aL_in (tb_1 (List.mem_of_getElem? (i := 175) rfl)) rfl
theorem mw1_176 : Cond.code yJ6_bitCount_0f7a4 cJ6_bitCount_0f7a4 1 (Option.some FieldType.int) ∈ aL := aL_in (tb_1 (List.mem_of_getElem? (i := 176) rfl)) rfl
theorem mw1_177 : Cond.constant RJ6 265 (1431655765 : Int32) ∈ aL := aL_in (tb_1 (List.mem_of_getElem? (i := 177) rfl)) rfl
theorem mw1_178 : Cond.constant RJ6 266 (858993459 : Int32) ∈ aL := aL_in (tb_1 (List.mem_of_getElem? (i := 178) rfl)) rfl
theorem mw1_179 : Cond.constant RJ6 267 (252645135 : Int32) ∈ aL := aL_in (tb_1 (List.mem_of_getElem? (i := 179) rfl)) rfl
theorem mw1_180 : Cond.methodLink RL 118 yX2_isLoop ∈ aL := aL_in (tb_1 (List.mem_of_getElem? (i := 180) rfl)) rfl
theorem mw1_181 : Cond.instanceMethod yX2_isLoop ∈ aL := aL_in (tb_1 (List.mem_of_getElem? (i := 181) rfl)) rfl
theorem mw1_182 : Cond.selects RX2 yX2_isLoop yX2_isLoop ∈ aL := aL_in (tb_1 (List.mem_of_getElem? (i := 182) rfl)) rfl
theorem mw1_183 : Cond.code yX2_isLoop cX2_isLoop 3 (Option.some FieldType.boolean) ∈ aL := aL_in (tb_1 (List.mem_of_getElem? (i := 183) rfl)) rfl
theorem mw1_184 : Cond.methodLink RX2 92 yX2_hasBit ∈ aL := aL_in (tb_1 (List.mem_of_getElem? (i := 184) rfl)) rfl
theorem mw1_185 : Cond.methodLink RX2 103 yX1_pointsAfter ∈ aL := aL_in (tb_1 (List.mem_of_getElem? (i := 185) rfl)) rfl
theorem mw1_186 : Cond.methodLink RL 127 yX2_above ∈ aL := aL_in (tb_1 (List.mem_of_getElem? (i := 186) rfl)) rfl
theorem mw1_187 : Cond.instanceMethod yX2_above ∈ aL := aL_in (tb_1 (List.mem_of_getElem? (i := 187) rfl)) rfl
theorem mw1_188 : Cond.selects RX2 yX2_above yX2_above ∈ aL := aL_in (tb_1 (List.mem_of_getElem? (i := 188) rfl)) rfl
theorem mw1_189 : Cond.code yX2_above cX2_above 1 (Option.some FieldType.int) ∈ aL := aL_in (tb_1 (List.mem_of_getElem? (i := 189) rfl)) rfl
theorem mw1_190 : Cond.methodLink RX2 100 yX0_solutionsWith ∈ aL := aL_in (tb_1 (List.mem_of_getElem? (i := 190) rfl)) rfl
theorem mw1_191 : Cond.instanceMethod yX0_solutionsWith ∈ aL := aL_in (tb_1 (List.mem_of_getElem? (i := 191) rfl)) rfl
theorem mw1_192 : Cond.selects RX0 yX0_solutionsWith yX0_solutionsWith ∈ aL := aL_in (tb_1 (List.mem_of_getElem? (i := 192) rfl)) rfl
theorem mw1_193 : Cond.code yX0_solutionsWith cX0_solutionsWith 2 (Option.some FieldType.int) ∈ aL := aL_in (tb_1 (List.mem_of_getElem? (i := 193) rfl)) rfl
theorem mw1_194 : Cond.methodLink RL 131 yX2_alive ∈ aL := aL_in (tb_1 (List.mem_of_getElem? (i := 194) rfl)) rfl
theorem mw1_195 : Cond.instanceMethod yX2_alive ∈ aL := aL_in (tb_1 (List.mem_of_getElem? (i := 195) rfl)) rfl
theorem mw1_196 : Cond.selects RX2 yX2_alive yX2_alive ∈ aL := aL_in (tb_1 (List.mem_of_getElem? (i := 196) rfl)) rfl
theorem mw1_197 : Cond.code yX2_alive cX2_alive 1 (Option.some FieldType.int) ∈ aL := aL_in (tb_1 (List.mem_of_getElem? (i := 197) rfl)) rfl
theorem mw1_198 : Cond.methodLink RX2 110 yX0_aliveEdges ∈ aL := aL_in (tb_1 (List.mem_of_getElem? (i := 198) rfl)) rfl
theorem mw1_199 : Cond.instanceMethod yX0_aliveEdges ∈ aL := aL_in (tb_1 (List.mem_of_getElem? (i := 199) rfl)) rfl
theorem mw1_200 : Cond.selects RX0 yX0_aliveEdges yX0_aliveEdges ∈ aL := aL_in (tb_1 (List.mem_of_getElem? (i := 200) rfl)) rfl
theorem mw1_201 : Cond.code yX0_aliveEdges cX0_aliveEdges 4 (Option.some FieldType.int) ∈ aL := aL_in (tb_1 (List.mem_of_getElem? (i := 201) rfl)) rfl
theorem mw1_202 : Cond.methodLink RL 58 yL_cell ∈ aL := aL_in (tb_1 (List.mem_of_getElem? (i := 202) rfl)) rfl
theorem mw1_203 : Cond.static yL_cell ∈ aL := aL_in (tb_1 (List.mem_of_getElem? (i := 203) rfl)) rfl
theorem mw1_204 : Cond.code yL_cell method_2_code 2 (Option.some FieldType.int) ∈ aL := aL_in (tb_1 (List.mem_of_getElem? (i := 204) rfl)) rfl
theorem mw1_205 : Cond.methodLink RL 74 yL_point ∈ aL := aL_in (tb_1 (List.mem_of_getElem? (i := 205) rfl)) rfl
theorem mw1_206 : Cond.static yL_point ∈ aL := aL_in (tb_1 (List.mem_of_getElem? (i := 206) rfl)) rfl
theorem mw1_207 : Cond.codeWith yL_point method_3_code 5 (Option.some FieldType.int) [(0, 10, 13, 13)] ∈ aL := aL_in (tb_1 (List.mem_of_getElem? (i := 207) rfl)) rfl
theorem mw1_208 : Cond.classLink RL 13 "java/lang/IndexOutOfBoundsException" ∈ aL := aL_in (tb_1 (List.mem_of_getElem? (i := 208) rfl)) rfl
theorem mw1_209 : Cond.methodLink RL 7 yX2_point ∈ aL := aL_in (tb_1 (List.mem_of_getElem? (i := 209) rfl)) rfl
theorem mw1_210 : Cond.instanceMethod yX2_point ∈ aL := aL_in (tb_1 (List.mem_of_getElem? (i := 210) rfl)) rfl
theorem mw1_211 : Cond.selects RX2 yX2_point yX2_point ∈ aL := aL_in (tb_1 (List.mem_of_getElem? (i := 211) rfl)) rfl
theorem mw1_212 : Cond.code yX2_point cX2_point 4 (Option.some FieldType.int) ∈ aL := aL_in (tb_1 (List.mem_of_getElem? (i := 212) rfl)) rfl
theorem mw1_213 : Cond.methodLink RX2 38 yX2_isNoEdge ∈ aL := aL_in (tb_1 (List.mem_of_getElem? (i := 213) rfl)) rfl
theorem mw1_215 : Cond.instanceMethod yX2_isNoEdge ∈ aL := aL_in (tb_1 (List.mem_of_getElem? (i := 215) rfl)) rfl
theorem mw1_216 : Cond.code yX2_isNoEdge cX2_isNoEdge 2 (Option.some FieldType.boolean) ∈ aL := aL_in (tb_1 (List.mem_of_getElem? (i := 216) rfl)) rfl
theorem mw1_217 : Cond.classLink RX2 42 "java/lang/IndexOutOfBoundsException" ∈ aL := aL_in (tb_1 (List.mem_of_getElem? (i := 217) rfl)) rfl
theorem mw1_218 : Cond.instantiable "java/lang/IndexOutOfBoundsException" 6 ∈ aL := aL_in (tb_1 (List.mem_of_getElem? (i := 218) rfl)) rfl
theorem mw1_226 : Cond.selects "java/lang/IndexOutOfBoundsException" (⟨"java/lang/Throwable", "fillInStackTrace", "(I)Ljava/lang/Throwable;"⟩ : MethodName) (⟨"java/lang/Throwable", "fillInStackTrace", "(I)Ljava/lang/Throwable;"⟩ : MethodName) ∈ aL := aL_in (tb_1 (List.mem_of_getElem? (i := 226) rfl)) rfl
theorem mw1_227 : Cond.selects "java/lang/IndexOutOfBoundsException" (⟨"java/lang/Throwable", "fillInStackTrace", "()Ljava/lang/Throwable;"⟩ : MethodName) (⟨"java/lang/Throwable", "fillInStackTrace", "()Ljava/lang/Throwable;"⟩ : MethodName) ∈ aL := aL_in (tb_1 (List.mem_of_getElem? (i := 227) rfl)) rfl
theorem mw1_228 : Cond.lays "java/lang/IndexOutOfBoundsException" "java/lang/Throwable" "cause" "Ljava/lang/Throwable;" ∈ aL := aL_in (tb_1 (List.mem_of_getElem? (i := 228) rfl)) rfl
theorem mw1_229 : Cond.lays "java/lang/Throwable" "java/lang/Throwable" "cause" "Ljava/lang/Throwable;" ∈ aL := aL_in (tb_1 (List.mem_of_getElem? (i := 229) rfl)) rfl
theorem mw1_230 : Cond.lays "java/lang/IndexOutOfBoundsException" "java/lang/Throwable" "stackTrace" "[Ljava/lang/StackTraceElement;" ∈ aL := aL_in (tb_1 (List.mem_of_getElem? (i := 230) rfl)) rfl
theorem mw1_231 : Cond.lays "java/lang/Throwable" "java/lang/Throwable" "stackTrace" "[Ljava/lang/StackTraceElement;" ∈ aL := aL_in (tb_1 (List.mem_of_getElem? (i := 231) rfl)) rfl
theorem mw1_232 : Cond.lays "java/lang/IndexOutOfBoundsException" "java/lang/Throwable" "suppressedExceptions" "Ljava/util/List;" ∈ aL := aL_in (tb_1 (List.mem_of_getElem? (i := 232) rfl)) rfl
theorem mw1_233 : Cond.lays "java/lang/Throwable" "java/lang/Throwable" "suppressedExceptions" "Ljava/util/List;" ∈ aL := aL_in (tb_1 (List.mem_of_getElem? (i := 233) rfl)) rfl
theorem mw1_234 : Cond.lays "java/lang/IndexOutOfBoundsException" "java/lang/Throwable" "detailMessage" "Ljava/lang/String;" ∈ aL := aL_in (tb_1 (List.mem_of_getElem? (i := 234) rfl)) rfl
theorem mw1_235 : Cond.lays "java/lang/Throwable" "java/lang/Throwable" "detailMessage" "Ljava/lang/String;" ∈ aL := aL_in (tb_1 (List.mem_of_getElem? (i := 235) rfl)) rfl
theorem mw1_236 : Cond.lays "java/lang/IndexOutOfBoundsException" "java/lang/Throwable" "backtrace" "Ljava/lang/Object;" ∈ aL := aL_in (tb_1 (List.mem_of_getElem? (i := 236) rfl)) rfl
theorem mw1_237 : Cond.lays "java/lang/Throwable" "java/lang/Throwable" "backtrace" "Ljava/lang/Object;" ∈ aL := aL_in (tb_1 (List.mem_of_getElem? (i := 237) rfl)) rfl
theorem mw1_238 : Cond.fieldLink "java/lang/Throwable" 198 "java/lang/Throwable" "backtrace" "Ljava/lang/Object;" ∈ aL := aL_in (tb_1 (List.mem_of_getElem? (i := 238) rfl)) rfl
theorem mw2_0 : Cond.instanceMethod (⟨"java/lang/Throwable", "<init>", "()V"⟩ : MethodName) ∈ aL := aL_in (tb_2 (List.mem_of_getElem? (i := 0) rfl)) rfl
theorem mw2_1 : Cond.code (⟨"java/lang/Throwable", "<init>", "()V"⟩ : MethodName) prog_13_method_1_code 1 none ∈ aL := aL_in (tb_2 (List.mem_of_getElem? (i := 1) rfl)) rfl
theorem mw2_2 : Cond.methodLink "java/lang/Throwable" 1 (⟨"java/lang/Object", "<init>", "()V"⟩ : MethodName) ∈ aL := aL_in (tb_2 (List.mem_of_getElem? (i := 2) rfl)) rfl
theorem mw2_3 : Cond.fieldLink "java/lang/Throwable" 13 "java/lang/Throwable" "UNASSIGNED_STACK" "[Ljava/lang/StackTraceElement;" ∈ aL := aL_in (tb_2 (List.mem_of_getElem? (i := 3) rfl)) rfl
theorem mw2_5 : Cond.fieldLink "java/lang/Throwable" 20 "java/lang/Throwable" "SUPPRESSED_SENTINEL" "Ljava/util/List;" ∈ aL := aL_in (tb_2 (List.mem_of_getElem? (i := 5) rfl)) rfl
theorem mw2_7 : Cond.methodLink "java/lang/Throwable" 27 (⟨"java/lang/Throwable", "fillInStackTrace", "()Ljava/lang/Throwable;"⟩ : MethodName) ∈ aL := aL_in (tb_2 (List.mem_of_getElem? (i := 7) rfl)) rfl
theorem mw2_8 : Cond.instanceMethod (⟨"java/lang/Throwable", "fillInStackTrace", "()Ljava/lang/Throwable;"⟩ : MethodName) ∈ aL := aL_in (tb_2 (List.mem_of_getElem? (i := 8) rfl)) rfl
theorem mw2_10 : Cond.selects "java/lang/IllegalArgumentException" (⟨"java/lang/Throwable", "fillInStackTrace", "()Ljava/lang/Throwable;"⟩ : MethodName) (⟨"java/lang/Throwable", "fillInStackTrace", "()Ljava/lang/Throwable;"⟩ : MethodName) ∈ aL := aL_in (tb_2 (List.mem_of_getElem? (i := 10) rfl)) rfl
theorem mw2_11 : Cond.selects "java/lang/IllegalStateException" (⟨"java/lang/Throwable", "fillInStackTrace", "()Ljava/lang/Throwable;"⟩ : MethodName) (⟨"java/lang/Throwable", "fillInStackTrace", "()Ljava/lang/Throwable;"⟩ : MethodName) ∈ aL := aL_in (tb_2 (List.mem_of_getElem? (i := 11) rfl)) rfl
theorem mw2_12 : Cond.selects "java/util/NoSuchElementException" (⟨"java/lang/Throwable", "fillInStackTrace", "()Ljava/lang/Throwable;"⟩ : MethodName) (⟨"java/lang/Throwable", "fillInStackTrace", "()Ljava/lang/Throwable;"⟩ : MethodName) ∈ aL := aL_in (tb_2 (List.mem_of_getElem? (i := 12) rfl)) rfl
theorem mw2_14 : Cond.methodLink "java/lang/Throwable" 202 (⟨"java/lang/Throwable", "fillInStackTrace", "(I)Ljava/lang/Throwable;"⟩ : MethodName) ∈ aL := aL_in (tb_2 (List.mem_of_getElem? (i := 14) rfl)) rfl
theorem mw2_16 : Cond.instanceMethod (⟨"java/lang/Throwable", "fillInStackTrace", "(I)Ljava/lang/Throwable;"⟩ : MethodName) ∈ aL := aL_in (tb_2 (List.mem_of_getElem? (i := 16) rfl)) rfl
theorem mw2_17 : Cond.instantiable "java/lang/Throwable" 6 ∈ aL := aL_in (tb_2 (List.mem_of_getElem? (i := 17) rfl)) rfl
theorem mw2_19 : Cond.methodLink RX2 44 (⟨"java/lang/IndexOutOfBoundsException", "<init>", "()V"⟩ : MethodName) ∈ aL := aL_in (tb_2 (List.mem_of_getElem? (i := 19) rfl)) rfl
theorem mw2_20 : Cond.instanceMethod (⟨"java/lang/IndexOutOfBoundsException", "<init>", "()V"⟩ : MethodName) ∈ aL := aL_in (tb_2 (List.mem_of_getElem? (i := 20) rfl)) rfl
theorem mw2_21 : Cond.code (⟨"java/lang/IndexOutOfBoundsException", "<init>", "()V"⟩ : MethodName) prog_10_method_1_code 1 none ∈ aL := aL_in (tb_2 (List.mem_of_getElem? (i := 21) rfl)) rfl
theorem mw2_22 : Cond.methodLink "java/lang/IndexOutOfBoundsException" 1 (⟨"java/lang/RuntimeException", "<init>", "()V"⟩ : MethodName) ∈ aL := aL_in (tb_2 (List.mem_of_getElem? (i := 22) rfl)) rfl
theorem mw2_23 : Cond.instanceMethod (⟨"java/lang/RuntimeException", "<init>", "()V"⟩ : MethodName) ∈ aL := aL_in (tb_2 (List.mem_of_getElem? (i := 23) rfl)) rfl
theorem mw2_24 : Cond.code (⟨"java/lang/RuntimeException", "<init>", "()V"⟩ : MethodName) prog_12_method_1_code 1 none ∈ aL := aL_in (tb_2 (List.mem_of_getElem? (i := 24) rfl)) rfl
theorem mw2_25 : Cond.methodLink "java/lang/RuntimeException" 1 (⟨"java/lang/Exception", "<init>", "()V"⟩ : MethodName) ∈ aL := aL_in (tb_2 (List.mem_of_getElem? (i := 25) rfl)) rfl
theorem mw2_26 : Cond.instanceMethod (⟨"java/lang/Exception", "<init>", "()V"⟩ : MethodName) ∈ aL := aL_in (tb_2 (List.mem_of_getElem? (i := 26) rfl)) rfl
theorem mw2_27 : Cond.code (⟨"java/lang/Exception", "<init>", "()V"⟩ : MethodName) prog_7_method_1_code 1 none ∈ aL := aL_in (tb_2 (List.mem_of_getElem? (i := 27) rfl)) rfl
theorem mw2_28 : Cond.methodLink "java/lang/Exception" 1 (⟨"java/lang/Throwable", "<init>", "()V"⟩ : MethodName) ∈ aL := aL_in (tb_2 (List.mem_of_getElem? (i := 28) rfl)) rfl
theorem mw2_29 : Cond.fieldLink "java/lang/Throwable" 198 "java/lang/Throwable" "backtrace" "Ljava/lang/Object;" ∈ aL := aL_in (tb_2 (List.mem_of_getElem? (i := 29) rfl)) rfl
theorem mw2_30 : Cond.fieldLink "java/lang/Throwable" 7 "java/lang/Throwable" "cause" "Ljava/lang/Throwable;" ∈ aL := aL_in (tb_2 (List.mem_of_getElem? (i := 30) rfl)) rfl
theorem mw2_31 : Cond.fieldLink "java/lang/Throwable" 17 "java/lang/Throwable" "stackTrace" "[Ljava/lang/StackTraceElement;" ∈ aL := aL_in (tb_2 (List.mem_of_getElem? (i := 31) rfl)) rfl
theorem mw2_32 : Cond.fieldLink "java/lang/Throwable" 24 "java/lang/Throwable" "suppressedExceptions" "Ljava/util/List;" ∈ aL := aL_in (tb_2 (List.mem_of_getElem? (i := 32) rfl)) rfl
theorem mw2_33 : Cond.soleField "java/lang/Throwable" "backtrace" ∈ aL := aL_in (tb_2 (List.mem_of_getElem? (i := 33) rfl)) rfl
theorem mw2_34 : Cond.soleField "java/lang/Throwable" "detailMessage" ∈ aL := aL_in (tb_2 (List.mem_of_getElem? (i := 34) rfl)) rfl
theorem mw2_35 : Cond.soleField "java/lang/Throwable" "cause" ∈ aL := aL_in (tb_2 (List.mem_of_getElem? (i := 35) rfl)) rfl
theorem mw2_36 : Cond.soleField "java/lang/Throwable" "stackTrace" ∈ aL := aL_in (tb_2 (List.mem_of_getElem? (i := 36) rfl)) rfl
theorem mw2_37 : Cond.lays "java/lang/IndexOutOfBoundsException" "java/lang/Throwable" "depth" "I" ∈ aL := aL_in (tb_2 (List.mem_of_getElem? (i := 37) rfl)) rfl
theorem mw2_38 : Cond.soleField "java/lang/Throwable" "depth" ∈ aL := aL_in (tb_2 (List.mem_of_getElem? (i := 38) rfl)) rfl
theorem mw2_39 : Cond.soleField "java/lang/Throwable" "suppressedExceptions" ∈ aL := aL_in (tb_2 (List.mem_of_getElem? (i := 39) rfl)) rfl
theorem mw2_41 : Cond.methodLink RL 81 yL_clue ∈ aL := aL_in (tb_2 (List.mem_of_getElem? (i := 41) rfl)) rfl
theorem mw2_42 : Cond.static yL_clue ∈ aL := aL_in (tb_2 (List.mem_of_getElem? (i := 42) rfl)) rfl
theorem mw2_43 : Cond.codeWith yL_clue method_4_code 5 (Option.some FieldType.int) [(0, 7, 10, 13), (0, 7, 14, 19)] ∈ aL := aL_in (tb_2 (List.mem_of_getElem? (i := 43) rfl)) rfl
theorem mw2_44 : Cond.classLink RL 19 "java/lang/IllegalArgumentException" ∈ aL := aL_in (tb_2 (List.mem_of_getElem? (i := 44) rfl)) rfl
theorem mw2_45 : Cond.methodLink RL 15 yX2_clue ∈ aL := aL_in (tb_2 (List.mem_of_getElem? (i := 45) rfl)) rfl
theorem mw2_46 : Cond.instanceMethod yX2_clue ∈ aL := aL_in (tb_2 (List.mem_of_getElem? (i := 46) rfl)) rfl
theorem mw2_47 : Cond.selects RX2 yX2_clue yX2_clue ∈ aL := aL_in (tb_2 (List.mem_of_getElem? (i := 47) rfl)) rfl
theorem mw2_48 : Cond.code yX2_clue cX2_clue 4 none ∈ aL := aL_in (tb_2 (List.mem_of_getElem? (i := 48) rfl)) rfl
theorem mw2_49 : Cond.methodLink RX2 59 yX2_isNoCell ∈ aL := aL_in (tb_2 (List.mem_of_getElem? (i := 49) rfl)) rfl
theorem mw2_51 : Cond.instanceMethod yX2_isNoCell ∈ aL := aL_in (tb_2 (List.mem_of_getElem? (i := 51) rfl)) rfl
theorem mw2_52 : Cond.code yX2_isNoCell cX2_isNoCell 3 (Option.some FieldType.boolean) ∈ aL := aL_in (tb_2 (List.mem_of_getElem? (i := 52) rfl)) rfl
theorem mw2_53 : Cond.classLink RX2 63 "java/lang/IllegalArgumentException" ∈ aL := aL_in (tb_2 (List.mem_of_getElem? (i := 53) rfl)) rfl
theorem mw2_54 : Cond.instantiable "java/lang/IllegalArgumentException" 6 ∈ aL := aL_in (tb_2 (List.mem_of_getElem? (i := 54) rfl)) rfl
theorem mw2_56 : Cond.selects "java/lang/IllegalArgumentException" (⟨"java/lang/Throwable", "fillInStackTrace", "(I)Ljava/lang/Throwable;"⟩ : MethodName) (⟨"java/lang/Throwable", "fillInStackTrace", "(I)Ljava/lang/Throwable;"⟩ : MethodName) ∈ aL := aL_in (tb_2 (List.mem_of_getElem? (i := 56) rfl)) rfl
theorem mw2_57 : Cond.lays "java/lang/IllegalArgumentException" "java/lang/Throwable" "cause" "Ljava/lang/Throwable;" ∈ aL := aL_in (tb_2 (List.mem_of_getElem? (i := 57) rfl)) rfl
theorem mw2_58 : Cond.lays "java/lang/IllegalArgumentException" "java/lang/Throwable" "stackTrace" "[Ljava/lang/StackTraceElement;" ∈ aL := aL_in (tb_2 (List.mem_of_getElem? (i := 58) rfl)) rfl
theorem mw2_59 : Cond.lays "java/lang/IllegalArgumentException" "java/lang/Throwable" "suppressedExceptions" "Ljava/util/List;" ∈ aL := aL_in (tb_2 (List.mem_of_getElem? (i := 59) rfl)) rfl
theorem mw2_60 : Cond.lays "java/lang/IllegalArgumentException" "java/lang/Throwable" "detailMessage" "Ljava/lang/String;" ∈ aL := aL_in (tb_2 (List.mem_of_getElem? (i := 60) rfl)) rfl
theorem mw2_61 : Cond.lays "java/lang/IllegalArgumentException" "java/lang/Throwable" "backtrace" "Ljava/lang/Object;" ∈ aL := aL_in (tb_2 (List.mem_of_getElem? (i := 61) rfl)) rfl
theorem mw2_62 : Cond.methodLink RX2 65 (⟨"java/lang/IllegalArgumentException", "<init>", "()V"⟩ : MethodName) ∈ aL := aL_in (tb_2 (List.mem_of_getElem? (i := 62) rfl)) rfl
theorem mw2_63 : Cond.instanceMethod (⟨"java/lang/IllegalArgumentException", "<init>", "()V"⟩ : MethodName) ∈ aL := aL_in (tb_2 (List.mem_of_getElem? (i := 63) rfl)) rfl
theorem mw2_64 : Cond.code (⟨"java/lang/IllegalArgumentException", "<init>", "()V"⟩ : MethodName) prog_8_method_1_code 1 none ∈ aL := aL_in (tb_2 (List.mem_of_getElem? (i := 64) rfl)) rfl
theorem mw2_65 : Cond.methodLink "java/lang/IllegalArgumentException" 1 (⟨"java/lang/RuntimeException", "<init>", "()V"⟩ : MethodName) ∈ aL := aL_in (tb_2 (List.mem_of_getElem? (i := 65) rfl)) rfl
theorem mw2_66 : Cond.lays "java/lang/IllegalArgumentException" "java/lang/Throwable" "depth" "I" ∈ aL := aL_in (tb_2 (List.mem_of_getElem? (i := 66) rfl)) rfl
theorem mw2_68 : Cond.methodLink RX2 66 yX2_setClue ∈ aL := aL_in (tb_2 (List.mem_of_getElem? (i := 68) rfl)) rfl
theorem mw2_70 : Cond.instanceMethod yX2_setClue ∈ aL := aL_in (tb_2 (List.mem_of_getElem? (i := 70) rfl)) rfl
theorem mw2_71 : Cond.code yX2_setClue cX2_setClue 3 none ∈ aL := aL_in (tb_2 (List.mem_of_getElem? (i := 71) rfl)) rfl
theorem mw2_72 : Cond.methodLink RL 89 yL_width ∈ aL := aL_in (tb_2 (List.mem_of_getElem? (i := 72) rfl)) rfl
theorem mw2_73 : Cond.static yL_width ∈ aL := aL_in (tb_2 (List.mem_of_getElem? (i := 73) rfl)) rfl
theorem mw2_74 : Cond.codeWith yL_width method_5_code 5 (Option.some FieldType.int) [(0, 10, 13, 13)] ∈ aL := aL_in (tb_2 (List.mem_of_getElem? (i := 74) rfl)) rfl
theorem mw2_75 : Cond.methodLink RL 21 yX2_width ∈ aL := aL_in (tb_2 (List.mem_of_getElem? (i := 75) rfl)) rfl
theorem mw2_76 : Cond.instanceMethod yX2_width ∈ aL := aL_in (tb_2 (List.mem_of_getElem? (i := 76) rfl)) rfl
theorem mw2_77 : Cond.selects RX2 yX2_width yX2_width ∈ aL := aL_in (tb_2 (List.mem_of_getElem? (i := 77) rfl)) rfl
theorem mw2_78 : Cond.code yX2_width cX2_width 4 (Option.some FieldType.int) ∈ aL := aL_in (tb_2 (List.mem_of_getElem? (i := 78) rfl)) rfl
theorem mw2_79 : Cond.methodLink RX2 76 yX0_usefulAt ∈ aL := aL_in (tb_2 (List.mem_of_getElem? (i := 79) rfl)) rfl
theorem mw2_80 : Cond.instanceMethod yX0_usefulAt ∈ aL := aL_in (tb_2 (List.mem_of_getElem? (i := 80) rfl)) rfl
theorem mw2_81 : Cond.selects RX0 yX0_usefulAt yX0_usefulAt ∈ aL := aL_in (tb_2 (List.mem_of_getElem? (i := 81) rfl)) rfl
theorem mw2_82 : Cond.code yX0_usefulAt cX0_usefulAt 4 (Option.some FieldType.int) ∈ aL := aL_in (tb_2 (List.mem_of_getElem? (i := 82) rfl)) rfl
theorem mw2_83 : Cond.methodLink RL 96 yL_has ∈ aL := aL_in (tb_2 (List.mem_of_getElem? (i := 83) rfl)) rfl
theorem mw2_84 : Cond.static yL_has ∈ aL := aL_in (tb_2 (List.mem_of_getElem? (i := 84) rfl)) rfl
theorem mw2_85 : Cond.codeWith yL_has method_6_code 5 (Option.some FieldType.int) [(0, 17, 20, 28), (0, 17, 24, 13)] ∈ aL := aL_in (tb_2 (List.mem_of_getElem? (i := 85) rfl)) rfl
theorem mw2_86 : Cond.classLink RL 28 "java/util/NoSuchElementException" ∈ aL := aL_in (tb_2 (List.mem_of_getElem? (i := 86) rfl)) rfl
theorem mw2_87 : Cond.methodLink RL 24 yX2_has ∈ aL := aL_in (tb_2 (List.mem_of_getElem? (i := 87) rfl)) rfl
theorem mw2_88 : Cond.instanceMethod yX2_has ∈ aL := aL_in (tb_2 (List.mem_of_getElem? (i := 88) rfl)) rfl
theorem mw2_89 : Cond.selects RX2 yX2_has yX2_has ∈ aL := aL_in (tb_2 (List.mem_of_getElem? (i := 89) rfl)) rfl
theorem mw2_90 : Cond.code yX2_has cX2_has 4 (Option.some FieldType.boolean) ∈ aL := aL_in (tb_2 (List.mem_of_getElem? (i := 90) rfl)) rfl
theorem mw2_91 : Cond.methodLink RX2 86 yX0_solution ∈ aL := aL_in (tb_2 (List.mem_of_getElem? (i := 91) rfl)) rfl
theorem mw2_92 : Cond.instanceMethod yX0_solution ∈ aL := aL_in (tb_2 (List.mem_of_getElem? (i := 92) rfl)) rfl
theorem mw2_93 : Cond.selects RX0 yX0_solution yX0_solution ∈ aL := aL_in (tb_2 (List.mem_of_getElem? (i := 93) rfl)) rfl
theorem mw2_94 : Cond.code yX0_solution cX0_solution 7 (Option.some FieldType.int) ∈ aL := aL_in (tb_2 (List.mem_of_getElem? (i := 94) rfl)) rfl
theorem mw2_95 : Cond.classLink RX2 89 "java/util/NoSuchElementException" ∈ aL := aL_in (tb_2 (List.mem_of_getElem? (i := 95) rfl)) rfl
theorem mw2_96 : Cond.instantiable "java/util/NoSuchElementException" 6 ∈ aL := aL_in (tb_2 (List.mem_of_getElem? (i := 96) rfl)) rfl
theorem mw2_98 : Cond.selects "java/util/NoSuchElementException" (⟨"java/lang/Throwable", "fillInStackTrace", "(I)Ljava/lang/Throwable;"⟩ : MethodName) (⟨"java/lang/Throwable", "fillInStackTrace", "(I)Ljava/lang/Throwable;"⟩ : MethodName) ∈ aL := aL_in (tb_2 (List.mem_of_getElem? (i := 98) rfl)) rfl
theorem mw2_99 : Cond.lays "java/util/NoSuchElementException" "java/lang/Throwable" "cause" "Ljava/lang/Throwable;" ∈ aL := aL_in (tb_2 (List.mem_of_getElem? (i := 99) rfl)) rfl
theorem mw2_100 : Cond.lays "java/util/NoSuchElementException" "java/lang/Throwable" "stackTrace" "[Ljava/lang/StackTraceElement;" ∈ aL := aL_in (tb_2 (List.mem_of_getElem? (i := 100) rfl)) rfl
theorem mw2_101 : Cond.lays "java/util/NoSuchElementException" "java/lang/Throwable" "suppressedExceptions" "Ljava/util/List;" ∈ aL := aL_in (tb_2 (List.mem_of_getElem? (i := 101) rfl)) rfl
theorem mw2_102 : Cond.lays "java/util/NoSuchElementException" "java/lang/Throwable" "detailMessage" "Ljava/lang/String;" ∈ aL := aL_in (tb_2 (List.mem_of_getElem? (i := 102) rfl)) rfl
theorem mw2_103 : Cond.lays "java/util/NoSuchElementException" "java/lang/Throwable" "backtrace" "Ljava/lang/Object;" ∈ aL := aL_in (tb_2 (List.mem_of_getElem? (i := 103) rfl)) rfl
theorem mw2_104 : Cond.methodLink RX2 91 (⟨"java/util/NoSuchElementException", "<init>", "()V"⟩ : MethodName) ∈ aL := aL_in (tb_2 (List.mem_of_getElem? (i := 104) rfl)) rfl
theorem mw2_105 : Cond.instanceMethod (⟨"java/util/NoSuchElementException", "<init>", "()V"⟩ : MethodName) ∈ aL := aL_in (tb_2 (List.mem_of_getElem? (i := 105) rfl)) rfl
theorem mw2_106 : Cond.code (⟨"java/util/NoSuchElementException", "<init>", "()V"⟩ : MethodName) prog_14_method_1_code 1 none ∈ aL := aL_in (tb_2 (List.mem_of_getElem? (i := 106) rfl)) rfl
theorem mw2_107 : Cond.methodLink "java/util/NoSuchElementException" 1 (⟨"java/lang/RuntimeException", "<init>", "()V"⟩ : MethodName) ∈ aL := aL_in (tb_2 (List.mem_of_getElem? (i := 107) rfl)) rfl
theorem mw2_108 : Cond.lays "java/util/NoSuchElementException" "java/lang/Throwable" "depth" "I" ∈ aL := aL_in (tb_2 (List.mem_of_getElem? (i := 108) rfl)) rfl
theorem mw2_110 : Cond.methodLink RL 100 yL_length ∈ aL := aL_in (tb_2 (List.mem_of_getElem? (i := 110) rfl)) rfl
theorem mw2_111 : Cond.static yL_length ∈ aL := aL_in (tb_2 (List.mem_of_getElem? (i := 111) rfl)) rfl
theorem mw2_112 : Cond.codeWith yL_length method_7_code 4 (Option.some FieldType.int) [(0, 9, 12, 28)] ∈ aL := aL_in (tb_2 (List.mem_of_getElem? (i := 112) rfl)) rfl
theorem mw2_113 : Cond.methodLink RL 30 yX2_length ∈ aL := aL_in (tb_2 (List.mem_of_getElem? (i := 113) rfl)) rfl
theorem mw2_114 : Cond.instanceMethod yX2_length ∈ aL := aL_in (tb_2 (List.mem_of_getElem? (i := 114) rfl)) rfl
theorem mw2_115 : Cond.selects RX2 yX2_length yX2_length ∈ aL := aL_in (tb_2 (List.mem_of_getElem? (i := 115) rfl)) rfl
theorem mw2_116 : Cond.code yX2_length cX2_length 3 (Option.some FieldType.int) ∈ aL := aL_in (tb_2 (List.mem_of_getElem? (i := 116) rfl)) rfl
theorem mw2_117 : Cond.methodLink RL 104 yL_often ∈ aL := aL_in (tb_2 (List.mem_of_getElem? (i := 117) rfl)) rfl
theorem mw2_118 : Cond.static yL_often ∈ aL := aL_in (tb_2 (List.mem_of_getElem? (i := 118) rfl)) rfl
theorem mw2_119 : Cond.codeWith yL_often method_8_code 4 (Option.some FieldType.int) [(0, 9, 12, 13)] ∈ aL := aL_in (tb_2 (List.mem_of_getElem? (i := 119) rfl)) rfl
theorem mw2_120 : Cond.methodLink RL 34 yX2_often ∈ aL := aL_in (tb_2 (List.mem_of_getElem? (i := 120) rfl)) rfl
theorem mw2_121 : Cond.instanceMethod yX2_often ∈ aL := aL_in (tb_2 (List.mem_of_getElem? (i := 121) rfl)) rfl
theorem mw2_122 : Cond.selects RX2 yX2_often yX2_often ∈ aL := aL_in (tb_2 (List.mem_of_getElem? (i := 122) rfl)) rfl
theorem mw2_123 : Cond.code yX2_often cX2_often 2 (Option.some FieldType.int) ∈ aL := aL_in (tb_2 (List.mem_of_getElem? (i := 123) rfl)) rfl
theorem mw2_124 : Cond.methodLink RL 107 yL_draw ∈ aL := aL_in (tb_2 (List.mem_of_getElem? (i := 124) rfl)) rfl
theorem mw2_125 : Cond.static yL_draw ∈ aL := aL_in (tb_2 (List.mem_of_getElem? (i := 125) rfl)) rfl
theorem mw2_126 : Cond.codeWith yL_draw method_9_code 4 (Option.some FieldType.int) [(0, 16, 19, 13)] ∈ aL := aL_in (tb_2 (List.mem_of_getElem? (i := 126) rfl)) rfl
theorem mw2_127 : Cond.methodLink RL 37 yX2_draw ∈ aL := aL_in (tb_2 (List.mem_of_getElem? (i := 127) rfl)) rfl
theorem mw2_128 : Cond.instanceMethod yX2_draw ∈ aL := aL_in (tb_2 (List.mem_of_getElem? (i := 128) rfl)) rfl
theorem mw2_129 : Cond.selects RX2 yX2_draw yX2_draw ∈ aL := aL_in (tb_2 (List.mem_of_getElem? (i := 129) rfl)) rfl
theorem mw2_130 : Cond.code yX2_draw cX2_draw 2 (Option.some FieldType.boolean) ∈ aL := aL_in (tb_2 (List.mem_of_getElem? (i := 130) rfl)) rfl
theorem mw2_131 : Cond.methodLink RL 110 yL_copy ∈ aL := aL_in (tb_2 (List.mem_of_getElem? (i := 131) rfl)) rfl
theorem mw2_132 : Cond.static yL_copy ∈ aL := aL_in (tb_2 (List.mem_of_getElem? (i := 132) rfl)) rfl
theorem mw2_133 : Cond.codeWith yL_copy method_10_code 3 (Option.some FieldType.int) [(0, 5, 8, 28)] ∈ aL := aL_in (tb_2 (List.mem_of_getElem? (i := 133) rfl)) rfl
theorem mw2_134 : Cond.methodLink RL 41 yX2_copy ∈ aL := aL_in (tb_2 (List.mem_of_getElem? (i := 134) rfl)) rfl
theorem mw2_135 : Cond.instanceMethod yX2_copy ∈ aL := aL_in (tb_2 (List.mem_of_getElem? (i := 135) rfl)) rfl
theorem mw2_136 : Cond.selects RX2 yX2_copy yX2_copy ∈ aL := aL_in (tb_2 (List.mem_of_getElem? (i := 136) rfl)) rfl
theorem mw2_137 : Cond.code yX2_copy cX2_copy 3 none ∈ aL := aL_in (tb_2 (List.mem_of_getElem? (i := 137) rfl)) rfl
theorem mw2_138 : Cond.methodLink RL 123 yL_rank ∈ aL := aL_in (tb_2 (List.mem_of_getElem? (i := 138) rfl)) rfl
theorem mw2_139 : Cond.static yL_rank ∈ aL := aL_in (tb_2 (List.mem_of_getElem? (i := 139) rfl)) rfl
theorem mw2_140 : Cond.codeWith yL_rank method_11_code 3 (Option.some FieldType.int) [(0, 8, 11, 28)] ∈ aL := aL_in (tb_2 (List.mem_of_getElem? (i := 140) rfl)) rfl
theorem mw2_141 : Cond.methodLink RL 45 yX2_rank ∈ aL := aL_in (tb_2 (List.mem_of_getElem? (i := 141) rfl)) rfl
theorem mw2_142 : Cond.instanceMethod yX2_rank ∈ aL := aL_in (tb_2 (List.mem_of_getElem? (i := 142) rfl)) rfl
theorem mw2_143 : Cond.selects RX2 yX2_rank yX2_rank ∈ aL := aL_in (tb_2 (List.mem_of_getElem? (i := 143) rfl)) rfl
theorem mw2_144 : Cond.code yX2_rank cX2_rank 2 (Option.some FieldType.int) ∈ aL := aL_in (tb_2 (List.mem_of_getElem? (i := 144) rfl)) rfl
theorem mw2_145 : Cond.methodLink RX2 107 yX0_rankOf ∈ aL := aL_in (tb_2 (List.mem_of_getElem? (i := 145) rfl)) rfl
theorem mw2_146 : Cond.instanceMethod yX0_rankOf ∈ aL := aL_in (tb_2 (List.mem_of_getElem? (i := 146) rfl)) rfl
theorem mw2_147 : Cond.selects RX0 yX0_rankOf yX0_rankOf ∈ aL := aL_in (tb_2 (List.mem_of_getElem? (i := 147) rfl)) rfl
theorem mw2_148 : Cond.code yX0_rankOf cX0_rankOf 5 (Option.some FieldType.int) ∈ aL := aL_in (tb_2 (List.mem_of_getElem? (i := 148) rfl)) rfl
theorem mw2_149 : Cond.methodLink RL 135 yL_spare ∈ aL := aL_in (tb_2 (List.mem_of_getElem? (i := 149) rfl)) rfl
theorem mw2_150 : Cond.static yL_spare ∈ aL := aL_in (tb_2 (List.mem_of_getElem? (i := 150) rfl)) rfl
theorem mw2_151 : Cond.codeWith yL_spare method_12_code 3 (Option.some FieldType.int) [(0, 8, 11, 52)] ∈ aL := aL_in (tb_2 (List.mem_of_getElem? (i := 151) rfl)) rfl
theorem mw2_152 : Cond.classLink RL 52 "java/lang/IllegalStateException" ∈ aL := aL_in (tb_2 (List.mem_of_getElem? (i := 152) rfl)) rfl
theorem mw2_153 : Cond.methodLink RL 49 yX2_spare ∈ aL := aL_in (tb_2 (List.mem_of_getElem? (i := 153) rfl)) rfl
theorem mw2_154 : Cond.instanceMethod yX2_spare ∈ aL := aL_in (tb_2 (List.mem_of_getElem? (i := 154) rfl)) rfl
theorem mw2_155 : Cond.selects RX2 yX2_spare yX2_spare ∈ aL := aL_in (tb_2 (List.mem_of_getElem? (i := 155) rfl)) rfl
theorem mw2_156 : Cond.code yX2_spare cX2_spare 4 (Option.some FieldType.int) ∈ aL := aL_in (tb_2 (List.mem_of_getElem? (i := 156) rfl)) rfl
theorem mw2_157 : Cond.classLink RX2 113 "java/lang/IllegalStateException" ∈ aL := aL_in (tb_2 (List.mem_of_getElem? (i := 157) rfl)) rfl
theorem mw2_158 : Cond.instantiable "java/lang/IllegalStateException" 6 ∈ aL := aL_in (tb_2 (List.mem_of_getElem? (i := 158) rfl)) rfl
theorem mw2_160 : Cond.selects "java/lang/IllegalStateException" (⟨"java/lang/Throwable", "fillInStackTrace", "(I)Ljava/lang/Throwable;"⟩ : MethodName) (⟨"java/lang/Throwable", "fillInStackTrace", "(I)Ljava/lang/Throwable;"⟩ : MethodName) ∈ aL := aL_in (tb_2 (List.mem_of_getElem? (i := 160) rfl)) rfl
theorem mw2_161 : Cond.lays "java/lang/IllegalStateException" "java/lang/Throwable" "cause" "Ljava/lang/Throwable;" ∈ aL := aL_in (tb_2 (List.mem_of_getElem? (i := 161) rfl)) rfl
theorem mw2_162 : Cond.lays "java/lang/IllegalStateException" "java/lang/Throwable" "stackTrace" "[Ljava/lang/StackTraceElement;" ∈ aL := aL_in (tb_2 (List.mem_of_getElem? (i := 162) rfl)) rfl
theorem mw2_163 : Cond.lays "java/lang/IllegalStateException" "java/lang/Throwable" "suppressedExceptions" "Ljava/util/List;" ∈ aL := aL_in (tb_2 (List.mem_of_getElem? (i := 163) rfl)) rfl
theorem mw2_164 : Cond.lays "java/lang/IllegalStateException" "java/lang/Throwable" "detailMessage" "Ljava/lang/String;" ∈ aL := aL_in (tb_2 (List.mem_of_getElem? (i := 164) rfl)) rfl
theorem mw2_165 : Cond.lays "java/lang/IllegalStateException" "java/lang/Throwable" "backtrace" "Ljava/lang/Object;" ∈ aL := aL_in (tb_2 (List.mem_of_getElem? (i := 165) rfl)) rfl
theorem mw2_166 : Cond.methodLink RX2 115 (⟨"java/lang/IllegalStateException", "<init>", "()V"⟩ : MethodName) ∈ aL := aL_in (tb_2 (List.mem_of_getElem? (i := 166) rfl)) rfl
theorem mw2_167 : Cond.instanceMethod (⟨"java/lang/IllegalStateException", "<init>", "()V"⟩ : MethodName) ∈ aL := aL_in (tb_2 (List.mem_of_getElem? (i := 167) rfl)) rfl
theorem mw2_168 : Cond.code (⟨"java/lang/IllegalStateException", "<init>", "()V"⟩ : MethodName) prog_9_method_1_code 1 none ∈ aL := aL_in (tb_2 (List.mem_of_getElem? (i := 168) rfl)) rfl
theorem mw2_169 : Cond.methodLink "java/lang/IllegalStateException" 1 (⟨"java/lang/RuntimeException", "<init>", "()V"⟩ : MethodName) ∈ aL := aL_in (tb_2 (List.mem_of_getElem? (i := 169) rfl)) rfl
theorem mw2_170 : Cond.lays "java/lang/IllegalStateException" "java/lang/Throwable" "depth" "I" ∈ aL := aL_in (tb_2 (List.mem_of_getElem? (i := 170) rfl)) rfl
theorem mw2_172 : Cond.methodLink RL 138 yL_clueOf ∈ aL := aL_in (tb_2 (List.mem_of_getElem? (i := 172) rfl)) rfl
theorem mw2_173 : Cond.static yL_clueOf ∈ aL := aL_in (tb_2 (List.mem_of_getElem? (i := 173) rfl)) rfl
theorem mw2_174 : Cond.codeWith yL_clueOf method_13_code 5 (Option.some FieldType.int) [(0, 10, 13, 13)] ∈ aL := aL_in (tb_2 (List.mem_of_getElem? (i := 174) rfl)) rfl
theorem mw2_175 : Cond.methodLink RL 54 yX2_clueOf ∈ aL := aL_in (tb_2 (List.mem_of_getElem? (i := 175) rfl)) rfl
theorem mw2_176 : Cond.instanceMethod yX2_clueOf ∈ aL := aL_in (tb_2 (List.mem_of_getElem? (i := 176) rfl)) rfl
theorem mw2_177 : Cond.selects RX2 yX2_clueOf yX2_clueOf ∈ aL := aL_in (tb_2 (List.mem_of_getElem? (i := 177) rfl)) rfl
theorem mw2_178 : Cond.code yX2_clueOf cX2_clueOf 3 (Option.some FieldType.int) ∈ aL := aL_in (tb_2 (List.mem_of_getElem? (i := 178) rfl)) rfl
theorem mw2_179 : Cond.classLink RL 67 RX3 ∈ aL := aL_in (tb_2 (List.mem_of_getElem? (i := 179) rfl)) rfl
theorem mw2_180 : Cond.instantiable RX3 32 ∈ aL := aL_in (tb_2 (List.mem_of_getElem? (i := 180) rfl)) rfl
theorem mw2_181 : Cond.methodLink RL 69 yX3_init ∈ aL := aL_in (tb_2 (List.mem_of_getElem? (i := 181) rfl)) rfl
theorem mw2_182 : Cond.instanceMethod yX3_init ∈ aL := aL_in (tb_2 (List.mem_of_getElem? (i := 182) rfl)) rfl
theorem mw2_183 : Cond.code yX3_init cX3_init 6 none ∈ aL := aL_in (tb_2 (List.mem_of_getElem? (i := 183) rfl)) rfl
theorem mw2_184 : Cond.methodLink RX3 1 (⟨"java/lang/Object", "<init>", "()V"⟩ : MethodName) ∈ aL := aL_in (tb_2 (List.mem_of_getElem? (i := 184) rfl)) rfl
theorem mw2_185 : Cond.methodLink RX3 82 yX3_cell ∈ aL := aL_in (tb_2 (List.mem_of_getElem? (i := 185) rfl)) rfl
theorem mw2_187 : Cond.instanceMethod yX3_cell ∈ aL := aL_in (tb_2 (List.mem_of_getElem? (i := 187) rfl)) rfl
theorem mw2_188 : Cond.code yX3_cell cX3_cell 3 (Option.some FieldType.int) ∈ aL := aL_in (tb_2 (List.mem_of_getElem? (i := 188) rfl)) rfl
theorem mw2_189 : Cond.methodLink RX3 86 yX3_join ∈ aL := aL_in (tb_2 (List.mem_of_getElem? (i := 189) rfl)) rfl
theorem mw2_191 : Cond.instanceMethod yX3_join ∈ aL := aL_in (tb_2 (List.mem_of_getElem? (i := 191) rfl)) rfl
theorem mw2_192 : Cond.code yX3_join cX3_join 5 none ∈ aL := aL_in (tb_2 (List.mem_of_getElem? (i := 192) rfl)) rfl
theorem mw2_193 : Cond.methodLink RX3 96 yX3_meet ∈ aL := aL_in (tb_2 (List.mem_of_getElem? (i := 193) rfl)) rfl
theorem mw2_195 : Cond.instanceMethod yX3_meet ∈ aL := aL_in (tb_2 (List.mem_of_getElem? (i := 195) rfl)) rfl
theorem mw2_196 : Cond.code yX3_meet cX3_meet 4 none ∈ aL := aL_in (tb_2 (List.mem_of_getElem? (i := 196) rfl)) rfl
theorem mw2_197 : Cond.methodLink RX3 100 yX3_border ∈ aL := aL_in (tb_2 (List.mem_of_getElem? (i := 197) rfl)) rfl
theorem mw2_199 : Cond.instanceMethod yX3_border ∈ aL := aL_in (tb_2 (List.mem_of_getElem? (i := 199) rfl)) rfl
theorem mw2_200 : Cond.code yX3_border cX3_border 3 none ∈ aL := aL_in (tb_2 (List.mem_of_getElem? (i := 200) rfl)) rfl
theorem mw2_201 : Cond.methodLink RX3 90 yX3_findLoops ∈ aL := aL_in (tb_2 (List.mem_of_getElem? (i := 201) rfl)) rfl
theorem mw2_203 : Cond.instanceMethod yX3_findLoops ∈ aL := aL_in (tb_2 (List.mem_of_getElem? (i := 203) rfl)) rfl
theorem mw2_204 : Cond.code yX3_findLoops cX3_findLoops 5 none ∈ aL := aL_in (tb_2 (List.mem_of_getElem? (i := 204) rfl)) rfl
theorem mw2_205 : Cond.methodLink RX3 140 yX3_borderOf ∈ aL := aL_in (tb_2 (List.mem_of_getElem? (i := 205) rfl)) rfl
theorem mw2_207 : Cond.instanceMethod yX3_borderOf ∈ aL := aL_in (tb_2 (List.mem_of_getElem? (i := 207) rfl)) rfl
theorem mw2_208 : Cond.code yX3_borderOf cX3_borderOf 6 (Option.some FieldType.int) ∈ aL := aL_in (tb_2 (List.mem_of_getElem? (i := 208) rfl)) rfl
theorem mw2_209 : Cond.methodLink RX3 136 yX3_bit ∈ aL := aL_in (tb_2 (List.mem_of_getElem? (i := 209) rfl)) rfl
theorem mw2_210 : Cond.static yX3_bit ∈ aL := aL_in (tb_2 (List.mem_of_getElem? (i := 210) rfl)) rfl
theorem mw2_211 : Cond.code yX3_bit cX3_bit 1 (Option.some FieldType.int) ∈ aL := aL_in (tb_2 (List.mem_of_getElem? (i := 211) rfl)) rfl
theorem mw2_212 : Cond.methodLink RX3 143 yX3_isLoopSet ∈ aL := aL_in (tb_2 (List.mem_of_getElem? (i := 212) rfl)) rfl
theorem mw2_214 : Cond.instanceMethod yX3_isLoopSet ∈ aL := aL_in (tb_2 (List.mem_of_getElem? (i := 214) rfl)) rfl
theorem mw2_215 : Cond.code yX3_isLoopSet cX3_isLoopSet 2 (Option.some FieldType.boolean) ∈ aL := aL_in (tb_2 (List.mem_of_getElem? (i := 215) rfl)) rfl
theorem mw2_216 : Cond.methodLink RX3 128 yX3_measure ∈ aL := aL_in (tb_2 (List.mem_of_getElem? (i := 216) rfl)) rfl
theorem mw2_218 : Cond.instanceMethod yX3_measure ∈ aL := aL_in (tb_2 (List.mem_of_getElem? (i := 218) rfl)) rfl
theorem mw2_219 : Cond.code yX3_measure cX3_measure 3 none ∈ aL := aL_in (tb_2 (List.mem_of_getElem? (i := 219) rfl)) rfl
theorem mw2_220 : Cond.methodLink RX3 106 yX3_isIn ∈ aL := aL_in (tb_2 (List.mem_of_getElem? (i := 220) rfl)) rfl
theorem mw2_221 : Cond.static yX3_isIn ∈ aL := aL_in (tb_2 (List.mem_of_getElem? (i := 221) rfl)) rfl
theorem mw2_222 : Cond.code yX3_isIn cX3_isIn 2 (Option.some FieldType.boolean) ∈ aL := aL_in (tb_2 (List.mem_of_getElem? (i := 222) rfl)) rfl
theorem mw2_223 : Cond.methodLink RX3 132 yX3_isRing ∈ aL := aL_in (tb_2 (List.mem_of_getElem? (i := 223) rfl)) rfl
theorem mw2_225 : Cond.instanceMethod yX3_isRing ∈ aL := aL_in (tb_2 (List.mem_of_getElem? (i := 225) rfl)) rfl
theorem mw2_226 : Cond.code yX3_isRing cX3_isRing 3 (Option.some FieldType.boolean) ∈ aL := aL_in (tb_2 (List.mem_of_getElem? (i := 226) rfl)) rfl
theorem mw2_227 : Cond.methodLink RX3 114 yX3_unseen ∈ aL := aL_in (tb_2 (List.mem_of_getElem? (i := 227) rfl)) rfl
theorem mw2_229 : Cond.instanceMethod yX3_unseen ∈ aL := aL_in (tb_2 (List.mem_of_getElem? (i := 229) rfl)) rfl
theorem mw2_230 : Cond.code yX3_unseen cX3_unseen 2 (Option.some FieldType.int) ∈ aL := aL_in (tb_2 (List.mem_of_getElem? (i := 230) rfl)) rfl
theorem mw2_231 : Cond.methodLink RX3 118 yX3_isThin ∈ aL := aL_in (tb_2 (List.mem_of_getElem? (i := 231) rfl)) rfl
theorem mw2_233 : Cond.instanceMethod yX3_isThin ∈ aL := aL_in (tb_2 (List.mem_of_getElem? (i := 233) rfl)) rfl
theorem mw2_234 : Cond.code yX3_isThin cX3_isThin 3 (Option.some FieldType.boolean) ∈ aL := aL_in (tb_2 (List.mem_of_getElem? (i := 234) rfl)) rfl
theorem mw2_235 : Cond.methodLink RX3 122 yX3_hasEnds ∈ aL := aL_in (tb_2 (List.mem_of_getElem? (i := 235) rfl)) rfl
theorem mw2_237 : Cond.instanceMethod yX3_hasEnds ∈ aL := aL_in (tb_2 (List.mem_of_getElem? (i := 237) rfl)) rfl
theorem mw2_238 : Cond.code yX3_hasEnds cX3_hasEnds 3 (Option.some FieldType.boolean) ∈ aL := aL_in (tb_2 (List.mem_of_getElem? (i := 238) rfl)) rfl
theorem mw2_239 : Cond.methodLink RX3 125 yX3_walk ∈ aL := aL_in (tb_2 (List.mem_of_getElem? (i := 239) rfl)) rfl
theorem mw3_1 : Cond.instanceMethod yX3_walk ∈ aL := aL_in (tb_3 (List.mem_of_getElem? (i := 1) rfl)) rfl
theorem mw3_2 : Cond.code yX3_walk cX3_walk 6 (Option.some FieldType.int) ∈ aL := aL_in (tb_3 (List.mem_of_getElem? (i := 2) rfl)) rfl
theorem mw3_3 : Cond.methodLink RX3 110 yX3_onward ∈ aL := aL_in (tb_3 (List.mem_of_getElem? (i := 3) rfl)) rfl
theorem mw3_5 : Cond.instanceMethod yX3_onward ∈ aL := aL_in (tb_3 (List.mem_of_getElem? (i := 5) rfl)) rfl
theorem mw3_6 : Cond.code yX3_onward cX3_onward 5 (Option.some FieldType.int) ∈ aL := aL_in (tb_3 (List.mem_of_getElem? (i := 6) rfl)) rfl
theorem mw3_7 : Cond.fieldLink RX3 103 "LoopDiagramModel" "thrown" "I" ∈ aL := aL_in (tb_3 (List.mem_of_getElem? (i := 7) rfl)) rfl
theorem mw3_8 : Cond.fieldLink RX3 72 "LoopDiagramModel" "rows" "I" ∈ aL := aL_in (tb_3 (List.mem_of_getElem? (i := 8) rfl)) rfl
theorem mw3_9 : Cond.fieldLink RX3 76 "LoopDiagramModel" "columns" "I" ∈ aL := aL_in (tb_3 (List.mem_of_getElem? (i := 9) rfl)) rfl
theorem mw3_10 : Cond.fieldLink RX3 79 "LoopDiagramModel" "points" "I" ∈ aL := aL_in (tb_3 (List.mem_of_getElem? (i := 10) rfl)) rfl
theorem mw3_11 : Cond.fieldLink RX3 93 "LoopDiagramModel" "count" "I" ∈ aL := aL_in (tb_3 (List.mem_of_getElem? (i := 11) rfl)) rfl
theorem mw3_12 : Cond.fieldLink RX3 7 "LoopDiagramModel" "low" "[I" ∈ aL := aL_in (tb_3 (List.mem_of_getElem? (i := 12) rfl)) rfl
theorem mw3_13 : Cond.fieldLink RX3 13 "LoopDiagramModel" "high" "[I" ∈ aL := aL_in (tb_3 (List.mem_of_getElem? (i := 13) rfl)) rfl
theorem mw3_14 : Cond.fieldLink RX3 16 "LoopDiagramModel" "one" "[I" ∈ aL := aL_in (tb_3 (List.mem_of_getElem? (i := 14) rfl)) rfl
theorem mw3_15 : Cond.fieldLink RX3 19 "LoopDiagramModel" "other" "[I" ∈ aL := aL_in (tb_3 (List.mem_of_getElem? (i := 15) rfl)) rfl
theorem mw3_16 : Cond.fieldLink RX3 22 "LoopDiagramModel" "ends" "[I" ∈ aL := aL_in (tb_3 (List.mem_of_getElem? (i := 16) rfl)) rfl
theorem mw3_17 : Cond.fieldLink RX3 25 "LoopDiagramModel" "first" "[I" ∈ aL := aL_in (tb_3 (List.mem_of_getElem? (i := 17) rfl)) rfl
theorem mw3_18 : Cond.fieldLink RX3 28 "LoopDiagramModel" "last" "[I" ∈ aL := aL_in (tb_3 (List.mem_of_getElem? (i := 18) rfl)) rfl
theorem mw3_19 : Cond.fieldLink RX3 31 "LoopDiagramModel" "cellFirst" "[I" ∈ aL := aL_in (tb_3 (List.mem_of_getElem? (i := 19) rfl)) rfl
theorem mw3_20 : Cond.fieldLink RX3 34 "LoopDiagramModel" "cellLast" "[I" ∈ aL := aL_in (tb_3 (List.mem_of_getElem? (i := 20) rfl)) rfl
theorem mw3_21 : Cond.fieldLink RX3 146 "LoopDiagramModel" "loops" "I" ∈ aL := aL_in (tb_3 (List.mem_of_getElem? (i := 21) rfl)) rfl
theorem mw3_22 : Cond.fieldLink RX3 37 "LoopDiagramModel" "loop" "[I" ∈ aL := aL_in (tb_3 (List.mem_of_getElem? (i := 22) rfl)) rfl
theorem mw3_23 : Cond.fieldLink RX3 40 "LoopDiagramModel" "clues" "[I" ∈ aL := aL_in (tb_3 (List.mem_of_getElem? (i := 23) rfl)) rfl
theorem mw3_24 : Cond.fieldLink RX3 152 "LoopDiagramModel" "known" "Z" ∈ aL := aL_in (tb_3 (List.mem_of_getElem? (i := 24) rfl)) rfl
theorem mw3_25 : Cond.fieldLink RX3 159 "LoopDiagramModel" "solutions" "I" ∈ aL := aL_in (tb_3 (List.mem_of_getElem? (i := 25) rfl)) rfl
theorem mw3_26 : Cond.fieldLink RX3 43 "LoopDiagramModel" "solution" "[I" ∈ aL := aL_in (tb_3 (List.mem_of_getElem? (i := 26) rfl)) rfl
theorem mw3_27 : Cond.fieldLink RX3 156 "LoopDiagramModel" "measured" "Z" ∈ aL := aL_in (tb_3 (List.mem_of_getElem? (i := 27) rfl)) rfl
theorem mw3_28 : Cond.fieldLink RX3 46 "LoopDiagramModel" "wide" "[I" ∈ aL := aL_in (tb_3 (List.mem_of_getElem? (i := 28) rfl)) rfl
theorem mw3_29 : Cond.fieldLink RX3 49 "LoopDiagramModel" "useful" "[I" ∈ aL := aL_in (tb_3 (List.mem_of_getElem? (i := 29) rfl)) rfl
theorem mw3_30 : Cond.fieldLink RX3 184 "LoopDiagramModel" "held" "I" ∈ aL := aL_in (tb_3 (List.mem_of_getElem? (i := 30) rfl)) rfl
theorem mw3_31 : Cond.fieldLink RX3 52 "LoopDiagramModel" "hold" "[I" ∈ aL := aL_in (tb_3 (List.mem_of_getElem? (i := 31) rfl)) rfl
theorem mw3_32 : Cond.fieldLink RX3 178 "LoopDiagramModel" "next" "I" ∈ aL := aL_in (tb_3 (List.mem_of_getElem? (i := 32) rfl)) rfl
theorem mw3_33 : Cond.fieldLink RX3 55 "LoopDiagramModel" "nextHold" "[I" ∈ aL := aL_in (tb_3 (List.mem_of_getElem? (i := 33) rfl)) rfl
theorem mw3_34 : Cond.fieldLink RX3 58 "LoopDiagramModel" "keys" "[J" ∈ aL := aL_in (tb_3 (List.mem_of_getElem? (i := 34) rfl)) rfl
theorem mw3_35 : Cond.fieldLink RX3 62 "LoopDiagramModel" "table" "[I" ∈ aL := aL_in (tb_3 (List.mem_of_getElem? (i := 35) rfl)) rfl
theorem mw3_36 : Cond.fieldLink RX3 211 "LoopDiagramModel" "drawing" "I" ∈ aL := aL_in (tb_3 (List.mem_of_getElem? (i := 36) rfl)) rfl
theorem mw3_37 : Cond.fieldLink RX3 65 "LoopDiagramModel" "degree" "[I" ∈ aL := aL_in (tb_3 (List.mem_of_getElem? (i := 37) rfl)) rfl
theorem mw3_38 : Cond.fieldLink RX3 68 "LoopDiagramModel" "seen" "[Z" ∈ aL := aL_in (tb_3 (List.mem_of_getElem? (i := 38) rfl)) rfl
theorem mw3_39 : Cond.lays RX3 RX3 "thrown" "I" ∈ aL := aL_in (tb_3 (List.mem_of_getElem? (i := 39) rfl)) rfl
theorem mw3_40 : Cond.soleField RX3 "thrown" ∈ aL := aL_in (tb_3 (List.mem_of_getElem? (i := 40) rfl)) rfl
theorem mw3_41 : Cond.lays RX3 RX3 "rows" "I" ∈ aL := aL_in (tb_3 (List.mem_of_getElem? (i := 41) rfl)) rfl
theorem mw3_42 : Cond.soleField RX3 "rows" ∈ aL := aL_in (tb_3 (List.mem_of_getElem? (i := 42) rfl)) rfl
theorem mw3_43 : Cond.lays RX3 RX3 "columns" "I" ∈ aL := aL_in (tb_3 (List.mem_of_getElem? (i := 43) rfl)) rfl
theorem mw3_44 : Cond.soleField RX3 "columns" ∈ aL := aL_in (tb_3 (List.mem_of_getElem? (i := 44) rfl)) rfl
theorem mw3_45 : Cond.lays RX3 RX3 "points" "I" ∈ aL := aL_in (tb_3 (List.mem_of_getElem? (i := 45) rfl)) rfl
theorem mw3_46 : Cond.soleField RX3 "points" ∈ aL := aL_in (tb_3 (List.mem_of_getElem? (i := 46) rfl)) rfl
theorem mw3_47 : Cond.lays RX3 RX3 "count" "I" ∈ aL := aL_in (tb_3 (List.mem_of_getElem? (i := 47) rfl)) rfl
theorem mw3_48 : Cond.soleField RX3 "count" ∈ aL := aL_in (tb_3 (List.mem_of_getElem? (i := 48) rfl)) rfl
theorem mw3_49 : Cond.laysFinal RX3 RX3 "low" "[I" ∈ aL := aL_in (tb_3 (List.mem_of_getElem? (i := 49) rfl)) rfl
theorem mw3_50 : Cond.soleField RX3 "low" ∈ aL := aL_in (tb_3 (List.mem_of_getElem? (i := 50) rfl)) rfl
theorem mw3_51 : Cond.laysFinal RX3 RX3 "high" "[I" ∈ aL := aL_in (tb_3 (List.mem_of_getElem? (i := 51) rfl)) rfl
theorem mw3_52 : Cond.soleField RX3 "high" ∈ aL := aL_in (tb_3 (List.mem_of_getElem? (i := 52) rfl)) rfl
theorem mw3_53 : Cond.laysFinal RX3 RX3 "one" "[I" ∈ aL := aL_in (tb_3 (List.mem_of_getElem? (i := 53) rfl)) rfl
theorem mw3_54 : Cond.soleField RX3 "one" ∈ aL := aL_in (tb_3 (List.mem_of_getElem? (i := 54) rfl)) rfl
theorem mw3_55 : Cond.laysFinal RX3 RX3 "other" "[I" ∈ aL := aL_in (tb_3 (List.mem_of_getElem? (i := 55) rfl)) rfl
theorem mw3_56 : Cond.soleField RX3 "other" ∈ aL := aL_in (tb_3 (List.mem_of_getElem? (i := 56) rfl)) rfl
theorem mw3_57 : Cond.laysFinal RX3 RX3 "ends" "[I" ∈ aL := aL_in (tb_3 (List.mem_of_getElem? (i := 57) rfl)) rfl
theorem mw3_58 : Cond.soleField RX3 "ends" ∈ aL := aL_in (tb_3 (List.mem_of_getElem? (i := 58) rfl)) rfl
theorem mw3_59 : Cond.laysFinal RX3 RX3 "first" "[I" ∈ aL := aL_in (tb_3 (List.mem_of_getElem? (i := 59) rfl)) rfl
theorem mw3_60 : Cond.soleField RX3 "first" ∈ aL := aL_in (tb_3 (List.mem_of_getElem? (i := 60) rfl)) rfl
theorem mw3_61 : Cond.laysFinal RX3 RX3 "last" "[I" ∈ aL := aL_in (tb_3 (List.mem_of_getElem? (i := 61) rfl)) rfl
theorem mw3_62 : Cond.soleField RX3 "last" ∈ aL := aL_in (tb_3 (List.mem_of_getElem? (i := 62) rfl)) rfl
theorem mw3_63 : Cond.laysFinal RX3 RX3 "cellFirst" "[I" ∈ aL := aL_in (tb_3 (List.mem_of_getElem? (i := 63) rfl)) rfl
theorem mw3_64 : Cond.soleField RX3 "cellFirst" ∈ aL := aL_in (tb_3 (List.mem_of_getElem? (i := 64) rfl)) rfl
theorem mw3_65 : Cond.laysFinal RX3 RX3 "cellLast" "[I" ∈ aL := aL_in (tb_3 (List.mem_of_getElem? (i := 65) rfl)) rfl
theorem mw3_66 : Cond.soleField RX3 "cellLast" ∈ aL := aL_in (tb_3 (List.mem_of_getElem? (i := 66) rfl)) rfl
theorem mw3_67 : Cond.lays RX3 RX3 "loops" "I" ∈ aL := aL_in (tb_3 (List.mem_of_getElem? (i := 67) rfl)) rfl
theorem mw3_68 : Cond.soleField RX3 "loops" ∈ aL := aL_in (tb_3 (List.mem_of_getElem? (i := 68) rfl)) rfl
theorem mw3_69 : Cond.laysFinal RX3 RX3 "loop" "[I" ∈ aL := aL_in (tb_3 (List.mem_of_getElem? (i := 69) rfl)) rfl
theorem mw3_70 : Cond.soleField RX3 "loop" ∈ aL := aL_in (tb_3 (List.mem_of_getElem? (i := 70) rfl)) rfl
theorem mw3_71 : Cond.laysFinal RX3 RX3 "clues" "[I" ∈ aL := aL_in (tb_3 (List.mem_of_getElem? (i := 71) rfl)) rfl
theorem mw3_72 : Cond.soleField RX3 "clues" ∈ aL := aL_in (tb_3 (List.mem_of_getElem? (i := 72) rfl)) rfl
theorem mw3_73 : Cond.lays RX3 RX3 "known" "Z" ∈ aL := aL_in (tb_3 (List.mem_of_getElem? (i := 73) rfl)) rfl
theorem mw3_74 : Cond.soleField RX3 "known" ∈ aL := aL_in (tb_3 (List.mem_of_getElem? (i := 74) rfl)) rfl
theorem mw3_75 : Cond.lays RX3 RX3 "solutions" "I" ∈ aL := aL_in (tb_3 (List.mem_of_getElem? (i := 75) rfl)) rfl
theorem mw3_76 : Cond.soleField RX3 "solutions" ∈ aL := aL_in (tb_3 (List.mem_of_getElem? (i := 76) rfl)) rfl
theorem mw3_77 : Cond.laysFinal RX3 RX3 "solution" "[I" ∈ aL := aL_in (tb_3 (List.mem_of_getElem? (i := 77) rfl)) rfl
theorem mw3_78 : Cond.soleField RX3 "solution" ∈ aL := aL_in (tb_3 (List.mem_of_getElem? (i := 78) rfl)) rfl
theorem mw3_79 : Cond.lays RX3 RX3 "measured" "Z" ∈ aL := aL_in (tb_3 (List.mem_of_getElem? (i := 79) rfl)) rfl
theorem mw3_80 : Cond.soleField RX3 "measured" ∈ aL := aL_in (tb_3 (List.mem_of_getElem? (i := 80) rfl)) rfl
theorem mw3_81 : Cond.laysFinal RX3 RX3 "wide" "[I" ∈ aL := aL_in (tb_3 (List.mem_of_getElem? (i := 81) rfl)) rfl
theorem mw3_82 : Cond.soleField RX3 "wide" ∈ aL := aL_in (tb_3 (List.mem_of_getElem? (i := 82) rfl)) rfl
theorem mw3_83 : Cond.laysFinal RX3 RX3 "useful" "[I" ∈ aL := aL_in (tb_3 (List.mem_of_getElem? (i := 83) rfl)) rfl
theorem mw3_84 : Cond.soleField RX3 "useful" ∈ aL := aL_in (tb_3 (List.mem_of_getElem? (i := 84) rfl)) rfl
theorem mw3_85 : Cond.lays RX3 RX3 "held" "I" ∈ aL := aL_in (tb_3 (List.mem_of_getElem? (i := 85) rfl)) rfl
theorem mw3_86 : Cond.soleField RX3 "held" ∈ aL := aL_in (tb_3 (List.mem_of_getElem? (i := 86) rfl)) rfl
theorem mw3_87 : Cond.laysFinal RX3 RX3 "hold" "[I" ∈ aL := aL_in (tb_3 (List.mem_of_getElem? (i := 87) rfl)) rfl
theorem mw3_88 : Cond.soleField RX3 "hold" ∈ aL := aL_in (tb_3 (List.mem_of_getElem? (i := 88) rfl)) rfl
theorem mw3_89 : Cond.lays RX3 RX3 "next" "I" ∈ aL := aL_in (tb_3 (List.mem_of_getElem? (i := 89) rfl)) rfl
theorem mw3_90 : Cond.soleField RX3 "next" ∈ aL := aL_in (tb_3 (List.mem_of_getElem? (i := 90) rfl)) rfl
theorem mw3_91 : Cond.laysFinal RX3 RX3 "nextHold" "[I" ∈ aL := aL_in (tb_3 (List.mem_of_getElem? (i := 91) rfl)) rfl
theorem mw3_92 : Cond.soleField RX3 "nextHold" ∈ aL := aL_in (tb_3 (List.mem_of_getElem? (i := 92) rfl)) rfl
theorem mw3_93 : Cond.laysFinal RX3 RX3 "keys" "[J" ∈ aL := aL_in (tb_3 (List.mem_of_getElem? (i := 93) rfl)) rfl
theorem mw3_94 : Cond.soleField RX3 "keys" ∈ aL := aL_in (tb_3 (List.mem_of_getElem? (i := 94) rfl)) rfl
theorem mw3_95 : Cond.laysFinal RX3 RX3 "table" "[I" ∈ aL := aL_in (tb_3 (List.mem_of_getElem? (i := 95) rfl)) rfl
theorem mw3_96 : Cond.soleField RX3 "table" ∈ aL := aL_in (tb_3 (List.mem_of_getElem? (i := 96) rfl)) rfl
theorem mw3_97 : Cond.lays RX3 RX3 "drawing" "I" ∈ aL := aL_in (tb_3 (List.mem_of_getElem? (i := 97) rfl)) rfl
theorem mw3_98 : Cond.soleField RX3 "drawing" ∈ aL := aL_in (tb_3 (List.mem_of_getElem? (i := 98) rfl)) rfl
theorem mw3_99 : Cond.laysFinal RX3 RX3 "degree" "[I" ∈ aL := aL_in (tb_3 (List.mem_of_getElem? (i := 99) rfl)) rfl
theorem mw3_100 : Cond.soleField RX3 "degree" ∈ aL := aL_in (tb_3 (List.mem_of_getElem? (i := 100) rfl)) rfl
theorem mw3_101 : Cond.laysFinal RX3 RX3 "seen" "[Z" ∈ aL := aL_in (tb_3 (List.mem_of_getElem? (i := 101) rfl)) rfl
theorem mw3_102 : Cond.soleField RX3 "seen" ∈ aL := aL_in (tb_3 (List.mem_of_getElem? (i := 102) rfl)) rfl
theorem mw3_104 : Cond.arrayClass FieldType.long ∈ aL := aL_in (tb_3 (List.mem_of_getElem? (i := 104) rfl)) rfl
theorem mw3_105 : Cond.methodLink RL 78 yX3_thrown ∈ aL := aL_in (tb_3 (List.mem_of_getElem? (i := 105) rfl)) rfl
theorem mw3_106 : Cond.instanceMethod yX3_thrown ∈ aL := aL_in (tb_3 (List.mem_of_getElem? (i := 106) rfl)) rfl
theorem mw3_107 : Cond.selects RX3 yX3_thrown yX3_thrown ∈ aL := aL_in (tb_3 (List.mem_of_getElem? (i := 107) rfl)) rfl
theorem mw3_108 : Cond.code yX3_thrown cX3_thrown 1 (Option.some FieldType.int) ∈ aL := aL_in (tb_3 (List.mem_of_getElem? (i := 108) rfl)) rfl
theorem mw3_109 : Cond.methodLink RL 73 yX3_edges ∈ aL := aL_in (tb_3 (List.mem_of_getElem? (i := 109) rfl)) rfl
theorem mw3_110 : Cond.instanceMethod yX3_edges ∈ aL := aL_in (tb_3 (List.mem_of_getElem? (i := 110) rfl)) rfl
theorem mw3_111 : Cond.selects RX3 yX3_edges yX3_edges ∈ aL := aL_in (tb_3 (List.mem_of_getElem? (i := 111) rfl)) rfl
theorem mw3_112 : Cond.code yX3_edges cX3_edges 1 (Option.some FieldType.int) ∈ aL := aL_in (tb_3 (List.mem_of_getElem? (i := 112) rfl)) rfl
theorem mw3_113 : Cond.methodLink RL 77 yX3_point ∈ aL := aL_in (tb_3 (List.mem_of_getElem? (i := 113) rfl)) rfl
theorem mw3_114 : Cond.instanceMethod yX3_point ∈ aL := aL_in (tb_3 (List.mem_of_getElem? (i := 114) rfl)) rfl
theorem mw3_115 : Cond.selects RX3 yX3_point yX3_point ∈ aL := aL_in (tb_3 (List.mem_of_getElem? (i := 115) rfl)) rfl
theorem mw3_116 : Cond.code yX3_point cX3_point 3 (Option.some FieldType.int) ∈ aL := aL_in (tb_3 (List.mem_of_getElem? (i := 116) rfl)) rfl
theorem mw3_117 : Cond.methodLink RX3 196 yX3_isEdge ∈ aL := aL_in (tb_3 (List.mem_of_getElem? (i := 117) rfl)) rfl
theorem mw3_119 : Cond.instanceMethod yX3_isEdge ∈ aL := aL_in (tb_3 (List.mem_of_getElem? (i := 119) rfl)) rfl
theorem mw3_120 : Cond.code yX3_isEdge cX3_isEdge 2 (Option.some FieldType.boolean) ∈ aL := aL_in (tb_3 (List.mem_of_getElem? (i := 120) rfl)) rfl
theorem mw3_121 : Cond.methodLink RL 84 yX3_clue ∈ aL := aL_in (tb_3 (List.mem_of_getElem? (i := 121) rfl)) rfl
theorem mw3_122 : Cond.instanceMethod yX3_clue ∈ aL := aL_in (tb_3 (List.mem_of_getElem? (i := 122) rfl)) rfl
theorem mw3_123 : Cond.selects RX3 yX3_clue yX3_clue ∈ aL := aL_in (tb_3 (List.mem_of_getElem? (i := 123) rfl)) rfl
theorem mw3_124 : Cond.code yX3_clue cX3_clue 5 none ∈ aL := aL_in (tb_3 (List.mem_of_getElem? (i := 124) rfl)) rfl
theorem mw3_125 : Cond.methodLink RL 140 yX3_clueOf ∈ aL := aL_in (tb_3 (List.mem_of_getElem? (i := 125) rfl)) rfl
theorem mw3_126 : Cond.instanceMethod yX3_clueOf ∈ aL := aL_in (tb_3 (List.mem_of_getElem? (i := 126) rfl)) rfl
theorem mw3_127 : Cond.selects RX3 yX3_clueOf yX3_clueOf ∈ aL := aL_in (tb_3 (List.mem_of_getElem? (i := 127) rfl)) rfl
theorem mw3_128 : Cond.code yX3_clueOf cX3_clueOf 4 (Option.some FieldType.int) ∈ aL := aL_in (tb_3 (List.mem_of_getElem? (i := 128) rfl)) rfl
theorem mw3_129 : Cond.methodLink RL 88 yX3_count ∈ aL := aL_in (tb_3 (List.mem_of_getElem? (i := 129) rfl)) rfl
theorem mw3_130 : Cond.instanceMethod yX3_count ∈ aL := aL_in (tb_3 (List.mem_of_getElem? (i := 130) rfl)) rfl
theorem mw3_131 : Cond.selects RX3 yX3_count yX3_count ∈ aL := aL_in (tb_3 (List.mem_of_getElem? (i := 131) rfl)) rfl
theorem mw3_132 : Cond.code yX3_count cX3_count 1 (Option.some FieldType.int) ∈ aL := aL_in (tb_3 (List.mem_of_getElem? (i := 132) rfl)) rfl
theorem mw3_133 : Cond.methodLink RX3 181 yX3_find ∈ aL := aL_in (tb_3 (List.mem_of_getElem? (i := 133) rfl)) rfl
theorem mw3_135 : Cond.instanceMethod yX3_find ∈ aL := aL_in (tb_3 (List.mem_of_getElem? (i := 135) rfl)) rfl
theorem mw3_136 : Cond.code yX3_find cX3_find 2 none ∈ aL := aL_in (tb_3 (List.mem_of_getElem? (i := 136) rfl)) rfl
theorem mw3_137 : Cond.methodLink RX3 162 yX3_keepsClues ∈ aL := aL_in (tb_3 (List.mem_of_getElem? (i := 137) rfl)) rfl
theorem mw3_139 : Cond.instanceMethod yX3_keepsClues ∈ aL := aL_in (tb_3 (List.mem_of_getElem? (i := 139) rfl)) rfl
theorem mw3_140 : Cond.code yX3_keepsClues cX3_keepsClues 3 (Option.some FieldType.boolean) ∈ aL := aL_in (tb_3 (List.mem_of_getElem? (i := 140) rfl)) rfl
theorem mw3_141 : Cond.methodLink RX3 149 yX3_sides ∈ aL := aL_in (tb_3 (List.mem_of_getElem? (i := 141) rfl)) rfl
theorem mw3_143 : Cond.instanceMethod yX3_sides ∈ aL := aL_in (tb_3 (List.mem_of_getElem? (i := 143) rfl)) rfl
theorem mw3_144 : Cond.code yX3_sides cX3_sides 5 (Option.some FieldType.int) ∈ aL := aL_in (tb_3 (List.mem_of_getElem? (i := 144) rfl)) rfl
theorem mw3_145 : Cond.methodLink RL 91 yX3_width ∈ aL := aL_in (tb_3 (List.mem_of_getElem? (i := 145) rfl)) rfl
theorem mw3_146 : Cond.instanceMethod yX3_width ∈ aL := aL_in (tb_3 (List.mem_of_getElem? (i := 146) rfl)) rfl
theorem mw3_147 : Cond.selects RX3 yX3_width yX3_width ∈ aL := aL_in (tb_3 (List.mem_of_getElem? (i := 147) rfl)) rfl
theorem mw3_148 : Cond.code yX3_width cX3_width 3 (Option.some FieldType.int) ∈ aL := aL_in (tb_3 (List.mem_of_getElem? (i := 148) rfl)) rfl
theorem mw3_149 : Cond.methodLink RX3 199 yX3_measureLevels ∈ aL := aL_in (tb_3 (List.mem_of_getElem? (i := 149) rfl)) rfl
theorem mw3_151 : Cond.instanceMethod yX3_measureLevels ∈ aL := aL_in (tb_3 (List.mem_of_getElem? (i := 151) rfl)) rfl
theorem mw3_152 : Cond.code yX3_measureLevels cX3_measureLevels 3 none ∈ aL := aL_in (tb_3 (List.mem_of_getElem? (i := 152) rfl)) rfl
theorem mw3_153 : Cond.methodLink RX3 187 yX3_wipe ∈ aL := aL_in (tb_3 (List.mem_of_getElem? (i := 153) rfl)) rfl
theorem mw3_155 : Cond.instanceMethod yX3_wipe ∈ aL := aL_in (tb_3 (List.mem_of_getElem? (i := 155) rfl)) rfl
theorem mw3_156 : Cond.code yX3_wipe cX3_wipe 2 none ∈ aL := aL_in (tb_3 (List.mem_of_getElem? (i := 156) rfl)) rfl
theorem mw3_157 : Cond.methodLink RX3 190 yX3_isUseful ∈ aL := aL_in (tb_3 (List.mem_of_getElem? (i := 157) rfl)) rfl
theorem mw3_159 : Cond.instanceMethod yX3_isUseful ∈ aL := aL_in (tb_3 (List.mem_of_getElem? (i := 159) rfl)) rfl
theorem mw3_160 : Cond.code yX3_isUseful cX3_isUseful 6 (Option.some FieldType.boolean) ∈ aL := aL_in (tb_3 (List.mem_of_getElem? (i := 160) rfl)) rfl
theorem mw3_161 : Cond.methodLink RX3 193 yX3_offer ∈ aL := aL_in (tb_3 (List.mem_of_getElem? (i := 161) rfl)) rfl
theorem mw3_163 : Cond.instanceMethod yX3_offer ∈ aL := aL_in (tb_3 (List.mem_of_getElem? (i := 163) rfl)) rfl
theorem mw3_164 : Cond.code yX3_offer cX3_offer 6 none ∈ aL := aL_in (tb_3 (List.mem_of_getElem? (i := 164) rfl)) rfl
theorem mw3_165 : Cond.methodLink RX3 169 yX3_isAlive ∈ aL := aL_in (tb_3 (List.mem_of_getElem? (i := 165) rfl)) rfl
theorem mw3_167 : Cond.instanceMethod yX3_isAlive ∈ aL := aL_in (tb_3 (List.mem_of_getElem? (i := 167) rfl)) rfl
theorem mw3_168 : Cond.code yX3_isAlive cX3_isAlive 6 (Option.some FieldType.boolean) ∈ aL := aL_in (tb_3 (List.mem_of_getElem? (i := 168) rfl)) rfl
theorem mw3_169 : Cond.methodLink RX3 165 yX3_isCellAlive ∈ aL := aL_in (tb_3 (List.mem_of_getElem? (i := 169) rfl)) rfl
theorem mw3_171 : Cond.instanceMethod yX3_isCellAlive ∈ aL := aL_in (tb_3 (List.mem_of_getElem? (i := 171) rfl)) rfl
theorem mw3_172 : Cond.code yX3_isCellAlive cX3_isCellAlive 5 (Option.some FieldType.boolean) ∈ aL := aL_in (tb_3 (List.mem_of_getElem? (i := 172) rfl)) rfl
theorem mw3_173 : Cond.methodLink RX3 172 yX3_trace ∈ aL := aL_in (tb_3 (List.mem_of_getElem? (i := 173) rfl)) rfl
theorem mw3_175 : Cond.instanceMethod yX3_trace ∈ aL := aL_in (tb_3 (List.mem_of_getElem? (i := 175) rfl)) rfl
theorem mw3_176 : Cond.code yX3_trace cX3_trace 7 (Option.some FieldType.long) ∈ aL := aL_in (tb_3 (List.mem_of_getElem? (i := 176) rfl)) rfl
theorem mw3_177 : Cond.constantLong RX3 176 (-7046029254386353131 : Int64) ∈ aL := aL_in (tb_3 (List.mem_of_getElem? (i := 177) rfl)) rfl
theorem mw3_178 : Cond.methodLink RL 95 yX3_nodes ∈ aL := aL_in (tb_3 (List.mem_of_getElem? (i := 178) rfl)) rfl
theorem mw3_179 : Cond.instanceMethod yX3_nodes ∈ aL := aL_in (tb_3 (List.mem_of_getElem? (i := 179) rfl)) rfl
theorem mw3_180 : Cond.selects RX3 yX3_nodes yX3_nodes ∈ aL := aL_in (tb_3 (List.mem_of_getElem? (i := 180) rfl)) rfl
theorem mw3_181 : Cond.code yX3_nodes cX3_nodes 3 (Option.some FieldType.int) ∈ aL := aL_in (tb_3 (List.mem_of_getElem? (i := 181) rfl)) rfl
theorem mw3_182 : Cond.methodLink RL 99 yX3_has ∈ aL := aL_in (tb_3 (List.mem_of_getElem? (i := 182) rfl)) rfl
theorem mw3_183 : Cond.instanceMethod yX3_has ∈ aL := aL_in (tb_3 (List.mem_of_getElem? (i := 183) rfl)) rfl
theorem mw3_184 : Cond.selects RX3 yX3_has yX3_has ∈ aL := aL_in (tb_3 (List.mem_of_getElem? (i := 184) rfl)) rfl
theorem mw3_185 : Cond.code yX3_has cX3_has 3 (Option.some FieldType.boolean) ∈ aL := aL_in (tb_3 (List.mem_of_getElem? (i := 185) rfl)) rfl
theorem mw3_186 : Cond.methodLink RX3 202 yX3_isSolution ∈ aL := aL_in (tb_3 (List.mem_of_getElem? (i := 186) rfl)) rfl
theorem mw3_188 : Cond.instanceMethod yX3_isSolution ∈ aL := aL_in (tb_3 (List.mem_of_getElem? (i := 188) rfl)) rfl
theorem mw3_189 : Cond.code yX3_isSolution cX3_isSolution 2 (Option.some FieldType.boolean) ∈ aL := aL_in (tb_3 (List.mem_of_getElem? (i := 189) rfl)) rfl
theorem mw3_190 : Cond.methodLink RL 103 yX3_length ∈ aL := aL_in (tb_3 (List.mem_of_getElem? (i := 190) rfl)) rfl
theorem mw3_191 : Cond.instanceMethod yX3_length ∈ aL := aL_in (tb_3 (List.mem_of_getElem? (i := 191) rfl)) rfl
theorem mw3_192 : Cond.selects RX3 yX3_length yX3_length ∈ aL := aL_in (tb_3 (List.mem_of_getElem? (i := 192) rfl)) rfl
theorem mw3_193 : Cond.code yX3_length cX3_length 2 (Option.some FieldType.int) ∈ aL := aL_in (tb_3 (List.mem_of_getElem? (i := 193) rfl)) rfl
theorem mw3_194 : Cond.methodLink RX3 205 yX3_size ∈ aL := aL_in (tb_3 (List.mem_of_getElem? (i := 194) rfl)) rfl
theorem mw3_196 : Cond.instanceMethod yX3_size ∈ aL := aL_in (tb_3 (List.mem_of_getElem? (i := 196) rfl)) rfl
theorem mw3_197 : Cond.code yX3_size cX3_size 4 (Option.some FieldType.int) ∈ aL := aL_in (tb_3 (List.mem_of_getElem? (i := 197) rfl)) rfl
theorem mw3_198 : Cond.methodLink RL 106 yX3_often ∈ aL := aL_in (tb_3 (List.mem_of_getElem? (i := 198) rfl)) rfl
theorem mw3_199 : Cond.instanceMethod yX3_often ∈ aL := aL_in (tb_3 (List.mem_of_getElem? (i := 199) rfl)) rfl
theorem mw3_200 : Cond.selects RX3 yX3_often yX3_often ∈ aL := aL_in (tb_3 (List.mem_of_getElem? (i := 200) rfl)) rfl
theorem mw3_201 : Cond.code yX3_often cX3_often 2 (Option.some FieldType.int) ∈ aL := aL_in (tb_3 (List.mem_of_getElem? (i := 201) rfl)) rfl
theorem mw3_202 : Cond.methodLink RX3 208 yX3_withAll ∈ aL := aL_in (tb_3 (List.mem_of_getElem? (i := 202) rfl)) rfl
theorem mw3_204 : Cond.instanceMethod yX3_withAll ∈ aL := aL_in (tb_3 (List.mem_of_getElem? (i := 204) rfl)) rfl
theorem mw3_205 : Cond.code yX3_withAll cX3_withAll 4 (Option.some FieldType.int) ∈ aL := aL_in (tb_3 (List.mem_of_getElem? (i := 205) rfl)) rfl
theorem mw3_206 : Cond.methodLink RL 109 yX3_draw ∈ aL := aL_in (tb_3 (List.mem_of_getElem? (i := 206) rfl)) rfl
theorem mw3_207 : Cond.instanceMethod yX3_draw ∈ aL := aL_in (tb_3 (List.mem_of_getElem? (i := 207) rfl)) rfl
theorem mw3_208 : Cond.selects RX3 yX3_draw yX3_draw ∈ aL := aL_in (tb_3 (List.mem_of_getElem? (i := 208) rfl)) rfl
theorem mw3_209 : Cond.code yX3_draw cX3_draw 2 (Option.some FieldType.boolean) ∈ aL := aL_in (tb_3 (List.mem_of_getElem? (i := 209) rfl)) rfl
theorem mw3_210 : Cond.methodLink RL 113 yX3_copy ∈ aL := aL_in (tb_3 (List.mem_of_getElem? (i := 210) rfl)) rfl
theorem mw3_211 : Cond.instanceMethod yX3_copy ∈ aL := aL_in (tb_3 (List.mem_of_getElem? (i := 211) rfl)) rfl
theorem mw3_212 : Cond.selects RX3 yX3_copy yX3_copy ∈ aL := aL_in (tb_3 (List.mem_of_getElem? (i := 212) rfl)) rfl
theorem mw3_213 : Cond.code yX3_copy cX3_copy 2 none ∈ aL := aL_in (tb_3 (List.mem_of_getElem? (i := 213) rfl)) rfl
theorem mw3_214 : Cond.methodLink RL 117 yX3_drawn ∈ aL := aL_in (tb_3 (List.mem_of_getElem? (i := 214) rfl)) rfl
theorem mw3_215 : Cond.instanceMethod yX3_drawn ∈ aL := aL_in (tb_3 (List.mem_of_getElem? (i := 215) rfl)) rfl
theorem mw3_216 : Cond.selects RX3 yX3_drawn yX3_drawn ∈ aL := aL_in (tb_3 (List.mem_of_getElem? (i := 216) rfl)) rfl
theorem mw3_217 : Cond.code yX3_drawn cX3_drawn 1 (Option.some FieldType.int) ∈ aL := aL_in (tb_3 (List.mem_of_getElem? (i := 217) rfl)) rfl
theorem mw3_218 : Cond.methodLink RL 122 yX3_isLoop ∈ aL := aL_in (tb_3 (List.mem_of_getElem? (i := 218) rfl)) rfl
theorem mw3_219 : Cond.instanceMethod yX3_isLoop ∈ aL := aL_in (tb_3 (List.mem_of_getElem? (i := 219) rfl)) rfl
theorem mw3_220 : Cond.selects RX3 yX3_isLoop yX3_isLoop ∈ aL := aL_in (tb_3 (List.mem_of_getElem? (i := 220) rfl)) rfl
theorem mw3_221 : Cond.code yX3_isLoop cX3_isLoop 1 (Option.some FieldType.boolean) ∈ aL := aL_in (tb_3 (List.mem_of_getElem? (i := 221) rfl)) rfl
theorem mw3_222 : Cond.methodLink RL 126 yX3_rank ∈ aL := aL_in (tb_3 (List.mem_of_getElem? (i := 222) rfl)) rfl
theorem mw3_223 : Cond.instanceMethod yX3_rank ∈ aL := aL_in (tb_3 (List.mem_of_getElem? (i := 223) rfl)) rfl
theorem mw3_224 : Cond.selects RX3 yX3_rank yX3_rank ∈ aL := aL_in (tb_3 (List.mem_of_getElem? (i := 224) rfl)) rfl
theorem mw3_225 : Cond.code yX3_rank cX3_rank 2 (Option.some FieldType.int) ∈ aL := aL_in (tb_3 (List.mem_of_getElem? (i := 225) rfl)) rfl
theorem mw3_226 : Cond.methodLink RL 130 yX3_above ∈ aL := aL_in (tb_3 (List.mem_of_getElem? (i := 226) rfl)) rfl
theorem mw3_227 : Cond.instanceMethod yX3_above ∈ aL := aL_in (tb_3 (List.mem_of_getElem? (i := 227) rfl)) rfl
theorem mw3_228 : Cond.selects RX3 yX3_above yX3_above ∈ aL := aL_in (tb_3 (List.mem_of_getElem? (i := 228) rfl)) rfl
theorem mw3_229 : Cond.code yX3_above cX3_above 1 (Option.some FieldType.int) ∈ aL := aL_in (tb_3 (List.mem_of_getElem? (i := 229) rfl)) rfl
theorem mw3_230 : Cond.methodLink RL 134 yX3_alive ∈ aL := aL_in (tb_3 (List.mem_of_getElem? (i := 230) rfl)) rfl
theorem mw3_231 : Cond.instanceMethod yX3_alive ∈ aL := aL_in (tb_3 (List.mem_of_getElem? (i := 231) rfl)) rfl
theorem mw3_232 : Cond.selects RX3 yX3_alive yX3_alive ∈ aL := aL_in (tb_3 (List.mem_of_getElem? (i := 232) rfl)) rfl
theorem mw3_233 : Cond.code yX3_alive cX3_alive 4 (Option.some FieldType.int) ∈ aL := aL_in (tb_3 (List.mem_of_getElem? (i := 233) rfl)) rfl
theorem mw3_234 : Cond.methodLink RL 137 yX3_spare ∈ aL := aL_in (tb_3 (List.mem_of_getElem? (i := 234) rfl)) rfl
theorem mw3_235 : Cond.instanceMethod yX3_spare ∈ aL := aL_in (tb_3 (List.mem_of_getElem? (i := 235) rfl)) rfl
theorem mw3_236 : Cond.selects RX3 yX3_spare yX3_spare ∈ aL := aL_in (tb_3 (List.mem_of_getElem? (i := 236) rfl)) rfl
theorem mw3_237 : Cond.code yX3_spare cX3_spare 4 (Option.some FieldType.int) ∈ aL := aL_in (tb_3 (List.mem_of_getElem? (i := 237) rfl)) rfl
theorem mw3_238 : Cond.methodLink RX3 214 yX3_fail ∈ aL := aL_in (tb_3 (List.mem_of_getElem? (i := 238) rfl)) rfl
theorem mw4_0 : Cond.instanceMethod yX3_fail ∈ aL := aL_in (tb_4 (List.mem_of_getElem? (i := 0) rfl)) rfl
theorem mw4_1 : Cond.code yX3_fail cX3_fail 2 (Option.some FieldType.int) ∈ aL := aL_in (tb_4 (List.mem_of_getElem? (i := 1) rfl)) rfl
theorem msel0 : Cond.selects RX2 yX2_fresh yX2_fresh ∈ aL := aL_in (List.mem_append_left _ (List.mem_of_getElem? (i := 0) rfl)) rfl
theorem msel1 : Cond.selects RX0 yX0_nodeAfter yX0_nodeAfter ∈ aL := aL_in (List.mem_append_left _ (List.mem_of_getElem? (i := 1) rfl)) rfl
theorem msel2 : Cond.selects RX1 yX1_sideAfter yX1_sideAfter ∈ aL := aL_in (List.mem_append_left _ (List.mem_of_getElem? (i := 2) rfl)) rfl
theorem msel3 : Cond.selects RX0 yX0_fillWays yX0_fillWays ∈ aL := aL_in (List.mem_append_left _ (List.mem_of_getElem? (i := 3) rfl)) rfl
theorem msel4 : Cond.selects RX2 yX2_isNoEdge yX2_isNoEdge ∈ aL := aL_in (List.mem_append_left _ (List.mem_of_getElem? (i := 4) rfl)) rfl
theorem msel6 : Cond.selects RX2 yX2_isNoCell yX2_isNoCell ∈ aL := aL_in (List.mem_append_left _ (List.mem_of_getElem? (i := 6) rfl)) rfl
theorem msel7 : Cond.selects RX2 yX2_setClue yX2_setClue ∈ aL := aL_in (List.mem_append_left _ (List.mem_of_getElem? (i := 7) rfl)) rfl
theorem msel8 : Cond.selects RX3 yX3_cell yX3_cell ∈ aL := aL_in (List.mem_append_left _ (List.mem_of_getElem? (i := 8) rfl)) rfl
theorem msel9 : Cond.selects RX3 yX3_join yX3_join ∈ aL := aL_in (List.mem_append_left _ (List.mem_of_getElem? (i := 9) rfl)) rfl
theorem msel10 : Cond.selects RX3 yX3_meet yX3_meet ∈ aL := aL_in (List.mem_append_left _ (List.mem_of_getElem? (i := 10) rfl)) rfl
theorem msel11 : Cond.selects RX3 yX3_border yX3_border ∈ aL := aL_in (List.mem_append_left _ (List.mem_of_getElem? (i := 11) rfl)) rfl
theorem msel12 : Cond.selects RX3 yX3_findLoops yX3_findLoops ∈ aL := aL_in (List.mem_append_left _ (List.mem_of_getElem? (i := 12) rfl)) rfl
theorem msel13 : Cond.selects RX3 yX3_borderOf yX3_borderOf ∈ aL := aL_in (List.mem_append_left _ (List.mem_of_getElem? (i := 13) rfl)) rfl
theorem msel14 : Cond.selects RX3 yX3_isLoopSet yX3_isLoopSet ∈ aL := aL_in (List.mem_append_left _ (List.mem_of_getElem? (i := 14) rfl)) rfl
theorem msel15 : Cond.selects RX3 yX3_measure yX3_measure ∈ aL := aL_in (List.mem_append_left _ (List.mem_of_getElem? (i := 15) rfl)) rfl
theorem msel16 : Cond.selects RX3 yX3_isRing yX3_isRing ∈ aL := aL_in (List.mem_append_left _ (List.mem_of_getElem? (i := 16) rfl)) rfl
theorem msel17 : Cond.selects RX3 yX3_unseen yX3_unseen ∈ aL := aL_in (List.mem_append_left _ (List.mem_of_getElem? (i := 17) rfl)) rfl
theorem msel18 : Cond.selects RX3 yX3_isThin yX3_isThin ∈ aL := aL_in (List.mem_append_left _ (List.mem_of_getElem? (i := 18) rfl)) rfl
theorem msel19 : Cond.selects RX3 yX3_hasEnds yX3_hasEnds ∈ aL := aL_in (List.mem_append_left _ (List.mem_of_getElem? (i := 19) rfl)) rfl
theorem msel20 : Cond.selects RX3 yX3_walk yX3_walk ∈ aL := aL_in (List.mem_append_left _ (List.mem_of_getElem? (i := 20) rfl)) rfl
theorem msel21 : Cond.selects RX3 yX3_onward yX3_onward ∈ aL := aL_in (List.mem_append_left _ (List.mem_of_getElem? (i := 21) rfl)) rfl
theorem msel22 : Cond.selects RX3 yX3_isEdge yX3_isEdge ∈ aL := aL_in (List.mem_append_left _ (List.mem_of_getElem? (i := 22) rfl)) rfl
theorem msel23 : Cond.selects RX3 yX3_find yX3_find ∈ aL := aL_in (List.mem_append_left _ (List.mem_of_getElem? (i := 23) rfl)) rfl
theorem msel24 : Cond.selects RX3 yX3_keepsClues yX3_keepsClues ∈ aL := aL_in (List.mem_append_left _ (List.mem_of_getElem? (i := 24) rfl)) rfl
theorem msel25 : Cond.selects RX3 yX3_sides yX3_sides ∈ aL := aL_in (List.mem_append_left _ (List.mem_of_getElem? (i := 25) rfl)) rfl
theorem msel26 : Cond.selects RX3 yX3_measureLevels yX3_measureLevels ∈ aL := aL_in (List.mem_append_left _ (List.mem_of_getElem? (i := 26) rfl)) rfl
theorem msel27 : Cond.selects RX3 yX3_wipe yX3_wipe ∈ aL := aL_in (List.mem_append_left _ (List.mem_of_getElem? (i := 27) rfl)) rfl
theorem msel28 : Cond.selects RX3 yX3_isUseful yX3_isUseful ∈ aL := aL_in (List.mem_append_left _ (List.mem_of_getElem? (i := 28) rfl)) rfl
theorem msel29 : Cond.selects RX3 yX3_offer yX3_offer ∈ aL := aL_in (List.mem_append_left _ (List.mem_of_getElem? (i := 29) rfl)) rfl
theorem msel30 : Cond.selects RX3 yX3_isAlive yX3_isAlive ∈ aL := aL_in (List.mem_append_left _ (List.mem_of_getElem? (i := 30) rfl)) rfl
theorem msel31 : Cond.selects RX3 yX3_isCellAlive yX3_isCellAlive ∈ aL := aL_in (List.mem_append_left _ (List.mem_of_getElem? (i := 31) rfl)) rfl
theorem msel32 : Cond.selects RX3 yX3_trace yX3_trace ∈ aL := aL_in (List.mem_append_left _ (List.mem_of_getElem? (i := 32) rfl)) rfl
theorem msel33 : Cond.selects RX3 yX3_isSolution yX3_isSolution ∈ aL := aL_in (List.mem_append_left _ (List.mem_of_getElem? (i := 33) rfl)) rfl
theorem msel34 : Cond.selects RX3 yX3_size yX3_size ∈ aL := aL_in (List.mem_append_left _ (List.mem_of_getElem? (i := 34) rfl)) rfl
theorem msel35 : Cond.selects RX3 yX3_withAll yX3_withAll ∈ aL := aL_in (List.mem_append_left _ (List.mem_of_getElem? (i := 35) rfl)) rfl
theorem msel36 : Cond.selects RX3 yX3_fail yX3_fail ∈ aL := aL_in (List.mem_append_left _ (List.mem_of_getElem? (i := 36) rfl)) rfl
end
section
/-! The judgement V: a frame at pc with the listed locals and stack, over a world of cells; the heap, the locals' array and the facts of the method's frame are inside it. -/
abbrev VK : Type := (Program × Env × State × MethodId × Array Value) × (List Frame × Method × Code) × ((Nat → Prop) × Heap) × (State → Prop)
def nestW : Cond := Cond.methodLinkNest RX0 55 yX2_hasBit RX2
def VC (l : Launch) (D : va_G) (tys : List (ClassId × FieldType)) (cc : ByteArray) (nL : Nat) (own : String) (p : Program) (s : State) (m : MethodId) (args : Array Value) (meth : Method) (c : Code) (A : Nat → Prop) (H0 : Heap) : Prop :=
  p.tables.exec = Jvm.exec ∧ c.code = cc ∧ c.maxLocals = nL ∧ s.vm.findClass own = some m.cls ∧ (∀ w ∈ aL, w.before args s = true) ∧ va_K D vwCl tys s ∧ (∀ q, H0.size ≤ q → A q) ∧ meth.locks = false ∧ va_Nw nestW s ∧ l.flags = flags0
def V (k : VK) (l : Launch) (D : va_G) (tys : List (ClassId × FieldType)) (R : Room) (cc : ByteArray) (nL : Nat) (own : String) (w : va_W) (cells slots pc : Nat) (lv : List (Nat × Value)) (st : List Value) : Prop :=
  VC l D tys cc nL own k.1.1 k.1.2.2.1 k.1.2.2.2.1 k.1.2.2.2.2 k.2.1.2.1 k.2.1.2.2 k.2.2.1.1 k.2.2.1.2 →
  ∀ (H : Heap) (locs : List Loc) (ls : Array Slot), va_P D vwCl w H → va_D k.2.2.1.1 w → va_S k.2.2.1.1 k.2.2.1.2 H locs → lv_has ls nL lv →
    W k.1.1 l k.1.2.1 R k.1.2.2.1 k.1.2.2.2.1 k.1.2.2.2.2 k.2.1.1 k.2.1.2.1 k.2.1.2.2 H locs cells slots k.2.2.2 (F0 k.1.2.2.2.1 pc ls st)
def bI (b : Bool) : Int32 := if b then 1 else 0
/-- what a method leaves -/
def QCt (D : va_G) (tys : List (ClassId × FieldType)) (A : Nat → Prop) (Po : Option Value → va_W → Prop) : Array Value → State → Outcome → State → Prop := fun _ st oc t =>
  (∃ (r : Option Value) (u : va_W), oc = .returned r ∧ Po r u ∧ va_P D vwCl u t.heap ∧ va_K D vwCl tys t ∧ va_D A u) ∧ va_F A st t
def PCt (D : va_G) (tys : List (ClassId × FieldType)) (w : va_W) (sz : Nat) : State → Prop := fun U => U.heap.size = sz ∧ va_P D vwCl w U.heap ∧ va_K D vwCl tys U ∧ va_D (fun _ => True) w ∧ va_Nw nestW U
/-- a method's contract: from the world w with the arguments av it returns r and leaves the world u, with Po r u -/
def Ct (l : Launch) (y : MethodName) (cc : ByteArray) (n : Nat) (ret : Option FieldType) (rm : Room) (D : va_G) (tys tys2 : List (ClassId × FieldType)) (w : va_W) (av : List Value) (Po : Option Value → va_W → Prop) (mc ms : Nat) : Prop :=
  ∀ sz : Nat, Met l y (Cond.code y cc n ret :: aL) rm (va_Pc av (PCt D tys w sz)) (QCt D tys2 (va_A w sz) Po) mc ms (va_A w sz)
/-- the end that a method's body owes -/
def VRet (k : VK) (D : va_G) (tys2 : List (ClassId × FieldType)) (ret : Option FieldType) (Po : Option Value → va_W → Prop) (mc ms : Nat) : Prop :=
  k.2.1.2.1.sig.returnType = ret ∧ k.2.2.1.2 = k.1.2.2.1.heap ∧ k.2.2.2 = MQ k.2.1.1 (QCt D tys2 k.2.2.1.1 Po) k.1.2.2.2.2 k.1.2.2.1 mc ms k.2.2.1.1
def VInit (k : VK) : Prop := k.2.1.2.1.name = "<init>"
theorem Ct.of {l : Launch} {y : MethodName} {cc : ByteArray} {n : Nat} {ret : Option FieldType} {rm : Room} {D : va_G} {tys tys2 : List (ClassId × FieldType)} {w : va_W} {av : List Value} {Po : Option Value → va_W → Prop} {mc ms : Nat} (hfl : l.flags = flags0) (hy : plainName y.cls = true) (hn : (lg_sl av).length ≤ n)
    (body : ∀ k : VK, VRet k D tys2 ret Po mc ms → (∀ d, y = ⟨y.cls, "<init>", d⟩ → VInit k) → V k l D tys rm cc n y.cls w 0 0 0 (lv_args 0 av) []) : Ct l y cc n ret rm D tys tys2 w av Po mc ms := by
  intro sz
  refine Met.ofW (cc := cc) (maxL := n) (ret := ret) hy rfl ?_
  intro p e s m args below meth c s₁ B hml hv
  obtain ⟨rfl, hsz, hP, hK, hD0, hN⟩ := hv
  subst hsz
  have hts : ∀ w ∈ aL, w.before av.toArray s = true := fun w hw => atoms_spec (ws := Cond.code y cc n ret :: aL) B.pre w (List.mem_cons_of_mem _ hw)
  have hl := lv_entry av (n := n) hn
  rw [lg_entry_eq]
  have hb := body ((p, e, s, m, av.toArray), (below, meth, c), (va_A w s.heap.size, s.heap), MQ below (QCt D tys2 (va_A w s.heap.size) Po) av.toArray s mc ms (va_A w s.heap.size)) ⟨B.returns, rfl, rfl⟩ (fun d hd => by
    have h1 := (name_of_methodNamed B.named B.method).1
    show meth.name = "<init>"
    rw [h1, hd])
  exact hb ⟨B.exec, B.bytes, hml, findClass_of_methodNamed B.named, hts, hK, fun q h => Or.inr h, B.notSynchronized, hN, hfl⟩ s.heap [] _ hP hD0.self va_S.rf hl

section JV
variable {k : VK} {l : Launch} {D : va_G} {tys : List (ClassId × FieldType)} {R : Room} {cc : ByteArray} {nL : Nat} {own : String} {w : va_W} {cells slots pc : Nat} {lv : List (Nat × Value)} {rest : List Value}
theorem j_iconst {n : Int} {v : Int32} (hdg : decode cc pc = .ok (.iconst n, 1)) (hv : Int32.ofInt n = v) (kk : V k l D tys R cc nL own w cells slots (pc + 1) lv (.int v :: rest)) : V k l D tys R cc nL own w cells slots (pc) lv (rest) := by
  obtain ⟨⟨p, e, s, m, args⟩, ⟨below, meth, c⟩, ⟨A, H0⟩, Q⟩ := k
  intro C H locs ls hP hD hS hl
  obtain ⟨hx, hb, hml, hown, hts, hK, hA, hlk, hN, hfl⟩ := id C
  dsimp only at *
  exact lv_iconst hx hb hdg hv (kk C H locs ls hP hD hS hl)

theorem j_bipush {n : Int} {v : Int32} (hdg : decode cc pc = .ok (.bipush n, 2)) (hv : (Int8.ofInt n).toInt32 = v) (kk : V k l D tys R cc nL own w cells slots (pc + 2) lv (.int v :: rest)) : V k l D tys R cc nL own w cells slots (pc) lv (rest) := by
  obtain ⟨⟨p, e, s, m, args⟩, ⟨below, meth, c⟩, ⟨A, H0⟩, Q⟩ := k
  intro C H locs ls hP hD hS hl
  obtain ⟨hx, hb, hml, hown, hts, hK, hA, hlk, hN, hfl⟩ := id C
  dsimp only at *
  exact lv_bipush hx hb hdg hv (kk C H locs ls hP hD hS hl)

theorem j_sipush {n : Int} {v : Int32} (hdg : decode cc pc = .ok (.sipush n, 3)) (hv : (Int16.ofInt n).toInt32 = v) (kk : V k l D tys R cc nL own w cells slots (pc + 3) lv (.int v :: rest)) : V k l D tys R cc nL own w cells slots (pc) lv (rest) := by
  obtain ⟨⟨p, e, s, m, args⟩, ⟨below, meth, c⟩, ⟨A, H0⟩, Q⟩ := k
  intro C H locs ls hP hD hS hl
  obtain ⟨hx, hb, hml, hown, hts, hK, hA, hlk, hN, hfl⟩ := id C
  dsimp only at *
  exact lv_sipush hx hb hdg hv (kk C H locs ls hP hD hS hl)

theorem j_lconst {n : Fin 2} {v : Int64} (hdg : decode cc pc = .ok (.lconst n, 1)) (hv : Int64.ofNat (n : Nat) = v) (kk : V k l D tys R cc nL own w cells slots (pc + 1) lv (.long v :: rest)) : V k l D tys R cc nL own w cells slots (pc) lv (rest) := by
  obtain ⟨⟨p, e, s, m, args⟩, ⟨below, meth, c⟩, ⟨A, H0⟩, Q⟩ := k
  intro C H locs ls hP hD hS hl
  obtain ⟨hx, hb, hml, hown, hts, hK, hA, hlk, hN, hfl⟩ := id C
  dsimp only at *
  exact lv_lconst hx hb hdg hv (kk C H locs ls hP hD hS hl)

theorem j_ldc2 {index : Nat} {v : Int64} (hc : Cond.constantLong own index v ∈ aL) (hdg : decode cc pc = .ok (.ldc2_w index, 3)) (kk : V k l D tys R cc nL own w cells slots (pc + 3) lv (.long v :: rest)) : V k l D tys R cc nL own w cells slots (pc) lv (rest) := by
  obtain ⟨⟨p, e, s, m, args⟩, ⟨below, meth, c⟩, ⟨A, H0⟩, Q⟩ := k
  intro C H locs ls hP hD hS hl
  obtain ⟨hx, hb, hml, hown, hts, hK, hA, hlk, hN, hfl⟩ := id C
  dsimp only at *
  exact lv_ldc2 hx hb hown (hts _ hc) hdg (kk C H locs ls hP hD hS hl)

theorem j_ldc {index : Nat} {v : Int32} (hc : Cond.constant own index v ∈ aL) (hdg : decode cc pc = .ok (.ldc index, 2)) (kk : V k l D tys R cc nL own w cells slots (pc + 2) lv (.int v :: rest)) : V k l D tys R cc nL own w cells slots (pc) lv (rest) := by
  obtain ⟨⟨p, e, s, m, args⟩, ⟨below, meth, c⟩, ⟨A, H0⟩, Q⟩ := k
  intro C H locs ls hP hD hS hl
  obtain ⟨hx, hb, hml, hown, hts, hK, hA, hlk, hN, hfl⟩ := id C
  dsimp only at *
  exact lv_ldc hx hb hown (hts _ hc) hdg (kk C H locs ls hP hD hS hl)

theorem j_iload_n {j : Fin 4} {i : Nat} {x : Int32} (hdg : decode cc pc = .ok (.iload_n j, 1)) (hi : (j : Nat) = i) (n : Nat) (hn : lv[n]? = some (i, .int x)) (kk : V k l D tys R cc nL own w cells slots (pc + 1) lv (.int x :: rest)) : V k l D tys R cc nL own w cells slots (pc) lv (rest) := by
  obtain ⟨⟨p, e, s, m, args⟩, ⟨below, meth, c⟩, ⟨A, H0⟩, Q⟩ := k
  intro C H locs ls hP hD hS hl
  obtain ⟨hx, hb, hml, hown, hts, hK, hA, hlk, hN, hfl⟩ := id C
  dsimp only at *
  exact lv_iload_n hx hb hdg hi (lv_at hl n hn) (kk C H locs ls hP hD hS hl)

theorem j_iload {i : Nat} {x : Int32} (hdg : decode cc pc = .ok (.iload i, 2)) (n : Nat) (hn : lv[n]? = some (i, .int x)) (kk : V k l D tys R cc nL own w cells slots (pc + 2) lv (.int x :: rest)) : V k l D tys R cc nL own w cells slots (pc) lv (rest) := by
  obtain ⟨⟨p, e, s, m, args⟩, ⟨below, meth, c⟩, ⟨A, H0⟩, Q⟩ := k
  intro C H locs ls hP hD hS hl
  obtain ⟨hx, hb, hml, hown, hts, hK, hA, hlk, hN, hfl⟩ := id C
  dsimp only at *
  exact lv_iload hx hb hdg (lv_at hl n hn) (kk C H locs ls hP hD hS hl)

theorem j_istore_n {j : Fin 4} {i : Nat} {x : Int32} (lv' : List (Nat × Value)) (hdg : decode cc pc = .ok (.istore_n j, 1)) (hi : (j : Nat) = i) (hn : i < nL) (hl' : (i, Value.int x) :: lv.filter (fun q => !(q.1 == i) && !(q.1 + 1 == i && q.2.category == 2)) = lv') (kk : V k l D tys R cc nL own w cells slots (pc + 1) lv' (rest)) : V k l D tys R cc nL own w cells slots (pc) lv (.int x :: rest) := by
  obtain ⟨⟨p, e, s, m, args⟩, ⟨below, meth, c⟩, ⟨A, H0⟩, Q⟩ := k
  intro C H locs ls hP hD hS hl
  obtain ⟨hx, hb, hml, hown, hts, hK, hA, hlk, hN, hfl⟩ := id C
  dsimp only at *
  exact lv_istore_n hx hb hdg hi hl hn hl' (fun ls' h => kk C H locs ls' hP hD hS h)

theorem j_istore {i : Nat} {x : Int32} (lv' : List (Nat × Value)) (hdg : decode cc pc = .ok (.istore i, 2)) (hn : i < nL) (hl' : (i, Value.int x) :: lv.filter (fun q => !(q.1 == i) && !(q.1 + 1 == i && q.2.category == 2)) = lv') (kk : V k l D tys R cc nL own w cells slots (pc + 2) lv' (rest)) : V k l D tys R cc nL own w cells slots (pc) lv (.int x :: rest) := by
  obtain ⟨⟨p, e, s, m, args⟩, ⟨below, meth, c⟩, ⟨A, H0⟩, Q⟩ := k
  intro C H locs ls hP hD hS hl
  obtain ⟨hx, hb, hml, hown, hts, hK, hA, hlk, hN, hfl⟩ := id C
  dsimp only at *
  exact lv_istore hx hb hdg hl hn hl' (fun ls' h => kk C H locs ls' hP hD hS h)

theorem j_lload_n {j : Fin 4} {i : Nat} {x : Int64} (hdg : decode cc pc = .ok (.lload_n j, 1)) (hi : (j : Nat) = i) (n : Nat) (hn : lv[n]? = some (i, .long x)) (kk : V k l D tys R cc nL own w cells slots (pc + 1) lv (.long x :: rest)) : V k l D tys R cc nL own w cells slots (pc) lv (rest) := by
  obtain ⟨⟨p, e, s, m, args⟩, ⟨below, meth, c⟩, ⟨A, H0⟩, Q⟩ := k
  intro C H locs ls hP hD hS hl
  obtain ⟨hx, hb, hml, hown, hts, hK, hA, hlk, hN, hfl⟩ := id C
  dsimp only at *
  exact lv_lload_n hx hb hdg hi (lv_at hl n hn) (kk C H locs ls hP hD hS hl)

theorem j_lload {i : Nat} {x : Int64} (hdg : decode cc pc = .ok (.lload i, 2)) (n : Nat) (hn : lv[n]? = some (i, .long x)) (kk : V k l D tys R cc nL own w cells slots (pc + 2) lv (.long x :: rest)) : V k l D tys R cc nL own w cells slots (pc) lv (rest) := by
  obtain ⟨⟨p, e, s, m, args⟩, ⟨below, meth, c⟩, ⟨A, H0⟩, Q⟩ := k
  intro C H locs ls hP hD hS hl
  obtain ⟨hx, hb, hml, hown, hts, hK, hA, hlk, hN, hfl⟩ := id C
  dsimp only at *
  exact lv_lload hx hb hdg (lv_at hl n hn) (kk C H locs ls hP hD hS hl)

theorem j_lstore_n {j : Fin 4} {i : Nat} {x : Int64} (lv' : List (Nat × Value)) (hdg : decode cc pc = .ok (.lstore_n j, 1)) (hi : (j : Nat) = i) (hn : i + 1 < nL) (hl' : (i, Value.long x) :: lv.filter (fun q => !(q.1 == i) && (!(q.1 == i + 1) && !(q.1 + 1 == i && q.2.category == 2))) = lv') (kk : V k l D tys R cc nL own w cells slots (pc + 1) lv' (rest)) : V k l D tys R cc nL own w cells slots (pc) lv (.long x :: rest) := by
  obtain ⟨⟨p, e, s, m, args⟩, ⟨below, meth, c⟩, ⟨A, H0⟩, Q⟩ := k
  intro C H locs ls hP hD hS hl
  obtain ⟨hx, hb, hml, hown, hts, hK, hA, hlk, hN, hfl⟩ := id C
  dsimp only at *
  exact lv_lstore_n hx hb hdg hi hl hn hl' (fun ls' h => kk C H locs ls' hP hD hS h)

theorem j_lstore {i : Nat} {x : Int64} (lv' : List (Nat × Value)) (hdg : decode cc pc = .ok (.lstore i, 2)) (hn : i + 1 < nL) (hl' : (i, Value.long x) :: lv.filter (fun q => !(q.1 == i) && (!(q.1 == i + 1) && !(q.1 + 1 == i && q.2.category == 2))) = lv') (kk : V k l D tys R cc nL own w cells slots (pc + 2) lv' (rest)) : V k l D tys R cc nL own w cells slots (pc) lv (.long x :: rest) := by
  obtain ⟨⟨p, e, s, m, args⟩, ⟨below, meth, c⟩, ⟨A, H0⟩, Q⟩ := k
  intro C H locs ls hP hD hS hl
  obtain ⟨hx, hb, hml, hown, hts, hK, hA, hlk, hN, hfl⟩ := id C
  dsimp only at *
  exact lv_lstore hx hb hdg hl hn hl' (fun ls' h => kk C H locs ls' hP hD hS h)

theorem j_aload_n {j : Fin 4} {i : Nat} {x : Nat} (hdg : decode cc pc = .ok (.aload_n j, 1)) (hi : (j : Nat) = i) (n : Nat) (hn : lv[n]? = some (i, .ref x)) (kk : V k l D tys R cc nL own w cells slots (pc + 1) lv (.ref x :: rest)) : V k l D tys R cc nL own w cells slots (pc) lv (rest) := by
  obtain ⟨⟨p, e, s, m, args⟩, ⟨below, meth, c⟩, ⟨A, H0⟩, Q⟩ := k
  intro C H locs ls hP hD hS hl
  obtain ⟨hx, hb, hml, hown, hts, hK, hA, hlk, hN, hfl⟩ := id C
  dsimp only at *
  exact lv_aload_n hx hb hdg hi (lv_at hl n hn) (kk C H locs ls hP hD hS hl)

theorem j_aload {i : Nat} {x : Nat} (hdg : decode cc pc = .ok (.aload i, 2)) (n : Nat) (hn : lv[n]? = some (i, .ref x)) (kk : V k l D tys R cc nL own w cells slots (pc + 2) lv (.ref x :: rest)) : V k l D tys R cc nL own w cells slots (pc) lv (rest) := by
  obtain ⟨⟨p, e, s, m, args⟩, ⟨below, meth, c⟩, ⟨A, H0⟩, Q⟩ := k
  intro C H locs ls hP hD hS hl
  obtain ⟨hx, hb, hml, hown, hts, hK, hA, hlk, hN, hfl⟩ := id C
  dsimp only at *
  exact lv_aload hx hb hdg (lv_at hl n hn) (kk C H locs ls hP hD hS hl)

theorem j_astore_n {j : Fin 4} {i : Nat} {x : Nat} (lv' : List (Nat × Value)) (hdg : decode cc pc = .ok (.astore_n j, 1)) (hi : (j : Nat) = i) (hn : i < nL) (hl' : (i, Value.ref x) :: lv.filter (fun q => !(q.1 == i) && !(q.1 + 1 == i && q.2.category == 2)) = lv') (kk : V k l D tys R cc nL own w cells slots (pc + 1) lv' (rest)) : V k l D tys R cc nL own w cells slots (pc) lv (.ref x :: rest) := by
  obtain ⟨⟨p, e, s, m, args⟩, ⟨below, meth, c⟩, ⟨A, H0⟩, Q⟩ := k
  intro C H locs ls hP hD hS hl
  obtain ⟨hx, hb, hml, hown, hts, hK, hA, hlk, hN, hfl⟩ := id C
  dsimp only at *
  exact lv_astore_n hx hb hdg hi hl hn hl' (fun ls' h => kk C H locs ls' hP hD hS h)

theorem j_astore {i : Nat} {x : Nat} (lv' : List (Nat × Value)) (hdg : decode cc pc = .ok (.astore i, 2)) (hn : i < nL) (hl' : (i, Value.ref x) :: lv.filter (fun q => !(q.1 == i) && !(q.1 + 1 == i && q.2.category == 2)) = lv') (kk : V k l D tys R cc nL own w cells slots (pc + 2) lv' (rest)) : V k l D tys R cc nL own w cells slots (pc) lv (.ref x :: rest) := by
  obtain ⟨⟨p, e, s, m, args⟩, ⟨below, meth, c⟩, ⟨A, H0⟩, Q⟩ := k
  intro C H locs ls hP hD hS hl
  obtain ⟨hx, hb, hml, hown, hts, hK, hA, hlk, hN, hfl⟩ := id C
  dsimp only at *
  exact lv_astore hx hb hdg hl hn hl' (fun ls' h => kk C H locs ls' hP hD hS h)

theorem j_iinc {i n0 : Nat} {n : Int} {x v : Int32} (lv' : List (Nat × Value)) (hdg : decode cc pc = .ok (.iinc i n, 3)) (hk : lv[n0]? = some (i, .int x)) (hv : x + Int32.ofInt n = v) (hn : i < nL) (hl' : (i, Value.int v) :: lv.filter (fun q => !(q.1 == i) && !(q.1 + 1 == i && q.2.category == 2)) = lv') (kk : V k l D tys R cc nL own w cells slots (pc + 3) lv' (rest)) : V k l D tys R cc nL own w cells slots (pc) lv (rest) := by
  obtain ⟨⟨p, e, s, m, args⟩, ⟨below, meth, c⟩, ⟨A, H0⟩, Q⟩ := k
  intro C H locs ls hP hD hS hl
  obtain ⟨hx, hb, hml, hown, hts, hK, hA, hlk, hN, hfl⟩ := id C
  dsimp only at *
  exact lv_iinc hx hb hdg hl hk hv hn hl' (fun ls' h => kk C H locs ls' hP hD hS h)

theorem j_sub (ks : List Nat) (lv' : List (Nat × Value)) (hs : lv_pick lv ks = lv') (kk : V k l D tys R cc nL own w cells slots (pc) lv' (rest)) : V k l D tys R cc nL own w cells slots (pc) lv (rest) := by
  obtain ⟨⟨p, e, s, m, args⟩, ⟨below, meth, c⟩, ⟨A, H0⟩, Q⟩ := k
  intro C H locs ls hP hD hS hl
  obtain ⟨hx, hb, hml, hown, hts, hK, hA, hlk, hN, hfl⟩ := id C
  dsimp only at *
  exact kk C H locs ls hP hD hS (lv_sub hl ks hs)

theorem j_world {w' : va_W} (h : w = w') (kk : V k l D tys R cc nL own w' cells slots (pc) lv (rest)) : V k l D tys R cc nL own w cells slots (pc) lv (rest) := h ▸ kk
theorem j_lv {lv' : List (Nat × Value)} (h : lv = lv') (kk : V k l D tys R cc nL own w cells slots (pc) lv' (rest)) : V k l D tys R cc nL own w cells slots (pc) lv (rest) := h ▸ kk
theorem j_st {st' : List Value} (h : rest = st') (kk : V k l D tys R cc nL own w cells slots (pc) lv (st')) : V k l D tys R cc nL own w cells slots (pc) lv (rest) := h ▸ kk
theorem j_topi {x y : Int32} (h : x = y) (kk : V k l D tys R cc nL own w cells slots (pc) lv (.int y :: rest)) : V k l D tys R cc nL own w cells slots (pc) lv (.int x :: rest) := h ▸ kk
theorem j_topl {x y : Int64} (h : x = y) (kk : V k l D tys R cc nL own w cells slots (pc) lv (.long y :: rest)) : V k l D tys R cc nL own w cells slots (pc) lv (.long x :: rest) := h ▸ kk
theorem j_iadd {x y v : Int32} (hdg : decode cc pc = .ok (.iadd, 1)) (hv : x + y = v) (kk : V k l D tys R cc nL own w cells slots (pc + 1) lv (.int v :: rest)) : V k l D tys R cc nL own w cells slots (pc) lv (.int y :: .int x :: rest) := by
  obtain ⟨⟨p, e, s, m, args⟩, ⟨below, meth, c⟩, ⟨A, H0⟩, Q⟩ := k
  intro C H locs ls hP hD hS hl
  obtain ⟨hx, hb, hml, hown, hts, hK, hA, hlk, hN, hfl⟩ := id C
  dsimp only at *
  subst hv
  exact lv_iadd hx hb hdg (kk C H locs ls hP hD hS hl)

theorem j_isub {x y v : Int32} (hdg : decode cc pc = .ok (.isub, 1)) (hv : x - y = v) (kk : V k l D tys R cc nL own w cells slots (pc + 1) lv (.int v :: rest)) : V k l D tys R cc nL own w cells slots (pc) lv (.int y :: .int x :: rest) := by
  obtain ⟨⟨p, e, s, m, args⟩, ⟨below, meth, c⟩, ⟨A, H0⟩, Q⟩ := k
  intro C H locs ls hP hD hS hl
  obtain ⟨hx, hb, hml, hown, hts, hK, hA, hlk, hN, hfl⟩ := id C
  dsimp only at *
  subst hv
  exact lv_isub hx hb hdg (kk C H locs ls hP hD hS hl)

theorem j_imul {x y v : Int32} (hdg : decode cc pc = .ok (.imul, 1)) (hv : x * y = v) (kk : V k l D tys R cc nL own w cells slots (pc + 1) lv (.int v :: rest)) : V k l D tys R cc nL own w cells slots (pc) lv (.int y :: .int x :: rest) := by
  obtain ⟨⟨p, e, s, m, args⟩, ⟨below, meth, c⟩, ⟨A, H0⟩, Q⟩ := k
  intro C H locs ls hP hD hS hl
  obtain ⟨hx, hb, hml, hown, hts, hK, hA, hlk, hN, hfl⟩ := id C
  dsimp only at *
  subst hv
  exact lv_imul hx hb hdg (kk C H locs ls hP hD hS hl)

theorem j_iand {x y v : Int32} (hdg : decode cc pc = .ok (.iand, 1)) (hv : x &&& y = v) (kk : V k l D tys R cc nL own w cells slots (pc + 1) lv (.int v :: rest)) : V k l D tys R cc nL own w cells slots (pc) lv (.int y :: .int x :: rest) := by
  obtain ⟨⟨p, e, s, m, args⟩, ⟨below, meth, c⟩, ⟨A, H0⟩, Q⟩ := k
  intro C H locs ls hP hD hS hl
  obtain ⟨hx, hb, hml, hown, hts, hK, hA, hlk, hN, hfl⟩ := id C
  dsimp only at *
  subst hv
  exact lv_iand hx hb hdg (kk C H locs ls hP hD hS hl)

theorem j_ior {x y v : Int32} (hdg : decode cc pc = .ok (.ior, 1)) (hv : x ||| y = v) (kk : V k l D tys R cc nL own w cells slots (pc + 1) lv (.int v :: rest)) : V k l D tys R cc nL own w cells slots (pc) lv (.int y :: .int x :: rest) := by
  obtain ⟨⟨p, e, s, m, args⟩, ⟨below, meth, c⟩, ⟨A, H0⟩, Q⟩ := k
  intro C H locs ls hP hD hS hl
  obtain ⟨hx, hb, hml, hown, hts, hK, hA, hlk, hN, hfl⟩ := id C
  dsimp only at *
  subst hv
  exact lv_ior hx hb hdg (kk C H locs ls hP hD hS hl)

theorem j_ixor {x y v : Int32} (hdg : decode cc pc = .ok (.ixor, 1)) (hv : x ^^^ y = v) (kk : V k l D tys R cc nL own w cells slots (pc + 1) lv (.int v :: rest)) : V k l D tys R cc nL own w cells slots (pc) lv (.int y :: .int x :: rest) := by
  obtain ⟨⟨p, e, s, m, args⟩, ⟨below, meth, c⟩, ⟨A, H0⟩, Q⟩ := k
  intro C H locs ls hP hD hS hl
  obtain ⟨hx, hb, hml, hown, hts, hK, hA, hlk, hN, hfl⟩ := id C
  dsimp only at *
  subst hv
  exact lv_ixor hx hb hdg (kk C H locs ls hP hD hS hl)

theorem j_ishl {x y v : Int32} (hdg : decode cc pc = .ok (.ishl, 1)) (hv : x <<< (y &&& 31) = v) (kk : V k l D tys R cc nL own w cells slots (pc + 1) lv (.int v :: rest)) : V k l D tys R cc nL own w cells slots (pc) lv (.int y :: .int x :: rest) := by
  obtain ⟨⟨p, e, s, m, args⟩, ⟨below, meth, c⟩, ⟨A, H0⟩, Q⟩ := k
  intro C H locs ls hP hD hS hl
  obtain ⟨hx, hb, hml, hown, hts, hK, hA, hlk, hN, hfl⟩ := id C
  dsimp only at *
  subst hv
  exact lv_ishl hx hb hdg (kk C H locs ls hP hD hS hl)

theorem j_ishr {x y v : Int32} (hdg : decode cc pc = .ok (.ishr, 1)) (hv : x >>> (y &&& 31) = v) (kk : V k l D tys R cc nL own w cells slots (pc + 1) lv (.int v :: rest)) : V k l D tys R cc nL own w cells slots (pc) lv (.int y :: .int x :: rest) := by
  obtain ⟨⟨p, e, s, m, args⟩, ⟨below, meth, c⟩, ⟨A, H0⟩, Q⟩ := k
  intro C H locs ls hP hD hS hl
  obtain ⟨hx, hb, hml, hown, hts, hK, hA, hlk, hN, hfl⟩ := id C
  dsimp only at *
  subst hv
  exact lv_ishr hx hb hdg (kk C H locs ls hP hD hS hl)

theorem j_idiv {x y v : Int32} (hdg : decode cc pc = .ok (.idiv, 1)) (hne : ¬ y = 0) (hv : x / y = v) (kk : V k l D tys R cc nL own w cells slots (pc + 1) lv (.int v :: rest)) : V k l D tys R cc nL own w cells slots (pc) lv (.int y :: .int x :: rest) := by
  obtain ⟨⟨p, e, s, m, args⟩, ⟨below, meth, c⟩, ⟨A, H0⟩, Q⟩ := k
  intro C H locs ls hP hD hS hl
  obtain ⟨hx, hb, hml, hown, hts, hK, hA, hlk, hN, hfl⟩ := id C
  dsimp only at *
  subst hv
  exact lv_idiv hx hb hdg hne (kk C H locs ls hP hD hS hl)

theorem j_irem {x y v : Int32} (hdg : decode cc pc = .ok (.irem, 1)) (hne : ¬ y = 0) (hv : x - x / y * y = v) (kk : V k l D tys R cc nL own w cells slots (pc + 1) lv (.int v :: rest)) : V k l D tys R cc nL own w cells slots (pc) lv (.int y :: .int x :: rest) := by
  obtain ⟨⟨p, e, s, m, args⟩, ⟨below, meth, c⟩, ⟨A, H0⟩, Q⟩ := k
  intro C H locs ls hP hD hS hl
  obtain ⟨hx, hb, hml, hown, hts, hK, hA, hlk, hN, hfl⟩ := id C
  dsimp only at *
  subst hv
  exact lv_irem hx hb hdg hne (kk C H locs ls hP hD hS hl)

theorem j_iushr {x y v : Int32} (hdg : decode cc pc = .ok (.iushr, 1)) (hv : (x.toUInt32 >>> (y.toUInt32 &&& Int32.toUInt32 31)).toInt32 = v) (kk : V k l D tys R cc nL own w cells slots (pc + 1) lv (.int v :: rest)) : V k l D tys R cc nL own w cells slots (pc) lv (.int y :: .int x :: rest) := by
  obtain ⟨⟨p, e, s, m, args⟩, ⟨below, meth, c⟩, ⟨A, H0⟩, Q⟩ := k
  intro C H locs ls hP hD hS hl
  obtain ⟨hx, hb, hml, hown, hts, hK, hA, hlk, hN, hfl⟩ := id C
  dsimp only at *
  first | exact lv_iushr hx hb hdg hv (kk C H locs ls hP hD hS hl) | (subst hv; exact lv_iushr hx hb hdg (kk C H locs ls hP hD hS hl))

theorem j_ladd {x y v : Int64} (hdg : decode cc pc = .ok (.ladd, 1)) (hv : x + y = v) (kk : V k l D tys R cc nL own w cells slots (pc + 1) lv (.long v :: rest)) : V k l D tys R cc nL own w cells slots (pc) lv (.long y :: .long x :: rest) := by
  obtain ⟨⟨p, e, s, m, args⟩, ⟨below, meth, c⟩, ⟨A, H0⟩, Q⟩ := k
  intro C H locs ls hP hD hS hl
  obtain ⟨hx, hb, hml, hown, hts, hK, hA, hlk, hN, hfl⟩ := id C
  dsimp only at *
  subst hv
  exact lv_ladd hx hb hdg (kk C H locs ls hP hD hS hl)

theorem j_lmul {x y v : Int64} (hdg : decode cc pc = .ok (.lmul, 1)) (hv : x * y = v) (kk : V k l D tys R cc nL own w cells slots (pc + 1) lv (.long v :: rest)) : V k l D tys R cc nL own w cells slots (pc) lv (.long y :: .long x :: rest) := by
  obtain ⟨⟨p, e, s, m, args⟩, ⟨below, meth, c⟩, ⟨A, H0⟩, Q⟩ := k
  intro C H locs ls hP hD hS hl
  obtain ⟨hx, hb, hml, hown, hts, hK, hA, hlk, hN, hfl⟩ := id C
  dsimp only at *
  subst hv
  exact lv_lmul hx hb hdg (kk C H locs ls hP hD hS hl)

theorem j_lor {x y v : Int64} (hdg : decode cc pc = .ok (.lor, 1)) (hv : x ||| y = v) (kk : V k l D tys R cc nL own w cells slots (pc + 1) lv (.long v :: rest)) : V k l D tys R cc nL own w cells slots (pc) lv (.long y :: .long x :: rest) := by
  obtain ⟨⟨p, e, s, m, args⟩, ⟨below, meth, c⟩, ⟨A, H0⟩, Q⟩ := k
  intro C H locs ls hP hD hS hl
  obtain ⟨hx, hb, hml, hown, hts, hK, hA, hlk, hN, hfl⟩ := id C
  dsimp only at *
  subst hv
  exact lv_lor hx hb hdg (kk C H locs ls hP hD hS hl)

theorem j_lshl {x v : Int64} {y : Int32} (hdg : decode cc pc = .ok (.lshl, 1)) (hv : x <<< (y.toInt64 &&& 63) = v) (kk : V k l D tys R cc nL own w cells slots (pc + 1) lv (.long v :: rest)) : V k l D tys R cc nL own w cells slots (pc) lv (.int y :: .long x :: rest) := by
  obtain ⟨⟨p, e, s, m, args⟩, ⟨below, meth, c⟩, ⟨A, H0⟩, Q⟩ := k
  intro C H locs ls hP hD hS hl
  obtain ⟨hx, hb, hml, hown, hts, hK, hA, hlk, hN, hfl⟩ := id C
  dsimp only at *
  exact lv_lshl hx hb hdg hv (kk C H locs ls hP hD hS hl)

theorem j_lushr {x v : Int64} {y : Int32} (hdg : decode cc pc = .ok (.lushr, 1)) (hv : (x.toUInt64 >>> (y.toInt64.toUInt64 &&& Int64.toUInt64 63)).toInt64 = v) (kk : V k l D tys R cc nL own w cells slots (pc + 1) lv (.long v :: rest)) : V k l D tys R cc nL own w cells slots (pc) lv (.int y :: .long x :: rest) := by
  obtain ⟨⟨p, e, s, m, args⟩, ⟨below, meth, c⟩, ⟨A, H0⟩, Q⟩ := k
  intro C H locs ls hP hD hS hl
  obtain ⟨hx, hb, hml, hown, hts, hK, hA, hlk, hN, hfl⟩ := id C
  dsimp only at *
  exact lv_lushr hx hb hdg hv (kk C H locs ls hP hD hS hl)

theorem j_l2i {x : Int64} {v : Int32} (hdg : decode cc pc = .ok (.l2i, 1)) (hv : x.toInt32 = v) (kk : V k l D tys R cc nL own w cells slots (pc + 1) lv (.int v :: rest)) : V k l D tys R cc nL own w cells slots (pc) lv (.long x :: rest) := by
  obtain ⟨⟨p, e, s, m, args⟩, ⟨below, meth, c⟩, ⟨A, H0⟩, Q⟩ := k
  intro C H locs ls hP hD hS hl
  obtain ⟨hx, hb, hml, hown, hts, hK, hA, hlk, hN, hfl⟩ := id C
  dsimp only at *
  exact lv_l2i hx hb hdg hv (kk C H locs ls hP hD hS hl)

theorem j_i2l {x : Int32} {v : Int64} (hdg : decode cc pc = .ok (.i2l, 1)) (hv : x.toInt64 = v) (kk : V k l D tys R cc nL own w cells slots (pc + 1) lv (.long v :: rest)) : V k l D tys R cc nL own w cells slots (pc) lv (.int x :: rest) := by
  obtain ⟨⟨p, e, s, m, args⟩, ⟨below, meth, c⟩, ⟨A, H0⟩, Q⟩ := k
  intro C H locs ls hP hD hS hl
  obtain ⟨hx, hb, hml, hown, hts, hK, hA, hlk, hN, hfl⟩ := id C
  dsimp only at *
  exact lv_i2l hx hb hdg hv (kk C H locs ls hP hD hS hl)

theorem j_lcmp {x y : Int64} {v : Int32} (hdg : decode cc pc = .ok (.lcmp, 1)) (hv : lg_cmp x y = v) (kk : V k l D tys R cc nL own w cells slots (pc + 1) lv (.int v :: rest)) : V k l D tys R cc nL own w cells slots (pc) lv (.long y :: .long x :: rest) := by
  obtain ⟨⟨p, e, s, m, args⟩, ⟨below, meth, c⟩, ⟨A, H0⟩, Q⟩ := k
  intro C H locs ls hP hD hS hl
  obtain ⟨hx, hb, hml, hown, hts, hK, hA, hlk, hN, hfl⟩ := id C
  dsimp only at *
  subst hv
  exact W.lcmp hx hb hdg (kk C H locs ls hP hD hS hl)

theorem j_dup {va : Value} (hdg : decode cc pc = .ok (.dup, 1)) (hva : va.category = 1) (kk : V k l D tys R cc nL own w cells slots (pc + 1) lv (va :: va :: rest)) : V k l D tys R cc nL own w cells slots (pc) lv (va :: rest) := by
  obtain ⟨⟨p, e, s, m, args⟩, ⟨below, meth, c⟩, ⟨A, H0⟩, Q⟩ := k
  intro C H locs ls hP hD hS hl
  obtain ⟨hx, hb, hml, hown, hts, hK, hA, hlk, hN, hfl⟩ := id C
  dsimp only at *
  exact lv_dup hx hb hdg hva (kk C H locs ls hP hD hS hl)

theorem j_pop {va : Value} (hdg : decode cc pc = .ok (.pop, 1)) (hva : va.category = 1) (kk : V k l D tys R cc nL own w cells slots (pc + 1) lv (rest)) : V k l D tys R cc nL own w cells slots (pc) lv (va :: rest) := by
  obtain ⟨⟨p, e, s, m, args⟩, ⟨below, meth, c⟩, ⟨A, H0⟩, Q⟩ := k
  intro C H locs ls hP hD hS hl
  obtain ⟨hx, hb, hml, hown, hts, hK, hA, hlk, hN, hfl⟩ := id C
  dsimp only at *
  exact lv_pop hx hb hdg hva (kk C H locs ls hP hD hS hl)

theorem j_dup2 {va vb : Value} (hdg : decode cc pc = .ok (.dup2, 1)) (hva : va.category = 1) (hvb : vb.category = 1) (kk : V k l D tys R cc nL own w cells slots (pc + 1) lv (va :: vb :: va :: vb :: rest)) : V k l D tys R cc nL own w cells slots (pc) lv (va :: vb :: rest) := by
  obtain ⟨⟨p, e, s, m, args⟩, ⟨below, meth, c⟩, ⟨A, H0⟩, Q⟩ := k
  intro C H locs ls hP hD hS hl
  obtain ⟨hx, hb, hml, hown, hts, hK, hA, hlk, hN, hfl⟩ := id C
  dsimp only at *
  exact lv_dup2_11 hx hb hdg hva hvb (kk C H locs ls hP hD hS hl)

theorem j_dup_x1 {va vb : Value} (hdg : decode cc pc = .ok (.dup_x1, 1)) (hva : va.category = 1) (hvb : vb.category = 1) (kk : V k l D tys R cc nL own w cells slots (pc + 1) lv (va :: vb :: va :: rest)) : V k l D tys R cc nL own w cells slots (pc) lv (va :: vb :: rest) := by
  obtain ⟨⟨p, e, s, m, args⟩, ⟨below, meth, c⟩, ⟨A, H0⟩, Q⟩ := k
  intro C H locs ls hP hD hS hl
  obtain ⟨hx, hb, hml, hown, hts, hK, hA, hlk, hN, hfl⟩ := id C
  dsimp only at *
  exact lv_dup_x1 hx hb hdg hva hvb (kk C H locs ls hP hD hS hl)

theorem j_goto {off : Int} {tgt : Nat} (hdg : decode cc pc = .ok (.goto off, 3)) (ht : (pc : Int) + off = (tgt : Int)) (kk : V k l D tys R cc nL own w cells slots (tgt) lv (rest)) : V k l D tys R cc nL own w cells slots (pc) lv (rest) := by
  obtain ⟨⟨p, e, s, m, args⟩, ⟨below, meth, c⟩, ⟨A, H0⟩, Q⟩ := k
  intro C H locs ls hP hD hS hl
  obtain ⟨hx, hb, hml, hown, hts, hK, hA, hlk, hN, hfl⟩ := id C
  dsimp only at *
  exact lv_goto hx hb hdg ht (kk C H locs ls hP hD hS hl)

end JV
end
section
theorem nI_sub {a b : Nat} (h : b ≤ a) : nI a - nI b = nI (a - b) := pk_sub h
theorem bI_0 {b : Bool} (h : bI b = 0) : b = false := by cases b <;> first | rfl | (exact absurd h (by decide))
theorem bI_1 {b : Bool} (h : ¬ bI b = 0) : b = true := by cases b <;> first | rfl | (exact absurd rfl h)
theorem nI_eq0 {n : Nat} (hn : n < 2 ^ 31) (h : nI n = 0) : n = 0 := (nI_eq hn (by decide)).mp (by rw [nI_0]; exact h)
theorem inA0 : ∀ w ∈ wsX00, w ∈ aL := by
  show ∀ w ∈ ([Cond.laysFinal RX0 RX0 "grid" "LLoopDiagram$Grid;", Cond.laysFinal RX0 RX0 "first" "[I", Cond.lays RX0 RX0 "size" "I", Cond.laysFinal RX0 RX0 "states" "[I", Cond.laysFinal RX0 RX0 "low" "[I", Cond.laysFinal RX0 RX0 "high" "[I", Cond.laysFinal RX0 RX0 "ways" "[I", Cond.laysFinal RX0 RX0 "someWays" "[I"] : List Cond), w ∈ aL
  exact List.forall_mem_cons.mpr ⟨mw1_76, List.forall_mem_cons.mpr ⟨mw1_78, List.forall_mem_cons.mpr ⟨mw1_80, List.forall_mem_cons.mpr ⟨mw1_82, List.forall_mem_cons.mpr ⟨mw1_84, List.forall_mem_cons.mpr ⟨mw1_86, List.forall_mem_cons.mpr ⟨mw1_88, List.forall_mem_cons.mpr ⟨mw1_90, fun _ h => absurd h List.not_mem_nil⟩⟩⟩⟩⟩⟩⟩⟩
theorem inA1 : ∀ w ∈ wsX10, w ∈ aL := by
  show ∀ w ∈ ([Cond.laysFinal RX1 RX1 "rows" "I", Cond.laysFinal RX1 RX1 "columns" "I", Cond.laysFinal RX1 RX1 "edges" "I", Cond.laysFinal RX1 RX1 "row" "[I", Cond.laysFinal RX1 RX1 "column" "[I", Cond.laysFinal RX1 RX1 "goesDown" "[Z", Cond.laysFinal RX1 RX1 "clues" "[I"] : List Cond), w ∈ aL
  exact List.forall_mem_cons.mpr ⟨mw1_42, List.forall_mem_cons.mpr ⟨mw1_44, List.forall_mem_cons.mpr ⟨mw1_46, List.forall_mem_cons.mpr ⟨mw1_48, List.forall_mem_cons.mpr ⟨mw1_50, List.forall_mem_cons.mpr ⟨mw1_52, List.forall_mem_cons.mpr ⟨mw1_54, fun _ h => absurd h List.not_mem_nil⟩⟩⟩⟩⟩⟩⟩
theorem inA2 : ∀ w ∈ wsX20, w ∈ aL := by
  show ∀ w ∈ ([Cond.laysFinal RX2 RX2 "grid" "LLoopDiagram$Grid;", Cond.laysFinal RX2 RX2 "diagram" "LLoopDiagram$Diagram;", Cond.lays RX2 RX2 "drawing" "I", Cond.lays RX2 RX2 "stale" "Z"] : List Cond), w ∈ aL
  exact List.forall_mem_cons.mpr ⟨mw1_97, List.forall_mem_cons.mpr ⟨mw1_99, List.forall_mem_cons.mpr ⟨mw1_101, List.forall_mem_cons.mpr ⟨mw1_103, fun _ h => absurd h List.not_mem_nil⟩⟩⟩⟩
theorem inA3 : ∀ w ∈ wsX30, w ∈ aL := by
  show ∀ w ∈ ([Cond.lays RX3 RX3 "thrown" "I", Cond.lays RX3 RX3 "rows" "I", Cond.lays RX3 RX3 "columns" "I", Cond.lays RX3 RX3 "points" "I", Cond.lays RX3 RX3 "count" "I", Cond.laysFinal RX3 RX3 "low" "[I", Cond.laysFinal RX3 RX3 "high" "[I", Cond.laysFinal RX3 RX3 "one" "[I", Cond.laysFinal RX3 RX3 "other" "[I", Cond.laysFinal RX3 RX3 "ends" "[I", Cond.laysFinal RX3 RX3 "first" "[I", Cond.laysFinal RX3 RX3 "last" "[I", Cond.laysFinal RX3 RX3 "cellFirst" "[I", Cond.laysFinal RX3 RX3 "cellLast" "[I", Cond.lays RX3 RX3 "loops" "I", Cond.laysFinal RX3 RX3 "loop" "[I", Cond.laysFinal RX3 RX3 "clues" "[I", Cond.lays RX3 RX3 "known" "Z", Cond.lays RX3 RX3 "solutions" "I", Cond.laysFinal RX3 RX3 "solution" "[I", Cond.lays RX3 RX3 "measured" "Z", Cond.laysFinal RX3 RX3 "wide" "[I", Cond.laysFinal RX3 RX3 "useful" "[I", Cond.lays RX3 RX3 "held" "I", Cond.laysFinal RX3 RX3 "hold" "[I", Cond.lays RX3 RX3 "next" "I", Cond.laysFinal RX3 RX3 "nextHold" "[I", Cond.laysFinal RX3 RX3 "keys" "[J", Cond.laysFinal RX3 RX3 "table" "[I", Cond.lays RX3 RX3 "drawing" "I", Cond.laysFinal RX3 RX3 "degree" "[I", Cond.laysFinal RX3 RX3 "seen" "[Z"] : List Cond), w ∈ aL
  exact List.forall_mem_cons.mpr ⟨mw3_39, List.forall_mem_cons.mpr ⟨mw3_41, List.forall_mem_cons.mpr ⟨mw3_43, List.forall_mem_cons.mpr ⟨mw3_45, List.forall_mem_cons.mpr ⟨mw3_47, List.forall_mem_cons.mpr ⟨mw3_49, List.forall_mem_cons.mpr ⟨mw3_51, List.forall_mem_cons.mpr ⟨mw3_53, List.forall_mem_cons.mpr ⟨mw3_55, List.forall_mem_cons.mpr ⟨mw3_57, List.forall_mem_cons.mpr ⟨mw3_59, List.forall_mem_cons.mpr ⟨mw3_61, List.forall_mem_cons.mpr ⟨mw3_63, List.forall_mem_cons.mpr ⟨mw3_65, List.forall_mem_cons.mpr ⟨mw3_67, List.forall_mem_cons.mpr ⟨mw3_69, List.forall_mem_cons.mpr ⟨mw3_71, List.forall_mem_cons.mpr ⟨mw3_73, List.forall_mem_cons.mpr ⟨mw3_75, List.forall_mem_cons.mpr ⟨mw3_77, List.forall_mem_cons.mpr ⟨mw3_79, List.forall_mem_cons.mpr ⟨mw3_81, List.forall_mem_cons.mpr ⟨mw3_83, List.forall_mem_cons.mpr ⟨mw3_85, List.forall_mem_cons.mpr ⟨mw3_87, List.forall_mem_cons.mpr ⟨mw3_89, List.forall_mem_cons.mpr ⟨mw3_91, List.forall_mem_cons.mpr ⟨mw3_93, List.forall_mem_cons.mpr ⟨mw3_95, List.forall_mem_cons.mpr ⟨mw3_97, List.forall_mem_cons.mpr ⟨mw3_99, List.forall_mem_cons.mpr ⟨mw3_101, fun _ h => absurd h List.not_mem_nil⟩⟩⟩⟩⟩⟩⟩⟩⟩⟩⟩⟩⟩⟩⟩⟩⟩⟩⟩⟩⟩⟩⟩⟩⟩⟩⟩⟩⟩⟩⟩⟩
section JR
variable {k : VK} {l : Launch} {D : va_G} {tys : List (ClassId × FieldType)} {R : Room} {cc : ByteArray} {nL : Nat} {own : String} {w : va_W} {cells slots pc : Nat} {lv : List (Nat × Value)} {rest : List Value}
theorem j_icmp_eq {x y : Int32} {off : Int} {tgt : Nat} (hdg : decode cc pc = .ok (.if_icmp .eq off, 3)) (ht : (pc : Int) + off = (tgt : Int)) (kt : (x = y) → V k l D tys R cc nL own w cells slots (tgt) lv (rest)) (kf : (¬ x = y) → V k l D tys R cc nL own w cells slots (pc + 3) lv (rest)) : V k l D tys R cc nL own w cells slots (pc) lv (.int y :: .int x :: rest) := by
  obtain ⟨⟨p, e, s, m, args⟩, ⟨below, meth, c⟩, ⟨A, H0⟩, Q⟩ := k
  intro C H locs ls hP hD hS hl
  obtain ⟨hx, hb, hml, hown, hts, hK, hA, hlk, hN, hfl⟩ := id C
  dsimp only at *
  exact lv_icmp_eq hx hb hdg ht (fun h => kt h C H locs ls hP hD hS hl) (fun h => kf h C H locs ls hP hD hS hl)

theorem jn_icmp_eq {a b : Nat} {off : Int} {tgt : Nat} (ha : a < 2 ^ 31) (hb : b < 2 ^ 31) (hdg : decode cc pc = .ok (.if_icmp .eq off, 3)) (ht : (pc : Int) + off = (tgt : Int)) (kt : (a = b) → V k l D tys R cc nL own w cells slots (tgt) lv (rest)) (kf : (a ≠ b) → V k l D tys R cc nL own w cells slots (pc + 3) lv (rest)) : V k l D tys R cc nL own w cells slots (pc) lv (.int (nI b) :: .int (nI a) :: rest) :=
  j_icmp_eq hdg ht (fun h => kt ((nI_eq ha hb).mp h)) (fun h => kf (fun e => h ((nI_eq ha hb).mpr e)))
theorem j_icmp_ne {x y : Int32} {off : Int} {tgt : Nat} (hdg : decode cc pc = .ok (.if_icmp .ne off, 3)) (ht : (pc : Int) + off = (tgt : Int)) (kt : (¬ x = y) → V k l D tys R cc nL own w cells slots (tgt) lv (rest)) (kf : (x = y) → V k l D tys R cc nL own w cells slots (pc + 3) lv (rest)) : V k l D tys R cc nL own w cells slots (pc) lv (.int y :: .int x :: rest) := by
  obtain ⟨⟨p, e, s, m, args⟩, ⟨below, meth, c⟩, ⟨A, H0⟩, Q⟩ := k
  intro C H locs ls hP hD hS hl
  obtain ⟨hx, hb, hml, hown, hts, hK, hA, hlk, hN, hfl⟩ := id C
  dsimp only at *
  exact lv_icmp_ne hx hb hdg ht (fun h => kt h C H locs ls hP hD hS hl) (fun h => kf h C H locs ls hP hD hS hl)

theorem jn_icmp_ne {a b : Nat} {off : Int} {tgt : Nat} (ha : a < 2 ^ 31) (hb : b < 2 ^ 31) (hdg : decode cc pc = .ok (.if_icmp .ne off, 3)) (ht : (pc : Int) + off = (tgt : Int)) (kt : (a ≠ b) → V k l D tys R cc nL own w cells slots (tgt) lv (rest)) (kf : (a = b) → V k l D tys R cc nL own w cells slots (pc + 3) lv (rest)) : V k l D tys R cc nL own w cells slots (pc) lv (.int (nI b) :: .int (nI a) :: rest) :=
  j_icmp_ne hdg ht (fun h => kt (fun e => h ((nI_eq ha hb).mpr e))) (fun h => kf ((nI_eq ha hb).mp h))
theorem j_icmp_lt {x y : Int32} {off : Int} {tgt : Nat} (hdg : decode cc pc = .ok (.if_icmp .lt off, 3)) (ht : (pc : Int) + off = (tgt : Int)) (kt : (x < y) → V k l D tys R cc nL own w cells slots (tgt) lv (rest)) (kf : (¬ x < y) → V k l D tys R cc nL own w cells slots (pc + 3) lv (rest)) : V k l D tys R cc nL own w cells slots (pc) lv (.int y :: .int x :: rest) := by
  obtain ⟨⟨p, e, s, m, args⟩, ⟨below, meth, c⟩, ⟨A, H0⟩, Q⟩ := k
  intro C H locs ls hP hD hS hl
  obtain ⟨hx, hb, hml, hown, hts, hK, hA, hlk, hN, hfl⟩ := id C
  dsimp only at *
  exact lv_icmp_lt hx hb hdg ht (fun h => kt h C H locs ls hP hD hS hl) (fun h => kf h C H locs ls hP hD hS hl)

theorem jn_icmp_lt {a b : Nat} {off : Int} {tgt : Nat} (ha : a < 2 ^ 31) (hb : b < 2 ^ 31) (hdg : decode cc pc = .ok (.if_icmp .lt off, 3)) (ht : (pc : Int) + off = (tgt : Int)) (kt : (a < b) → V k l D tys R cc nL own w cells slots (tgt) lv (rest)) (kf : (b ≤ a) → V k l D tys R cc nL own w cells slots (pc + 3) lv (rest)) : V k l D tys R cc nL own w cells slots (pc) lv (.int (nI b) :: .int (nI a) :: rest) :=
  j_icmp_lt hdg ht (fun h => kt ((nI_ltI ha hb).mp h)) (fun h => kf (Nat.not_lt.mp (fun e => h ((nI_ltI ha hb).mpr e))))
theorem j_icmp_ge {x y : Int32} {off : Int} {tgt : Nat} (hdg : decode cc pc = .ok (.if_icmp .ge off, 3)) (ht : (pc : Int) + off = (tgt : Int)) (kt : (y ≤ x) → V k l D tys R cc nL own w cells slots (tgt) lv (rest)) (kf : (¬ y ≤ x) → V k l D tys R cc nL own w cells slots (pc + 3) lv (rest)) : V k l D tys R cc nL own w cells slots (pc) lv (.int y :: .int x :: rest) := by
  obtain ⟨⟨p, e, s, m, args⟩, ⟨below, meth, c⟩, ⟨A, H0⟩, Q⟩ := k
  intro C H locs ls hP hD hS hl
  obtain ⟨hx, hb, hml, hown, hts, hK, hA, hlk, hN, hfl⟩ := id C
  dsimp only at *
  exact lv_icmp_ge hx hb hdg ht (fun h => kt h C H locs ls hP hD hS hl) (fun h => kf h C H locs ls hP hD hS hl)

theorem jn_icmp_ge {a b : Nat} {off : Int} {tgt : Nat} (ha : a < 2 ^ 31) (hb : b < 2 ^ 31) (hdg : decode cc pc = .ok (.if_icmp .ge off, 3)) (ht : (pc : Int) + off = (tgt : Int)) (kt : (b ≤ a) → V k l D tys R cc nL own w cells slots (tgt) lv (rest)) (kf : (a < b) → V k l D tys R cc nL own w cells slots (pc + 3) lv (rest)) : V k l D tys R cc nL own w cells slots (pc) lv (.int (nI b) :: .int (nI a) :: rest) :=
  j_icmp_ge hdg ht (fun h => kt ((nI_leI hb ha).mp h)) (fun h => kf (Nat.not_le.mp (fun e => h ((nI_leI hb ha).mpr e))))
theorem j_icmp_gt {x y : Int32} {off : Int} {tgt : Nat} (hdg : decode cc pc = .ok (.if_icmp .gt off, 3)) (ht : (pc : Int) + off = (tgt : Int)) (kt : (y < x) → V k l D tys R cc nL own w cells slots (tgt) lv (rest)) (kf : (¬ y < x) → V k l D tys R cc nL own w cells slots (pc + 3) lv (rest)) : V k l D tys R cc nL own w cells slots (pc) lv (.int y :: .int x :: rest) := by
  obtain ⟨⟨p, e, s, m, args⟩, ⟨below, meth, c⟩, ⟨A, H0⟩, Q⟩ := k
  intro C H locs ls hP hD hS hl
  obtain ⟨hx, hb, hml, hown, hts, hK, hA, hlk, hN, hfl⟩ := id C
  dsimp only at *
  exact lv_icmp_gt hx hb hdg ht (fun h => kt h C H locs ls hP hD hS hl) (fun h => kf h C H locs ls hP hD hS hl)

theorem jn_icmp_gt {a b : Nat} {off : Int} {tgt : Nat} (ha : a < 2 ^ 31) (hb : b < 2 ^ 31) (hdg : decode cc pc = .ok (.if_icmp .gt off, 3)) (ht : (pc : Int) + off = (tgt : Int)) (kt : (b < a) → V k l D tys R cc nL own w cells slots (tgt) lv (rest)) (kf : (a ≤ b) → V k l D tys R cc nL own w cells slots (pc + 3) lv (rest)) : V k l D tys R cc nL own w cells slots (pc) lv (.int (nI b) :: .int (nI a) :: rest) :=
  j_icmp_gt hdg ht (fun h => kt ((nI_ltI hb ha).mp h)) (fun h => kf (Nat.not_lt.mp (fun e => h ((nI_ltI hb ha).mpr e))))
theorem j_icmp_le {x y : Int32} {off : Int} {tgt : Nat} (hdg : decode cc pc = .ok (.if_icmp .le off, 3)) (ht : (pc : Int) + off = (tgt : Int)) (kt : (x ≤ y) → V k l D tys R cc nL own w cells slots (tgt) lv (rest)) (kf : (¬ x ≤ y) → V k l D tys R cc nL own w cells slots (pc + 3) lv (rest)) : V k l D tys R cc nL own w cells slots (pc) lv (.int y :: .int x :: rest) := by
  obtain ⟨⟨p, e, s, m, args⟩, ⟨below, meth, c⟩, ⟨A, H0⟩, Q⟩ := k
  intro C H locs ls hP hD hS hl
  obtain ⟨hx, hb, hml, hown, hts, hK, hA, hlk, hN, hfl⟩ := id C
  dsimp only at *
  exact lv_icmp_le hx hb hdg ht (fun h => kt h C H locs ls hP hD hS hl) (fun h => kf h C H locs ls hP hD hS hl)

theorem jn_icmp_le {a b : Nat} {off : Int} {tgt : Nat} (ha : a < 2 ^ 31) (hb : b < 2 ^ 31) (hdg : decode cc pc = .ok (.if_icmp .le off, 3)) (ht : (pc : Int) + off = (tgt : Int)) (kt : (a ≤ b) → V k l D tys R cc nL own w cells slots (tgt) lv (rest)) (kf : (b < a) → V k l D tys R cc nL own w cells slots (pc + 3) lv (rest)) : V k l D tys R cc nL own w cells slots (pc) lv (.int (nI b) :: .int (nI a) :: rest) :=
  j_icmp_le hdg ht (fun h => kt ((nI_leI ha hb).mp h)) (fun h => kf (Nat.not_le.mp (fun e => h ((nI_leI ha hb).mpr e))))
theorem j_if_eq {x : Int32} {off : Int} {tgt : Nat} (hdg : decode cc pc = .ok (.ifCond .eq off, 3)) (ht : (pc : Int) + off = (tgt : Int)) (kt : (x = 0) → V k l D tys R cc nL own w cells slots (tgt) lv (rest)) (kf : (¬ x = 0) → V k l D tys R cc nL own w cells slots (pc + 3) lv (rest)) : V k l D tys R cc nL own w cells slots (pc) lv (.int x :: rest) := by
  obtain ⟨⟨p, e, s, m, args⟩, ⟨below, meth, c⟩, ⟨A, H0⟩, Q⟩ := k
  intro C H locs ls hP hD hS hl
  obtain ⟨hx, hb, hml, hown, hts, hK, hA, hlk, hN, hfl⟩ := id C
  dsimp only at *
  exact lv_if_eq hx hb hdg ht (fun h => kt h C H locs ls hP hD hS hl) (fun h => kf h C H locs ls hP hD hS hl)

theorem jn_if_eq {a : Nat} {off : Int} {tgt : Nat} (ha : a < 2 ^ 31) (hdg : decode cc pc = .ok (.ifCond .eq off, 3)) (ht : (pc : Int) + off = (tgt : Int)) (kt : (a = 0) → V k l D tys R cc nL own w cells slots (tgt) lv (rest)) (kf : (a ≠ 0) → V k l D tys R cc nL own w cells slots (pc + 3) lv (rest)) : V k l D tys R cc nL own w cells slots (pc) lv (.int (nI a) :: rest) :=
  j_if_eq hdg ht (fun h => kt (nI_eq0 ha h)) (fun h => kf (fun e => h (by rw [e]; exact nI_0)))
theorem j_if_ne {x : Int32} {off : Int} {tgt : Nat} (hdg : decode cc pc = .ok (.ifCond .ne off, 3)) (ht : (pc : Int) + off = (tgt : Int)) (kt : (¬ x = 0) → V k l D tys R cc nL own w cells slots (tgt) lv (rest)) (kf : (x = 0) → V k l D tys R cc nL own w cells slots (pc + 3) lv (rest)) : V k l D tys R cc nL own w cells slots (pc) lv (.int x :: rest) := by
  obtain ⟨⟨p, e, s, m, args⟩, ⟨below, meth, c⟩, ⟨A, H0⟩, Q⟩ := k
  intro C H locs ls hP hD hS hl
  obtain ⟨hx, hb, hml, hown, hts, hK, hA, hlk, hN, hfl⟩ := id C
  dsimp only at *
  exact lv_if_ne hx hb hdg ht (fun h => kt h C H locs ls hP hD hS hl) (fun h => kf h C H locs ls hP hD hS hl)

theorem jn_if_ne {a : Nat} {off : Int} {tgt : Nat} (ha : a < 2 ^ 31) (hdg : decode cc pc = .ok (.ifCond .ne off, 3)) (ht : (pc : Int) + off = (tgt : Int)) (kt : (a ≠ 0) → V k l D tys R cc nL own w cells slots (tgt) lv (rest)) (kf : (a = 0) → V k l D tys R cc nL own w cells slots (pc + 3) lv (rest)) : V k l D tys R cc nL own w cells slots (pc) lv (.int (nI a) :: rest) :=
  j_if_ne hdg ht (fun h => kt (fun e => h (by rw [e]; exact nI_0))) (fun h => kf (nI_eq0 ha h))
theorem j_if_lt {x : Int32} {off : Int} {tgt : Nat} (hdg : decode cc pc = .ok (.ifCond .lt off, 3)) (ht : (pc : Int) + off = (tgt : Int)) (kt : (x < 0) → V k l D tys R cc nL own w cells slots (tgt) lv (rest)) (kf : (¬ x < 0) → V k l D tys R cc nL own w cells slots (pc + 3) lv (rest)) : V k l D tys R cc nL own w cells slots (pc) lv (.int x :: rest) := by
  obtain ⟨⟨p, e, s, m, args⟩, ⟨below, meth, c⟩, ⟨A, H0⟩, Q⟩ := k
  intro C H locs ls hP hD hS hl
  obtain ⟨hx, hb, hml, hown, hts, hK, hA, hlk, hN, hfl⟩ := id C
  dsimp only at *
  exact lv_if_lt hx hb hdg ht (fun h => kt h C H locs ls hP hD hS hl) (fun h => kf h C H locs ls hP hD hS hl)

theorem jn_if_lt {a : Nat} {off : Int} {tgt : Nat} (ha : a < 2 ^ 31) (hdg : decode cc pc = .ok (.ifCond .lt off, 3)) (ht : (pc : Int) + off = (tgt : Int)) (kt : (False) → V k l D tys R cc nL own w cells slots (tgt) lv (rest)) (kf : (True) → V k l D tys R cc nL own w cells slots (pc + 3) lv (rest)) : V k l D tys R cc nL own w cells slots (pc) lv (.int (nI a) :: rest) :=
  j_if_lt hdg ht (fun h => kt (nI_pos ha h)) (fun h => kf trivial)
theorem j_if_ge {x : Int32} {off : Int} {tgt : Nat} (hdg : decode cc pc = .ok (.ifCond .ge off, 3)) (ht : (pc : Int) + off = (tgt : Int)) (kt : (0 ≤ x) → V k l D tys R cc nL own w cells slots (tgt) lv (rest)) (kf : (¬ 0 ≤ x) → V k l D tys R cc nL own w cells slots (pc + 3) lv (rest)) : V k l D tys R cc nL own w cells slots (pc) lv (.int x :: rest) := by
  obtain ⟨⟨p, e, s, m, args⟩, ⟨below, meth, c⟩, ⟨A, H0⟩, Q⟩ := k
  intro C H locs ls hP hD hS hl
  obtain ⟨hx, hb, hml, hown, hts, hK, hA, hlk, hN, hfl⟩ := id C
  dsimp only at *
  exact lv_if_ge hx hb hdg ht (fun h => kt h C H locs ls hP hD hS hl) (fun h => kf h C H locs ls hP hD hS hl)

theorem jn_if_ge {a : Nat} {off : Int} {tgt : Nat} (ha : a < 2 ^ 31) (hdg : decode cc pc = .ok (.ifCond .ge off, 3)) (ht : (pc : Int) + off = (tgt : Int)) (kt : (True) → V k l D tys R cc nL own w cells slots (tgt) lv (rest)) (kf : (False) → V k l D tys R cc nL own w cells slots (pc + 3) lv (rest)) : V k l D tys R cc nL own w cells slots (pc) lv (.int (nI a) :: rest) :=
  j_if_ge hdg ht (fun h => kt trivial) (fun h => kf (h (nI_pos' ha)))
theorem j_if_gt {x : Int32} {off : Int} {tgt : Nat} (hdg : decode cc pc = .ok (.ifCond .gt off, 3)) (ht : (pc : Int) + off = (tgt : Int)) (kt : (0 < x) → V k l D tys R cc nL own w cells slots (tgt) lv (rest)) (kf : (¬ 0 < x) → V k l D tys R cc nL own w cells slots (pc + 3) lv (rest)) : V k l D tys R cc nL own w cells slots (pc) lv (.int x :: rest) := by
  obtain ⟨⟨p, e, s, m, args⟩, ⟨below, meth, c⟩, ⟨A, H0⟩, Q⟩ := k
  intro C H locs ls hP hD hS hl
  obtain ⟨hx, hb, hml, hown, hts, hK, hA, hlk, hN, hfl⟩ := id C
  dsimp only at *
  exact lv_if_gt hx hb hdg ht (fun h => kt h C H locs ls hP hD hS hl) (fun h => kf h C H locs ls hP hD hS hl)

theorem jn_if_gt {a : Nat} {off : Int} {tgt : Nat} (ha : a < 2 ^ 31) (hdg : decode cc pc = .ok (.ifCond .gt off, 3)) (ht : (pc : Int) + off = (tgt : Int)) (kt : (0 < a) → V k l D tys R cc nL own w cells slots (tgt) lv (rest)) (kf : (a = 0) → V k l D tys R cc nL own w cells slots (pc + 3) lv (rest)) : V k l D tys R cc nL own w cells slots (pc) lv (.int (nI a) :: rest) :=
  j_if_gt hdg ht (fun h => kt (Nat.pos_of_ne_zero (fun e => by subst e; exact absurd h (by decide)))) (fun h => kf (Nat.eq_zero_of_not_pos (fun e => h (by have := nI_lt e ha; rw [nI_0] at this; exact this))))
theorem j_if_le {x : Int32} {off : Int} {tgt : Nat} (hdg : decode cc pc = .ok (.ifCond .le off, 3)) (ht : (pc : Int) + off = (tgt : Int)) (kt : (x ≤ 0) → V k l D tys R cc nL own w cells slots (tgt) lv (rest)) (kf : (¬ x ≤ 0) → V k l D tys R cc nL own w cells slots (pc + 3) lv (rest)) : V k l D tys R cc nL own w cells slots (pc) lv (.int x :: rest) := by
  obtain ⟨⟨p, e, s, m, args⟩, ⟨below, meth, c⟩, ⟨A, H0⟩, Q⟩ := k
  intro C H locs ls hP hD hS hl
  obtain ⟨hx, hb, hml, hown, hts, hK, hA, hlk, hN, hfl⟩ := id C
  dsimp only at *
  exact lv_if_le hx hb hdg ht (fun h => kt h C H locs ls hP hD hS hl) (fun h => kf h C H locs ls hP hD hS hl)

theorem jn_if_le {a : Nat} {off : Int} {tgt : Nat} (ha : a < 2 ^ 31) (hdg : decode cc pc = .ok (.ifCond .le off, 3)) (ht : (pc : Int) + off = (tgt : Int)) (kt : (a = 0) → V k l D tys R cc nL own w cells slots (tgt) lv (rest)) (kf : (0 < a) → V k l D tys R cc nL own w cells slots (pc + 3) lv (rest)) : V k l D tys R cc nL own w cells slots (pc) lv (.int (nI a) :: rest) :=
  j_if_le hdg ht (fun h => kt (Nat.eq_zero_of_not_pos (fun e => nI_nle e ha h))) (fun h => kf (Nat.pos_of_ne_zero (fun e => h (by subst e; decide))))
theorem jb_if_eq {b : Bool} {off : Int} {tgt : Nat} (hdg : decode cc pc = .ok (.ifCond .eq off, 3)) (ht : (pc : Int) + off = (tgt : Int)) (kt : b = false → V k l D tys R cc nL own w cells slots (tgt) lv (rest)) (kf : b = true → V k l D tys R cc nL own w cells slots (pc + 3) lv (rest)) : V k l D tys R cc nL own w cells slots (pc) lv (.int (bI b) :: rest) :=
  j_if_eq hdg ht (fun h => kt (bI_0 h)) (fun h => kf (bI_1 h))
theorem jb_if_ne {b : Bool} {off : Int} {tgt : Nat} (hdg : decode cc pc = .ok (.ifCond .ne off, 3)) (ht : (pc : Int) + off = (tgt : Int)) (kt : b = true → V k l D tys R cc nL own w cells slots (tgt) lv (rest)) (kf : b = false → V k l D tys R cc nL own w cells slots (pc + 3) lv (rest)) : V k l D tys R cc nL own w cells slots (pc) lv (.int (bI b) :: rest) :=
  j_if_ne hdg ht (fun h => kt (bI_1 h)) (fun h => kf (bI_0 h))
theorem jn_iadd {a b v : Nat} (hdg : decode cc pc = .ok (.iadd, 1)) (hv : a + b = v) (kk : V k l D tys R cc nL own w cells slots (pc + 1) lv (.int (nI v) :: rest)) : V k l D tys R cc nL own w cells slots (pc) lv (.int (nI b) :: .int (nI a) :: rest) := j_iadd hdg (by rw [nI_add, hv]) kk
theorem jn_isub {a b v : Nat} (hdg : decode cc pc = .ok (.isub, 1)) (hab : b ≤ a) (hv : a - b = v) (kk : V k l D tys R cc nL own w cells slots (pc + 1) lv (.int (nI v) :: rest)) : V k l D tys R cc nL own w cells slots (pc) lv (.int (nI b) :: .int (nI a) :: rest) := j_isub hdg (by rw [nI_sub hab, hv]) kk
theorem jn_imul {a b v : Nat} (hdg : decode cc pc = .ok (.imul, 1)) (hv : a * b = v) (kk : V k l D tys R cc nL own w cells slots (pc + 1) lv (.int (nI v) :: rest)) : V k l D tys R cc nL own w cells slots (pc) lv (.int (nI b) :: .int (nI a) :: rest) := j_imul hdg (by rw [pk_mul, hv]) kk
theorem j_get {a ci index N k0 : Nat} {ref C : String} {T : u_T} {fs : List Value} {v : Value} (hin : ∀ w ∈ u_ws C T N, w ∈ aL) (q0 : Nat) (he : w[q0]? = some (a, .inr (ci, fs))) (hc : vwCl[ci]? = some (C, T, N)) (hk : k0 < N) (hlink : Cond.fieldLink own index ref (T k0).2.1 (T k0).2.2.1 ∈ aL) (hsame : (T k0).1 = ref) (hv : fs[k0]? = some v) (hdg : decode cc pc = .ok (.getfield index, 3)) (kk : V k l D tys R cc nL own w cells slots (pc + 3) lv (v :: rest)) : V k l D tys R cc nL own w cells slots (pc) lv (.ref a :: rest) := by
  obtain ⟨⟨p, e, s, m, args⟩, ⟨below, meth, c⟩, ⟨A, H0⟩, Q⟩ := k
  intro C H locs ls hP hD hS hl
  obtain ⟨hx, hb, hml, hown, hts, hK, hA, hlk, hN, hfl⟩ := id C
  dsimp only at *
  exact va_get hx hb hts hin hown hK hP q0 he hc k0 hk (hts _ hlink) (fun x h => by rw [← hsame]; exact h) hv hdg (kk C H locs ls hP hD hS hl)

theorem j_put {a ci index N k0 : Nat} {ref C0 : String} {T : u_T} {fs : List Value} {v : Value} (w' : va_W) (hin : ∀ w ∈ u_ws C0 T N, w ∈ aL) (ty0 : Nat → FieldType) (hty : ∀ k, k < N → parseFieldDescriptor (T k).2.2.1 = some (ty0 k)) (hnm : ∀ a, a < N → ∀ b, b < N → a ≠ b → (T a).2.1 ≠ (T b).2.1) (q0 : Nat) (he : w[q0]? = some (a, .inr (ci, fs))) (hc : vwCl[ci]? = some (C0, T, N)) (hk : k0 < N) (hlink : Cond.fieldLink own index ref (T k0).2.1 (T k0).2.2.1 ∈ aL) (hsame : (T k0).1 = ref) (hfin : (T k0).2.2.2 = false) {ty : FieldType} (hd : parseFieldDescriptor (T k0).2.2.1 = some ty) (hn : narrow ty v = v) (hfit : fits ty v = true) (hlt : k0 < fs.length) (hw : w.set q0 (a, .inr (ci, fs.set k0 v)) = w') (hdg : decode cc pc = .ok (.putfield index, 3))
  (kk : V k l D tys R cc nL own w' cells slots (pc + 3) lv (rest)) : V k l D tys R cc nL own w cells slots (pc) lv (v :: .ref a :: rest) := by
  obtain ⟨⟨p, e, s, m, args⟩, ⟨below, meth, c⟩, ⟨A, H0⟩, Q⟩ := k
  intro C H locs ls hP hD hS hl
  obtain ⟨hx, hb, hml, hown, hts, hK, hA, hlk, hN, hfl⟩ := id C
  dsimp only at *
  subst hw
  exact va_put hx hb hts hin ty0 hty hnm hown hK hP hD hS q0 he hc k0 hk (hts _ hlink) (fun x h => by rw [← hsame]; exact h) hfin hd hn hfit hlt hdg (fun H1 locs1 hP1 hD1 hS1 => kk C H1 locs1 ls hP1 hD1 hS1 hl)
theorem j_putF {a ci index N k0 : Nat} {ref C0 : String} {T : u_T} {fs : List Value} {v : Value} (w' : va_W) (hin : ∀ w ∈ u_ws C0 T N, w ∈ aL) (ty0 : Nat → FieldType) (hty : ∀ k, k < N → parseFieldDescriptor (T k).2.2.1 = some (ty0 k)) (hnm : ∀ a, a < N → ∀ b, b < N → a ≠ b → (T a).2.1 ≠ (T b).2.1) (q0 : Nat) (he : w[q0]? = some (a, .inr (ci, fs))) (hc : vwCl[ci]? = some (C0, T, N)) (hk : k0 < N) (hlink : Cond.fieldLink own index ref (T k0).2.1 (T k0).2.2.1 ∈ aL) (hsame : (T k0).1 = ref) (hfin : (T k0).2.2.2 = true) (hin2 : VInit k) (hdecl : (T k0).1 = own) {ty : FieldType} (hd : parseFieldDescriptor (T k0).2.2.1 = some ty) (hn : narrow ty v = v) (hfit : fits ty v = true) (hlt : k0 < fs.length) (hw : w.set q0 (a, .inr (ci, fs.set k0 v)) = w') (hdg : decode cc pc = .ok (.putfield index, 3))
  (kk : V k l D tys R cc nL own w' cells slots (pc + 3) lv (rest)) : V k l D tys R cc nL own w cells slots (pc) lv (v :: .ref a :: rest) := by
  obtain ⟨⟨p, e, s, m, args⟩, ⟨below, meth, c⟩, ⟨A, H0⟩, Q⟩ := k
  intro C H locs ls hP hD hS hl
  obtain ⟨hx, hb, hml, hown, hts, hK, hA, hlk, hN, hfl⟩ := id C
  dsimp only at *
  subst hw
  exact va_putF hx hb hts hin ty0 hty hnm hown hK hP hD hS q0 he hc k0 hk (hts _ hlink) (fun x h => by rw [← hsame]; exact h) hfin hin2 hdecl hd hn hfit hlt hdg (fun H1 locs1 hP1 hD1 hS1 => kk C H1 locs1 ls hP1 hD1 hS1 hl)
theorem j_iald {a n : Nat} {cA : ClassId} {f : Nat → Int32} {i : Int32} {v : Int32} (q0 t0 : Nat) (ha : w[q0]? = some (a, .inl (cA, n, .inl f))) (ht : tys[t0]? = some (cA, .int)) (hin : vp_in i n) (hv : f i.toNatClampNeg = v) (hdg : decode cc pc = .ok (.iaload, 1)) (kk : V k l D tys R cc nL own w cells slots (pc + 1) lv (.int v :: rest)) : V k l D tys R cc nL own w cells slots (pc) lv (.int i :: .ref a :: rest) := by
  obtain ⟨⟨p, e, s, m, args⟩, ⟨below, meth, c⟩, ⟨A, H0⟩, Q⟩ := k
  intro C H locs ls hP hD hS hl
  obtain ⟨hx, hb, hml, hown, hts, hK, hA, hlk, hN, hfl⟩ := id C
  dsimp only at *
  subst hv
  exact va_iald hx hb hK hP q0 t0 ha ht hin hdg (kk C H locs ls hP hD hS hl)

theorem jn_iald {a n : Nat} {cA : ClassId} {f : Nat → Int32} {i : Nat} {v : Int32} (q0 t0 : Nat) (ha : w[q0]? = some (a, .inl (cA, n, .inl f))) (ht : tys[t0]? = some (cA, .int)) (hi : i < n) (hn : n < 2 ^ 31) (hv : f i = v) (hdg : decode cc pc = .ok (.iaload, 1)) (kk : V k l D tys R cc nL own w cells slots (pc + 1) lv (.int v :: rest)) : V k l D tys R cc nL own w cells slots (pc) lv (.int (nI i) :: .ref a :: rest) :=
  j_iald q0 t0 ha ht (vp_in_nI hi hn) (by rw [nI_clamp (Nat.lt_trans hi hn)]; exact hv) hdg kk
theorem j_zald {a n : Nat} {cA : ClassId} {f : Nat → Int32} {i : Int32} {v : Int32} (q0 t0 : Nat) (ha : w[q0]? = some (a, .inl (cA, n, .inl f))) (ht : tys[t0]? = some (cA, .boolean)) (hin : vp_in i n) (hv : f i.toNatClampNeg = v) (hdg : decode cc pc = .ok (.baload, 1)) (kk : V k l D tys R cc nL own w cells slots (pc + 1) lv (.int v :: rest)) : V k l D tys R cc nL own w cells slots (pc) lv (.int i :: .ref a :: rest) := by
  obtain ⟨⟨p, e, s, m, args⟩, ⟨below, meth, c⟩, ⟨A, H0⟩, Q⟩ := k
  intro C H locs ls hP hD hS hl
  obtain ⟨hx, hb, hml, hown, hts, hK, hA, hlk, hN, hfl⟩ := id C
  dsimp only at *
  subst hv
  exact va_zald hx hb hK hP q0 t0 ha ht hin hdg (kk C H locs ls hP hD hS hl)

theorem jn_zald {a n : Nat} {cA : ClassId} {f : Nat → Int32} {i : Nat} {v : Int32} (q0 t0 : Nat) (ha : w[q0]? = some (a, .inl (cA, n, .inl f))) (ht : tys[t0]? = some (cA, .boolean)) (hi : i < n) (hn : n < 2 ^ 31) (hv : f i = v) (hdg : decode cc pc = .ok (.baload, 1)) (kk : V k l D tys R cc nL own w cells slots (pc + 1) lv (.int v :: rest)) : V k l D tys R cc nL own w cells slots (pc) lv (.int (nI i) :: .ref a :: rest) :=
  j_zald q0 t0 ha ht (vp_in_nI hi hn) (by rw [nI_clamp (Nat.lt_trans hi hn)]; exact hv) hdg kk
theorem j_lald {a n : Nat} {cA : ClassId} {f : Nat → Int64} {i : Int32} {v : Int64} (q0 t0 : Nat) (ha : w[q0]? = some (a, .inl (cA, n, .inr (.inl f)))) (ht : tys[t0]? = some (cA, .long)) (hin : vp_in i n) (hv : f i.toNatClampNeg = v) (hdg : decode cc pc = .ok (.laload, 1)) (kk : V k l D tys R cc nL own w cells slots (pc + 1) lv (.long v :: rest)) : V k l D tys R cc nL own w cells slots (pc) lv (.int i :: .ref a :: rest) := by
  obtain ⟨⟨p, e, s, m, args⟩, ⟨below, meth, c⟩, ⟨A, H0⟩, Q⟩ := k
  intro C H locs ls hP hD hS hl
  obtain ⟨hx, hb, hml, hown, hts, hK, hA, hlk, hN, hfl⟩ := id C
  dsimp only at *
  subst hv
  exact va_lald hx hb hK hP q0 t0 ha ht hin hdg (kk C H locs ls hP hD hS hl)

theorem jn_lald {a n : Nat} {cA : ClassId} {f : Nat → Int64} {i : Nat} {v : Int64} (q0 t0 : Nat) (ha : w[q0]? = some (a, .inl (cA, n, .inr (.inl f)))) (ht : tys[t0]? = some (cA, .long)) (hi : i < n) (hn : n < 2 ^ 31) (hv : f i = v) (hdg : decode cc pc = .ok (.laload, 1)) (kk : V k l D tys R cc nL own w cells slots (pc + 1) lv (.long v :: rest)) : V k l D tys R cc nL own w cells slots (pc) lv (.int (nI i) :: .ref a :: rest) :=
  j_lald q0 t0 ha ht (vp_in_nI hi hn) (by rw [nI_clamp (Nat.lt_trans hi hn)]; exact hv) hdg kk
theorem j_iast {a n : Nat} {cA : ClassId} {f : Nat → Int32} {i : Int32} {x : Int32} (w' : va_W) (q0 t0 : Nat) (ha : w[q0]? = some (a, .inl (cA, n, .inl f))) (ht : tys[t0]? = some (cA, .int)) (hin : vp_in i n) (hw : w.set q0 (a, .inl (cA, n, .inl (upd f i.toNatClampNeg x))) = w') (hdg : decode cc pc = .ok (.iastore, 1)) (kk : V k l D tys R cc nL own w' cells slots (pc + 1) lv (rest)) : V k l D tys R cc nL own w cells slots (pc) lv (.int x :: .int i :: .ref a :: rest) := by
  obtain ⟨⟨p, e, s, m, args⟩, ⟨below, meth, c⟩, ⟨A, H0⟩, Q⟩ := k
  intro C H locs ls hP hD hS hl
  obtain ⟨hx, hb, hml, hown, hts, hK, hA, hlk, hN, hfl⟩ := id C
  dsimp only at *
  subst hw
  exact va_iast hx hb hK hP hD hS q0 t0 ha ht hin hdg (fun H1 locs1 hP1 hD1 hS1 => kk C H1 locs1 ls hP1 hD1 hS1 hl)
theorem jn_iast {a n : Nat} {cA : ClassId} {f : Nat → Int32} {i : Nat} {x : Int32} (w' : va_W) (q0 t0 : Nat) (ha : w[q0]? = some (a, .inl (cA, n, .inl f))) (ht : tys[t0]? = some (cA, .int)) (hi : i < n) (hn : n < 2 ^ 31) (hw : w.set q0 (a, .inl (cA, n, .inl (upd f i x))) = w') (hdg : decode cc pc = .ok (.iastore, 1)) (kk : V k l D tys R cc nL own w' cells slots (pc + 1) lv (rest)) : V k l D tys R cc nL own w cells slots (pc) lv (.int x :: .int (nI i) :: .ref a :: rest) :=
  j_iast w' q0 t0 ha ht (vp_in_nI hi hn) (by rw [nI_clamp (Nat.lt_trans hi hn)]; exact hw) hdg kk
theorem j_zast {a n : Nat} {cA : ClassId} {f : Nat → Int32} {i : Int32} {x : Int32} (w' : va_W) (q0 t0 : Nat) (ha : w[q0]? = some (a, .inl (cA, n, .inl f))) (ht : tys[t0]? = some (cA, .boolean)) (hin : vp_in i n) (hw : w.set q0 (a, .inl (cA, n, .inl (upd f i.toNatClampNeg (vp_nar .boolean x)))) = w') (hdg : decode cc pc = .ok (.bastore, 1)) (kk : V k l D tys R cc nL own w' cells slots (pc + 1) lv (rest)) : V k l D tys R cc nL own w cells slots (pc) lv (.int x :: .int i :: .ref a :: rest) := by
  obtain ⟨⟨p, e, s, m, args⟩, ⟨below, meth, c⟩, ⟨A, H0⟩, Q⟩ := k
  intro C H locs ls hP hD hS hl
  obtain ⟨hx, hb, hml, hown, hts, hK, hA, hlk, hN, hfl⟩ := id C
  dsimp only at *
  subst hw
  exact va_zast hx hb hK hP hD hS q0 t0 ha ht hin hdg (fun H1 locs1 hP1 hD1 hS1 => kk C H1 locs1 ls hP1 hD1 hS1 hl)
theorem jn_zast {a n : Nat} {cA : ClassId} {f : Nat → Int32} {i : Nat} {x : Int32} (w' : va_W) (q0 t0 : Nat) (ha : w[q0]? = some (a, .inl (cA, n, .inl f))) (ht : tys[t0]? = some (cA, .boolean)) (hi : i < n) (hn : n < 2 ^ 31) (hw : w.set q0 (a, .inl (cA, n, .inl (upd f i (vp_nar .boolean x)))) = w') (hdg : decode cc pc = .ok (.bastore, 1)) (kk : V k l D tys R cc nL own w' cells slots (pc + 1) lv (rest)) : V k l D tys R cc nL own w cells slots (pc) lv (.int x :: .int (nI i) :: .ref a :: rest) :=
  j_zast w' q0 t0 ha ht (vp_in_nI hi hn) (by rw [nI_clamp (Nat.lt_trans hi hn)]; exact hw) hdg kk
theorem j_last {a n : Nat} {cA : ClassId} {f : Nat → Int64} {i : Int32} {x : Int64} (w' : va_W) (q0 t0 : Nat) (ha : w[q0]? = some (a, .inl (cA, n, .inr (.inl f)))) (ht : tys[t0]? = some (cA, .long)) (hin : vp_in i n) (hw : w.set q0 (a, .inl (cA, n, .inr (.inl (vp_updL f i.toNatClampNeg x)))) = w') (hdg : decode cc pc = .ok (.lastore, 1)) (kk : V k l D tys R cc nL own w' cells slots (pc + 1) lv (rest)) : V k l D tys R cc nL own w cells slots (pc) lv (.long x :: .int i :: .ref a :: rest) := by
  obtain ⟨⟨p, e, s, m, args⟩, ⟨below, meth, c⟩, ⟨A, H0⟩, Q⟩ := k
  intro C H locs ls hP hD hS hl
  obtain ⟨hx, hb, hml, hown, hts, hK, hA, hlk, hN, hfl⟩ := id C
  dsimp only at *
  subst hw
  exact va_last hx hb hK hP hD hS q0 t0 ha ht hin hdg (fun H1 locs1 hP1 hD1 hS1 => kk C H1 locs1 ls hP1 hD1 hS1 hl)
theorem jn_last {a n : Nat} {cA : ClassId} {f : Nat → Int64} {i : Nat} {x : Int64} (w' : va_W) (q0 t0 : Nat) (ha : w[q0]? = some (a, .inl (cA, n, .inr (.inl f)))) (ht : tys[t0]? = some (cA, .long)) (hi : i < n) (hn : n < 2 ^ 31) (hw : w.set q0 (a, .inl (cA, n, .inr (.inl (vp_updL f i x)))) = w') (hdg : decode cc pc = .ok (.lastore, 1)) (kk : V k l D tys R cc nL own w' cells slots (pc + 1) lv (rest)) : V k l D tys R cc nL own w cells slots (pc) lv (.long x :: .int (nI i) :: .ref a :: rest) :=
  j_last w' q0 t0 ha ht (vp_in_nI hi hn) (by rw [nI_clamp (Nat.lt_trans hi hn)]; exact hw) hdg kk
theorem j_alen {a : Nat} {cA : ClassId} {x : vp_A} {ty : FieldType} {v : Int32} (q0 t0 : Nat) (ha : w[q0]? = some (a, .inl (cA, x))) (ht : tys[t0]? = some (cA, ty)) (hv : Int32.ofNat x.1 = v) (hdg : decode cc pc = .ok (.arraylength, 1)) (kk : V k l D tys R cc nL own w cells slots (pc + 1) lv (.int v :: rest)) : V k l D tys R cc nL own w cells slots (pc) lv (.ref a :: rest) := by
  obtain ⟨⟨p, e, s, m, args⟩, ⟨below, meth, c⟩, ⟨A, H0⟩, Q⟩ := k
  intro C H locs ls hP hD hS hl
  obtain ⟨hx, hb, hml, hown, hts, hK, hA, hlk, hN, hfl⟩ := id C
  dsimp only at *
  exact va_alen hx hb hK hP q0 t0 ha ht hv hdg (kk C H locs ls hP hD hS hl)

theorem j_iret {tys' : List (ClassId × FieldType)} {ret : Option FieldType} {Po : Option Value → va_W → Prop} {v : Int32} (hret : ret = some .int) (hR : VRet k D tys ret Po cells slots) (hdg : decode cc pc = .ok (.ireturn, 1)) (hpo : Po (some (.int v)) w) : V k l D tys R cc nL own w cells slots (pc) lv ([.int v]) := by
  obtain ⟨⟨p, e, s, m, args⟩, ⟨below, meth, c⟩, ⟨A, H0⟩, Q⟩ := k
  intro C H locs ls hP hD hS hl
  obtain ⟨hx, hb, hml, hown, hts, hK, hA, hlk, hN, hfl⟩ := id C
  dsimp only at *
  obtain ⟨h1, h2, h3⟩ := hR
  dsimp only at h1 h2 h3
  subst h2 h3
  subst hret
  exact W.iret hx hb h1 (fun t ht hW => ⟨⟨_, w, rfl, hpo, by rw [ht]; exact hP, va_K.moved hW.alike hK, hD⟩, hS.F ht⟩) hS.2.2 hdg
theorem j_zret {tys' : List (ClassId × FieldType)} {ret : Option FieldType} {Po : Option Value → va_W → Prop} {v : Int32} (hret : ret = some .boolean) (hnz : narrow .boolean (.int v) = .int v) (hR : VRet k D tys ret Po cells slots) (hdg : decode cc pc = .ok (.ireturn, 1)) (hpo : Po (some (.int v)) w) : V k l D tys R cc nL own w cells slots (pc) lv ([.int v]) := by
  obtain ⟨⟨p, e, s, m, args⟩, ⟨below, meth, c⟩, ⟨A, H0⟩, Q⟩ := k
  intro C H locs ls hP hD hS hl
  obtain ⟨hx, hb, hml, hown, hts, hK, hA, hlk, hN, hfl⟩ := id C
  dsimp only at *
  obtain ⟨h1, h2, h3⟩ := hR
  dsimp only at h1 h2 h3
  subst h2 h3
  subst hret
  exact W.zret hx hb h1 hnz (fun t ht hW => ⟨⟨_, w, rfl, hpo, by rw [ht]; exact hP, va_K.moved hW.alike hK, hD⟩, hS.F ht⟩) hS.2.2 hdg
theorem j_lret {tys' : List (ClassId × FieldType)} {ret : Option FieldType} {Po : Option Value → va_W → Prop} {v : Int64} (hret : ret = some .long) (hR : VRet k D tys ret Po cells slots) (hdg : decode cc pc = .ok (.lreturn, 1)) (hpo : Po (some (.long v)) w) : V k l D tys R cc nL own w cells slots (pc) lv ([.long v]) := by
  obtain ⟨⟨p, e, s, m, args⟩, ⟨below, meth, c⟩, ⟨A, H0⟩, Q⟩ := k
  intro C H locs ls hP hD hS hl
  obtain ⟨hx, hb, hml, hown, hts, hK, hA, hlk, hN, hfl⟩ := id C
  dsimp only at *
  obtain ⟨h1, h2, h3⟩ := hR
  dsimp only at h1 h2 h3
  subst h2 h3
  subst hret
  exact W.lret hx hb h1 (fun t ht hW => ⟨⟨_, w, rfl, hpo, by rw [ht]; exact hP, va_K.moved hW.alike hK, hD⟩, hS.F ht⟩) hS.2.2 hdg
theorem j_vret {tys' : List (ClassId × FieldType)} {ret : Option FieldType} {Po : Option Value → va_W → Prop} (hret : ret = none) (hR : VRet k D tys ret Po cells slots) (hdg : decode cc pc = .ok (.return_, 1)) (hpo : Po none w) : V k l D tys R cc nL own w cells slots (pc) lv ([]) := by
  obtain ⟨⟨p, e, s, m, args⟩, ⟨below, meth, c⟩, ⟨A, H0⟩, Q⟩ := k
  intro C H locs ls hP hD hS hl
  obtain ⟨hx, hb, hml, hown, hts, hK, hA, hlk, hN, hfl⟩ := id C
  dsimp only at *
  obtain ⟨h1, h2, h3⟩ := hR
  dsimp only at h1 h2 h3
  subst h2 h3
  subst hret
  exact W.vret hx hb h1 (fun t ht hW => ⟨⟨_, w, rfl, hpo, by rw [ht]; exact hP, va_K.moved hW.alike hK, hD⟩, hS.F ht⟩) hS.2.2 hdg
theorem nar_bI (b : Bool) : narrow .boolean (.int (bI b)) = .int (bI b) := by cases b <;> rfl
theorem j_zretB {b : Bool} {tys' : List (ClassId × FieldType)} {ret : Option FieldType} {Po : Option Value → va_W → Prop} (hret : ret = some .boolean) (hR : VRet k D tys ret Po cells slots) (hdg : decode cc pc = .ok (.ireturn, 1)) (hpo : Po (some (.int (bI b))) w) : V k l D tys R cc nL own w cells slots (pc) lv ([.int (bI b)]) := j_zret (tys' := tys') hret (nar_bI b) hR hdg hpo
end JR
end
section
theorem blindP {av : List Value} {D : va_G} {tys : List (ClassId × FieldType)} {w : va_W} {sz : Nat} : FrameBlind (va_Pc av (PCt D tys w sz)) := fun a U g mk q => by
  obtain ⟨q0, q1, qP, qK, qD, qN⟩ := q
  exact ⟨q0, q1, qP, va_K.moved (u := U) (U := U.calling g mk a) (Vm.Alike.refl U.vm) qK, qD, va_Nw.same (u := U) (U := U.calling g mk a) rfl rfl qN⟩
theorem goodAll {y : MethodName} {cc : ByteArray} {n : Nat} {ret : Option FieldType} (h : Cond.code y cc n ret ∈ aL) : GoodIn aL (Cond.code y cc n ret :: aL) := fun w hw => by
  rcases List.mem_cons.mp hw with h1 | h1
  · rw [h1]; exact ⟨h, aL_good h⟩
  · exact ⟨h1, aL_good h1⟩
theorem goodS {own : String} {index : Nat} {y : MethodName} {cc : ByteArray} {n : Nat} {ret : Option FieldType} (h1 : Cond.methodLink own index y ∈ aL) (h2 : Cond.static y ∈ aL) (h3 : Cond.initialized y.cls ∈ aL) (h : Cond.code y cc n ret ∈ aL) : GoodIn aL (va_wsS own index y (Cond.code y cc n ret :: aL)) :=
  goodIn_app (fun w hw => by
    simp only [List.mem_cons, List.not_mem_nil, or_false] at hw
    rcases hw with e | e | e
    · rw [e]; exact ⟨h1, aL_good h1⟩
    · rw [e]; exact ⟨h2, aL_good h2⟩
    · rw [e]; exact ⟨h3, aL_good h3⟩) (goodAll h)
theorem goodV {own C : String} {index : Nat} {y : MethodName} {cc : ByteArray} {n : Nat} {ret : Option FieldType} (h1 : Cond.methodLink own index y ∈ aL) (h2 : Cond.instanceMethod y ∈ aL) (h3 : Cond.selects C y y ∈ aL) (h4 : Cond.initialized C ∈ aL) (h : Cond.code y cc n ret ∈ aL) : GoodIn aL (wsV own index C y (Cond.code y cc n ret :: aL)) :=
  goodIn_app (fun w hw => by
    simp only [List.mem_cons, List.not_mem_nil, or_false] at hw
    rcases hw with e | e | e | e
    · rw [e]; exact ⟨h1, aL_good h1⟩
    · rw [e]; exact ⟨h2, aL_good h2⟩
    · rw [e]; exact ⟨h3, aL_good h3⟩
    · rw [e]; exact ⟨h4, aL_good h4⟩) (goodAll h)
section JCO
variable {p : Program} {l : Launch} {e : Env} {R : Room} {s : State} {m : MethodId} {args : Array Value} {below : List Frame} {meth : Method} {c : Code} {H : Heap} {locs : List Loc} {cells slots : Nat} {Q : State → Prop}
variable {pc : Nat} {ls : Array Slot} {rest st0 : List Value} {a : Array Value} {A0 A1 : Nat → Prop} {H0 : Heap} {mc ms : Nat} {free : Addr → Prop}
theorem va_callO {D : va_G} {tys2 : List (ClassId × FieldType)} {Po : Option Value → va_W → Prop} (hr : va_Run p l e R s m args below meth c H locs cells slots mc ms (F0 m pc ls st0) rest (QCt D tys2 A1 Po a) free) (hS : va_S A0 H0 H locs) (hA : ∀ q, q < H.size → A1 q → A0 q) (hf : ∀ q, free q → A0 q)
    (kk : ∀ (r : Option Value) (u : va_W) (t : State) (H1 : Heap) (locs1 : List Loc), t.heap = H1 → s.vm.Alike t.vm → Po r u → va_P D vwCl u t.heap → va_K D vwCl tys2 t → va_D A1 u → H.size ≤ H1.size → (∀ q : Nat, q < H.size → ¬ A1 q → H1[q]? = H[q]?) → va_S A0 H0 H1 locs1 → W p l e R s m args below meth c H1 locs1 (cells + mc) (slots + ms) Q (F0 m (pc + 3) ls (r.toList ++ rest))) : W p l e R s m args below meth c H locs cells slots Q (F0 m pc ls st0) := by
  intro T hT X
  obtain ⟨v, st₀, t, T', L, h0, X', hL, e1, e2, ⟨⟨r, u, hv, hp, hb, hk1, hd1⟩, hz, hk⟩, st⟩ := hr T hT X
  cases hv
  rw [h0] at hz hk
  obtain ⟨t2, a1, b1⟩ := kk v u t T'.heap (locs ++ L) e1.symm (by rw [← e2]; exact X'.warmed.alike) hp hb hk1 hd1 (by rw [e1]; exact hz) (fun q h1 h2 => by rw [e1]; exact hk q h1 h2)
    ⟨Nat.le_trans hS.1 (by rw [e1]; exact hz), fun q h1 h2 => by rw [e1, hk q (Nat.lt_of_lt_of_le h1 hS.1) (fun z => h2 (hA q (Nat.lt_of_lt_of_le h1 hS.1) z))]; exact hS.2.1 q h1 h2, fun q hq => by
      rcases List.mem_append.mp hq with h | h
      · exact hS.2.2 q h
      · exact hf _ (hL q h)⟩ T' rfl X'
  exact ⟨t2, st t2 a1, b1⟩
end JCO
section JC
variable {k : VK} {l : Launch} {D : va_G} {tys : List (ClassId × FieldType)} {R : Room} {cc : ByteArray} {nL : Nat} {own : String} {w : va_W} {cells slots pc : Nat} {lv : List (Nat × Value)} {rest : List Value}
theorem j_callS {y : MethodName} {cc2 : ByteArray} {n2 index n mc ms : Nat} {ret2 : Option FieldType} {rm : Room} {tys2 : List (ClassId × FieldType)} {wc wr : va_W} {av : List Value} {Po : Option Value → va_W → Prop} {tys3 : List (ClassId × FieldType)} (hM : Ct l y cc2 n2 ret2 rm D tys tys2 wc av Po mc ms) (h1 : Cond.methodLink own index y ∈ aL) (h2 : Cond.static y ∈ aL) (h3 : Cond.initialized y.cls ∈ aL) (h4 : Cond.code y cc2 n2 ret2 ∈ aL) (hd : y.cls ≠ "java/lang/invoke/MethodHandle" ∧ y.cls ≠ "java/lang/invoke/VarHandle" ∧ (parseMethodDescriptor y.desc).map (fun d => d.parameters.length) = some n) (hlen : av.length = n) (hrm : rm.cells = mc ∧ rm.slots = ms) (hR : rm.frames + 1 ≤ R.frames ∧ 8 + (n2 + 11) + rm.locals ≤ R.locals) (hc : cells + mc ≤ R.cells ∧ slots + ms ≤ R.slots) (hW : (rest.map fun v => v.category).sum ≤ 8) (isC isR : List Nat) (hC : isC.map (fun i => w[i]?) = wc.map some) (hRr : isR.map (fun i => w[i]?) = wr.map some) (hnC : va_nd isC = true) (hnd : va_nd isR = true) (hdis : ∀ i ∈ isR, i ∉ isC) (htt : ∀ s : State, va_K D vwCl tys s → va_K D vwCl tys2 s → va_K D vwCl tys3 s) {st : List Value} (hst : st = av.reverse ++ rest) (hdg : decode cc pc = .ok (.invokestatic index, 3)) (kk : ∀ (r : Option Value) (u : va_W), Po r u → V k l D tys3 R cc nL own (wr ++ u) (cells + mc) (slots + ms) (pc + 3) lv (r.toList ++ rest)) : V k l D tys R cc nL own w cells slots (pc) lv (st) := by
  obtain ⟨⟨p, e, s, m, args⟩, ⟨below, meth, c⟩, ⟨A, H0⟩, Q⟩ := k
  intro C H locs ls hP hD hS hl
  obtain ⟨hx, hb, hml, hown, hts, hK, hA, hlk, hN, hfl⟩ := id C
  dsimp only at *
  subst hst
  have hPc : va_P D vwCl wc H := by
    intro j q hq
    have h1 : (isC.map (fun i => w[i]?))[j]? = some (some q) := by rw [hC, List.getElem?_map, hq]; rfl
    rw [List.getElem?_map] at h1
    cases hi : isC[j]? with
    | none => rw [hi] at h1; cases h1
    | some i => rw [hi] at h1; exact hP i q (Option.some.inj h1)
  have hDc := hD.sub isC hnC hC
  have hFc := va_free (wc := wc) hD hS hA isC hC
  refine va_callO (va_runS (As := av) (rest := rest) ⟨hx, hb, hml, hown, hts⟩ (hM H.size) (va_cwS n hts (goodS h1 h2 h3 h4) rfl hrm.1 hrm.2 hd hR) ⟨blindP, fun U hU hW => ⟨rfl, by rw [hU], by rw [hU]; exact hPc, va_K.moved hW.alike hK, hDc.weaken (fun _ _ _ _ => trivial), va_Nw.warmM hW hN⟩⟩ rfl hlen hl.1 rfl (lv_room hW) hdg hc) hS (fun q _ h => hFc q h) hFc (fun r u t H1 locs1 ht hvm hpo hP1 hK1 hD1 hz1 hk1 hS1 => ?_)
  rw [ht] at hP1
  have hK1 := va_K.moved hvm.symm hK1
  obtain ⟨hP2, hD2⟩ := va_join (wr := wr) (w1 := u) hP hD isC isR hC hRr hnd hdis hk1 hFc hP1 hD1
  exact kk r u hpo ⟨hx, hb, hml, hown, hts, htt _ hK hK1, hA, hlk, hN, hfl⟩ H1 locs1 ls hP2 hD2 hS1 hl
theorem j_callSN {y : MethodName} {cc2 : ByteArray} {n2 index n mc ms : Nat} {ret2 : Option FieldType} {rm : Room} {tys2 : List (ClassId × FieldType)} {wc wr : va_W} {av : List Value} {Po : Option Value → va_W → Prop} {tys3 : List (ClassId × FieldType)} (hM : Ct l y cc2 n2 ret2 rm D tys tys2 wc av Po mc ms) (h1 : nestW = Cond.methodLinkNest own index y RX2) (h2 : Cond.static y ∈ aL) (h3 : Cond.initialized y.cls ∈ aL) (h4 : Cond.code y cc2 n2 ret2 ∈ aL) (hd : y.cls ≠ "java/lang/invoke/MethodHandle" ∧ y.cls ≠ "java/lang/invoke/VarHandle" ∧ (parseMethodDescriptor y.desc).map (fun d => d.parameters.length) = some n) (hlen : av.length = n) (hrm : rm.cells = mc ∧ rm.slots = ms) (hR : rm.frames + 1 ≤ R.frames ∧ 8 + (n2 + 11) + rm.locals ≤ R.locals) (hc : cells + mc ≤ R.cells ∧ slots + ms ≤ R.slots) (hW : (rest.map fun v => v.category).sum ≤ 8) (isC isR : List Nat) (hC : isC.map (fun i => w[i]?) = wc.map some) (hRr : isR.map (fun i => w[i]?) = wr.map some) (hnC : va_nd isC = true) (hnd : va_nd isR = true) (hdis : ∀ i ∈ isR, i ∉ isC) (htt : ∀ s : State, va_K D vwCl tys s → va_K D vwCl tys2 s → va_K D vwCl tys3 s) {st : List Value} (hst : st = av.reverse ++ rest) (hdg : decode cc pc = .ok (.invokestatic index, 3)) (kk : ∀ (r : Option Value) (u : va_W), Po r u → V k l D tys3 R cc nL own (wr ++ u) (cells + mc) (slots + ms) (pc + 3) lv (r.toList ++ rest)) : V k l D tys R cc nL own w cells slots (pc) lv (st) := by
  obtain ⟨⟨p, e, s, m, args⟩, ⟨below, meth, c⟩, ⟨A, H0⟩, Q⟩ := k
  intro C H locs ls hP hD hS hl
  obtain ⟨hx, hb, hml, hown, hts, hK, hA, hlk, hN, hfl⟩ := id C
  dsimp only at *
  subst hst
  have hPc : va_P D vwCl wc H := by
    intro j q hq
    have h1 : (isC.map (fun i => w[i]?))[j]? = some (some q) := by rw [hC, List.getElem?_map, hq]; rfl
    rw [List.getElem?_map] at h1
    cases hi : isC[j]? with
    | none => rw [hi] at h1; cases h1
    | some i => rw [hi] at h1; exact hP i q (Option.some.inj h1)
  have hDc := hD.sub isC hnC hC
  have hFc := va_free (wc := wc) hD hS hA isC hC
  refine va_callO (va_runSN (As := av) (rest := rest) ⟨hx, hb, hml, hown, hts⟩ (hM H.size) ⟨va_cnB n hts (goodAll h4) rfl hrm.1 hrm.2 (by rw [← h1]; exact hN) (hts _ h3) hd hR, hts _ h2, trivial⟩ ⟨blindP, fun U hU hW => ⟨rfl, by rw [hU], by rw [hU]; exact hPc, va_K.moved hW.alike hK, hDc.weaken (fun _ _ _ _ => trivial), va_Nw.warmM hW hN⟩⟩ rfl hlen hl.1 rfl (lv_room hW) hdg hc) hS (fun q _ h => hFc q h) hFc (fun r u t H1 locs1 ht hvm hpo hP1 hK1 hD1 hz1 hk1 hS1 => ?_)
  rw [ht] at hP1
  have hK1 := va_K.moved hvm.symm hK1
  obtain ⟨hP2, hD2⟩ := va_join (wr := wr) (w1 := u) hP hD isC isR hC hRr hnd hdis hk1 hFc hP1 hD1
  exact kk r u hpo ⟨hx, hb, hml, hown, hts, htt _ hK hK1, hA, hlk, hN, hfl⟩ H1 locs1 ls hP2 hD2 hS1 hl
theorem j_callV {y : MethodName} {cc2 : ByteArray} {n2 index n mc ms : Nat} {ret2 : Option FieldType} {rm : Room} {tys2 : List (ClassId × FieldType)} {wc wr : va_W} {av : List Value} {Po : Option Value → va_W → Prop} {tys3 : List (ClassId × FieldType)} {b ci : Nat} {qc : vw_C} {fs : List Value} (hM : Ct l y cc2 n2 ret2 rm D tys tys2 wc (.ref b :: av) Po mc ms) (q0 : Nat) (he : w[q0]? = some (b, .inr (ci, fs))) (hcl : vwCl[ci]? = some qc) (h1 : Cond.methodLink own index y ∈ aL) (h2 : Cond.instanceMethod y ∈ aL) (h5 : Cond.selects qc.1 y y ∈ aL) (h3 : Cond.initialized qc.1 ∈ aL) (h4 : Cond.code y cc2 n2 ret2 ∈ aL) (hd : y.cls = qc.1 ∧ y.cls ≠ "java/lang/invoke/MethodHandle" ∧ y.cls ≠ "java/lang/invoke/VarHandle" ∧ (parseMethodDescriptor y.desc).map (fun d => d.parameters.length) = some n) (hlen : av.length = n) (hrm : rm.cells = mc ∧ rm.slots = ms) (hR : rm.frames + 1 ≤ R.frames ∧ 8 + (n2 + 11) + rm.locals ≤ R.locals) (hc : cells + mc ≤ R.cells ∧ slots + ms ≤ R.slots) (hW : (rest.map fun v => v.category).sum ≤ 8) (isC isR : List Nat) (hC : isC.map (fun i => w[i]?) = wc.map some) (hRr : isR.map (fun i => w[i]?) = wr.map some) (hnC : va_nd isC = true) (hnd : va_nd isR = true) (hdis : ∀ i ∈ isR, i ∉ isC) (htt : ∀ s : State, va_K D vwCl tys s → va_K D vwCl tys2 s → va_K D vwCl tys3 s) {st : List Value} (hst : st = av.reverse ++ .ref b :: rest) (hdg : decode cc pc = .ok (.invokevirtual index, 3)) (kk : ∀ (r : Option Value) (u : va_W), Po r u → V k l D tys3 R cc nL own (wr ++ u) (cells + mc) (slots + ms) (pc + 3) lv (r.toList ++ rest)) : V k l D tys R cc nL own w cells slots (pc) lv (st) := by
  obtain ⟨⟨p, e, s, m, args⟩, ⟨below, meth, c⟩, ⟨A, H0⟩, Q⟩ := k
  intro C H locs ls hP hD hS hl
  obtain ⟨hx, hb, hml, hown, hts, hK, hA, hlk, hN, hfl⟩ := id C
  dsimp only at *
  subst hst
  have hrcv := va_recv hK hP (ci := ci) (q0 := q0) hcl he
  have hPc : va_P D vwCl wc H := by
    intro j q hq
    have h1 : (isC.map (fun i => w[i]?))[j]? = some (some q) := by rw [hC, List.getElem?_map, hq]; rfl
    rw [List.getElem?_map] at h1
    cases hi : isC[j]? with
    | none => rw [hi] at h1; cases h1
    | some i => rw [hi] at h1; exact hP i q (Option.some.inj h1)
  have hDc := hD.sub isC hnC hC
  have hFc := va_free (wc := wc) hD hS hA isC hC
  refine va_callO (va_runV (C := qc.1) (As := av) (rest := rest) ⟨hx, hb, hml, hown, hts⟩ (hM H.size) (cwV n hts (goodV h1 h2 h5 h3 h4) rfl hrm.1 hrm.2 hd hR) ⟨blindP, hrcv, fun U hU hW => ⟨rfl, by rw [hU], by rw [hU]; exact hPc, va_K.moved hW.alike hK, hDc.weaken (fun _ _ _ _ => trivial), va_Nw.warmM hW hN⟩⟩ rfl hlen hl.1 rfl (lv_room hW) hdg hc) hS (fun q _ h => hFc q h) hFc (fun r u t H1 locs1 ht hvm hpo hP1 hK1 hD1 hz1 hk1 hS1 => ?_)
  rw [ht] at hP1
  have hK1 := va_K.moved hvm.symm hK1
  obtain ⟨hP2, hD2⟩ := va_join (wr := wr) (w1 := u) hP hD isC isR hC hRr hnd hdis hk1 hFc hP1 hD1
  exact kk r u hpo ⟨hx, hb, hml, hown, hts, htt _ hK hK1, hA, hlk, hN, hfl⟩ H1 locs1 ls hP2 hD2 hS1 hl
theorem j_callI {y : MethodName} {cc2 : ByteArray} {n2 index n mc ms : Nat} {rm : Room} {tys2 : List (ClassId × FieldType)} {wc wr : va_W} {av : List Value} {Po : Option Value → va_W → Prop} {tys3 : List (ClassId × FieldType)} {b : Nat} (hM : Ct l y cc2 n2 none rm D tys tys2 wc (.ref b :: av) Po mc ms) (h1 : Cond.methodLink own index y ∈ aL) (h2 : Cond.instanceMethod y ∈ aL) (h3 : Cond.initialized y.cls ∈ aL) (h4 : Cond.code y cc2 n2 none ∈ aL) (hy1 : y.name = "<init>") (hd : y.cls ≠ "java/lang/invoke/MethodHandle" ∧ y.cls ≠ "java/lang/invoke/VarHandle" ∧ (parseMethodDescriptor y.desc).map (fun d => d.parameters.length) = some n) (hlen : av.length = n) (hrm : rm.cells = mc ∧ rm.slots = ms) (hR : rm.frames + 1 ≤ R.frames ∧ 8 + (n2 + 11) + rm.locals ≤ R.locals) (hc : cells + mc ≤ R.cells ∧ slots + ms ≤ R.slots) (hW : (rest.map fun v => v.category).sum ≤ 8) (isC isR : List Nat) (hC : isC.map (fun i => w[i]?) = wc.map some) (hRr : isR.map (fun i => w[i]?) = wr.map some) (hnC : va_nd isC = true) (hnd : va_nd isR = true) (hdis : ∀ i ∈ isR, i ∉ isC) (htt : ∀ s : State, va_K D vwCl tys s → va_K D vwCl tys2 s → va_K D vwCl tys3 s) {st : List Value} (hst : st = av.reverse ++ .ref b :: rest) (hdg : decode cc pc = .ok (.invokespecial index, 3)) (kk : ∀ (r : Option Value) (u : va_W), Po r u → V k l D tys3 R cc nL own (wr ++ u) (cells + mc) (slots + ms) (pc + 3) lv (r.toList ++ rest)) : V k l D tys R cc nL own w cells slots (pc) lv (st) := by
  obtain ⟨⟨p, e, s, m, args⟩, ⟨below, meth, c⟩, ⟨A, H0⟩, Q⟩ := k
  intro C H locs ls hP hD hS hl
  obtain ⟨hx, hb, hml, hown, hts, hK, hA, hlk, hN, hfl⟩ := id C
  dsimp only at *
  subst hst
  have hPc : va_P D vwCl wc H := by
    intro j q hq
    have h1 : (isC.map (fun i => w[i]?))[j]? = some (some q) := by rw [hC, List.getElem?_map, hq]; rfl
    rw [List.getElem?_map] at h1
    cases hi : isC[j]? with
    | none => rw [hi] at h1; cases h1
    | some i => rw [hi] at h1; exact hP i q (Option.some.inj h1)
  have hDc := hD.sub isC hnC hC
  have hFc := va_free (wc := wc) hD hS hA isC hC
  refine va_callO (va_runI (As := av) (rest := rest) ⟨hx, hb, hml, hown, hts⟩ (hM H.size) (cwI n hts (goodAll h4) rfl hrm.1 hrm.2 (hts _ h3) (hts _ h1) (hts _ h2) hy1 hd hR) ⟨blindP, fun U hU hW => ⟨rfl, by rw [hU], by rw [hU]; exact hPc, va_K.moved hW.alike hK, hDc.weaken (fun _ _ _ _ => trivial), va_Nw.warmM hW hN⟩⟩ rfl hlen hl.1 rfl (lv_room hW) hdg hc) hS (fun q _ h => hFc q h) hFc (fun r u t H1 locs1 ht hvm hpo hP1 hK1 hD1 hz1 hk1 hS1 => ?_)
  rw [ht] at hP1
  have hK1 := va_K.moved hvm.symm hK1
  obtain ⟨hP2, hD2⟩ := va_join (wr := wr) (w1 := u) hP hD isC isR hC hRr hnd hdis hk1 hFc hP1 hD1
  exact kk r u hpo ⟨hx, hb, hml, hown, hts, htt _ hK hK1, hA, hlk, hN, hfl⟩ H1 locs1 ls hP2 hD2 hS1 hl
theorem j_objInit {index : Nat} {b : Nat} (h1 : Cond.methodLink own index objectInit ∈ aL) (h2 : Cond.instanceMethod objectInit ∈ aL) (h3 : Cond.code objectInit ⟨#[0xb1]⟩ 1 none ∈ aL) (hdg : decode cc pc = .ok (.invokespecial index, 3)) (hf : 1 ≤ R.frames) (hlo : (rest.map fun v => v.category).sum + 12 ≤ R.locals) (kk : V k l D tys R cc nL own w cells slots (pc + 3) lv (rest)) : V k l D tys R cc nL own w cells slots (pc) lv (.ref b :: rest) := by
  obtain ⟨⟨p, e, s, m, args⟩, ⟨below, meth, c⟩, ⟨A, H0⟩, Q⟩ := k
  intro C H locs ls hP hD hS hl
  obtain ⟨hx, hb, hml, hown, hts, hK, hA, hlk, hN, hfl⟩ := id C
  dsimp only at *
  exact W.objInit hx hb hown (hts _ h1) (hts _ h2) (hts _ h3) rfl (by rw [hml]; exact hl.1) rfl hdg hf (by show 2 * 0 + _ + 12 ≤ _; omega) (kk C H locs ls hP hD hS hl)
theorem j_new {index N ci : Nat} {C0 : String} {T : u_T} (hin : ∀ w ∈ u_ws C0 T N, w ∈ aL) (ty : Nat → FieldType) (hty : ∀ k, k < N → parseFieldDescriptor (T k).2.2.1 = some (ty k)) (h1 : Cond.classLink own index C0 ∈ aL) (h2 : Cond.instantiable C0 N ∈ aL) (h3 : Cond.initialized C0 ∈ aL) (hc : vwCl[ci]? = some (C0, T, N)) {fs : List Value} (hfs : ∀ j, j < N → defaultValue (ty j) = vp_V fs j) (hcells : cells + 1 ≤ R.cells) (hslots : slots + N ≤ R.slots) (hdg : decode cc pc = .ok (.new index, 3)) (kk : ∀ q : Nat, V k l D tys R cc nL own (w ++ [(q, .inr (ci, fs))]) (cells + 1) (slots + N) (pc + 3) lv (.ref q :: rest)) : V k l D tys R cc nL own w cells slots (pc) lv (rest) := by
  obtain ⟨⟨p, e, s, m, args⟩, ⟨below, meth, c⟩, ⟨A, H0⟩, Q⟩ := k
  intro C H locs ls hP hD hS hl
  obtain ⟨hx, hb, hml, hown, hts, hK, hA, hlk, hN, hfl⟩ := id C
  dsimp only at *
  exact va_new (fs := fs) hx hb hts hin ty hty hown (hts _ h1) (hts _ h2) (hts _ h3) hK hP hD hS hA hc hfs hcells hslots hdg (fun q H1 hP1 hD1 hS1 => kk q C H1 locs ls hP1 hD1 hS1 hl)
theorem j_newa {atype : ArrayType} {ty : FieldType} (h1 : Cond.arrayClass (newarray.typeOf atype) ∈ aL) (hty : newarray.typeOf atype = ty) {n : Int32} {N : Nat} {a0 : vp_A} (ha : ∀ cA : ClassId, vp_cell cA a0 = arrV cA N (fun _ => defaultValue ty)) (hn : ¬ n < 0) (hN : n.toNatClampNeg = N) (hbytes : N * componentBytes ty ≤ 536870912) (hcells : cells + 1 ≤ R.cells) (hslots : slots + N ≤ R.slots) (hdg : decode cc pc = .ok (.newarray atype, 2)) (kk : ∀ (q : Nat) (cA : ClassId), V k l D (tys ++ [(cA, ty)]) R cc nL own (w ++ [(q, .inl (cA, a0))]) (cells + 1) (slots + N) (pc + 2) lv (.ref q :: rest)) : V k l D tys R cc nL own w cells slots (pc) lv (.int n :: rest) := by
  obtain ⟨⟨p, e, s, m, args⟩, ⟨below, meth, c⟩, ⟨A, H0⟩, Q⟩ := k
  intro C H locs ls hP hD hS hl
  obtain ⟨hx, hb, hml, hown, hts, hK, hA, hlk, hN0, hfl⟩ := id C
  dsimp only at *
  exact va_newa hx hb (hts _ h1) hty hK hP hD hS hA ha hn hN hbytes hcells hslots hdg (fun q cA H1 hK1 hP1 hD1 hS1 => kk q cA ⟨hx, hb, hml, hown, hts, hK1, hA, hlk, hN0, hfl⟩ H1 locs ls hP1 hD1 hS1 hl)
theorem j_newaP {atype : ArrayType} {ty : FieldType} {cA0 : ClassId} (t0 : Nat) (ht : tys[t0]? = some (cA0, ty)) (hpr : ∀ U cA, va_RA U cA ty → U.vm.findClass ("[" ++ ty.toString) = some cA) (h1 : Cond.arrayClass (newarray.typeOf atype) ∈ aL) (hty : newarray.typeOf atype = ty) {n : Int32} {N : Nat} {a0 : vp_A} (ha : ∀ cA : ClassId, vp_cell cA a0 = arrV cA N (fun _ => defaultValue ty)) (hn : ¬ n < 0) (hN : n.toNatClampNeg = N) (hbytes : N * componentBytes ty ≤ 536870912) (hcells : cells + 1 ≤ R.cells) (hslots : slots + N ≤ R.slots) (hdg : decode cc pc = .ok (.newarray atype, 2)) (kk : ∀ (q : Nat), V k l D tys R cc nL own (w ++ [(q, .inl (cA0, a0))]) (cells + 1) (slots + N) (pc + 2) lv (.ref q :: rest)) : V k l D tys R cc nL own w cells slots (pc) lv (.int n :: rest) := by
  obtain ⟨⟨p, e, s, m, args⟩, ⟨below, meth, c⟩, ⟨A, H0⟩, Q⟩ := k
  intro C H locs ls hP hD hS hl
  obtain ⟨hx, hb, hml, hown, hts, hK, hA, hlk, hN0, hfl⟩ := id C
  dsimp only at *
  exact va_newa hx hb (hts _ h1) hty hK hP hD hS hA ha hn hN hbytes hcells hslots hdg (fun q cA H1 hK1 hP1 hD1 hS1 => by
    have e1 := hpr _ _ (hK1.2 tys.length (cA, ty) (by rw [List.getElem?_append_right (Nat.le_refl _), Nat.sub_self]; rfl)).2
    have e2 := hpr _ _ (hK.2 t0 _ ht).2
    have e3 : cA = cA0 := Option.some.inj (e1.symm.trans e2)
    subst e3
    exact kk q C H1 locs ls hP1 hD1 hS1 hl)
theorem j_widen {k2 n2 : Nat} (h1 : cells ≤ k2) (h2 : slots ≤ n2) (kk : V k l D tys R cc nL own w k2 n2 (pc) lv (rest)) : V k l D tys R cc nL own w cells slots (pc) lv (rest) := by
  obtain ⟨⟨p, e, s, m, args⟩, ⟨below, meth, c⟩, ⟨A, H0⟩, Q⟩ := k
  intro C H locs ls hP hD hS hl
  obtain ⟨hx, hb, hml, hown, hts, hK, hA, hlk, hN, hfl⟩ := id C
  dsimp only at *
  exact W.widen h1 h2 (kk C H locs ls hP hD hS hl)
theorem j_aret {a : Nat} {rt : FieldType} {ret : Option FieldType} {Po : Option Value → va_W → Prop} (hret : ret = some rt) (hrt : (∃ n, rt = .object n) ∨ ∃ t, rt = .array t) (hR : VRet k D tys ret Po cells slots) (hdg : decode cc pc = .ok (.areturn, 1)) (hpo : Po (some (.ref a)) w) : V k l D tys R cc nL own w cells slots (pc) lv ([.ref a]) := by
  obtain ⟨⟨p, e, s, m, args⟩, ⟨below, meth, c⟩, ⟨A, H0⟩, Q⟩ := k
  intro C H locs ls hP hD hS hl
  obtain ⟨hx, hb, hml, hown, hts, hK, hA, hlk, hN, hfl⟩ := id C
  dsimp only at *
  obtain ⟨h1, h2, h3⟩ := hR
  dsimp only at h1 h2 h3
  subst h2 h3
  subst hret
  exact W.aret hx hb h1 hrt (Or.inr ⟨a, rfl⟩) (fun t ht hW => ⟨⟨_, w, rfl, hpo, by rw [ht]; exact hP, va_K.moved hW.alike hK, hD⟩, hS.F ht⟩) hS.2.2 hdg
end JC
section JP
variable {k : VK} {l : Launch} {D : va_G} {tys : List (ClassId × FieldType)} {R : Room} {cc : ByteArray} {nL : Nat} {own : String} {w : va_W} {cells slots pc : Nat} {lv : List (Nat × Value)} {rest : List Value}
/-- a static method of numbers alone: the world stays -/
theorem j_callS0 {y : MethodName} {cc2 : ByteArray} {n2 index n : Nat} {ret2 : Option FieldType} {rm : Room} {av : List Value} {r0 : Value} (hM : Ct l y cc2 n2 ret2 rm D tys tys [] av (fun r u => r = some r0 ∧ u = []) 0 0) (h1 : Cond.methodLink own index y ∈ aL) (h2 : Cond.static y ∈ aL) (h3 : Cond.initialized y.cls ∈ aL) (h4 : Cond.code y cc2 n2 ret2 ∈ aL) (hd : y.cls ≠ "java/lang/invoke/MethodHandle" ∧ y.cls ≠ "java/lang/invoke/VarHandle" ∧ (parseMethodDescriptor y.desc).map (fun d => d.parameters.length) = some n) (hlen : av.length = n) (hrm : rm.cells = 0 ∧ rm.slots = 0) (hR : rm.frames + 1 ≤ R.frames ∧ 8 + (n2 + 11) + rm.locals ≤ R.locals) (hc : cells ≤ R.cells ∧ slots ≤ R.slots) (hW : (rest.map fun v => v.category).sum ≤ 8) (hnw : ∀ i ∈ List.range w.length, i ∉ ([] : List Nat)) (hnd : va_nd (List.range w.length) = true) {st : List Value} (hst : st = av.reverse ++ rest) (hdg : decode cc pc = .ok (.invokestatic index, 3)) (kk : V k l D tys R cc nL own w cells slots (pc + 3) lv (r0 :: rest)) : V k l D tys R cc nL own w cells slots (pc) lv (st) :=
  j_callS (mc := 0) (ms := 0) (wr := w) (tys3 := tys) hM h1 h2 h3 h4 hd hlen hrm hR hc hW [] (List.range w.length) rfl (by
    apply List.ext_getElem?
    intro i
    simp only [List.getElem?_map]
    by_cases hi : i < w.length
    · rw [List.getElem?_range hi, List.getElem?_eq_getElem hi]
      simp only [Option.map_some, List.getElem?_eq_getElem hi]
    · rw [List.getElem?_eq_none (by simpa using hi), List.getElem?_eq_none (by omega)]
      rfl) rfl hnd hnw (fun _ h _ => h) hst hdg (fun r u hpo => by
    obtain ⟨rfl, rfl⟩ := hpo
    rw [List.append_nil]
    exact kk)
theorem j_callSN0 {y : MethodName} {cc2 : ByteArray} {n2 index n : Nat} {ret2 : Option FieldType} {rm : Room} {av : List Value} {r0 : Value} (hM : Ct l y cc2 n2 ret2 rm D tys tys [] av (fun r u => r = some r0 ∧ u = []) 0 0) (h1 : nestW = Cond.methodLinkNest own index y RX2) (h2 : Cond.static y ∈ aL) (h3 : Cond.initialized y.cls ∈ aL) (h4 : Cond.code y cc2 n2 ret2 ∈ aL) (hd : y.cls ≠ "java/lang/invoke/MethodHandle" ∧ y.cls ≠ "java/lang/invoke/VarHandle" ∧ (parseMethodDescriptor y.desc).map (fun d => d.parameters.length) = some n) (hlen : av.length = n) (hrm : rm.cells = 0 ∧ rm.slots = 0) (hR : rm.frames + 1 ≤ R.frames ∧ 8 + (n2 + 11) + rm.locals ≤ R.locals) (hc : cells ≤ R.cells ∧ slots ≤ R.slots) (hW : (rest.map fun v => v.category).sum ≤ 8) (hnw : ∀ i ∈ List.range w.length, i ∉ ([] : List Nat)) (hnd : va_nd (List.range w.length) = true) {st : List Value} (hst : st = av.reverse ++ rest) (hdg : decode cc pc = .ok (.invokestatic index, 3)) (kk : V k l D tys R cc nL own w cells slots (pc + 3) lv (r0 :: rest)) : V k l D tys R cc nL own w cells slots (pc) lv (st) :=
  j_callSN (mc := 0) (ms := 0) (wr := w) (tys3 := tys) hM h1 h2 h3 h4 hd hlen hrm hR hc hW [] (List.range w.length) rfl (by
    apply List.ext_getElem?
    intro i
    simp only [List.getElem?_map]
    by_cases hi : i < w.length
    · rw [List.getElem?_range hi, List.getElem?_eq_getElem hi]
      simp only [Option.map_some, List.getElem?_eq_getElem hi]
    · rw [List.getElem?_eq_none (by simpa using hi), List.getElem?_eq_none (by omega)]
      rfl) rfl hnd hnw (fun _ h _ => h) hst hdg (fun r u hpo => by
    obtain ⟨rfl, rfl⟩ := hpo
    rw [List.append_nil]
    exact kk)
end JP
end
section
theorem dX0_init_0 : decode cX0_init 0 = .ok (.aload_n 0, 1) := by decide +kernel
theorem dX0_init_1 : decode cX0_init 1 = .ok (.invokespecial 3, 3) := by decide +kernel
theorem dX0_init_4 : decode cX0_init 4 = .ok (.aload_n 0, 1) := by decide +kernel
theorem dX0_init_5 : decode cX0_init 5 = .ok (.aload_n 1, 1) := by decide +kernel
theorem dX0_init_6 : decode cX0_init 6 = .ok (.putfield 9, 3) := by decide +kernel
theorem dX0_init_9 : decode cX0_init 9 = .ok (.aload_n 0, 1) := by decide +kernel
theorem dX0_init_10 : decode cX0_init 10 = .ok (.aload_n 1, 1) := by decide +kernel
theorem dX0_init_11 : decode cX0_init 11 = .ok (.getfield 15, 3) := by decide +kernel
theorem dX0_init_14 : decode cX0_init 14 = .ok (.iconst 2, 1) := by decide +kernel
theorem dX0_init_15 : decode cX0_init 15 = .ok (.iadd, 1) := by decide +kernel
theorem dX0_init_16 : decode cX0_init 16 = .ok (.newarray .int, 2) := by decide +kernel
theorem dX0_init_18 : decode cX0_init 18 = .ok (.putfield 21, 3) := by decide +kernel
theorem dX0_init_21 : decode cX0_init 21 = .ok (.aload_n 0, 1) := by decide +kernel
theorem dX0_init_22 : decode cX0_init 22 = .ok (.iconst 0, 1) := by decide +kernel
theorem dX0_init_23 : decode cX0_init 23 = .ok (.putfield 25, 3) := by decide +kernel
theorem dX0_init_26 : decode cX0_init 26 = .ok (.aload_n 0, 1) := by decide +kernel
theorem dX0_init_27 : decode cX0_init 27 = .ok (.sipush 1014, 3) := by decide +kernel
theorem dX0_init_30 : decode cX0_init 30 = .ok (.newarray .int, 2) := by decide +kernel
theorem dX0_init_32 : decode cX0_init 32 = .ok (.putfield 28, 3) := by decide +kernel
theorem dX0_init_35 : decode cX0_init 35 = .ok (.aload_n 0, 1) := by decide +kernel
theorem dX0_init_36 : decode cX0_init 36 = .ok (.sipush 1014, 3) := by decide +kernel
theorem dX0_init_39 : decode cX0_init 39 = .ok (.newarray .int, 2) := by decide +kernel
theorem dX0_init_41 : decode cX0_init 41 = .ok (.putfield 31, 3) := by decide +kernel
theorem dX0_init_44 : decode cX0_init 44 = .ok (.aload_n 0, 1) := by decide +kernel
theorem dX0_init_45 : decode cX0_init 45 = .ok (.sipush 1014, 3) := by decide +kernel
theorem dX0_init_48 : decode cX0_init 48 = .ok (.newarray .int, 2) := by decide +kernel
theorem dX0_init_50 : decode cX0_init 50 = .ok (.putfield 34, 3) := by decide +kernel
theorem dX0_init_53 : decode cX0_init 53 = .ok (.aload_n 0, 1) := by decide +kernel
theorem dX0_init_54 : decode cX0_init 54 = .ok (.sipush 1014, 3) := by decide +kernel
theorem dX0_init_57 : decode cX0_init 57 = .ok (.newarray .int, 2) := by decide +kernel
theorem dX0_init_59 : decode cX0_init 59 = .ok (.putfield 37, 3) := by decide +kernel
theorem dX0_init_62 : decode cX0_init 62 = .ok (.aload_n 0, 1) := by decide +kernel
theorem dX0_init_63 : decode cX0_init 63 = .ok (.sipush 1014, 3) := by decide +kernel
theorem dX0_init_66 : decode cX0_init 66 = .ok (.newarray .int, 2) := by decide +kernel
theorem dX0_init_68 : decode cX0_init 68 = .ok (.putfield 40, 3) := by decide +kernel
theorem dX0_init_71 : decode cX0_init 71 = .ok (.return_, 1) := by decide +kernel
theorem dX0_grow_0 : decode cX0_grow 0 = .ok (.aload_n 0, 1) := by decide +kernel
theorem dX0_grow_1 : decode cX0_grow 1 = .ok (.getfield 21, 3) := by decide +kernel
theorem dX0_grow_4 : decode cX0_grow 4 = .ok (.iconst 0, 1) := by decide +kernel
theorem dX0_grow_5 : decode cX0_grow 5 = .ok (.iconst 0, 1) := by decide +kernel
theorem dX0_grow_6 : decode cX0_grow 6 = .ok (.iastore, 1) := by decide +kernel
theorem dX0_grow_7 : decode cX0_grow 7 = .ok (.aload_n 0, 1) := by decide +kernel
theorem dX0_grow_8 : decode cX0_grow 8 = .ok (.getfield 28, 3) := by decide +kernel
theorem dX0_grow_11 : decode cX0_grow 11 = .ok (.iconst 0, 1) := by decide +kernel
theorem dX0_grow_12 : decode cX0_grow 12 = .ok (.sipush 1672, 3) := by decide +kernel
theorem dX0_grow_15 : decode cX0_grow 15 = .ok (.iastore, 1) := by decide +kernel
theorem dX0_grow_16 : decode cX0_grow 16 = .ok (.aload_n 0, 1) := by decide +kernel
theorem dX0_grow_17 : decode cX0_grow 17 = .ok (.iconst 1, 1) := by decide +kernel
theorem dX0_grow_18 : decode cX0_grow 18 = .ok (.putfield 25, 3) := by decide +kernel
theorem dX0_grow_21 : decode cX0_grow 21 = .ok (.iconst 0, 1) := by decide +kernel
theorem dX0_grow_22 : decode cX0_grow 22 = .ok (.istore_n 1, 1) := by decide +kernel
theorem dX0_grow_23 : decode cX0_grow 23 = .ok (.iload_n 1, 1) := by decide +kernel
theorem dX0_grow_24 : decode cX0_grow 24 = .ok (.aload_n 0, 1) := by decide +kernel
theorem dX0_grow_25 : decode cX0_grow 25 = .ok (.getfield 9, 3) := by decide +kernel
theorem dX0_grow_28 : decode cX0_grow 28 = .ok (.getfield 15, 3) := by decide +kernel
theorem dX0_grow_31 : decode cX0_grow 31 = .ok (.if_icmp .ge 72, 3) := by decide +kernel
theorem dX0_grow_34 : decode cX0_grow 34 = .ok (.aload_n 0, 1) := by decide +kernel
theorem dX0_grow_35 : decode cX0_grow 35 = .ok (.getfield 21, 3) := by decide +kernel
theorem dX0_grow_38 : decode cX0_grow 38 = .ok (.iload_n 1, 1) := by decide +kernel
theorem dX0_grow_39 : decode cX0_grow 39 = .ok (.iconst 1, 1) := by decide +kernel
theorem dX0_grow_40 : decode cX0_grow 40 = .ok (.iadd, 1) := by decide +kernel
theorem dX0_grow_41 : decode cX0_grow 41 = .ok (.aload_n 0, 1) := by decide +kernel
theorem dX0_grow_42 : decode cX0_grow 42 = .ok (.getfield 25, 3) := by decide +kernel
theorem dX0_grow_45 : decode cX0_grow 45 = .ok (.iastore, 1) := by decide +kernel
theorem dX0_grow_46 : decode cX0_grow 46 = .ok (.aload_n 0, 1) := by decide +kernel
theorem dX0_grow_47 : decode cX0_grow 47 = .ok (.getfield 21, 3) := by decide +kernel
theorem dX0_grow_50 : decode cX0_grow 50 = .ok (.iload_n 1, 1) := by decide +kernel
theorem dX0_grow_51 : decode cX0_grow 51 = .ok (.iaload, 1) := by decide +kernel
theorem dX0_grow_52 : decode cX0_grow 52 = .ok (.istore_n 2, 1) := by decide +kernel
theorem dX0_grow_53 : decode cX0_grow 53 = .ok (.iload_n 2, 1) := by decide +kernel
theorem dX0_grow_54 : decode cX0_grow 54 = .ok (.aload_n 0, 1) := by decide +kernel
theorem dX0_grow_55 : decode cX0_grow 55 = .ok (.getfield 21, 3) := by decide +kernel
theorem dX0_grow_58 : decode cX0_grow 58 = .ok (.iload_n 1, 1) := by decide +kernel
theorem dX0_grow_59 : decode cX0_grow 59 = .ok (.iconst 1, 1) := by decide +kernel
theorem dX0_grow_60 : decode cX0_grow 60 = .ok (.iadd, 1) := by decide +kernel
theorem dX0_grow_61 : decode cX0_grow 61 = .ok (.iaload, 1) := by decide +kernel
theorem dX0_grow_62 : decode cX0_grow 62 = .ok (.if_icmp .ge 35, 3) := by decide +kernel
theorem dX0_grow_65 : decode cX0_grow 65 = .ok (.aload_n 0, 1) := by decide +kernel
theorem dX0_grow_66 : decode cX0_grow 66 = .ok (.getfield 31, 3) := by decide +kernel
theorem dX0_grow_69 : decode cX0_grow 69 = .ok (.iload_n 2, 1) := by decide +kernel
theorem dX0_grow_70 : decode cX0_grow 70 = .ok (.aload_n 0, 1) := by decide +kernel
theorem dX0_grow_71 : decode cX0_grow 71 = .ok (.iload_n 2, 1) := by decide +kernel
theorem dX0_grow_72 : decode cX0_grow 72 = .ok (.iload_n 1, 1) := by decide +kernel
theorem dX0_grow_73 : decode cX0_grow 73 = .ok (.iconst 0, 1) := by decide +kernel
theorem dX0_grow_74 : decode cX0_grow 74 = .ok (.invokevirtual 43, 3) := by decide +kernel
theorem dX0_grow_77 : decode cX0_grow 77 = .ok (.iastore, 1) := by decide +kernel
theorem dX0_grow_78 : decode cX0_grow 78 = .ok (.aload_n 0, 1) := by decide +kernel
theorem dX0_grow_79 : decode cX0_grow 79 = .ok (.getfield 34, 3) := by decide +kernel
theorem dX0_grow_82 : decode cX0_grow 82 = .ok (.iload_n 2, 1) := by decide +kernel
theorem dX0_grow_83 : decode cX0_grow 83 = .ok (.aload_n 0, 1) := by decide +kernel
theorem dX0_grow_84 : decode cX0_grow 84 = .ok (.iload_n 2, 1) := by decide +kernel
theorem dX0_grow_85 : decode cX0_grow 85 = .ok (.iload_n 1, 1) := by decide +kernel
theorem dX0_grow_86 : decode cX0_grow 86 = .ok (.iconst 1, 1) := by decide +kernel
theorem dX0_grow_87 : decode cX0_grow 87 = .ok (.invokevirtual 43, 3) := by decide +kernel
theorem dX0_grow_90 : decode cX0_grow 90 = .ok (.iastore, 1) := by decide +kernel
theorem dX0_grow_91 : decode cX0_grow 91 = .ok (.iinc 2 1, 3) := by decide +kernel
theorem dX0_grow_94 : decode cX0_grow 94 = .ok (.goto (-41), 3) := by decide +kernel
theorem dX0_grow_97 : decode cX0_grow 97 = .ok (.iinc 1 1, 3) := by decide +kernel
theorem dX0_grow_100 : decode cX0_grow 100 = .ok (.goto (-77), 3) := by decide +kernel
theorem dX0_grow_103 : decode cX0_grow 103 = .ok (.aload_n 0, 1) := by decide +kernel
theorem dX0_grow_104 : decode cX0_grow 104 = .ok (.getfield 21, 3) := by decide +kernel
theorem dX0_grow_107 : decode cX0_grow 107 = .ok (.aload_n 0, 1) := by decide +kernel
theorem dX0_grow_108 : decode cX0_grow 108 = .ok (.getfield 9, 3) := by decide +kernel
theorem dX0_grow_111 : decode cX0_grow 111 = .ok (.getfield 15, 3) := by decide +kernel
theorem dX0_grow_114 : decode cX0_grow 114 = .ok (.iconst 1, 1) := by decide +kernel
theorem dX0_grow_115 : decode cX0_grow 115 = .ok (.iadd, 1) := by decide +kernel
theorem dX0_grow_116 : decode cX0_grow 116 = .ok (.aload_n 0, 1) := by decide +kernel
theorem dX0_grow_117 : decode cX0_grow 117 = .ok (.getfield 25, 3) := by decide +kernel
theorem dX0_grow_120 : decode cX0_grow 120 = .ok (.iastore, 1) := by decide +kernel
theorem dX0_grow_121 : decode cX0_grow 121 = .ok (.aload_n 0, 1) := by decide +kernel
theorem dX0_grow_122 : decode cX0_grow 122 = .ok (.aload_n 0, 1) := by decide +kernel
theorem dX0_grow_123 : decode cX0_grow 123 = .ok (.getfield 37, 3) := by decide +kernel
theorem dX0_grow_126 : decode cX0_grow 126 = .ok (.iconst 0, 1) := by decide +kernel
theorem dX0_grow_127 : decode cX0_grow 127 = .ok (.invokevirtual 47, 3) := by decide +kernel
theorem dX0_grow_130 : decode cX0_grow 130 = .ok (.return_, 1) := by decide +kernel
theorem dX0_usefulAt_0 : decode cX0_usefulAt 0 = .ok (.iconst 0, 1) := by decide +kernel
theorem dX0_usefulAt_1 : decode cX0_usefulAt 1 = .ok (.istore_n 2, 1) := by decide +kernel
theorem dX0_usefulAt_2 : decode cX0_usefulAt 2 = .ok (.aload_n 0, 1) := by decide +kernel
theorem dX0_usefulAt_3 : decode cX0_usefulAt 3 = .ok (.getfield 21, 3) := by decide +kernel
theorem dX0_usefulAt_6 : decode cX0_usefulAt 6 = .ok (.iload_n 1, 1) := by decide +kernel
theorem dX0_usefulAt_7 : decode cX0_usefulAt 7 = .ok (.iaload, 1) := by decide +kernel
theorem dX0_usefulAt_8 : decode cX0_usefulAt 8 = .ok (.istore_n 3, 1) := by decide +kernel
theorem dX0_usefulAt_9 : decode cX0_usefulAt 9 = .ok (.iload_n 3, 1) := by decide +kernel
theorem dX0_usefulAt_10 : decode cX0_usefulAt 10 = .ok (.aload_n 0, 1) := by decide +kernel
theorem dX0_usefulAt_11 : decode cX0_usefulAt 11 = .ok (.getfield 21, 3) := by decide +kernel
theorem dX0_usefulAt_14 : decode cX0_usefulAt 14 = .ok (.iload_n 1, 1) := by decide +kernel
theorem dX0_usefulAt_15 : decode cX0_usefulAt 15 = .ok (.iconst 1, 1) := by decide +kernel
theorem dX0_usefulAt_16 : decode cX0_usefulAt 16 = .ok (.iadd, 1) := by decide +kernel
theorem dX0_usefulAt_17 : decode cX0_usefulAt 17 = .ok (.iaload, 1) := by decide +kernel
theorem dX0_usefulAt_18 : decode cX0_usefulAt 18 = .ok (.if_icmp .ge 21, 3) := by decide +kernel
theorem dX0_usefulAt_21 : decode cX0_usefulAt 21 = .ok (.aload_n 0, 1) := by decide +kernel
theorem dX0_usefulAt_22 : decode cX0_usefulAt 22 = .ok (.getfield 37, 3) := by decide +kernel
theorem dX0_usefulAt_25 : decode cX0_usefulAt 25 = .ok (.iload_n 3, 1) := by decide +kernel
theorem dX0_usefulAt_26 : decode cX0_usefulAt 26 = .ok (.iaload, 1) := by decide +kernel
theorem dX0_usefulAt_27 : decode cX0_usefulAt 27 = .ok (.ifCond .le 6, 3) := by decide +kernel
theorem dX0_usefulAt_30 : decode cX0_usefulAt 30 = .ok (.iinc 2 1, 3) := by decide +kernel
theorem dX0_usefulAt_33 : decode cX0_usefulAt 33 = .ok (.iinc 3 1, 3) := by decide +kernel
theorem dX0_usefulAt_36 : decode cX0_usefulAt 36 = .ok (.goto (-27), 3) := by decide +kernel
theorem dX0_usefulAt_39 : decode cX0_usefulAt 39 = .ok (.iload_n 2, 1) := by decide +kernel
theorem dX0_usefulAt_40 : decode cX0_usefulAt 40 = .ok (.ireturn, 1) := by decide +kernel
theorem dX0_solutionsWith_0 : decode cX0_solutionsWith 0 = .ok (.aload_n 0, 1) := by decide +kernel
theorem dX0_solutionsWith_1 : decode cX0_solutionsWith 1 = .ok (.aload_n 0, 1) := by decide +kernel
theorem dX0_solutionsWith_2 : decode cX0_solutionsWith 2 = .ok (.getfield 40, 3) := by decide +kernel
theorem dX0_solutionsWith_5 : decode cX0_solutionsWith 5 = .ok (.iload_n 1, 1) := by decide +kernel
theorem dX0_solutionsWith_6 : decode cX0_solutionsWith 6 = .ok (.invokevirtual 47, 3) := by decide +kernel
theorem dX0_solutionsWith_9 : decode cX0_solutionsWith 9 = .ok (.aload_n 0, 1) := by decide +kernel
theorem dX0_solutionsWith_10 : decode cX0_solutionsWith 10 = .ok (.getfield 40, 3) := by decide +kernel
theorem dX0_solutionsWith_13 : decode cX0_solutionsWith 13 = .ok (.iconst 0, 1) := by decide +kernel
theorem dX0_solutionsWith_14 : decode cX0_solutionsWith 14 = .ok (.iaload, 1) := by decide +kernel
theorem dX0_solutionsWith_15 : decode cX0_solutionsWith 15 = .ok (.ireturn, 1) := by decide +kernel
theorem dX0_solution_0 : decode cX0_solution 0 = .ok (.iload_n 1, 1) := by decide +kernel
theorem dX0_solution_1 : decode cX0_solution 1 = .ok (.ifCond .lt 13, 3) := by decide +kernel
theorem dX0_solution_4 : decode cX0_solution 4 = .ok (.iload_n 1, 1) := by decide +kernel
theorem dX0_solution_5 : decode cX0_solution 5 = .ok (.aload_n 0, 1) := by decide +kernel
theorem dX0_solution_6 : decode cX0_solution 6 = .ok (.getfield 37, 3) := by decide +kernel
theorem dX0_solution_9 : decode cX0_solution 9 = .ok (.iconst 0, 1) := by decide +kernel
theorem dX0_solution_10 : decode cX0_solution 10 = .ok (.iaload, 1) := by decide +kernel
theorem dX0_solution_11 : decode cX0_solution 11 = .ok (.if_icmp .lt 5, 3) := by decide +kernel
theorem dX0_solution_14 : decode cX0_solution 14 = .ok (.iconst 0, 1) := by decide +kernel
theorem dX0_solution_15 : decode cX0_solution 15 = .ok (.ireturn, 1) := by decide +kernel
theorem dX0_solution_16 : decode cX0_solution 16 = .ok (.iconst 0, 1) := by decide +kernel
theorem dX0_solution_17 : decode cX0_solution 17 = .ok (.istore_n 2, 1) := by decide +kernel
theorem dX0_solution_18 : decode cX0_solution 18 = .ok (.iload_n 1, 1) := by decide +kernel
theorem dX0_solution_19 : decode cX0_solution 19 = .ok (.istore_n 3, 1) := by decide +kernel
theorem dX0_solution_20 : decode cX0_solution 20 = .ok (.iconst 0, 1) := by decide +kernel
theorem dX0_solution_21 : decode cX0_solution 21 = .ok (.istore 4, 2) := by decide +kernel
theorem dX0_solution_23 : decode cX0_solution 23 = .ok (.iconst 0, 1) := by decide +kernel
theorem dX0_solution_24 : decode cX0_solution 24 = .ok (.istore 5, 2) := by decide +kernel
theorem dX0_solution_26 : decode cX0_solution 26 = .ok (.iload 5, 2) := by decide +kernel
theorem dX0_solution_28 : decode cX0_solution 28 = .ok (.aload_n 0, 1) := by decide +kernel
theorem dX0_solution_29 : decode cX0_solution 29 = .ok (.getfield 9, 3) := by decide +kernel
theorem dX0_solution_32 : decode cX0_solution 32 = .ok (.getfield 15, 3) := by decide +kernel
theorem dX0_solution_35 : decode cX0_solution 35 = .ok (.if_icmp .ge 70, 3) := by decide +kernel
theorem dX0_solution_38 : decode cX0_solution 38 = .ok (.iload 4, 2) := by decide +kernel
theorem dX0_solution_40 : decode cX0_solution 40 = .ok (.iconst (-1), 1) := by decide +kernel
theorem dX0_solution_41 : decode cX0_solution 41 = .ok (.if_icmp .eq 64, 3) := by decide +kernel
theorem dX0_solution_44 : decode cX0_solution 44 = .ok (.aload_n 0, 1) := by decide +kernel
theorem dX0_solution_45 : decode cX0_solution 45 = .ok (.getfield 37, 3) := by decide +kernel
theorem dX0_solution_48 : decode cX0_solution 48 = .ok (.aload_n 0, 1) := by decide +kernel
theorem dX0_solution_49 : decode cX0_solution 49 = .ok (.getfield 31, 3) := by decide +kernel
theorem dX0_solution_52 : decode cX0_solution 52 = .ok (.iload 4, 2) := by decide +kernel
theorem dX0_solution_54 : decode cX0_solution 54 = .ok (.iaload, 1) := by decide +kernel
theorem dX0_solution_55 : decode cX0_solution 55 = .ok (.invokestatic 51, 3) := by decide +kernel
theorem dX0_solution_58 : decode cX0_solution 58 = .ok (.istore 6, 2) := by decide +kernel
theorem dX0_solution_60 : decode cX0_solution 60 = .ok (.iload_n 3, 1) := by decide +kernel
theorem dX0_solution_61 : decode cX0_solution 61 = .ok (.iload 6, 2) := by decide +kernel
theorem dX0_solution_63 : decode cX0_solution 63 = .ok (.if_icmp .ge 15, 3) := by decide +kernel
theorem dX0_solution_66 : decode cX0_solution 66 = .ok (.aload_n 0, 1) := by decide +kernel
theorem dX0_solution_67 : decode cX0_solution 67 = .ok (.getfield 31, 3) := by decide +kernel
theorem dX0_solution_70 : decode cX0_solution 70 = .ok (.iload 4, 2) := by decide +kernel
theorem dX0_solution_72 : decode cX0_solution 72 = .ok (.iaload, 1) := by decide +kernel
theorem dX0_solution_73 : decode cX0_solution 73 = .ok (.istore 4, 2) := by decide +kernel
theorem dX0_solution_75 : decode cX0_solution 75 = .ok (.goto 24, 3) := by decide +kernel
theorem dX0_solution_78 : decode cX0_solution 78 = .ok (.iload_n 3, 1) := by decide +kernel
theorem dX0_solution_79 : decode cX0_solution 79 = .ok (.iload 6, 2) := by decide +kernel
theorem dX0_solution_81 : decode cX0_solution 81 = .ok (.isub, 1) := by decide +kernel
theorem dX0_solution_82 : decode cX0_solution 82 = .ok (.istore_n 3, 1) := by decide +kernel
theorem dX0_solution_83 : decode cX0_solution 83 = .ok (.iload_n 2, 1) := by decide +kernel
theorem dX0_solution_84 : decode cX0_solution 84 = .ok (.iconst 1, 1) := by decide +kernel
theorem dX0_solution_85 : decode cX0_solution 85 = .ok (.iload 5, 2) := by decide +kernel
theorem dX0_solution_87 : decode cX0_solution 87 = .ok (.ishl, 1) := by decide +kernel
theorem dX0_solution_88 : decode cX0_solution 88 = .ok (.ior, 1) := by decide +kernel
theorem dX0_solution_89 : decode cX0_solution 89 = .ok (.istore_n 2, 1) := by decide +kernel
theorem dX0_solution_90 : decode cX0_solution 90 = .ok (.aload_n 0, 1) := by decide +kernel
theorem dX0_solution_91 : decode cX0_solution 91 = .ok (.getfield 34, 3) := by decide +kernel
theorem dX0_solution_94 : decode cX0_solution 94 = .ok (.iload 4, 2) := by decide +kernel
theorem dX0_solution_96 : decode cX0_solution 96 = .ok (.iaload, 1) := by decide +kernel
theorem dX0_solution_97 : decode cX0_solution 97 = .ok (.istore 4, 2) := by decide +kernel
theorem dX0_solution_99 : decode cX0_solution 99 = .ok (.iinc 5 1, 3) := by decide +kernel
theorem dX0_solution_102 : decode cX0_solution 102 = .ok (.goto (-76), 3) := by decide +kernel
theorem dX0_solution_105 : decode cX0_solution 105 = .ok (.iload_n 2, 1) := by decide +kernel
theorem dX0_solution_106 : decode cX0_solution 106 = .ok (.ireturn, 1) := by decide +kernel
theorem dX0_rankOf_0 : decode cX0_rankOf 0 = .ok (.iconst 0, 1) := by decide +kernel
theorem dX0_rankOf_1 : decode cX0_rankOf 1 = .ok (.istore_n 2, 1) := by decide +kernel
theorem dX0_rankOf_2 : decode cX0_rankOf 2 = .ok (.iconst 0, 1) := by decide +kernel
theorem dX0_rankOf_3 : decode cX0_rankOf 3 = .ok (.istore_n 3, 1) := by decide +kernel
theorem dX0_rankOf_4 : decode cX0_rankOf 4 = .ok (.iconst 0, 1) := by decide +kernel
theorem dX0_rankOf_5 : decode cX0_rankOf 5 = .ok (.istore 4, 2) := by decide +kernel
theorem dX0_rankOf_7 : decode cX0_rankOf 7 = .ok (.iload 4, 2) := by decide +kernel
theorem dX0_rankOf_9 : decode cX0_rankOf 9 = .ok (.aload_n 0, 1) := by decide +kernel
theorem dX0_rankOf_10 : decode cX0_rankOf 10 = .ok (.getfield 9, 3) := by decide +kernel
theorem dX0_rankOf_13 : decode cX0_rankOf 13 = .ok (.getfield 15, 3) := by decide +kernel
theorem dX0_rankOf_16 : decode cX0_rankOf 16 = .ok (.if_icmp .ge 56, 3) := by decide +kernel
theorem dX0_rankOf_19 : decode cX0_rankOf 19 = .ok (.iload_n 3, 1) := by decide +kernel
theorem dX0_rankOf_20 : decode cX0_rankOf 20 = .ok (.iconst (-1), 1) := by decide +kernel
theorem dX0_rankOf_21 : decode cX0_rankOf 21 = .ok (.if_icmp .eq 51, 3) := by decide +kernel
theorem dX0_rankOf_24 : decode cX0_rankOf 24 = .ok (.iload_n 1, 1) := by decide +kernel
theorem dX0_rankOf_25 : decode cX0_rankOf 25 = .ok (.iload 4, 2) := by decide +kernel
theorem dX0_rankOf_27 : decode cX0_rankOf 27 = .ok (.invokestatic 55, 3) := by decide +kernel
theorem dX0_rankOf_30 : decode cX0_rankOf 30 = .ok (.ifCond .eq 29, 3) := by decide +kernel
theorem dX0_rankOf_33 : decode cX0_rankOf 33 = .ok (.iload_n 2, 1) := by decide +kernel
theorem dX0_rankOf_34 : decode cX0_rankOf 34 = .ok (.aload_n 0, 1) := by decide +kernel
theorem dX0_rankOf_35 : decode cX0_rankOf 35 = .ok (.getfield 37, 3) := by decide +kernel
theorem dX0_rankOf_38 : decode cX0_rankOf 38 = .ok (.aload_n 0, 1) := by decide +kernel
theorem dX0_rankOf_39 : decode cX0_rankOf 39 = .ok (.getfield 31, 3) := by decide +kernel
theorem dX0_rankOf_42 : decode cX0_rankOf 42 = .ok (.iload_n 3, 1) := by decide +kernel
theorem dX0_rankOf_43 : decode cX0_rankOf 43 = .ok (.iaload, 1) := by decide +kernel
theorem dX0_rankOf_44 : decode cX0_rankOf 44 = .ok (.invokestatic 51, 3) := by decide +kernel
theorem dX0_rankOf_47 : decode cX0_rankOf 47 = .ok (.iadd, 1) := by decide +kernel
theorem dX0_rankOf_48 : decode cX0_rankOf 48 = .ok (.istore_n 2, 1) := by decide +kernel
theorem dX0_rankOf_49 : decode cX0_rankOf 49 = .ok (.aload_n 0, 1) := by decide +kernel
theorem dX0_rankOf_50 : decode cX0_rankOf 50 = .ok (.getfield 34, 3) := by decide +kernel
theorem dX0_rankOf_53 : decode cX0_rankOf 53 = .ok (.iload_n 3, 1) := by decide +kernel
theorem dX0_rankOf_54 : decode cX0_rankOf 54 = .ok (.iaload, 1) := by decide +kernel
theorem dX0_rankOf_55 : decode cX0_rankOf 55 = .ok (.istore_n 3, 1) := by decide +kernel
theorem dX0_rankOf_56 : decode cX0_rankOf 56 = .ok (.goto 10, 3) := by decide +kernel
theorem dX0_rankOf_59 : decode cX0_rankOf 59 = .ok (.aload_n 0, 1) := by decide +kernel
theorem dX0_rankOf_60 : decode cX0_rankOf 60 = .ok (.getfield 31, 3) := by decide +kernel
theorem dX0_rankOf_63 : decode cX0_rankOf 63 = .ok (.iload_n 3, 1) := by decide +kernel
theorem dX0_rankOf_64 : decode cX0_rankOf 64 = .ok (.iaload, 1) := by decide +kernel
theorem dX0_rankOf_65 : decode cX0_rankOf 65 = .ok (.istore_n 3, 1) := by decide +kernel
theorem dX0_rankOf_66 : decode cX0_rankOf 66 = .ok (.iinc 4 1, 3) := by decide +kernel
theorem dX0_rankOf_69 : decode cX0_rankOf 69 = .ok (.goto (-62), 3) := by decide +kernel
theorem dX0_rankOf_72 : decode cX0_rankOf 72 = .ok (.iload_n 3, 1) := by decide +kernel
theorem dX0_rankOf_73 : decode cX0_rankOf 73 = .ok (.iconst (-1), 1) := by decide +kernel
theorem dX0_rankOf_74 : decode cX0_rankOf 74 = .ok (.if_icmp .ne 7, 3) := by decide +kernel
theorem dX0_rankOf_77 : decode cX0_rankOf 77 = .ok (.iconst (-1), 1) := by decide +kernel
theorem dX0_rankOf_78 : decode cX0_rankOf 78 = .ok (.goto 4, 3) := by decide +kernel
theorem dX0_rankOf_81 : decode cX0_rankOf 81 = .ok (.iload_n 2, 1) := by decide +kernel
theorem dX0_rankOf_82 : decode cX0_rankOf 82 = .ok (.ireturn, 1) := by decide +kernel
theorem dX0_aliveEdges_0 : decode cX0_aliveEdges 0 = .ok (.iconst 0, 1) := by decide +kernel
theorem dX0_aliveEdges_1 : decode cX0_aliveEdges 1 = .ok (.istore_n 2, 1) := by decide +kernel
theorem dX0_aliveEdges_2 : decode cX0_aliveEdges 2 = .ok (.iconst 0, 1) := by decide +kernel
theorem dX0_aliveEdges_3 : decode cX0_aliveEdges 3 = .ok (.istore_n 3, 1) := by decide +kernel
theorem dX0_aliveEdges_4 : decode cX0_aliveEdges 4 = .ok (.iload_n 3, 1) := by decide +kernel
theorem dX0_aliveEdges_5 : decode cX0_aliveEdges 5 = .ok (.aload_n 0, 1) := by decide +kernel
theorem dX0_aliveEdges_6 : decode cX0_aliveEdges 6 = .ok (.getfield 9, 3) := by decide +kernel
theorem dX0_aliveEdges_9 : decode cX0_aliveEdges 9 = .ok (.getfield 15, 3) := by decide +kernel
theorem dX0_aliveEdges_12 : decode cX0_aliveEdges 12 = .ok (.if_icmp .ge 40, 3) := by decide +kernel
theorem dX0_aliveEdges_15 : decode cX0_aliveEdges 15 = .ok (.iload_n 1, 1) := by decide +kernel
theorem dX0_aliveEdges_16 : decode cX0_aliveEdges 16 = .ok (.iload_n 3, 1) := by decide +kernel
theorem dX0_aliveEdges_17 : decode cX0_aliveEdges 17 = .ok (.invokestatic 55, 3) := by decide +kernel
theorem dX0_aliveEdges_20 : decode cX0_aliveEdges 20 = .ok (.ifCond .eq 12, 3) := by decide +kernel
theorem dX0_aliveEdges_23 : decode cX0_aliveEdges 23 = .ok (.aload_n 0, 1) := by decide +kernel
theorem dX0_aliveEdges_24 : decode cX0_aliveEdges 24 = .ok (.getfield 34, 3) := by decide +kernel
theorem dX0_aliveEdges_27 : decode cX0_aliveEdges 27 = .ok (.iload_n 2, 1) := by decide +kernel
theorem dX0_aliveEdges_28 : decode cX0_aliveEdges 28 = .ok (.iaload, 1) := by decide +kernel
theorem dX0_aliveEdges_29 : decode cX0_aliveEdges 29 = .ok (.goto 9, 3) := by decide +kernel
theorem dX0_aliveEdges_32 : decode cX0_aliveEdges 32 = .ok (.aload_n 0, 1) := by decide +kernel
theorem dX0_aliveEdges_33 : decode cX0_aliveEdges 33 = .ok (.getfield 31, 3) := by decide +kernel
theorem dX0_aliveEdges_36 : decode cX0_aliveEdges 36 = .ok (.iload_n 2, 1) := by decide +kernel
theorem dX0_aliveEdges_37 : decode cX0_aliveEdges 37 = .ok (.iaload, 1) := by decide +kernel
theorem dX0_aliveEdges_38 : decode cX0_aliveEdges 38 = .ok (.istore_n 2, 1) := by decide +kernel
theorem dX0_aliveEdges_39 : decode cX0_aliveEdges 39 = .ok (.iload_n 2, 1) := by decide +kernel
theorem dX0_aliveEdges_40 : decode cX0_aliveEdges 40 = .ok (.iconst (-1), 1) := by decide +kernel
theorem dX0_aliveEdges_41 : decode cX0_aliveEdges 41 = .ok (.if_icmp .ne 5, 3) := by decide +kernel
theorem dX0_aliveEdges_44 : decode cX0_aliveEdges 44 = .ok (.iload_n 3, 1) := by decide +kernel
theorem dX0_aliveEdges_45 : decode cX0_aliveEdges 45 = .ok (.ireturn, 1) := by decide +kernel
theorem dX0_aliveEdges_46 : decode cX0_aliveEdges 46 = .ok (.iinc 3 1, 3) := by decide +kernel
theorem dX0_aliveEdges_49 : decode cX0_aliveEdges 49 = .ok (.goto (-45), 3) := by decide +kernel
theorem dX0_aliveEdges_52 : decode cX0_aliveEdges 52 = .ok (.aload_n 0, 1) := by decide +kernel
theorem dX0_aliveEdges_53 : decode cX0_aliveEdges 53 = .ok (.getfield 9, 3) := by decide +kernel
theorem dX0_aliveEdges_56 : decode cX0_aliveEdges 56 = .ok (.getfield 15, 3) := by decide +kernel
theorem dX0_aliveEdges_59 : decode cX0_aliveEdges 59 = .ok (.ireturn, 1) := by decide +kernel
theorem dX0_nodeAfter_0 : decode cX0_nodeAfter 0 = .ok (.aload_n 0, 1) := by decide +kernel
theorem dX0_nodeAfter_1 : decode cX0_nodeAfter 1 = .ok (.getfield 9, 3) := by decide +kernel
theorem dX0_nodeAfter_4 : decode cX0_nodeAfter 4 = .ok (.aload_n 0, 1) := by decide +kernel
theorem dX0_nodeAfter_5 : decode cX0_nodeAfter 5 = .ok (.getfield 28, 3) := by decide +kernel
theorem dX0_nodeAfter_8 : decode cX0_nodeAfter 8 = .ok (.iload_n 1, 1) := by decide +kernel
theorem dX0_nodeAfter_9 : decode cX0_nodeAfter 9 = .ok (.iaload, 1) := by decide +kernel
theorem dX0_nodeAfter_10 : decode cX0_nodeAfter 10 = .ok (.iload_n 2, 1) := by decide +kernel
theorem dX0_nodeAfter_11 : decode cX0_nodeAfter 11 = .ok (.iload_n 3, 1) := by decide +kernel
theorem dX0_nodeAfter_12 : decode cX0_nodeAfter 12 = .ok (.invokevirtual 59, 3) := by decide +kernel
theorem dX0_nodeAfter_15 : decode cX0_nodeAfter 15 = .ok (.istore 4, 2) := by decide +kernel
theorem dX0_nodeAfter_17 : decode cX0_nodeAfter 17 = .ok (.iload 4, 2) := by decide +kernel
theorem dX0_nodeAfter_19 : decode cX0_nodeAfter 19 = .ok (.iconst (-1), 1) := by decide +kernel
theorem dX0_nodeAfter_20 : decode cX0_nodeAfter 20 = .ok (.if_icmp .eq 16, 3) := by decide +kernel
theorem dX0_nodeAfter_23 : decode cX0_nodeAfter 23 = .ok (.aload_n 0, 1) := by decide +kernel
theorem dX0_nodeAfter_24 : decode cX0_nodeAfter 24 = .ok (.getfield 9, 3) := by decide +kernel
theorem dX0_nodeAfter_27 : decode cX0_nodeAfter 27 = .ok (.iload 4, 2) := by decide +kernel
theorem dX0_nodeAfter_29 : decode cX0_nodeAfter 29 = .ok (.iload_n 2, 1) := by decide +kernel
theorem dX0_nodeAfter_30 : decode cX0_nodeAfter 30 = .ok (.iload_n 3, 1) := by decide +kernel
theorem dX0_nodeAfter_31 : decode cX0_nodeAfter 31 = .ok (.invokevirtual 62, 3) := by decide +kernel
theorem dX0_nodeAfter_34 : decode cX0_nodeAfter 34 = .ok (.istore 4, 2) := by decide +kernel
theorem dX0_nodeAfter_36 : decode cX0_nodeAfter 36 = .ok (.iload 4, 2) := by decide +kernel
theorem dX0_nodeAfter_38 : decode cX0_nodeAfter 38 = .ok (.iconst (-1), 1) := by decide +kernel
theorem dX0_nodeAfter_39 : decode cX0_nodeAfter 39 = .ok (.if_icmp .ne 5, 3) := by decide +kernel
theorem dX0_nodeAfter_42 : decode cX0_nodeAfter 42 = .ok (.iconst (-1), 1) := by decide +kernel
theorem dX0_nodeAfter_43 : decode cX0_nodeAfter 43 = .ok (.ireturn, 1) := by decide +kernel
theorem dX0_nodeAfter_44 : decode cX0_nodeAfter 44 = .ok (.aload_n 0, 1) := by decide +kernel
theorem dX0_nodeAfter_45 : decode cX0_nodeAfter 45 = .ok (.getfield 21, 3) := by decide +kernel
theorem dX0_nodeAfter_48 : decode cX0_nodeAfter 48 = .ok (.iload_n 2, 1) := by decide +kernel
theorem dX0_nodeAfter_49 : decode cX0_nodeAfter 49 = .ok (.iconst 1, 1) := by decide +kernel
theorem dX0_nodeAfter_50 : decode cX0_nodeAfter 50 = .ok (.iadd, 1) := by decide +kernel
theorem dX0_nodeAfter_51 : decode cX0_nodeAfter 51 = .ok (.iaload, 1) := by decide +kernel
theorem dX0_nodeAfter_52 : decode cX0_nodeAfter 52 = .ok (.istore 5, 2) := by decide +kernel
theorem dX0_nodeAfter_54 : decode cX0_nodeAfter 54 = .ok (.iload 5, 2) := by decide +kernel
theorem dX0_nodeAfter_56 : decode cX0_nodeAfter 56 = .ok (.aload_n 0, 1) := by decide +kernel
theorem dX0_nodeAfter_57 : decode cX0_nodeAfter 57 = .ok (.getfield 25, 3) := by decide +kernel
theorem dX0_nodeAfter_60 : decode cX0_nodeAfter 60 = .ok (.if_icmp .ge 24, 3) := by decide +kernel
theorem dX0_nodeAfter_63 : decode cX0_nodeAfter 63 = .ok (.aload_n 0, 1) := by decide +kernel
theorem dX0_nodeAfter_64 : decode cX0_nodeAfter 64 = .ok (.getfield 28, 3) := by decide +kernel
theorem dX0_nodeAfter_67 : decode cX0_nodeAfter 67 = .ok (.iload 5, 2) := by decide +kernel
theorem dX0_nodeAfter_69 : decode cX0_nodeAfter 69 = .ok (.iaload, 1) := by decide +kernel
theorem dX0_nodeAfter_70 : decode cX0_nodeAfter 70 = .ok (.iload 4, 2) := by decide +kernel
theorem dX0_nodeAfter_72 : decode cX0_nodeAfter 72 = .ok (.if_icmp .ne 6, 3) := by decide +kernel
theorem dX0_nodeAfter_75 : decode cX0_nodeAfter 75 = .ok (.iload 5, 2) := by decide +kernel
theorem dX0_nodeAfter_77 : decode cX0_nodeAfter 77 = .ok (.ireturn, 1) := by decide +kernel
theorem dX0_nodeAfter_78 : decode cX0_nodeAfter 78 = .ok (.iinc 5 1, 3) := by decide +kernel
theorem dX0_nodeAfter_81 : decode cX0_nodeAfter 81 = .ok (.goto (-27), 3) := by decide +kernel
theorem dX0_nodeAfter_84 : decode cX0_nodeAfter 84 = .ok (.aload_n 0, 1) := by decide +kernel
theorem dX0_nodeAfter_85 : decode cX0_nodeAfter 85 = .ok (.getfield 25, 3) := by decide +kernel
theorem dX0_nodeAfter_88 : decode cX0_nodeAfter 88 = .ok (.sipush 1014, 3) := by decide +kernel
theorem dX0_nodeAfter_91 : decode cX0_nodeAfter 91 = .ok (.if_icmp .lt 5, 3) := by decide +kernel
theorem dX0_nodeAfter_94 : decode cX0_nodeAfter 94 = .ok (.iconst (-1), 1) := by decide +kernel
theorem dX0_nodeAfter_95 : decode cX0_nodeAfter 95 = .ok (.ireturn, 1) := by decide +kernel
theorem dX0_nodeAfter_96 : decode cX0_nodeAfter 96 = .ok (.aload_n 0, 1) := by decide +kernel
theorem dX0_nodeAfter_97 : decode cX0_nodeAfter 97 = .ok (.getfield 28, 3) := by decide +kernel
theorem dX0_nodeAfter_100 : decode cX0_nodeAfter 100 = .ok (.aload_n 0, 1) := by decide +kernel
theorem dX0_nodeAfter_101 : decode cX0_nodeAfter 101 = .ok (.getfield 25, 3) := by decide +kernel
theorem dX0_nodeAfter_104 : decode cX0_nodeAfter 104 = .ok (.iload 4, 2) := by decide +kernel
theorem dX0_nodeAfter_106 : decode cX0_nodeAfter 106 = .ok (.iastore, 1) := by decide +kernel
theorem dX0_nodeAfter_107 : decode cX0_nodeAfter 107 = .ok (.aload_n 0, 1) := by decide +kernel
theorem dX0_nodeAfter_108 : decode cX0_nodeAfter 108 = .ok (.dup, 1) := by decide +kernel
theorem dX0_nodeAfter_109 : decode cX0_nodeAfter 109 = .ok (.getfield 25, 3) := by decide +kernel
theorem dX0_nodeAfter_112 : decode cX0_nodeAfter 112 = .ok (.iconst 1, 1) := by decide +kernel
theorem dX0_nodeAfter_113 : decode cX0_nodeAfter 113 = .ok (.iadd, 1) := by decide +kernel
theorem dX0_nodeAfter_114 : decode cX0_nodeAfter 114 = .ok (.putfield 25, 3) := by decide +kernel
theorem dX0_nodeAfter_117 : decode cX0_nodeAfter 117 = .ok (.aload_n 0, 1) := by decide +kernel
theorem dX0_nodeAfter_118 : decode cX0_nodeAfter 118 = .ok (.getfield 25, 3) := by decide +kernel
theorem dX0_nodeAfter_121 : decode cX0_nodeAfter 121 = .ok (.iconst 1, 1) := by decide +kernel
theorem dX0_nodeAfter_122 : decode cX0_nodeAfter 122 = .ok (.isub, 1) := by decide +kernel
theorem dX0_nodeAfter_123 : decode cX0_nodeAfter 123 = .ok (.ireturn, 1) := by decide +kernel
theorem dX0_fillWays_0 : decode cX0_fillWays 0 = .ok (.aload_n 0, 1) := by decide +kernel
theorem dX0_fillWays_1 : decode cX0_fillWays 1 = .ok (.getfield 21, 3) := by decide +kernel
theorem dX0_fillWays_4 : decode cX0_fillWays 4 = .ok (.aload_n 0, 1) := by decide +kernel
theorem dX0_fillWays_5 : decode cX0_fillWays 5 = .ok (.getfield 9, 3) := by decide +kernel
theorem dX0_fillWays_8 : decode cX0_fillWays 8 = .ok (.getfield 15, 3) := by decide +kernel
theorem dX0_fillWays_11 : decode cX0_fillWays 11 = .ok (.iaload, 1) := by decide +kernel
theorem dX0_fillWays_12 : decode cX0_fillWays 12 = .ok (.istore_n 3, 1) := by decide +kernel
theorem dX0_fillWays_13 : decode cX0_fillWays 13 = .ok (.iload_n 3, 1) := by decide +kernel
theorem dX0_fillWays_14 : decode cX0_fillWays 14 = .ok (.aload_n 0, 1) := by decide +kernel
theorem dX0_fillWays_15 : decode cX0_fillWays 15 = .ok (.getfield 25, 3) := by decide +kernel
theorem dX0_fillWays_18 : decode cX0_fillWays 18 = .ok (.if_icmp .ge 13, 3) := by decide +kernel
theorem dX0_fillWays_21 : decode cX0_fillWays 21 = .ok (.aload_n 1, 1) := by decide +kernel
theorem dX0_fillWays_22 : decode cX0_fillWays 22 = .ok (.iload_n 3, 1) := by decide +kernel
theorem dX0_fillWays_23 : decode cX0_fillWays 23 = .ok (.iconst 1, 1) := by decide +kernel
theorem dX0_fillWays_24 : decode cX0_fillWays 24 = .ok (.iastore, 1) := by decide +kernel
theorem dX0_fillWays_25 : decode cX0_fillWays 25 = .ok (.iinc 3 1, 3) := by decide +kernel
theorem dX0_fillWays_28 : decode cX0_fillWays 28 = .ok (.goto (-15), 3) := by decide +kernel
theorem dX0_fillWays_31 : decode cX0_fillWays 31 = .ok (.aload_n 0, 1) := by decide +kernel
theorem dX0_fillWays_32 : decode cX0_fillWays 32 = .ok (.getfield 9, 3) := by decide +kernel
theorem dX0_fillWays_35 : decode cX0_fillWays 35 = .ok (.getfield 15, 3) := by decide +kernel
theorem dX0_fillWays_38 : decode cX0_fillWays 38 = .ok (.iconst 1, 1) := by decide +kernel
theorem dX0_fillWays_39 : decode cX0_fillWays 39 = .ok (.isub, 1) := by decide +kernel
theorem dX0_fillWays_40 : decode cX0_fillWays 40 = .ok (.istore_n 3, 1) := by decide +kernel
theorem dX0_fillWays_41 : decode cX0_fillWays 41 = .ok (.iload_n 3, 1) := by decide +kernel
theorem dX0_fillWays_42 : decode cX0_fillWays 42 = .ok (.ifCond .lt 79, 3) := by decide +kernel
theorem dX0_fillWays_45 : decode cX0_fillWays 45 = .ok (.aload_n 0, 1) := by decide +kernel
theorem dX0_fillWays_46 : decode cX0_fillWays 46 = .ok (.getfield 21, 3) := by decide +kernel
theorem dX0_fillWays_49 : decode cX0_fillWays 49 = .ok (.iload_n 3, 1) := by decide +kernel
theorem dX0_fillWays_50 : decode cX0_fillWays 50 = .ok (.iaload, 1) := by decide +kernel
theorem dX0_fillWays_51 : decode cX0_fillWays 51 = .ok (.istore 4, 2) := by decide +kernel
theorem dX0_fillWays_53 : decode cX0_fillWays 53 = .ok (.iload 4, 2) := by decide +kernel
theorem dX0_fillWays_55 : decode cX0_fillWays 55 = .ok (.aload_n 0, 1) := by decide +kernel
theorem dX0_fillWays_56 : decode cX0_fillWays 56 = .ok (.getfield 21, 3) := by decide +kernel
theorem dX0_fillWays_59 : decode cX0_fillWays 59 = .ok (.iload_n 3, 1) := by decide +kernel
theorem dX0_fillWays_60 : decode cX0_fillWays 60 = .ok (.iconst 1, 1) := by decide +kernel
theorem dX0_fillWays_61 : decode cX0_fillWays 61 = .ok (.iadd, 1) := by decide +kernel
theorem dX0_fillWays_62 : decode cX0_fillWays 62 = .ok (.iaload, 1) := by decide +kernel
theorem dX0_fillWays_63 : decode cX0_fillWays 63 = .ok (.if_icmp .ge 52, 3) := by decide +kernel
theorem dX0_fillWays_66 : decode cX0_fillWays 66 = .ok (.iload_n 2, 1) := by decide +kernel
theorem dX0_fillWays_67 : decode cX0_fillWays 67 = .ok (.iload_n 3, 1) := by decide +kernel
theorem dX0_fillWays_68 : decode cX0_fillWays 68 = .ok (.invokestatic 55, 3) := by decide +kernel
theorem dX0_fillWays_71 : decode cX0_fillWays 71 = .ok (.ifCond .eq 7, 3) := by decide +kernel
theorem dX0_fillWays_74 : decode cX0_fillWays 74 = .ok (.iconst 0, 1) := by decide +kernel
theorem dX0_fillWays_75 : decode cX0_fillWays 75 = .ok (.goto 14, 3) := by decide +kernel
theorem dX0_fillWays_78 : decode cX0_fillWays 78 = .ok (.aload_n 1, 1) := by decide +kernel
theorem dX0_fillWays_79 : decode cX0_fillWays 79 = .ok (.aload_n 0, 1) := by decide +kernel
theorem dX0_fillWays_80 : decode cX0_fillWays 80 = .ok (.getfield 31, 3) := by decide +kernel
theorem dX0_fillWays_83 : decode cX0_fillWays 83 = .ok (.iload 4, 2) := by decide +kernel
theorem dX0_fillWays_85 : decode cX0_fillWays 85 = .ok (.iaload, 1) := by decide +kernel
theorem dX0_fillWays_86 : decode cX0_fillWays 86 = .ok (.invokestatic 51, 3) := by decide +kernel
theorem dX0_fillWays_89 : decode cX0_fillWays 89 = .ok (.istore 5, 2) := by decide +kernel
theorem dX0_fillWays_91 : decode cX0_fillWays 91 = .ok (.aload_n 1, 1) := by decide +kernel
theorem dX0_fillWays_92 : decode cX0_fillWays 92 = .ok (.iload 4, 2) := by decide +kernel
theorem dX0_fillWays_94 : decode cX0_fillWays 94 = .ok (.iload 5, 2) := by decide +kernel
theorem dX0_fillWays_96 : decode cX0_fillWays 96 = .ok (.aload_n 1, 1) := by decide +kernel
theorem dX0_fillWays_97 : decode cX0_fillWays 97 = .ok (.aload_n 0, 1) := by decide +kernel
theorem dX0_fillWays_98 : decode cX0_fillWays 98 = .ok (.getfield 34, 3) := by decide +kernel
theorem dX0_fillWays_101 : decode cX0_fillWays 101 = .ok (.iload 4, 2) := by decide +kernel
theorem dX0_fillWays_103 : decode cX0_fillWays 103 = .ok (.iaload, 1) := by decide +kernel
theorem dX0_fillWays_104 : decode cX0_fillWays 104 = .ok (.invokestatic 51, 3) := by decide +kernel
theorem dX0_fillWays_107 : decode cX0_fillWays 107 = .ok (.iadd, 1) := by decide +kernel
theorem dX0_fillWays_108 : decode cX0_fillWays 108 = .ok (.iastore, 1) := by decide +kernel
theorem dX0_fillWays_109 : decode cX0_fillWays 109 = .ok (.iinc 4 1, 3) := by decide +kernel
theorem dX0_fillWays_112 : decode cX0_fillWays 112 = .ok (.goto (-59), 3) := by decide +kernel
theorem dX0_fillWays_115 : decode cX0_fillWays 115 = .ok (.iinc 3 (-1), 3) := by decide +kernel
theorem dX0_fillWays_118 : decode cX0_fillWays 118 = .ok (.goto (-77), 3) := by decide +kernel
theorem dX0_fillWays_121 : decode cX0_fillWays 121 = .ok (.return_, 1) := by decide +kernel
theorem dX0_waysOf_0 : decode cX0_waysOf 0 = .ok (.iload_n 1, 1) := by decide +kernel
theorem dX0_waysOf_1 : decode cX0_waysOf 1 = .ok (.iconst (-1), 1) := by decide +kernel
theorem dX0_waysOf_2 : decode cX0_waysOf 2 = .ok (.if_icmp .ne 7, 3) := by decide +kernel
theorem dX0_waysOf_5 : decode cX0_waysOf 5 = .ok (.iconst 0, 1) := by decide +kernel
theorem dX0_waysOf_6 : decode cX0_waysOf 6 = .ok (.goto 6, 3) := by decide +kernel
theorem dX0_waysOf_9 : decode cX0_waysOf 9 = .ok (.aload_n 0, 1) := by decide +kernel
theorem dX0_waysOf_10 : decode cX0_waysOf 10 = .ok (.iload_n 1, 1) := by decide +kernel
theorem dX0_waysOf_11 : decode cX0_waysOf 11 = .ok (.iaload, 1) := by decide +kernel
theorem dX0_waysOf_12 : decode cX0_waysOf 12 = .ok (.ireturn, 1) := by decide +kernel
theorem dX1_init_0 : decode cX1_init 0 = .ok (.aload_n 0, 1) := by decide +kernel
theorem dX1_init_1 : decode cX1_init 1 = .ok (.invokespecial 5, 3) := by decide +kernel
theorem dX1_init_4 : decode cX1_init 4 = .ok (.aload_n 0, 1) := by decide +kernel
theorem dX1_init_5 : decode cX1_init 5 = .ok (.iload_n 1, 1) := by decide +kernel
theorem dX1_init_6 : decode cX1_init 6 = .ok (.putfield 11, 3) := by decide +kernel
theorem dX1_init_9 : decode cX1_init 9 = .ok (.aload_n 0, 1) := by decide +kernel
theorem dX1_init_10 : decode cX1_init 10 = .ok (.iload_n 2, 1) := by decide +kernel
theorem dX1_init_11 : decode cX1_init 11 = .ok (.putfield 15, 3) := by decide +kernel
theorem dX1_init_14 : decode cX1_init 14 = .ok (.aload_n 0, 1) := by decide +kernel
theorem dX1_init_15 : decode cX1_init 15 = .ok (.iload_n 1, 1) := by decide +kernel
theorem dX1_init_16 : decode cX1_init 16 = .ok (.iconst 1, 1) := by decide +kernel
theorem dX1_init_17 : decode cX1_init 17 = .ok (.iadd, 1) := by decide +kernel
theorem dX1_init_18 : decode cX1_init 18 = .ok (.iload_n 2, 1) := by decide +kernel
theorem dX1_init_19 : decode cX1_init 19 = .ok (.imul, 1) := by decide +kernel
theorem dX1_init_20 : decode cX1_init 20 = .ok (.iload_n 1, 1) := by decide +kernel
theorem dX1_init_21 : decode cX1_init 21 = .ok (.iload_n 2, 1) := by decide +kernel
theorem dX1_init_22 : decode cX1_init 22 = .ok (.iconst 1, 1) := by decide +kernel
theorem dX1_init_23 : decode cX1_init 23 = .ok (.iadd, 1) := by decide +kernel
theorem dX1_init_24 : decode cX1_init 24 = .ok (.imul, 1) := by decide +kernel
theorem dX1_init_25 : decode cX1_init 25 = .ok (.iadd, 1) := by decide +kernel
theorem dX1_init_26 : decode cX1_init 26 = .ok (.putfield 18, 3) := by decide +kernel
theorem dX1_init_29 : decode cX1_init 29 = .ok (.aload_n 0, 1) := by decide +kernel
theorem dX1_init_30 : decode cX1_init 30 = .ok (.aload_n 0, 1) := by decide +kernel
theorem dX1_init_31 : decode cX1_init 31 = .ok (.getfield 18, 3) := by decide +kernel
theorem dX1_init_34 : decode cX1_init 34 = .ok (.newarray .int, 2) := by decide +kernel
theorem dX1_init_36 : decode cX1_init 36 = .ok (.putfield 21, 3) := by decide +kernel
theorem dX1_init_39 : decode cX1_init 39 = .ok (.aload_n 0, 1) := by decide +kernel
theorem dX1_init_40 : decode cX1_init 40 = .ok (.aload_n 0, 1) := by decide +kernel
theorem dX1_init_41 : decode cX1_init 41 = .ok (.getfield 18, 3) := by decide +kernel
theorem dX1_init_44 : decode cX1_init 44 = .ok (.newarray .int, 2) := by decide +kernel
theorem dX1_init_46 : decode cX1_init 46 = .ok (.putfield 25, 3) := by decide +kernel
theorem dX1_init_49 : decode cX1_init 49 = .ok (.aload_n 0, 1) := by decide +kernel
theorem dX1_init_50 : decode cX1_init 50 = .ok (.aload_n 0, 1) := by decide +kernel
theorem dX1_init_51 : decode cX1_init 51 = .ok (.getfield 18, 3) := by decide +kernel
theorem dX1_init_54 : decode cX1_init 54 = .ok (.newarray .boolean, 2) := by decide +kernel
theorem dX1_init_56 : decode cX1_init 56 = .ok (.putfield 28, 3) := by decide +kernel
theorem dX1_init_59 : decode cX1_init 59 = .ok (.aload_n 0, 1) := by decide +kernel
theorem dX1_init_60 : decode cX1_init 60 = .ok (.iload_n 1, 1) := by decide +kernel
theorem dX1_init_61 : decode cX1_init 61 = .ok (.iload_n 2, 1) := by decide +kernel
theorem dX1_init_62 : decode cX1_init 62 = .ok (.imul, 1) := by decide +kernel
theorem dX1_init_63 : decode cX1_init 63 = .ok (.newarray .int, 2) := by decide +kernel
theorem dX1_init_65 : decode cX1_init 65 = .ok (.putfield 32, 3) := by decide +kernel
theorem dX1_init_68 : decode cX1_init 68 = .ok (.iconst 0, 1) := by decide +kernel
theorem dX1_init_69 : decode cX1_init 69 = .ok (.istore_n 3, 1) := by decide +kernel
theorem dX1_init_70 : decode cX1_init 70 = .ok (.iload_n 3, 1) := by decide +kernel
theorem dX1_init_71 : decode cX1_init 71 = .ok (.aload_n 0, 1) := by decide +kernel
theorem dX1_init_72 : decode cX1_init 72 = .ok (.getfield 32, 3) := by decide +kernel
theorem dX1_init_75 : decode cX1_init 75 = .ok (.arraylength, 1) := by decide +kernel
theorem dX1_init_76 : decode cX1_init 76 = .ok (.if_icmp .ge 16, 3) := by decide +kernel
theorem dX1_init_79 : decode cX1_init 79 = .ok (.aload_n 0, 1) := by decide +kernel
theorem dX1_init_80 : decode cX1_init 80 = .ok (.getfield 32, 3) := by decide +kernel
theorem dX1_init_83 : decode cX1_init 83 = .ok (.iload_n 3, 1) := by decide +kernel
theorem dX1_init_84 : decode cX1_init 84 = .ok (.iconst (-1), 1) := by decide +kernel
theorem dX1_init_85 : decode cX1_init 85 = .ok (.iastore, 1) := by decide +kernel
theorem dX1_init_86 : decode cX1_init 86 = .ok (.iinc 3 1, 3) := by decide +kernel
theorem dX1_init_89 : decode cX1_init 89 = .ok (.goto (-19), 3) := by decide +kernel
theorem dX1_init_92 : decode cX1_init 92 = .ok (.iconst 0, 1) := by decide +kernel
theorem dX1_init_93 : decode cX1_init 93 = .ok (.istore_n 3, 1) := by decide +kernel
theorem dX1_init_94 : decode cX1_init 94 = .ok (.iconst 0, 1) := by decide +kernel
theorem dX1_init_95 : decode cX1_init 95 = .ok (.istore 4, 2) := by decide +kernel
theorem dX1_init_97 : decode cX1_init 97 = .ok (.iload 4, 2) := by decide +kernel
theorem dX1_init_99 : decode cX1_init 99 = .ok (.iload_n 1, 1) := by decide +kernel
theorem dX1_init_100 : decode cX1_init 100 = .ok (.if_icmp .gt 81, 3) := by decide +kernel
theorem dX1_init_103 : decode cX1_init 103 = .ok (.iconst 0, 1) := by decide +kernel
theorem dX1_init_104 : decode cX1_init 104 = .ok (.istore 5, 2) := by decide +kernel
theorem dX1_init_106 : decode cX1_init 106 = .ok (.iload 5, 2) := by decide +kernel
theorem dX1_init_108 : decode cX1_init 108 = .ok (.iload_n 2, 1) := by decide +kernel
theorem dX1_init_109 : decode cX1_init 109 = .ok (.if_icmp .gt 66, 3) := by decide +kernel
theorem dX1_init_112 : decode cX1_init 112 = .ok (.iload 5, 2) := by decide +kernel
theorem dX1_init_114 : decode cX1_init 114 = .ok (.iload_n 2, 1) := by decide +kernel
theorem dX1_init_115 : decode cX1_init 115 = .ok (.if_icmp .ge 22, 3) := by decide +kernel
theorem dX1_init_118 : decode cX1_init 118 = .ok (.aload_n 0, 1) := by decide +kernel
theorem dX1_init_119 : decode cX1_init 119 = .ok (.getfield 21, 3) := by decide +kernel
theorem dX1_init_122 : decode cX1_init 122 = .ok (.iload_n 3, 1) := by decide +kernel
theorem dX1_init_123 : decode cX1_init 123 = .ok (.iload 4, 2) := by decide +kernel
theorem dX1_init_125 : decode cX1_init 125 = .ok (.iastore, 1) := by decide +kernel
theorem dX1_init_126 : decode cX1_init 126 = .ok (.aload_n 0, 1) := by decide +kernel
theorem dX1_init_127 : decode cX1_init 127 = .ok (.getfield 25, 3) := by decide +kernel
theorem dX1_init_130 : decode cX1_init 130 = .ok (.iload_n 3, 1) := by decide +kernel
theorem dX1_init_131 : decode cX1_init 131 = .ok (.iload 5, 2) := by decide +kernel
theorem dX1_init_133 : decode cX1_init 133 = .ok (.iastore, 1) := by decide +kernel
theorem dX1_init_134 : decode cX1_init 134 = .ok (.iinc 3 1, 3) := by decide +kernel
theorem dX1_init_137 : decode cX1_init 137 = .ok (.iload 4, 2) := by decide +kernel
theorem dX1_init_139 : decode cX1_init 139 = .ok (.iload_n 1, 1) := by decide +kernel
theorem dX1_init_140 : decode cX1_init 140 = .ok (.if_icmp .ge 29, 3) := by decide +kernel
theorem dX1_init_143 : decode cX1_init 143 = .ok (.aload_n 0, 1) := by decide +kernel
theorem dX1_init_144 : decode cX1_init 144 = .ok (.getfield 21, 3) := by decide +kernel
theorem dX1_init_147 : decode cX1_init 147 = .ok (.iload_n 3, 1) := by decide +kernel
theorem dX1_init_148 : decode cX1_init 148 = .ok (.iload 4, 2) := by decide +kernel
theorem dX1_init_150 : decode cX1_init 150 = .ok (.iastore, 1) := by decide +kernel
theorem dX1_init_151 : decode cX1_init 151 = .ok (.aload_n 0, 1) := by decide +kernel
theorem dX1_init_152 : decode cX1_init 152 = .ok (.getfield 25, 3) := by decide +kernel
theorem dX1_init_155 : decode cX1_init 155 = .ok (.iload_n 3, 1) := by decide +kernel
theorem dX1_init_156 : decode cX1_init 156 = .ok (.iload 5, 2) := by decide +kernel
theorem dX1_init_158 : decode cX1_init 158 = .ok (.iastore, 1) := by decide +kernel
theorem dX1_init_159 : decode cX1_init 159 = .ok (.aload_n 0, 1) := by decide +kernel
theorem dX1_init_160 : decode cX1_init 160 = .ok (.getfield 28, 3) := by decide +kernel
theorem dX1_init_163 : decode cX1_init 163 = .ok (.iload_n 3, 1) := by decide +kernel
theorem dX1_init_164 : decode cX1_init 164 = .ok (.iconst 1, 1) := by decide +kernel
theorem dX1_init_165 : decode cX1_init 165 = .ok (.bastore, 1) := by decide +kernel
theorem dX1_init_166 : decode cX1_init 166 = .ok (.iinc 3 1, 3) := by decide +kernel
theorem dX1_init_169 : decode cX1_init 169 = .ok (.iinc 5 1, 3) := by decide +kernel
theorem dX1_init_172 : decode cX1_init 172 = .ok (.goto (-66), 3) := by decide +kernel
theorem dX1_init_175 : decode cX1_init 175 = .ok (.iinc 4 1, 3) := by decide +kernel
theorem dX1_init_178 : decode cX1_init 178 = .ok (.goto (-81), 3) := by decide +kernel
theorem dX1_init_181 : decode cX1_init 181 = .ok (.return_, 1) := by decide +kernel
theorem dX1_pointsAfter_0 : decode cX1_pointsAfter 0 = .ok (.aload_n 0, 1) := by decide +kernel
theorem dX1_pointsAfter_1 : decode cX1_pointsAfter 1 = .ok (.getfield 25, 3) := by decide +kernel
theorem dX1_pointsAfter_4 : decode cX1_pointsAfter 4 = .ok (.iload_n 2, 1) := by decide +kernel
theorem dX1_pointsAfter_5 : decode cX1_pointsAfter 5 = .ok (.iaload, 1) := by decide +kernel
theorem dX1_pointsAfter_6 : decode cX1_pointsAfter 6 = .ok (.istore 4, 2) := by decide +kernel
theorem dX1_pointsAfter_8 : decode cX1_pointsAfter 8 = .ok (.aload_n 0, 1) := by decide +kernel
theorem dX1_pointsAfter_9 : decode cX1_pointsAfter 9 = .ok (.getfield 28, 3) := by decide +kernel
theorem dX1_pointsAfter_12 : decode cX1_pointsAfter 12 = .ok (.iload_n 2, 1) := by decide +kernel
theorem dX1_pointsAfter_13 : decode cX1_pointsAfter 13 = .ok (.baload, 1) := by decide +kernel
theorem dX1_pointsAfter_14 : decode cX1_pointsAfter 14 = .ok (.ifCond .eq 11, 3) := by decide +kernel
theorem dX1_pointsAfter_17 : decode cX1_pointsAfter 17 = .ok (.iload_n 1, 1) := by decide +kernel
theorem dX1_pointsAfter_18 : decode cX1_pointsAfter 18 = .ok (.iload 4, 2) := by decide +kernel
theorem dX1_pointsAfter_20 : decode cX1_pointsAfter 20 = .ok (.iload_n 3, 1) := by decide +kernel
theorem dX1_pointsAfter_21 : decode cX1_pointsAfter 21 = .ok (.invokestatic 35, 3) := by decide +kernel
theorem dX1_pointsAfter_24 : decode cX1_pointsAfter 24 = .ok (.ireturn, 1) := by decide +kernel
theorem dX1_pointsAfter_25 : decode cX1_pointsAfter 25 = .ok (.iload_n 3, 1) := by decide +kernel
theorem dX1_pointsAfter_26 : decode cX1_pointsAfter 26 = .ok (.ifCond .eq 12, 3) := by decide +kernel
theorem dX1_pointsAfter_29 : decode cX1_pointsAfter 29 = .ok (.iload_n 1, 1) := by decide +kernel
theorem dX1_pointsAfter_30 : decode cX1_pointsAfter 30 = .ok (.iload 4, 2) := by decide +kernel
theorem dX1_pointsAfter_32 : decode cX1_pointsAfter 32 = .ok (.invokestatic 39, 3) := by decide +kernel
theorem dX1_pointsAfter_35 : decode cX1_pointsAfter 35 = .ok (.goto 4, 3) := by decide +kernel
theorem dX1_pointsAfter_38 : decode cX1_pointsAfter 38 = .ok (.iload_n 1, 1) := by decide +kernel
theorem dX1_pointsAfter_39 : decode cX1_pointsAfter 39 = .ok (.istore 5, 2) := by decide +kernel
theorem dX1_pointsAfter_41 : decode cX1_pointsAfter 41 = .ok (.aload_n 0, 1) := by decide +kernel
theorem dX1_pointsAfter_42 : decode cX1_pointsAfter 42 = .ok (.getfield 21, 3) := by decide +kernel
theorem dX1_pointsAfter_45 : decode cX1_pointsAfter 45 = .ok (.iload_n 2, 1) := by decide +kernel
theorem dX1_pointsAfter_46 : decode cX1_pointsAfter 46 = .ok (.iaload, 1) := by decide +kernel
theorem dX1_pointsAfter_47 : decode cX1_pointsAfter 47 = .ok (.aload_n 0, 1) := by decide +kernel
theorem dX1_pointsAfter_48 : decode cX1_pointsAfter 48 = .ok (.getfield 11, 3) := by decide +kernel
theorem dX1_pointsAfter_51 : decode cX1_pointsAfter 51 = .ok (.if_icmp .ne 12, 3) := by decide +kernel
theorem dX1_pointsAfter_54 : decode cX1_pointsAfter 54 = .ok (.iload 5, 2) := by decide +kernel
theorem dX1_pointsAfter_56 : decode cX1_pointsAfter 56 = .ok (.iload 4, 2) := by decide +kernel
theorem dX1_pointsAfter_58 : decode cX1_pointsAfter 58 = .ok (.invokestatic 43, 3) := by decide +kernel
theorem dX1_pointsAfter_61 : decode cX1_pointsAfter 61 = .ok (.istore 5, 2) := by decide +kernel
theorem dX1_pointsAfter_63 : decode cX1_pointsAfter 63 = .ok (.iload_n 2, 1) := by decide +kernel
theorem dX1_pointsAfter_64 : decode cX1_pointsAfter 64 = .ok (.aload_n 0, 1) := by decide +kernel
theorem dX1_pointsAfter_65 : decode cX1_pointsAfter 65 = .ok (.getfield 18, 3) := by decide +kernel
theorem dX1_pointsAfter_68 : decode cX1_pointsAfter 68 = .ok (.iconst 1, 1) := by decide +kernel
theorem dX1_pointsAfter_69 : decode cX1_pointsAfter 69 = .ok (.isub, 1) := by decide +kernel
theorem dX1_pointsAfter_70 : decode cX1_pointsAfter 70 = .ok (.if_icmp .ne 50, 3) := by decide +kernel
theorem dX1_pointsAfter_73 : decode cX1_pointsAfter 73 = .ok (.iload 5, 2) := by decide +kernel
theorem dX1_pointsAfter_75 : decode cX1_pointsAfter 75 = .ok (.iload 4, 2) := by decide +kernel
theorem dX1_pointsAfter_77 : decode cX1_pointsAfter 77 = .ok (.iconst 1, 1) := by decide +kernel
theorem dX1_pointsAfter_78 : decode cX1_pointsAfter 78 = .ok (.iadd, 1) := by decide +kernel
theorem dX1_pointsAfter_79 : decode cX1_pointsAfter 79 = .ok (.invokestatic 43, 3) := by decide +kernel
theorem dX1_pointsAfter_82 : decode cX1_pointsAfter 82 = .ok (.istore 5, 2) := by decide +kernel
theorem dX1_pointsAfter_84 : decode cX1_pointsAfter 84 = .ok (.iload 5, 2) := by decide +kernel
theorem dX1_pointsAfter_86 : decode cX1_pointsAfter 86 = .ok (.iconst (-1), 1) := by decide +kernel
theorem dX1_pointsAfter_87 : decode cX1_pointsAfter 87 = .ok (.if_icmp .eq 18, 3) := by decide +kernel
theorem dX1_pointsAfter_90 : decode cX1_pointsAfter 90 = .ok (.iload 5, 2) := by decide +kernel
theorem dX1_pointsAfter_92 : decode cX1_pointsAfter 92 = .ok (.bipush 7, 2) := by decide +kernel
theorem dX1_pointsAfter_94 : decode cX1_pointsAfter 94 = .ok (.invokestatic 46, 3) := by decide +kernel
theorem dX1_pointsAfter_97 : decode cX1_pointsAfter 97 = .ok (.iconst 1, 1) := by decide +kernel
theorem dX1_pointsAfter_98 : decode cX1_pointsAfter 98 = .ok (.if_icmp .ne 7, 3) := by decide +kernel
theorem dX1_pointsAfter_101 : decode cX1_pointsAfter 101 = .ok (.iconst 1, 1) := by decide +kernel
theorem dX1_pointsAfter_102 : decode cX1_pointsAfter 102 = .ok (.goto 4, 3) := by decide +kernel
theorem dX1_pointsAfter_105 : decode cX1_pointsAfter 105 = .ok (.iconst 0, 1) := by decide +kernel
theorem dX1_pointsAfter_106 : decode cX1_pointsAfter 106 = .ok (.istore 6, 2) := by decide +kernel
theorem dX1_pointsAfter_108 : decode cX1_pointsAfter 108 = .ok (.iload 6, 2) := by decide +kernel
theorem dX1_pointsAfter_110 : decode cX1_pointsAfter 110 = .ok (.ifCond .eq 8, 3) := by decide +kernel
theorem dX1_pointsAfter_113 : decode cX1_pointsAfter 113 = .ok (.iload 5, 2) := by decide +kernel
theorem dX1_pointsAfter_115 : decode cX1_pointsAfter 115 = .ok (.goto 4, 3) := by decide +kernel
theorem dX1_pointsAfter_118 : decode cX1_pointsAfter 118 = .ok (.iconst (-1), 1) := by decide +kernel
theorem dX1_pointsAfter_119 : decode cX1_pointsAfter 119 = .ok (.ireturn, 1) := by decide +kernel
theorem dX1_pointsAfter_120 : decode cX1_pointsAfter 120 = .ok (.iload 5, 2) := by decide +kernel
theorem dX1_pointsAfter_122 : decode cX1_pointsAfter 122 = .ok (.ireturn, 1) := by decide +kernel
theorem dX1_cluesAfter_0 : decode cX1_cluesAfter 0 = .ok (.aload_n 0, 1) := by decide +kernel
theorem dX1_cluesAfter_1 : decode cX1_cluesAfter 1 = .ok (.getfield 21, 3) := by decide +kernel
theorem dX1_cluesAfter_4 : decode cX1_cluesAfter 4 = .ok (.iload_n 2, 1) := by decide +kernel
theorem dX1_cluesAfter_5 : decode cX1_cluesAfter 5 = .ok (.iaload, 1) := by decide +kernel
theorem dX1_cluesAfter_6 : decode cX1_cluesAfter 6 = .ok (.istore 4, 2) := by decide +kernel
theorem dX1_cluesAfter_8 : decode cX1_cluesAfter 8 = .ok (.aload_n 0, 1) := by decide +kernel
theorem dX1_cluesAfter_9 : decode cX1_cluesAfter 9 = .ok (.getfield 25, 3) := by decide +kernel
theorem dX1_cluesAfter_12 : decode cX1_cluesAfter 12 = .ok (.iload_n 2, 1) := by decide +kernel
theorem dX1_cluesAfter_13 : decode cX1_cluesAfter 13 = .ok (.iaload, 1) := by decide +kernel
theorem dX1_cluesAfter_14 : decode cX1_cluesAfter 14 = .ok (.istore 5, 2) := by decide +kernel
theorem dX1_cluesAfter_16 : decode cX1_cluesAfter 16 = .ok (.aload_n 0, 1) := by decide +kernel
theorem dX1_cluesAfter_17 : decode cX1_cluesAfter 17 = .ok (.getfield 28, 3) := by decide +kernel
theorem dX1_cluesAfter_20 : decode cX1_cluesAfter 20 = .ok (.iload_n 2, 1) := by decide +kernel
theorem dX1_cluesAfter_21 : decode cX1_cluesAfter 21 = .ok (.baload, 1) := by decide +kernel
theorem dX1_cluesAfter_22 : decode cX1_cluesAfter 22 = .ok (.ifCond .eq 27, 3) := by decide +kernel
theorem dX1_cluesAfter_25 : decode cX1_cluesAfter 25 = .ok (.aload_n 0, 1) := by decide +kernel
theorem dX1_cluesAfter_26 : decode cX1_cluesAfter 26 = .ok (.aload_n 0, 1) := by decide +kernel
theorem dX1_cluesAfter_27 : decode cX1_cluesAfter 27 = .ok (.iload_n 1, 1) := by decide +kernel
theorem dX1_cluesAfter_28 : decode cX1_cluesAfter 28 = .ok (.iload 4, 2) := by decide +kernel
theorem dX1_cluesAfter_30 : decode cX1_cluesAfter 30 = .ok (.iload 5, 2) := by decide +kernel
theorem dX1_cluesAfter_32 : decode cX1_cluesAfter 32 = .ok (.iconst 1, 1) := by decide +kernel
theorem dX1_cluesAfter_33 : decode cX1_cluesAfter 33 = .ok (.isub, 1) := by decide +kernel
theorem dX1_cluesAfter_34 : decode cX1_cluesAfter 34 = .ok (.iload_n 3, 1) := by decide +kernel
theorem dX1_cluesAfter_35 : decode cX1_cluesAfter 35 = .ok (.iconst 0, 1) := by decide +kernel
theorem dX1_cluesAfter_36 : decode cX1_cluesAfter 36 = .ok (.invokevirtual 49, 3) := by decide +kernel
theorem dX1_cluesAfter_39 : decode cX1_cluesAfter 39 = .ok (.iload 4, 2) := by decide +kernel
theorem dX1_cluesAfter_41 : decode cX1_cluesAfter 41 = .ok (.iload 5, 2) := by decide +kernel
theorem dX1_cluesAfter_43 : decode cX1_cluesAfter 43 = .ok (.iload_n 3, 1) := by decide +kernel
theorem dX1_cluesAfter_44 : decode cX1_cluesAfter 44 = .ok (.iconst 0, 1) := by decide +kernel
theorem dX1_cluesAfter_45 : decode cX1_cluesAfter 45 = .ok (.invokevirtual 49, 3) := by decide +kernel
theorem dX1_cluesAfter_48 : decode cX1_cluesAfter 48 = .ok (.ireturn, 1) := by decide +kernel
theorem dX1_cluesAfter_49 : decode cX1_cluesAfter 49 = .ok (.aload_n 0, 1) := by decide +kernel
theorem dX1_cluesAfter_50 : decode cX1_cluesAfter 50 = .ok (.aload_n 0, 1) := by decide +kernel
theorem dX1_cluesAfter_51 : decode cX1_cluesAfter 51 = .ok (.iload_n 1, 1) := by decide +kernel
theorem dX1_cluesAfter_52 : decode cX1_cluesAfter 52 = .ok (.iload 4, 2) := by decide +kernel
theorem dX1_cluesAfter_54 : decode cX1_cluesAfter 54 = .ok (.iconst 1, 1) := by decide +kernel
theorem dX1_cluesAfter_55 : decode cX1_cluesAfter 55 = .ok (.isub, 1) := by decide +kernel
theorem dX1_cluesAfter_56 : decode cX1_cluesAfter 56 = .ok (.iload 5, 2) := by decide +kernel
theorem dX1_cluesAfter_58 : decode cX1_cluesAfter 58 = .ok (.iload_n 3, 1) := by decide +kernel
theorem dX1_cluesAfter_59 : decode cX1_cluesAfter 59 = .ok (.iconst 1, 1) := by decide +kernel
theorem dX1_cluesAfter_60 : decode cX1_cluesAfter 60 = .ok (.invokevirtual 49, 3) := by decide +kernel
theorem dX1_cluesAfter_63 : decode cX1_cluesAfter 63 = .ok (.iload 4, 2) := by decide +kernel
theorem dX1_cluesAfter_65 : decode cX1_cluesAfter 65 = .ok (.iload 5, 2) := by decide +kernel
theorem dX1_cluesAfter_67 : decode cX1_cluesAfter 67 = .ok (.iload_n 3, 1) := by decide +kernel
theorem dX1_cluesAfter_68 : decode cX1_cluesAfter 68 = .ok (.iconst 0, 1) := by decide +kernel
theorem dX1_cluesAfter_69 : decode cX1_cluesAfter 69 = .ok (.invokevirtual 49, 3) := by decide +kernel
theorem dX1_cluesAfter_72 : decode cX1_cluesAfter 72 = .ok (.ireturn, 1) := by decide +kernel
theorem dX1_downAfter_0 : decode cX1_downAfter 0 = .ok (.iload_n 0, 1) := by decide +kernel
theorem dX1_downAfter_1 : decode cX1_downAfter 1 = .ok (.iload_n 1, 1) := by decide +kernel
theorem dX1_downAfter_2 : decode cX1_downAfter 2 = .ok (.invokestatic 46, 3) := by decide +kernel
theorem dX1_downAfter_5 : decode cX1_downAfter 5 = .ok (.iload_n 1, 1) := by decide +kernel
theorem dX1_downAfter_6 : decode cX1_downAfter 6 = .ok (.invokestatic 53, 3) := by decide +kernel
theorem dX1_downAfter_9 : decode cX1_downAfter 9 = .ok (.iload_n 2, 1) := by decide +kernel
theorem dX1_downAfter_10 : decode cX1_downAfter 10 = .ok (.if_icmp .eq 5, 3) := by decide +kernel
theorem dX1_downAfter_13 : decode cX1_downAfter 13 = .ok (.iconst (-1), 1) := by decide +kernel
theorem dX1_downAfter_14 : decode cX1_downAfter 14 = .ok (.ireturn, 1) := by decide +kernel
theorem dX1_downAfter_15 : decode cX1_downAfter 15 = .ok (.iload_n 2, 1) := by decide +kernel
theorem dX1_downAfter_16 : decode cX1_downAfter 16 = .ok (.ifCond .eq 7, 3) := by decide +kernel
theorem dX1_downAfter_19 : decode cX1_downAfter 19 = .ok (.iload_n 0, 1) := by decide +kernel
theorem dX1_downAfter_20 : decode cX1_downAfter 20 = .ok (.goto 9, 3) := by decide +kernel
theorem dX1_downAfter_23 : decode cX1_downAfter 23 = .ok (.iload_n 0, 1) := by decide +kernel
theorem dX1_downAfter_24 : decode cX1_downAfter 24 = .ok (.iload_n 1, 1) := by decide +kernel
theorem dX1_downAfter_25 : decode cX1_downAfter 25 = .ok (.iload_n 1, 1) := by decide +kernel
theorem dX1_downAfter_26 : decode cX1_downAfter 26 = .ok (.invokestatic 57, 3) := by decide +kernel
theorem dX1_downAfter_29 : decode cX1_downAfter 29 = .ok (.ireturn, 1) := by decide +kernel
theorem dX1_joined_0 : decode cX1_joined 0 = .ok (.iload_n 1, 1) := by decide +kernel
theorem dX1_joined_1 : decode cX1_joined 1 = .ok (.iconst 1, 1) := by decide +kernel
theorem dX1_joined_2 : decode cX1_joined 2 = .ok (.iadd, 1) := by decide +kernel
theorem dX1_joined_3 : decode cX1_joined 3 = .ok (.istore_n 2, 1) := by decide +kernel
theorem dX1_joined_4 : decode cX1_joined 4 = .ok (.iload_n 0, 1) := by decide +kernel
theorem dX1_joined_5 : decode cX1_joined 5 = .ok (.iload_n 1, 1) := by decide +kernel
theorem dX1_joined_6 : decode cX1_joined 6 = .ok (.invokestatic 46, 3) := by decide +kernel
theorem dX1_joined_9 : decode cX1_joined 9 = .ok (.istore_n 3, 1) := by decide +kernel
theorem dX1_joined_10 : decode cX1_joined 10 = .ok (.iload_n 0, 1) := by decide +kernel
theorem dX1_joined_11 : decode cX1_joined 11 = .ok (.iload_n 2, 1) := by decide +kernel
theorem dX1_joined_12 : decode cX1_joined 12 = .ok (.invokestatic 46, 3) := by decide +kernel
theorem dX1_joined_15 : decode cX1_joined 15 = .ok (.istore 4, 2) := by decide +kernel
theorem dX1_joined_17 : decode cX1_joined 17 = .ok (.iload_n 3, 1) := by decide +kernel
theorem dX1_joined_18 : decode cX1_joined 18 = .ok (.bipush 7, 2) := by decide +kernel
theorem dX1_joined_20 : decode cX1_joined 20 = .ok (.if_icmp .eq 13, 3) := by decide +kernel
theorem dX1_joined_23 : decode cX1_joined 23 = .ok (.iload_n 0, 1) := by decide +kernel
theorem dX1_joined_24 : decode cX1_joined 24 = .ok (.bipush 7, 2) := by decide +kernel
theorem dX1_joined_26 : decode cX1_joined 26 = .ok (.invokestatic 46, 3) := by decide +kernel
theorem dX1_joined_29 : decode cX1_joined 29 = .ok (.iconst 1, 1) := by decide +kernel
theorem dX1_joined_30 : decode cX1_joined 30 = .ok (.if_icmp .ne 5, 3) := by decide +kernel
theorem dX1_joined_33 : decode cX1_joined 33 = .ok (.iconst (-1), 1) := by decide +kernel
theorem dX1_joined_34 : decode cX1_joined 34 = .ok (.ireturn, 1) := by decide +kernel
theorem dX1_joined_35 : decode cX1_joined 35 = .ok (.iload_n 0, 1) := by decide +kernel
theorem dX1_joined_36 : decode cX1_joined 36 = .ok (.iload_n 1, 1) := by decide +kernel
theorem dX1_joined_37 : decode cX1_joined 37 = .ok (.bipush 7, 2) := by decide +kernel
theorem dX1_joined_39 : decode cX1_joined 39 = .ok (.invokestatic 57, 3) := by decide +kernel
theorem dX1_joined_42 : decode cX1_joined 42 = .ok (.iload_n 2, 1) := by decide +kernel
theorem dX1_joined_43 : decode cX1_joined 43 = .ok (.bipush 7, 2) := by decide +kernel
theorem dX1_joined_45 : decode cX1_joined 45 = .ok (.invokestatic 57, 3) := by decide +kernel
theorem dX1_joined_48 : decode cX1_joined 48 = .ok (.istore 5, 2) := by decide +kernel
theorem dX1_joined_50 : decode cX1_joined 50 = .ok (.iload_n 3, 1) := by decide +kernel
theorem dX1_joined_51 : decode cX1_joined 51 = .ok (.iload_n 2, 1) := by decide +kernel
theorem dX1_joined_52 : decode cX1_joined 52 = .ok (.if_icmp .eq 18, 3) := by decide +kernel
theorem dX1_joined_55 : decode cX1_joined 55 = .ok (.iload 5, 2) := by decide +kernel
theorem dX1_joined_57 : decode cX1_joined 57 = .ok (.iload_n 3, 1) := by decide +kernel
theorem dX1_joined_58 : decode cX1_joined 58 = .ok (.iload 4, 2) := by decide +kernel
theorem dX1_joined_60 : decode cX1_joined 60 = .ok (.invokestatic 57, 3) := by decide +kernel
theorem dX1_joined_63 : decode cX1_joined 63 = .ok (.iload 4, 2) := by decide +kernel
theorem dX1_joined_65 : decode cX1_joined 65 = .ok (.iload_n 3, 1) := by decide +kernel
theorem dX1_joined_66 : decode cX1_joined 66 = .ok (.invokestatic 57, 3) := by decide +kernel
theorem dX1_joined_69 : decode cX1_joined 69 = .ok (.ireturn, 1) := by decide +kernel
theorem dX1_joined_70 : decode cX1_joined 70 = .ok (.iconst 0, 1) := by decide +kernel
theorem dX1_joined_71 : decode cX1_joined 71 = .ok (.istore 6, 2) := by decide +kernel
theorem dX1_joined_73 : decode cX1_joined 73 = .ok (.iload 6, 2) := by decide +kernel
theorem dX1_joined_75 : decode cX1_joined 75 = .ok (.iconst 4, 1) := by decide +kernel
theorem dX1_joined_76 : decode cX1_joined 76 = .ok (.if_icmp .ge 26, 3) := by decide +kernel
theorem dX1_joined_79 : decode cX1_joined 79 = .ok (.iload 5, 2) := by decide +kernel
theorem dX1_joined_81 : decode cX1_joined 81 = .ok (.iload 6, 2) := by decide +kernel
theorem dX1_joined_83 : decode cX1_joined 83 = .ok (.invokestatic 46, 3) := by decide +kernel
theorem dX1_joined_86 : decode cX1_joined 86 = .ok (.iload 6, 2) := by decide +kernel
theorem dX1_joined_88 : decode cX1_joined 88 = .ok (.invokestatic 53, 3) := by decide +kernel
theorem dX1_joined_91 : decode cX1_joined 91 = .ok (.ifCond .eq 5, 3) := by decide +kernel
theorem dX1_joined_94 : decode cX1_joined 94 = .ok (.iconst (-1), 1) := by decide +kernel
theorem dX1_joined_95 : decode cX1_joined 95 = .ok (.ireturn, 1) := by decide +kernel
theorem dX1_joined_96 : decode cX1_joined 96 = .ok (.iinc 6 1, 3) := by decide +kernel
theorem dX1_joined_99 : decode cX1_joined 99 = .ok (.goto (-26), 3) := by decide +kernel
theorem dX1_joined_102 : decode cX1_joined 102 = .ok (.iload 5, 2) := by decide +kernel
theorem dX1_joined_104 : decode cX1_joined 104 = .ok (.bipush 7, 2) := by decide +kernel
theorem dX1_joined_106 : decode cX1_joined 106 = .ok (.iconst 1, 1) := by decide +kernel
theorem dX1_joined_107 : decode cX1_joined 107 = .ok (.invokestatic 57, 3) := by decide +kernel
theorem dX1_joined_110 : decode cX1_joined 110 = .ok (.ireturn, 1) := by decide +kernel
theorem dX1_ended_0 : decode cX1_ended 0 = .ok (.iload_n 0, 1) := by decide +kernel
theorem dX1_ended_1 : decode cX1_ended 1 = .ok (.iconst (-1), 1) := by decide +kernel
theorem dX1_ended_2 : decode cX1_ended 2 = .ok (.if_icmp .eq 15, 3) := by decide +kernel
theorem dX1_ended_5 : decode cX1_ended 5 = .ok (.iload_n 0, 1) := by decide +kernel
theorem dX1_ended_6 : decode cX1_ended 6 = .ok (.iload_n 1, 1) := by decide +kernel
theorem dX1_ended_7 : decode cX1_ended 7 = .ok (.invokestatic 46, 3) := by decide +kernel
theorem dX1_ended_10 : decode cX1_ended 10 = .ok (.iload_n 1, 1) := by decide +kernel
theorem dX1_ended_11 : decode cX1_ended 11 = .ok (.invokestatic 53, 3) := by decide +kernel
theorem dX1_ended_14 : decode cX1_ended 14 = .ok (.ifCond .eq 5, 3) := by decide +kernel
theorem dX1_ended_17 : decode cX1_ended 17 = .ok (.iconst (-1), 1) := by decide +kernel
theorem dX1_ended_18 : decode cX1_ended 18 = .ok (.ireturn, 1) := by decide +kernel
theorem dX1_ended_19 : decode cX1_ended 19 = .ok (.iload_n 0, 1) := by decide +kernel
theorem dX1_ended_20 : decode cX1_ended 20 = .ok (.iload_n 1, 1) := by decide +kernel
theorem dX1_ended_21 : decode cX1_ended 21 = .ok (.iload_n 1, 1) := by decide +kernel
theorem dX1_ended_22 : decode cX1_ended 22 = .ok (.invokestatic 57, 3) := by decide +kernel
theorem dX1_ended_25 : decode cX1_ended 25 = .ok (.ireturn, 1) := by decide +kernel
theorem dX1_sideAfter_0 : decode cX1_sideAfter 0 = .ok (.iload_n 1, 1) := by decide +kernel
theorem dX1_sideAfter_1 : decode cX1_sideAfter 1 = .ok (.iconst (-1), 1) := by decide +kernel
theorem dX1_sideAfter_2 : decode cX1_sideAfter 2 = .ok (.if_icmp .eq 27, 3) := by decide +kernel
theorem dX1_sideAfter_5 : decode cX1_sideAfter 5 = .ok (.iload_n 2, 1) := by decide +kernel
theorem dX1_sideAfter_6 : decode cX1_sideAfter 6 = .ok (.ifCond .lt 23, 3) := by decide +kernel
theorem dX1_sideAfter_9 : decode cX1_sideAfter 9 = .ok (.iload_n 2, 1) := by decide +kernel
theorem dX1_sideAfter_10 : decode cX1_sideAfter 10 = .ok (.aload_n 0, 1) := by decide +kernel
theorem dX1_sideAfter_11 : decode cX1_sideAfter 11 = .ok (.getfield 11, 3) := by decide +kernel
theorem dX1_sideAfter_14 : decode cX1_sideAfter 14 = .ok (.if_icmp .ge 15, 3) := by decide +kernel
theorem dX1_sideAfter_17 : decode cX1_sideAfter 17 = .ok (.iload_n 3, 1) := by decide +kernel
theorem dX1_sideAfter_18 : decode cX1_sideAfter 18 = .ok (.ifCond .lt 11, 3) := by decide +kernel
theorem dX1_sideAfter_21 : decode cX1_sideAfter 21 = .ok (.iload_n 3, 1) := by decide +kernel
theorem dX1_sideAfter_22 : decode cX1_sideAfter 22 = .ok (.aload_n 0, 1) := by decide +kernel
theorem dX1_sideAfter_23 : decode cX1_sideAfter 23 = .ok (.getfield 15, 3) := by decide +kernel
theorem dX1_sideAfter_26 : decode cX1_sideAfter 26 = .ok (.if_icmp .lt 5, 3) := by decide +kernel
theorem dX1_sideAfter_29 : decode cX1_sideAfter 29 = .ok (.iload_n 1, 1) := by decide +kernel
theorem dX1_sideAfter_30 : decode cX1_sideAfter 30 = .ok (.ireturn, 1) := by decide +kernel
theorem dX1_sideAfter_31 : decode cX1_sideAfter 31 = .ok (.aload_n 0, 1) := by decide +kernel
theorem dX1_sideAfter_32 : decode cX1_sideAfter 32 = .ok (.getfield 32, 3) := by decide +kernel
theorem dX1_sideAfter_35 : decode cX1_sideAfter 35 = .ok (.iload_n 2, 1) := by decide +kernel
theorem dX1_sideAfter_36 : decode cX1_sideAfter 36 = .ok (.aload_n 0, 1) := by decide +kernel
theorem dX1_sideAfter_37 : decode cX1_sideAfter 37 = .ok (.getfield 15, 3) := by decide +kernel
theorem dX1_sideAfter_40 : decode cX1_sideAfter 40 = .ok (.imul, 1) := by decide +kernel
theorem dX1_sideAfter_41 : decode cX1_sideAfter 41 = .ok (.iload_n 3, 1) := by decide +kernel
theorem dX1_sideAfter_42 : decode cX1_sideAfter 42 = .ok (.iadd, 1) := by decide +kernel
theorem dX1_sideAfter_43 : decode cX1_sideAfter 43 = .ok (.iaload, 1) := by decide +kernel
theorem dX1_sideAfter_44 : decode cX1_sideAfter 44 = .ok (.istore 6, 2) := by decide +kernel
theorem dX1_sideAfter_46 : decode cX1_sideAfter 46 = .ok (.iload 6, 2) := by decide +kernel
theorem dX1_sideAfter_48 : decode cX1_sideAfter 48 = .ok (.iconst (-1), 1) := by decide +kernel
theorem dX1_sideAfter_49 : decode cX1_sideAfter 49 = .ok (.if_icmp .ne 5, 3) := by decide +kernel
theorem dX1_sideAfter_52 : decode cX1_sideAfter 52 = .ok (.iload_n 1, 1) := by decide +kernel
theorem dX1_sideAfter_53 : decode cX1_sideAfter 53 = .ok (.ireturn, 1) := by decide +kernel
theorem dX1_sideAfter_54 : decode cX1_sideAfter 54 = .ok (.iload_n 1, 1) := by decide +kernel
theorem dX1_sideAfter_55 : decode cX1_sideAfter 55 = .ok (.iconst 4, 1) := by decide +kernel
theorem dX1_sideAfter_56 : decode cX1_sideAfter 56 = .ok (.iload_n 3, 1) := by decide +kernel
theorem dX1_sideAfter_57 : decode cX1_sideAfter 57 = .ok (.iadd, 1) := by decide +kernel
theorem dX1_sideAfter_58 : decode cX1_sideAfter 58 = .ok (.invokestatic 46, 3) := by decide +kernel
theorem dX1_sideAfter_61 : decode cX1_sideAfter 61 = .ok (.iload 4, 2) := by decide +kernel
theorem dX1_sideAfter_63 : decode cX1_sideAfter 63 = .ok (.ifCond .eq 7, 3) := by decide +kernel
theorem dX1_sideAfter_66 : decode cX1_sideAfter 66 = .ok (.iconst 1, 1) := by decide +kernel
theorem dX1_sideAfter_67 : decode cX1_sideAfter 67 = .ok (.goto 4, 3) := by decide +kernel
theorem dX1_sideAfter_70 : decode cX1_sideAfter 70 = .ok (.iconst 0, 1) := by decide +kernel
theorem dX1_sideAfter_71 : decode cX1_sideAfter 71 = .ok (.iadd, 1) := by decide +kernel
theorem dX1_sideAfter_72 : decode cX1_sideAfter 72 = .ok (.istore 7, 2) := by decide +kernel
theorem dX1_sideAfter_74 : decode cX1_sideAfter 74 = .ok (.iload 7, 2) := by decide +kernel
theorem dX1_sideAfter_76 : decode cX1_sideAfter 76 = .ok (.iload 6, 2) := by decide +kernel
theorem dX1_sideAfter_78 : decode cX1_sideAfter 78 = .ok (.if_icmp .gt 15, 3) := by decide +kernel
theorem dX1_sideAfter_81 : decode cX1_sideAfter 81 = .ok (.iload 5, 2) := by decide +kernel
theorem dX1_sideAfter_83 : decode cX1_sideAfter 83 = .ok (.ifCond .eq 12, 3) := by decide +kernel
theorem dX1_sideAfter_86 : decode cX1_sideAfter 86 = .ok (.iload 7, 2) := by decide +kernel
theorem dX1_sideAfter_88 : decode cX1_sideAfter 88 = .ok (.iload 6, 2) := by decide +kernel
theorem dX1_sideAfter_90 : decode cX1_sideAfter 90 = .ok (.if_icmp .ge 5, 3) := by decide +kernel
theorem dX1_sideAfter_93 : decode cX1_sideAfter 93 = .ok (.iconst (-1), 1) := by decide +kernel
theorem dX1_sideAfter_94 : decode cX1_sideAfter 94 = .ok (.ireturn, 1) := by decide +kernel
theorem dX1_sideAfter_95 : decode cX1_sideAfter 95 = .ok (.iload_n 1, 1) := by decide +kernel
theorem dX1_sideAfter_96 : decode cX1_sideAfter 96 = .ok (.iconst 4, 1) := by decide +kernel
theorem dX1_sideAfter_97 : decode cX1_sideAfter 97 = .ok (.iload_n 3, 1) := by decide +kernel
theorem dX1_sideAfter_98 : decode cX1_sideAfter 98 = .ok (.iadd, 1) := by decide +kernel
theorem dX1_sideAfter_99 : decode cX1_sideAfter 99 = .ok (.iload 5, 2) := by decide +kernel
theorem dX1_sideAfter_101 : decode cX1_sideAfter 101 = .ok (.ifCond .eq 7, 3) := by decide +kernel
theorem dX1_sideAfter_104 : decode cX1_sideAfter 104 = .ok (.iconst 0, 1) := by decide +kernel
theorem dX1_sideAfter_105 : decode cX1_sideAfter 105 = .ok (.goto 5, 3) := by decide +kernel
theorem dX1_sideAfter_108 : decode cX1_sideAfter 108 = .ok (.iload 7, 2) := by decide +kernel
theorem dX1_sideAfter_110 : decode cX1_sideAfter 110 = .ok (.invokestatic 57, 3) := by decide +kernel
theorem dX1_sideAfter_113 : decode cX1_sideAfter 113 = .ok (.ireturn, 1) := by decide +kernel
theorem dX1_isPathEnd_0 : decode cX1_isPathEnd 0 = .ok (.iload_n 0, 1) := by decide +kernel
theorem dX1_isPathEnd_1 : decode cX1_isPathEnd 1 = .ok (.iload_n 1, 1) := by decide +kernel
theorem dX1_isPathEnd_2 : decode cX1_isPathEnd 2 = .ok (.if_icmp .eq 13, 3) := by decide +kernel
theorem dX1_isPathEnd_5 : decode cX1_isPathEnd 5 = .ok (.iload_n 0, 1) := by decide +kernel
theorem dX1_isPathEnd_6 : decode cX1_isPathEnd 6 = .ok (.bipush 7, 2) := by decide +kernel
theorem dX1_isPathEnd_8 : decode cX1_isPathEnd 8 = .ok (.if_icmp .eq 7, 3) := by decide +kernel
theorem dX1_isPathEnd_11 : decode cX1_isPathEnd 11 = .ok (.iconst 1, 1) := by decide +kernel
theorem dX1_isPathEnd_12 : decode cX1_isPathEnd 12 = .ok (.goto 4, 3) := by decide +kernel
theorem dX1_isPathEnd_15 : decode cX1_isPathEnd 15 = .ok (.iconst 0, 1) := by decide +kernel
theorem dX1_isPathEnd_16 : decode cX1_isPathEnd 16 = .ok (.ireturn, 1) := by decide +kernel
theorem dX1_slot_0 : decode cX1_slot 0 = .ok (.iload_n 0, 1) := by decide +kernel
theorem dX1_slot_1 : decode cX1_slot 1 = .ok (.iconst 3, 1) := by decide +kernel
theorem dX1_slot_2 : decode cX1_slot 2 = .ok (.iload_n 1, 1) := by decide +kernel
theorem dX1_slot_3 : decode cX1_slot 3 = .ok (.imul, 1) := by decide +kernel
theorem dX1_slot_4 : decode cX1_slot 4 = .ok (.ishr, 1) := by decide +kernel
theorem dX1_slot_5 : decode cX1_slot 5 = .ok (.bipush 7, 2) := by decide +kernel
theorem dX1_slot_7 : decode cX1_slot 7 = .ok (.iand, 1) := by decide +kernel
theorem dX1_slot_8 : decode cX1_slot 8 = .ok (.ireturn, 1) := by decide +kernel
theorem dX1_put_0 : decode cX1_put 0 = .ok (.iload_n 0, 1) := by decide +kernel
theorem dX1_put_1 : decode cX1_put 1 = .ok (.bipush 7, 2) := by decide +kernel
theorem dX1_put_3 : decode cX1_put 3 = .ok (.iconst 3, 1) := by decide +kernel
theorem dX1_put_4 : decode cX1_put 4 = .ok (.iload_n 1, 1) := by decide +kernel
theorem dX1_put_5 : decode cX1_put 5 = .ok (.imul, 1) := by decide +kernel
theorem dX1_put_6 : decode cX1_put 6 = .ok (.ishl, 1) := by decide +kernel
theorem dX1_put_7 : decode cX1_put 7 = .ok (.iconst (-1), 1) := by decide +kernel
theorem dX1_put_8 : decode cX1_put 8 = .ok (.ixor, 1) := by decide +kernel
theorem dX1_put_9 : decode cX1_put 9 = .ok (.iand, 1) := by decide +kernel
theorem dX1_put_10 : decode cX1_put 10 = .ok (.iload_n 2, 1) := by decide +kernel
theorem dX1_put_11 : decode cX1_put 11 = .ok (.iconst 3, 1) := by decide +kernel
theorem dX1_put_12 : decode cX1_put 12 = .ok (.iload_n 1, 1) := by decide +kernel
theorem dX1_put_13 : decode cX1_put 13 = .ok (.imul, 1) := by decide +kernel
theorem dX1_put_14 : decode cX1_put 14 = .ok (.ishl, 1) := by decide +kernel
theorem dX1_put_15 : decode cX1_put 15 = .ok (.ior, 1) := by decide +kernel
theorem dX1_put_16 : decode cX1_put 16 = .ok (.ireturn, 1) := by decide +kernel
theorem dX2_init_0 : decode cX2_init 0 = .ok (.aload_n 0, 1) := by decide +kernel
theorem dX2_init_1 : decode cX2_init 1 = .ok (.invokespecial 1, 3) := by decide +kernel
theorem dX2_init_4 : decode cX2_init 4 = .ok (.iload_n 1, 1) := by decide +kernel
theorem dX2_init_5 : decode cX2_init 5 = .ok (.iconst 1, 1) := by decide +kernel
theorem dX2_init_6 : decode cX2_init 6 = .ok (.if_icmp .lt 12, 3) := by decide +kernel
theorem dX2_init_9 : decode cX2_init 9 = .ok (.iload_n 1, 1) := by decide +kernel
theorem dX2_init_10 : decode cX2_init 10 = .ok (.iconst 4, 1) := by decide +kernel
theorem dX2_init_11 : decode cX2_init 11 = .ok (.if_icmp .gt 7, 3) := by decide +kernel
theorem dX2_init_14 : decode cX2_init 14 = .ok (.iconst 1, 1) := by decide +kernel
theorem dX2_init_15 : decode cX2_init 15 = .ok (.goto 4, 3) := by decide +kernel
theorem dX2_init_18 : decode cX2_init 18 = .ok (.iconst 0, 1) := by decide +kernel
theorem dX2_init_19 : decode cX2_init 19 = .ok (.istore_n 3, 1) := by decide +kernel
theorem dX2_init_20 : decode cX2_init 20 = .ok (.iload_n 2, 1) := by decide +kernel
theorem dX2_init_21 : decode cX2_init 21 = .ok (.iconst 1, 1) := by decide +kernel
theorem dX2_init_22 : decode cX2_init 22 = .ok (.if_icmp .lt 12, 3) := by decide +kernel
theorem dX2_init_25 : decode cX2_init 25 = .ok (.iload_n 2, 1) := by decide +kernel
theorem dX2_init_26 : decode cX2_init 26 = .ok (.iconst 3, 1) := by decide +kernel
theorem dX2_init_27 : decode cX2_init 27 = .ok (.if_icmp .gt 7, 3) := by decide +kernel
theorem dX2_init_30 : decode cX2_init 30 = .ok (.iconst 1, 1) := by decide +kernel
theorem dX2_init_31 : decode cX2_init 31 = .ok (.goto 4, 3) := by decide +kernel
theorem dX2_init_34 : decode cX2_init 34 = .ok (.iconst 0, 1) := by decide +kernel
theorem dX2_init_35 : decode cX2_init 35 = .ok (.istore 4, 2) := by decide +kernel
theorem dX2_init_37 : decode cX2_init 37 = .ok (.aload_n 0, 1) := by decide +kernel
theorem dX2_init_38 : decode cX2_init 38 = .ok (.new 9, 3) := by decide +kernel
theorem dX2_init_41 : decode cX2_init 41 = .ok (.dup, 1) := by decide +kernel
theorem dX2_init_42 : decode cX2_init 42 = .ok (.iload_n 3, 1) := by decide +kernel
theorem dX2_init_43 : decode cX2_init 43 = .ok (.ifCond .eq 7, 3) := by decide +kernel
theorem dX2_init_46 : decode cX2_init 46 = .ok (.iload_n 1, 1) := by decide +kernel
theorem dX2_init_47 : decode cX2_init 47 = .ok (.goto 4, 3) := by decide +kernel
theorem dX2_init_50 : decode cX2_init 50 = .ok (.iconst 2, 1) := by decide +kernel
theorem dX2_init_51 : decode cX2_init 51 = .ok (.iload 4, 2) := by decide +kernel
theorem dX2_init_53 : decode cX2_init 53 = .ok (.ifCond .eq 7, 3) := by decide +kernel
theorem dX2_init_56 : decode cX2_init 56 = .ok (.iload_n 2, 1) := by decide +kernel
theorem dX2_init_57 : decode cX2_init 57 = .ok (.goto 4, 3) := by decide +kernel
theorem dX2_init_60 : decode cX2_init 60 = .ok (.iconst 2, 1) := by decide +kernel
theorem dX2_init_61 : decode cX2_init 61 = .ok (.invokespecial 11, 3) := by decide +kernel
theorem dX2_init_64 : decode cX2_init 64 = .ok (.putfield 14, 3) := by decide +kernel
theorem dX2_init_67 : decode cX2_init 67 = .ok (.aload_n 0, 1) := by decide +kernel
theorem dX2_init_68 : decode cX2_init 68 = .ok (.new 18, 3) := by decide +kernel
theorem dX2_init_71 : decode cX2_init 71 = .ok (.dup, 1) := by decide +kernel
theorem dX2_init_72 : decode cX2_init 72 = .ok (.aload_n 0, 1) := by decide +kernel
theorem dX2_init_73 : decode cX2_init 73 = .ok (.getfield 14, 3) := by decide +kernel
theorem dX2_init_76 : decode cX2_init 76 = .ok (.invokespecial 20, 3) := by decide +kernel
theorem dX2_init_79 : decode cX2_init 79 = .ok (.putfield 23, 3) := by decide +kernel
theorem dX2_init_82 : decode cX2_init 82 = .ok (.aload_n 0, 1) := by decide +kernel
theorem dX2_init_83 : decode cX2_init 83 = .ok (.iconst 0, 1) := by decide +kernel
theorem dX2_init_84 : decode cX2_init 84 = .ok (.putfield 27, 3) := by decide +kernel
theorem dX2_init_87 : decode cX2_init 87 = .ok (.aload_n 0, 1) := by decide +kernel
theorem dX2_init_88 : decode cX2_init 88 = .ok (.iconst 1, 1) := by decide +kernel
theorem dX2_init_89 : decode cX2_init 89 = .ok (.putfield 31, 3) := by decide +kernel
theorem dX2_init_92 : decode cX2_init 92 = .ok (.return_, 1) := by decide +kernel
theorem dX2_edges_0 : decode cX2_edges 0 = .ok (.aload_n 0, 1) := by decide +kernel
theorem dX2_edges_1 : decode cX2_edges 1 = .ok (.getfield 14, 3) := by decide +kernel
theorem dX2_edges_4 : decode cX2_edges 4 = .ok (.getfield 35, 3) := by decide +kernel
theorem dX2_edges_7 : decode cX2_edges 7 = .ok (.ireturn, 1) := by decide +kernel
theorem dX2_point_0 : decode cX2_point 0 = .ok (.aload_n 0, 1) := by decide +kernel
theorem dX2_point_1 : decode cX2_point 1 = .ok (.iload_n 1, 1) := by decide +kernel
theorem dX2_point_2 : decode cX2_point 2 = .ok (.invokevirtual 38, 3) := by decide +kernel
theorem dX2_point_5 : decode cX2_point 5 = .ok (.ifCond .eq 11, 3) := by decide +kernel
theorem dX2_point_8 : decode cX2_point 8 = .ok (.new 42, 3) := by decide +kernel
theorem dX2_point_11 : decode cX2_point 11 = .ok (.dup, 1) := by decide +kernel
theorem dX2_point_12 : decode cX2_point 12 = .ok (.invokespecial 44, 3) := by decide +kernel
theorem dX2_point_15 : decode cX2_point 15 = .ok (.athrow, 1) := by decide +kernel
theorem dX2_point_16 : decode cX2_point 16 = .ok (.aload_n 0, 1) := by decide +kernel
theorem dX2_point_17 : decode cX2_point 17 = .ok (.getfield 14, 3) := by decide +kernel
theorem dX2_point_20 : decode cX2_point 20 = .ok (.getfield 45, 3) := by decide +kernel
theorem dX2_point_23 : decode cX2_point 23 = .ok (.iload_n 1, 1) := by decide +kernel
theorem dX2_point_24 : decode cX2_point 24 = .ok (.iaload, 1) := by decide +kernel
theorem dX2_point_25 : decode cX2_point 25 = .ok (.aload_n 0, 1) := by decide +kernel
theorem dX2_point_26 : decode cX2_point 26 = .ok (.getfield 14, 3) := by decide +kernel
theorem dX2_point_29 : decode cX2_point 29 = .ok (.getfield 49, 3) := by decide +kernel
theorem dX2_point_32 : decode cX2_point 32 = .ok (.iconst 1, 1) := by decide +kernel
theorem dX2_point_33 : decode cX2_point 33 = .ok (.iadd, 1) := by decide +kernel
theorem dX2_point_34 : decode cX2_point 34 = .ok (.imul, 1) := by decide +kernel
theorem dX2_point_35 : decode cX2_point 35 = .ok (.aload_n 0, 1) := by decide +kernel
theorem dX2_point_36 : decode cX2_point 36 = .ok (.getfield 14, 3) := by decide +kernel
theorem dX2_point_39 : decode cX2_point 39 = .ok (.getfield 52, 3) := by decide +kernel
theorem dX2_point_42 : decode cX2_point 42 = .ok (.iload_n 1, 1) := by decide +kernel
theorem dX2_point_43 : decode cX2_point 43 = .ok (.iaload, 1) := by decide +kernel
theorem dX2_point_44 : decode cX2_point 44 = .ok (.iadd, 1) := by decide +kernel
theorem dX2_point_45 : decode cX2_point 45 = .ok (.istore_n 3, 1) := by decide +kernel
theorem dX2_point_46 : decode cX2_point 46 = .ok (.iload_n 2, 1) := by decide +kernel
theorem dX2_point_47 : decode cX2_point 47 = .ok (.ifCond .ne 5, 3) := by decide +kernel
theorem dX2_point_50 : decode cX2_point 50 = .ok (.iload_n 3, 1) := by decide +kernel
theorem dX2_point_51 : decode cX2_point 51 = .ok (.ireturn, 1) := by decide +kernel
theorem dX2_point_52 : decode cX2_point 52 = .ok (.aload_n 0, 1) := by decide +kernel
theorem dX2_point_53 : decode cX2_point 53 = .ok (.getfield 14, 3) := by decide +kernel
theorem dX2_point_56 : decode cX2_point 56 = .ok (.getfield 55, 3) := by decide +kernel
theorem dX2_point_59 : decode cX2_point 59 = .ok (.iload_n 1, 1) := by decide +kernel
theorem dX2_point_60 : decode cX2_point 60 = .ok (.baload, 1) := by decide +kernel
theorem dX2_point_61 : decode cX2_point 61 = .ok (.ifCond .eq 17, 3) := by decide +kernel
theorem dX2_point_64 : decode cX2_point 64 = .ok (.iload_n 3, 1) := by decide +kernel
theorem dX2_point_65 : decode cX2_point 65 = .ok (.aload_n 0, 1) := by decide +kernel
theorem dX2_point_66 : decode cX2_point 66 = .ok (.getfield 14, 3) := by decide +kernel
theorem dX2_point_69 : decode cX2_point 69 = .ok (.getfield 49, 3) := by decide +kernel
theorem dX2_point_72 : decode cX2_point 72 = .ok (.iadd, 1) := by decide +kernel
theorem dX2_point_73 : decode cX2_point 73 = .ok (.iconst 1, 1) := by decide +kernel
theorem dX2_point_74 : decode cX2_point 74 = .ok (.iadd, 1) := by decide +kernel
theorem dX2_point_75 : decode cX2_point 75 = .ok (.goto 6, 3) := by decide +kernel
theorem dX2_point_78 : decode cX2_point 78 = .ok (.iload_n 3, 1) := by decide +kernel
theorem dX2_point_79 : decode cX2_point 79 = .ok (.iconst 1, 1) := by decide +kernel
theorem dX2_point_80 : decode cX2_point 80 = .ok (.iadd, 1) := by decide +kernel
theorem dX2_point_81 : decode cX2_point 81 = .ok (.ireturn, 1) := by decide +kernel
theorem dX2_clue_0 : decode cX2_clue 0 = .ok (.aload_n 0, 1) := by decide +kernel
theorem dX2_clue_1 : decode cX2_clue 1 = .ok (.iload_n 1, 1) := by decide +kernel
theorem dX2_clue_2 : decode cX2_clue 2 = .ok (.iload_n 2, 1) := by decide +kernel
theorem dX2_clue_3 : decode cX2_clue 3 = .ok (.invokevirtual 59, 3) := by decide +kernel
theorem dX2_clue_6 : decode cX2_clue 6 = .ok (.ifCond .eq 11, 3) := by decide +kernel
theorem dX2_clue_9 : decode cX2_clue 9 = .ok (.new 42, 3) := by decide +kernel
theorem dX2_clue_12 : decode cX2_clue 12 = .ok (.dup, 1) := by decide +kernel
theorem dX2_clue_13 : decode cX2_clue 13 = .ok (.invokespecial 44, 3) := by decide +kernel
theorem dX2_clue_16 : decode cX2_clue 16 = .ok (.athrow, 1) := by decide +kernel
theorem dX2_clue_17 : decode cX2_clue 17 = .ok (.iload_n 3, 1) := by decide +kernel
theorem dX2_clue_18 : decode cX2_clue 18 = .ok (.iconst (-1), 1) := by decide +kernel
theorem dX2_clue_19 : decode cX2_clue 19 = .ok (.if_icmp .lt 8, 3) := by decide +kernel
theorem dX2_clue_22 : decode cX2_clue 22 = .ok (.iload_n 3, 1) := by decide +kernel
theorem dX2_clue_23 : decode cX2_clue 23 = .ok (.iconst 4, 1) := by decide +kernel
theorem dX2_clue_24 : decode cX2_clue 24 = .ok (.if_icmp .le 11, 3) := by decide +kernel
theorem dX2_clue_27 : decode cX2_clue 27 = .ok (.new 63, 3) := by decide +kernel
theorem dX2_clue_30 : decode cX2_clue 30 = .ok (.dup, 1) := by decide +kernel
theorem dX2_clue_31 : decode cX2_clue 31 = .ok (.invokespecial 65, 3) := by decide +kernel
theorem dX2_clue_34 : decode cX2_clue 34 = .ok (.athrow, 1) := by decide +kernel
theorem dX2_clue_35 : decode cX2_clue 35 = .ok (.aload_n 0, 1) := by decide +kernel
theorem dX2_clue_36 : decode cX2_clue 36 = .ok (.iload_n 1, 1) := by decide +kernel
theorem dX2_clue_37 : decode cX2_clue 37 = .ok (.aload_n 0, 1) := by decide +kernel
theorem dX2_clue_38 : decode cX2_clue 38 = .ok (.getfield 14, 3) := by decide +kernel
theorem dX2_clue_41 : decode cX2_clue 41 = .ok (.getfield 49, 3) := by decide +kernel
theorem dX2_clue_44 : decode cX2_clue 44 = .ok (.imul, 1) := by decide +kernel
theorem dX2_clue_45 : decode cX2_clue 45 = .ok (.iload_n 2, 1) := by decide +kernel
theorem dX2_clue_46 : decode cX2_clue 46 = .ok (.iadd, 1) := by decide +kernel
theorem dX2_clue_47 : decode cX2_clue 47 = .ok (.iload_n 3, 1) := by decide +kernel
theorem dX2_clue_48 : decode cX2_clue 48 = .ok (.invokevirtual 66, 3) := by decide +kernel
theorem dX2_clue_51 : decode cX2_clue 51 = .ok (.return_, 1) := by decide +kernel
theorem dX2_count_0 : decode cX2_count 0 = .ok (.aload_n 0, 1) := by decide +kernel
theorem dX2_count_1 : decode cX2_count 1 = .ok (.invokevirtual 69, 3) := by decide +kernel
theorem dX2_count_4 : decode cX2_count 4 = .ok (.getfield 73, 3) := by decide +kernel
theorem dX2_count_7 : decode cX2_count 7 = .ok (.iconst 0, 1) := by decide +kernel
theorem dX2_count_8 : decode cX2_count 8 = .ok (.iaload, 1) := by decide +kernel
theorem dX2_count_9 : decode cX2_count 9 = .ok (.ireturn, 1) := by decide +kernel
theorem dX2_width_0 : decode cX2_width 0 = .ok (.iload_n 1, 1) := by decide +kernel
theorem dX2_width_1 : decode cX2_width 1 = .ok (.ifCond .lt 14, 3) := by decide +kernel
theorem dX2_width_4 : decode cX2_width 4 = .ok (.iload_n 1, 1) := by decide +kernel
theorem dX2_width_5 : decode cX2_width 5 = .ok (.aload_n 0, 1) := by decide +kernel
theorem dX2_width_6 : decode cX2_width 6 = .ok (.getfield 14, 3) := by decide +kernel
theorem dX2_width_9 : decode cX2_width 9 = .ok (.getfield 35, 3) := by decide +kernel
theorem dX2_width_12 : decode cX2_width 12 = .ok (.if_icmp .le 11, 3) := by decide +kernel
theorem dX2_width_15 : decode cX2_width 15 = .ok (.new 42, 3) := by decide +kernel
theorem dX2_width_18 : decode cX2_width 18 = .ok (.dup, 1) := by decide +kernel
theorem dX2_width_19 : decode cX2_width 19 = .ok (.invokespecial 44, 3) := by decide +kernel
theorem dX2_width_22 : decode cX2_width 22 = .ok (.athrow, 1) := by decide +kernel
theorem dX2_width_23 : decode cX2_width 23 = .ok (.aload_n 0, 1) := by decide +kernel
theorem dX2_width_24 : decode cX2_width 24 = .ok (.invokevirtual 69, 3) := by decide +kernel
theorem dX2_width_27 : decode cX2_width 27 = .ok (.astore_n 3, 1) := by decide +kernel
theorem dX2_width_28 : decode cX2_width 28 = .ok (.iload_n 2, 1) := by decide +kernel
theorem dX2_width_29 : decode cX2_width 29 = .ok (.ifCond .eq 11, 3) := by decide +kernel
theorem dX2_width_32 : decode cX2_width 32 = .ok (.aload_n 3, 1) := by decide +kernel
theorem dX2_width_33 : decode cX2_width 33 = .ok (.iload_n 1, 1) := by decide +kernel
theorem dX2_width_34 : decode cX2_width 34 = .ok (.invokevirtual 76, 3) := by decide +kernel
theorem dX2_width_37 : decode cX2_width 37 = .ok (.goto 18, 3) := by decide +kernel
theorem dX2_width_40 : decode cX2_width 40 = .ok (.aload_n 3, 1) := by decide +kernel
theorem dX2_width_41 : decode cX2_width 41 = .ok (.getfield 80, 3) := by decide +kernel
theorem dX2_width_44 : decode cX2_width 44 = .ok (.iload_n 1, 1) := by decide +kernel
theorem dX2_width_45 : decode cX2_width 45 = .ok (.iconst 1, 1) := by decide +kernel
theorem dX2_width_46 : decode cX2_width 46 = .ok (.iadd, 1) := by decide +kernel
theorem dX2_width_47 : decode cX2_width 47 = .ok (.iaload, 1) := by decide +kernel
theorem dX2_width_48 : decode cX2_width 48 = .ok (.aload_n 3, 1) := by decide +kernel
theorem dX2_width_49 : decode cX2_width 49 = .ok (.getfield 80, 3) := by decide +kernel
theorem dX2_width_52 : decode cX2_width 52 = .ok (.iload_n 1, 1) := by decide +kernel
theorem dX2_width_53 : decode cX2_width 53 = .ok (.iaload, 1) := by decide +kernel
theorem dX2_width_54 : decode cX2_width 54 = .ok (.isub, 1) := by decide +kernel
theorem dX2_width_55 : decode cX2_width 55 = .ok (.ireturn, 1) := by decide +kernel
theorem dX2_nodes_0 : decode cX2_nodes 0 = .ok (.aload_n 0, 1) := by decide +kernel
theorem dX2_nodes_1 : decode cX2_nodes 1 = .ok (.invokevirtual 69, 3) := by decide +kernel
theorem dX2_nodes_4 : decode cX2_nodes 4 = .ok (.getfield 83, 3) := by decide +kernel
theorem dX2_nodes_7 : decode cX2_nodes 7 = .ok (.ireturn, 1) := by decide +kernel
theorem dX2_has_0 : decode cX2_has 0 = .ok (.aload_n 0, 1) := by decide +kernel
theorem dX2_has_1 : decode cX2_has 1 = .ok (.invokevirtual 69, 3) := by decide +kernel
theorem dX2_has_4 : decode cX2_has 4 = .ok (.iload_n 1, 1) := by decide +kernel
theorem dX2_has_5 : decode cX2_has 5 = .ok (.invokevirtual 86, 3) := by decide +kernel
theorem dX2_has_8 : decode cX2_has 8 = .ok (.istore_n 3, 1) := by decide +kernel
theorem dX2_has_9 : decode cX2_has 9 = .ok (.iload_n 3, 1) := by decide +kernel
theorem dX2_has_10 : decode cX2_has 10 = .ok (.ifCond .ne 11, 3) := by decide +kernel
theorem dX2_has_13 : decode cX2_has 13 = .ok (.new 89, 3) := by decide +kernel
theorem dX2_has_16 : decode cX2_has 16 = .ok (.dup, 1) := by decide +kernel
theorem dX2_has_17 : decode cX2_has 17 = .ok (.invokespecial 91, 3) := by decide +kernel
theorem dX2_has_20 : decode cX2_has 20 = .ok (.athrow, 1) := by decide +kernel
theorem dX2_has_21 : decode cX2_has 21 = .ok (.aload_n 0, 1) := by decide +kernel
theorem dX2_has_22 : decode cX2_has 22 = .ok (.iload_n 2, 1) := by decide +kernel
theorem dX2_has_23 : decode cX2_has 23 = .ok (.invokevirtual 38, 3) := by decide +kernel
theorem dX2_has_26 : decode cX2_has 26 = .ok (.ifCond .eq 11, 3) := by decide +kernel
theorem dX2_has_29 : decode cX2_has 29 = .ok (.new 42, 3) := by decide +kernel
theorem dX2_has_32 : decode cX2_has 32 = .ok (.dup, 1) := by decide +kernel
theorem dX2_has_33 : decode cX2_has 33 = .ok (.invokespecial 44, 3) := by decide +kernel
theorem dX2_has_36 : decode cX2_has 36 = .ok (.athrow, 1) := by decide +kernel
theorem dX2_has_37 : decode cX2_has 37 = .ok (.iload_n 3, 1) := by decide +kernel
theorem dX2_has_38 : decode cX2_has 38 = .ok (.iload_n 2, 1) := by decide +kernel
theorem dX2_has_39 : decode cX2_has 39 = .ok (.invokestatic 92, 3) := by decide +kernel
theorem dX2_has_42 : decode cX2_has 42 = .ok (.ireturn, 1) := by decide +kernel
theorem dX2_length_0 : decode cX2_length 0 = .ok (.aload_n 0, 1) := by decide +kernel
theorem dX2_length_1 : decode cX2_length 1 = .ok (.invokevirtual 69, 3) := by decide +kernel
theorem dX2_length_4 : decode cX2_length 4 = .ok (.iload_n 1, 1) := by decide +kernel
theorem dX2_length_5 : decode cX2_length 5 = .ok (.invokevirtual 86, 3) := by decide +kernel
theorem dX2_length_8 : decode cX2_length 8 = .ok (.istore_n 2, 1) := by decide +kernel
theorem dX2_length_9 : decode cX2_length 9 = .ok (.iload_n 2, 1) := by decide +kernel
theorem dX2_length_10 : decode cX2_length 10 = .ok (.ifCond .ne 11, 3) := by decide +kernel
theorem dX2_length_13 : decode cX2_length 13 = .ok (.new 89, 3) := by decide +kernel
theorem dX2_length_16 : decode cX2_length 16 = .ok (.dup, 1) := by decide +kernel
theorem dX2_length_17 : decode cX2_length 17 = .ok (.invokespecial 91, 3) := by decide +kernel
theorem dX2_length_20 : decode cX2_length 20 = .ok (.athrow, 1) := by decide +kernel
theorem dX2_length_21 : decode cX2_length 21 = .ok (.iload_n 2, 1) := by decide +kernel
theorem dX2_length_22 : decode cX2_length 22 = .ok (.invokestatic 95, 3) := by decide +kernel
theorem dX2_length_25 : decode cX2_length 25 = .ok (.ireturn, 1) := by decide +kernel
theorem dX2_often_0 : decode cX2_often 0 = .ok (.aload_n 0, 1) := by decide +kernel
theorem dX2_often_1 : decode cX2_often 1 = .ok (.iload_n 1, 1) := by decide +kernel
theorem dX2_often_2 : decode cX2_often 2 = .ok (.invokevirtual 38, 3) := by decide +kernel
theorem dX2_often_5 : decode cX2_often 5 = .ok (.ifCond .eq 11, 3) := by decide +kernel
theorem dX2_often_8 : decode cX2_often 8 = .ok (.new 42, 3) := by decide +kernel
theorem dX2_often_11 : decode cX2_often 11 = .ok (.dup, 1) := by decide +kernel
theorem dX2_often_12 : decode cX2_often 12 = .ok (.invokespecial 44, 3) := by decide +kernel
theorem dX2_often_15 : decode cX2_often 15 = .ok (.athrow, 1) := by decide +kernel
theorem dX2_often_16 : decode cX2_often 16 = .ok (.aload_n 0, 1) := by decide +kernel
theorem dX2_often_17 : decode cX2_often 17 = .ok (.invokevirtual 69, 3) := by decide +kernel
theorem dX2_often_20 : decode cX2_often 20 = .ok (.iconst 1, 1) := by decide +kernel
theorem dX2_often_21 : decode cX2_often 21 = .ok (.iload_n 1, 1) := by decide +kernel
theorem dX2_often_22 : decode cX2_often 22 = .ok (.ishl, 1) := by decide +kernel
theorem dX2_often_23 : decode cX2_often 23 = .ok (.invokevirtual 100, 3) := by decide +kernel
theorem dX2_often_26 : decode cX2_often 26 = .ok (.ireturn, 1) := by decide +kernel
theorem dX2_draw_0 : decode cX2_draw 0 = .ok (.aload_n 0, 1) := by decide +kernel
theorem dX2_draw_1 : decode cX2_draw 1 = .ok (.iload_n 1, 1) := by decide +kernel
theorem dX2_draw_2 : decode cX2_draw 2 = .ok (.invokevirtual 38, 3) := by decide +kernel
theorem dX2_draw_5 : decode cX2_draw 5 = .ok (.ifCond .eq 11, 3) := by decide +kernel
theorem dX2_draw_8 : decode cX2_draw 8 = .ok (.new 42, 3) := by decide +kernel
theorem dX2_draw_11 : decode cX2_draw 11 = .ok (.dup, 1) := by decide +kernel
theorem dX2_draw_12 : decode cX2_draw 12 = .ok (.invokespecial 44, 3) := by decide +kernel
theorem dX2_draw_15 : decode cX2_draw 15 = .ok (.athrow, 1) := by decide +kernel
theorem dX2_draw_16 : decode cX2_draw 16 = .ok (.aload_n 0, 1) := by decide +kernel
theorem dX2_draw_17 : decode cX2_draw 17 = .ok (.dup, 1) := by decide +kernel
theorem dX2_draw_18 : decode cX2_draw 18 = .ok (.getfield 27, 3) := by decide +kernel
theorem dX2_draw_21 : decode cX2_draw 21 = .ok (.iconst 1, 1) := by decide +kernel
theorem dX2_draw_22 : decode cX2_draw 22 = .ok (.iload_n 1, 1) := by decide +kernel
theorem dX2_draw_23 : decode cX2_draw 23 = .ok (.ishl, 1) := by decide +kernel
theorem dX2_draw_24 : decode cX2_draw 24 = .ok (.ixor, 1) := by decide +kernel
theorem dX2_draw_25 : decode cX2_draw 25 = .ok (.putfield 27, 3) := by decide +kernel
theorem dX2_draw_28 : decode cX2_draw 28 = .ok (.aload_n 0, 1) := by decide +kernel
theorem dX2_draw_29 : decode cX2_draw 29 = .ok (.getfield 27, 3) := by decide +kernel
theorem dX2_draw_32 : decode cX2_draw 32 = .ok (.iload_n 1, 1) := by decide +kernel
theorem dX2_draw_33 : decode cX2_draw 33 = .ok (.invokestatic 92, 3) := by decide +kernel
theorem dX2_draw_36 : decode cX2_draw 36 = .ok (.ireturn, 1) := by decide +kernel
theorem dX2_copy_0 : decode cX2_copy 0 = .ok (.aload_n 0, 1) := by decide +kernel
theorem dX2_copy_1 : decode cX2_copy 1 = .ok (.invokevirtual 69, 3) := by decide +kernel
theorem dX2_copy_4 : decode cX2_copy 4 = .ok (.iload_n 1, 1) := by decide +kernel
theorem dX2_copy_5 : decode cX2_copy 5 = .ok (.invokevirtual 86, 3) := by decide +kernel
theorem dX2_copy_8 : decode cX2_copy 8 = .ok (.istore_n 2, 1) := by decide +kernel
theorem dX2_copy_9 : decode cX2_copy 9 = .ok (.iload_n 2, 1) := by decide +kernel
theorem dX2_copy_10 : decode cX2_copy 10 = .ok (.ifCond .ne 11, 3) := by decide +kernel
theorem dX2_copy_13 : decode cX2_copy 13 = .ok (.new 89, 3) := by decide +kernel
theorem dX2_copy_16 : decode cX2_copy 16 = .ok (.dup, 1) := by decide +kernel
theorem dX2_copy_17 : decode cX2_copy 17 = .ok (.invokespecial 91, 3) := by decide +kernel
theorem dX2_copy_20 : decode cX2_copy 20 = .ok (.athrow, 1) := by decide +kernel
theorem dX2_copy_21 : decode cX2_copy 21 = .ok (.aload_n 0, 1) := by decide +kernel
theorem dX2_copy_22 : decode cX2_copy 22 = .ok (.iload_n 2, 1) := by decide +kernel
theorem dX2_copy_23 : decode cX2_copy 23 = .ok (.putfield 27, 3) := by decide +kernel
theorem dX2_copy_26 : decode cX2_copy 26 = .ok (.return_, 1) := by decide +kernel
theorem dX2_drawn_0 : decode cX2_drawn 0 = .ok (.aload_n 0, 1) := by decide +kernel
theorem dX2_drawn_1 : decode cX2_drawn 1 = .ok (.getfield 27, 3) := by decide +kernel
theorem dX2_drawn_4 : decode cX2_drawn 4 = .ok (.invokestatic 95, 3) := by decide +kernel
theorem dX2_drawn_7 : decode cX2_drawn 7 = .ok (.ireturn, 1) := by decide +kernel
theorem dX2_isLoop_0 : decode cX2_isLoop 0 = .ok (.sipush 1672, 3) := by decide +kernel
theorem dX2_isLoop_3 : decode cX2_isLoop 3 = .ok (.istore_n 1, 1) := by decide +kernel
theorem dX2_isLoop_4 : decode cX2_isLoop 4 = .ok (.iconst 0, 1) := by decide +kernel
theorem dX2_isLoop_5 : decode cX2_isLoop 5 = .ok (.istore_n 2, 1) := by decide +kernel
theorem dX2_isLoop_6 : decode cX2_isLoop 6 = .ok (.iload_n 2, 1) := by decide +kernel
theorem dX2_isLoop_7 : decode cX2_isLoop 7 = .ok (.aload_n 0, 1) := by decide +kernel
theorem dX2_isLoop_8 : decode cX2_isLoop 8 = .ok (.getfield 14, 3) := by decide +kernel
theorem dX2_isLoop_11 : decode cX2_isLoop 11 = .ok (.getfield 35, 3) := by decide +kernel
theorem dX2_isLoop_14 : decode cX2_isLoop 14 = .ok (.if_icmp .ge 32, 3) := by decide +kernel
theorem dX2_isLoop_17 : decode cX2_isLoop 17 = .ok (.iload_n 1, 1) := by decide +kernel
theorem dX2_isLoop_18 : decode cX2_isLoop 18 = .ok (.iconst (-1), 1) := by decide +kernel
theorem dX2_isLoop_19 : decode cX2_isLoop 19 = .ok (.if_icmp .eq 27, 3) := by decide +kernel
theorem dX2_isLoop_22 : decode cX2_isLoop 22 = .ok (.aload_n 0, 1) := by decide +kernel
theorem dX2_isLoop_23 : decode cX2_isLoop 23 = .ok (.getfield 14, 3) := by decide +kernel
theorem dX2_isLoop_26 : decode cX2_isLoop 26 = .ok (.iload_n 1, 1) := by decide +kernel
theorem dX2_isLoop_27 : decode cX2_isLoop 27 = .ok (.iload_n 2, 1) := by decide +kernel
theorem dX2_isLoop_28 : decode cX2_isLoop 28 = .ok (.aload_n 0, 1) := by decide +kernel
theorem dX2_isLoop_29 : decode cX2_isLoop 29 = .ok (.getfield 27, 3) := by decide +kernel
theorem dX2_isLoop_32 : decode cX2_isLoop 32 = .ok (.iload_n 2, 1) := by decide +kernel
theorem dX2_isLoop_33 : decode cX2_isLoop 33 = .ok (.invokestatic 92, 3) := by decide +kernel
theorem dX2_isLoop_36 : decode cX2_isLoop 36 = .ok (.invokevirtual 103, 3) := by decide +kernel
theorem dX2_isLoop_39 : decode cX2_isLoop 39 = .ok (.istore_n 1, 1) := by decide +kernel
theorem dX2_isLoop_40 : decode cX2_isLoop 40 = .ok (.iinc 2 1, 3) := by decide +kernel
theorem dX2_isLoop_43 : decode cX2_isLoop 43 = .ok (.goto (-37), 3) := by decide +kernel
theorem dX2_isLoop_46 : decode cX2_isLoop 46 = .ok (.iload_n 1, 1) := by decide +kernel
theorem dX2_isLoop_47 : decode cX2_isLoop 47 = .ok (.iconst (-1), 1) := by decide +kernel
theorem dX2_isLoop_48 : decode cX2_isLoop 48 = .ok (.if_icmp .eq 7, 3) := by decide +kernel
theorem dX2_isLoop_51 : decode cX2_isLoop 51 = .ok (.iconst 1, 1) := by decide +kernel
theorem dX2_isLoop_52 : decode cX2_isLoop 52 = .ok (.goto 4, 3) := by decide +kernel
theorem dX2_isLoop_55 : decode cX2_isLoop 55 = .ok (.iconst 0, 1) := by decide +kernel
theorem dX2_isLoop_56 : decode cX2_isLoop 56 = .ok (.ireturn, 1) := by decide +kernel
theorem dX2_rank_0 : decode cX2_rank 0 = .ok (.aload_n 0, 1) := by decide +kernel
theorem dX2_rank_1 : decode cX2_rank 1 = .ok (.invokevirtual 69, 3) := by decide +kernel
theorem dX2_rank_4 : decode cX2_rank 4 = .ok (.aload_n 0, 1) := by decide +kernel
theorem dX2_rank_5 : decode cX2_rank 5 = .ok (.getfield 27, 3) := by decide +kernel
theorem dX2_rank_8 : decode cX2_rank 8 = .ok (.invokevirtual 107, 3) := by decide +kernel
theorem dX2_rank_11 : decode cX2_rank 11 = .ok (.istore_n 1, 1) := by decide +kernel
theorem dX2_rank_12 : decode cX2_rank 12 = .ok (.iload_n 1, 1) := by decide +kernel
theorem dX2_rank_13 : decode cX2_rank 13 = .ok (.iconst (-1), 1) := by decide +kernel
theorem dX2_rank_14 : decode cX2_rank 14 = .ok (.if_icmp .ne 11, 3) := by decide +kernel
theorem dX2_rank_17 : decode cX2_rank 17 = .ok (.new 89, 3) := by decide +kernel
theorem dX2_rank_20 : decode cX2_rank 20 = .ok (.dup, 1) := by decide +kernel
theorem dX2_rank_21 : decode cX2_rank 21 = .ok (.invokespecial 91, 3) := by decide +kernel
theorem dX2_rank_24 : decode cX2_rank 24 = .ok (.athrow, 1) := by decide +kernel
theorem dX2_rank_25 : decode cX2_rank 25 = .ok (.iload_n 1, 1) := by decide +kernel
theorem dX2_rank_26 : decode cX2_rank 26 = .ok (.ireturn, 1) := by decide +kernel
theorem dX2_above_0 : decode cX2_above 0 = .ok (.aload_n 0, 1) := by decide +kernel
theorem dX2_above_1 : decode cX2_above 1 = .ok (.invokevirtual 69, 3) := by decide +kernel
theorem dX2_above_4 : decode cX2_above 4 = .ok (.aload_n 0, 1) := by decide +kernel
theorem dX2_above_5 : decode cX2_above 5 = .ok (.getfield 27, 3) := by decide +kernel
theorem dX2_above_8 : decode cX2_above 8 = .ok (.invokevirtual 100, 3) := by decide +kernel
theorem dX2_above_11 : decode cX2_above 11 = .ok (.ireturn, 1) := by decide +kernel
theorem dX2_alive_0 : decode cX2_alive 0 = .ok (.aload_n 0, 1) := by decide +kernel
theorem dX2_alive_1 : decode cX2_alive 1 = .ok (.invokevirtual 69, 3) := by decide +kernel
theorem dX2_alive_4 : decode cX2_alive 4 = .ok (.aload_n 0, 1) := by decide +kernel
theorem dX2_alive_5 : decode cX2_alive 5 = .ok (.getfield 27, 3) := by decide +kernel
theorem dX2_alive_8 : decode cX2_alive 8 = .ok (.invokevirtual 110, 3) := by decide +kernel
theorem dX2_alive_11 : decode cX2_alive 11 = .ok (.ireturn, 1) := by decide +kernel
theorem dX2_spare_0 : decode cX2_spare 0 = .ok (.aload_n 0, 1) := by decide +kernel
theorem dX2_spare_1 : decode cX2_spare 1 = .ok (.invokevirtual 69, 3) := by decide +kernel
theorem dX2_spare_4 : decode cX2_spare 4 = .ok (.getfield 73, 3) := by decide +kernel
theorem dX2_spare_7 : decode cX2_spare 7 = .ok (.iconst 0, 1) := by decide +kernel
theorem dX2_spare_8 : decode cX2_spare 8 = .ok (.iaload, 1) := by decide +kernel
theorem dX2_spare_9 : decode cX2_spare 9 = .ok (.iconst 1, 1) := by decide +kernel
theorem dX2_spare_10 : decode cX2_spare 10 = .ok (.if_icmp .eq 11, 3) := by decide +kernel
theorem dX2_spare_13 : decode cX2_spare 13 = .ok (.new 113, 3) := by decide +kernel
theorem dX2_spare_16 : decode cX2_spare 16 = .ok (.dup, 1) := by decide +kernel
theorem dX2_spare_17 : decode cX2_spare 17 = .ok (.invokespecial 115, 3) := by decide +kernel
theorem dX2_spare_20 : decode cX2_spare 20 = .ok (.athrow, 1) := by decide +kernel
theorem dX2_spare_21 : decode cX2_spare 21 = .ok (.iconst 0, 1) := by decide +kernel
theorem dX2_spare_22 : decode cX2_spare 22 = .ok (.istore_n 1, 1) := by decide +kernel
theorem dX2_spare_23 : decode cX2_spare 23 = .ok (.iconst 0, 1) := by decide +kernel
theorem dX2_spare_24 : decode cX2_spare 24 = .ok (.istore_n 2, 1) := by decide +kernel
theorem dX2_spare_25 : decode cX2_spare 25 = .ok (.iload_n 2, 1) := by decide +kernel
theorem dX2_spare_26 : decode cX2_spare 26 = .ok (.aload_n 0, 1) := by decide +kernel
theorem dX2_spare_27 : decode cX2_spare 27 = .ok (.getfield 14, 3) := by decide +kernel
theorem dX2_spare_30 : decode cX2_spare 30 = .ok (.getfield 116, 3) := by decide +kernel
theorem dX2_spare_33 : decode cX2_spare 33 = .ok (.arraylength, 1) := by decide +kernel
theorem dX2_spare_34 : decode cX2_spare 34 = .ok (.if_icmp .ge 52, 3) := by decide +kernel
theorem dX2_spare_37 : decode cX2_spare 37 = .ok (.aload_n 0, 1) := by decide +kernel
theorem dX2_spare_38 : decode cX2_spare 38 = .ok (.getfield 14, 3) := by decide +kernel
theorem dX2_spare_41 : decode cX2_spare 41 = .ok (.getfield 116, 3) := by decide +kernel
theorem dX2_spare_44 : decode cX2_spare 44 = .ok (.iload_n 2, 1) := by decide +kernel
theorem dX2_spare_45 : decode cX2_spare 45 = .ok (.iaload, 1) := by decide +kernel
theorem dX2_spare_46 : decode cX2_spare 46 = .ok (.istore_n 3, 1) := by decide +kernel
theorem dX2_spare_47 : decode cX2_spare 47 = .ok (.iload_n 3, 1) := by decide +kernel
theorem dX2_spare_48 : decode cX2_spare 48 = .ok (.iconst (-1), 1) := by decide +kernel
theorem dX2_spare_49 : decode cX2_spare 49 = .ok (.if_icmp .eq 31, 3) := by decide +kernel
theorem dX2_spare_52 : decode cX2_spare 52 = .ok (.aload_n 0, 1) := by decide +kernel
theorem dX2_spare_53 : decode cX2_spare 53 = .ok (.iload_n 2, 1) := by decide +kernel
theorem dX2_spare_54 : decode cX2_spare 54 = .ok (.iconst (-1), 1) := by decide +kernel
theorem dX2_spare_55 : decode cX2_spare 55 = .ok (.invokevirtual 66, 3) := by decide +kernel
theorem dX2_spare_58 : decode cX2_spare 58 = .ok (.aload_n 0, 1) := by decide +kernel
theorem dX2_spare_59 : decode cX2_spare 59 = .ok (.invokevirtual 69, 3) := by decide +kernel
theorem dX2_spare_62 : decode cX2_spare 62 = .ok (.getfield 73, 3) := by decide +kernel
theorem dX2_spare_65 : decode cX2_spare 65 = .ok (.iconst 0, 1) := by decide +kernel
theorem dX2_spare_66 : decode cX2_spare 66 = .ok (.iaload, 1) := by decide +kernel
theorem dX2_spare_67 : decode cX2_spare 67 = .ok (.iconst 1, 1) := by decide +kernel
theorem dX2_spare_68 : decode cX2_spare 68 = .ok (.if_icmp .eq 12, 3) := by decide +kernel
theorem dX2_spare_71 : decode cX2_spare 71 = .ok (.aload_n 0, 1) := by decide +kernel
theorem dX2_spare_72 : decode cX2_spare 72 = .ok (.iload_n 2, 1) := by decide +kernel
theorem dX2_spare_73 : decode cX2_spare 73 = .ok (.iload_n 3, 1) := by decide +kernel
theorem dX2_spare_74 : decode cX2_spare 74 = .ok (.invokevirtual 66, 3) := by decide +kernel
theorem dX2_spare_77 : decode cX2_spare 77 = .ok (.iinc 1 1, 3) := by decide +kernel
theorem dX2_spare_80 : decode cX2_spare 80 = .ok (.iinc 2 1, 3) := by decide +kernel
theorem dX2_spare_83 : decode cX2_spare 83 = .ok (.goto (-58), 3) := by decide +kernel
theorem dX2_spare_86 : decode cX2_spare 86 = .ok (.iload_n 1, 1) := by decide +kernel
theorem dX2_spare_87 : decode cX2_spare 87 = .ok (.ireturn, 1) := by decide +kernel
theorem dX2_clueOf_0 : decode cX2_clueOf 0 = .ok (.aload_n 0, 1) := by decide +kernel
theorem dX2_clueOf_1 : decode cX2_clueOf 1 = .ok (.iload_n 1, 1) := by decide +kernel
theorem dX2_clueOf_2 : decode cX2_clueOf 2 = .ok (.iload_n 2, 1) := by decide +kernel
theorem dX2_clueOf_3 : decode cX2_clueOf 3 = .ok (.invokevirtual 59, 3) := by decide +kernel
theorem dX2_clueOf_6 : decode cX2_clueOf 6 = .ok (.ifCond .eq 11, 3) := by decide +kernel
theorem dX2_clueOf_9 : decode cX2_clueOf 9 = .ok (.new 42, 3) := by decide +kernel
theorem dX2_clueOf_12 : decode cX2_clueOf 12 = .ok (.dup, 1) := by decide +kernel
theorem dX2_clueOf_13 : decode cX2_clueOf 13 = .ok (.invokespecial 44, 3) := by decide +kernel
theorem dX2_clueOf_16 : decode cX2_clueOf 16 = .ok (.athrow, 1) := by decide +kernel
theorem dX2_clueOf_17 : decode cX2_clueOf 17 = .ok (.aload_n 0, 1) := by decide +kernel
theorem dX2_clueOf_18 : decode cX2_clueOf 18 = .ok (.getfield 14, 3) := by decide +kernel
theorem dX2_clueOf_21 : decode cX2_clueOf 21 = .ok (.getfield 116, 3) := by decide +kernel
theorem dX2_clueOf_24 : decode cX2_clueOf 24 = .ok (.iload_n 1, 1) := by decide +kernel
theorem dX2_clueOf_25 : decode cX2_clueOf 25 = .ok (.aload_n 0, 1) := by decide +kernel
theorem dX2_clueOf_26 : decode cX2_clueOf 26 = .ok (.getfield 14, 3) := by decide +kernel
theorem dX2_clueOf_29 : decode cX2_clueOf 29 = .ok (.getfield 49, 3) := by decide +kernel
theorem dX2_clueOf_32 : decode cX2_clueOf 32 = .ok (.imul, 1) := by decide +kernel
theorem dX2_clueOf_33 : decode cX2_clueOf 33 = .ok (.iload_n 2, 1) := by decide +kernel
theorem dX2_clueOf_34 : decode cX2_clueOf 34 = .ok (.iadd, 1) := by decide +kernel
theorem dX2_clueOf_35 : decode cX2_clueOf 35 = .ok (.iaload, 1) := by decide +kernel
theorem dX2_clueOf_36 : decode cX2_clueOf 36 = .ok (.ireturn, 1) := by decide +kernel
theorem dX2_isNoEdge_0 : decode cX2_isNoEdge 0 = .ok (.iload_n 1, 1) := by decide +kernel
theorem dX2_isNoEdge_1 : decode cX2_isNoEdge 1 = .ok (.ifCond .lt 14, 3) := by decide +kernel
theorem dX2_isNoEdge_4 : decode cX2_isNoEdge 4 = .ok (.iload_n 1, 1) := by decide +kernel
theorem dX2_isNoEdge_5 : decode cX2_isNoEdge 5 = .ok (.aload_n 0, 1) := by decide +kernel
theorem dX2_isNoEdge_6 : decode cX2_isNoEdge 6 = .ok (.getfield 14, 3) := by decide +kernel
theorem dX2_isNoEdge_9 : decode cX2_isNoEdge 9 = .ok (.getfield 35, 3) := by decide +kernel
theorem dX2_isNoEdge_12 : decode cX2_isNoEdge 12 = .ok (.if_icmp .lt 7, 3) := by decide +kernel
theorem dX2_isNoEdge_15 : decode cX2_isNoEdge 15 = .ok (.iconst 1, 1) := by decide +kernel
theorem dX2_isNoEdge_16 : decode cX2_isNoEdge 16 = .ok (.goto 4, 3) := by decide +kernel
theorem dX2_isNoEdge_19 : decode cX2_isNoEdge 19 = .ok (.iconst 0, 1) := by decide +kernel
theorem dX2_isNoEdge_20 : decode cX2_isNoEdge 20 = .ok (.ireturn, 1) := by decide +kernel
theorem dX2_isNoCell_0 : decode cX2_isNoCell 0 = .ok (.iload_n 1, 1) := by decide +kernel
theorem dX2_isNoCell_1 : decode cX2_isNoCell 1 = .ok (.ifCond .lt 29, 3) := by decide +kernel
theorem dX2_isNoCell_4 : decode cX2_isNoCell 4 = .ok (.iload_n 1, 1) := by decide +kernel
theorem dX2_isNoCell_5 : decode cX2_isNoCell 5 = .ok (.aload_n 0, 1) := by decide +kernel
theorem dX2_isNoCell_6 : decode cX2_isNoCell 6 = .ok (.getfield 14, 3) := by decide +kernel
theorem dX2_isNoCell_9 : decode cX2_isNoCell 9 = .ok (.getfield 119, 3) := by decide +kernel
theorem dX2_isNoCell_12 : decode cX2_isNoCell 12 = .ok (.if_icmp .ge 18, 3) := by decide +kernel
theorem dX2_isNoCell_15 : decode cX2_isNoCell 15 = .ok (.iload_n 2, 1) := by decide +kernel
theorem dX2_isNoCell_16 : decode cX2_isNoCell 16 = .ok (.ifCond .lt 14, 3) := by decide +kernel
theorem dX2_isNoCell_19 : decode cX2_isNoCell 19 = .ok (.iload_n 2, 1) := by decide +kernel
theorem dX2_isNoCell_20 : decode cX2_isNoCell 20 = .ok (.aload_n 0, 1) := by decide +kernel
theorem dX2_isNoCell_21 : decode cX2_isNoCell 21 = .ok (.getfield 14, 3) := by decide +kernel
theorem dX2_isNoCell_24 : decode cX2_isNoCell 24 = .ok (.getfield 49, 3) := by decide +kernel
theorem dX2_isNoCell_27 : decode cX2_isNoCell 27 = .ok (.if_icmp .lt 7, 3) := by decide +kernel
theorem dX2_isNoCell_30 : decode cX2_isNoCell 30 = .ok (.iconst 1, 1) := by decide +kernel
theorem dX2_isNoCell_31 : decode cX2_isNoCell 31 = .ok (.goto 4, 3) := by decide +kernel
theorem dX2_isNoCell_34 : decode cX2_isNoCell 34 = .ok (.iconst 0, 1) := by decide +kernel
theorem dX2_isNoCell_35 : decode cX2_isNoCell 35 = .ok (.ireturn, 1) := by decide +kernel
theorem dX2_setClue_0 : decode cX2_setClue 0 = .ok (.aload_n 0, 1) := by decide +kernel
theorem dX2_setClue_1 : decode cX2_setClue 1 = .ok (.getfield 14, 3) := by decide +kernel
theorem dX2_setClue_4 : decode cX2_setClue 4 = .ok (.getfield 116, 3) := by decide +kernel
theorem dX2_setClue_7 : decode cX2_setClue 7 = .ok (.iload_n 1, 1) := by decide +kernel
theorem dX2_setClue_8 : decode cX2_setClue 8 = .ok (.iaload, 1) := by decide +kernel
theorem dX2_setClue_9 : decode cX2_setClue 9 = .ok (.iload_n 2, 1) := by decide +kernel
theorem dX2_setClue_10 : decode cX2_setClue 10 = .ok (.if_icmp .eq 18, 3) := by decide +kernel
theorem dX2_setClue_13 : decode cX2_setClue 13 = .ok (.aload_n 0, 1) := by decide +kernel
theorem dX2_setClue_14 : decode cX2_setClue 14 = .ok (.getfield 14, 3) := by decide +kernel
theorem dX2_setClue_17 : decode cX2_setClue 17 = .ok (.getfield 116, 3) := by decide +kernel
theorem dX2_setClue_20 : decode cX2_setClue 20 = .ok (.iload_n 1, 1) := by decide +kernel
theorem dX2_setClue_21 : decode cX2_setClue 21 = .ok (.iload_n 2, 1) := by decide +kernel
theorem dX2_setClue_22 : decode cX2_setClue 22 = .ok (.iastore, 1) := by decide +kernel
theorem dX2_setClue_23 : decode cX2_setClue 23 = .ok (.aload_n 0, 1) := by decide +kernel
theorem dX2_setClue_24 : decode cX2_setClue 24 = .ok (.iconst 1, 1) := by decide +kernel
theorem dX2_setClue_25 : decode cX2_setClue 25 = .ok (.putfield 31, 3) := by decide +kernel
theorem dX2_setClue_28 : decode cX2_setClue 28 = .ok (.return_, 1) := by decide +kernel
theorem dX2_fresh_0 : decode cX2_fresh 0 = .ok (.aload_n 0, 1) := by decide +kernel
theorem dX2_fresh_1 : decode cX2_fresh 1 = .ok (.getfield 31, 3) := by decide +kernel
theorem dX2_fresh_4 : decode cX2_fresh 4 = .ok (.ifCond .eq 15, 3) := by decide +kernel
theorem dX2_fresh_7 : decode cX2_fresh 7 = .ok (.aload_n 0, 1) := by decide +kernel
theorem dX2_fresh_8 : decode cX2_fresh 8 = .ok (.getfield 23, 3) := by decide +kernel
theorem dX2_fresh_11 : decode cX2_fresh 11 = .ok (.invokevirtual 122, 3) := by decide +kernel
theorem dX2_fresh_14 : decode cX2_fresh 14 = .ok (.aload_n 0, 1) := by decide +kernel
theorem dX2_fresh_15 : decode cX2_fresh 15 = .ok (.iconst 0, 1) := by decide +kernel
theorem dX2_fresh_16 : decode cX2_fresh 16 = .ok (.putfield 31, 3) := by decide +kernel
theorem dX2_fresh_19 : decode cX2_fresh 19 = .ok (.aload_n 0, 1) := by decide +kernel
theorem dX2_fresh_20 : decode cX2_fresh 20 = .ok (.getfield 23, 3) := by decide +kernel
theorem dX2_fresh_23 : decode cX2_fresh 23 = .ok (.areturn, 1) := by decide +kernel
theorem dX2_hasBit_0 : decode cX2_hasBit 0 = .ok (.iload_n 0, 1) := by decide +kernel
theorem dX2_hasBit_1 : decode cX2_hasBit 1 = .ok (.iload_n 1, 1) := by decide +kernel
theorem dX2_hasBit_2 : decode cX2_hasBit 2 = .ok (.ishr, 1) := by decide +kernel
theorem dX2_hasBit_3 : decode cX2_hasBit 3 = .ok (.iconst 1, 1) := by decide +kernel
theorem dX2_hasBit_4 : decode cX2_hasBit 4 = .ok (.iand, 1) := by decide +kernel
theorem dX2_hasBit_5 : decode cX2_hasBit 5 = .ok (.iconst 1, 1) := by decide +kernel
theorem dX2_hasBit_6 : decode cX2_hasBit 6 = .ok (.if_icmp .ne 7, 3) := by decide +kernel
theorem dX2_hasBit_9 : decode cX2_hasBit 9 = .ok (.iconst 1, 1) := by decide +kernel
theorem dX2_hasBit_10 : decode cX2_hasBit 10 = .ok (.goto 4, 3) := by decide +kernel
theorem dX2_hasBit_13 : decode cX2_hasBit 13 = .ok (.iconst 0, 1) := by decide +kernel
theorem dX2_hasBit_14 : decode cX2_hasBit 14 = .ok (.ireturn, 1) := by decide +kernel
end
section
theorem dX3_init_0 : decode cX3_init 0 = .ok (.aload_n 0, 1) := by decide +kernel
theorem dX3_init_1 : decode cX3_init 1 = .ok (.invokespecial 1, 3) := by decide +kernel
theorem dX3_init_4 : decode cX3_init 4 = .ok (.aload_n 0, 1) := by decide +kernel
theorem dX3_init_5 : decode cX3_init 5 = .ok (.bipush 31, 2) := by decide +kernel
theorem dX3_init_7 : decode cX3_init 7 = .ok (.newarray .int, 2) := by decide +kernel
theorem dX3_init_9 : decode cX3_init 9 = .ok (.putfield 7, 3) := by decide +kernel
theorem dX3_init_12 : decode cX3_init 12 = .ok (.aload_n 0, 1) := by decide +kernel
theorem dX3_init_13 : decode cX3_init 13 = .ok (.bipush 31, 2) := by decide +kernel
theorem dX3_init_15 : decode cX3_init 15 = .ok (.newarray .int, 2) := by decide +kernel
theorem dX3_init_17 : decode cX3_init 17 = .ok (.putfield 13, 3) := by decide +kernel
theorem dX3_init_20 : decode cX3_init 20 = .ok (.aload_n 0, 1) := by decide +kernel
theorem dX3_init_21 : decode cX3_init 21 = .ok (.bipush 31, 2) := by decide +kernel
theorem dX3_init_23 : decode cX3_init 23 = .ok (.newarray .int, 2) := by decide +kernel
theorem dX3_init_25 : decode cX3_init 25 = .ok (.putfield 16, 3) := by decide +kernel
theorem dX3_init_28 : decode cX3_init 28 = .ok (.aload_n 0, 1) := by decide +kernel
theorem dX3_init_29 : decode cX3_init 29 = .ok (.bipush 31, 2) := by decide +kernel
theorem dX3_init_31 : decode cX3_init 31 = .ok (.newarray .int, 2) := by decide +kernel
theorem dX3_init_33 : decode cX3_init 33 = .ok (.putfield 19, 3) := by decide +kernel
theorem dX3_init_36 : decode cX3_init 36 = .ok (.aload_n 0, 1) := by decide +kernel
theorem dX3_init_37 : decode cX3_init 37 = .ok (.bipush 80, 2) := by decide +kernel
theorem dX3_init_39 : decode cX3_init 39 = .ok (.newarray .int, 2) := by decide +kernel
theorem dX3_init_41 : decode cX3_init 41 = .ok (.putfield 22, 3) := by decide +kernel
theorem dX3_init_44 : decode cX3_init 44 = .ok (.aload_n 0, 1) := by decide +kernel
theorem dX3_init_45 : decode cX3_init 45 = .ok (.bipush 20, 2) := by decide +kernel
theorem dX3_init_47 : decode cX3_init 47 = .ok (.newarray .int, 2) := by decide +kernel
theorem dX3_init_49 : decode cX3_init 49 = .ok (.putfield 25, 3) := by decide +kernel
theorem dX3_init_52 : decode cX3_init 52 = .ok (.aload_n 0, 1) := by decide +kernel
theorem dX3_init_53 : decode cX3_init 53 = .ok (.bipush 20, 2) := by decide +kernel
theorem dX3_init_55 : decode cX3_init 55 = .ok (.newarray .int, 2) := by decide +kernel
theorem dX3_init_57 : decode cX3_init 57 = .ok (.putfield 28, 3) := by decide +kernel
theorem dX3_init_60 : decode cX3_init 60 = .ok (.aload_n 0, 1) := by decide +kernel
theorem dX3_init_61 : decode cX3_init 61 = .ok (.bipush 12, 2) := by decide +kernel
theorem dX3_init_63 : decode cX3_init 63 = .ok (.newarray .int, 2) := by decide +kernel
theorem dX3_init_65 : decode cX3_init 65 = .ok (.putfield 31, 3) := by decide +kernel
theorem dX3_init_68 : decode cX3_init 68 = .ok (.aload_n 0, 1) := by decide +kernel
theorem dX3_init_69 : decode cX3_init 69 = .ok (.bipush 12, 2) := by decide +kernel
theorem dX3_init_71 : decode cX3_init 71 = .ok (.newarray .int, 2) := by decide +kernel
theorem dX3_init_73 : decode cX3_init 73 = .ok (.putfield 34, 3) := by decide +kernel
theorem dX3_init_76 : decode cX3_init 76 = .ok (.aload_n 0, 1) := by decide +kernel
theorem dX3_init_77 : decode cX3_init 77 = .ok (.sipush 1300, 3) := by decide +kernel
theorem dX3_init_80 : decode cX3_init 80 = .ok (.newarray .int, 2) := by decide +kernel
theorem dX3_init_82 : decode cX3_init 82 = .ok (.putfield 37, 3) := by decide +kernel
theorem dX3_init_85 : decode cX3_init 85 = .ok (.aload_n 0, 1) := by decide +kernel
theorem dX3_init_86 : decode cX3_init 86 = .ok (.bipush 12, 2) := by decide +kernel
theorem dX3_init_88 : decode cX3_init 88 = .ok (.newarray .int, 2) := by decide +kernel
theorem dX3_init_90 : decode cX3_init 90 = .ok (.putfield 40, 3) := by decide +kernel
theorem dX3_init_93 : decode cX3_init 93 = .ok (.aload_n 0, 1) := by decide +kernel
theorem dX3_init_94 : decode cX3_init 94 = .ok (.sipush 1300, 3) := by decide +kernel
theorem dX3_init_97 : decode cX3_init 97 = .ok (.newarray .int, 2) := by decide +kernel
theorem dX3_init_99 : decode cX3_init 99 = .ok (.putfield 43, 3) := by decide +kernel
theorem dX3_init_102 : decode cX3_init 102 = .ok (.aload_n 0, 1) := by decide +kernel
theorem dX3_init_103 : decode cX3_init 103 = .ok (.bipush 32, 2) := by decide +kernel
theorem dX3_init_105 : decode cX3_init 105 = .ok (.newarray .int, 2) := by decide +kernel
theorem dX3_init_107 : decode cX3_init 107 = .ok (.putfield 46, 3) := by decide +kernel
theorem dX3_init_110 : decode cX3_init 110 = .ok (.aload_n 0, 1) := by decide +kernel
theorem dX3_init_111 : decode cX3_init 111 = .ok (.bipush 32, 2) := by decide +kernel
theorem dX3_init_113 : decode cX3_init 113 = .ok (.newarray .int, 2) := by decide +kernel
theorem dX3_init_115 : decode cX3_init 115 = .ok (.putfield 49, 3) := by decide +kernel
theorem dX3_init_118 : decode cX3_init 118 = .ok (.aload_n 0, 1) := by decide +kernel
theorem dX3_init_119 : decode cX3_init 119 = .ok (.sipush 2500, 3) := by decide +kernel
theorem dX3_init_122 : decode cX3_init 122 = .ok (.newarray .int, 2) := by decide +kernel
theorem dX3_init_124 : decode cX3_init 124 = .ok (.putfield 52, 3) := by decide +kernel
theorem dX3_init_127 : decode cX3_init 127 = .ok (.aload_n 0, 1) := by decide +kernel
theorem dX3_init_128 : decode cX3_init 128 = .ok (.sipush 2500, 3) := by decide +kernel
theorem dX3_init_131 : decode cX3_init 131 = .ok (.newarray .int, 2) := by decide +kernel
theorem dX3_init_133 : decode cX3_init 133 = .ok (.putfield 55, 3) := by decide +kernel
theorem dX3_init_136 : decode cX3_init 136 = .ok (.aload_n 0, 1) := by decide +kernel
theorem dX3_init_137 : decode cX3_init 137 = .ok (.sipush 2500, 3) := by decide +kernel
theorem dX3_init_140 : decode cX3_init 140 = .ok (.newarray .long, 2) := by decide +kernel
theorem dX3_init_142 : decode cX3_init 142 = .ok (.putfield 58, 3) := by decide +kernel
theorem dX3_init_145 : decode cX3_init 145 = .ok (.aload_n 0, 1) := by decide +kernel
theorem dX3_init_146 : decode cX3_init 146 = .ok (.sipush 4096, 3) := by decide +kernel
theorem dX3_init_149 : decode cX3_init 149 = .ok (.newarray .int, 2) := by decide +kernel
theorem dX3_init_151 : decode cX3_init 151 = .ok (.putfield 62, 3) := by decide +kernel
theorem dX3_init_154 : decode cX3_init 154 = .ok (.aload_n 0, 1) := by decide +kernel
theorem dX3_init_155 : decode cX3_init 155 = .ok (.bipush 20, 2) := by decide +kernel
theorem dX3_init_157 : decode cX3_init 157 = .ok (.newarray .int, 2) := by decide +kernel
theorem dX3_init_159 : decode cX3_init 159 = .ok (.putfield 65, 3) := by decide +kernel
theorem dX3_init_162 : decode cX3_init 162 = .ok (.aload_n 0, 1) := by decide +kernel
theorem dX3_init_163 : decode cX3_init 163 = .ok (.bipush 20, 2) := by decide +kernel
theorem dX3_init_165 : decode cX3_init 165 = .ok (.newarray .boolean, 2) := by decide +kernel
theorem dX3_init_167 : decode cX3_init 167 = .ok (.putfield 68, 3) := by decide +kernel
theorem dX3_init_170 : decode cX3_init 170 = .ok (.aload_n 0, 1) := by decide +kernel
theorem dX3_init_171 : decode cX3_init 171 = .ok (.iload_n 1, 1) := by decide +kernel
theorem dX3_init_172 : decode cX3_init 172 = .ok (.iconst 1, 1) := by decide +kernel
theorem dX3_init_173 : decode cX3_init 173 = .ok (.if_icmp .lt 8, 3) := by decide +kernel
theorem dX3_init_176 : decode cX3_init 176 = .ok (.iload_n 1, 1) := by decide +kernel
theorem dX3_init_177 : decode cX3_init 177 = .ok (.iconst 4, 1) := by decide +kernel
theorem dX3_init_178 : decode cX3_init 178 = .ok (.if_icmp .le 7, 3) := by decide +kernel
theorem dX3_init_181 : decode cX3_init 181 = .ok (.iconst 2, 1) := by decide +kernel
theorem dX3_init_182 : decode cX3_init 182 = .ok (.goto 4, 3) := by decide +kernel
theorem dX3_init_185 : decode cX3_init 185 = .ok (.iload_n 1, 1) := by decide +kernel
theorem dX3_init_186 : decode cX3_init 186 = .ok (.putfield 72, 3) := by decide +kernel
theorem dX3_init_189 : decode cX3_init 189 = .ok (.aload_n 0, 1) := by decide +kernel
theorem dX3_init_190 : decode cX3_init 190 = .ok (.iload_n 2, 1) := by decide +kernel
theorem dX3_init_191 : decode cX3_init 191 = .ok (.iconst 1, 1) := by decide +kernel
theorem dX3_init_192 : decode cX3_init 192 = .ok (.if_icmp .lt 8, 3) := by decide +kernel
theorem dX3_init_195 : decode cX3_init 195 = .ok (.iload_n 2, 1) := by decide +kernel
theorem dX3_init_196 : decode cX3_init 196 = .ok (.iconst 3, 1) := by decide +kernel
theorem dX3_init_197 : decode cX3_init 197 = .ok (.if_icmp .le 7, 3) := by decide +kernel
theorem dX3_init_200 : decode cX3_init 200 = .ok (.iconst 2, 1) := by decide +kernel
theorem dX3_init_201 : decode cX3_init 201 = .ok (.goto 4, 3) := by decide +kernel
theorem dX3_init_204 : decode cX3_init 204 = .ok (.iload_n 2, 1) := by decide +kernel
theorem dX3_init_205 : decode cX3_init 205 = .ok (.putfield 76, 3) := by decide +kernel
theorem dX3_init_208 : decode cX3_init 208 = .ok (.aload_n 0, 1) := by decide +kernel
theorem dX3_init_209 : decode cX3_init 209 = .ok (.aload_n 0, 1) := by decide +kernel
theorem dX3_init_210 : decode cX3_init 210 = .ok (.getfield 72, 3) := by decide +kernel
theorem dX3_init_213 : decode cX3_init 213 = .ok (.iconst 1, 1) := by decide +kernel
theorem dX3_init_214 : decode cX3_init 214 = .ok (.iadd, 1) := by decide +kernel
theorem dX3_init_215 : decode cX3_init 215 = .ok (.aload_n 0, 1) := by decide +kernel
theorem dX3_init_216 : decode cX3_init 216 = .ok (.getfield 76, 3) := by decide +kernel
theorem dX3_init_219 : decode cX3_init 219 = .ok (.iconst 1, 1) := by decide +kernel
theorem dX3_init_220 : decode cX3_init 220 = .ok (.iadd, 1) := by decide +kernel
theorem dX3_init_221 : decode cX3_init 221 = .ok (.imul, 1) := by decide +kernel
theorem dX3_init_222 : decode cX3_init 222 = .ok (.putfield 79, 3) := by decide +kernel
theorem dX3_init_225 : decode cX3_init 225 = .ok (.iconst 0, 1) := by decide +kernel
theorem dX3_init_226 : decode cX3_init 226 = .ok (.istore_n 3, 1) := by decide +kernel
theorem dX3_init_227 : decode cX3_init 227 = .ok (.iload_n 3, 1) := by decide +kernel
theorem dX3_init_228 : decode cX3_init 228 = .ok (.bipush 12, 2) := by decide +kernel
theorem dX3_init_230 : decode cX3_init 230 = .ok (.if_icmp .ge 24, 3) := by decide +kernel
theorem dX3_init_233 : decode cX3_init 233 = .ok (.aload_n 0, 1) := by decide +kernel
theorem dX3_init_234 : decode cX3_init 234 = .ok (.getfield 40, 3) := by decide +kernel
theorem dX3_init_237 : decode cX3_init 237 = .ok (.iload_n 3, 1) := by decide +kernel
theorem dX3_init_238 : decode cX3_init 238 = .ok (.iconst (-1), 1) := by decide +kernel
theorem dX3_init_239 : decode cX3_init 239 = .ok (.iastore, 1) := by decide +kernel
theorem dX3_init_240 : decode cX3_init 240 = .ok (.aload_n 0, 1) := by decide +kernel
theorem dX3_init_241 : decode cX3_init 241 = .ok (.getfield 31, 3) := by decide +kernel
theorem dX3_init_244 : decode cX3_init 244 = .ok (.iload_n 3, 1) := by decide +kernel
theorem dX3_init_245 : decode cX3_init 245 = .ok (.bipush 99, 2) := by decide +kernel
theorem dX3_init_247 : decode cX3_init 247 = .ok (.iastore, 1) := by decide +kernel
theorem dX3_init_248 : decode cX3_init 248 = .ok (.iinc 3 1, 3) := by decide +kernel
theorem dX3_init_251 : decode cX3_init 251 = .ok (.goto (-24), 3) := by decide +kernel
theorem dX3_init_254 : decode cX3_init 254 = .ok (.iconst 0, 1) := by decide +kernel
theorem dX3_init_255 : decode cX3_init 255 = .ok (.istore_n 3, 1) := by decide +kernel
theorem dX3_init_256 : decode cX3_init 256 = .ok (.iload_n 3, 1) := by decide +kernel
theorem dX3_init_257 : decode cX3_init 257 = .ok (.bipush 80, 2) := by decide +kernel
theorem dX3_init_259 : decode cX3_init 259 = .ok (.if_icmp .ge 16, 3) := by decide +kernel
theorem dX3_init_262 : decode cX3_init 262 = .ok (.aload_n 0, 1) := by decide +kernel
theorem dX3_init_263 : decode cX3_init 263 = .ok (.getfield 22, 3) := by decide +kernel
theorem dX3_init_266 : decode cX3_init 266 = .ok (.iload_n 3, 1) := by decide +kernel
theorem dX3_init_267 : decode cX3_init 267 = .ok (.iconst (-1), 1) := by decide +kernel
theorem dX3_init_268 : decode cX3_init 268 = .ok (.iastore, 1) := by decide +kernel
theorem dX3_init_269 : decode cX3_init 269 = .ok (.iinc 3 1, 3) := by decide +kernel
theorem dX3_init_272 : decode cX3_init 272 = .ok (.goto (-16), 3) := by decide +kernel
theorem dX3_init_275 : decode cX3_init 275 = .ok (.iconst 0, 1) := by decide +kernel
theorem dX3_init_276 : decode cX3_init 276 = .ok (.istore_n 3, 1) := by decide +kernel
theorem dX3_init_277 : decode cX3_init 277 = .ok (.iload_n 3, 1) := by decide +kernel
theorem dX3_init_278 : decode cX3_init 278 = .ok (.aload_n 0, 1) := by decide +kernel
theorem dX3_init_279 : decode cX3_init 279 = .ok (.getfield 79, 3) := by decide +kernel
theorem dX3_init_282 : decode cX3_init 282 = .ok (.if_icmp .ge 17, 3) := by decide +kernel
theorem dX3_init_285 : decode cX3_init 285 = .ok (.aload_n 0, 1) := by decide +kernel
theorem dX3_init_286 : decode cX3_init 286 = .ok (.getfield 25, 3) := by decide +kernel
theorem dX3_init_289 : decode cX3_init 289 = .ok (.iload_n 3, 1) := by decide +kernel
theorem dX3_init_290 : decode cX3_init 290 = .ok (.bipush 99, 2) := by decide +kernel
theorem dX3_init_292 : decode cX3_init 292 = .ok (.iastore, 1) := by decide +kernel
theorem dX3_init_293 : decode cX3_init 293 = .ok (.iinc 3 1, 3) := by decide +kernel
theorem dX3_init_296 : decode cX3_init 296 = .ok (.goto (-19), 3) := by decide +kernel
theorem dX3_init_299 : decode cX3_init 299 = .ok (.iconst 0, 1) := by decide +kernel
theorem dX3_init_300 : decode cX3_init 300 = .ok (.istore_n 3, 1) := by decide +kernel
theorem dX3_init_301 : decode cX3_init 301 = .ok (.iload_n 3, 1) := by decide +kernel
theorem dX3_init_302 : decode cX3_init 302 = .ok (.aload_n 0, 1) := by decide +kernel
theorem dX3_init_303 : decode cX3_init 303 = .ok (.getfield 79, 3) := by decide +kernel
theorem dX3_init_306 : decode cX3_init 306 = .ok (.if_icmp .ge 104, 3) := by decide +kernel
theorem dX3_init_309 : decode cX3_init 309 = .ok (.iload_n 3, 1) := by decide +kernel
theorem dX3_init_310 : decode cX3_init 310 = .ok (.aload_n 0, 1) := by decide +kernel
theorem dX3_init_311 : decode cX3_init 311 = .ok (.getfield 76, 3) := by decide +kernel
theorem dX3_init_314 : decode cX3_init 314 = .ok (.iconst 1, 1) := by decide +kernel
theorem dX3_init_315 : decode cX3_init 315 = .ok (.iadd, 1) := by decide +kernel
theorem dX3_init_316 : decode cX3_init 316 = .ok (.idiv, 1) := by decide +kernel
theorem dX3_init_317 : decode cX3_init 317 = .ok (.istore 4, 2) := by decide +kernel
theorem dX3_init_319 : decode cX3_init 319 = .ok (.iload_n 3, 1) := by decide +kernel
theorem dX3_init_320 : decode cX3_init 320 = .ok (.aload_n 0, 1) := by decide +kernel
theorem dX3_init_321 : decode cX3_init 321 = .ok (.getfield 76, 3) := by decide +kernel
theorem dX3_init_324 : decode cX3_init 324 = .ok (.iconst 1, 1) := by decide +kernel
theorem dX3_init_325 : decode cX3_init 325 = .ok (.iadd, 1) := by decide +kernel
theorem dX3_init_326 : decode cX3_init 326 = .ok (.irem, 1) := by decide +kernel
theorem dX3_init_327 : decode cX3_init 327 = .ok (.istore 5, 2) := by decide +kernel
theorem dX3_init_329 : decode cX3_init 329 = .ok (.iload 5, 2) := by decide +kernel
theorem dX3_init_331 : decode cX3_init 331 = .ok (.aload_n 0, 1) := by decide +kernel
theorem dX3_init_332 : decode cX3_init 332 = .ok (.getfield 76, 3) := by decide +kernel
theorem dX3_init_335 : decode cX3_init 335 = .ok (.if_icmp .ge 29, 3) := by decide +kernel
theorem dX3_init_338 : decode cX3_init 338 = .ok (.aload_n 0, 1) := by decide +kernel
theorem dX3_init_339 : decode cX3_init 339 = .ok (.iload_n 3, 1) := by decide +kernel
theorem dX3_init_340 : decode cX3_init 340 = .ok (.iload_n 3, 1) := by decide +kernel
theorem dX3_init_341 : decode cX3_init 341 = .ok (.iconst 1, 1) := by decide +kernel
theorem dX3_init_342 : decode cX3_init 342 = .ok (.iadd, 1) := by decide +kernel
theorem dX3_init_343 : decode cX3_init 343 = .ok (.aload_n 0, 1) := by decide +kernel
theorem dX3_init_344 : decode cX3_init 344 = .ok (.iload 4, 2) := by decide +kernel
theorem dX3_init_346 : decode cX3_init 346 = .ok (.iconst 1, 1) := by decide +kernel
theorem dX3_init_347 : decode cX3_init 347 = .ok (.isub, 1) := by decide +kernel
theorem dX3_init_348 : decode cX3_init 348 = .ok (.iload 5, 2) := by decide +kernel
theorem dX3_init_350 : decode cX3_init 350 = .ok (.invokevirtual 82, 3) := by decide +kernel
theorem dX3_init_353 : decode cX3_init 353 = .ok (.aload_n 0, 1) := by decide +kernel
theorem dX3_init_354 : decode cX3_init 354 = .ok (.iload 4, 2) := by decide +kernel
theorem dX3_init_356 : decode cX3_init 356 = .ok (.iload 5, 2) := by decide +kernel
theorem dX3_init_358 : decode cX3_init 358 = .ok (.invokevirtual 82, 3) := by decide +kernel
theorem dX3_init_361 : decode cX3_init 361 = .ok (.invokevirtual 86, 3) := by decide +kernel
theorem dX3_init_364 : decode cX3_init 364 = .ok (.iload 4, 2) := by decide +kernel
theorem dX3_init_366 : decode cX3_init 366 = .ok (.aload_n 0, 1) := by decide +kernel
theorem dX3_init_367 : decode cX3_init 367 = .ok (.getfield 72, 3) := by decide +kernel
theorem dX3_init_370 : decode cX3_init 370 = .ok (.if_icmp .ge 34, 3) := by decide +kernel
theorem dX3_init_373 : decode cX3_init 373 = .ok (.aload_n 0, 1) := by decide +kernel
theorem dX3_init_374 : decode cX3_init 374 = .ok (.iload_n 3, 1) := by decide +kernel
theorem dX3_init_375 : decode cX3_init 375 = .ok (.iload_n 3, 1) := by decide +kernel
theorem dX3_init_376 : decode cX3_init 376 = .ok (.aload_n 0, 1) := by decide +kernel
theorem dX3_init_377 : decode cX3_init 377 = .ok (.getfield 76, 3) := by decide +kernel
theorem dX3_init_380 : decode cX3_init 380 = .ok (.iadd, 1) := by decide +kernel
theorem dX3_init_381 : decode cX3_init 381 = .ok (.iconst 1, 1) := by decide +kernel
theorem dX3_init_382 : decode cX3_init 382 = .ok (.iadd, 1) := by decide +kernel
theorem dX3_init_383 : decode cX3_init 383 = .ok (.aload_n 0, 1) := by decide +kernel
theorem dX3_init_384 : decode cX3_init 384 = .ok (.iload 4, 2) := by decide +kernel
theorem dX3_init_386 : decode cX3_init 386 = .ok (.iload 5, 2) := by decide +kernel
theorem dX3_init_388 : decode cX3_init 388 = .ok (.iconst 1, 1) := by decide +kernel
theorem dX3_init_389 : decode cX3_init 389 = .ok (.isub, 1) := by decide +kernel
theorem dX3_init_390 : decode cX3_init 390 = .ok (.invokevirtual 82, 3) := by decide +kernel
theorem dX3_init_393 : decode cX3_init 393 = .ok (.aload_n 0, 1) := by decide +kernel
theorem dX3_init_394 : decode cX3_init 394 = .ok (.iload 4, 2) := by decide +kernel
theorem dX3_init_396 : decode cX3_init 396 = .ok (.iload 5, 2) := by decide +kernel
theorem dX3_init_398 : decode cX3_init 398 = .ok (.invokevirtual 82, 3) := by decide +kernel
theorem dX3_init_401 : decode cX3_init 401 = .ok (.invokevirtual 86, 3) := by decide +kernel
theorem dX3_init_404 : decode cX3_init 404 = .ok (.iinc 3 1, 3) := by decide +kernel
theorem dX3_init_407 : decode cX3_init 407 = .ok (.goto (-106), 3) := by decide +kernel
theorem dX3_init_410 : decode cX3_init 410 = .ok (.aload_n 0, 1) := by decide +kernel
theorem dX3_init_411 : decode cX3_init 411 = .ok (.invokevirtual 90, 3) := by decide +kernel
theorem dX3_init_414 : decode cX3_init 414 = .ok (.return_, 1) := by decide +kernel
theorem dX3_cell_0 : decode cX3_cell 0 = .ok (.iload_n 1, 1) := by decide +kernel
theorem dX3_cell_1 : decode cX3_cell 1 = .ok (.ifCond .lt 23, 3) := by decide +kernel
theorem dX3_cell_4 : decode cX3_cell 4 = .ok (.iload_n 1, 1) := by decide +kernel
theorem dX3_cell_5 : decode cX3_cell 5 = .ok (.aload_n 0, 1) := by decide +kernel
theorem dX3_cell_6 : decode cX3_cell 6 = .ok (.getfield 72, 3) := by decide +kernel
theorem dX3_cell_9 : decode cX3_cell 9 = .ok (.if_icmp .ge 15, 3) := by decide +kernel
theorem dX3_cell_12 : decode cX3_cell 12 = .ok (.iload_n 2, 1) := by decide +kernel
theorem dX3_cell_13 : decode cX3_cell 13 = .ok (.ifCond .lt 11, 3) := by decide +kernel
theorem dX3_cell_16 : decode cX3_cell 16 = .ok (.iload_n 2, 1) := by decide +kernel
theorem dX3_cell_17 : decode cX3_cell 17 = .ok (.aload_n 0, 1) := by decide +kernel
theorem dX3_cell_18 : decode cX3_cell 18 = .ok (.getfield 76, 3) := by decide +kernel
theorem dX3_cell_21 : decode cX3_cell 21 = .ok (.if_icmp .lt 7, 3) := by decide +kernel
theorem dX3_cell_24 : decode cX3_cell 24 = .ok (.iconst (-1), 1) := by decide +kernel
theorem dX3_cell_25 : decode cX3_cell 25 = .ok (.goto 11, 3) := by decide +kernel
theorem dX3_cell_28 : decode cX3_cell 28 = .ok (.iload_n 1, 1) := by decide +kernel
theorem dX3_cell_29 : decode cX3_cell 29 = .ok (.aload_n 0, 1) := by decide +kernel
theorem dX3_cell_30 : decode cX3_cell 30 = .ok (.getfield 76, 3) := by decide +kernel
theorem dX3_cell_33 : decode cX3_cell 33 = .ok (.imul, 1) := by decide +kernel
theorem dX3_cell_34 : decode cX3_cell 34 = .ok (.iload_n 2, 1) := by decide +kernel
theorem dX3_cell_35 : decode cX3_cell 35 = .ok (.iadd, 1) := by decide +kernel
theorem dX3_cell_36 : decode cX3_cell 36 = .ok (.ireturn, 1) := by decide +kernel
theorem dX3_meet_0 : decode cX3_meet 0 = .ok (.iconst 4, 1) := by decide +kernel
theorem dX3_meet_1 : decode cX3_meet 1 = .ok (.iload_n 1, 1) := by decide +kernel
theorem dX3_meet_2 : decode cX3_meet 2 = .ok (.imul, 1) := by decide +kernel
theorem dX3_meet_3 : decode cX3_meet 3 = .ok (.istore_n 3, 1) := by decide +kernel
theorem dX3_meet_4 : decode cX3_meet 4 = .ok (.aload_n 0, 1) := by decide +kernel
theorem dX3_meet_5 : decode cX3_meet 5 = .ok (.getfield 22, 3) := by decide +kernel
theorem dX3_meet_8 : decode cX3_meet 8 = .ok (.iload_n 3, 1) := by decide +kernel
theorem dX3_meet_9 : decode cX3_meet 9 = .ok (.iaload, 1) := by decide +kernel
theorem dX3_meet_10 : decode cX3_meet 10 = .ok (.ifCond .lt 9, 3) := by decide +kernel
theorem dX3_meet_13 : decode cX3_meet 13 = .ok (.iinc 3 1, 3) := by decide +kernel
theorem dX3_meet_16 : decode cX3_meet 16 = .ok (.goto (-12), 3) := by decide +kernel
theorem dX3_meet_19 : decode cX3_meet 19 = .ok (.aload_n 0, 1) := by decide +kernel
theorem dX3_meet_20 : decode cX3_meet 20 = .ok (.getfield 22, 3) := by decide +kernel
theorem dX3_meet_23 : decode cX3_meet 23 = .ok (.iload_n 3, 1) := by decide +kernel
theorem dX3_meet_24 : decode cX3_meet 24 = .ok (.iload_n 2, 1) := by decide +kernel
theorem dX3_meet_25 : decode cX3_meet 25 = .ok (.iastore, 1) := by decide +kernel
theorem dX3_meet_26 : decode cX3_meet 26 = .ok (.aload_n 0, 1) := by decide +kernel
theorem dX3_meet_27 : decode cX3_meet 27 = .ok (.getfield 25, 3) := by decide +kernel
theorem dX3_meet_30 : decode cX3_meet 30 = .ok (.iload_n 1, 1) := by decide +kernel
theorem dX3_meet_31 : decode cX3_meet 31 = .ok (.iload_n 2, 1) := by decide +kernel
theorem dX3_meet_32 : decode cX3_meet 32 = .ok (.aload_n 0, 1) := by decide +kernel
theorem dX3_meet_33 : decode cX3_meet 33 = .ok (.getfield 25, 3) := by decide +kernel
theorem dX3_meet_36 : decode cX3_meet 36 = .ok (.iload_n 1, 1) := by decide +kernel
theorem dX3_meet_37 : decode cX3_meet 37 = .ok (.iaload, 1) := by decide +kernel
theorem dX3_meet_38 : decode cX3_meet 38 = .ok (.if_icmp .ge 7, 3) := by decide +kernel
theorem dX3_meet_41 : decode cX3_meet 41 = .ok (.iload_n 2, 1) := by decide +kernel
theorem dX3_meet_42 : decode cX3_meet 42 = .ok (.goto 9, 3) := by decide +kernel
theorem dX3_meet_45 : decode cX3_meet 45 = .ok (.aload_n 0, 1) := by decide +kernel
theorem dX3_meet_46 : decode cX3_meet 46 = .ok (.getfield 25, 3) := by decide +kernel
theorem dX3_meet_49 : decode cX3_meet 49 = .ok (.iload_n 1, 1) := by decide +kernel
theorem dX3_meet_50 : decode cX3_meet 50 = .ok (.iaload, 1) := by decide +kernel
theorem dX3_meet_51 : decode cX3_meet 51 = .ok (.iastore, 1) := by decide +kernel
theorem dX3_meet_52 : decode cX3_meet 52 = .ok (.aload_n 0, 1) := by decide +kernel
theorem dX3_meet_53 : decode cX3_meet 53 = .ok (.getfield 28, 3) := by decide +kernel
theorem dX3_meet_56 : decode cX3_meet 56 = .ok (.iload_n 1, 1) := by decide +kernel
theorem dX3_meet_57 : decode cX3_meet 57 = .ok (.iload_n 2, 1) := by decide +kernel
theorem dX3_meet_58 : decode cX3_meet 58 = .ok (.iastore, 1) := by decide +kernel
theorem dX3_meet_59 : decode cX3_meet 59 = .ok (.return_, 1) := by decide +kernel
theorem dX3_border_0 : decode cX3_border 0 = .ok (.iload_n 1, 1) := by decide +kernel
theorem dX3_border_1 : decode cX3_border 1 = .ok (.ifCond .lt 36, 3) := by decide +kernel
theorem dX3_border_4 : decode cX3_border 4 = .ok (.aload_n 0, 1) := by decide +kernel
theorem dX3_border_5 : decode cX3_border 5 = .ok (.getfield 31, 3) := by decide +kernel
theorem dX3_border_8 : decode cX3_border 8 = .ok (.iload_n 1, 1) := by decide +kernel
theorem dX3_border_9 : decode cX3_border 9 = .ok (.iload_n 2, 1) := by decide +kernel
theorem dX3_border_10 : decode cX3_border 10 = .ok (.aload_n 0, 1) := by decide +kernel
theorem dX3_border_11 : decode cX3_border 11 = .ok (.getfield 31, 3) := by decide +kernel
theorem dX3_border_14 : decode cX3_border 14 = .ok (.iload_n 1, 1) := by decide +kernel
theorem dX3_border_15 : decode cX3_border 15 = .ok (.iaload, 1) := by decide +kernel
theorem dX3_border_16 : decode cX3_border 16 = .ok (.if_icmp .ge 7, 3) := by decide +kernel
theorem dX3_border_19 : decode cX3_border 19 = .ok (.iload_n 2, 1) := by decide +kernel
theorem dX3_border_20 : decode cX3_border 20 = .ok (.goto 9, 3) := by decide +kernel
theorem dX3_border_23 : decode cX3_border 23 = .ok (.aload_n 0, 1) := by decide +kernel
theorem dX3_border_24 : decode cX3_border 24 = .ok (.getfield 31, 3) := by decide +kernel
theorem dX3_border_27 : decode cX3_border 27 = .ok (.iload_n 1, 1) := by decide +kernel
theorem dX3_border_28 : decode cX3_border 28 = .ok (.iaload, 1) := by decide +kernel
theorem dX3_border_29 : decode cX3_border 29 = .ok (.iastore, 1) := by decide +kernel
theorem dX3_border_30 : decode cX3_border 30 = .ok (.aload_n 0, 1) := by decide +kernel
theorem dX3_border_31 : decode cX3_border 31 = .ok (.getfield 34, 3) := by decide +kernel
theorem dX3_border_34 : decode cX3_border 34 = .ok (.iload_n 1, 1) := by decide +kernel
theorem dX3_border_35 : decode cX3_border 35 = .ok (.iload_n 2, 1) := by decide +kernel
theorem dX3_border_36 : decode cX3_border 36 = .ok (.iastore, 1) := by decide +kernel
theorem dX3_border_37 : decode cX3_border 37 = .ok (.return_, 1) := by decide +kernel
theorem dX3_join_0 : decode cX3_join 0 = .ok (.aload_n 0, 1) := by decide +kernel
theorem dX3_join_1 : decode cX3_join 1 = .ok (.getfield 7, 3) := by decide +kernel
theorem dX3_join_4 : decode cX3_join 4 = .ok (.aload_n 0, 1) := by decide +kernel
theorem dX3_join_5 : decode cX3_join 5 = .ok (.getfield 93, 3) := by decide +kernel
theorem dX3_join_8 : decode cX3_join 8 = .ok (.iload_n 1, 1) := by decide +kernel
theorem dX3_join_9 : decode cX3_join 9 = .ok (.iastore, 1) := by decide +kernel
theorem dX3_join_10 : decode cX3_join 10 = .ok (.aload_n 0, 1) := by decide +kernel
theorem dX3_join_11 : decode cX3_join 11 = .ok (.getfield 13, 3) := by decide +kernel
theorem dX3_join_14 : decode cX3_join 14 = .ok (.aload_n 0, 1) := by decide +kernel
theorem dX3_join_15 : decode cX3_join 15 = .ok (.getfield 93, 3) := by decide +kernel
theorem dX3_join_18 : decode cX3_join 18 = .ok (.iload_n 2, 1) := by decide +kernel
theorem dX3_join_19 : decode cX3_join 19 = .ok (.iastore, 1) := by decide +kernel
theorem dX3_join_20 : decode cX3_join 20 = .ok (.aload_n 0, 1) := by decide +kernel
theorem dX3_join_21 : decode cX3_join 21 = .ok (.getfield 16, 3) := by decide +kernel
theorem dX3_join_24 : decode cX3_join 24 = .ok (.aload_n 0, 1) := by decide +kernel
theorem dX3_join_25 : decode cX3_join 25 = .ok (.getfield 93, 3) := by decide +kernel
theorem dX3_join_28 : decode cX3_join 28 = .ok (.iload_n 3, 1) := by decide +kernel
theorem dX3_join_29 : decode cX3_join 29 = .ok (.iastore, 1) := by decide +kernel
theorem dX3_join_30 : decode cX3_join 30 = .ok (.aload_n 0, 1) := by decide +kernel
theorem dX3_join_31 : decode cX3_join 31 = .ok (.getfield 19, 3) := by decide +kernel
theorem dX3_join_34 : decode cX3_join 34 = .ok (.aload_n 0, 1) := by decide +kernel
theorem dX3_join_35 : decode cX3_join 35 = .ok (.getfield 93, 3) := by decide +kernel
theorem dX3_join_38 : decode cX3_join 38 = .ok (.iload 4, 2) := by decide +kernel
theorem dX3_join_40 : decode cX3_join 40 = .ok (.iastore, 1) := by decide +kernel
theorem dX3_join_41 : decode cX3_join 41 = .ok (.aload_n 0, 1) := by decide +kernel
theorem dX3_join_42 : decode cX3_join 42 = .ok (.iload_n 1, 1) := by decide +kernel
theorem dX3_join_43 : decode cX3_join 43 = .ok (.aload_n 0, 1) := by decide +kernel
theorem dX3_join_44 : decode cX3_join 44 = .ok (.getfield 93, 3) := by decide +kernel
theorem dX3_join_47 : decode cX3_join 47 = .ok (.invokevirtual 96, 3) := by decide +kernel
theorem dX3_join_50 : decode cX3_join 50 = .ok (.aload_n 0, 1) := by decide +kernel
theorem dX3_join_51 : decode cX3_join 51 = .ok (.iload_n 2, 1) := by decide +kernel
theorem dX3_join_52 : decode cX3_join 52 = .ok (.aload_n 0, 1) := by decide +kernel
theorem dX3_join_53 : decode cX3_join 53 = .ok (.getfield 93, 3) := by decide +kernel
theorem dX3_join_56 : decode cX3_join 56 = .ok (.invokevirtual 96, 3) := by decide +kernel
theorem dX3_join_59 : decode cX3_join 59 = .ok (.aload_n 0, 1) := by decide +kernel
theorem dX3_join_60 : decode cX3_join 60 = .ok (.iload_n 3, 1) := by decide +kernel
theorem dX3_join_61 : decode cX3_join 61 = .ok (.aload_n 0, 1) := by decide +kernel
theorem dX3_join_62 : decode cX3_join 62 = .ok (.getfield 93, 3) := by decide +kernel
theorem dX3_join_65 : decode cX3_join 65 = .ok (.invokevirtual 100, 3) := by decide +kernel
theorem dX3_join_68 : decode cX3_join 68 = .ok (.aload_n 0, 1) := by decide +kernel
theorem dX3_join_69 : decode cX3_join 69 = .ok (.iload 4, 2) := by decide +kernel
theorem dX3_join_71 : decode cX3_join 71 = .ok (.aload_n 0, 1) := by decide +kernel
theorem dX3_join_72 : decode cX3_join 72 = .ok (.getfield 93, 3) := by decide +kernel
theorem dX3_join_75 : decode cX3_join 75 = .ok (.invokevirtual 100, 3) := by decide +kernel
theorem dX3_join_78 : decode cX3_join 78 = .ok (.aload_n 0, 1) := by decide +kernel
theorem dX3_join_79 : decode cX3_join 79 = .ok (.dup, 1) := by decide +kernel
theorem dX3_join_80 : decode cX3_join 80 = .ok (.getfield 93, 3) := by decide +kernel
theorem dX3_join_83 : decode cX3_join 83 = .ok (.iconst 1, 1) := by decide +kernel
theorem dX3_join_84 : decode cX3_join 84 = .ok (.iadd, 1) := by decide +kernel
theorem dX3_join_85 : decode cX3_join 85 = .ok (.putfield 93, 3) := by decide +kernel
theorem dX3_join_88 : decode cX3_join 88 = .ok (.return_, 1) := by decide +kernel
theorem dX3_thrown_0 : decode cX3_thrown 0 = .ok (.aload_n 0, 1) := by decide +kernel
theorem dX3_thrown_1 : decode cX3_thrown 1 = .ok (.getfield 103, 3) := by decide +kernel
theorem dX3_thrown_4 : decode cX3_thrown 4 = .ok (.ireturn, 1) := by decide +kernel
theorem dX3_fail_0 : decode cX3_fail 0 = .ok (.aload_n 0, 1) := by decide +kernel
theorem dX3_fail_1 : decode cX3_fail 1 = .ok (.iload_n 1, 1) := by decide +kernel
theorem dX3_fail_2 : decode cX3_fail 2 = .ok (.putfield 103, 3) := by decide +kernel
theorem dX3_fail_5 : decode cX3_fail 5 = .ok (.iconst 0, 1) := by decide +kernel
theorem dX3_fail_6 : decode cX3_fail 6 = .ok (.ireturn, 1) := by decide +kernel
theorem dX3_isIn_0 : decode cX3_isIn 0 = .ok (.iload_n 0, 1) := by decide +kernel
theorem dX3_isIn_1 : decode cX3_isIn 1 = .ok (.bipush 30, 2) := by decide +kernel
theorem dX3_isIn_3 : decode cX3_isIn 3 = .ok (.iload_n 1, 1) := by decide +kernel
theorem dX3_isIn_4 : decode cX3_isIn 4 = .ok (.isub, 1) := by decide +kernel
theorem dX3_isIn_5 : decode cX3_isIn 5 = .ok (.ishr, 1) := by decide +kernel
theorem dX3_isIn_6 : decode cX3_isIn 6 = .ok (.iconst 1, 1) := by decide +kernel
theorem dX3_isIn_7 : decode cX3_isIn 7 = .ok (.iand, 1) := by decide +kernel
theorem dX3_isIn_8 : decode cX3_isIn 8 = .ok (.iconst 1, 1) := by decide +kernel
theorem dX3_isIn_9 : decode cX3_isIn 9 = .ok (.if_icmp .ne 7, 3) := by decide +kernel
theorem dX3_isIn_12 : decode cX3_isIn 12 = .ok (.iconst 1, 1) := by decide +kernel
theorem dX3_isIn_13 : decode cX3_isIn 13 = .ok (.goto 4, 3) := by decide +kernel
theorem dX3_isIn_16 : decode cX3_isIn 16 = .ok (.iconst 0, 1) := by decide +kernel
theorem dX3_isIn_17 : decode cX3_isIn 17 = .ok (.ireturn, 1) := by decide +kernel
theorem dX3_bit_0 : decode cX3_bit 0 = .ok (.iconst 1, 1) := by decide +kernel
theorem dX3_bit_1 : decode cX3_bit 1 = .ok (.bipush 30, 2) := by decide +kernel
theorem dX3_bit_3 : decode cX3_bit 3 = .ok (.iload_n 0, 1) := by decide +kernel
theorem dX3_bit_4 : decode cX3_bit 4 = .ok (.isub, 1) := by decide +kernel
theorem dX3_bit_5 : decode cX3_bit 5 = .ok (.ishl, 1) := by decide +kernel
theorem dX3_bit_6 : decode cX3_bit 6 = .ok (.ireturn, 1) := by decide +kernel
theorem dX3_size_0 : decode cX3_size 0 = .ok (.iconst 0, 1) := by decide +kernel
theorem dX3_size_1 : decode cX3_size 1 = .ok (.istore_n 2, 1) := by decide +kernel
theorem dX3_size_2 : decode cX3_size 2 = .ok (.iconst 0, 1) := by decide +kernel
theorem dX3_size_3 : decode cX3_size 3 = .ok (.istore_n 3, 1) := by decide +kernel
theorem dX3_size_4 : decode cX3_size 4 = .ok (.iload_n 3, 1) := by decide +kernel
theorem dX3_size_5 : decode cX3_size 5 = .ok (.aload_n 0, 1) := by decide +kernel
theorem dX3_size_6 : decode cX3_size 6 = .ok (.getfield 93, 3) := by decide +kernel
theorem dX3_size_9 : decode cX3_size 9 = .ok (.if_icmp .ge 25, 3) := by decide +kernel
theorem dX3_size_12 : decode cX3_size 12 = .ok (.iload_n 1, 1) := by decide +kernel
theorem dX3_size_13 : decode cX3_size 13 = .ok (.iload_n 3, 1) := by decide +kernel
theorem dX3_size_14 : decode cX3_size 14 = .ok (.invokestatic 106, 3) := by decide +kernel
theorem dX3_size_17 : decode cX3_size 17 = .ok (.ifCond .eq 9, 3) := by decide +kernel
theorem dX3_size_20 : decode cX3_size 20 = .ok (.iload_n 2, 1) := by decide +kernel
theorem dX3_size_21 : decode cX3_size 21 = .ok (.iconst 1, 1) := by decide +kernel
theorem dX3_size_22 : decode cX3_size 22 = .ok (.iadd, 1) := by decide +kernel
theorem dX3_size_23 : decode cX3_size 23 = .ok (.goto 4, 3) := by decide +kernel
theorem dX3_size_26 : decode cX3_size 26 = .ok (.iload_n 2, 1) := by decide +kernel
theorem dX3_size_27 : decode cX3_size 27 = .ok (.istore_n 2, 1) := by decide +kernel
theorem dX3_size_28 : decode cX3_size 28 = .ok (.iinc 3 1, 3) := by decide +kernel
theorem dX3_size_31 : decode cX3_size 31 = .ok (.goto (-27), 3) := by decide +kernel
theorem dX3_size_34 : decode cX3_size 34 = .ok (.iload_n 2, 1) := by decide +kernel
theorem dX3_size_35 : decode cX3_size 35 = .ok (.ireturn, 1) := by decide +kernel
theorem dX3_measure_0 : decode cX3_measure 0 = .ok (.iconst 0, 1) := by decide +kernel
theorem dX3_measure_1 : decode cX3_measure 1 = .ok (.istore_n 2, 1) := by decide +kernel
theorem dX3_measure_2 : decode cX3_measure 2 = .ok (.iload_n 2, 1) := by decide +kernel
theorem dX3_measure_3 : decode cX3_measure 3 = .ok (.aload_n 0, 1) := by decide +kernel
theorem dX3_measure_4 : decode cX3_measure 4 = .ok (.getfield 79, 3) := by decide +kernel
theorem dX3_measure_7 : decode cX3_measure 7 = .ok (.if_icmp .ge 23, 3) := by decide +kernel
theorem dX3_measure_10 : decode cX3_measure 10 = .ok (.aload_n 0, 1) := by decide +kernel
theorem dX3_measure_11 : decode cX3_measure 11 = .ok (.getfield 65, 3) := by decide +kernel
theorem dX3_measure_14 : decode cX3_measure 14 = .ok (.iload_n 2, 1) := by decide +kernel
theorem dX3_measure_15 : decode cX3_measure 15 = .ok (.iconst 0, 1) := by decide +kernel
theorem dX3_measure_16 : decode cX3_measure 16 = .ok (.iastore, 1) := by decide +kernel
theorem dX3_measure_17 : decode cX3_measure 17 = .ok (.aload_n 0, 1) := by decide +kernel
theorem dX3_measure_18 : decode cX3_measure 18 = .ok (.getfield 68, 3) := by decide +kernel
theorem dX3_measure_21 : decode cX3_measure 21 = .ok (.iload_n 2, 1) := by decide +kernel
theorem dX3_measure_22 : decode cX3_measure 22 = .ok (.iconst 0, 1) := by decide +kernel
theorem dX3_measure_23 : decode cX3_measure 23 = .ok (.bastore, 1) := by decide +kernel
theorem dX3_measure_24 : decode cX3_measure 24 = .ok (.iinc 2 1, 3) := by decide +kernel
theorem dX3_measure_27 : decode cX3_measure 27 = .ok (.goto (-25), 3) := by decide +kernel
theorem dX3_measure_30 : decode cX3_measure 30 = .ok (.iconst 0, 1) := by decide +kernel
theorem dX3_measure_31 : decode cX3_measure 31 = .ok (.istore_n 2, 1) := by decide +kernel
theorem dX3_measure_32 : decode cX3_measure 32 = .ok (.iload_n 2, 1) := by decide +kernel
theorem dX3_measure_33 : decode cX3_measure 33 = .ok (.aload_n 0, 1) := by decide +kernel
theorem dX3_measure_34 : decode cX3_measure 34 = .ok (.getfield 93, 3) := by decide +kernel
theorem dX3_measure_37 : decode cX3_measure 37 = .ok (.if_icmp .ge 47, 3) := by decide +kernel
theorem dX3_measure_40 : decode cX3_measure 40 = .ok (.iload_n 1, 1) := by decide +kernel
theorem dX3_measure_41 : decode cX3_measure 41 = .ok (.iload_n 2, 1) := by decide +kernel
theorem dX3_measure_42 : decode cX3_measure 42 = .ok (.invokestatic 106, 3) := by decide +kernel
theorem dX3_measure_45 : decode cX3_measure 45 = .ok (.ifCond .eq 33, 3) := by decide +kernel
theorem dX3_measure_48 : decode cX3_measure 48 = .ok (.aload_n 0, 1) := by decide +kernel
theorem dX3_measure_49 : decode cX3_measure 49 = .ok (.getfield 65, 3) := by decide +kernel
theorem dX3_measure_52 : decode cX3_measure 52 = .ok (.aload_n 0, 1) := by decide +kernel
theorem dX3_measure_53 : decode cX3_measure 53 = .ok (.getfield 7, 3) := by decide +kernel
theorem dX3_measure_56 : decode cX3_measure 56 = .ok (.iload_n 2, 1) := by decide +kernel
theorem dX3_measure_57 : decode cX3_measure 57 = .ok (.iaload, 1) := by decide +kernel
theorem dX3_measure_58 : decode cX3_measure 58 = .ok (.dup2, 1) := by decide +kernel
theorem dX3_measure_59 : decode cX3_measure 59 = .ok (.iaload, 1) := by decide +kernel
theorem dX3_measure_60 : decode cX3_measure 60 = .ok (.iconst 1, 1) := by decide +kernel
theorem dX3_measure_61 : decode cX3_measure 61 = .ok (.iadd, 1) := by decide +kernel
theorem dX3_measure_62 : decode cX3_measure 62 = .ok (.iastore, 1) := by decide +kernel
theorem dX3_measure_63 : decode cX3_measure 63 = .ok (.aload_n 0, 1) := by decide +kernel
theorem dX3_measure_64 : decode cX3_measure 64 = .ok (.getfield 65, 3) := by decide +kernel
theorem dX3_measure_67 : decode cX3_measure 67 = .ok (.aload_n 0, 1) := by decide +kernel
theorem dX3_measure_68 : decode cX3_measure 68 = .ok (.getfield 13, 3) := by decide +kernel
theorem dX3_measure_71 : decode cX3_measure 71 = .ok (.iload_n 2, 1) := by decide +kernel
theorem dX3_measure_72 : decode cX3_measure 72 = .ok (.iaload, 1) := by decide +kernel
theorem dX3_measure_73 : decode cX3_measure 73 = .ok (.dup2, 1) := by decide +kernel
theorem dX3_measure_74 : decode cX3_measure 74 = .ok (.iaload, 1) := by decide +kernel
theorem dX3_measure_75 : decode cX3_measure 75 = .ok (.iconst 1, 1) := by decide +kernel
theorem dX3_measure_76 : decode cX3_measure 76 = .ok (.iadd, 1) := by decide +kernel
theorem dX3_measure_77 : decode cX3_measure 77 = .ok (.iastore, 1) := by decide +kernel
theorem dX3_measure_78 : decode cX3_measure 78 = .ok (.iinc 2 1, 3) := by decide +kernel
theorem dX3_measure_81 : decode cX3_measure 81 = .ok (.goto (-49), 3) := by decide +kernel
theorem dX3_measure_84 : decode cX3_measure 84 = .ok (.return_, 1) := by decide +kernel
theorem dX3_onward_0 : decode cX3_onward 0 = .ok (.iconst 4, 1) := by decide +kernel
theorem dX3_onward_1 : decode cX3_onward 1 = .ok (.iload_n 2, 1) := by decide +kernel
theorem dX3_onward_2 : decode cX3_onward 2 = .ok (.imul, 1) := by decide +kernel
theorem dX3_onward_3 : decode cX3_onward 3 = .ok (.istore 4, 2) := by decide +kernel
theorem dX3_onward_5 : decode cX3_onward 5 = .ok (.iload 4, 2) := by decide +kernel
theorem dX3_onward_7 : decode cX3_onward 7 = .ok (.iconst 4, 1) := by decide +kernel
theorem dX3_onward_8 : decode cX3_onward 8 = .ok (.iload_n 2, 1) := by decide +kernel
theorem dX3_onward_9 : decode cX3_onward 9 = .ok (.imul, 1) := by decide +kernel
theorem dX3_onward_10 : decode cX3_onward 10 = .ok (.iconst 4, 1) := by decide +kernel
theorem dX3_onward_11 : decode cX3_onward 11 = .ok (.iadd, 1) := by decide +kernel
theorem dX3_onward_12 : decode cX3_onward 12 = .ok (.if_icmp .ge 52, 3) := by decide +kernel
theorem dX3_onward_15 : decode cX3_onward 15 = .ok (.aload_n 0, 1) := by decide +kernel
theorem dX3_onward_16 : decode cX3_onward 16 = .ok (.getfield 22, 3) := by decide +kernel
theorem dX3_onward_19 : decode cX3_onward 19 = .ok (.iload 4, 2) := by decide +kernel
theorem dX3_onward_21 : decode cX3_onward 21 = .ok (.iaload, 1) := by decide +kernel
theorem dX3_onward_22 : decode cX3_onward 22 = .ok (.ifCond .lt 36, 3) := by decide +kernel
theorem dX3_onward_25 : decode cX3_onward 25 = .ok (.aload_n 0, 1) := by decide +kernel
theorem dX3_onward_26 : decode cX3_onward 26 = .ok (.getfield 22, 3) := by decide +kernel
theorem dX3_onward_29 : decode cX3_onward 29 = .ok (.iload 4, 2) := by decide +kernel
theorem dX3_onward_31 : decode cX3_onward 31 = .ok (.iaload, 1) := by decide +kernel
theorem dX3_onward_32 : decode cX3_onward 32 = .ok (.iload_n 3, 1) := by decide +kernel
theorem dX3_onward_33 : decode cX3_onward 33 = .ok (.if_icmp .eq 25, 3) := by decide +kernel
theorem dX3_onward_36 : decode cX3_onward 36 = .ok (.iload_n 1, 1) := by decide +kernel
theorem dX3_onward_37 : decode cX3_onward 37 = .ok (.aload_n 0, 1) := by decide +kernel
theorem dX3_onward_38 : decode cX3_onward 38 = .ok (.getfield 22, 3) := by decide +kernel
theorem dX3_onward_41 : decode cX3_onward 41 = .ok (.iload 4, 2) := by decide +kernel
theorem dX3_onward_43 : decode cX3_onward 43 = .ok (.iaload, 1) := by decide +kernel
theorem dX3_onward_44 : decode cX3_onward 44 = .ok (.invokestatic 106, 3) := by decide +kernel
theorem dX3_onward_47 : decode cX3_onward 47 = .ok (.ifCond .eq 11, 3) := by decide +kernel
theorem dX3_onward_50 : decode cX3_onward 50 = .ok (.aload_n 0, 1) := by decide +kernel
theorem dX3_onward_51 : decode cX3_onward 51 = .ok (.getfield 22, 3) := by decide +kernel
theorem dX3_onward_54 : decode cX3_onward 54 = .ok (.iload 4, 2) := by decide +kernel
theorem dX3_onward_56 : decode cX3_onward 56 = .ok (.iaload, 1) := by decide +kernel
theorem dX3_onward_57 : decode cX3_onward 57 = .ok (.ireturn, 1) := by decide +kernel
theorem dX3_onward_58 : decode cX3_onward 58 = .ok (.iinc 4 1, 3) := by decide +kernel
theorem dX3_onward_61 : decode cX3_onward 61 = .ok (.goto (-56), 3) := by decide +kernel
theorem dX3_onward_64 : decode cX3_onward 64 = .ok (.iconst (-1), 1) := by decide +kernel
theorem dX3_onward_65 : decode cX3_onward 65 = .ok (.ireturn, 1) := by decide +kernel
theorem dX3_walk_0 : decode cX3_walk 0 = .ok (.iload_n 2, 1) := by decide +kernel
theorem dX3_walk_1 : decode cX3_walk 1 = .ok (.istore_n 3, 1) := by decide +kernel
theorem dX3_walk_2 : decode cX3_walk 2 = .ok (.iconst (-1), 1) := by decide +kernel
theorem dX3_walk_3 : decode cX3_walk 3 = .ok (.istore 4, 2) := by decide +kernel
theorem dX3_walk_5 : decode cX3_walk 5 = .ok (.aload_n 0, 1) := by decide +kernel
theorem dX3_walk_6 : decode cX3_walk 6 = .ok (.getfield 68, 3) := by decide +kernel
theorem dX3_walk_9 : decode cX3_walk 9 = .ok (.iload_n 3, 1) := by decide +kernel
theorem dX3_walk_10 : decode cX3_walk 10 = .ok (.iconst 1, 1) := by decide +kernel
theorem dX3_walk_11 : decode cX3_walk 11 = .ok (.bastore, 1) := by decide +kernel
theorem dX3_walk_12 : decode cX3_walk 12 = .ok (.aload_n 0, 1) := by decide +kernel
theorem dX3_walk_13 : decode cX3_walk 13 = .ok (.iload_n 1, 1) := by decide +kernel
theorem dX3_walk_14 : decode cX3_walk 14 = .ok (.iload_n 3, 1) := by decide +kernel
theorem dX3_walk_15 : decode cX3_walk 15 = .ok (.iload 4, 2) := by decide +kernel
theorem dX3_walk_17 : decode cX3_walk 17 = .ok (.invokevirtual 110, 3) := by decide +kernel
theorem dX3_walk_20 : decode cX3_walk 20 = .ok (.istore 5, 2) := by decide +kernel
theorem dX3_walk_22 : decode cX3_walk 22 = .ok (.iload 5, 2) := by decide +kernel
theorem dX3_walk_24 : decode cX3_walk 24 = .ok (.ifCond .lt 67, 3) := by decide +kernel
theorem dX3_walk_27 : decode cX3_walk 27 = .ok (.aload_n 0, 1) := by decide +kernel
theorem dX3_walk_28 : decode cX3_walk 28 = .ok (.getfield 7, 3) := by decide +kernel
theorem dX3_walk_31 : decode cX3_walk 31 = .ok (.iload 5, 2) := by decide +kernel
theorem dX3_walk_33 : decode cX3_walk 33 = .ok (.iaload, 1) := by decide +kernel
theorem dX3_walk_34 : decode cX3_walk 34 = .ok (.iload_n 3, 1) := by decide +kernel
theorem dX3_walk_35 : decode cX3_walk 35 = .ok (.if_icmp .ne 13, 3) := by decide +kernel
theorem dX3_walk_38 : decode cX3_walk 38 = .ok (.aload_n 0, 1) := by decide +kernel
theorem dX3_walk_39 : decode cX3_walk 39 = .ok (.getfield 13, 3) := by decide +kernel
theorem dX3_walk_42 : decode cX3_walk 42 = .ok (.iload 5, 2) := by decide +kernel
theorem dX3_walk_44 : decode cX3_walk 44 = .ok (.iaload, 1) := by decide +kernel
theorem dX3_walk_45 : decode cX3_walk 45 = .ok (.goto 10, 3) := by decide +kernel
theorem dX3_walk_48 : decode cX3_walk 48 = .ok (.aload_n 0, 1) := by decide +kernel
theorem dX3_walk_49 : decode cX3_walk 49 = .ok (.getfield 7, 3) := by decide +kernel
theorem dX3_walk_52 : decode cX3_walk 52 = .ok (.iload 5, 2) := by decide +kernel
theorem dX3_walk_54 : decode cX3_walk 54 = .ok (.iaload, 1) := by decide +kernel
theorem dX3_walk_55 : decode cX3_walk 55 = .ok (.istore_n 3, 1) := by decide +kernel
theorem dX3_walk_56 : decode cX3_walk 56 = .ok (.iload 5, 2) := by decide +kernel
theorem dX3_walk_58 : decode cX3_walk 58 = .ok (.istore 4, 2) := by decide +kernel
theorem dX3_walk_60 : decode cX3_walk 60 = .ok (.aload_n 0, 1) := by decide +kernel
theorem dX3_walk_61 : decode cX3_walk 61 = .ok (.getfield 68, 3) := by decide +kernel
theorem dX3_walk_64 : decode cX3_walk 64 = .ok (.iload_n 3, 1) := by decide +kernel
theorem dX3_walk_65 : decode cX3_walk 65 = .ok (.baload, 1) := by decide +kernel
theorem dX3_walk_66 : decode cX3_walk 66 = .ok (.ifCond .eq 5, 3) := by decide +kernel
theorem dX3_walk_69 : decode cX3_walk 69 = .ok (.iload_n 3, 1) := by decide +kernel
theorem dX3_walk_70 : decode cX3_walk 70 = .ok (.ireturn, 1) := by decide +kernel
theorem dX3_walk_71 : decode cX3_walk 71 = .ok (.aload_n 0, 1) := by decide +kernel
theorem dX3_walk_72 : decode cX3_walk 72 = .ok (.getfield 68, 3) := by decide +kernel
theorem dX3_walk_75 : decode cX3_walk 75 = .ok (.iload_n 3, 1) := by decide +kernel
theorem dX3_walk_76 : decode cX3_walk 76 = .ok (.iconst 1, 1) := by decide +kernel
theorem dX3_walk_77 : decode cX3_walk 77 = .ok (.bastore, 1) := by decide +kernel
theorem dX3_walk_78 : decode cX3_walk 78 = .ok (.aload_n 0, 1) := by decide +kernel
theorem dX3_walk_79 : decode cX3_walk 79 = .ok (.iload_n 1, 1) := by decide +kernel
theorem dX3_walk_80 : decode cX3_walk 80 = .ok (.iload_n 3, 1) := by decide +kernel
theorem dX3_walk_81 : decode cX3_walk 81 = .ok (.iload 4, 2) := by decide +kernel
theorem dX3_walk_83 : decode cX3_walk 83 = .ok (.invokevirtual 110, 3) := by decide +kernel
theorem dX3_walk_86 : decode cX3_walk 86 = .ok (.istore 5, 2) := by decide +kernel
theorem dX3_walk_88 : decode cX3_walk 88 = .ok (.goto (-66), 3) := by decide +kernel
theorem dX3_walk_91 : decode cX3_walk 91 = .ok (.iload_n 3, 1) := by decide +kernel
theorem dX3_walk_92 : decode cX3_walk 92 = .ok (.ireturn, 1) := by decide +kernel
theorem dX3_isThin_0 : decode cX3_isThin 0 = .ok (.iconst 1, 1) := by decide +kernel
theorem dX3_isThin_1 : decode cX3_isThin 1 = .ok (.istore_n 1, 1) := by decide +kernel
theorem dX3_isThin_2 : decode cX3_isThin 2 = .ok (.iconst 0, 1) := by decide +kernel
theorem dX3_isThin_3 : decode cX3_isThin 3 = .ok (.istore_n 2, 1) := by decide +kernel
theorem dX3_isThin_4 : decode cX3_isThin 4 = .ok (.iload_n 2, 1) := by decide +kernel
theorem dX3_isThin_5 : decode cX3_isThin 5 = .ok (.aload_n 0, 1) := by decide +kernel
theorem dX3_isThin_6 : decode cX3_isThin 6 = .ok (.getfield 79, 3) := by decide +kernel
theorem dX3_isThin_9 : decode cX3_isThin 9 = .ok (.if_icmp .ge 29, 3) := by decide +kernel
theorem dX3_isThin_12 : decode cX3_isThin 12 = .ok (.iload_n 1, 1) := by decide +kernel
theorem dX3_isThin_13 : decode cX3_isThin 13 = .ok (.ifCond .eq 17, 3) := by decide +kernel
theorem dX3_isThin_16 : decode cX3_isThin 16 = .ok (.aload_n 0, 1) := by decide +kernel
theorem dX3_isThin_17 : decode cX3_isThin 17 = .ok (.getfield 65, 3) := by decide +kernel
theorem dX3_isThin_20 : decode cX3_isThin 20 = .ok (.iload_n 2, 1) := by decide +kernel
theorem dX3_isThin_21 : decode cX3_isThin 21 = .ok (.iaload, 1) := by decide +kernel
theorem dX3_isThin_22 : decode cX3_isThin 22 = .ok (.iconst 3, 1) := by decide +kernel
theorem dX3_isThin_23 : decode cX3_isThin 23 = .ok (.if_icmp .ge 7, 3) := by decide +kernel
theorem dX3_isThin_26 : decode cX3_isThin 26 = .ok (.iconst 1, 1) := by decide +kernel
theorem dX3_isThin_27 : decode cX3_isThin 27 = .ok (.goto 4, 3) := by decide +kernel
theorem dX3_isThin_30 : decode cX3_isThin 30 = .ok (.iconst 0, 1) := by decide +kernel
theorem dX3_isThin_31 : decode cX3_isThin 31 = .ok (.istore_n 1, 1) := by decide +kernel
theorem dX3_isThin_32 : decode cX3_isThin 32 = .ok (.iinc 2 1, 3) := by decide +kernel
theorem dX3_isThin_35 : decode cX3_isThin 35 = .ok (.goto (-31), 3) := by decide +kernel
theorem dX3_isThin_38 : decode cX3_isThin 38 = .ok (.iload_n 1, 1) := by decide +kernel
theorem dX3_isThin_39 : decode cX3_isThin 39 = .ok (.ireturn, 1) := by decide +kernel
theorem dX3_unseen_0 : decode cX3_unseen 0 = .ok (.iconst 0, 1) := by decide +kernel
theorem dX3_unseen_1 : decode cX3_unseen 1 = .ok (.istore_n 1, 1) := by decide +kernel
theorem dX3_unseen_2 : decode cX3_unseen 2 = .ok (.iload_n 1, 1) := by decide +kernel
theorem dX3_unseen_3 : decode cX3_unseen 3 = .ok (.aload_n 0, 1) := by decide +kernel
theorem dX3_unseen_4 : decode cX3_unseen 4 = .ok (.getfield 79, 3) := by decide +kernel
theorem dX3_unseen_7 : decode cX3_unseen 7 = .ok (.if_icmp .ge 29, 3) := by decide +kernel
theorem dX3_unseen_10 : decode cX3_unseen 10 = .ok (.aload_n 0, 1) := by decide +kernel
theorem dX3_unseen_11 : decode cX3_unseen 11 = .ok (.getfield 65, 3) := by decide +kernel
theorem dX3_unseen_14 : decode cX3_unseen 14 = .ok (.iload_n 1, 1) := by decide +kernel
theorem dX3_unseen_15 : decode cX3_unseen 15 = .ok (.iaload, 1) := by decide +kernel
theorem dX3_unseen_16 : decode cX3_unseen 16 = .ok (.ifCond .le 14, 3) := by decide +kernel
theorem dX3_unseen_19 : decode cX3_unseen 19 = .ok (.aload_n 0, 1) := by decide +kernel
theorem dX3_unseen_20 : decode cX3_unseen 20 = .ok (.getfield 68, 3) := by decide +kernel
theorem dX3_unseen_23 : decode cX3_unseen 23 = .ok (.iload_n 1, 1) := by decide +kernel
theorem dX3_unseen_24 : decode cX3_unseen 24 = .ok (.baload, 1) := by decide +kernel
theorem dX3_unseen_25 : decode cX3_unseen 25 = .ok (.ifCond .ne 5, 3) := by decide +kernel
theorem dX3_unseen_28 : decode cX3_unseen 28 = .ok (.iload_n 1, 1) := by decide +kernel
theorem dX3_unseen_29 : decode cX3_unseen 29 = .ok (.ireturn, 1) := by decide +kernel
theorem dX3_unseen_30 : decode cX3_unseen 30 = .ok (.iinc 1 1, 3) := by decide +kernel
theorem dX3_unseen_33 : decode cX3_unseen 33 = .ok (.goto (-31), 3) := by decide +kernel
theorem dX3_unseen_36 : decode cX3_unseen 36 = .ok (.iconst (-1), 1) := by decide +kernel
theorem dX3_unseen_37 : decode cX3_unseen 37 = .ok (.ireturn, 1) := by decide +kernel
theorem dX3_hasEnds_0 : decode cX3_hasEnds 0 = .ok (.iconst 0, 1) := by decide +kernel
theorem dX3_hasEnds_1 : decode cX3_hasEnds 1 = .ok (.istore_n 1, 1) := by decide +kernel
theorem dX3_hasEnds_2 : decode cX3_hasEnds 2 = .ok (.iconst 0, 1) := by decide +kernel
theorem dX3_hasEnds_3 : decode cX3_hasEnds 3 = .ok (.istore_n 2, 1) := by decide +kernel
theorem dX3_hasEnds_4 : decode cX3_hasEnds 4 = .ok (.iload_n 2, 1) := by decide +kernel
theorem dX3_hasEnds_5 : decode cX3_hasEnds 5 = .ok (.aload_n 0, 1) := by decide +kernel
theorem dX3_hasEnds_6 : decode cX3_hasEnds 6 = .ok (.getfield 79, 3) := by decide +kernel
theorem dX3_hasEnds_9 : decode cX3_hasEnds 9 = .ok (.if_icmp .ge 29, 3) := by decide +kernel
theorem dX3_hasEnds_12 : decode cX3_hasEnds 12 = .ok (.iload_n 1, 1) := by decide +kernel
theorem dX3_hasEnds_13 : decode cX3_hasEnds 13 = .ok (.ifCond .ne 13, 3) := by decide +kernel
theorem dX3_hasEnds_16 : decode cX3_hasEnds 16 = .ok (.aload_n 0, 1) := by decide +kernel
theorem dX3_hasEnds_17 : decode cX3_hasEnds 17 = .ok (.getfield 65, 3) := by decide +kernel
theorem dX3_hasEnds_20 : decode cX3_hasEnds 20 = .ok (.iload_n 2, 1) := by decide +kernel
theorem dX3_hasEnds_21 : decode cX3_hasEnds 21 = .ok (.iaload, 1) := by decide +kernel
theorem dX3_hasEnds_22 : decode cX3_hasEnds 22 = .ok (.iconst 1, 1) := by decide +kernel
theorem dX3_hasEnds_23 : decode cX3_hasEnds 23 = .ok (.if_icmp .ne 7, 3) := by decide +kernel
theorem dX3_hasEnds_26 : decode cX3_hasEnds 26 = .ok (.iconst 1, 1) := by decide +kernel
theorem dX3_hasEnds_27 : decode cX3_hasEnds 27 = .ok (.goto 4, 3) := by decide +kernel
theorem dX3_hasEnds_30 : decode cX3_hasEnds 30 = .ok (.iconst 0, 1) := by decide +kernel
theorem dX3_hasEnds_31 : decode cX3_hasEnds 31 = .ok (.istore_n 1, 1) := by decide +kernel
theorem dX3_hasEnds_32 : decode cX3_hasEnds 32 = .ok (.iinc 2 1, 3) := by decide +kernel
theorem dX3_hasEnds_35 : decode cX3_hasEnds 35 = .ok (.goto (-31), 3) := by decide +kernel
theorem dX3_hasEnds_38 : decode cX3_hasEnds 38 = .ok (.iload_n 1, 1) := by decide +kernel
theorem dX3_hasEnds_39 : decode cX3_hasEnds 39 = .ok (.ireturn, 1) := by decide +kernel
theorem dX3_isRing_0 : decode cX3_isRing 0 = .ok (.aload_n 0, 1) := by decide +kernel
theorem dX3_isRing_1 : decode cX3_isRing 1 = .ok (.invokevirtual 114, 3) := by decide +kernel
theorem dX3_isRing_4 : decode cX3_isRing 4 = .ok (.istore_n 2, 1) := by decide +kernel
theorem dX3_isRing_5 : decode cX3_isRing 5 = .ok (.iload_n 2, 1) := by decide +kernel
theorem dX3_isRing_6 : decode cX3_isRing 6 = .ok (.ifCond .lt 17, 3) := by decide +kernel
theorem dX3_isRing_9 : decode cX3_isRing 9 = .ok (.aload_n 0, 1) := by decide +kernel
theorem dX3_isRing_10 : decode cX3_isRing 10 = .ok (.invokevirtual 118, 3) := by decide +kernel
theorem dX3_isRing_13 : decode cX3_isRing 13 = .ok (.ifCond .eq 10, 3) := by decide +kernel
theorem dX3_isRing_16 : decode cX3_isRing 16 = .ok (.aload_n 0, 1) := by decide +kernel
theorem dX3_isRing_17 : decode cX3_isRing 17 = .ok (.invokevirtual 122, 3) := by decide +kernel
theorem dX3_isRing_20 : decode cX3_isRing 20 = .ok (.ifCond .eq 5, 3) := by decide +kernel
theorem dX3_isRing_23 : decode cX3_isRing 23 = .ok (.iconst 0, 1) := by decide +kernel
theorem dX3_isRing_24 : decode cX3_isRing 24 = .ok (.ireturn, 1) := by decide +kernel
theorem dX3_isRing_25 : decode cX3_isRing 25 = .ok (.aload_n 0, 1) := by decide +kernel
theorem dX3_isRing_26 : decode cX3_isRing 26 = .ok (.iload_n 1, 1) := by decide +kernel
theorem dX3_isRing_27 : decode cX3_isRing 27 = .ok (.iload_n 2, 1) := by decide +kernel
theorem dX3_isRing_28 : decode cX3_isRing 28 = .ok (.invokevirtual 125, 3) := by decide +kernel
theorem dX3_isRing_31 : decode cX3_isRing 31 = .ok (.pop, 1) := by decide +kernel
theorem dX3_isRing_32 : decode cX3_isRing 32 = .ok (.aload_n 0, 1) := by decide +kernel
theorem dX3_isRing_33 : decode cX3_isRing 33 = .ok (.invokevirtual 114, 3) := by decide +kernel
theorem dX3_isRing_36 : decode cX3_isRing 36 = .ok (.ifCond .ge 7, 3) := by decide +kernel
theorem dX3_isRing_39 : decode cX3_isRing 39 = .ok (.iconst 1, 1) := by decide +kernel
theorem dX3_isRing_40 : decode cX3_isRing 40 = .ok (.goto 4, 3) := by decide +kernel
theorem dX3_isRing_43 : decode cX3_isRing 43 = .ok (.iconst 0, 1) := by decide +kernel
theorem dX3_isRing_44 : decode cX3_isRing 44 = .ok (.ireturn, 1) := by decide +kernel
theorem dX3_isLoopSet_0 : decode cX3_isLoopSet 0 = .ok (.aload_n 0, 1) := by decide +kernel
theorem dX3_isLoopSet_1 : decode cX3_isLoopSet 1 = .ok (.iload_n 1, 1) := by decide +kernel
theorem dX3_isLoopSet_2 : decode cX3_isLoopSet 2 = .ok (.invokevirtual 128, 3) := by decide +kernel
theorem dX3_isLoopSet_5 : decode cX3_isLoopSet 5 = .ok (.aload_n 0, 1) := by decide +kernel
theorem dX3_isLoopSet_6 : decode cX3_isLoopSet 6 = .ok (.iload_n 1, 1) := by decide +kernel
theorem dX3_isLoopSet_7 : decode cX3_isLoopSet 7 = .ok (.invokevirtual 132, 3) := by decide +kernel
theorem dX3_isLoopSet_10 : decode cX3_isLoopSet 10 = .ok (.ireturn, 1) := by decide +kernel
theorem dX3_borderOf_0 : decode cX3_borderOf 0 = .ok (.iconst 0, 1) := by decide +kernel
theorem dX3_borderOf_1 : decode cX3_borderOf 1 = .ok (.istore_n 2, 1) := by decide +kernel
theorem dX3_borderOf_2 : decode cX3_borderOf 2 = .ok (.iconst 0, 1) := by decide +kernel
theorem dX3_borderOf_3 : decode cX3_borderOf 3 = .ok (.istore_n 3, 1) := by decide +kernel
theorem dX3_borderOf_4 : decode cX3_borderOf 4 = .ok (.iload_n 3, 1) := by decide +kernel
theorem dX3_borderOf_5 : decode cX3_borderOf 5 = .ok (.aload_n 0, 1) := by decide +kernel
theorem dX3_borderOf_6 : decode cX3_borderOf 6 = .ok (.getfield 93, 3) := by decide +kernel
theorem dX3_borderOf_9 : decode cX3_borderOf 9 = .ok (.if_icmp .ge 77, 3) := by decide +kernel
theorem dX3_borderOf_12 : decode cX3_borderOf 12 = .ok (.aload_n 0, 1) := by decide +kernel
theorem dX3_borderOf_13 : decode cX3_borderOf 13 = .ok (.getfield 16, 3) := by decide +kernel
theorem dX3_borderOf_16 : decode cX3_borderOf 16 = .ok (.iload_n 3, 1) := by decide +kernel
theorem dX3_borderOf_17 : decode cX3_borderOf 17 = .ok (.iaload, 1) := by decide +kernel
theorem dX3_borderOf_18 : decode cX3_borderOf 18 = .ok (.ifCond .ge 7, 3) := by decide +kernel
theorem dX3_borderOf_21 : decode cX3_borderOf 21 = .ok (.iconst 0, 1) := by decide +kernel
theorem dX3_borderOf_22 : decode cX3_borderOf 22 = .ok (.goto 13, 3) := by decide +kernel
theorem dX3_borderOf_25 : decode cX3_borderOf 25 = .ok (.iload_n 1, 1) := by decide +kernel
theorem dX3_borderOf_26 : decode cX3_borderOf 26 = .ok (.aload_n 0, 1) := by decide +kernel
theorem dX3_borderOf_27 : decode cX3_borderOf 27 = .ok (.getfield 16, 3) := by decide +kernel
theorem dX3_borderOf_30 : decode cX3_borderOf 30 = .ok (.iload_n 3, 1) := by decide +kernel
theorem dX3_borderOf_31 : decode cX3_borderOf 31 = .ok (.iaload, 1) := by decide +kernel
theorem dX3_borderOf_32 : decode cX3_borderOf 32 = .ok (.ishr, 1) := by decide +kernel
theorem dX3_borderOf_33 : decode cX3_borderOf 33 = .ok (.iconst 1, 1) := by decide +kernel
theorem dX3_borderOf_34 : decode cX3_borderOf 34 = .ok (.iand, 1) := by decide +kernel
theorem dX3_borderOf_35 : decode cX3_borderOf 35 = .ok (.istore 4, 2) := by decide +kernel
theorem dX3_borderOf_37 : decode cX3_borderOf 37 = .ok (.aload_n 0, 1) := by decide +kernel
theorem dX3_borderOf_38 : decode cX3_borderOf 38 = .ok (.getfield 19, 3) := by decide +kernel
theorem dX3_borderOf_41 : decode cX3_borderOf 41 = .ok (.iload_n 3, 1) := by decide +kernel
theorem dX3_borderOf_42 : decode cX3_borderOf 42 = .ok (.iaload, 1) := by decide +kernel
theorem dX3_borderOf_43 : decode cX3_borderOf 43 = .ok (.ifCond .ge 7, 3) := by decide +kernel
theorem dX3_borderOf_46 : decode cX3_borderOf 46 = .ok (.iconst 0, 1) := by decide +kernel
theorem dX3_borderOf_47 : decode cX3_borderOf 47 = .ok (.goto 13, 3) := by decide +kernel
theorem dX3_borderOf_50 : decode cX3_borderOf 50 = .ok (.iload_n 1, 1) := by decide +kernel
theorem dX3_borderOf_51 : decode cX3_borderOf 51 = .ok (.aload_n 0, 1) := by decide +kernel
theorem dX3_borderOf_52 : decode cX3_borderOf 52 = .ok (.getfield 19, 3) := by decide +kernel
theorem dX3_borderOf_55 : decode cX3_borderOf 55 = .ok (.iload_n 3, 1) := by decide +kernel
theorem dX3_borderOf_56 : decode cX3_borderOf 56 = .ok (.iaload, 1) := by decide +kernel
theorem dX3_borderOf_57 : decode cX3_borderOf 57 = .ok (.ishr, 1) := by decide +kernel
theorem dX3_borderOf_58 : decode cX3_borderOf 58 = .ok (.iconst 1, 1) := by decide +kernel
theorem dX3_borderOf_59 : decode cX3_borderOf 59 = .ok (.iand, 1) := by decide +kernel
theorem dX3_borderOf_60 : decode cX3_borderOf 60 = .ok (.istore 5, 2) := by decide +kernel
theorem dX3_borderOf_62 : decode cX3_borderOf 62 = .ok (.iload 4, 2) := by decide +kernel
theorem dX3_borderOf_64 : decode cX3_borderOf 64 = .ok (.iload 5, 2) := by decide +kernel
theorem dX3_borderOf_66 : decode cX3_borderOf 66 = .ok (.if_icmp .eq 12, 3) := by decide +kernel
theorem dX3_borderOf_69 : decode cX3_borderOf 69 = .ok (.iload_n 2, 1) := by decide +kernel
theorem dX3_borderOf_70 : decode cX3_borderOf 70 = .ok (.iload_n 3, 1) := by decide +kernel
theorem dX3_borderOf_71 : decode cX3_borderOf 71 = .ok (.invokestatic 136, 3) := by decide +kernel
theorem dX3_borderOf_74 : decode cX3_borderOf 74 = .ok (.ior, 1) := by decide +kernel
theorem dX3_borderOf_75 : decode cX3_borderOf 75 = .ok (.goto 4, 3) := by decide +kernel
theorem dX3_borderOf_78 : decode cX3_borderOf 78 = .ok (.iload_n 2, 1) := by decide +kernel
theorem dX3_borderOf_79 : decode cX3_borderOf 79 = .ok (.istore_n 2, 1) := by decide +kernel
theorem dX3_borderOf_80 : decode cX3_borderOf 80 = .ok (.iinc 3 1, 3) := by decide +kernel
theorem dX3_borderOf_83 : decode cX3_borderOf 83 = .ok (.goto (-79), 3) := by decide +kernel
theorem dX3_borderOf_86 : decode cX3_borderOf 86 = .ok (.iload_n 2, 1) := by decide +kernel
theorem dX3_borderOf_87 : decode cX3_borderOf 87 = .ok (.ireturn, 1) := by decide +kernel
theorem dX3_findLoops_0 : decode cX3_findLoops 0 = .ok (.iconst 1, 1) := by decide +kernel
theorem dX3_findLoops_1 : decode cX3_findLoops 1 = .ok (.aload_n 0, 1) := by decide +kernel
theorem dX3_findLoops_2 : decode cX3_findLoops 2 = .ok (.getfield 72, 3) := by decide +kernel
theorem dX3_findLoops_5 : decode cX3_findLoops 5 = .ok (.aload_n 0, 1) := by decide +kernel
theorem dX3_findLoops_6 : decode cX3_findLoops 6 = .ok (.getfield 76, 3) := by decide +kernel
theorem dX3_findLoops_9 : decode cX3_findLoops 9 = .ok (.imul, 1) := by decide +kernel
theorem dX3_findLoops_10 : decode cX3_findLoops 10 = .ok (.ishl, 1) := by decide +kernel
theorem dX3_findLoops_11 : decode cX3_findLoops 11 = .ok (.istore_n 1, 1) := by decide +kernel
theorem dX3_findLoops_12 : decode cX3_findLoops 12 = .ok (.iconst 1, 1) := by decide +kernel
theorem dX3_findLoops_13 : decode cX3_findLoops 13 = .ok (.istore_n 2, 1) := by decide +kernel
theorem dX3_findLoops_14 : decode cX3_findLoops 14 = .ok (.iload_n 2, 1) := by decide +kernel
theorem dX3_findLoops_15 : decode cX3_findLoops 15 = .ok (.iload_n 1, 1) := by decide +kernel
theorem dX3_findLoops_16 : decode cX3_findLoops 16 = .ok (.if_icmp .ge 87, 3) := by decide +kernel
theorem dX3_findLoops_19 : decode cX3_findLoops 19 = .ok (.aload_n 0, 1) := by decide +kernel
theorem dX3_findLoops_20 : decode cX3_findLoops 20 = .ok (.iload_n 2, 1) := by decide +kernel
theorem dX3_findLoops_21 : decode cX3_findLoops 21 = .ok (.invokevirtual 140, 3) := by decide +kernel
theorem dX3_findLoops_24 : decode cX3_findLoops 24 = .ok (.istore_n 3, 1) := by decide +kernel
theorem dX3_findLoops_25 : decode cX3_findLoops 25 = .ok (.aload_n 0, 1) := by decide +kernel
theorem dX3_findLoops_26 : decode cX3_findLoops 26 = .ok (.iload_n 3, 1) := by decide +kernel
theorem dX3_findLoops_27 : decode cX3_findLoops 27 = .ok (.invokevirtual 143, 3) := by decide +kernel
theorem dX3_findLoops_30 : decode cX3_findLoops 30 = .ok (.ifCond .eq 67, 3) := by decide +kernel
theorem dX3_findLoops_33 : decode cX3_findLoops 33 = .ok (.aload_n 0, 1) := by decide +kernel
theorem dX3_findLoops_34 : decode cX3_findLoops 34 = .ok (.getfield 146, 3) := by decide +kernel
theorem dX3_findLoops_37 : decode cX3_findLoops 37 = .ok (.istore 4, 2) := by decide +kernel
theorem dX3_findLoops_39 : decode cX3_findLoops 39 = .ok (.iload 4, 2) := by decide +kernel
theorem dX3_findLoops_41 : decode cX3_findLoops 41 = .ok (.ifCond .le 38, 3) := by decide +kernel
theorem dX3_findLoops_44 : decode cX3_findLoops 44 = .ok (.aload_n 0, 1) := by decide +kernel
theorem dX3_findLoops_45 : decode cX3_findLoops 45 = .ok (.getfield 37, 3) := by decide +kernel
theorem dX3_findLoops_48 : decode cX3_findLoops 48 = .ok (.iload 4, 2) := by decide +kernel
theorem dX3_findLoops_50 : decode cX3_findLoops 50 = .ok (.iconst 1, 1) := by decide +kernel
theorem dX3_findLoops_51 : decode cX3_findLoops 51 = .ok (.isub, 1) := by decide +kernel
theorem dX3_findLoops_52 : decode cX3_findLoops 52 = .ok (.iaload, 1) := by decide +kernel
theorem dX3_findLoops_53 : decode cX3_findLoops 53 = .ok (.iload_n 3, 1) := by decide +kernel
theorem dX3_findLoops_54 : decode cX3_findLoops 54 = .ok (.if_icmp .le 25, 3) := by decide +kernel
theorem dX3_findLoops_57 : decode cX3_findLoops 57 = .ok (.aload_n 0, 1) := by decide +kernel
theorem dX3_findLoops_58 : decode cX3_findLoops 58 = .ok (.getfield 37, 3) := by decide +kernel
theorem dX3_findLoops_61 : decode cX3_findLoops 61 = .ok (.iload 4, 2) := by decide +kernel
theorem dX3_findLoops_63 : decode cX3_findLoops 63 = .ok (.aload_n 0, 1) := by decide +kernel
theorem dX3_findLoops_64 : decode cX3_findLoops 64 = .ok (.getfield 37, 3) := by decide +kernel
theorem dX3_findLoops_67 : decode cX3_findLoops 67 = .ok (.iload 4, 2) := by decide +kernel
theorem dX3_findLoops_69 : decode cX3_findLoops 69 = .ok (.iconst 1, 1) := by decide +kernel
theorem dX3_findLoops_70 : decode cX3_findLoops 70 = .ok (.isub, 1) := by decide +kernel
theorem dX3_findLoops_71 : decode cX3_findLoops 71 = .ok (.iaload, 1) := by decide +kernel
theorem dX3_findLoops_72 : decode cX3_findLoops 72 = .ok (.iastore, 1) := by decide +kernel
theorem dX3_findLoops_73 : decode cX3_findLoops 73 = .ok (.iinc 4 (-1), 3) := by decide +kernel
theorem dX3_findLoops_76 : decode cX3_findLoops 76 = .ok (.goto (-37), 3) := by decide +kernel
theorem dX3_findLoops_79 : decode cX3_findLoops 79 = .ok (.aload_n 0, 1) := by decide +kernel
theorem dX3_findLoops_80 : decode cX3_findLoops 80 = .ok (.getfield 37, 3) := by decide +kernel
theorem dX3_findLoops_83 : decode cX3_findLoops 83 = .ok (.iload 4, 2) := by decide +kernel
theorem dX3_findLoops_85 : decode cX3_findLoops 85 = .ok (.iload_n 3, 1) := by decide +kernel
theorem dX3_findLoops_86 : decode cX3_findLoops 86 = .ok (.iastore, 1) := by decide +kernel
theorem dX3_findLoops_87 : decode cX3_findLoops 87 = .ok (.aload_n 0, 1) := by decide +kernel
theorem dX3_findLoops_88 : decode cX3_findLoops 88 = .ok (.dup, 1) := by decide +kernel
theorem dX3_findLoops_89 : decode cX3_findLoops 89 = .ok (.getfield 146, 3) := by decide +kernel
theorem dX3_findLoops_92 : decode cX3_findLoops 92 = .ok (.iconst 1, 1) := by decide +kernel
theorem dX3_findLoops_93 : decode cX3_findLoops 93 = .ok (.iadd, 1) := by decide +kernel
theorem dX3_findLoops_94 : decode cX3_findLoops 94 = .ok (.putfield 146, 3) := by decide +kernel
theorem dX3_findLoops_97 : decode cX3_findLoops 97 = .ok (.iinc 2 1, 3) := by decide +kernel
theorem dX3_findLoops_100 : decode cX3_findLoops 100 = .ok (.goto (-86), 3) := by decide +kernel
theorem dX3_findLoops_103 : decode cX3_findLoops 103 = .ok (.return_, 1) := by decide +kernel
theorem dX3_sides_0 : decode cX3_sides 0 = .ok (.iconst 0, 1) := by decide +kernel
theorem dX3_sides_1 : decode cX3_sides 1 = .ok (.istore_n 3, 1) := by decide +kernel
theorem dX3_sides_2 : decode cX3_sides 2 = .ok (.iconst 0, 1) := by decide +kernel
theorem dX3_sides_3 : decode cX3_sides 3 = .ok (.istore 4, 2) := by decide +kernel
theorem dX3_sides_5 : decode cX3_sides 5 = .ok (.iload 4, 2) := by decide +kernel
theorem dX3_sides_7 : decode cX3_sides 7 = .ok (.aload_n 0, 1) := by decide +kernel
theorem dX3_sides_8 : decode cX3_sides 8 = .ok (.getfield 93, 3) := by decide +kernel
theorem dX3_sides_11 : decode cX3_sides 11 = .ok (.if_icmp .ge 48, 3) := by decide +kernel
theorem dX3_sides_14 : decode cX3_sides 14 = .ok (.iload_n 1, 1) := by decide +kernel
theorem dX3_sides_15 : decode cX3_sides 15 = .ok (.iload 4, 2) := by decide +kernel
theorem dX3_sides_17 : decode cX3_sides 17 = .ok (.invokestatic 106, 3) := by decide +kernel
theorem dX3_sides_20 : decode cX3_sides 20 = .ok (.ifCond .eq 31, 3) := by decide +kernel
theorem dX3_sides_23 : decode cX3_sides 23 = .ok (.aload_n 0, 1) := by decide +kernel
theorem dX3_sides_24 : decode cX3_sides 24 = .ok (.getfield 16, 3) := by decide +kernel
theorem dX3_sides_27 : decode cX3_sides 27 = .ok (.iload 4, 2) := by decide +kernel
theorem dX3_sides_29 : decode cX3_sides 29 = .ok (.iaload, 1) := by decide +kernel
theorem dX3_sides_30 : decode cX3_sides 30 = .ok (.iload_n 2, 1) := by decide +kernel
theorem dX3_sides_31 : decode cX3_sides 31 = .ok (.if_icmp .eq 14, 3) := by decide +kernel
theorem dX3_sides_34 : decode cX3_sides 34 = .ok (.aload_n 0, 1) := by decide +kernel
theorem dX3_sides_35 : decode cX3_sides 35 = .ok (.getfield 19, 3) := by decide +kernel
theorem dX3_sides_38 : decode cX3_sides 38 = .ok (.iload 4, 2) := by decide +kernel
theorem dX3_sides_40 : decode cX3_sides 40 = .ok (.iaload, 1) := by decide +kernel
theorem dX3_sides_41 : decode cX3_sides 41 = .ok (.iload_n 2, 1) := by decide +kernel
theorem dX3_sides_42 : decode cX3_sides 42 = .ok (.if_icmp .ne 9, 3) := by decide +kernel
theorem dX3_sides_45 : decode cX3_sides 45 = .ok (.iload_n 3, 1) := by decide +kernel
theorem dX3_sides_46 : decode cX3_sides 46 = .ok (.iconst 1, 1) := by decide +kernel
theorem dX3_sides_47 : decode cX3_sides 47 = .ok (.iadd, 1) := by decide +kernel
theorem dX3_sides_48 : decode cX3_sides 48 = .ok (.goto 4, 3) := by decide +kernel
theorem dX3_sides_51 : decode cX3_sides 51 = .ok (.iload_n 3, 1) := by decide +kernel
theorem dX3_sides_52 : decode cX3_sides 52 = .ok (.istore_n 3, 1) := by decide +kernel
theorem dX3_sides_53 : decode cX3_sides 53 = .ok (.iinc 4 1, 3) := by decide +kernel
theorem dX3_sides_56 : decode cX3_sides 56 = .ok (.goto (-51), 3) := by decide +kernel
theorem dX3_sides_59 : decode cX3_sides 59 = .ok (.iload_n 3, 1) := by decide +kernel
theorem dX3_sides_60 : decode cX3_sides 60 = .ok (.ireturn, 1) := by decide +kernel
theorem dX3_keepsClues_0 : decode cX3_keepsClues 0 = .ok (.iconst 0, 1) := by decide +kernel
theorem dX3_keepsClues_1 : decode cX3_keepsClues 1 = .ok (.istore_n 2, 1) := by decide +kernel
theorem dX3_keepsClues_2 : decode cX3_keepsClues 2 = .ok (.iload_n 2, 1) := by decide +kernel
theorem dX3_keepsClues_3 : decode cX3_keepsClues 3 = .ok (.aload_n 0, 1) := by decide +kernel
theorem dX3_keepsClues_4 : decode cX3_keepsClues 4 = .ok (.getfield 72, 3) := by decide +kernel
theorem dX3_keepsClues_7 : decode cX3_keepsClues 7 = .ok (.aload_n 0, 1) := by decide +kernel
theorem dX3_keepsClues_8 : decode cX3_keepsClues 8 = .ok (.getfield 76, 3) := by decide +kernel
theorem dX3_keepsClues_11 : decode cX3_keepsClues 11 = .ok (.imul, 1) := by decide +kernel
theorem dX3_keepsClues_12 : decode cX3_keepsClues 12 = .ok (.if_icmp .ge 35, 3) := by decide +kernel
theorem dX3_keepsClues_15 : decode cX3_keepsClues 15 = .ok (.aload_n 0, 1) := by decide +kernel
theorem dX3_keepsClues_16 : decode cX3_keepsClues 16 = .ok (.getfield 40, 3) := by decide +kernel
theorem dX3_keepsClues_19 : decode cX3_keepsClues 19 = .ok (.iload_n 2, 1) := by decide +kernel
theorem dX3_keepsClues_20 : decode cX3_keepsClues 20 = .ok (.iaload, 1) := by decide +kernel
theorem dX3_keepsClues_21 : decode cX3_keepsClues 21 = .ok (.ifCond .lt 20, 3) := by decide +kernel
theorem dX3_keepsClues_24 : decode cX3_keepsClues 24 = .ok (.aload_n 0, 1) := by decide +kernel
theorem dX3_keepsClues_25 : decode cX3_keepsClues 25 = .ok (.iload_n 1, 1) := by decide +kernel
theorem dX3_keepsClues_26 : decode cX3_keepsClues 26 = .ok (.iload_n 2, 1) := by decide +kernel
theorem dX3_keepsClues_27 : decode cX3_keepsClues 27 = .ok (.invokevirtual 149, 3) := by decide +kernel
theorem dX3_keepsClues_30 : decode cX3_keepsClues 30 = .ok (.aload_n 0, 1) := by decide +kernel
theorem dX3_keepsClues_31 : decode cX3_keepsClues 31 = .ok (.getfield 40, 3) := by decide +kernel
theorem dX3_keepsClues_34 : decode cX3_keepsClues 34 = .ok (.iload_n 2, 1) := by decide +kernel
theorem dX3_keepsClues_35 : decode cX3_keepsClues 35 = .ok (.iaload, 1) := by decide +kernel
theorem dX3_keepsClues_36 : decode cX3_keepsClues 36 = .ok (.if_icmp .eq 5, 3) := by decide +kernel
theorem dX3_keepsClues_39 : decode cX3_keepsClues 39 = .ok (.iconst 0, 1) := by decide +kernel
theorem dX3_keepsClues_40 : decode cX3_keepsClues 40 = .ok (.ireturn, 1) := by decide +kernel
theorem dX3_keepsClues_41 : decode cX3_keepsClues 41 = .ok (.iinc 2 1, 3) := by decide +kernel
theorem dX3_keepsClues_44 : decode cX3_keepsClues 44 = .ok (.goto (-42), 3) := by decide +kernel
theorem dX3_keepsClues_47 : decode cX3_keepsClues 47 = .ok (.iconst 1, 1) := by decide +kernel
theorem dX3_keepsClues_48 : decode cX3_keepsClues 48 = .ok (.ireturn, 1) := by decide +kernel
theorem dX3_find_0 : decode cX3_find 0 = .ok (.aload_n 0, 1) := by decide +kernel
theorem dX3_find_1 : decode cX3_find 1 = .ok (.getfield 152, 3) := by decide +kernel
theorem dX3_find_4 : decode cX3_find 4 = .ok (.ifCond .eq 4, 3) := by decide +kernel
theorem dX3_find_7 : decode cX3_find 7 = .ok (.return_, 1) := by decide +kernel
theorem dX3_find_8 : decode cX3_find 8 = .ok (.aload_n 0, 1) := by decide +kernel
theorem dX3_find_9 : decode cX3_find 9 = .ok (.iconst 1, 1) := by decide +kernel
theorem dX3_find_10 : decode cX3_find 10 = .ok (.putfield 152, 3) := by decide +kernel
theorem dX3_find_13 : decode cX3_find 13 = .ok (.aload_n 0, 1) := by decide +kernel
theorem dX3_find_14 : decode cX3_find 14 = .ok (.iconst 0, 1) := by decide +kernel
theorem dX3_find_15 : decode cX3_find 15 = .ok (.putfield 156, 3) := by decide +kernel
theorem dX3_find_18 : decode cX3_find 18 = .ok (.aload_n 0, 1) := by decide +kernel
theorem dX3_find_19 : decode cX3_find 19 = .ok (.iconst 0, 1) := by decide +kernel
theorem dX3_find_20 : decode cX3_find 20 = .ok (.putfield 159, 3) := by decide +kernel
theorem dX3_find_23 : decode cX3_find 23 = .ok (.iconst 0, 1) := by decide +kernel
theorem dX3_find_24 : decode cX3_find 24 = .ok (.istore_n 1, 1) := by decide +kernel
theorem dX3_find_25 : decode cX3_find 25 = .ok (.iload_n 1, 1) := by decide +kernel
theorem dX3_find_26 : decode cX3_find 26 = .ok (.aload_n 0, 1) := by decide +kernel
theorem dX3_find_27 : decode cX3_find 27 = .ok (.getfield 146, 3) := by decide +kernel
theorem dX3_find_30 : decode cX3_find 30 = .ok (.if_icmp .ge 47, 3) := by decide +kernel
theorem dX3_find_33 : decode cX3_find 33 = .ok (.aload_n 0, 1) := by decide +kernel
theorem dX3_find_34 : decode cX3_find 34 = .ok (.aload_n 0, 1) := by decide +kernel
theorem dX3_find_35 : decode cX3_find 35 = .ok (.getfield 37, 3) := by decide +kernel
theorem dX3_find_38 : decode cX3_find 38 = .ok (.iload_n 1, 1) := by decide +kernel
theorem dX3_find_39 : decode cX3_find 39 = .ok (.iaload, 1) := by decide +kernel
theorem dX3_find_40 : decode cX3_find 40 = .ok (.invokevirtual 162, 3) := by decide +kernel
theorem dX3_find_43 : decode cX3_find 43 = .ok (.ifCond .eq 28, 3) := by decide +kernel
theorem dX3_find_46 : decode cX3_find 46 = .ok (.aload_n 0, 1) := by decide +kernel
theorem dX3_find_47 : decode cX3_find 47 = .ok (.getfield 43, 3) := by decide +kernel
theorem dX3_find_50 : decode cX3_find 50 = .ok (.aload_n 0, 1) := by decide +kernel
theorem dX3_find_51 : decode cX3_find 51 = .ok (.getfield 159, 3) := by decide +kernel
theorem dX3_find_54 : decode cX3_find 54 = .ok (.aload_n 0, 1) := by decide +kernel
theorem dX3_find_55 : decode cX3_find 55 = .ok (.getfield 37, 3) := by decide +kernel
theorem dX3_find_58 : decode cX3_find 58 = .ok (.iload_n 1, 1) := by decide +kernel
theorem dX3_find_59 : decode cX3_find 59 = .ok (.iaload, 1) := by decide +kernel
theorem dX3_find_60 : decode cX3_find 60 = .ok (.iastore, 1) := by decide +kernel
theorem dX3_find_61 : decode cX3_find 61 = .ok (.aload_n 0, 1) := by decide +kernel
theorem dX3_find_62 : decode cX3_find 62 = .ok (.dup, 1) := by decide +kernel
theorem dX3_find_63 : decode cX3_find 63 = .ok (.getfield 159, 3) := by decide +kernel
theorem dX3_find_66 : decode cX3_find 66 = .ok (.iconst 1, 1) := by decide +kernel
theorem dX3_find_67 : decode cX3_find 67 = .ok (.iadd, 1) := by decide +kernel
theorem dX3_find_68 : decode cX3_find 68 = .ok (.putfield 159, 3) := by decide +kernel
theorem dX3_find_71 : decode cX3_find 71 = .ok (.iinc 1 1, 3) := by decide +kernel
theorem dX3_find_74 : decode cX3_find 74 = .ok (.goto (-49), 3) := by decide +kernel
theorem dX3_find_77 : decode cX3_find 77 = .ok (.return_, 1) := by decide +kernel
theorem dX3_isCellAlive_0 : decode cX3_isCellAlive 0 = .ok (.aload_n 0, 1) := by decide +kernel
theorem dX3_isCellAlive_1 : decode cX3_isCellAlive 1 = .ok (.getfield 40, 3) := by decide +kernel
theorem dX3_isCellAlive_4 : decode cX3_isCellAlive 4 = .ok (.iload_n 2, 1) := by decide +kernel
theorem dX3_isCellAlive_5 : decode cX3_isCellAlive 5 = .ok (.iaload, 1) := by decide +kernel
theorem dX3_isCellAlive_6 : decode cX3_isCellAlive 6 = .ok (.ifCond .ge 7, 3) := by decide +kernel
theorem dX3_isCellAlive_9 : decode cX3_isCellAlive 9 = .ok (.iconst 0, 1) := by decide +kernel
theorem dX3_isCellAlive_10 : decode cX3_isCellAlive 10 = .ok (.goto 9, 3) := by decide +kernel
theorem dX3_isCellAlive_13 : decode cX3_isCellAlive 13 = .ok (.aload_n 0, 1) := by decide +kernel
theorem dX3_isCellAlive_14 : decode cX3_isCellAlive 14 = .ok (.iload_n 1, 1) := by decide +kernel
theorem dX3_isCellAlive_15 : decode cX3_isCellAlive 15 = .ok (.iload_n 2, 1) := by decide +kernel
theorem dX3_isCellAlive_16 : decode cX3_isCellAlive 16 = .ok (.invokevirtual 149, 3) := by decide +kernel
theorem dX3_isCellAlive_19 : decode cX3_isCellAlive 19 = .ok (.istore 4, 2) := by decide +kernel
theorem dX3_isCellAlive_21 : decode cX3_isCellAlive 21 = .ok (.aload_n 0, 1) := by decide +kernel
theorem dX3_isCellAlive_22 : decode cX3_isCellAlive 22 = .ok (.getfield 40, 3) := by decide +kernel
theorem dX3_isCellAlive_25 : decode cX3_isCellAlive 25 = .ok (.iload_n 2, 1) := by decide +kernel
theorem dX3_isCellAlive_26 : decode cX3_isCellAlive 26 = .ok (.iaload, 1) := by decide +kernel
theorem dX3_isCellAlive_27 : decode cX3_isCellAlive 27 = .ok (.ifCond .lt 35, 3) := by decide +kernel
theorem dX3_isCellAlive_30 : decode cX3_isCellAlive 30 = .ok (.iload 4, 2) := by decide +kernel
theorem dX3_isCellAlive_32 : decode cX3_isCellAlive 32 = .ok (.aload_n 0, 1) := by decide +kernel
theorem dX3_isCellAlive_33 : decode cX3_isCellAlive 33 = .ok (.getfield 40, 3) := by decide +kernel
theorem dX3_isCellAlive_36 : decode cX3_isCellAlive 36 = .ok (.iload_n 2, 1) := by decide +kernel
theorem dX3_isCellAlive_37 : decode cX3_isCellAlive 37 = .ok (.iaload, 1) := by decide +kernel
theorem dX3_isCellAlive_38 : decode cX3_isCellAlive 38 = .ok (.if_icmp .gt 28, 3) := by decide +kernel
theorem dX3_isCellAlive_41 : decode cX3_isCellAlive 41 = .ok (.aload_n 0, 1) := by decide +kernel
theorem dX3_isCellAlive_42 : decode cX3_isCellAlive 42 = .ok (.getfield 34, 3) := by decide +kernel
theorem dX3_isCellAlive_45 : decode cX3_isCellAlive 45 = .ok (.iload_n 2, 1) := by decide +kernel
theorem dX3_isCellAlive_46 : decode cX3_isCellAlive 46 = .ok (.iaload, 1) := by decide +kernel
theorem dX3_isCellAlive_47 : decode cX3_isCellAlive 47 = .ok (.iload_n 3, 1) := by decide +kernel
theorem dX3_isCellAlive_48 : decode cX3_isCellAlive 48 = .ok (.if_icmp .ge 14, 3) := by decide +kernel
theorem dX3_isCellAlive_51 : decode cX3_isCellAlive 51 = .ok (.iload 4, 2) := by decide +kernel
theorem dX3_isCellAlive_53 : decode cX3_isCellAlive 53 = .ok (.aload_n 0, 1) := by decide +kernel
theorem dX3_isCellAlive_54 : decode cX3_isCellAlive 54 = .ok (.getfield 40, 3) := by decide +kernel
theorem dX3_isCellAlive_57 : decode cX3_isCellAlive 57 = .ok (.iload_n 2, 1) := by decide +kernel
theorem dX3_isCellAlive_58 : decode cX3_isCellAlive 58 = .ok (.iaload, 1) := by decide +kernel
theorem dX3_isCellAlive_59 : decode cX3_isCellAlive 59 = .ok (.if_icmp .ne 7, 3) := by decide +kernel
theorem dX3_isCellAlive_62 : decode cX3_isCellAlive 62 = .ok (.iconst 1, 1) := by decide +kernel
theorem dX3_isCellAlive_63 : decode cX3_isCellAlive 63 = .ok (.goto 4, 3) := by decide +kernel
theorem dX3_isCellAlive_66 : decode cX3_isCellAlive 66 = .ok (.iconst 0, 1) := by decide +kernel
theorem dX3_isCellAlive_67 : decode cX3_isCellAlive 67 = .ok (.ireturn, 1) := by decide +kernel
theorem dX3_isAlive_0 : decode cX3_isAlive 0 = .ok (.aload_n 0, 1) := by decide +kernel
theorem dX3_isAlive_1 : decode cX3_isAlive 1 = .ok (.iload_n 1, 1) := by decide +kernel
theorem dX3_isAlive_2 : decode cX3_isAlive 2 = .ok (.invokevirtual 128, 3) := by decide +kernel
theorem dX3_isAlive_5 : decode cX3_isAlive 5 = .ok (.aload_n 0, 1) := by decide +kernel
theorem dX3_isAlive_6 : decode cX3_isAlive 6 = .ok (.invokevirtual 118, 3) := by decide +kernel
theorem dX3_isAlive_9 : decode cX3_isAlive 9 = .ok (.ifCond .eq 15, 3) := by decide +kernel
theorem dX3_isAlive_12 : decode cX3_isAlive 12 = .ok (.iload_n 2, 1) := by decide +kernel
theorem dX3_isAlive_13 : decode cX3_isAlive 13 = .ok (.aload_n 0, 1) := by decide +kernel
theorem dX3_isAlive_14 : decode cX3_isAlive 14 = .ok (.getfield 93, 3) := by decide +kernel
theorem dX3_isAlive_17 : decode cX3_isAlive 17 = .ok (.if_icmp .ne 9, 3) := by decide +kernel
theorem dX3_isAlive_20 : decode cX3_isAlive 20 = .ok (.iload_n 1, 1) := by decide +kernel
theorem dX3_isAlive_21 : decode cX3_isAlive 21 = .ok (.ifCond .ne 5, 3) := by decide +kernel
theorem dX3_isAlive_24 : decode cX3_isAlive 24 = .ok (.iconst 0, 1) := by decide +kernel
theorem dX3_isAlive_25 : decode cX3_isAlive 25 = .ok (.ireturn, 1) := by decide +kernel
theorem dX3_isAlive_26 : decode cX3_isAlive 26 = .ok (.iconst 1, 1) := by decide +kernel
theorem dX3_isAlive_27 : decode cX3_isAlive 27 = .ok (.istore_n 3, 1) := by decide +kernel
theorem dX3_isAlive_28 : decode cX3_isAlive 28 = .ok (.iconst 0, 1) := by decide +kernel
theorem dX3_isAlive_29 : decode cX3_isAlive 29 = .ok (.istore 4, 2) := by decide +kernel
theorem dX3_isAlive_31 : decode cX3_isAlive 31 = .ok (.iload 4, 2) := by decide +kernel
theorem dX3_isAlive_33 : decode cX3_isAlive 33 = .ok (.aload_n 0, 1) := by decide +kernel
theorem dX3_isAlive_34 : decode cX3_isAlive 34 = .ok (.getfield 79, 3) := by decide +kernel
theorem dX3_isAlive_37 : decode cX3_isAlive 37 = .ok (.if_icmp .ge 41, 3) := by decide +kernel
theorem dX3_isAlive_40 : decode cX3_isAlive 40 = .ok (.iload_n 3, 1) := by decide +kernel
theorem dX3_isAlive_41 : decode cX3_isAlive 41 = .ok (.ifCond .eq 29, 3) := by decide +kernel
theorem dX3_isAlive_44 : decode cX3_isAlive 44 = .ok (.aload_n 0, 1) := by decide +kernel
theorem dX3_isAlive_45 : decode cX3_isAlive 45 = .ok (.getfield 28, 3) := by decide +kernel
theorem dX3_isAlive_48 : decode cX3_isAlive 48 = .ok (.iload 4, 2) := by decide +kernel
theorem dX3_isAlive_50 : decode cX3_isAlive 50 = .ok (.iaload, 1) := by decide +kernel
theorem dX3_isAlive_51 : decode cX3_isAlive 51 = .ok (.iload_n 2, 1) := by decide +kernel
theorem dX3_isAlive_52 : decode cX3_isAlive 52 = .ok (.if_icmp .ge 14, 3) := by decide +kernel
theorem dX3_isAlive_55 : decode cX3_isAlive 55 = .ok (.aload_n 0, 1) := by decide +kernel
theorem dX3_isAlive_56 : decode cX3_isAlive 56 = .ok (.getfield 65, 3) := by decide +kernel
theorem dX3_isAlive_59 : decode cX3_isAlive 59 = .ok (.iload 4, 2) := by decide +kernel
theorem dX3_isAlive_61 : decode cX3_isAlive 61 = .ok (.iaload, 1) := by decide +kernel
theorem dX3_isAlive_62 : decode cX3_isAlive 62 = .ok (.iconst 1, 1) := by decide +kernel
theorem dX3_isAlive_63 : decode cX3_isAlive 63 = .ok (.if_icmp .eq 7, 3) := by decide +kernel
theorem dX3_isAlive_66 : decode cX3_isAlive 66 = .ok (.iconst 1, 1) := by decide +kernel
theorem dX3_isAlive_67 : decode cX3_isAlive 67 = .ok (.goto 4, 3) := by decide +kernel
theorem dX3_isAlive_70 : decode cX3_isAlive 70 = .ok (.iconst 0, 1) := by decide +kernel
theorem dX3_isAlive_71 : decode cX3_isAlive 71 = .ok (.istore_n 3, 1) := by decide +kernel
theorem dX3_isAlive_72 : decode cX3_isAlive 72 = .ok (.iinc 4 1, 3) := by decide +kernel
theorem dX3_isAlive_75 : decode cX3_isAlive 75 = .ok (.goto (-44), 3) := by decide +kernel
theorem dX3_isAlive_78 : decode cX3_isAlive 78 = .ok (.iconst 0, 1) := by decide +kernel
theorem dX3_isAlive_79 : decode cX3_isAlive 79 = .ok (.istore 4, 2) := by decide +kernel
theorem dX3_isAlive_81 : decode cX3_isAlive 81 = .ok (.iload 4, 2) := by decide +kernel
theorem dX3_isAlive_83 : decode cX3_isAlive 83 = .ok (.aload_n 0, 1) := by decide +kernel
theorem dX3_isAlive_84 : decode cX3_isAlive 84 = .ok (.getfield 72, 3) := by decide +kernel
theorem dX3_isAlive_87 : decode cX3_isAlive 87 = .ok (.aload_n 0, 1) := by decide +kernel
theorem dX3_isAlive_88 : decode cX3_isAlive 88 = .ok (.getfield 76, 3) := by decide +kernel
theorem dX3_isAlive_91 : decode cX3_isAlive 91 = .ok (.imul, 1) := by decide +kernel
theorem dX3_isAlive_92 : decode cX3_isAlive 92 = .ok (.if_icmp .ge 30, 3) := by decide +kernel
theorem dX3_isAlive_95 : decode cX3_isAlive 95 = .ok (.iload_n 3, 1) := by decide +kernel
theorem dX3_isAlive_96 : decode cX3_isAlive 96 = .ok (.ifCond .eq 18, 3) := by decide +kernel
theorem dX3_isAlive_99 : decode cX3_isAlive 99 = .ok (.aload_n 0, 1) := by decide +kernel
theorem dX3_isAlive_100 : decode cX3_isAlive 100 = .ok (.iload_n 1, 1) := by decide +kernel
theorem dX3_isAlive_101 : decode cX3_isAlive 101 = .ok (.iload 4, 2) := by decide +kernel
theorem dX3_isAlive_103 : decode cX3_isAlive 103 = .ok (.iload_n 2, 1) := by decide +kernel
theorem dX3_isAlive_104 : decode cX3_isAlive 104 = .ok (.invokevirtual 165, 3) := by decide +kernel
theorem dX3_isAlive_107 : decode cX3_isAlive 107 = .ok (.ifCond .eq 7, 3) := by decide +kernel
theorem dX3_isAlive_110 : decode cX3_isAlive 110 = .ok (.iconst 1, 1) := by decide +kernel
theorem dX3_isAlive_111 : decode cX3_isAlive 111 = .ok (.goto 4, 3) := by decide +kernel
theorem dX3_isAlive_114 : decode cX3_isAlive 114 = .ok (.iconst 0, 1) := by decide +kernel
theorem dX3_isAlive_115 : decode cX3_isAlive 115 = .ok (.istore_n 3, 1) := by decide +kernel
theorem dX3_isAlive_116 : decode cX3_isAlive 116 = .ok (.iinc 4 1, 3) := by decide +kernel
theorem dX3_isAlive_119 : decode cX3_isAlive 119 = .ok (.goto (-38), 3) := by decide +kernel
theorem dX3_isAlive_122 : decode cX3_isAlive 122 = .ok (.iload_n 3, 1) := by decide +kernel
theorem dX3_isAlive_123 : decode cX3_isAlive 123 = .ok (.ifCond .ne 5, 3) := by decide +kernel
theorem dX3_isAlive_126 : decode cX3_isAlive 126 = .ok (.iconst 0, 1) := by decide +kernel
theorem dX3_isAlive_127 : decode cX3_isAlive 127 = .ok (.ireturn, 1) := by decide +kernel
theorem dX3_isAlive_128 : decode cX3_isAlive 128 = .ok (.iconst 0, 1) := by decide +kernel
theorem dX3_isAlive_129 : decode cX3_isAlive 129 = .ok (.istore 4, 2) := by decide +kernel
theorem dX3_isAlive_131 : decode cX3_isAlive 131 = .ok (.iconst 0, 1) := by decide +kernel
theorem dX3_isAlive_132 : decode cX3_isAlive 132 = .ok (.istore 5, 2) := by decide +kernel
theorem dX3_isAlive_134 : decode cX3_isAlive 134 = .ok (.iload 5, 2) := by decide +kernel
theorem dX3_isAlive_136 : decode cX3_isAlive 136 = .ok (.aload_n 0, 1) := by decide +kernel
theorem dX3_isAlive_137 : decode cX3_isAlive 137 = .ok (.getfield 79, 3) := by decide +kernel
theorem dX3_isAlive_140 : decode cX3_isAlive 140 = .ok (.if_icmp .ge 41, 3) := by decide +kernel
theorem dX3_isAlive_143 : decode cX3_isAlive 143 = .ok (.aload_n 0, 1) := by decide +kernel
theorem dX3_isAlive_144 : decode cX3_isAlive 144 = .ok (.getfield 65, 3) := by decide +kernel
theorem dX3_isAlive_147 : decode cX3_isAlive 147 = .ok (.iload 5, 2) := by decide +kernel
theorem dX3_isAlive_149 : decode cX3_isAlive 149 = .ok (.iaload, 1) := by decide +kernel
theorem dX3_isAlive_150 : decode cX3_isAlive 150 = .ok (.iconst 1, 1) := by decide +kernel
theorem dX3_isAlive_151 : decode cX3_isAlive 151 = .ok (.if_icmp .ne 24, 3) := by decide +kernel
theorem dX3_isAlive_154 : decode cX3_isAlive 154 = .ok (.aload_n 0, 1) := by decide +kernel
theorem dX3_isAlive_155 : decode cX3_isAlive 155 = .ok (.getfield 68, 3) := by decide +kernel
theorem dX3_isAlive_158 : decode cX3_isAlive 158 = .ok (.iload 5, 2) := by decide +kernel
theorem dX3_isAlive_160 : decode cX3_isAlive 160 = .ok (.baload, 1) := by decide +kernel
theorem dX3_isAlive_161 : decode cX3_isAlive 161 = .ok (.ifCond .ne 14, 3) := by decide +kernel
theorem dX3_isAlive_164 : decode cX3_isAlive 164 = .ok (.aload_n 0, 1) := by decide +kernel
theorem dX3_isAlive_165 : decode cX3_isAlive 165 = .ok (.iload_n 1, 1) := by decide +kernel
theorem dX3_isAlive_166 : decode cX3_isAlive 166 = .ok (.iload 5, 2) := by decide +kernel
theorem dX3_isAlive_168 : decode cX3_isAlive 168 = .ok (.invokevirtual 125, 3) := by decide +kernel
theorem dX3_isAlive_171 : decode cX3_isAlive 171 = .ok (.pop, 1) := by decide +kernel
theorem dX3_isAlive_172 : decode cX3_isAlive 172 = .ok (.iconst 1, 1) := by decide +kernel
theorem dX3_isAlive_173 : decode cX3_isAlive 173 = .ok (.istore 4, 2) := by decide +kernel
theorem dX3_isAlive_175 : decode cX3_isAlive 175 = .ok (.iinc 5 1, 3) := by decide +kernel
theorem dX3_isAlive_178 : decode cX3_isAlive 178 = .ok (.goto (-44), 3) := by decide +kernel
theorem dX3_isAlive_181 : decode cX3_isAlive 181 = .ok (.aload_n 0, 1) := by decide +kernel
theorem dX3_isAlive_182 : decode cX3_isAlive 182 = .ok (.invokevirtual 114, 3) := by decide +kernel
theorem dX3_isAlive_185 : decode cX3_isAlive 185 = .ok (.istore 5, 2) := by decide +kernel
theorem dX3_isAlive_187 : decode cX3_isAlive 187 = .ok (.iload 5, 2) := by decide +kernel
theorem dX3_isAlive_189 : decode cX3_isAlive 189 = .ok (.ifCond .ge 5, 3) := by decide +kernel
theorem dX3_isAlive_192 : decode cX3_isAlive 192 = .ok (.iconst 1, 1) := by decide +kernel
theorem dX3_isAlive_193 : decode cX3_isAlive 193 = .ok (.ireturn, 1) := by decide +kernel
theorem dX3_isAlive_194 : decode cX3_isAlive 194 = .ok (.aload_n 0, 1) := by decide +kernel
theorem dX3_isAlive_195 : decode cX3_isAlive 195 = .ok (.iload_n 1, 1) := by decide +kernel
theorem dX3_isAlive_196 : decode cX3_isAlive 196 = .ok (.iload 5, 2) := by decide +kernel
theorem dX3_isAlive_198 : decode cX3_isAlive 198 = .ok (.invokevirtual 125, 3) := by decide +kernel
theorem dX3_isAlive_201 : decode cX3_isAlive 201 = .ok (.pop, 1) := by decide +kernel
theorem dX3_isAlive_202 : decode cX3_isAlive 202 = .ok (.iload 4, 2) := by decide +kernel
theorem dX3_isAlive_204 : decode cX3_isAlive 204 = .ok (.ifCond .ne 14, 3) := by decide +kernel
theorem dX3_isAlive_207 : decode cX3_isAlive 207 = .ok (.aload_n 0, 1) := by decide +kernel
theorem dX3_isAlive_208 : decode cX3_isAlive 208 = .ok (.invokevirtual 114, 3) := by decide +kernel
theorem dX3_isAlive_211 : decode cX3_isAlive 211 = .ok (.ifCond .ge 7, 3) := by decide +kernel
theorem dX3_isAlive_214 : decode cX3_isAlive 214 = .ok (.iconst 1, 1) := by decide +kernel
theorem dX3_isAlive_215 : decode cX3_isAlive 215 = .ok (.goto 4, 3) := by decide +kernel
theorem dX3_isAlive_218 : decode cX3_isAlive 218 = .ok (.iconst 0, 1) := by decide +kernel
theorem dX3_isAlive_219 : decode cX3_isAlive 219 = .ok (.ireturn, 1) := by decide +kernel
theorem dX3_trace_0 : decode cX3_trace 0 = .ok (.aload_n 0, 1) := by decide +kernel
theorem dX3_trace_1 : decode cX3_trace 1 = .ok (.iload_n 1, 1) := by decide +kernel
theorem dX3_trace_2 : decode cX3_trace 2 = .ok (.invokevirtual 143, 3) := by decide +kernel
theorem dX3_trace_5 : decode cX3_trace 5 = .ok (.ifCond .eq 7, 3) := by decide +kernel
theorem dX3_trace_8 : decode cX3_trace 8 = .ok (.lconst 1, 1) := by decide +kernel
theorem dX3_trace_9 : decode cX3_trace 9 = .ok (.goto 4, 3) := by decide +kernel
theorem dX3_trace_12 : decode cX3_trace 12 = .ok (.lconst 0, 1) := by decide +kernel
theorem dX3_trace_13 : decode cX3_trace 13 = .ok (.lstore_n 3, 1) := by decide +kernel
theorem dX3_trace_14 : decode cX3_trace 14 = .ok (.aload_n 0, 1) := by decide +kernel
theorem dX3_trace_15 : decode cX3_trace 15 = .ok (.iload_n 1, 1) := by decide +kernel
theorem dX3_trace_16 : decode cX3_trace 16 = .ok (.invokevirtual 128, 3) := by decide +kernel
theorem dX3_trace_19 : decode cX3_trace 19 = .ok (.iconst 0, 1) := by decide +kernel
theorem dX3_trace_20 : decode cX3_trace 20 = .ok (.istore 5, 2) := by decide +kernel
theorem dX3_trace_22 : decode cX3_trace 22 = .ok (.iload 5, 2) := by decide +kernel
theorem dX3_trace_24 : decode cX3_trace 24 = .ok (.aload_n 0, 1) := by decide +kernel
theorem dX3_trace_25 : decode cX3_trace 25 = .ok (.getfield 79, 3) := by decide +kernel
theorem dX3_trace_28 : decode cX3_trace 28 = .ok (.if_icmp .ge 105, 3) := by decide +kernel
theorem dX3_trace_31 : decode cX3_trace 31 = .ok (.aload_n 0, 1) := by decide +kernel
theorem dX3_trace_32 : decode cX3_trace 32 = .ok (.getfield 25, 3) := by decide +kernel
theorem dX3_trace_35 : decode cX3_trace 35 = .ok (.iload 5, 2) := by decide +kernel
theorem dX3_trace_37 : decode cX3_trace 37 = .ok (.iaload, 1) := by decide +kernel
theorem dX3_trace_38 : decode cX3_trace 38 = .ok (.iload_n 2, 1) := by decide +kernel
theorem dX3_trace_39 : decode cX3_trace 39 = .ok (.if_icmp .ge 88, 3) := by decide +kernel
theorem dX3_trace_42 : decode cX3_trace 42 = .ok (.aload_n 0, 1) := by decide +kernel
theorem dX3_trace_43 : decode cX3_trace 43 = .ok (.getfield 28, 3) := by decide +kernel
theorem dX3_trace_46 : decode cX3_trace 46 = .ok (.iload 5, 2) := by decide +kernel
theorem dX3_trace_48 : decode cX3_trace 48 = .ok (.iaload, 1) := by decide +kernel
theorem dX3_trace_49 : decode cX3_trace 49 = .ok (.iload_n 2, 1) := by decide +kernel
theorem dX3_trace_50 : decode cX3_trace 50 = .ok (.if_icmp .lt 77, 3) := by decide +kernel
theorem dX3_trace_53 : decode cX3_trace 53 = .ok (.iconst 0, 1) := by decide +kernel
theorem dX3_trace_54 : decode cX3_trace 54 = .ok (.istore 6, 2) := by decide +kernel
theorem dX3_trace_56 : decode cX3_trace 56 = .ok (.iload 6, 2) := by decide +kernel
theorem dX3_trace_58 : decode cX3_trace 58 = .ok (.aload_n 0, 1) := by decide +kernel
theorem dX3_trace_59 : decode cX3_trace 59 = .ok (.getfield 79, 3) := by decide +kernel
theorem dX3_trace_62 : decode cX3_trace 62 = .ok (.if_icmp .ge 17, 3) := by decide +kernel
theorem dX3_trace_65 : decode cX3_trace 65 = .ok (.aload_n 0, 1) := by decide +kernel
theorem dX3_trace_66 : decode cX3_trace 66 = .ok (.getfield 68, 3) := by decide +kernel
theorem dX3_trace_69 : decode cX3_trace 69 = .ok (.iload 6, 2) := by decide +kernel
theorem dX3_trace_71 : decode cX3_trace 71 = .ok (.iconst 0, 1) := by decide +kernel
theorem dX3_trace_72 : decode cX3_trace 72 = .ok (.bastore, 1) := by decide +kernel
theorem dX3_trace_73 : decode cX3_trace 73 = .ok (.iinc 6 1, 3) := by decide +kernel
theorem dX3_trace_76 : decode cX3_trace 76 = .ok (.goto (-20), 3) := by decide +kernel
theorem dX3_trace_79 : decode cX3_trace 79 = .ok (.aload_n 0, 1) := by decide +kernel
theorem dX3_trace_80 : decode cX3_trace 80 = .ok (.getfield 65, 3) := by decide +kernel
theorem dX3_trace_83 : decode cX3_trace 83 = .ok (.iload 5, 2) := by decide +kernel
theorem dX3_trace_85 : decode cX3_trace 85 = .ok (.iaload, 1) := by decide +kernel
theorem dX3_trace_86 : decode cX3_trace 86 = .ok (.ifCond .ne 7, 3) := by decide +kernel
theorem dX3_trace_89 : decode cX3_trace 89 = .ok (.iconst 0, 1) := by decide +kernel
theorem dX3_trace_90 : decode cX3_trace 90 = .ok (.goto 27, 3) := by decide +kernel
theorem dX3_trace_93 : decode cX3_trace 93 = .ok (.aload_n 0, 1) := by decide +kernel
theorem dX3_trace_94 : decode cX3_trace 94 = .ok (.getfield 65, 3) := by decide +kernel
theorem dX3_trace_97 : decode cX3_trace 97 = .ok (.iload 5, 2) := by decide +kernel
theorem dX3_trace_99 : decode cX3_trace 99 = .ok (.iaload, 1) := by decide +kernel
theorem dX3_trace_100 : decode cX3_trace 100 = .ok (.iconst 2, 1) := by decide +kernel
theorem dX3_trace_101 : decode cX3_trace 101 = .ok (.if_icmp .ne 7, 3) := by decide +kernel
theorem dX3_trace_104 : decode cX3_trace 104 = .ok (.iconst 1, 1) := by decide +kernel
theorem dX3_trace_105 : decode cX3_trace 105 = .ok (.goto 12, 3) := by decide +kernel
theorem dX3_trace_108 : decode cX3_trace 108 = .ok (.iconst 2, 1) := by decide +kernel
theorem dX3_trace_109 : decode cX3_trace 109 = .ok (.aload_n 0, 1) := by decide +kernel
theorem dX3_trace_110 : decode cX3_trace 110 = .ok (.iload_n 1, 1) := by decide +kernel
theorem dX3_trace_111 : decode cX3_trace 111 = .ok (.iload 5, 2) := by decide +kernel
theorem dX3_trace_113 : decode cX3_trace 113 = .ok (.invokevirtual 125, 3) := by decide +kernel
theorem dX3_trace_116 : decode cX3_trace 116 = .ok (.iadd, 1) := by decide +kernel
theorem dX3_trace_117 : decode cX3_trace 117 = .ok (.istore 6, 2) := by decide +kernel
theorem dX3_trace_119 : decode cX3_trace 119 = .ok (.lload_n 3, 1) := by decide +kernel
theorem dX3_trace_120 : decode cX3_trace 120 = .ok (.iconst 5, 1) := by decide +kernel
theorem dX3_trace_121 : decode cX3_trace 121 = .ok (.lshl, 1) := by decide +kernel
theorem dX3_trace_122 : decode cX3_trace 122 = .ok (.iload 6, 2) := by decide +kernel
theorem dX3_trace_124 : decode cX3_trace 124 = .ok (.i2l, 1) := by decide +kernel
theorem dX3_trace_125 : decode cX3_trace 125 = .ok (.lor, 1) := by decide +kernel
theorem dX3_trace_126 : decode cX3_trace 126 = .ok (.lstore_n 3, 1) := by decide +kernel
theorem dX3_trace_127 : decode cX3_trace 127 = .ok (.iinc 5 1, 3) := by decide +kernel
theorem dX3_trace_130 : decode cX3_trace 130 = .ok (.goto (-108), 3) := by decide +kernel
theorem dX3_trace_133 : decode cX3_trace 133 = .ok (.iconst 0, 1) := by decide +kernel
theorem dX3_trace_134 : decode cX3_trace 134 = .ok (.istore 5, 2) := by decide +kernel
theorem dX3_trace_136 : decode cX3_trace 136 = .ok (.iload 5, 2) := by decide +kernel
theorem dX3_trace_138 : decode cX3_trace 138 = .ok (.aload_n 0, 1) := by decide +kernel
theorem dX3_trace_139 : decode cX3_trace 139 = .ok (.getfield 72, 3) := by decide +kernel
theorem dX3_trace_142 : decode cX3_trace 142 = .ok (.aload_n 0, 1) := by decide +kernel
theorem dX3_trace_143 : decode cX3_trace 143 = .ok (.getfield 76, 3) := by decide +kernel
theorem dX3_trace_146 : decode cX3_trace 146 = .ok (.imul, 1) := by decide +kernel
theorem dX3_trace_147 : decode cX3_trace 147 = .ok (.if_icmp .ge 54, 3) := by decide +kernel
theorem dX3_trace_150 : decode cX3_trace 150 = .ok (.aload_n 0, 1) := by decide +kernel
theorem dX3_trace_151 : decode cX3_trace 151 = .ok (.getfield 40, 3) := by decide +kernel
theorem dX3_trace_154 : decode cX3_trace 154 = .ok (.iload 5, 2) := by decide +kernel
theorem dX3_trace_156 : decode cX3_trace 156 = .ok (.iaload, 1) := by decide +kernel
theorem dX3_trace_157 : decode cX3_trace 157 = .ok (.ifCond .lt 38, 3) := by decide +kernel
theorem dX3_trace_160 : decode cX3_trace 160 = .ok (.aload_n 0, 1) := by decide +kernel
theorem dX3_trace_161 : decode cX3_trace 161 = .ok (.getfield 31, 3) := by decide +kernel
theorem dX3_trace_164 : decode cX3_trace 164 = .ok (.iload 5, 2) := by decide +kernel
theorem dX3_trace_166 : decode cX3_trace 166 = .ok (.iaload, 1) := by decide +kernel
theorem dX3_trace_167 : decode cX3_trace 167 = .ok (.iload_n 2, 1) := by decide +kernel
theorem dX3_trace_168 : decode cX3_trace 168 = .ok (.if_icmp .ge 27, 3) := by decide +kernel
theorem dX3_trace_171 : decode cX3_trace 171 = .ok (.aload_n 0, 1) := by decide +kernel
theorem dX3_trace_172 : decode cX3_trace 172 = .ok (.getfield 34, 3) := by decide +kernel
theorem dX3_trace_175 : decode cX3_trace 175 = .ok (.iload 5, 2) := by decide +kernel
theorem dX3_trace_177 : decode cX3_trace 177 = .ok (.iaload, 1) := by decide +kernel
theorem dX3_trace_178 : decode cX3_trace 178 = .ok (.iload_n 2, 1) := by decide +kernel
theorem dX3_trace_179 : decode cX3_trace 179 = .ok (.if_icmp .lt 16, 3) := by decide +kernel
theorem dX3_trace_182 : decode cX3_trace 182 = .ok (.lload_n 3, 1) := by decide +kernel
theorem dX3_trace_183 : decode cX3_trace 183 = .ok (.iconst 3, 1) := by decide +kernel
theorem dX3_trace_184 : decode cX3_trace 184 = .ok (.lshl, 1) := by decide +kernel
theorem dX3_trace_185 : decode cX3_trace 185 = .ok (.aload_n 0, 1) := by decide +kernel
theorem dX3_trace_186 : decode cX3_trace 186 = .ok (.iload_n 1, 1) := by decide +kernel
theorem dX3_trace_187 : decode cX3_trace 187 = .ok (.iload 5, 2) := by decide +kernel
theorem dX3_trace_189 : decode cX3_trace 189 = .ok (.invokevirtual 149, 3) := by decide +kernel
theorem dX3_trace_192 : decode cX3_trace 192 = .ok (.i2l, 1) := by decide +kernel
theorem dX3_trace_193 : decode cX3_trace 193 = .ok (.lor, 1) := by decide +kernel
theorem dX3_trace_194 : decode cX3_trace 194 = .ok (.lstore_n 3, 1) := by decide +kernel
theorem dX3_trace_195 : decode cX3_trace 195 = .ok (.iinc 5 1, 3) := by decide +kernel
theorem dX3_trace_198 : decode cX3_trace 198 = .ok (.goto (-62), 3) := by decide +kernel
theorem dX3_trace_201 : decode cX3_trace 201 = .ok (.lload_n 3, 1) := by decide +kernel
theorem dX3_trace_202 : decode cX3_trace 202 = .ok (.lreturn, 1) := by decide +kernel
theorem dX3_offer_0 : decode cX3_offer 0 = .ok (.aload_n 0, 1) := by decide +kernel
theorem dX3_offer_1 : decode cX3_offer 1 = .ok (.iload_n 1, 1) := by decide +kernel
theorem dX3_offer_2 : decode cX3_offer 2 = .ok (.iload_n 2, 1) := by decide +kernel
theorem dX3_offer_3 : decode cX3_offer 3 = .ok (.invokevirtual 169, 3) := by decide +kernel
theorem dX3_offer_6 : decode cX3_offer 6 = .ok (.ifCond .ne 4, 3) := by decide +kernel
theorem dX3_offer_9 : decode cX3_offer 9 = .ok (.return_, 1) := by decide +kernel
theorem dX3_offer_10 : decode cX3_offer 10 = .ok (.aload_n 0, 1) := by decide +kernel
theorem dX3_offer_11 : decode cX3_offer 11 = .ok (.iload_n 1, 1) := by decide +kernel
theorem dX3_offer_12 : decode cX3_offer 12 = .ok (.iload_n 2, 1) := by decide +kernel
theorem dX3_offer_13 : decode cX3_offer 13 = .ok (.invokevirtual 172, 3) := by decide +kernel
theorem dX3_offer_16 : decode cX3_offer 16 = .ok (.lstore_n 3, 1) := by decide +kernel
theorem dX3_offer_17 : decode cX3_offer 17 = .ok (.lload_n 3, 1) := by decide +kernel
theorem dX3_offer_18 : decode cX3_offer 18 = .ok (.ldc2_w 176, 3) := by decide +kernel
theorem dX3_offer_21 : decode cX3_offer 21 = .ok (.lmul, 1) := by decide +kernel
theorem dX3_offer_22 : decode cX3_offer 22 = .ok (.bipush 52, 2) := by decide +kernel
theorem dX3_offer_24 : decode cX3_offer 24 = .ok (.lushr, 1) := by decide +kernel
theorem dX3_offer_25 : decode cX3_offer 25 = .ok (.l2i, 1) := by decide +kernel
theorem dX3_offer_26 : decode cX3_offer 26 = .ok (.istore 5, 2) := by decide +kernel
theorem dX3_offer_28 : decode cX3_offer 28 = .ok (.aload_n 0, 1) := by decide +kernel
theorem dX3_offer_29 : decode cX3_offer 29 = .ok (.getfield 62, 3) := by decide +kernel
theorem dX3_offer_32 : decode cX3_offer 32 = .ok (.iload 5, 2) := by decide +kernel
theorem dX3_offer_34 : decode cX3_offer 34 = .ok (.iaload, 1) := by decide +kernel
theorem dX3_offer_35 : decode cX3_offer 35 = .ok (.ifCond .le 35, 3) := by decide +kernel
theorem dX3_offer_38 : decode cX3_offer 38 = .ok (.aload_n 0, 1) := by decide +kernel
theorem dX3_offer_39 : decode cX3_offer 39 = .ok (.getfield 58, 3) := by decide +kernel
theorem dX3_offer_42 : decode cX3_offer 42 = .ok (.aload_n 0, 1) := by decide +kernel
theorem dX3_offer_43 : decode cX3_offer 43 = .ok (.getfield 62, 3) := by decide +kernel
theorem dX3_offer_46 : decode cX3_offer 46 = .ok (.iload 5, 2) := by decide +kernel
theorem dX3_offer_48 : decode cX3_offer 48 = .ok (.iaload, 1) := by decide +kernel
theorem dX3_offer_49 : decode cX3_offer 49 = .ok (.iconst 1, 1) := by decide +kernel
theorem dX3_offer_50 : decode cX3_offer 50 = .ok (.isub, 1) := by decide +kernel
theorem dX3_offer_51 : decode cX3_offer 51 = .ok (.laload, 1) := by decide +kernel
theorem dX3_offer_52 : decode cX3_offer 52 = .ok (.lload_n 3, 1) := by decide +kernel
theorem dX3_offer_53 : decode cX3_offer 53 = .ok (.lcmp, 1) := by decide +kernel
theorem dX3_offer_54 : decode cX3_offer 54 = .ok (.ifCond .eq 16, 3) := by decide +kernel
theorem dX3_offer_57 : decode cX3_offer 57 = .ok (.iload 5, 2) := by decide +kernel
theorem dX3_offer_59 : decode cX3_offer 59 = .ok (.iconst 1, 1) := by decide +kernel
theorem dX3_offer_60 : decode cX3_offer 60 = .ok (.iadd, 1) := by decide +kernel
theorem dX3_offer_61 : decode cX3_offer 61 = .ok (.sipush 4096, 3) := by decide +kernel
theorem dX3_offer_64 : decode cX3_offer 64 = .ok (.irem, 1) := by decide +kernel
theorem dX3_offer_65 : decode cX3_offer 65 = .ok (.istore 5, 2) := by decide +kernel
theorem dX3_offer_67 : decode cX3_offer 67 = .ok (.goto (-39), 3) := by decide +kernel
theorem dX3_offer_70 : decode cX3_offer 70 = .ok (.aload_n 0, 1) := by decide +kernel
theorem dX3_offer_71 : decode cX3_offer 71 = .ok (.getfield 62, 3) := by decide +kernel
theorem dX3_offer_74 : decode cX3_offer 74 = .ok (.iload 5, 2) := by decide +kernel
theorem dX3_offer_76 : decode cX3_offer 76 = .ok (.iaload, 1) := by decide +kernel
theorem dX3_offer_77 : decode cX3_offer 77 = .ok (.ifCond .ne 54, 3) := by decide +kernel
theorem dX3_offer_80 : decode cX3_offer 80 = .ok (.aload_n 0, 1) := by decide +kernel
theorem dX3_offer_81 : decode cX3_offer 81 = .ok (.getfield 178, 3) := by decide +kernel
theorem dX3_offer_84 : decode cX3_offer 84 = .ok (.sipush 2500, 3) := by decide +kernel
theorem dX3_offer_87 : decode cX3_offer 87 = .ok (.if_icmp .ge 44, 3) := by decide +kernel
theorem dX3_offer_90 : decode cX3_offer 90 = .ok (.aload_n 0, 1) := by decide +kernel
theorem dX3_offer_91 : decode cX3_offer 91 = .ok (.getfield 58, 3) := by decide +kernel
theorem dX3_offer_94 : decode cX3_offer 94 = .ok (.aload_n 0, 1) := by decide +kernel
theorem dX3_offer_95 : decode cX3_offer 95 = .ok (.getfield 178, 3) := by decide +kernel
theorem dX3_offer_98 : decode cX3_offer 98 = .ok (.lload_n 3, 1) := by decide +kernel
theorem dX3_offer_99 : decode cX3_offer 99 = .ok (.lastore, 1) := by decide +kernel
theorem dX3_offer_100 : decode cX3_offer 100 = .ok (.aload_n 0, 1) := by decide +kernel
theorem dX3_offer_101 : decode cX3_offer 101 = .ok (.getfield 55, 3) := by decide +kernel
theorem dX3_offer_104 : decode cX3_offer 104 = .ok (.aload_n 0, 1) := by decide +kernel
theorem dX3_offer_105 : decode cX3_offer 105 = .ok (.getfield 178, 3) := by decide +kernel
theorem dX3_offer_108 : decode cX3_offer 108 = .ok (.iload_n 1, 1) := by decide +kernel
theorem dX3_offer_109 : decode cX3_offer 109 = .ok (.iastore, 1) := by decide +kernel
theorem dX3_offer_110 : decode cX3_offer 110 = .ok (.aload_n 0, 1) := by decide +kernel
theorem dX3_offer_111 : decode cX3_offer 111 = .ok (.dup, 1) := by decide +kernel
theorem dX3_offer_112 : decode cX3_offer 112 = .ok (.getfield 178, 3) := by decide +kernel
theorem dX3_offer_115 : decode cX3_offer 115 = .ok (.iconst 1, 1) := by decide +kernel
theorem dX3_offer_116 : decode cX3_offer 116 = .ok (.iadd, 1) := by decide +kernel
theorem dX3_offer_117 : decode cX3_offer 117 = .ok (.putfield 178, 3) := by decide +kernel
theorem dX3_offer_120 : decode cX3_offer 120 = .ok (.aload_n 0, 1) := by decide +kernel
theorem dX3_offer_121 : decode cX3_offer 121 = .ok (.getfield 62, 3) := by decide +kernel
theorem dX3_offer_124 : decode cX3_offer 124 = .ok (.iload 5, 2) := by decide +kernel
theorem dX3_offer_126 : decode cX3_offer 126 = .ok (.aload_n 0, 1) := by decide +kernel
theorem dX3_offer_127 : decode cX3_offer 127 = .ok (.getfield 178, 3) := by decide +kernel
theorem dX3_offer_130 : decode cX3_offer 130 = .ok (.iastore, 1) := by decide +kernel
theorem dX3_offer_131 : decode cX3_offer 131 = .ok (.return_, 1) := by decide +kernel
theorem dX3_wipe_0 : decode cX3_wipe 0 = .ok (.aload_n 0, 1) := by decide +kernel
theorem dX3_wipe_1 : decode cX3_wipe 1 = .ok (.iconst 0, 1) := by decide +kernel
theorem dX3_wipe_2 : decode cX3_wipe 2 = .ok (.putfield 178, 3) := by decide +kernel
theorem dX3_wipe_5 : decode cX3_wipe 5 = .ok (.iconst 0, 1) := by decide +kernel
theorem dX3_wipe_6 : decode cX3_wipe 6 = .ok (.istore_n 1, 1) := by decide +kernel
theorem dX3_wipe_7 : decode cX3_wipe 7 = .ok (.iload_n 1, 1) := by decide +kernel
theorem dX3_wipe_8 : decode cX3_wipe 8 = .ok (.sipush 4096, 3) := by decide +kernel
theorem dX3_wipe_11 : decode cX3_wipe 11 = .ok (.if_icmp .ge 16, 3) := by decide +kernel
theorem dX3_wipe_14 : decode cX3_wipe 14 = .ok (.aload_n 0, 1) := by decide +kernel
theorem dX3_wipe_15 : decode cX3_wipe 15 = .ok (.getfield 62, 3) := by decide +kernel
theorem dX3_wipe_18 : decode cX3_wipe 18 = .ok (.iload_n 1, 1) := by decide +kernel
theorem dX3_wipe_19 : decode cX3_wipe 19 = .ok (.iconst 0, 1) := by decide +kernel
theorem dX3_wipe_20 : decode cX3_wipe 20 = .ok (.iastore, 1) := by decide +kernel
theorem dX3_wipe_21 : decode cX3_wipe 21 = .ok (.iinc 1 1, 3) := by decide +kernel
theorem dX3_wipe_24 : decode cX3_wipe 24 = .ok (.goto (-17), 3) := by decide +kernel
theorem dX3_wipe_27 : decode cX3_wipe 27 = .ok (.return_, 1) := by decide +kernel
theorem dX3_isUseful_0 : decode cX3_isUseful 0 = .ok (.iconst 0, 1) := by decide +kernel
theorem dX3_isUseful_1 : decode cX3_isUseful 1 = .ok (.istore_n 3, 1) := by decide +kernel
theorem dX3_isUseful_2 : decode cX3_isUseful 2 = .ok (.aload_n 0, 1) := by decide +kernel
theorem dX3_isUseful_3 : decode cX3_isUseful 3 = .ok (.getfield 159, 3) := by decide +kernel
theorem dX3_isUseful_6 : decode cX3_isUseful 6 = .ok (.istore 4, 2) := by decide +kernel
theorem dX3_isUseful_8 : decode cX3_isUseful 8 = .ok (.iload_n 3, 1) := by decide +kernel
theorem dX3_isUseful_9 : decode cX3_isUseful 9 = .ok (.iload 4, 2) := by decide +kernel
theorem dX3_isUseful_11 : decode cX3_isUseful 11 = .ok (.if_icmp .ge 47, 3) := by decide +kernel
theorem dX3_isUseful_14 : decode cX3_isUseful 14 = .ok (.iload_n 3, 1) := by decide +kernel
theorem dX3_isUseful_15 : decode cX3_isUseful 15 = .ok (.iload 4, 2) := by decide +kernel
theorem dX3_isUseful_17 : decode cX3_isUseful 17 = .ok (.iadd, 1) := by decide +kernel
theorem dX3_isUseful_18 : decode cX3_isUseful 18 = .ok (.iconst 2, 1) := by decide +kernel
theorem dX3_isUseful_19 : decode cX3_isUseful 19 = .ok (.idiv, 1) := by decide +kernel
theorem dX3_isUseful_20 : decode cX3_isUseful 20 = .ok (.istore 5, 2) := by decide +kernel
theorem dX3_isUseful_22 : decode cX3_isUseful 22 = .ok (.aload_n 0, 1) := by decide +kernel
theorem dX3_isUseful_23 : decode cX3_isUseful 23 = .ok (.getfield 43, 3) := by decide +kernel
theorem dX3_isUseful_26 : decode cX3_isUseful 26 = .ok (.iload 5, 2) := by decide +kernel
theorem dX3_isUseful_28 : decode cX3_isUseful 28 = .ok (.iaload, 1) := by decide +kernel
theorem dX3_isUseful_29 : decode cX3_isUseful 29 = .ok (.bipush 31, 2) := by decide +kernel
theorem dX3_isUseful_31 : decode cX3_isUseful 31 = .ok (.iload_n 2, 1) := by decide +kernel
theorem dX3_isUseful_32 : decode cX3_isUseful 32 = .ok (.isub, 1) := by decide +kernel
theorem dX3_isUseful_33 : decode cX3_isUseful 33 = .ok (.ishr, 1) := by decide +kernel
theorem dX3_isUseful_34 : decode cX3_isUseful 34 = .ok (.iload_n 1, 1) := by decide +kernel
theorem dX3_isUseful_35 : decode cX3_isUseful 35 = .ok (.bipush 31, 2) := by decide +kernel
theorem dX3_isUseful_37 : decode cX3_isUseful 37 = .ok (.iload_n 2, 1) := by decide +kernel
theorem dX3_isUseful_38 : decode cX3_isUseful 38 = .ok (.isub, 1) := by decide +kernel
theorem dX3_isUseful_39 : decode cX3_isUseful 39 = .ok (.ishr, 1) := by decide +kernel
theorem dX3_isUseful_40 : decode cX3_isUseful 40 = .ok (.if_icmp .ge 11, 3) := by decide +kernel
theorem dX3_isUseful_43 : decode cX3_isUseful 43 = .ok (.iload 5, 2) := by decide +kernel
theorem dX3_isUseful_45 : decode cX3_isUseful 45 = .ok (.iconst 1, 1) := by decide +kernel
theorem dX3_isUseful_46 : decode cX3_isUseful 46 = .ok (.iadd, 1) := by decide +kernel
theorem dX3_isUseful_47 : decode cX3_isUseful 47 = .ok (.istore_n 3, 1) := by decide +kernel
theorem dX3_isUseful_48 : decode cX3_isUseful 48 = .ok (.goto 7, 3) := by decide +kernel
theorem dX3_isUseful_51 : decode cX3_isUseful 51 = .ok (.iload 5, 2) := by decide +kernel
theorem dX3_isUseful_53 : decode cX3_isUseful 53 = .ok (.istore 4, 2) := by decide +kernel
theorem dX3_isUseful_55 : decode cX3_isUseful 55 = .ok (.goto (-47), 3) := by decide +kernel
theorem dX3_isUseful_58 : decode cX3_isUseful 58 = .ok (.iload_n 3, 1) := by decide +kernel
theorem dX3_isUseful_59 : decode cX3_isUseful 59 = .ok (.aload_n 0, 1) := by decide +kernel
theorem dX3_isUseful_60 : decode cX3_isUseful 60 = .ok (.getfield 159, 3) := by decide +kernel
theorem dX3_isUseful_63 : decode cX3_isUseful 63 = .ok (.if_icmp .ge 27, 3) := by decide +kernel
theorem dX3_isUseful_66 : decode cX3_isUseful 66 = .ok (.aload_n 0, 1) := by decide +kernel
theorem dX3_isUseful_67 : decode cX3_isUseful 67 = .ok (.getfield 43, 3) := by decide +kernel
theorem dX3_isUseful_70 : decode cX3_isUseful 70 = .ok (.iload_n 3, 1) := by decide +kernel
theorem dX3_isUseful_71 : decode cX3_isUseful 71 = .ok (.iaload, 1) := by decide +kernel
theorem dX3_isUseful_72 : decode cX3_isUseful 72 = .ok (.bipush 31, 2) := by decide +kernel
theorem dX3_isUseful_74 : decode cX3_isUseful 74 = .ok (.iload_n 2, 1) := by decide +kernel
theorem dX3_isUseful_75 : decode cX3_isUseful 75 = .ok (.isub, 1) := by decide +kernel
theorem dX3_isUseful_76 : decode cX3_isUseful 76 = .ok (.ishr, 1) := by decide +kernel
theorem dX3_isUseful_77 : decode cX3_isUseful 77 = .ok (.iload_n 1, 1) := by decide +kernel
theorem dX3_isUseful_78 : decode cX3_isUseful 78 = .ok (.bipush 31, 2) := by decide +kernel
theorem dX3_isUseful_80 : decode cX3_isUseful 80 = .ok (.iload_n 2, 1) := by decide +kernel
theorem dX3_isUseful_81 : decode cX3_isUseful 81 = .ok (.isub, 1) := by decide +kernel
theorem dX3_isUseful_82 : decode cX3_isUseful 82 = .ok (.ishr, 1) := by decide +kernel
theorem dX3_isUseful_83 : decode cX3_isUseful 83 = .ok (.if_icmp .ne 7, 3) := by decide +kernel
theorem dX3_isUseful_86 : decode cX3_isUseful 86 = .ok (.iconst 1, 1) := by decide +kernel
theorem dX3_isUseful_87 : decode cX3_isUseful 87 = .ok (.goto 4, 3) := by decide +kernel
theorem dX3_isUseful_90 : decode cX3_isUseful 90 = .ok (.iconst 0, 1) := by decide +kernel
theorem dX3_isUseful_91 : decode cX3_isUseful 91 = .ok (.ireturn, 1) := by decide +kernel
theorem dX3_measureLevels_0 : decode cX3_measureLevels 0 = .ok (.aload_n 0, 1) := by decide +kernel
theorem dX3_measureLevels_1 : decode cX3_measureLevels 1 = .ok (.invokevirtual 181, 3) := by decide +kernel
theorem dX3_measureLevels_4 : decode cX3_measureLevels 4 = .ok (.aload_n 0, 1) := by decide +kernel
theorem dX3_measureLevels_5 : decode cX3_measureLevels 5 = .ok (.getfield 156, 3) := by decide +kernel
theorem dX3_measureLevels_8 : decode cX3_measureLevels 8 = .ok (.ifCond .eq 4, 3) := by decide +kernel
theorem dX3_measureLevels_11 : decode cX3_measureLevels 11 = .ok (.return_, 1) := by decide +kernel
theorem dX3_measureLevels_12 : decode cX3_measureLevels 12 = .ok (.aload_n 0, 1) := by decide +kernel
theorem dX3_measureLevels_13 : decode cX3_measureLevels 13 = .ok (.iconst 1, 1) := by decide +kernel
theorem dX3_measureLevels_14 : decode cX3_measureLevels 14 = .ok (.putfield 156, 3) := by decide +kernel
theorem dX3_measureLevels_17 : decode cX3_measureLevels 17 = .ok (.aload_n 0, 1) := by decide +kernel
theorem dX3_measureLevels_18 : decode cX3_measureLevels 18 = .ok (.iconst 1, 1) := by decide +kernel
theorem dX3_measureLevels_19 : decode cX3_measureLevels 19 = .ok (.putfield 184, 3) := by decide +kernel
theorem dX3_measureLevels_22 : decode cX3_measureLevels 22 = .ok (.aload_n 0, 1) := by decide +kernel
theorem dX3_measureLevels_23 : decode cX3_measureLevels 23 = .ok (.getfield 52, 3) := by decide +kernel
theorem dX3_measureLevels_26 : decode cX3_measureLevels 26 = .ok (.iconst 0, 1) := by decide +kernel
theorem dX3_measureLevels_27 : decode cX3_measureLevels 27 = .ok (.iconst 0, 1) := by decide +kernel
theorem dX3_measureLevels_28 : decode cX3_measureLevels 28 = .ok (.iastore, 1) := by decide +kernel
theorem dX3_measureLevels_29 : decode cX3_measureLevels 29 = .ok (.iconst 0, 1) := by decide +kernel
theorem dX3_measureLevels_30 : decode cX3_measureLevels 30 = .ok (.istore_n 1, 1) := by decide +kernel
theorem dX3_measureLevels_31 : decode cX3_measureLevels 31 = .ok (.iload_n 1, 1) := by decide +kernel
theorem dX3_measureLevels_32 : decode cX3_measureLevels 32 = .ok (.aload_n 0, 1) := by decide +kernel
theorem dX3_measureLevels_33 : decode cX3_measureLevels 33 = .ok (.getfield 93, 3) := by decide +kernel
theorem dX3_measureLevels_36 : decode cX3_measureLevels 36 = .ok (.if_icmp .gt 158, 3) := by decide +kernel
theorem dX3_measureLevels_39 : decode cX3_measureLevels 39 = .ok (.aload_n 0, 1) := by decide +kernel
theorem dX3_measureLevels_40 : decode cX3_measureLevels 40 = .ok (.getfield 46, 3) := by decide +kernel
theorem dX3_measureLevels_43 : decode cX3_measureLevels 43 = .ok (.iload_n 1, 1) := by decide +kernel
theorem dX3_measureLevels_44 : decode cX3_measureLevels 44 = .ok (.aload_n 0, 1) := by decide +kernel
theorem dX3_measureLevels_45 : decode cX3_measureLevels 45 = .ok (.getfield 184, 3) := by decide +kernel
theorem dX3_measureLevels_48 : decode cX3_measureLevels 48 = .ok (.iastore, 1) := by decide +kernel
theorem dX3_measureLevels_49 : decode cX3_measureLevels 49 = .ok (.aload_n 0, 1) := by decide +kernel
theorem dX3_measureLevels_50 : decode cX3_measureLevels 50 = .ok (.getfield 49, 3) := by decide +kernel
theorem dX3_measureLevels_53 : decode cX3_measureLevels 53 = .ok (.iload_n 1, 1) := by decide +kernel
theorem dX3_measureLevels_54 : decode cX3_measureLevels 54 = .ok (.iconst 0, 1) := by decide +kernel
theorem dX3_measureLevels_55 : decode cX3_measureLevels 55 = .ok (.iastore, 1) := by decide +kernel
theorem dX3_measureLevels_56 : decode cX3_measureLevels 56 = .ok (.aload_n 0, 1) := by decide +kernel
theorem dX3_measureLevels_57 : decode cX3_measureLevels 57 = .ok (.invokevirtual 187, 3) := by decide +kernel
theorem dX3_measureLevels_60 : decode cX3_measureLevels 60 = .ok (.iconst 0, 1) := by decide +kernel
theorem dX3_measureLevels_61 : decode cX3_measureLevels 61 = .ok (.istore_n 2, 1) := by decide +kernel
theorem dX3_measureLevels_62 : decode cX3_measureLevels 62 = .ok (.iload_n 2, 1) := by decide +kernel
theorem dX3_measureLevels_63 : decode cX3_measureLevels 63 = .ok (.aload_n 0, 1) := by decide +kernel
theorem dX3_measureLevels_64 : decode cX3_measureLevels 64 = .ok (.getfield 184, 3) := by decide +kernel
theorem dX3_measureLevels_67 : decode cX3_measureLevels 67 = .ok (.if_icmp .ge 85, 3) := by decide +kernel
theorem dX3_measureLevels_70 : decode cX3_measureLevels 70 = .ok (.aload_n 0, 1) := by decide +kernel
theorem dX3_measureLevels_71 : decode cX3_measureLevels 71 = .ok (.getfield 49, 3) := by decide +kernel
theorem dX3_measureLevels_74 : decode cX3_measureLevels 74 = .ok (.iload_n 1, 1) := by decide +kernel
theorem dX3_measureLevels_75 : decode cX3_measureLevels 75 = .ok (.aload_n 0, 1) := by decide +kernel
theorem dX3_measureLevels_76 : decode cX3_measureLevels 76 = .ok (.aload_n 0, 1) := by decide +kernel
theorem dX3_measureLevels_77 : decode cX3_measureLevels 77 = .ok (.getfield 52, 3) := by decide +kernel
theorem dX3_measureLevels_80 : decode cX3_measureLevels 80 = .ok (.iload_n 2, 1) := by decide +kernel
theorem dX3_measureLevels_81 : decode cX3_measureLevels 81 = .ok (.iaload, 1) := by decide +kernel
theorem dX3_measureLevels_82 : decode cX3_measureLevels 82 = .ok (.iload_n 1, 1) := by decide +kernel
theorem dX3_measureLevels_83 : decode cX3_measureLevels 83 = .ok (.invokevirtual 190, 3) := by decide +kernel
theorem dX3_measureLevels_86 : decode cX3_measureLevels 86 = .ok (.ifCond .eq 14, 3) := by decide +kernel
theorem dX3_measureLevels_89 : decode cX3_measureLevels 89 = .ok (.aload_n 0, 1) := by decide +kernel
theorem dX3_measureLevels_90 : decode cX3_measureLevels 90 = .ok (.getfield 49, 3) := by decide +kernel
theorem dX3_measureLevels_93 : decode cX3_measureLevels 93 = .ok (.iload_n 1, 1) := by decide +kernel
theorem dX3_measureLevels_94 : decode cX3_measureLevels 94 = .ok (.iaload, 1) := by decide +kernel
theorem dX3_measureLevels_95 : decode cX3_measureLevels 95 = .ok (.iconst 1, 1) := by decide +kernel
theorem dX3_measureLevels_96 : decode cX3_measureLevels 96 = .ok (.iadd, 1) := by decide +kernel
theorem dX3_measureLevels_97 : decode cX3_measureLevels 97 = .ok (.goto 9, 3) := by decide +kernel
theorem dX3_measureLevels_100 : decode cX3_measureLevels 100 = .ok (.aload_n 0, 1) := by decide +kernel
theorem dX3_measureLevels_101 : decode cX3_measureLevels 101 = .ok (.getfield 49, 3) := by decide +kernel
theorem dX3_measureLevels_104 : decode cX3_measureLevels 104 = .ok (.iload_n 1, 1) := by decide +kernel
theorem dX3_measureLevels_105 : decode cX3_measureLevels 105 = .ok (.iaload, 1) := by decide +kernel
theorem dX3_measureLevels_106 : decode cX3_measureLevels 106 = .ok (.iastore, 1) := by decide +kernel
theorem dX3_measureLevels_107 : decode cX3_measureLevels 107 = .ok (.iload_n 1, 1) := by decide +kernel
theorem dX3_measureLevels_108 : decode cX3_measureLevels 108 = .ok (.aload_n 0, 1) := by decide +kernel
theorem dX3_measureLevels_109 : decode cX3_measureLevels 109 = .ok (.getfield 93, 3) := by decide +kernel
theorem dX3_measureLevels_112 : decode cX3_measureLevels 112 = .ok (.if_icmp .ge 34, 3) := by decide +kernel
theorem dX3_measureLevels_115 : decode cX3_measureLevels 115 = .ok (.aload_n 0, 1) := by decide +kernel
theorem dX3_measureLevels_116 : decode cX3_measureLevels 116 = .ok (.aload_n 0, 1) := by decide +kernel
theorem dX3_measureLevels_117 : decode cX3_measureLevels 117 = .ok (.getfield 52, 3) := by decide +kernel
theorem dX3_measureLevels_120 : decode cX3_measureLevels 120 = .ok (.iload_n 2, 1) := by decide +kernel
theorem dX3_measureLevels_121 : decode cX3_measureLevels 121 = .ok (.iaload, 1) := by decide +kernel
theorem dX3_measureLevels_122 : decode cX3_measureLevels 122 = .ok (.iload_n 1, 1) := by decide +kernel
theorem dX3_measureLevels_123 : decode cX3_measureLevels 123 = .ok (.iconst 1, 1) := by decide +kernel
theorem dX3_measureLevels_124 : decode cX3_measureLevels 124 = .ok (.iadd, 1) := by decide +kernel
theorem dX3_measureLevels_125 : decode cX3_measureLevels 125 = .ok (.invokevirtual 193, 3) := by decide +kernel
theorem dX3_measureLevels_128 : decode cX3_measureLevels 128 = .ok (.aload_n 0, 1) := by decide +kernel
theorem dX3_measureLevels_129 : decode cX3_measureLevels 129 = .ok (.aload_n 0, 1) := by decide +kernel
theorem dX3_measureLevels_130 : decode cX3_measureLevels 130 = .ok (.getfield 52, 3) := by decide +kernel
theorem dX3_measureLevels_133 : decode cX3_measureLevels 133 = .ok (.iload_n 2, 1) := by decide +kernel
theorem dX3_measureLevels_134 : decode cX3_measureLevels 134 = .ok (.iaload, 1) := by decide +kernel
theorem dX3_measureLevels_135 : decode cX3_measureLevels 135 = .ok (.iload_n 1, 1) := by decide +kernel
theorem dX3_measureLevels_136 : decode cX3_measureLevels 136 = .ok (.invokestatic 136, 3) := by decide +kernel
theorem dX3_measureLevels_139 : decode cX3_measureLevels 139 = .ok (.ior, 1) := by decide +kernel
theorem dX3_measureLevels_140 : decode cX3_measureLevels 140 = .ok (.iload_n 1, 1) := by decide +kernel
theorem dX3_measureLevels_141 : decode cX3_measureLevels 141 = .ok (.iconst 1, 1) := by decide +kernel
theorem dX3_measureLevels_142 : decode cX3_measureLevels 142 = .ok (.iadd, 1) := by decide +kernel
theorem dX3_measureLevels_143 : decode cX3_measureLevels 143 = .ok (.invokevirtual 193, 3) := by decide +kernel
theorem dX3_measureLevels_146 : decode cX3_measureLevels 146 = .ok (.iinc 2 1, 3) := by decide +kernel
theorem dX3_measureLevels_149 : decode cX3_measureLevels 149 = .ok (.goto (-87), 3) := by decide +kernel
theorem dX3_measureLevels_152 : decode cX3_measureLevels 152 = .ok (.aload_n 0, 1) := by decide +kernel
theorem dX3_measureLevels_153 : decode cX3_measureLevels 153 = .ok (.aload_n 0, 1) := by decide +kernel
theorem dX3_measureLevels_154 : decode cX3_measureLevels 154 = .ok (.getfield 178, 3) := by decide +kernel
theorem dX3_measureLevels_157 : decode cX3_measureLevels 157 = .ok (.putfield 184, 3) := by decide +kernel
theorem dX3_measureLevels_160 : decode cX3_measureLevels 160 = .ok (.iconst 0, 1) := by decide +kernel
theorem dX3_measureLevels_161 : decode cX3_measureLevels 161 = .ok (.istore_n 2, 1) := by decide +kernel
theorem dX3_measureLevels_162 : decode cX3_measureLevels 162 = .ok (.iload_n 2, 1) := by decide +kernel
theorem dX3_measureLevels_163 : decode cX3_measureLevels 163 = .ok (.aload_n 0, 1) := by decide +kernel
theorem dX3_measureLevels_164 : decode cX3_measureLevels 164 = .ok (.getfield 184, 3) := by decide +kernel
theorem dX3_measureLevels_167 : decode cX3_measureLevels 167 = .ok (.if_icmp .ge 21, 3) := by decide +kernel
theorem dX3_measureLevels_170 : decode cX3_measureLevels 170 = .ok (.aload_n 0, 1) := by decide +kernel
theorem dX3_measureLevels_171 : decode cX3_measureLevels 171 = .ok (.getfield 52, 3) := by decide +kernel
theorem dX3_measureLevels_174 : decode cX3_measureLevels 174 = .ok (.iload_n 2, 1) := by decide +kernel
theorem dX3_measureLevels_175 : decode cX3_measureLevels 175 = .ok (.aload_n 0, 1) := by decide +kernel
theorem dX3_measureLevels_176 : decode cX3_measureLevels 176 = .ok (.getfield 55, 3) := by decide +kernel
theorem dX3_measureLevels_179 : decode cX3_measureLevels 179 = .ok (.iload_n 2, 1) := by decide +kernel
theorem dX3_measureLevels_180 : decode cX3_measureLevels 180 = .ok (.iaload, 1) := by decide +kernel
theorem dX3_measureLevels_181 : decode cX3_measureLevels 181 = .ok (.iastore, 1) := by decide +kernel
theorem dX3_measureLevels_182 : decode cX3_measureLevels 182 = .ok (.iinc 2 1, 3) := by decide +kernel
theorem dX3_measureLevels_185 : decode cX3_measureLevels 185 = .ok (.goto (-23), 3) := by decide +kernel
theorem dX3_measureLevels_188 : decode cX3_measureLevels 188 = .ok (.iinc 1 1, 3) := by decide +kernel
theorem dX3_measureLevels_191 : decode cX3_measureLevels 191 = .ok (.goto (-160), 3) := by decide +kernel
theorem dX3_measureLevels_194 : decode cX3_measureLevels 194 = .ok (.return_, 1) := by decide +kernel
theorem dX3_edges_0 : decode cX3_edges 0 = .ok (.aload_n 0, 1) := by decide +kernel
theorem dX3_edges_1 : decode cX3_edges 1 = .ok (.iconst 0, 1) := by decide +kernel
theorem dX3_edges_2 : decode cX3_edges 2 = .ok (.putfield 103, 3) := by decide +kernel
theorem dX3_edges_5 : decode cX3_edges 5 = .ok (.aload_n 0, 1) := by decide +kernel
theorem dX3_edges_6 : decode cX3_edges 6 = .ok (.getfield 93, 3) := by decide +kernel
theorem dX3_edges_9 : decode cX3_edges 9 = .ok (.ireturn, 1) := by decide +kernel
theorem dX3_isEdge_0 : decode cX3_isEdge 0 = .ok (.iload_n 1, 1) := by decide +kernel
theorem dX3_isEdge_1 : decode cX3_isEdge 1 = .ok (.ifCond .lt 15, 3) := by decide +kernel
theorem dX3_isEdge_4 : decode cX3_isEdge 4 = .ok (.iload_n 1, 1) := by decide +kernel
theorem dX3_isEdge_5 : decode cX3_isEdge 5 = .ok (.aload_n 0, 1) := by decide +kernel
theorem dX3_isEdge_6 : decode cX3_isEdge 6 = .ok (.getfield 93, 3) := by decide +kernel
theorem dX3_isEdge_9 : decode cX3_isEdge 9 = .ok (.if_icmp .ge 7, 3) := by decide +kernel
theorem dX3_isEdge_12 : decode cX3_isEdge 12 = .ok (.iconst 1, 1) := by decide +kernel
theorem dX3_isEdge_13 : decode cX3_isEdge 13 = .ok (.goto 4, 3) := by decide +kernel
theorem dX3_isEdge_16 : decode cX3_isEdge 16 = .ok (.iconst 0, 1) := by decide +kernel
theorem dX3_isEdge_17 : decode cX3_isEdge 17 = .ok (.ireturn, 1) := by decide +kernel
theorem dX3_point_0 : decode cX3_point 0 = .ok (.aload_n 0, 1) := by decide +kernel
theorem dX3_point_1 : decode cX3_point 1 = .ok (.aload_n 0, 1) := by decide +kernel
theorem dX3_point_2 : decode cX3_point 2 = .ok (.iload_n 1, 1) := by decide +kernel
theorem dX3_point_3 : decode cX3_point 3 = .ok (.invokevirtual 196, 3) := by decide +kernel
theorem dX3_point_6 : decode cX3_point 6 = .ok (.ifCond .eq 7, 3) := by decide +kernel
theorem dX3_point_9 : decode cX3_point 9 = .ok (.iconst 0, 1) := by decide +kernel
theorem dX3_point_10 : decode cX3_point 10 = .ok (.goto 4, 3) := by decide +kernel
theorem dX3_point_13 : decode cX3_point 13 = .ok (.iconst 1, 1) := by decide +kernel
theorem dX3_point_14 : decode cX3_point 14 = .ok (.putfield 103, 3) := by decide +kernel
theorem dX3_point_17 : decode cX3_point 17 = .ok (.aload_n 0, 1) := by decide +kernel
theorem dX3_point_18 : decode cX3_point 18 = .ok (.getfield 103, 3) := by decide +kernel
theorem dX3_point_21 : decode cX3_point 21 = .ok (.ifCond .le 7, 3) := by decide +kernel
theorem dX3_point_24 : decode cX3_point 24 = .ok (.iconst 0, 1) := by decide +kernel
theorem dX3_point_25 : decode cX3_point 25 = .ok (.goto 22, 3) := by decide +kernel
theorem dX3_point_28 : decode cX3_point 28 = .ok (.iload_n 2, 1) := by decide +kernel
theorem dX3_point_29 : decode cX3_point 29 = .ok (.ifCond .eq 12, 3) := by decide +kernel
theorem dX3_point_32 : decode cX3_point 32 = .ok (.aload_n 0, 1) := by decide +kernel
theorem dX3_point_33 : decode cX3_point 33 = .ok (.getfield 13, 3) := by decide +kernel
theorem dX3_point_36 : decode cX3_point 36 = .ok (.iload_n 1, 1) := by decide +kernel
theorem dX3_point_37 : decode cX3_point 37 = .ok (.iaload, 1) := by decide +kernel
theorem dX3_point_38 : decode cX3_point 38 = .ok (.goto 9, 3) := by decide +kernel
theorem dX3_point_41 : decode cX3_point 41 = .ok (.aload_n 0, 1) := by decide +kernel
theorem dX3_point_42 : decode cX3_point 42 = .ok (.getfield 7, 3) := by decide +kernel
theorem dX3_point_45 : decode cX3_point 45 = .ok (.iload_n 1, 1) := by decide +kernel
theorem dX3_point_46 : decode cX3_point 46 = .ok (.iaload, 1) := by decide +kernel
theorem dX3_point_47 : decode cX3_point 47 = .ok (.ireturn, 1) := by decide +kernel
theorem dX3_clue_0 : decode cX3_clue 0 = .ok (.aload_n 0, 1) := by decide +kernel
theorem dX3_clue_1 : decode cX3_clue 1 = .ok (.iload_n 1, 1) := by decide +kernel
theorem dX3_clue_2 : decode cX3_clue 2 = .ok (.iload_n 2, 1) := by decide +kernel
theorem dX3_clue_3 : decode cX3_clue 3 = .ok (.invokevirtual 82, 3) := by decide +kernel
theorem dX3_clue_6 : decode cX3_clue 6 = .ok (.istore 4, 2) := by decide +kernel
theorem dX3_clue_8 : decode cX3_clue 8 = .ok (.aload_n 0, 1) := by decide +kernel
theorem dX3_clue_9 : decode cX3_clue 9 = .ok (.iload 4, 2) := by decide +kernel
theorem dX3_clue_11 : decode cX3_clue 11 = .ok (.ifCond .ge 7, 3) := by decide +kernel
theorem dX3_clue_14 : decode cX3_clue 14 = .ok (.iconst 1, 1) := by decide +kernel
theorem dX3_clue_15 : decode cX3_clue 15 = .ok (.goto 18, 3) := by decide +kernel
theorem dX3_clue_18 : decode cX3_clue 18 = .ok (.iload_n 3, 1) := by decide +kernel
theorem dX3_clue_19 : decode cX3_clue 19 = .ok (.iconst (-1), 1) := by decide +kernel
theorem dX3_clue_20 : decode cX3_clue 20 = .ok (.if_icmp .lt 8, 3) := by decide +kernel
theorem dX3_clue_23 : decode cX3_clue 23 = .ok (.iload_n 3, 1) := by decide +kernel
theorem dX3_clue_24 : decode cX3_clue 24 = .ok (.iconst 4, 1) := by decide +kernel
theorem dX3_clue_25 : decode cX3_clue 25 = .ok (.if_icmp .le 7, 3) := by decide +kernel
theorem dX3_clue_28 : decode cX3_clue 28 = .ok (.iconst 2, 1) := by decide +kernel
theorem dX3_clue_29 : decode cX3_clue 29 = .ok (.goto 4, 3) := by decide +kernel
theorem dX3_clue_32 : decode cX3_clue 32 = .ok (.iconst 0, 1) := by decide +kernel
theorem dX3_clue_33 : decode cX3_clue 33 = .ok (.putfield 103, 3) := by decide +kernel
theorem dX3_clue_36 : decode cX3_clue 36 = .ok (.aload_n 0, 1) := by decide +kernel
theorem dX3_clue_37 : decode cX3_clue 37 = .ok (.getfield 103, 3) := by decide +kernel
theorem dX3_clue_40 : decode cX3_clue 40 = .ok (.ifCond .ne 16, 3) := by decide +kernel
theorem dX3_clue_43 : decode cX3_clue 43 = .ok (.aload_n 0, 1) := by decide +kernel
theorem dX3_clue_44 : decode cX3_clue 44 = .ok (.getfield 40, 3) := by decide +kernel
theorem dX3_clue_47 : decode cX3_clue 47 = .ok (.iload 4, 2) := by decide +kernel
theorem dX3_clue_49 : decode cX3_clue 49 = .ok (.iload_n 3, 1) := by decide +kernel
theorem dX3_clue_50 : decode cX3_clue 50 = .ok (.iastore, 1) := by decide +kernel
theorem dX3_clue_51 : decode cX3_clue 51 = .ok (.aload_n 0, 1) := by decide +kernel
theorem dX3_clue_52 : decode cX3_clue 52 = .ok (.iconst 0, 1) := by decide +kernel
theorem dX3_clue_53 : decode cX3_clue 53 = .ok (.putfield 152, 3) := by decide +kernel
theorem dX3_clue_56 : decode cX3_clue 56 = .ok (.return_, 1) := by decide +kernel
theorem dX3_clueOf_0 : decode cX3_clueOf 0 = .ok (.aload_n 0, 1) := by decide +kernel
theorem dX3_clueOf_1 : decode cX3_clueOf 1 = .ok (.iload_n 1, 1) := by decide +kernel
theorem dX3_clueOf_2 : decode cX3_clueOf 2 = .ok (.iload_n 2, 1) := by decide +kernel
theorem dX3_clueOf_3 : decode cX3_clueOf 3 = .ok (.invokevirtual 82, 3) := by decide +kernel
theorem dX3_clueOf_6 : decode cX3_clueOf 6 = .ok (.istore_n 3, 1) := by decide +kernel
theorem dX3_clueOf_7 : decode cX3_clueOf 7 = .ok (.aload_n 0, 1) := by decide +kernel
theorem dX3_clueOf_8 : decode cX3_clueOf 8 = .ok (.iload_n 3, 1) := by decide +kernel
theorem dX3_clueOf_9 : decode cX3_clueOf 9 = .ok (.ifCond .ge 7, 3) := by decide +kernel
theorem dX3_clueOf_12 : decode cX3_clueOf 12 = .ok (.iconst 1, 1) := by decide +kernel
theorem dX3_clueOf_13 : decode cX3_clueOf 13 = .ok (.goto 4, 3) := by decide +kernel
theorem dX3_clueOf_16 : decode cX3_clueOf 16 = .ok (.iconst 0, 1) := by decide +kernel
theorem dX3_clueOf_17 : decode cX3_clueOf 17 = .ok (.putfield 103, 3) := by decide +kernel
theorem dX3_clueOf_20 : decode cX3_clueOf 20 = .ok (.iload_n 3, 1) := by decide +kernel
theorem dX3_clueOf_21 : decode cX3_clueOf 21 = .ok (.ifCond .ge 7, 3) := by decide +kernel
theorem dX3_clueOf_24 : decode cX3_clueOf 24 = .ok (.iconst 0, 1) := by decide +kernel
theorem dX3_clueOf_25 : decode cX3_clueOf 25 = .ok (.goto 9, 3) := by decide +kernel
theorem dX3_clueOf_28 : decode cX3_clueOf 28 = .ok (.aload_n 0, 1) := by decide +kernel
theorem dX3_clueOf_29 : decode cX3_clueOf 29 = .ok (.getfield 40, 3) := by decide +kernel
theorem dX3_clueOf_32 : decode cX3_clueOf 32 = .ok (.iload_n 3, 1) := by decide +kernel
theorem dX3_clueOf_33 : decode cX3_clueOf 33 = .ok (.iaload, 1) := by decide +kernel
theorem dX3_clueOf_34 : decode cX3_clueOf 34 = .ok (.ireturn, 1) := by decide +kernel
theorem dX3_count_0 : decode cX3_count 0 = .ok (.aload_n 0, 1) := by decide +kernel
theorem dX3_count_1 : decode cX3_count 1 = .ok (.iconst 0, 1) := by decide +kernel
theorem dX3_count_2 : decode cX3_count 2 = .ok (.putfield 103, 3) := by decide +kernel
theorem dX3_count_5 : decode cX3_count 5 = .ok (.aload_n 0, 1) := by decide +kernel
theorem dX3_count_6 : decode cX3_count 6 = .ok (.invokevirtual 181, 3) := by decide +kernel
theorem dX3_count_9 : decode cX3_count 9 = .ok (.aload_n 0, 1) := by decide +kernel
theorem dX3_count_10 : decode cX3_count 10 = .ok (.getfield 159, 3) := by decide +kernel
theorem dX3_count_13 : decode cX3_count 13 = .ok (.ireturn, 1) := by decide +kernel
theorem dX3_width_0 : decode cX3_width 0 = .ok (.aload_n 0, 1) := by decide +kernel
theorem dX3_width_1 : decode cX3_width 1 = .ok (.iload_n 1, 1) := by decide +kernel
theorem dX3_width_2 : decode cX3_width 2 = .ok (.ifCond .lt 11, 3) := by decide +kernel
theorem dX3_width_5 : decode cX3_width 5 = .ok (.iload_n 1, 1) := by decide +kernel
theorem dX3_width_6 : decode cX3_width 6 = .ok (.aload_n 0, 1) := by decide +kernel
theorem dX3_width_7 : decode cX3_width 7 = .ok (.getfield 93, 3) := by decide +kernel
theorem dX3_width_10 : decode cX3_width 10 = .ok (.if_icmp .le 7, 3) := by decide +kernel
theorem dX3_width_13 : decode cX3_width 13 = .ok (.iconst 1, 1) := by decide +kernel
theorem dX3_width_14 : decode cX3_width 14 = .ok (.goto 4, 3) := by decide +kernel
theorem dX3_width_17 : decode cX3_width 17 = .ok (.iconst 0, 1) := by decide +kernel
theorem dX3_width_18 : decode cX3_width 18 = .ok (.putfield 103, 3) := by decide +kernel
theorem dX3_width_21 : decode cX3_width 21 = .ok (.aload_n 0, 1) := by decide +kernel
theorem dX3_width_22 : decode cX3_width 22 = .ok (.getfield 103, 3) := by decide +kernel
theorem dX3_width_25 : decode cX3_width 25 = .ok (.ifCond .le 5, 3) := by decide +kernel
theorem dX3_width_28 : decode cX3_width 28 = .ok (.iconst 0, 1) := by decide +kernel
theorem dX3_width_29 : decode cX3_width 29 = .ok (.ireturn, 1) := by decide +kernel
theorem dX3_width_30 : decode cX3_width 30 = .ok (.aload_n 0, 1) := by decide +kernel
theorem dX3_width_31 : decode cX3_width 31 = .ok (.invokevirtual 199, 3) := by decide +kernel
theorem dX3_width_34 : decode cX3_width 34 = .ok (.iload_n 2, 1) := by decide +kernel
theorem dX3_width_35 : decode cX3_width 35 = .ok (.ifCond .eq 12, 3) := by decide +kernel
theorem dX3_width_38 : decode cX3_width 38 = .ok (.aload_n 0, 1) := by decide +kernel
theorem dX3_width_39 : decode cX3_width 39 = .ok (.getfield 49, 3) := by decide +kernel
theorem dX3_width_42 : decode cX3_width 42 = .ok (.iload_n 1, 1) := by decide +kernel
theorem dX3_width_43 : decode cX3_width 43 = .ok (.iaload, 1) := by decide +kernel
theorem dX3_width_44 : decode cX3_width 44 = .ok (.goto 9, 3) := by decide +kernel
theorem dX3_width_47 : decode cX3_width 47 = .ok (.aload_n 0, 1) := by decide +kernel
theorem dX3_width_48 : decode cX3_width 48 = .ok (.getfield 46, 3) := by decide +kernel
theorem dX3_width_51 : decode cX3_width 51 = .ok (.iload_n 1, 1) := by decide +kernel
theorem dX3_width_52 : decode cX3_width 52 = .ok (.iaload, 1) := by decide +kernel
theorem dX3_width_53 : decode cX3_width 53 = .ok (.ireturn, 1) := by decide +kernel
theorem dX3_nodes_0 : decode cX3_nodes 0 = .ok (.aload_n 0, 1) := by decide +kernel
theorem dX3_nodes_1 : decode cX3_nodes 1 = .ok (.iconst 0, 1) := by decide +kernel
theorem dX3_nodes_2 : decode cX3_nodes 2 = .ok (.putfield 103, 3) := by decide +kernel
theorem dX3_nodes_5 : decode cX3_nodes 5 = .ok (.aload_n 0, 1) := by decide +kernel
theorem dX3_nodes_6 : decode cX3_nodes 6 = .ok (.invokevirtual 199, 3) := by decide +kernel
theorem dX3_nodes_9 : decode cX3_nodes 9 = .ok (.iconst 0, 1) := by decide +kernel
theorem dX3_nodes_10 : decode cX3_nodes 10 = .ok (.istore_n 1, 1) := by decide +kernel
theorem dX3_nodes_11 : decode cX3_nodes 11 = .ok (.iconst 0, 1) := by decide +kernel
theorem dX3_nodes_12 : decode cX3_nodes 12 = .ok (.istore_n 2, 1) := by decide +kernel
theorem dX3_nodes_13 : decode cX3_nodes 13 = .ok (.iload_n 2, 1) := by decide +kernel
theorem dX3_nodes_14 : decode cX3_nodes 14 = .ok (.aload_n 0, 1) := by decide +kernel
theorem dX3_nodes_15 : decode cX3_nodes 15 = .ok (.getfield 93, 3) := by decide +kernel
theorem dX3_nodes_18 : decode cX3_nodes 18 = .ok (.if_icmp .gt 18, 3) := by decide +kernel
theorem dX3_nodes_21 : decode cX3_nodes 21 = .ok (.iload_n 1, 1) := by decide +kernel
theorem dX3_nodes_22 : decode cX3_nodes 22 = .ok (.aload_n 0, 1) := by decide +kernel
theorem dX3_nodes_23 : decode cX3_nodes 23 = .ok (.getfield 46, 3) := by decide +kernel
theorem dX3_nodes_26 : decode cX3_nodes 26 = .ok (.iload_n 2, 1) := by decide +kernel
theorem dX3_nodes_27 : decode cX3_nodes 27 = .ok (.iaload, 1) := by decide +kernel
theorem dX3_nodes_28 : decode cX3_nodes 28 = .ok (.iadd, 1) := by decide +kernel
theorem dX3_nodes_29 : decode cX3_nodes 29 = .ok (.istore_n 1, 1) := by decide +kernel
theorem dX3_nodes_30 : decode cX3_nodes 30 = .ok (.iinc 2 1, 3) := by decide +kernel
theorem dX3_nodes_33 : decode cX3_nodes 33 = .ok (.goto (-20), 3) := by decide +kernel
theorem dX3_nodes_36 : decode cX3_nodes 36 = .ok (.iload_n 1, 1) := by decide +kernel
theorem dX3_nodes_37 : decode cX3_nodes 37 = .ok (.ireturn, 1) := by decide +kernel
theorem dX3_isSolution_0 : decode cX3_isSolution 0 = .ok (.aload_n 0, 1) := by decide +kernel
theorem dX3_isSolution_1 : decode cX3_isSolution 1 = .ok (.invokevirtual 181, 3) := by decide +kernel
theorem dX3_isSolution_4 : decode cX3_isSolution 4 = .ok (.iload_n 1, 1) := by decide +kernel
theorem dX3_isSolution_5 : decode cX3_isSolution 5 = .ok (.ifCond .lt 15, 3) := by decide +kernel
theorem dX3_isSolution_8 : decode cX3_isSolution 8 = .ok (.iload_n 1, 1) := by decide +kernel
theorem dX3_isSolution_9 : decode cX3_isSolution 9 = .ok (.aload_n 0, 1) := by decide +kernel
theorem dX3_isSolution_10 : decode cX3_isSolution 10 = .ok (.getfield 159, 3) := by decide +kernel
theorem dX3_isSolution_13 : decode cX3_isSolution 13 = .ok (.if_icmp .ge 7, 3) := by decide +kernel
theorem dX3_isSolution_16 : decode cX3_isSolution 16 = .ok (.iconst 1, 1) := by decide +kernel
theorem dX3_isSolution_17 : decode cX3_isSolution 17 = .ok (.goto 4, 3) := by decide +kernel
theorem dX3_isSolution_20 : decode cX3_isSolution 20 = .ok (.iconst 0, 1) := by decide +kernel
theorem dX3_isSolution_21 : decode cX3_isSolution 21 = .ok (.ireturn, 1) := by decide +kernel
theorem dX3_has_0 : decode cX3_has 0 = .ok (.aload_n 0, 1) := by decide +kernel
theorem dX3_has_1 : decode cX3_has 1 = .ok (.aload_n 0, 1) := by decide +kernel
theorem dX3_has_2 : decode cX3_has 2 = .ok (.iload_n 1, 1) := by decide +kernel
theorem dX3_has_3 : decode cX3_has 3 = .ok (.invokevirtual 202, 3) := by decide +kernel
theorem dX3_has_6 : decode cX3_has 6 = .ok (.ifCond .ne 7, 3) := by decide +kernel
theorem dX3_has_9 : decode cX3_has 9 = .ok (.iconst 1, 1) := by decide +kernel
theorem dX3_has_10 : decode cX3_has 10 = .ok (.goto 16, 3) := by decide +kernel
theorem dX3_has_13 : decode cX3_has 13 = .ok (.aload_n 0, 1) := by decide +kernel
theorem dX3_has_14 : decode cX3_has 14 = .ok (.iload_n 2, 1) := by decide +kernel
theorem dX3_has_15 : decode cX3_has 15 = .ok (.invokevirtual 196, 3) := by decide +kernel
theorem dX3_has_18 : decode cX3_has 18 = .ok (.ifCond .ne 7, 3) := by decide +kernel
theorem dX3_has_21 : decode cX3_has 21 = .ok (.iconst 2, 1) := by decide +kernel
theorem dX3_has_22 : decode cX3_has 22 = .ok (.goto 4, 3) := by decide +kernel
theorem dX3_has_25 : decode cX3_has 25 = .ok (.iconst 0, 1) := by decide +kernel
theorem dX3_has_26 : decode cX3_has 26 = .ok (.putfield 103, 3) := by decide +kernel
theorem dX3_has_29 : decode cX3_has 29 = .ok (.aload_n 0, 1) := by decide +kernel
theorem dX3_has_30 : decode cX3_has 30 = .ok (.getfield 103, 3) := by decide +kernel
theorem dX3_has_33 : decode cX3_has 33 = .ok (.ifCond .ne 20, 3) := by decide +kernel
theorem dX3_has_36 : decode cX3_has 36 = .ok (.aload_n 0, 1) := by decide +kernel
theorem dX3_has_37 : decode cX3_has 37 = .ok (.getfield 43, 3) := by decide +kernel
theorem dX3_has_40 : decode cX3_has 40 = .ok (.iload_n 1, 1) := by decide +kernel
theorem dX3_has_41 : decode cX3_has 41 = .ok (.iaload, 1) := by decide +kernel
theorem dX3_has_42 : decode cX3_has 42 = .ok (.iload_n 2, 1) := by decide +kernel
theorem dX3_has_43 : decode cX3_has 43 = .ok (.invokestatic 106, 3) := by decide +kernel
theorem dX3_has_46 : decode cX3_has 46 = .ok (.ifCond .eq 7, 3) := by decide +kernel
theorem dX3_has_49 : decode cX3_has 49 = .ok (.iconst 1, 1) := by decide +kernel
theorem dX3_has_50 : decode cX3_has 50 = .ok (.goto 4, 3) := by decide +kernel
theorem dX3_has_53 : decode cX3_has 53 = .ok (.iconst 0, 1) := by decide +kernel
theorem dX3_has_54 : decode cX3_has 54 = .ok (.ireturn, 1) := by decide +kernel
theorem dX3_length_0 : decode cX3_length 0 = .ok (.aload_n 0, 1) := by decide +kernel
theorem dX3_length_1 : decode cX3_length 1 = .ok (.aload_n 0, 1) := by decide +kernel
theorem dX3_length_2 : decode cX3_length 2 = .ok (.iload_n 1, 1) := by decide +kernel
theorem dX3_length_3 : decode cX3_length 3 = .ok (.invokevirtual 202, 3) := by decide +kernel
theorem dX3_length_6 : decode cX3_length 6 = .ok (.ifCond .eq 7, 3) := by decide +kernel
theorem dX3_length_9 : decode cX3_length 9 = .ok (.iconst 0, 1) := by decide +kernel
theorem dX3_length_10 : decode cX3_length 10 = .ok (.goto 4, 3) := by decide +kernel
theorem dX3_length_13 : decode cX3_length 13 = .ok (.iconst 1, 1) := by decide +kernel
theorem dX3_length_14 : decode cX3_length 14 = .ok (.putfield 103, 3) := by decide +kernel
theorem dX3_length_17 : decode cX3_length 17 = .ok (.aload_n 0, 1) := by decide +kernel
theorem dX3_length_18 : decode cX3_length 18 = .ok (.getfield 103, 3) := by decide +kernel
theorem dX3_length_21 : decode cX3_length 21 = .ok (.ifCond .ne 16, 3) := by decide +kernel
theorem dX3_length_24 : decode cX3_length 24 = .ok (.aload_n 0, 1) := by decide +kernel
theorem dX3_length_25 : decode cX3_length 25 = .ok (.aload_n 0, 1) := by decide +kernel
theorem dX3_length_26 : decode cX3_length 26 = .ok (.getfield 43, 3) := by decide +kernel
theorem dX3_length_29 : decode cX3_length 29 = .ok (.iload_n 1, 1) := by decide +kernel
theorem dX3_length_30 : decode cX3_length 30 = .ok (.iaload, 1) := by decide +kernel
theorem dX3_length_31 : decode cX3_length 31 = .ok (.invokevirtual 205, 3) := by decide +kernel
theorem dX3_length_34 : decode cX3_length 34 = .ok (.goto 4, 3) := by decide +kernel
theorem dX3_length_37 : decode cX3_length 37 = .ok (.iconst 0, 1) := by decide +kernel
theorem dX3_length_38 : decode cX3_length 38 = .ok (.ireturn, 1) := by decide +kernel
theorem dX3_often_0 : decode cX3_often 0 = .ok (.aload_n 0, 1) := by decide +kernel
theorem dX3_often_1 : decode cX3_often 1 = .ok (.aload_n 0, 1) := by decide +kernel
theorem dX3_often_2 : decode cX3_often 2 = .ok (.iload_n 1, 1) := by decide +kernel
theorem dX3_often_3 : decode cX3_often 3 = .ok (.invokevirtual 196, 3) := by decide +kernel
theorem dX3_often_6 : decode cX3_often 6 = .ok (.ifCond .eq 7, 3) := by decide +kernel
theorem dX3_often_9 : decode cX3_often 9 = .ok (.iconst 0, 1) := by decide +kernel
theorem dX3_often_10 : decode cX3_often 10 = .ok (.goto 4, 3) := by decide +kernel
theorem dX3_often_13 : decode cX3_often 13 = .ok (.iconst 1, 1) := by decide +kernel
theorem dX3_often_14 : decode cX3_often 14 = .ok (.putfield 103, 3) := by decide +kernel
theorem dX3_often_17 : decode cX3_often 17 = .ok (.aload_n 0, 1) := by decide +kernel
theorem dX3_often_18 : decode cX3_often 18 = .ok (.getfield 103, 3) := by decide +kernel
theorem dX3_often_21 : decode cX3_often 21 = .ok (.ifCond .ne 14, 3) := by decide +kernel
theorem dX3_often_24 : decode cX3_often 24 = .ok (.aload_n 0, 1) := by decide +kernel
theorem dX3_often_25 : decode cX3_often 25 = .ok (.iload_n 1, 1) := by decide +kernel
theorem dX3_often_26 : decode cX3_often 26 = .ok (.invokestatic 136, 3) := by decide +kernel
theorem dX3_often_29 : decode cX3_often 29 = .ok (.invokevirtual 208, 3) := by decide +kernel
theorem dX3_often_32 : decode cX3_often 32 = .ok (.goto 4, 3) := by decide +kernel
theorem dX3_often_35 : decode cX3_often 35 = .ok (.iconst 0, 1) := by decide +kernel
theorem dX3_often_36 : decode cX3_often 36 = .ok (.ireturn, 1) := by decide +kernel
theorem dX3_withAll_0 : decode cX3_withAll 0 = .ok (.aload_n 0, 1) := by decide +kernel
theorem dX3_withAll_1 : decode cX3_withAll 1 = .ok (.invokevirtual 181, 3) := by decide +kernel
theorem dX3_withAll_4 : decode cX3_withAll 4 = .ok (.iconst 0, 1) := by decide +kernel
theorem dX3_withAll_5 : decode cX3_withAll 5 = .ok (.istore_n 2, 1) := by decide +kernel
theorem dX3_withAll_6 : decode cX3_withAll 6 = .ok (.iconst 0, 1) := by decide +kernel
theorem dX3_withAll_7 : decode cX3_withAll 7 = .ok (.istore_n 3, 1) := by decide +kernel
theorem dX3_withAll_8 : decode cX3_withAll 8 = .ok (.iload_n 3, 1) := by decide +kernel
theorem dX3_withAll_9 : decode cX3_withAll 9 = .ok (.aload_n 0, 1) := by decide +kernel
theorem dX3_withAll_10 : decode cX3_withAll 10 = .ok (.getfield 159, 3) := by decide +kernel
theorem dX3_withAll_13 : decode cX3_withAll 13 = .ok (.if_icmp .ge 29, 3) := by decide +kernel
theorem dX3_withAll_16 : decode cX3_withAll 16 = .ok (.aload_n 0, 1) := by decide +kernel
theorem dX3_withAll_17 : decode cX3_withAll 17 = .ok (.getfield 43, 3) := by decide +kernel
theorem dX3_withAll_20 : decode cX3_withAll 20 = .ok (.iload_n 3, 1) := by decide +kernel
theorem dX3_withAll_21 : decode cX3_withAll 21 = .ok (.iaload, 1) := by decide +kernel
theorem dX3_withAll_22 : decode cX3_withAll 22 = .ok (.iload_n 1, 1) := by decide +kernel
theorem dX3_withAll_23 : decode cX3_withAll 23 = .ok (.iand, 1) := by decide +kernel
theorem dX3_withAll_24 : decode cX3_withAll 24 = .ok (.iload_n 1, 1) := by decide +kernel
theorem dX3_withAll_25 : decode cX3_withAll 25 = .ok (.if_icmp .ne 9, 3) := by decide +kernel
theorem dX3_withAll_28 : decode cX3_withAll 28 = .ok (.iload_n 2, 1) := by decide +kernel
theorem dX3_withAll_29 : decode cX3_withAll 29 = .ok (.iconst 1, 1) := by decide +kernel
theorem dX3_withAll_30 : decode cX3_withAll 30 = .ok (.iadd, 1) := by decide +kernel
theorem dX3_withAll_31 : decode cX3_withAll 31 = .ok (.goto 4, 3) := by decide +kernel
theorem dX3_withAll_34 : decode cX3_withAll 34 = .ok (.iload_n 2, 1) := by decide +kernel
theorem dX3_withAll_35 : decode cX3_withAll 35 = .ok (.istore_n 2, 1) := by decide +kernel
theorem dX3_withAll_36 : decode cX3_withAll 36 = .ok (.iinc 3 1, 3) := by decide +kernel
theorem dX3_withAll_39 : decode cX3_withAll 39 = .ok (.goto (-31), 3) := by decide +kernel
theorem dX3_withAll_42 : decode cX3_withAll 42 = .ok (.iload_n 2, 1) := by decide +kernel
theorem dX3_withAll_43 : decode cX3_withAll 43 = .ok (.ireturn, 1) := by decide +kernel
theorem dX3_draw_0 : decode cX3_draw 0 = .ok (.aload_n 0, 1) := by decide +kernel
theorem dX3_draw_1 : decode cX3_draw 1 = .ok (.aload_n 0, 1) := by decide +kernel
theorem dX3_draw_2 : decode cX3_draw 2 = .ok (.iload_n 1, 1) := by decide +kernel
theorem dX3_draw_3 : decode cX3_draw 3 = .ok (.invokevirtual 196, 3) := by decide +kernel
theorem dX3_draw_6 : decode cX3_draw 6 = .ok (.ifCond .eq 7, 3) := by decide +kernel
theorem dX3_draw_9 : decode cX3_draw 9 = .ok (.iconst 0, 1) := by decide +kernel
theorem dX3_draw_10 : decode cX3_draw 10 = .ok (.goto 4, 3) := by decide +kernel
theorem dX3_draw_13 : decode cX3_draw 13 = .ok (.iconst 1, 1) := by decide +kernel
theorem dX3_draw_14 : decode cX3_draw 14 = .ok (.putfield 103, 3) := by decide +kernel
theorem dX3_draw_17 : decode cX3_draw 17 = .ok (.aload_n 0, 1) := by decide +kernel
theorem dX3_draw_18 : decode cX3_draw 18 = .ok (.getfield 103, 3) := by decide +kernel
theorem dX3_draw_21 : decode cX3_draw 21 = .ok (.ifCond .le 5, 3) := by decide +kernel
theorem dX3_draw_24 : decode cX3_draw 24 = .ok (.iconst 0, 1) := by decide +kernel
theorem dX3_draw_25 : decode cX3_draw 25 = .ok (.ireturn, 1) := by decide +kernel
theorem dX3_draw_26 : decode cX3_draw 26 = .ok (.aload_n 0, 1) := by decide +kernel
theorem dX3_draw_27 : decode cX3_draw 27 = .ok (.aload_n 0, 1) := by decide +kernel
theorem dX3_draw_28 : decode cX3_draw 28 = .ok (.getfield 211, 3) := by decide +kernel
theorem dX3_draw_31 : decode cX3_draw 31 = .ok (.iload_n 1, 1) := by decide +kernel
theorem dX3_draw_32 : decode cX3_draw 32 = .ok (.invokestatic 136, 3) := by decide +kernel
theorem dX3_draw_35 : decode cX3_draw 35 = .ok (.ixor, 1) := by decide +kernel
theorem dX3_draw_36 : decode cX3_draw 36 = .ok (.putfield 211, 3) := by decide +kernel
theorem dX3_draw_39 : decode cX3_draw 39 = .ok (.aload_n 0, 1) := by decide +kernel
theorem dX3_draw_40 : decode cX3_draw 40 = .ok (.getfield 211, 3) := by decide +kernel
theorem dX3_draw_43 : decode cX3_draw 43 = .ok (.iload_n 1, 1) := by decide +kernel
theorem dX3_draw_44 : decode cX3_draw 44 = .ok (.invokestatic 106, 3) := by decide +kernel
theorem dX3_draw_47 : decode cX3_draw 47 = .ok (.ireturn, 1) := by decide +kernel
theorem dX3_copy_0 : decode cX3_copy 0 = .ok (.aload_n 0, 1) := by decide +kernel
theorem dX3_copy_1 : decode cX3_copy 1 = .ok (.aload_n 0, 1) := by decide +kernel
theorem dX3_copy_2 : decode cX3_copy 2 = .ok (.iload_n 1, 1) := by decide +kernel
theorem dX3_copy_3 : decode cX3_copy 3 = .ok (.invokevirtual 202, 3) := by decide +kernel
theorem dX3_copy_6 : decode cX3_copy 6 = .ok (.ifCond .eq 7, 3) := by decide +kernel
theorem dX3_copy_9 : decode cX3_copy 9 = .ok (.iconst 0, 1) := by decide +kernel
theorem dX3_copy_10 : decode cX3_copy 10 = .ok (.goto 4, 3) := by decide +kernel
theorem dX3_copy_13 : decode cX3_copy 13 = .ok (.iconst 1, 1) := by decide +kernel
theorem dX3_copy_14 : decode cX3_copy 14 = .ok (.putfield 103, 3) := by decide +kernel
theorem dX3_copy_17 : decode cX3_copy 17 = .ok (.aload_n 0, 1) := by decide +kernel
theorem dX3_copy_18 : decode cX3_copy 18 = .ok (.aload_n 0, 1) := by decide +kernel
theorem dX3_copy_19 : decode cX3_copy 19 = .ok (.getfield 103, 3) := by decide +kernel
theorem dX3_copy_22 : decode cX3_copy 22 = .ok (.ifCond .ne 12, 3) := by decide +kernel
theorem dX3_copy_25 : decode cX3_copy 25 = .ok (.aload_n 0, 1) := by decide +kernel
theorem dX3_copy_26 : decode cX3_copy 26 = .ok (.getfield 43, 3) := by decide +kernel
theorem dX3_copy_29 : decode cX3_copy 29 = .ok (.iload_n 1, 1) := by decide +kernel
theorem dX3_copy_30 : decode cX3_copy 30 = .ok (.iaload, 1) := by decide +kernel
theorem dX3_copy_31 : decode cX3_copy 31 = .ok (.goto 7, 3) := by decide +kernel
theorem dX3_copy_34 : decode cX3_copy 34 = .ok (.aload_n 0, 1) := by decide +kernel
theorem dX3_copy_35 : decode cX3_copy 35 = .ok (.getfield 211, 3) := by decide +kernel
theorem dX3_copy_38 : decode cX3_copy 38 = .ok (.putfield 211, 3) := by decide +kernel
theorem dX3_copy_41 : decode cX3_copy 41 = .ok (.return_, 1) := by decide +kernel
theorem dX3_drawn_0 : decode cX3_drawn 0 = .ok (.aload_n 0, 1) := by decide +kernel
theorem dX3_drawn_1 : decode cX3_drawn 1 = .ok (.iconst 0, 1) := by decide +kernel
theorem dX3_drawn_2 : decode cX3_drawn 2 = .ok (.putfield 103, 3) := by decide +kernel
theorem dX3_drawn_5 : decode cX3_drawn 5 = .ok (.aload_n 0, 1) := by decide +kernel
theorem dX3_drawn_6 : decode cX3_drawn 6 = .ok (.aload_n 0, 1) := by decide +kernel
theorem dX3_drawn_7 : decode cX3_drawn 7 = .ok (.getfield 211, 3) := by decide +kernel
theorem dX3_drawn_10 : decode cX3_drawn 10 = .ok (.invokevirtual 205, 3) := by decide +kernel
theorem dX3_drawn_13 : decode cX3_drawn 13 = .ok (.ireturn, 1) := by decide +kernel
theorem dX3_isLoop_0 : decode cX3_isLoop 0 = .ok (.aload_n 0, 1) := by decide +kernel
theorem dX3_isLoop_1 : decode cX3_isLoop 1 = .ok (.iconst 0, 1) := by decide +kernel
theorem dX3_isLoop_2 : decode cX3_isLoop 2 = .ok (.putfield 103, 3) := by decide +kernel
theorem dX3_isLoop_5 : decode cX3_isLoop 5 = .ok (.aload_n 0, 1) := by decide +kernel
theorem dX3_isLoop_6 : decode cX3_isLoop 6 = .ok (.aload_n 0, 1) := by decide +kernel
theorem dX3_isLoop_7 : decode cX3_isLoop 7 = .ok (.getfield 211, 3) := by decide +kernel
theorem dX3_isLoop_10 : decode cX3_isLoop 10 = .ok (.invokevirtual 143, 3) := by decide +kernel
theorem dX3_isLoop_13 : decode cX3_isLoop 13 = .ok (.ireturn, 1) := by decide +kernel
theorem dX3_rank_0 : decode cX3_rank 0 = .ok (.aload_n 0, 1) := by decide +kernel
theorem dX3_rank_1 : decode cX3_rank 1 = .ok (.invokevirtual 181, 3) := by decide +kernel
theorem dX3_rank_4 : decode cX3_rank 4 = .ok (.iconst 0, 1) := by decide +kernel
theorem dX3_rank_5 : decode cX3_rank 5 = .ok (.istore_n 1, 1) := by decide +kernel
theorem dX3_rank_6 : decode cX3_rank 6 = .ok (.iload_n 1, 1) := by decide +kernel
theorem dX3_rank_7 : decode cX3_rank 7 = .ok (.aload_n 0, 1) := by decide +kernel
theorem dX3_rank_8 : decode cX3_rank 8 = .ok (.getfield 159, 3) := by decide +kernel
theorem dX3_rank_11 : decode cX3_rank 11 = .ok (.if_icmp .ge 22, 3) := by decide +kernel
theorem dX3_rank_14 : decode cX3_rank 14 = .ok (.aload_n 0, 1) := by decide +kernel
theorem dX3_rank_15 : decode cX3_rank 15 = .ok (.getfield 43, 3) := by decide +kernel
theorem dX3_rank_18 : decode cX3_rank 18 = .ok (.iload_n 1, 1) := by decide +kernel
theorem dX3_rank_19 : decode cX3_rank 19 = .ok (.iaload, 1) := by decide +kernel
theorem dX3_rank_20 : decode cX3_rank 20 = .ok (.aload_n 0, 1) := by decide +kernel
theorem dX3_rank_21 : decode cX3_rank 21 = .ok (.getfield 211, 3) := by decide +kernel
theorem dX3_rank_24 : decode cX3_rank 24 = .ok (.if_icmp .eq 9, 3) := by decide +kernel
theorem dX3_rank_27 : decode cX3_rank 27 = .ok (.iinc 1 1, 3) := by decide +kernel
theorem dX3_rank_30 : decode cX3_rank 30 = .ok (.goto (-24), 3) := by decide +kernel
theorem dX3_rank_33 : decode cX3_rank 33 = .ok (.aload_n 0, 1) := by decide +kernel
theorem dX3_rank_34 : decode cX3_rank 34 = .ok (.iload_n 1, 1) := by decide +kernel
theorem dX3_rank_35 : decode cX3_rank 35 = .ok (.aload_n 0, 1) := by decide +kernel
theorem dX3_rank_36 : decode cX3_rank 36 = .ok (.getfield 159, 3) := by decide +kernel
theorem dX3_rank_39 : decode cX3_rank 39 = .ok (.if_icmp .ge 7, 3) := by decide +kernel
theorem dX3_rank_42 : decode cX3_rank 42 = .ok (.iconst 0, 1) := by decide +kernel
theorem dX3_rank_43 : decode cX3_rank 43 = .ok (.goto 4, 3) := by decide +kernel
theorem dX3_rank_46 : decode cX3_rank 46 = .ok (.iconst 1, 1) := by decide +kernel
theorem dX3_rank_47 : decode cX3_rank 47 = .ok (.putfield 103, 3) := by decide +kernel
theorem dX3_rank_50 : decode cX3_rank 50 = .ok (.aload_n 0, 1) := by decide +kernel
theorem dX3_rank_51 : decode cX3_rank 51 = .ok (.getfield 103, 3) := by decide +kernel
theorem dX3_rank_54 : decode cX3_rank 54 = .ok (.ifCond .ne 7, 3) := by decide +kernel
theorem dX3_rank_57 : decode cX3_rank 57 = .ok (.iload_n 1, 1) := by decide +kernel
theorem dX3_rank_58 : decode cX3_rank 58 = .ok (.goto 4, 3) := by decide +kernel
theorem dX3_rank_61 : decode cX3_rank 61 = .ok (.iconst 0, 1) := by decide +kernel
theorem dX3_rank_62 : decode cX3_rank 62 = .ok (.ireturn, 1) := by decide +kernel
theorem dX3_above_0 : decode cX3_above 0 = .ok (.aload_n 0, 1) := by decide +kernel
theorem dX3_above_1 : decode cX3_above 1 = .ok (.iconst 0, 1) := by decide +kernel
theorem dX3_above_2 : decode cX3_above 2 = .ok (.putfield 103, 3) := by decide +kernel
theorem dX3_above_5 : decode cX3_above 5 = .ok (.aload_n 0, 1) := by decide +kernel
theorem dX3_above_6 : decode cX3_above 6 = .ok (.aload_n 0, 1) := by decide +kernel
theorem dX3_above_7 : decode cX3_above 7 = .ok (.getfield 211, 3) := by decide +kernel
theorem dX3_above_10 : decode cX3_above 10 = .ok (.invokevirtual 208, 3) := by decide +kernel
theorem dX3_above_13 : decode cX3_above 13 = .ok (.ireturn, 1) := by decide +kernel
theorem dX3_alive_0 : decode cX3_alive 0 = .ok (.aload_n 0, 1) := by decide +kernel
theorem dX3_alive_1 : decode cX3_alive 1 = .ok (.iconst 0, 1) := by decide +kernel
theorem dX3_alive_2 : decode cX3_alive 2 = .ok (.putfield 103, 3) := by decide +kernel
theorem dX3_alive_5 : decode cX3_alive 5 = .ok (.iconst 0, 1) := by decide +kernel
theorem dX3_alive_6 : decode cX3_alive 6 = .ok (.istore_n 1, 1) := by decide +kernel
theorem dX3_alive_7 : decode cX3_alive 7 = .ok (.iconst 1, 1) := by decide +kernel
theorem dX3_alive_8 : decode cX3_alive 8 = .ok (.istore_n 2, 1) := by decide +kernel
theorem dX3_alive_9 : decode cX3_alive 9 = .ok (.iload_n 2, 1) := by decide +kernel
theorem dX3_alive_10 : decode cX3_alive 10 = .ok (.aload_n 0, 1) := by decide +kernel
theorem dX3_alive_11 : decode cX3_alive 11 = .ok (.getfield 93, 3) := by decide +kernel
theorem dX3_alive_14 : decode cX3_alive 14 = .ok (.if_icmp .gt 39, 3) := by decide +kernel
theorem dX3_alive_17 : decode cX3_alive 17 = .ok (.aload_n 0, 1) := by decide +kernel
theorem dX3_alive_18 : decode cX3_alive 18 = .ok (.getfield 211, 3) := by decide +kernel
theorem dX3_alive_21 : decode cX3_alive 21 = .ok (.bipush 31, 2) := by decide +kernel
theorem dX3_alive_23 : decode cX3_alive 23 = .ok (.iload_n 2, 1) := by decide +kernel
theorem dX3_alive_24 : decode cX3_alive 24 = .ok (.isub, 1) := by decide +kernel
theorem dX3_alive_25 : decode cX3_alive 25 = .ok (.ishr, 1) := by decide +kernel
theorem dX3_alive_26 : decode cX3_alive 26 = .ok (.bipush 31, 2) := by decide +kernel
theorem dX3_alive_28 : decode cX3_alive 28 = .ok (.iload_n 2, 1) := by decide +kernel
theorem dX3_alive_29 : decode cX3_alive 29 = .ok (.isub, 1) := by decide +kernel
theorem dX3_alive_30 : decode cX3_alive 30 = .ok (.ishl, 1) := by decide +kernel
theorem dX3_alive_31 : decode cX3_alive 31 = .ok (.istore_n 3, 1) := by decide +kernel
theorem dX3_alive_32 : decode cX3_alive 32 = .ok (.aload_n 0, 1) := by decide +kernel
theorem dX3_alive_33 : decode cX3_alive 33 = .ok (.iload_n 3, 1) := by decide +kernel
theorem dX3_alive_34 : decode cX3_alive 34 = .ok (.iload_n 2, 1) := by decide +kernel
theorem dX3_alive_35 : decode cX3_alive 35 = .ok (.invokevirtual 169, 3) := by decide +kernel
theorem dX3_alive_38 : decode cX3_alive 38 = .ok (.ifCond .eq 7, 3) := by decide +kernel
theorem dX3_alive_41 : decode cX3_alive 41 = .ok (.iload_n 2, 1) := by decide +kernel
theorem dX3_alive_42 : decode cX3_alive 42 = .ok (.goto 4, 3) := by decide +kernel
theorem dX3_alive_45 : decode cX3_alive 45 = .ok (.iload_n 1, 1) := by decide +kernel
theorem dX3_alive_46 : decode cX3_alive 46 = .ok (.istore_n 1, 1) := by decide +kernel
theorem dX3_alive_47 : decode cX3_alive 47 = .ok (.iinc 2 1, 3) := by decide +kernel
theorem dX3_alive_50 : decode cX3_alive 50 = .ok (.goto (-41), 3) := by decide +kernel
theorem dX3_alive_53 : decode cX3_alive 53 = .ok (.iload_n 1, 1) := by decide +kernel
theorem dX3_alive_54 : decode cX3_alive 54 = .ok (.ireturn, 1) := by decide +kernel
theorem dX3_spare_0 : decode cX3_spare 0 = .ok (.aload_n 0, 1) := by decide +kernel
theorem dX3_spare_1 : decode cX3_spare 1 = .ok (.iconst 0, 1) := by decide +kernel
theorem dX3_spare_2 : decode cX3_spare 2 = .ok (.putfield 103, 3) := by decide +kernel
theorem dX3_spare_5 : decode cX3_spare 5 = .ok (.aload_n 0, 1) := by decide +kernel
theorem dX3_spare_6 : decode cX3_spare 6 = .ok (.invokevirtual 181, 3) := by decide +kernel
theorem dX3_spare_9 : decode cX3_spare 9 = .ok (.aload_n 0, 1) := by decide +kernel
theorem dX3_spare_10 : decode cX3_spare 10 = .ok (.getfield 159, 3) := by decide +kernel
theorem dX3_spare_13 : decode cX3_spare 13 = .ok (.iconst 1, 1) := by decide +kernel
theorem dX3_spare_14 : decode cX3_spare 14 = .ok (.if_icmp .eq 9, 3) := by decide +kernel
theorem dX3_spare_17 : decode cX3_spare 17 = .ok (.aload_n 0, 1) := by decide +kernel
theorem dX3_spare_18 : decode cX3_spare 18 = .ok (.iconst 1, 1) := by decide +kernel
theorem dX3_spare_19 : decode cX3_spare 19 = .ok (.invokevirtual 214, 3) := by decide +kernel
theorem dX3_spare_22 : decode cX3_spare 22 = .ok (.ireturn, 1) := by decide +kernel
theorem dX3_spare_23 : decode cX3_spare 23 = .ok (.iconst 0, 1) := by decide +kernel
theorem dX3_spare_24 : decode cX3_spare 24 = .ok (.istore_n 1, 1) := by decide +kernel
theorem dX3_spare_25 : decode cX3_spare 25 = .ok (.iconst 0, 1) := by decide +kernel
theorem dX3_spare_26 : decode cX3_spare 26 = .ok (.istore_n 2, 1) := by decide +kernel
theorem dX3_spare_27 : decode cX3_spare 27 = .ok (.iload_n 2, 1) := by decide +kernel
theorem dX3_spare_28 : decode cX3_spare 28 = .ok (.aload_n 0, 1) := by decide +kernel
theorem dX3_spare_29 : decode cX3_spare 29 = .ok (.getfield 72, 3) := by decide +kernel
theorem dX3_spare_32 : decode cX3_spare 32 = .ok (.aload_n 0, 1) := by decide +kernel
theorem dX3_spare_33 : decode cX3_spare 33 = .ok (.getfield 76, 3) := by decide +kernel
theorem dX3_spare_36 : decode cX3_spare 36 = .ok (.imul, 1) := by decide +kernel
theorem dX3_spare_37 : decode cX3_spare 37 = .ok (.if_icmp .ge 59, 3) := by decide +kernel
theorem dX3_spare_40 : decode cX3_spare 40 = .ok (.aload_n 0, 1) := by decide +kernel
theorem dX3_spare_41 : decode cX3_spare 41 = .ok (.getfield 40, 3) := by decide +kernel
theorem dX3_spare_44 : decode cX3_spare 44 = .ok (.iload_n 2, 1) := by decide +kernel
theorem dX3_spare_45 : decode cX3_spare 45 = .ok (.iaload, 1) := by decide +kernel
theorem dX3_spare_46 : decode cX3_spare 46 = .ok (.istore_n 3, 1) := by decide +kernel
theorem dX3_spare_47 : decode cX3_spare 47 = .ok (.aload_n 0, 1) := by decide +kernel
theorem dX3_spare_48 : decode cX3_spare 48 = .ok (.getfield 40, 3) := by decide +kernel
theorem dX3_spare_51 : decode cX3_spare 51 = .ok (.iload_n 2, 1) := by decide +kernel
theorem dX3_spare_52 : decode cX3_spare 52 = .ok (.iconst (-1), 1) := by decide +kernel
theorem dX3_spare_53 : decode cX3_spare 53 = .ok (.iastore, 1) := by decide +kernel
theorem dX3_spare_54 : decode cX3_spare 54 = .ok (.aload_n 0, 1) := by decide +kernel
theorem dX3_spare_55 : decode cX3_spare 55 = .ok (.iconst 0, 1) := by decide +kernel
theorem dX3_spare_56 : decode cX3_spare 56 = .ok (.putfield 152, 3) := by decide +kernel
theorem dX3_spare_59 : decode cX3_spare 59 = .ok (.aload_n 0, 1) := by decide +kernel
theorem dX3_spare_60 : decode cX3_spare 60 = .ok (.invokevirtual 181, 3) := by decide +kernel
theorem dX3_spare_63 : decode cX3_spare 63 = .ok (.iload_n 3, 1) := by decide +kernel
theorem dX3_spare_64 : decode cX3_spare 64 = .ok (.ifCond .lt 26, 3) := by decide +kernel
theorem dX3_spare_67 : decode cX3_spare 67 = .ok (.aload_n 0, 1) := by decide +kernel
theorem dX3_spare_68 : decode cX3_spare 68 = .ok (.getfield 159, 3) := by decide +kernel
theorem dX3_spare_71 : decode cX3_spare 71 = .ok (.iconst 1, 1) := by decide +kernel
theorem dX3_spare_72 : decode cX3_spare 72 = .ok (.if_icmp .eq 18, 3) := by decide +kernel
theorem dX3_spare_75 : decode cX3_spare 75 = .ok (.aload_n 0, 1) := by decide +kernel
theorem dX3_spare_76 : decode cX3_spare 76 = .ok (.getfield 40, 3) := by decide +kernel
theorem dX3_spare_79 : decode cX3_spare 79 = .ok (.iload_n 2, 1) := by decide +kernel
theorem dX3_spare_80 : decode cX3_spare 80 = .ok (.iload_n 3, 1) := by decide +kernel
theorem dX3_spare_81 : decode cX3_spare 81 = .ok (.iastore, 1) := by decide +kernel
theorem dX3_spare_82 : decode cX3_spare 82 = .ok (.aload_n 0, 1) := by decide +kernel
theorem dX3_spare_83 : decode cX3_spare 83 = .ok (.iconst 0, 1) := by decide +kernel
theorem dX3_spare_84 : decode cX3_spare 84 = .ok (.putfield 152, 3) := by decide +kernel
theorem dX3_spare_87 : decode cX3_spare 87 = .ok (.iinc 1 1, 3) := by decide +kernel
theorem dX3_spare_90 : decode cX3_spare 90 = .ok (.iinc 2 1, 3) := by decide +kernel
theorem dX3_spare_93 : decode cX3_spare 93 = .ok (.goto (-66), 3) := by decide +kernel
theorem dX3_spare_96 : decode cX3_spare 96 = .ok (.iload_n 1, 1) := by decide +kernel
theorem dX3_spare_97 : decode cX3_spare 97 = .ok (.ireturn, 1) := by decide +kernel
end
section
theorem dJ6_bitCount_0f7a4_0 : decode cJ6_bitCount_0f7a4 0 = .ok (.iload_n 0, 1) := by decide +kernel
theorem dJ6_bitCount_0f7a4_1 : decode cJ6_bitCount_0f7a4 1 = .ok (.iload_n 0, 1) := by decide +kernel
theorem dJ6_bitCount_0f7a4_2 : decode cJ6_bitCount_0f7a4 2 = .ok (.iconst 1, 1) := by decide +kernel
theorem dJ6_bitCount_0f7a4_3 : decode cJ6_bitCount_0f7a4 3 = .ok (.iushr, 1) := by decide +kernel
theorem dJ6_bitCount_0f7a4_4 : decode cJ6_bitCount_0f7a4 4 = .ok (.ldc_w 265, 3) := by decide +kernel
theorem dJ6_bitCount_0f7a4_7 : decode cJ6_bitCount_0f7a4 7 = .ok (.iand, 1) := by decide +kernel
theorem dJ6_bitCount_0f7a4_8 : decode cJ6_bitCount_0f7a4 8 = .ok (.isub, 1) := by decide +kernel
theorem dJ6_bitCount_0f7a4_9 : decode cJ6_bitCount_0f7a4 9 = .ok (.istore_n 0, 1) := by decide +kernel
theorem dJ6_bitCount_0f7a4_10 : decode cJ6_bitCount_0f7a4 10 = .ok (.iload_n 0, 1) := by decide +kernel
theorem dJ6_bitCount_0f7a4_11 : decode cJ6_bitCount_0f7a4 11 = .ok (.ldc_w 266, 3) := by decide +kernel
theorem dJ6_bitCount_0f7a4_14 : decode cJ6_bitCount_0f7a4 14 = .ok (.iand, 1) := by decide +kernel
theorem dJ6_bitCount_0f7a4_15 : decode cJ6_bitCount_0f7a4 15 = .ok (.iload_n 0, 1) := by decide +kernel
theorem dJ6_bitCount_0f7a4_16 : decode cJ6_bitCount_0f7a4 16 = .ok (.iconst 2, 1) := by decide +kernel
theorem dJ6_bitCount_0f7a4_17 : decode cJ6_bitCount_0f7a4 17 = .ok (.iushr, 1) := by decide +kernel
theorem dJ6_bitCount_0f7a4_18 : decode cJ6_bitCount_0f7a4 18 = .ok (.ldc_w 266, 3) := by decide +kernel
theorem dJ6_bitCount_0f7a4_21 : decode cJ6_bitCount_0f7a4 21 = .ok (.iand, 1) := by decide +kernel
theorem dJ6_bitCount_0f7a4_22 : decode cJ6_bitCount_0f7a4 22 = .ok (.iadd, 1) := by decide +kernel
theorem dJ6_bitCount_0f7a4_23 : decode cJ6_bitCount_0f7a4 23 = .ok (.istore_n 0, 1) := by decide +kernel
theorem dJ6_bitCount_0f7a4_24 : decode cJ6_bitCount_0f7a4 24 = .ok (.iload_n 0, 1) := by decide +kernel
theorem dJ6_bitCount_0f7a4_25 : decode cJ6_bitCount_0f7a4 25 = .ok (.iload_n 0, 1) := by decide +kernel
theorem dJ6_bitCount_0f7a4_26 : decode cJ6_bitCount_0f7a4 26 = .ok (.iconst 4, 1) := by decide +kernel
theorem dJ6_bitCount_0f7a4_27 : decode cJ6_bitCount_0f7a4 27 = .ok (.iushr, 1) := by decide +kernel
theorem dJ6_bitCount_0f7a4_28 : decode cJ6_bitCount_0f7a4 28 = .ok (.iadd, 1) := by decide +kernel
theorem dJ6_bitCount_0f7a4_29 : decode cJ6_bitCount_0f7a4 29 = .ok (.ldc_w 267, 3) := by decide +kernel
theorem dJ6_bitCount_0f7a4_32 : decode cJ6_bitCount_0f7a4 32 = .ok (.iand, 1) := by decide +kernel
theorem dJ6_bitCount_0f7a4_33 : decode cJ6_bitCount_0f7a4 33 = .ok (.istore_n 0, 1) := by decide +kernel
theorem dJ6_bitCount_0f7a4_34 : decode cJ6_bitCount_0f7a4 34 = .ok (.iload_n 0, 1) := by decide +kernel
theorem dJ6_bitCount_0f7a4_35 : decode cJ6_bitCount_0f7a4 35 = .ok (.iload_n 0, 1) := by decide +kernel
theorem dJ6_bitCount_0f7a4_36 : decode cJ6_bitCount_0f7a4 36 = .ok (.bipush 8, 2) := by decide +kernel
theorem dJ6_bitCount_0f7a4_38 : decode cJ6_bitCount_0f7a4 38 = .ok (.iushr, 1) := by decide +kernel
theorem dJ6_bitCount_0f7a4_39 : decode cJ6_bitCount_0f7a4 39 = .ok (.iadd, 1) := by decide +kernel
theorem dJ6_bitCount_0f7a4_40 : decode cJ6_bitCount_0f7a4 40 = .ok (.istore_n 0, 1) := by decide +kernel
theorem dJ6_bitCount_0f7a4_41 : decode cJ6_bitCount_0f7a4 41 = .ok (.iload_n 0, 1) := by decide +kernel
theorem dJ6_bitCount_0f7a4_42 : decode cJ6_bitCount_0f7a4 42 = .ok (.iload_n 0, 1) := by decide +kernel
theorem dJ6_bitCount_0f7a4_43 : decode cJ6_bitCount_0f7a4 43 = .ok (.bipush 16, 2) := by decide +kernel
theorem dJ6_bitCount_0f7a4_45 : decode cJ6_bitCount_0f7a4 45 = .ok (.iushr, 1) := by decide +kernel
theorem dJ6_bitCount_0f7a4_46 : decode cJ6_bitCount_0f7a4 46 = .ok (.iadd, 1) := by decide +kernel
theorem dJ6_bitCount_0f7a4_47 : decode cJ6_bitCount_0f7a4 47 = .ok (.istore_n 0, 1) := by decide +kernel
theorem dJ6_bitCount_0f7a4_48 : decode cJ6_bitCount_0f7a4 48 = .ok (.iload_n 0, 1) := by decide +kernel
theorem dJ6_bitCount_0f7a4_49 : decode cJ6_bitCount_0f7a4 49 = .ok (.bipush 63, 2) := by decide +kernel
theorem dJ6_bitCount_0f7a4_51 : decode cJ6_bitCount_0f7a4 51 = .ok (.iand, 1) := by decide +kernel
theorem dJ6_bitCount_0f7a4_52 : decode cJ6_bitCount_0f7a4 52 = .ok (.ireturn, 1) := by decide +kernel
theorem dL_cell_0 : decode cL_cell 0 = .ok (.iload_n 1, 1) := by decide +kernel
theorem dL_cell_1 : decode cL_cell 1 = .ok (.aload_n 0, 1) := by decide +kernel
theorem dL_cell_2 : decode cL_cell 2 = .ok (.arraylength, 1) := by decide +kernel
theorem dL_cell_3 : decode cL_cell 3 = .ok (.if_icmp .ge 9, 3) := by decide +kernel
theorem dL_cell_6 : decode cL_cell 6 = .ok (.aload_n 0, 1) := by decide +kernel
theorem dL_cell_7 : decode cL_cell 7 = .ok (.iload_n 1, 1) := by decide +kernel
theorem dL_cell_8 : decode cL_cell 8 = .ok (.iaload, 1) := by decide +kernel
theorem dL_cell_9 : decode cL_cell 9 = .ok (.goto 4, 3) := by decide +kernel
theorem dL_cell_12 : decode cL_cell 12 = .ok (.iconst 0, 1) := by decide +kernel
theorem dL_cell_13 : decode cL_cell 13 = .ok (.ireturn, 1) := by decide +kernel
theorem dL_point_0 : decode cL_point 0 = .ok (.aload_n 3, 1) := by decide +kernel
theorem dL_point_1 : decode cL_point 1 = .ok (.iconst 0, 1) := by decide +kernel
theorem dL_point_2 : decode cL_point 2 = .ok (.aload_n 0, 1) := by decide +kernel
theorem dL_point_3 : decode cL_point 3 = .ok (.iload_n 1, 1) := by decide +kernel
theorem dL_point_4 : decode cL_point 4 = .ok (.iload_n 2, 1) := by decide +kernel
theorem dL_point_5 : decode cL_point 5 = .ok (.invokevirtual 7, 3) := by decide +kernel
theorem dL_point_8 : decode cL_point 8 = .ok (.i2l, 1) := by decide +kernel
theorem dL_point_9 : decode cL_point 9 = .ok (.lastore, 1) := by decide +kernel
theorem dL_point_10 : decode cL_point 10 = .ok (.goto 7, 3) := by decide +kernel
theorem dL_point_13 : decode cL_point 13 = .ok (.astore 4, 2) := by decide +kernel
theorem dL_point_15 : decode cL_point 15 = .ok (.iconst 1, 1) := by decide +kernel
theorem dL_point_16 : decode cL_point 16 = .ok (.ireturn, 1) := by decide +kernel
theorem dL_point_17 : decode cL_point 17 = .ok (.iconst 0, 1) := by decide +kernel
theorem dL_point_18 : decode cL_point 18 = .ok (.ireturn, 1) := by decide +kernel
theorem dL_clue_0 : decode cL_clue 0 = .ok (.aload_n 0, 1) := by decide +kernel
theorem dL_clue_1 : decode cL_clue 1 = .ok (.iload_n 1, 1) := by decide +kernel
theorem dL_clue_2 : decode cL_clue 2 = .ok (.iload_n 2, 1) := by decide +kernel
theorem dL_clue_3 : decode cL_clue 3 = .ok (.iload_n 3, 1) := by decide +kernel
theorem dL_clue_4 : decode cL_clue 4 = .ok (.invokevirtual 15, 3) := by decide +kernel
theorem dL_clue_7 : decode cL_clue 7 = .ok (.goto 11, 3) := by decide +kernel
theorem dL_clue_10 : decode cL_clue 10 = .ok (.astore 4, 2) := by decide +kernel
theorem dL_clue_12 : decode cL_clue 12 = .ok (.iconst 1, 1) := by decide +kernel
theorem dL_clue_13 : decode cL_clue 13 = .ok (.ireturn, 1) := by decide +kernel
theorem dL_clue_14 : decode cL_clue 14 = .ok (.astore 4, 2) := by decide +kernel
theorem dL_clue_16 : decode cL_clue 16 = .ok (.iconst 2, 1) := by decide +kernel
theorem dL_clue_17 : decode cL_clue 17 = .ok (.ireturn, 1) := by decide +kernel
theorem dL_clue_18 : decode cL_clue 18 = .ok (.iconst 0, 1) := by decide +kernel
theorem dL_clue_19 : decode cL_clue 19 = .ok (.ireturn, 1) := by decide +kernel
theorem dL_width_0 : decode cL_width 0 = .ok (.aload_n 3, 1) := by decide +kernel
theorem dL_width_1 : decode cL_width 1 = .ok (.iconst 0, 1) := by decide +kernel
theorem dL_width_2 : decode cL_width 2 = .ok (.aload_n 0, 1) := by decide +kernel
theorem dL_width_3 : decode cL_width 3 = .ok (.iload_n 1, 1) := by decide +kernel
theorem dL_width_4 : decode cL_width 4 = .ok (.iload_n 2, 1) := by decide +kernel
theorem dL_width_5 : decode cL_width 5 = .ok (.invokevirtual 21, 3) := by decide +kernel
theorem dL_width_8 : decode cL_width 8 = .ok (.i2l, 1) := by decide +kernel
theorem dL_width_9 : decode cL_width 9 = .ok (.lastore, 1) := by decide +kernel
theorem dL_width_10 : decode cL_width 10 = .ok (.goto 7, 3) := by decide +kernel
theorem dL_width_13 : decode cL_width 13 = .ok (.astore 4, 2) := by decide +kernel
theorem dL_width_15 : decode cL_width 15 = .ok (.iconst 1, 1) := by decide +kernel
theorem dL_width_16 : decode cL_width 16 = .ok (.ireturn, 1) := by decide +kernel
theorem dL_width_17 : decode cL_width 17 = .ok (.iconst 0, 1) := by decide +kernel
theorem dL_width_18 : decode cL_width 18 = .ok (.ireturn, 1) := by decide +kernel
theorem dL_has_0 : decode cL_has 0 = .ok (.aload_n 3, 1) := by decide +kernel
theorem dL_has_1 : decode cL_has 1 = .ok (.iconst 0, 1) := by decide +kernel
theorem dL_has_2 : decode cL_has 2 = .ok (.aload_n 0, 1) := by decide +kernel
theorem dL_has_3 : decode cL_has 3 = .ok (.iload_n 1, 1) := by decide +kernel
theorem dL_has_4 : decode cL_has 4 = .ok (.iload_n 2, 1) := by decide +kernel
theorem dL_has_5 : decode cL_has 5 = .ok (.invokevirtual 24, 3) := by decide +kernel
theorem dL_has_8 : decode cL_has 8 = .ok (.ifCond .eq 7, 3) := by decide +kernel
theorem dL_has_11 : decode cL_has 11 = .ok (.lconst 1, 1) := by decide +kernel
theorem dL_has_12 : decode cL_has 12 = .ok (.goto 4, 3) := by decide +kernel
theorem dL_has_15 : decode cL_has 15 = .ok (.lconst 0, 1) := by decide +kernel
theorem dL_has_16 : decode cL_has 16 = .ok (.lastore, 1) := by decide +kernel
theorem dL_has_17 : decode cL_has 17 = .ok (.goto 11, 3) := by decide +kernel
theorem dL_has_20 : decode cL_has 20 = .ok (.astore 4, 2) := by decide +kernel
theorem dL_has_22 : decode cL_has 22 = .ok (.iconst 1, 1) := by decide +kernel
theorem dL_has_23 : decode cL_has 23 = .ok (.ireturn, 1) := by decide +kernel
theorem dL_has_24 : decode cL_has 24 = .ok (.astore 4, 2) := by decide +kernel
theorem dL_has_26 : decode cL_has 26 = .ok (.iconst 2, 1) := by decide +kernel
theorem dL_has_27 : decode cL_has 27 = .ok (.ireturn, 1) := by decide +kernel
theorem dL_has_28 : decode cL_has 28 = .ok (.iconst 0, 1) := by decide +kernel
theorem dL_has_29 : decode cL_has 29 = .ok (.ireturn, 1) := by decide +kernel
theorem dL_length_0 : decode cL_length 0 = .ok (.aload_n 2, 1) := by decide +kernel
theorem dL_length_1 : decode cL_length 1 = .ok (.iconst 0, 1) := by decide +kernel
theorem dL_length_2 : decode cL_length 2 = .ok (.aload_n 0, 1) := by decide +kernel
theorem dL_length_3 : decode cL_length 3 = .ok (.iload_n 1, 1) := by decide +kernel
theorem dL_length_4 : decode cL_length 4 = .ok (.invokevirtual 30, 3) := by decide +kernel
theorem dL_length_7 : decode cL_length 7 = .ok (.i2l, 1) := by decide +kernel
theorem dL_length_8 : decode cL_length 8 = .ok (.lastore, 1) := by decide +kernel
theorem dL_length_9 : decode cL_length 9 = .ok (.goto 6, 3) := by decide +kernel
theorem dL_length_12 : decode cL_length 12 = .ok (.astore_n 3, 1) := by decide +kernel
theorem dL_length_13 : decode cL_length 13 = .ok (.iconst 1, 1) := by decide +kernel
theorem dL_length_14 : decode cL_length 14 = .ok (.ireturn, 1) := by decide +kernel
theorem dL_length_15 : decode cL_length 15 = .ok (.iconst 0, 1) := by decide +kernel
theorem dL_length_16 : decode cL_length 16 = .ok (.ireturn, 1) := by decide +kernel
theorem dL_often_0 : decode cL_often 0 = .ok (.aload_n 2, 1) := by decide +kernel
theorem dL_often_1 : decode cL_often 1 = .ok (.iconst 0, 1) := by decide +kernel
theorem dL_often_2 : decode cL_often 2 = .ok (.aload_n 0, 1) := by decide +kernel
theorem dL_often_3 : decode cL_often 3 = .ok (.iload_n 1, 1) := by decide +kernel
theorem dL_often_4 : decode cL_often 4 = .ok (.invokevirtual 34, 3) := by decide +kernel
theorem dL_often_7 : decode cL_often 7 = .ok (.i2l, 1) := by decide +kernel
theorem dL_often_8 : decode cL_often 8 = .ok (.lastore, 1) := by decide +kernel
theorem dL_often_9 : decode cL_often 9 = .ok (.goto 6, 3) := by decide +kernel
theorem dL_often_12 : decode cL_often 12 = .ok (.astore_n 3, 1) := by decide +kernel
theorem dL_often_13 : decode cL_often 13 = .ok (.iconst 1, 1) := by decide +kernel
theorem dL_often_14 : decode cL_often 14 = .ok (.ireturn, 1) := by decide +kernel
theorem dL_often_15 : decode cL_often 15 = .ok (.iconst 0, 1) := by decide +kernel
theorem dL_often_16 : decode cL_often 16 = .ok (.ireturn, 1) := by decide +kernel
theorem dL_draw_0 : decode cL_draw 0 = .ok (.aload_n 2, 1) := by decide +kernel
theorem dL_draw_1 : decode cL_draw 1 = .ok (.iconst 0, 1) := by decide +kernel
theorem dL_draw_2 : decode cL_draw 2 = .ok (.aload_n 0, 1) := by decide +kernel
theorem dL_draw_3 : decode cL_draw 3 = .ok (.iload_n 1, 1) := by decide +kernel
theorem dL_draw_4 : decode cL_draw 4 = .ok (.invokevirtual 37, 3) := by decide +kernel
theorem dL_draw_7 : decode cL_draw 7 = .ok (.ifCond .eq 7, 3) := by decide +kernel
theorem dL_draw_10 : decode cL_draw 10 = .ok (.lconst 1, 1) := by decide +kernel
theorem dL_draw_11 : decode cL_draw 11 = .ok (.goto 4, 3) := by decide +kernel
theorem dL_draw_14 : decode cL_draw 14 = .ok (.lconst 0, 1) := by decide +kernel
theorem dL_draw_15 : decode cL_draw 15 = .ok (.lastore, 1) := by decide +kernel
theorem dL_draw_16 : decode cL_draw 16 = .ok (.goto 6, 3) := by decide +kernel
theorem dL_draw_19 : decode cL_draw 19 = .ok (.astore_n 3, 1) := by decide +kernel
theorem dL_draw_20 : decode cL_draw 20 = .ok (.iconst 1, 1) := by decide +kernel
theorem dL_draw_21 : decode cL_draw 21 = .ok (.ireturn, 1) := by decide +kernel
theorem dL_draw_22 : decode cL_draw 22 = .ok (.iconst 0, 1) := by decide +kernel
theorem dL_draw_23 : decode cL_draw 23 = .ok (.ireturn, 1) := by decide +kernel
theorem dL_copy_0 : decode cL_copy 0 = .ok (.aload_n 0, 1) := by decide +kernel
theorem dL_copy_1 : decode cL_copy 1 = .ok (.iload_n 1, 1) := by decide +kernel
theorem dL_copy_2 : decode cL_copy 2 = .ok (.invokevirtual 41, 3) := by decide +kernel
theorem dL_copy_5 : decode cL_copy 5 = .ok (.goto 6, 3) := by decide +kernel
theorem dL_copy_8 : decode cL_copy 8 = .ok (.astore_n 2, 1) := by decide +kernel
theorem dL_copy_9 : decode cL_copy 9 = .ok (.iconst 1, 1) := by decide +kernel
theorem dL_copy_10 : decode cL_copy 10 = .ok (.ireturn, 1) := by decide +kernel
theorem dL_copy_11 : decode cL_copy 11 = .ok (.iconst 0, 1) := by decide +kernel
theorem dL_copy_12 : decode cL_copy 12 = .ok (.ireturn, 1) := by decide +kernel
theorem dL_rank_0 : decode cL_rank 0 = .ok (.aload_n 1, 1) := by decide +kernel
theorem dL_rank_1 : decode cL_rank 1 = .ok (.iconst 0, 1) := by decide +kernel
theorem dL_rank_2 : decode cL_rank 2 = .ok (.aload_n 0, 1) := by decide +kernel
theorem dL_rank_3 : decode cL_rank 3 = .ok (.invokevirtual 45, 3) := by decide +kernel
theorem dL_rank_6 : decode cL_rank 6 = .ok (.i2l, 1) := by decide +kernel
theorem dL_rank_7 : decode cL_rank 7 = .ok (.lastore, 1) := by decide +kernel
theorem dL_rank_8 : decode cL_rank 8 = .ok (.goto 6, 3) := by decide +kernel
theorem dL_rank_11 : decode cL_rank 11 = .ok (.astore_n 2, 1) := by decide +kernel
theorem dL_rank_12 : decode cL_rank 12 = .ok (.iconst 1, 1) := by decide +kernel
theorem dL_rank_13 : decode cL_rank 13 = .ok (.ireturn, 1) := by decide +kernel
theorem dL_rank_14 : decode cL_rank 14 = .ok (.iconst 0, 1) := by decide +kernel
theorem dL_rank_15 : decode cL_rank 15 = .ok (.ireturn, 1) := by decide +kernel
theorem dL_spare_0 : decode cL_spare 0 = .ok (.aload_n 1, 1) := by decide +kernel
theorem dL_spare_1 : decode cL_spare 1 = .ok (.iconst 0, 1) := by decide +kernel
theorem dL_spare_2 : decode cL_spare 2 = .ok (.aload_n 0, 1) := by decide +kernel
theorem dL_spare_3 : decode cL_spare 3 = .ok (.invokevirtual 49, 3) := by decide +kernel
theorem dL_spare_6 : decode cL_spare 6 = .ok (.i2l, 1) := by decide +kernel
theorem dL_spare_7 : decode cL_spare 7 = .ok (.lastore, 1) := by decide +kernel
theorem dL_spare_8 : decode cL_spare 8 = .ok (.goto 6, 3) := by decide +kernel
theorem dL_spare_11 : decode cL_spare 11 = .ok (.astore_n 2, 1) := by decide +kernel
theorem dL_spare_12 : decode cL_spare 12 = .ok (.iconst 1, 1) := by decide +kernel
theorem dL_spare_13 : decode cL_spare 13 = .ok (.ireturn, 1) := by decide +kernel
theorem dL_spare_14 : decode cL_spare 14 = .ok (.iconst 0, 1) := by decide +kernel
theorem dL_spare_15 : decode cL_spare 15 = .ok (.ireturn, 1) := by decide +kernel
theorem dL_clueOf_0 : decode cL_clueOf 0 = .ok (.aload_n 3, 1) := by decide +kernel
theorem dL_clueOf_1 : decode cL_clueOf 1 = .ok (.iconst 0, 1) := by decide +kernel
theorem dL_clueOf_2 : decode cL_clueOf 2 = .ok (.aload_n 0, 1) := by decide +kernel
theorem dL_clueOf_3 : decode cL_clueOf 3 = .ok (.iload_n 1, 1) := by decide +kernel
theorem dL_clueOf_4 : decode cL_clueOf 4 = .ok (.iload_n 2, 1) := by decide +kernel
theorem dL_clueOf_5 : decode cL_clueOf 5 = .ok (.invokevirtual 54, 3) := by decide +kernel
theorem dL_clueOf_8 : decode cL_clueOf 8 = .ok (.i2l, 1) := by decide +kernel
theorem dL_clueOf_9 : decode cL_clueOf 9 = .ok (.lastore, 1) := by decide +kernel
theorem dL_clueOf_10 : decode cL_clueOf 10 = .ok (.goto 7, 3) := by decide +kernel
theorem dL_clueOf_13 : decode cL_clueOf 13 = .ok (.astore 4, 2) := by decide +kernel
theorem dL_clueOf_15 : decode cL_clueOf 15 = .ok (.iconst 1, 1) := by decide +kernel
theorem dL_clueOf_16 : decode cL_clueOf 16 = .ok (.ireturn, 1) := by decide +kernel
theorem dL_clueOf_17 : decode cL_clueOf 17 = .ok (.iconst 0, 1) := by decide +kernel
theorem dL_clueOf_18 : decode cL_clueOf 18 = .ok (.ireturn, 1) := by decide +kernel
theorem dL_law_0 : decode cL_law 0 = .ok (.new 8, 3) := by decide +kernel
theorem dL_law_3 : decode cL_law 3 = .ok (.dup, 1) := by decide +kernel
theorem dL_law_4 : decode cL_law 4 = .ok (.aload_n 0, 1) := by decide +kernel
theorem dL_law_5 : decode cL_law 5 = .ok (.iconst 0, 1) := by decide +kernel
theorem dL_law_6 : decode cL_law 6 = .ok (.invokestatic 58, 3) := by decide +kernel
theorem dL_law_9 : decode cL_law 9 = .ok (.aload_n 0, 1) := by decide +kernel
theorem dL_law_10 : decode cL_law 10 = .ok (.iconst 1, 1) := by decide +kernel
theorem dL_law_11 : decode cL_law 11 = .ok (.invokestatic 58, 3) := by decide +kernel
theorem dL_law_14 : decode cL_law 14 = .ok (.invokespecial 64, 3) := by decide +kernel
theorem dL_law_17 : decode cL_law 17 = .ok (.astore_n 1, 1) := by decide +kernel
theorem dL_law_18 : decode cL_law 18 = .ok (.new 67, 3) := by decide +kernel
theorem dL_law_21 : decode cL_law 21 = .ok (.dup, 1) := by decide +kernel
theorem dL_law_22 : decode cL_law 22 = .ok (.aload_n 0, 1) := by decide +kernel
theorem dL_law_23 : decode cL_law 23 = .ok (.iconst 0, 1) := by decide +kernel
theorem dL_law_24 : decode cL_law 24 = .ok (.invokestatic 58, 3) := by decide +kernel
theorem dL_law_27 : decode cL_law 27 = .ok (.aload_n 0, 1) := by decide +kernel
theorem dL_law_28 : decode cL_law 28 = .ok (.iconst 1, 1) := by decide +kernel
theorem dL_law_29 : decode cL_law 29 = .ok (.invokestatic 58, 3) := by decide +kernel
theorem dL_law_32 : decode cL_law 32 = .ok (.invokespecial 69, 3) := by decide +kernel
theorem dL_law_35 : decode cL_law 35 = .ok (.astore_n 2, 1) := by decide +kernel
theorem dL_law_36 : decode cL_law 36 = .ok (.iconst 1, 1) := by decide +kernel
theorem dL_law_37 : decode cL_law 37 = .ok (.newarray .long, 2) := by decide +kernel
theorem dL_law_39 : decode cL_law 39 = .ok (.astore_n 3, 1) := by decide +kernel
theorem dL_law_40 : decode cL_law 40 = .ok (.iconst 2, 1) := by decide +kernel
theorem dL_law_41 : decode cL_law 41 = .ok (.istore 4, 2) := by decide +kernel
theorem dL_law_43 : decode cL_law 43 = .ok (.iload 4, 2) := by decide +kernel
theorem dL_law_45 : decode cL_law 45 = .ok (.aload_n 0, 1) := by decide +kernel
theorem dL_law_46 : decode cL_law 46 = .ok (.arraylength, 1) := by decide +kernel
theorem dL_law_47 : decode cL_law 47 = .ok (.iconst 4, 1) := by decide +kernel
theorem dL_law_48 : decode cL_law 48 = .ok (.isub, 1) := by decide +kernel
theorem dL_law_49 : decode cL_law 49 = .ok (.if_icmp .gt 862, 3) := by decide +kernel
theorem dL_law_52 : decode cL_law 52 = .ok (.aload_n 0, 1) := by decide +kernel
theorem dL_law_53 : decode cL_law 53 = .ok (.iload 4, 2) := by decide +kernel
theorem dL_law_55 : decode cL_law 55 = .ok (.iaload, 1) := by decide +kernel
theorem dL_law_56 : decode cL_law 56 = .ok (.bipush 31, 2) := by decide +kernel
theorem dL_law_58 : decode cL_law 58 = .ok (.iand, 1) := by decide +kernel
theorem dL_law_59 : decode cL_law 59 = .ok (.tableswitch 846 0 17 #[85, 98, 182, 242, 255, 339, 352, 427, 483, 539, 602, 638, 651, 664, 708, 721, 734, 778], 85) := by decide +kernel
theorem dL_law_144 : decode cL_law 144 = .ok (.aload_n 1, 1) := by decide +kernel
theorem dL_law_145 : decode cL_law 145 = .ok (.invokevirtual 70, 3) := by decide +kernel
theorem dL_law_148 : decode cL_law 148 = .ok (.aload_n 2, 1) := by decide +kernel
theorem dL_law_149 : decode cL_law 149 = .ok (.invokevirtual 73, 3) := by decide +kernel
theorem dL_law_152 : decode cL_law 152 = .ok (.if_icmp .eq 753, 3) := by decide +kernel
theorem dL_law_155 : decode cL_law 155 = .ok (.iconst 0, 1) := by decide +kernel
theorem dL_law_156 : decode cL_law 156 = .ok (.ireturn, 1) := by decide +kernel
theorem dL_law_157 : decode cL_law 157 = .ok (.aload_n 1, 1) := by decide +kernel
theorem dL_law_158 : decode cL_law 158 = .ok (.aload_n 0, 1) := by decide +kernel
theorem dL_law_159 : decode cL_law 159 = .ok (.iload 4, 2) := by decide +kernel
theorem dL_law_161 : decode cL_law 161 = .ok (.iconst 1, 1) := by decide +kernel
theorem dL_law_162 : decode cL_law 162 = .ok (.iadd, 1) := by decide +kernel
theorem dL_law_163 : decode cL_law 163 = .ok (.iaload, 1) := by decide +kernel
theorem dL_law_164 : decode cL_law 164 = .ok (.aload_n 0, 1) := by decide +kernel
theorem dL_law_165 : decode cL_law 165 = .ok (.iload 4, 2) := by decide +kernel
theorem dL_law_167 : decode cL_law 167 = .ok (.iconst 2, 1) := by decide +kernel
theorem dL_law_168 : decode cL_law 168 = .ok (.iadd, 1) := by decide +kernel
theorem dL_law_169 : decode cL_law 169 = .ok (.iaload, 1) := by decide +kernel
theorem dL_law_170 : decode cL_law 170 = .ok (.ifCond .eq 7, 3) := by decide +kernel
theorem dL_law_173 : decode cL_law 173 = .ok (.iconst 1, 1) := by decide +kernel
theorem dL_law_174 : decode cL_law 174 = .ok (.goto 4, 3) := by decide +kernel
theorem dL_law_177 : decode cL_law 177 = .ok (.iconst 0, 1) := by decide +kernel
theorem dL_law_178 : decode cL_law 178 = .ok (.aload_n 3, 1) := by decide +kernel
theorem dL_law_179 : decode cL_law 179 = .ok (.invokestatic 74, 3) := by decide +kernel
theorem dL_law_182 : decode cL_law 182 = .ok (.istore 5, 2) := by decide +kernel
theorem dL_law_184 : decode cL_law 184 = .ok (.aload_n 2, 1) := by decide +kernel
theorem dL_law_185 : decode cL_law 185 = .ok (.aload_n 0, 1) := by decide +kernel
theorem dL_law_186 : decode cL_law 186 = .ok (.iload 4, 2) := by decide +kernel
theorem dL_law_188 : decode cL_law 188 = .ok (.iconst 1, 1) := by decide +kernel
theorem dL_law_189 : decode cL_law 189 = .ok (.iadd, 1) := by decide +kernel
theorem dL_law_190 : decode cL_law 190 = .ok (.iaload, 1) := by decide +kernel
theorem dL_law_191 : decode cL_law 191 = .ok (.aload_n 0, 1) := by decide +kernel
theorem dL_law_192 : decode cL_law 192 = .ok (.iload 4, 2) := by decide +kernel
theorem dL_law_194 : decode cL_law 194 = .ok (.iconst 2, 1) := by decide +kernel
theorem dL_law_195 : decode cL_law 195 = .ok (.iadd, 1) := by decide +kernel
theorem dL_law_196 : decode cL_law 196 = .ok (.iaload, 1) := by decide +kernel
theorem dL_law_197 : decode cL_law 197 = .ok (.ifCond .eq 7, 3) := by decide +kernel
theorem dL_law_200 : decode cL_law 200 = .ok (.iconst 1, 1) := by decide +kernel
theorem dL_law_201 : decode cL_law 201 = .ok (.goto 4, 3) := by decide +kernel
theorem dL_law_204 : decode cL_law 204 = .ok (.iconst 0, 1) := by decide +kernel
theorem dL_law_205 : decode cL_law 205 = .ok (.invokevirtual 77, 3) := by decide +kernel
theorem dL_law_208 : decode cL_law 208 = .ok (.istore 6, 2) := by decide +kernel
theorem dL_law_210 : decode cL_law 210 = .ok (.aload_n 2, 1) := by decide +kernel
theorem dL_law_211 : decode cL_law 211 = .ok (.invokevirtual 78, 3) := by decide +kernel
theorem dL_law_214 : decode cL_law 214 = .ok (.iload 5, 2) := by decide +kernel
theorem dL_law_216 : decode cL_law 216 = .ok (.if_icmp .eq 5, 3) := by decide +kernel
theorem dL_law_219 : decode cL_law 219 = .ok (.iconst 0, 1) := by decide +kernel
theorem dL_law_220 : decode cL_law 220 = .ok (.ireturn, 1) := by decide +kernel
theorem dL_law_221 : decode cL_law 221 = .ok (.iload 5, 2) := by decide +kernel
theorem dL_law_223 : decode cL_law 223 = .ok (.ifCond .ne 15, 3) := by decide +kernel
theorem dL_law_226 : decode cL_law 226 = .ok (.aload_n 3, 1) := by decide +kernel
theorem dL_law_227 : decode cL_law 227 = .ok (.iconst 0, 1) := by decide +kernel
theorem dL_law_228 : decode cL_law 228 = .ok (.laload, 1) := by decide +kernel
theorem dL_law_229 : decode cL_law 229 = .ok (.iload 6, 2) := by decide +kernel
theorem dL_law_231 : decode cL_law 231 = .ok (.i2l, 1) := by decide +kernel
theorem dL_law_232 : decode cL_law 232 = .ok (.lcmp, 1) := by decide +kernel
theorem dL_law_233 : decode cL_law 233 = .ok (.ifCond .eq 5, 3) := by decide +kernel
theorem dL_law_236 : decode cL_law 236 = .ok (.iconst 0, 1) := by decide +kernel
theorem dL_law_237 : decode cL_law 237 = .ok (.ireturn, 1) := by decide +kernel
theorem dL_law_238 : decode cL_law 238 = .ok (.goto 667, 3) := by decide +kernel
theorem dL_law_241 : decode cL_law 241 = .ok (.aload_n 1, 1) := by decide +kernel
theorem dL_law_242 : decode cL_law 242 = .ok (.aload_n 0, 1) := by decide +kernel
theorem dL_law_243 : decode cL_law 243 = .ok (.iload 4, 2) := by decide +kernel
theorem dL_law_245 : decode cL_law 245 = .ok (.iconst 1, 1) := by decide +kernel
theorem dL_law_246 : decode cL_law 246 = .ok (.iadd, 1) := by decide +kernel
theorem dL_law_247 : decode cL_law 247 = .ok (.iaload, 1) := by decide +kernel
theorem dL_law_248 : decode cL_law 248 = .ok (.aload_n 0, 1) := by decide +kernel
theorem dL_law_249 : decode cL_law 249 = .ok (.iload 4, 2) := by decide +kernel
theorem dL_law_251 : decode cL_law 251 = .ok (.iconst 2, 1) := by decide +kernel
theorem dL_law_252 : decode cL_law 252 = .ok (.iadd, 1) := by decide +kernel
theorem dL_law_253 : decode cL_law 253 = .ok (.iaload, 1) := by decide +kernel
theorem dL_law_254 : decode cL_law 254 = .ok (.aload_n 0, 1) := by decide +kernel
theorem dL_law_255 : decode cL_law 255 = .ok (.iload 4, 2) := by decide +kernel
theorem dL_law_257 : decode cL_law 257 = .ok (.iconst 3, 1) := by decide +kernel
theorem dL_law_258 : decode cL_law 258 = .ok (.iadd, 1) := by decide +kernel
theorem dL_law_259 : decode cL_law 259 = .ok (.iaload, 1) := by decide +kernel
theorem dL_law_260 : decode cL_law 260 = .ok (.invokestatic 81, 3) := by decide +kernel
theorem dL_law_263 : decode cL_law 263 = .ok (.istore 5, 2) := by decide +kernel
theorem dL_law_265 : decode cL_law 265 = .ok (.aload_n 2, 1) := by decide +kernel
theorem dL_law_266 : decode cL_law 266 = .ok (.aload_n 0, 1) := by decide +kernel
theorem dL_law_267 : decode cL_law 267 = .ok (.iload 4, 2) := by decide +kernel
theorem dL_law_269 : decode cL_law 269 = .ok (.iconst 1, 1) := by decide +kernel
theorem dL_law_270 : decode cL_law 270 = .ok (.iadd, 1) := by decide +kernel
theorem dL_law_271 : decode cL_law 271 = .ok (.iaload, 1) := by decide +kernel
theorem dL_law_272 : decode cL_law 272 = .ok (.aload_n 0, 1) := by decide +kernel
theorem dL_law_273 : decode cL_law 273 = .ok (.iload 4, 2) := by decide +kernel
theorem dL_law_275 : decode cL_law 275 = .ok (.iconst 2, 1) := by decide +kernel
theorem dL_law_276 : decode cL_law 276 = .ok (.iadd, 1) := by decide +kernel
theorem dL_law_277 : decode cL_law 277 = .ok (.iaload, 1) := by decide +kernel
theorem dL_law_278 : decode cL_law 278 = .ok (.aload_n 0, 1) := by decide +kernel
theorem dL_law_279 : decode cL_law 279 = .ok (.iload 4, 2) := by decide +kernel
theorem dL_law_281 : decode cL_law 281 = .ok (.iconst 3, 1) := by decide +kernel
theorem dL_law_282 : decode cL_law 282 = .ok (.iadd, 1) := by decide +kernel
theorem dL_law_283 : decode cL_law 283 = .ok (.iaload, 1) := by decide +kernel
theorem dL_law_284 : decode cL_law 284 = .ok (.invokevirtual 84, 3) := by decide +kernel
theorem dL_law_287 : decode cL_law 287 = .ok (.aload_n 2, 1) := by decide +kernel
theorem dL_law_288 : decode cL_law 288 = .ok (.invokevirtual 78, 3) := by decide +kernel
theorem dL_law_291 : decode cL_law 291 = .ok (.iload 5, 2) := by decide +kernel
theorem dL_law_293 : decode cL_law 293 = .ok (.if_icmp .eq 5, 3) := by decide +kernel
theorem dL_law_296 : decode cL_law 296 = .ok (.iconst 0, 1) := by decide +kernel
theorem dL_law_297 : decode cL_law 297 = .ok (.ireturn, 1) := by decide +kernel
theorem dL_law_298 : decode cL_law 298 = .ok (.goto 607, 3) := by decide +kernel
theorem dL_law_301 : decode cL_law 301 = .ok (.aload_n 1, 1) := by decide +kernel
theorem dL_law_302 : decode cL_law 302 = .ok (.invokevirtual 85, 3) := by decide +kernel
theorem dL_law_305 : decode cL_law 305 = .ok (.aload_n 2, 1) := by decide +kernel
theorem dL_law_306 : decode cL_law 306 = .ok (.invokevirtual 88, 3) := by decide +kernel
theorem dL_law_309 : decode cL_law 309 = .ok (.if_icmp .eq 596, 3) := by decide +kernel
theorem dL_law_312 : decode cL_law 312 = .ok (.iconst 0, 1) := by decide +kernel
theorem dL_law_313 : decode cL_law 313 = .ok (.ireturn, 1) := by decide +kernel
theorem dL_law_314 : decode cL_law 314 = .ok (.aload_n 1, 1) := by decide +kernel
theorem dL_law_315 : decode cL_law 315 = .ok (.aload_n 0, 1) := by decide +kernel
theorem dL_law_316 : decode cL_law 316 = .ok (.iload 4, 2) := by decide +kernel
theorem dL_law_318 : decode cL_law 318 = .ok (.iconst 1, 1) := by decide +kernel
theorem dL_law_319 : decode cL_law 319 = .ok (.iadd, 1) := by decide +kernel
theorem dL_law_320 : decode cL_law 320 = .ok (.iaload, 1) := by decide +kernel
theorem dL_law_321 : decode cL_law 321 = .ok (.aload_n 0, 1) := by decide +kernel
theorem dL_law_322 : decode cL_law 322 = .ok (.iload 4, 2) := by decide +kernel
theorem dL_law_324 : decode cL_law 324 = .ok (.iconst 2, 1) := by decide +kernel
theorem dL_law_325 : decode cL_law 325 = .ok (.iadd, 1) := by decide +kernel
theorem dL_law_326 : decode cL_law 326 = .ok (.iaload, 1) := by decide +kernel
theorem dL_law_327 : decode cL_law 327 = .ok (.ifCond .eq 7, 3) := by decide +kernel
theorem dL_law_330 : decode cL_law 330 = .ok (.iconst 1, 1) := by decide +kernel
theorem dL_law_331 : decode cL_law 331 = .ok (.goto 4, 3) := by decide +kernel
theorem dL_law_334 : decode cL_law 334 = .ok (.iconst 0, 1) := by decide +kernel
theorem dL_law_335 : decode cL_law 335 = .ok (.aload_n 3, 1) := by decide +kernel
theorem dL_law_336 : decode cL_law 336 = .ok (.invokestatic 89, 3) := by decide +kernel
theorem dL_law_339 : decode cL_law 339 = .ok (.istore 5, 2) := by decide +kernel
theorem dL_law_341 : decode cL_law 341 = .ok (.aload_n 2, 1) := by decide +kernel
theorem dL_law_342 : decode cL_law 342 = .ok (.aload_n 0, 1) := by decide +kernel
theorem dL_law_343 : decode cL_law 343 = .ok (.iload 4, 2) := by decide +kernel
theorem dL_law_345 : decode cL_law 345 = .ok (.iconst 1, 1) := by decide +kernel
theorem dL_law_346 : decode cL_law 346 = .ok (.iadd, 1) := by decide +kernel
theorem dL_law_347 : decode cL_law 347 = .ok (.iaload, 1) := by decide +kernel
theorem dL_law_348 : decode cL_law 348 = .ok (.aload_n 0, 1) := by decide +kernel
theorem dL_law_349 : decode cL_law 349 = .ok (.iload 4, 2) := by decide +kernel
theorem dL_law_351 : decode cL_law 351 = .ok (.iconst 2, 1) := by decide +kernel
theorem dL_law_352 : decode cL_law 352 = .ok (.iadd, 1) := by decide +kernel
theorem dL_law_353 : decode cL_law 353 = .ok (.iaload, 1) := by decide +kernel
theorem dL_law_354 : decode cL_law 354 = .ok (.ifCond .eq 7, 3) := by decide +kernel
theorem dL_law_357 : decode cL_law 357 = .ok (.iconst 1, 1) := by decide +kernel
theorem dL_law_358 : decode cL_law 358 = .ok (.goto 4, 3) := by decide +kernel
theorem dL_law_361 : decode cL_law 361 = .ok (.iconst 0, 1) := by decide +kernel
theorem dL_law_362 : decode cL_law 362 = .ok (.invokevirtual 91, 3) := by decide +kernel
theorem dL_law_365 : decode cL_law 365 = .ok (.istore 6, 2) := by decide +kernel
theorem dL_law_367 : decode cL_law 367 = .ok (.aload_n 2, 1) := by decide +kernel
theorem dL_law_368 : decode cL_law 368 = .ok (.invokevirtual 78, 3) := by decide +kernel
theorem dL_law_371 : decode cL_law 371 = .ok (.iload 5, 2) := by decide +kernel
theorem dL_law_373 : decode cL_law 373 = .ok (.if_icmp .eq 5, 3) := by decide +kernel
theorem dL_law_376 : decode cL_law 376 = .ok (.iconst 0, 1) := by decide +kernel
theorem dL_law_377 : decode cL_law 377 = .ok (.ireturn, 1) := by decide +kernel
theorem dL_law_378 : decode cL_law 378 = .ok (.iload 5, 2) := by decide +kernel
theorem dL_law_380 : decode cL_law 380 = .ok (.ifCond .ne 15, 3) := by decide +kernel
theorem dL_law_383 : decode cL_law 383 = .ok (.aload_n 3, 1) := by decide +kernel
theorem dL_law_384 : decode cL_law 384 = .ok (.iconst 0, 1) := by decide +kernel
theorem dL_law_385 : decode cL_law 385 = .ok (.laload, 1) := by decide +kernel
theorem dL_law_386 : decode cL_law 386 = .ok (.iload 6, 2) := by decide +kernel
theorem dL_law_388 : decode cL_law 388 = .ok (.i2l, 1) := by decide +kernel
theorem dL_law_389 : decode cL_law 389 = .ok (.lcmp, 1) := by decide +kernel
theorem dL_law_390 : decode cL_law 390 = .ok (.ifCond .eq 5, 3) := by decide +kernel
theorem dL_law_393 : decode cL_law 393 = .ok (.iconst 0, 1) := by decide +kernel
theorem dL_law_394 : decode cL_law 394 = .ok (.ireturn, 1) := by decide +kernel
theorem dL_law_395 : decode cL_law 395 = .ok (.goto 510, 3) := by decide +kernel
theorem dL_law_398 : decode cL_law 398 = .ok (.aload_n 1, 1) := by decide +kernel
theorem dL_law_399 : decode cL_law 399 = .ok (.invokevirtual 92, 3) := by decide +kernel
theorem dL_law_402 : decode cL_law 402 = .ok (.aload_n 2, 1) := by decide +kernel
theorem dL_law_403 : decode cL_law 403 = .ok (.invokevirtual 95, 3) := by decide +kernel
theorem dL_law_406 : decode cL_law 406 = .ok (.if_icmp .eq 499, 3) := by decide +kernel
theorem dL_law_409 : decode cL_law 409 = .ok (.iconst 0, 1) := by decide +kernel
theorem dL_law_410 : decode cL_law 410 = .ok (.ireturn, 1) := by decide +kernel
theorem dL_law_411 : decode cL_law 411 = .ok (.aload_n 1, 1) := by decide +kernel
theorem dL_law_412 : decode cL_law 412 = .ok (.aload_n 0, 1) := by decide +kernel
theorem dL_law_413 : decode cL_law 413 = .ok (.iload 4, 2) := by decide +kernel
theorem dL_law_415 : decode cL_law 415 = .ok (.iconst 1, 1) := by decide +kernel
theorem dL_law_416 : decode cL_law 416 = .ok (.iadd, 1) := by decide +kernel
theorem dL_law_417 : decode cL_law 417 = .ok (.iaload, 1) := by decide +kernel
theorem dL_law_418 : decode cL_law 418 = .ok (.aload_n 0, 1) := by decide +kernel
theorem dL_law_419 : decode cL_law 419 = .ok (.iload 4, 2) := by decide +kernel
theorem dL_law_421 : decode cL_law 421 = .ok (.iconst 2, 1) := by decide +kernel
theorem dL_law_422 : decode cL_law 422 = .ok (.iadd, 1) := by decide +kernel
theorem dL_law_423 : decode cL_law 423 = .ok (.iaload, 1) := by decide +kernel
theorem dL_law_424 : decode cL_law 424 = .ok (.aload_n 3, 1) := by decide +kernel
theorem dL_law_425 : decode cL_law 425 = .ok (.invokestatic 96, 3) := by decide +kernel
theorem dL_law_428 : decode cL_law 428 = .ok (.istore 5, 2) := by decide +kernel
theorem dL_law_430 : decode cL_law 430 = .ok (.aload_n 2, 1) := by decide +kernel
theorem dL_law_431 : decode cL_law 431 = .ok (.aload_n 0, 1) := by decide +kernel
theorem dL_law_432 : decode cL_law 432 = .ok (.iload 4, 2) := by decide +kernel
theorem dL_law_434 : decode cL_law 434 = .ok (.iconst 1, 1) := by decide +kernel
theorem dL_law_435 : decode cL_law 435 = .ok (.iadd, 1) := by decide +kernel
theorem dL_law_436 : decode cL_law 436 = .ok (.iaload, 1) := by decide +kernel
theorem dL_law_437 : decode cL_law 437 = .ok (.aload_n 0, 1) := by decide +kernel
theorem dL_law_438 : decode cL_law 438 = .ok (.iload 4, 2) := by decide +kernel
theorem dL_law_440 : decode cL_law 440 = .ok (.iconst 2, 1) := by decide +kernel
theorem dL_law_441 : decode cL_law 441 = .ok (.iadd, 1) := by decide +kernel
theorem dL_law_442 : decode cL_law 442 = .ok (.iaload, 1) := by decide +kernel
theorem dL_law_443 : decode cL_law 443 = .ok (.invokevirtual 99, 3) := by decide +kernel
theorem dL_law_446 : decode cL_law 446 = .ok (.istore 6, 2) := by decide +kernel
theorem dL_law_448 : decode cL_law 448 = .ok (.aload_n 2, 1) := by decide +kernel
theorem dL_law_449 : decode cL_law 449 = .ok (.invokevirtual 78, 3) := by decide +kernel
theorem dL_law_452 : decode cL_law 452 = .ok (.iload 5, 2) := by decide +kernel
theorem dL_law_454 : decode cL_law 454 = .ok (.if_icmp .eq 5, 3) := by decide +kernel
theorem dL_law_457 : decode cL_law 457 = .ok (.iconst 0, 1) := by decide +kernel
theorem dL_law_458 : decode cL_law 458 = .ok (.ireturn, 1) := by decide +kernel
theorem dL_law_459 : decode cL_law 459 = .ok (.iload 5, 2) := by decide +kernel
theorem dL_law_461 : decode cL_law 461 = .ok (.ifCond .ne 22, 3) := by decide +kernel
theorem dL_law_464 : decode cL_law 464 = .ok (.aload_n 3, 1) := by decide +kernel
theorem dL_law_465 : decode cL_law 465 = .ok (.iconst 0, 1) := by decide +kernel
theorem dL_law_466 : decode cL_law 466 = .ok (.laload, 1) := by decide +kernel
theorem dL_law_467 : decode cL_law 467 = .ok (.iload 6, 2) := by decide +kernel
theorem dL_law_469 : decode cL_law 469 = .ok (.ifCond .eq 7, 3) := by decide +kernel
theorem dL_law_472 : decode cL_law 472 = .ok (.lconst 1, 1) := by decide +kernel
theorem dL_law_473 : decode cL_law 473 = .ok (.goto 4, 3) := by decide +kernel
theorem dL_law_476 : decode cL_law 476 = .ok (.lconst 0, 1) := by decide +kernel
theorem dL_law_477 : decode cL_law 477 = .ok (.lcmp, 1) := by decide +kernel
theorem dL_law_478 : decode cL_law 478 = .ok (.ifCond .eq 5, 3) := by decide +kernel
theorem dL_law_481 : decode cL_law 481 = .ok (.iconst 0, 1) := by decide +kernel
theorem dL_law_482 : decode cL_law 482 = .ok (.ireturn, 1) := by decide +kernel
theorem dL_law_483 : decode cL_law 483 = .ok (.goto 422, 3) := by decide +kernel
theorem dL_law_486 : decode cL_law 486 = .ok (.aload_n 1, 1) := by decide +kernel
theorem dL_law_487 : decode cL_law 487 = .ok (.aload_n 0, 1) := by decide +kernel
theorem dL_law_488 : decode cL_law 488 = .ok (.iload 4, 2) := by decide +kernel
theorem dL_law_490 : decode cL_law 490 = .ok (.iconst 1, 1) := by decide +kernel
theorem dL_law_491 : decode cL_law 491 = .ok (.iadd, 1) := by decide +kernel
theorem dL_law_492 : decode cL_law 492 = .ok (.iaload, 1) := by decide +kernel
theorem dL_law_493 : decode cL_law 493 = .ok (.aload_n 3, 1) := by decide +kernel
theorem dL_law_494 : decode cL_law 494 = .ok (.invokestatic 100, 3) := by decide +kernel
theorem dL_law_497 : decode cL_law 497 = .ok (.istore 5, 2) := by decide +kernel
theorem dL_law_499 : decode cL_law 499 = .ok (.aload_n 2, 1) := by decide +kernel
theorem dL_law_500 : decode cL_law 500 = .ok (.aload_n 0, 1) := by decide +kernel
theorem dL_law_501 : decode cL_law 501 = .ok (.iload 4, 2) := by decide +kernel
theorem dL_law_503 : decode cL_law 503 = .ok (.iconst 1, 1) := by decide +kernel
theorem dL_law_504 : decode cL_law 504 = .ok (.iadd, 1) := by decide +kernel
theorem dL_law_505 : decode cL_law 505 = .ok (.iaload, 1) := by decide +kernel
theorem dL_law_506 : decode cL_law 506 = .ok (.invokevirtual 103, 3) := by decide +kernel
theorem dL_law_509 : decode cL_law 509 = .ok (.istore 6, 2) := by decide +kernel
theorem dL_law_511 : decode cL_law 511 = .ok (.aload_n 2, 1) := by decide +kernel
theorem dL_law_512 : decode cL_law 512 = .ok (.invokevirtual 78, 3) := by decide +kernel
theorem dL_law_515 : decode cL_law 515 = .ok (.iload 5, 2) := by decide +kernel
theorem dL_law_517 : decode cL_law 517 = .ok (.if_icmp .eq 5, 3) := by decide +kernel
theorem dL_law_520 : decode cL_law 520 = .ok (.iconst 0, 1) := by decide +kernel
theorem dL_law_521 : decode cL_law 521 = .ok (.ireturn, 1) := by decide +kernel
theorem dL_law_522 : decode cL_law 522 = .ok (.iload 5, 2) := by decide +kernel
theorem dL_law_524 : decode cL_law 524 = .ok (.ifCond .ne 15, 3) := by decide +kernel
theorem dL_law_527 : decode cL_law 527 = .ok (.aload_n 3, 1) := by decide +kernel
theorem dL_law_528 : decode cL_law 528 = .ok (.iconst 0, 1) := by decide +kernel
theorem dL_law_529 : decode cL_law 529 = .ok (.laload, 1) := by decide +kernel
theorem dL_law_530 : decode cL_law 530 = .ok (.iload 6, 2) := by decide +kernel
theorem dL_law_532 : decode cL_law 532 = .ok (.i2l, 1) := by decide +kernel
theorem dL_law_533 : decode cL_law 533 = .ok (.lcmp, 1) := by decide +kernel
theorem dL_law_534 : decode cL_law 534 = .ok (.ifCond .eq 5, 3) := by decide +kernel
theorem dL_law_537 : decode cL_law 537 = .ok (.iconst 0, 1) := by decide +kernel
theorem dL_law_538 : decode cL_law 538 = .ok (.ireturn, 1) := by decide +kernel
theorem dL_law_539 : decode cL_law 539 = .ok (.goto 366, 3) := by decide +kernel
theorem dL_law_542 : decode cL_law 542 = .ok (.aload_n 1, 1) := by decide +kernel
theorem dL_law_543 : decode cL_law 543 = .ok (.aload_n 0, 1) := by decide +kernel
theorem dL_law_544 : decode cL_law 544 = .ok (.iload 4, 2) := by decide +kernel
theorem dL_law_546 : decode cL_law 546 = .ok (.iconst 1, 1) := by decide +kernel
theorem dL_law_547 : decode cL_law 547 = .ok (.iadd, 1) := by decide +kernel
theorem dL_law_548 : decode cL_law 548 = .ok (.iaload, 1) := by decide +kernel
theorem dL_law_549 : decode cL_law 549 = .ok (.aload_n 3, 1) := by decide +kernel
theorem dL_law_550 : decode cL_law 550 = .ok (.invokestatic 104, 3) := by decide +kernel
theorem dL_law_553 : decode cL_law 553 = .ok (.istore 5, 2) := by decide +kernel
theorem dL_law_555 : decode cL_law 555 = .ok (.aload_n 2, 1) := by decide +kernel
theorem dL_law_556 : decode cL_law 556 = .ok (.aload_n 0, 1) := by decide +kernel
theorem dL_law_557 : decode cL_law 557 = .ok (.iload 4, 2) := by decide +kernel
theorem dL_law_559 : decode cL_law 559 = .ok (.iconst 1, 1) := by decide +kernel
theorem dL_law_560 : decode cL_law 560 = .ok (.iadd, 1) := by decide +kernel
theorem dL_law_561 : decode cL_law 561 = .ok (.iaload, 1) := by decide +kernel
theorem dL_law_562 : decode cL_law 562 = .ok (.invokevirtual 106, 3) := by decide +kernel
theorem dL_law_565 : decode cL_law 565 = .ok (.istore 6, 2) := by decide +kernel
theorem dL_law_567 : decode cL_law 567 = .ok (.aload_n 2, 1) := by decide +kernel
theorem dL_law_568 : decode cL_law 568 = .ok (.invokevirtual 78, 3) := by decide +kernel
theorem dL_law_571 : decode cL_law 571 = .ok (.iload 5, 2) := by decide +kernel
theorem dL_law_573 : decode cL_law 573 = .ok (.if_icmp .eq 5, 3) := by decide +kernel
theorem dL_law_576 : decode cL_law 576 = .ok (.iconst 0, 1) := by decide +kernel
theorem dL_law_577 : decode cL_law 577 = .ok (.ireturn, 1) := by decide +kernel
theorem dL_law_578 : decode cL_law 578 = .ok (.iload 5, 2) := by decide +kernel
theorem dL_law_580 : decode cL_law 580 = .ok (.ifCond .ne 15, 3) := by decide +kernel
theorem dL_law_583 : decode cL_law 583 = .ok (.aload_n 3, 1) := by decide +kernel
theorem dL_law_584 : decode cL_law 584 = .ok (.iconst 0, 1) := by decide +kernel
theorem dL_law_585 : decode cL_law 585 = .ok (.laload, 1) := by decide +kernel
theorem dL_law_586 : decode cL_law 586 = .ok (.iload 6, 2) := by decide +kernel
theorem dL_law_588 : decode cL_law 588 = .ok (.i2l, 1) := by decide +kernel
theorem dL_law_589 : decode cL_law 589 = .ok (.lcmp, 1) := by decide +kernel
theorem dL_law_590 : decode cL_law 590 = .ok (.ifCond .eq 5, 3) := by decide +kernel
theorem dL_law_593 : decode cL_law 593 = .ok (.iconst 0, 1) := by decide +kernel
theorem dL_law_594 : decode cL_law 594 = .ok (.ireturn, 1) := by decide +kernel
theorem dL_law_595 : decode cL_law 595 = .ok (.goto 310, 3) := by decide +kernel
theorem dL_law_598 : decode cL_law 598 = .ok (.aload_n 1, 1) := by decide +kernel
theorem dL_law_599 : decode cL_law 599 = .ok (.aload_n 0, 1) := by decide +kernel
theorem dL_law_600 : decode cL_law 600 = .ok (.iload 4, 2) := by decide +kernel
theorem dL_law_602 : decode cL_law 602 = .ok (.iconst 1, 1) := by decide +kernel
theorem dL_law_603 : decode cL_law 603 = .ok (.iadd, 1) := by decide +kernel
theorem dL_law_604 : decode cL_law 604 = .ok (.iaload, 1) := by decide +kernel
theorem dL_law_605 : decode cL_law 605 = .ok (.aload_n 3, 1) := by decide +kernel
theorem dL_law_606 : decode cL_law 606 = .ok (.invokestatic 107, 3) := by decide +kernel
theorem dL_law_609 : decode cL_law 609 = .ok (.istore 5, 2) := by decide +kernel
theorem dL_law_611 : decode cL_law 611 = .ok (.aload_n 2, 1) := by decide +kernel
theorem dL_law_612 : decode cL_law 612 = .ok (.aload_n 0, 1) := by decide +kernel
theorem dL_law_613 : decode cL_law 613 = .ok (.iload 4, 2) := by decide +kernel
theorem dL_law_615 : decode cL_law 615 = .ok (.iconst 1, 1) := by decide +kernel
theorem dL_law_616 : decode cL_law 616 = .ok (.iadd, 1) := by decide +kernel
theorem dL_law_617 : decode cL_law 617 = .ok (.iaload, 1) := by decide +kernel
theorem dL_law_618 : decode cL_law 618 = .ok (.invokevirtual 109, 3) := by decide +kernel
theorem dL_law_621 : decode cL_law 621 = .ok (.istore 6, 2) := by decide +kernel
theorem dL_law_623 : decode cL_law 623 = .ok (.aload_n 2, 1) := by decide +kernel
theorem dL_law_624 : decode cL_law 624 = .ok (.invokevirtual 78, 3) := by decide +kernel
theorem dL_law_627 : decode cL_law 627 = .ok (.iload 5, 2) := by decide +kernel
theorem dL_law_629 : decode cL_law 629 = .ok (.if_icmp .eq 5, 3) := by decide +kernel
theorem dL_law_632 : decode cL_law 632 = .ok (.iconst 0, 1) := by decide +kernel
theorem dL_law_633 : decode cL_law 633 = .ok (.ireturn, 1) := by decide +kernel
theorem dL_law_634 : decode cL_law 634 = .ok (.iload 5, 2) := by decide +kernel
theorem dL_law_636 : decode cL_law 636 = .ok (.ifCond .ne 22, 3) := by decide +kernel
theorem dL_law_639 : decode cL_law 639 = .ok (.aload_n 3, 1) := by decide +kernel
theorem dL_law_640 : decode cL_law 640 = .ok (.iconst 0, 1) := by decide +kernel
theorem dL_law_641 : decode cL_law 641 = .ok (.laload, 1) := by decide +kernel
theorem dL_law_642 : decode cL_law 642 = .ok (.iload 6, 2) := by decide +kernel
theorem dL_law_644 : decode cL_law 644 = .ok (.ifCond .eq 7, 3) := by decide +kernel
theorem dL_law_647 : decode cL_law 647 = .ok (.lconst 1, 1) := by decide +kernel
theorem dL_law_648 : decode cL_law 648 = .ok (.goto 4, 3) := by decide +kernel
theorem dL_law_651 : decode cL_law 651 = .ok (.lconst 0, 1) := by decide +kernel
theorem dL_law_652 : decode cL_law 652 = .ok (.lcmp, 1) := by decide +kernel
theorem dL_law_653 : decode cL_law 653 = .ok (.ifCond .eq 5, 3) := by decide +kernel
theorem dL_law_656 : decode cL_law 656 = .ok (.iconst 0, 1) := by decide +kernel
theorem dL_law_657 : decode cL_law 657 = .ok (.ireturn, 1) := by decide +kernel
theorem dL_law_658 : decode cL_law 658 = .ok (.goto 247, 3) := by decide +kernel
theorem dL_law_661 : decode cL_law 661 = .ok (.aload_n 1, 1) := by decide +kernel
theorem dL_law_662 : decode cL_law 662 = .ok (.aload_n 0, 1) := by decide +kernel
theorem dL_law_663 : decode cL_law 663 = .ok (.iload 4, 2) := by decide +kernel
theorem dL_law_665 : decode cL_law 665 = .ok (.iconst 1, 1) := by decide +kernel
theorem dL_law_666 : decode cL_law 666 = .ok (.iadd, 1) := by decide +kernel
theorem dL_law_667 : decode cL_law 667 = .ok (.iaload, 1) := by decide +kernel
theorem dL_law_668 : decode cL_law 668 = .ok (.invokestatic 110, 3) := by decide +kernel
theorem dL_law_671 : decode cL_law 671 = .ok (.istore 5, 2) := by decide +kernel
theorem dL_law_673 : decode cL_law 673 = .ok (.aload_n 2, 1) := by decide +kernel
theorem dL_law_674 : decode cL_law 674 = .ok (.aload_n 0, 1) := by decide +kernel
theorem dL_law_675 : decode cL_law 675 = .ok (.iload 4, 2) := by decide +kernel
theorem dL_law_677 : decode cL_law 677 = .ok (.iconst 1, 1) := by decide +kernel
theorem dL_law_678 : decode cL_law 678 = .ok (.iadd, 1) := by decide +kernel
theorem dL_law_679 : decode cL_law 679 = .ok (.iaload, 1) := by decide +kernel
theorem dL_law_680 : decode cL_law 680 = .ok (.invokevirtual 113, 3) := by decide +kernel
theorem dL_law_683 : decode cL_law 683 = .ok (.aload_n 2, 1) := by decide +kernel
theorem dL_law_684 : decode cL_law 684 = .ok (.invokevirtual 78, 3) := by decide +kernel
theorem dL_law_687 : decode cL_law 687 = .ok (.iload 5, 2) := by decide +kernel
theorem dL_law_689 : decode cL_law 689 = .ok (.if_icmp .eq 5, 3) := by decide +kernel
theorem dL_law_692 : decode cL_law 692 = .ok (.iconst 0, 1) := by decide +kernel
theorem dL_law_693 : decode cL_law 693 = .ok (.ireturn, 1) := by decide +kernel
theorem dL_law_694 : decode cL_law 694 = .ok (.goto 211, 3) := by decide +kernel
theorem dL_law_697 : decode cL_law 697 = .ok (.aload_n 1, 1) := by decide +kernel
theorem dL_law_698 : decode cL_law 698 = .ok (.invokevirtual 114, 3) := by decide +kernel
theorem dL_law_701 : decode cL_law 701 = .ok (.aload_n 2, 1) := by decide +kernel
theorem dL_law_702 : decode cL_law 702 = .ok (.invokevirtual 117, 3) := by decide +kernel
theorem dL_law_705 : decode cL_law 705 = .ok (.if_icmp .eq 200, 3) := by decide +kernel
theorem dL_law_708 : decode cL_law 708 = .ok (.iconst 0, 1) := by decide +kernel
theorem dL_law_709 : decode cL_law 709 = .ok (.ireturn, 1) := by decide +kernel
theorem dL_law_710 : decode cL_law 710 = .ok (.aload_n 1, 1) := by decide +kernel
theorem dL_law_711 : decode cL_law 711 = .ok (.invokevirtual 118, 3) := by decide +kernel
theorem dL_law_714 : decode cL_law 714 = .ok (.aload_n 2, 1) := by decide +kernel
theorem dL_law_715 : decode cL_law 715 = .ok (.invokevirtual 122, 3) := by decide +kernel
theorem dL_law_718 : decode cL_law 718 = .ok (.if_icmp .eq 187, 3) := by decide +kernel
theorem dL_law_721 : decode cL_law 721 = .ok (.iconst 0, 1) := by decide +kernel
theorem dL_law_722 : decode cL_law 722 = .ok (.ireturn, 1) := by decide +kernel
theorem dL_law_723 : decode cL_law 723 = .ok (.aload_n 1, 1) := by decide +kernel
theorem dL_law_724 : decode cL_law 724 = .ok (.aload_n 3, 1) := by decide +kernel
theorem dL_law_725 : decode cL_law 725 = .ok (.invokestatic 123, 3) := by decide +kernel
theorem dL_law_728 : decode cL_law 728 = .ok (.istore 5, 2) := by decide +kernel
theorem dL_law_730 : decode cL_law 730 = .ok (.aload_n 2, 1) := by decide +kernel
theorem dL_law_731 : decode cL_law 731 = .ok (.invokevirtual 126, 3) := by decide +kernel
theorem dL_law_734 : decode cL_law 734 = .ok (.istore 6, 2) := by decide +kernel
theorem dL_law_736 : decode cL_law 736 = .ok (.aload_n 2, 1) := by decide +kernel
theorem dL_law_737 : decode cL_law 737 = .ok (.invokevirtual 78, 3) := by decide +kernel
theorem dL_law_740 : decode cL_law 740 = .ok (.iload 5, 2) := by decide +kernel
theorem dL_law_742 : decode cL_law 742 = .ok (.if_icmp .eq 5, 3) := by decide +kernel
theorem dL_law_745 : decode cL_law 745 = .ok (.iconst 0, 1) := by decide +kernel
theorem dL_law_746 : decode cL_law 746 = .ok (.ireturn, 1) := by decide +kernel
theorem dL_law_747 : decode cL_law 747 = .ok (.iload 5, 2) := by decide +kernel
theorem dL_law_749 : decode cL_law 749 = .ok (.ifCond .ne 15, 3) := by decide +kernel
theorem dL_law_752 : decode cL_law 752 = .ok (.aload_n 3, 1) := by decide +kernel
theorem dL_law_753 : decode cL_law 753 = .ok (.iconst 0, 1) := by decide +kernel
theorem dL_law_754 : decode cL_law 754 = .ok (.laload, 1) := by decide +kernel
theorem dL_law_755 : decode cL_law 755 = .ok (.iload 6, 2) := by decide +kernel
theorem dL_law_757 : decode cL_law 757 = .ok (.i2l, 1) := by decide +kernel
theorem dL_law_758 : decode cL_law 758 = .ok (.lcmp, 1) := by decide +kernel
theorem dL_law_759 : decode cL_law 759 = .ok (.ifCond .eq 5, 3) := by decide +kernel
theorem dL_law_762 : decode cL_law 762 = .ok (.iconst 0, 1) := by decide +kernel
theorem dL_law_763 : decode cL_law 763 = .ok (.ireturn, 1) := by decide +kernel
theorem dL_law_764 : decode cL_law 764 = .ok (.goto 141, 3) := by decide +kernel
theorem dL_law_767 : decode cL_law 767 = .ok (.aload_n 1, 1) := by decide +kernel
theorem dL_law_768 : decode cL_law 768 = .ok (.invokevirtual 127, 3) := by decide +kernel
theorem dL_law_771 : decode cL_law 771 = .ok (.aload_n 2, 1) := by decide +kernel
theorem dL_law_772 : decode cL_law 772 = .ok (.invokevirtual 130, 3) := by decide +kernel
theorem dL_law_775 : decode cL_law 775 = .ok (.if_icmp .eq 130, 3) := by decide +kernel
theorem dL_law_778 : decode cL_law 778 = .ok (.iconst 0, 1) := by decide +kernel
theorem dL_law_779 : decode cL_law 779 = .ok (.ireturn, 1) := by decide +kernel
theorem dL_law_780 : decode cL_law 780 = .ok (.aload_n 1, 1) := by decide +kernel
theorem dL_law_781 : decode cL_law 781 = .ok (.invokevirtual 131, 3) := by decide +kernel
theorem dL_law_784 : decode cL_law 784 = .ok (.aload_n 2, 1) := by decide +kernel
theorem dL_law_785 : decode cL_law 785 = .ok (.invokevirtual 134, 3) := by decide +kernel
theorem dL_law_788 : decode cL_law 788 = .ok (.if_icmp .eq 117, 3) := by decide +kernel
theorem dL_law_791 : decode cL_law 791 = .ok (.iconst 0, 1) := by decide +kernel
theorem dL_law_792 : decode cL_law 792 = .ok (.ireturn, 1) := by decide +kernel
theorem dL_law_793 : decode cL_law 793 = .ok (.aload_n 1, 1) := by decide +kernel
theorem dL_law_794 : decode cL_law 794 = .ok (.aload_n 3, 1) := by decide +kernel
theorem dL_law_795 : decode cL_law 795 = .ok (.invokestatic 135, 3) := by decide +kernel
theorem dL_law_798 : decode cL_law 798 = .ok (.istore 5, 2) := by decide +kernel
theorem dL_law_800 : decode cL_law 800 = .ok (.aload_n 2, 1) := by decide +kernel
theorem dL_law_801 : decode cL_law 801 = .ok (.invokevirtual 137, 3) := by decide +kernel
theorem dL_law_804 : decode cL_law 804 = .ok (.istore 6, 2) := by decide +kernel
theorem dL_law_806 : decode cL_law 806 = .ok (.aload_n 2, 1) := by decide +kernel
theorem dL_law_807 : decode cL_law 807 = .ok (.invokevirtual 78, 3) := by decide +kernel
theorem dL_law_810 : decode cL_law 810 = .ok (.iload 5, 2) := by decide +kernel
theorem dL_law_812 : decode cL_law 812 = .ok (.if_icmp .eq 5, 3) := by decide +kernel
theorem dL_law_815 : decode cL_law 815 = .ok (.iconst 0, 1) := by decide +kernel
theorem dL_law_816 : decode cL_law 816 = .ok (.ireturn, 1) := by decide +kernel
theorem dL_law_817 : decode cL_law 817 = .ok (.iload 5, 2) := by decide +kernel
theorem dL_law_819 : decode cL_law 819 = .ok (.ifCond .ne 15, 3) := by decide +kernel
theorem dL_law_822 : decode cL_law 822 = .ok (.aload_n 3, 1) := by decide +kernel
theorem dL_law_823 : decode cL_law 823 = .ok (.iconst 0, 1) := by decide +kernel
theorem dL_law_824 : decode cL_law 824 = .ok (.laload, 1) := by decide +kernel
theorem dL_law_825 : decode cL_law 825 = .ok (.iload 6, 2) := by decide +kernel
theorem dL_law_827 : decode cL_law 827 = .ok (.i2l, 1) := by decide +kernel
theorem dL_law_828 : decode cL_law 828 = .ok (.lcmp, 1) := by decide +kernel
theorem dL_law_829 : decode cL_law 829 = .ok (.ifCond .eq 5, 3) := by decide +kernel
theorem dL_law_832 : decode cL_law 832 = .ok (.iconst 0, 1) := by decide +kernel
theorem dL_law_833 : decode cL_law 833 = .ok (.ireturn, 1) := by decide +kernel
theorem dL_law_834 : decode cL_law 834 = .ok (.goto 71, 3) := by decide +kernel
theorem dL_law_837 : decode cL_law 837 = .ok (.aload_n 1, 1) := by decide +kernel
theorem dL_law_838 : decode cL_law 838 = .ok (.aload_n 0, 1) := by decide +kernel
theorem dL_law_839 : decode cL_law 839 = .ok (.iload 4, 2) := by decide +kernel
theorem dL_law_841 : decode cL_law 841 = .ok (.iconst 1, 1) := by decide +kernel
theorem dL_law_842 : decode cL_law 842 = .ok (.iadd, 1) := by decide +kernel
theorem dL_law_843 : decode cL_law 843 = .ok (.iaload, 1) := by decide +kernel
theorem dL_law_844 : decode cL_law 844 = .ok (.aload_n 0, 1) := by decide +kernel
theorem dL_law_845 : decode cL_law 845 = .ok (.iload 4, 2) := by decide +kernel
theorem dL_law_847 : decode cL_law 847 = .ok (.iconst 2, 1) := by decide +kernel
theorem dL_law_848 : decode cL_law 848 = .ok (.iadd, 1) := by decide +kernel
theorem dL_law_849 : decode cL_law 849 = .ok (.iaload, 1) := by decide +kernel
theorem dL_law_850 : decode cL_law 850 = .ok (.aload_n 3, 1) := by decide +kernel
theorem dL_law_851 : decode cL_law 851 = .ok (.invokestatic 138, 3) := by decide +kernel
theorem dL_law_854 : decode cL_law 854 = .ok (.istore 5, 2) := by decide +kernel
theorem dL_law_856 : decode cL_law 856 = .ok (.aload_n 2, 1) := by decide +kernel
theorem dL_law_857 : decode cL_law 857 = .ok (.aload_n 0, 1) := by decide +kernel
theorem dL_law_858 : decode cL_law 858 = .ok (.iload 4, 2) := by decide +kernel
theorem dL_law_860 : decode cL_law 860 = .ok (.iconst 1, 1) := by decide +kernel
theorem dL_law_861 : decode cL_law 861 = .ok (.iadd, 1) := by decide +kernel
theorem dL_law_862 : decode cL_law 862 = .ok (.iaload, 1) := by decide +kernel
theorem dL_law_863 : decode cL_law 863 = .ok (.aload_n 0, 1) := by decide +kernel
theorem dL_law_864 : decode cL_law 864 = .ok (.iload 4, 2) := by decide +kernel
theorem dL_law_866 : decode cL_law 866 = .ok (.iconst 2, 1) := by decide +kernel
theorem dL_law_867 : decode cL_law 867 = .ok (.iadd, 1) := by decide +kernel
theorem dL_law_868 : decode cL_law 868 = .ok (.iaload, 1) := by decide +kernel
theorem dL_law_869 : decode cL_law 869 = .ok (.invokevirtual 140, 3) := by decide +kernel
theorem dL_law_872 : decode cL_law 872 = .ok (.istore 6, 2) := by decide +kernel
theorem dL_law_874 : decode cL_law 874 = .ok (.aload_n 2, 1) := by decide +kernel
theorem dL_law_875 : decode cL_law 875 = .ok (.invokevirtual 78, 3) := by decide +kernel
theorem dL_law_878 : decode cL_law 878 = .ok (.iload 5, 2) := by decide +kernel
theorem dL_law_880 : decode cL_law 880 = .ok (.if_icmp .eq 5, 3) := by decide +kernel
theorem dL_law_883 : decode cL_law 883 = .ok (.iconst 0, 1) := by decide +kernel
theorem dL_law_884 : decode cL_law 884 = .ok (.ireturn, 1) := by decide +kernel
theorem dL_law_885 : decode cL_law 885 = .ok (.iload 5, 2) := by decide +kernel
theorem dL_law_887 : decode cL_law 887 = .ok (.ifCond .ne 15, 3) := by decide +kernel
theorem dL_law_890 : decode cL_law 890 = .ok (.aload_n 3, 1) := by decide +kernel
theorem dL_law_891 : decode cL_law 891 = .ok (.iconst 0, 1) := by decide +kernel
theorem dL_law_892 : decode cL_law 892 = .ok (.laload, 1) := by decide +kernel
theorem dL_law_893 : decode cL_law 893 = .ok (.iload 6, 2) := by decide +kernel
theorem dL_law_895 : decode cL_law 895 = .ok (.i2l, 1) := by decide +kernel
theorem dL_law_896 : decode cL_law 896 = .ok (.lcmp, 1) := by decide +kernel
theorem dL_law_897 : decode cL_law 897 = .ok (.ifCond .eq 5, 3) := by decide +kernel
theorem dL_law_900 : decode cL_law 900 = .ok (.iconst 0, 1) := by decide +kernel
theorem dL_law_901 : decode cL_law 901 = .ok (.ireturn, 1) := by decide +kernel
theorem dL_law_902 : decode cL_law 902 = .ok (.goto 3, 3) := by decide +kernel
theorem dL_law_905 : decode cL_law 905 = .ok (.iinc 4 4, 3) := by decide +kernel
theorem dL_law_908 : decode cL_law 908 = .ok (.goto (-865), 3) := by decide +kernel
theorem dL_law_911 : decode cL_law 911 = .ok (.iconst 1, 1) := by decide +kernel
theorem dL_law_912 : decode cL_law 912 = .ok (.ireturn, 1) := by decide +kernel
end
section
theorem nd_mem : ∀ (l : List Nat), l.Nodup → va_nd l = true
  | [], _ => rfl
  | x :: l, h => by
    rw [List.nodup_cons] at h
    simp only [va_nd, Bool.and_eq_true, decide_eq_true_eq]
    exact ⟨h.1, nd_mem l h.2⟩
theorem nd_range (n : Nat) : va_nd (List.range n) = true := nd_mem _ List.nodup_range
theorem all_map (w : va_W) : (List.range w.length).map (fun i => w[i]?) = w.map some := by
  apply List.ext_getElem?
  intro i
  simp only [List.getElem?_map]
  by_cases hi : i < w.length
  · rw [List.getElem?_range hi, List.getElem?_eq_getElem hi]
    simp only [Option.map_some, List.getElem?_eq_getElem hi]
  · rw [List.getElem?_eq_none (by simpa using hi), List.getElem?_eq_none (by omega)]
    rfl
section JF
variable {k : VK} {l : Launch} {D : va_G} {tys : List (ClassId × FieldType)} {R : Room} {cc : ByteArray} {nL : Nat} {w : va_W} {cells slots pc : Nat} {lv : List (Nat × Value)} {rest : List Value}
theorem gf_X1_11 {a : Nat} {fs : List Value} {v : Value} (q0 : Nat) (he : w[q0]? = some (a, .inr (1, fs))) (hv : fs[0]? = some v) (hdg : decode cc pc = .ok (.getfield 11, 3)) (kk : V k l D tys R cc nL RX1 w cells slots (pc + 3) lv (v :: rest)) : V k l D tys R cc nL RX1 w cells slots (pc) lv (.ref a :: rest) :=
  j_get (k0 := 0) (T := TX1) (N := 7) (C := RX1) inA1 q0 he rfl (by decide) mw1_27 rfl hv hdg kk
theorem pF_X1_11 {a : Nat} {fs : List Value} {x : Int32} (hI : VInit k) (w' : va_W) (q0 : Nat) (he : w[q0]? = some (a, .inr (1, fs))) (hlt : 0 < fs.length) (hw : w.set q0 (a, .inr (1, fs.set 0 (.int x))) = w') (hdg : decode cc pc = .ok (.putfield 11, 3)) (kk : V k l D tys R cc nL RX1 w' cells slots (pc + 3) lv (rest)) : V k l D tys R cc nL RX1 w cells slots (pc) lv (.int x :: .ref a :: rest) :=
  j_putF (k0 := 0) (T := TX1) (N := 7) (C0 := RX1) w' inA1 tyX1 tyX1_ok nmX1 q0 he rfl (by decide) mw1_27 rfl rfl hI rfl (ty := .int) (tyX1_ok 0 (by decide)) rfl rfl hlt hw hdg kk
theorem gf_X2_119 {a : Nat} {fs : List Value} {v : Value} (q0 : Nat) (he : w[q0]? = some (a, .inr (1, fs))) (hv : fs[0]? = some v) (hdg : decode cc pc = .ok (.getfield 119, 3)) (kk : V k l D tys R cc nL RX2 w cells slots (pc + 3) lv (v :: rest)) : V k l D tys R cc nL RX2 w cells slots (pc) lv (.ref a :: rest) :=
  j_get (k0 := 0) (T := TX1) (N := 7) (C := RX1) inA1 q0 he rfl (by decide) mw1_28 rfl hv hdg kk
theorem gf_X1_15 {a : Nat} {fs : List Value} {v : Value} (q0 : Nat) (he : w[q0]? = some (a, .inr (1, fs))) (hv : fs[1]? = some v) (hdg : decode cc pc = .ok (.getfield 15, 3)) (kk : V k l D tys R cc nL RX1 w cells slots (pc + 3) lv (v :: rest)) : V k l D tys R cc nL RX1 w cells slots (pc) lv (.ref a :: rest) :=
  j_get (k0 := 1) (T := TX1) (N := 7) (C := RX1) inA1 q0 he rfl (by decide) mw1_29 rfl hv hdg kk
theorem pF_X1_15 {a : Nat} {fs : List Value} {x : Int32} (hI : VInit k) (w' : va_W) (q0 : Nat) (he : w[q0]? = some (a, .inr (1, fs))) (hlt : 1 < fs.length) (hw : w.set q0 (a, .inr (1, fs.set 1 (.int x))) = w') (hdg : decode cc pc = .ok (.putfield 15, 3)) (kk : V k l D tys R cc nL RX1 w' cells slots (pc + 3) lv (rest)) : V k l D tys R cc nL RX1 w cells slots (pc) lv (.int x :: .ref a :: rest) :=
  j_putF (k0 := 1) (T := TX1) (N := 7) (C0 := RX1) w' inA1 tyX1 tyX1_ok nmX1 q0 he rfl (by decide) mw1_29 rfl rfl hI rfl (ty := .int) (tyX1_ok 1 (by decide)) rfl rfl hlt hw hdg kk
theorem gf_X2_49 {a : Nat} {fs : List Value} {v : Value} (q0 : Nat) (he : w[q0]? = some (a, .inr (1, fs))) (hv : fs[1]? = some v) (hdg : decode cc pc = .ok (.getfield 49, 3)) (kk : V k l D tys R cc nL RX2 w cells slots (pc + 3) lv (v :: rest)) : V k l D tys R cc nL RX2 w cells slots (pc) lv (.ref a :: rest) :=
  j_get (k0 := 1) (T := TX1) (N := 7) (C := RX1) inA1 q0 he rfl (by decide) mw1_30 rfl hv hdg kk
theorem gf_X0_15 {a : Nat} {fs : List Value} {v : Value} (q0 : Nat) (he : w[q0]? = some (a, .inr (1, fs))) (hv : fs[2]? = some v) (hdg : decode cc pc = .ok (.getfield 15, 3)) (kk : V k l D tys R cc nL RX0 w cells slots (pc + 3) lv (v :: rest)) : V k l D tys R cc nL RX0 w cells slots (pc) lv (.ref a :: rest) :=
  j_get (k0 := 2) (T := TX1) (N := 7) (C := RX1) inA1 q0 he rfl (by decide) mw1_31 rfl hv hdg kk
theorem gf_X1_18 {a : Nat} {fs : List Value} {v : Value} (q0 : Nat) (he : w[q0]? = some (a, .inr (1, fs))) (hv : fs[2]? = some v) (hdg : decode cc pc = .ok (.getfield 18, 3)) (kk : V k l D tys R cc nL RX1 w cells slots (pc + 3) lv (v :: rest)) : V k l D tys R cc nL RX1 w cells slots (pc) lv (.ref a :: rest) :=
  j_get (k0 := 2) (T := TX1) (N := 7) (C := RX1) inA1 q0 he rfl (by decide) mw1_32 rfl hv hdg kk
theorem pF_X1_18 {a : Nat} {fs : List Value} {x : Int32} (hI : VInit k) (w' : va_W) (q0 : Nat) (he : w[q0]? = some (a, .inr (1, fs))) (hlt : 2 < fs.length) (hw : w.set q0 (a, .inr (1, fs.set 2 (.int x))) = w') (hdg : decode cc pc = .ok (.putfield 18, 3)) (kk : V k l D tys R cc nL RX1 w' cells slots (pc + 3) lv (rest)) : V k l D tys R cc nL RX1 w cells slots (pc) lv (.int x :: .ref a :: rest) :=
  j_putF (k0 := 2) (T := TX1) (N := 7) (C0 := RX1) w' inA1 tyX1 tyX1_ok nmX1 q0 he rfl (by decide) mw1_32 rfl rfl hI rfl (ty := .int) (tyX1_ok 2 (by decide)) rfl rfl hlt hw hdg kk
theorem gf_X2_35 {a : Nat} {fs : List Value} {v : Value} (q0 : Nat) (he : w[q0]? = some (a, .inr (1, fs))) (hv : fs[2]? = some v) (hdg : decode cc pc = .ok (.getfield 35, 3)) (kk : V k l D tys R cc nL RX2 w cells slots (pc + 3) lv (v :: rest)) : V k l D tys R cc nL RX2 w cells slots (pc) lv (.ref a :: rest) :=
  j_get (k0 := 2) (T := TX1) (N := 7) (C := RX1) inA1 q0 he rfl (by decide) mw1_33 rfl hv hdg kk
theorem gf_X1_21 {a : Nat} {fs : List Value} {v : Value} (q0 : Nat) (he : w[q0]? = some (a, .inr (1, fs))) (hv : fs[3]? = some v) (hdg : decode cc pc = .ok (.getfield 21, 3)) (kk : V k l D tys R cc nL RX1 w cells slots (pc + 3) lv (v :: rest)) : V k l D tys R cc nL RX1 w cells slots (pc) lv (.ref a :: rest) :=
  j_get (k0 := 3) (T := TX1) (N := 7) (C := RX1) inA1 q0 he rfl (by decide) mw1_34 rfl hv hdg kk
theorem pF_X1_21 {a b : Nat} {fs : List Value} (hI : VInit k) (w' : va_W) (q0 : Nat) (he : w[q0]? = some (a, .inr (1, fs))) (hlt : 3 < fs.length) (hw : w.set q0 (a, .inr (1, fs.set 3 (.ref b))) = w') (hdg : decode cc pc = .ok (.putfield 21, 3)) (kk : V k l D tys R cc nL RX1 w' cells slots (pc + 3) lv (rest)) : V k l D tys R cc nL RX1 w cells slots (pc) lv (.ref b :: .ref a :: rest) :=
  j_putF (k0 := 3) (T := TX1) (N := 7) (C0 := RX1) w' inA1 tyX1 tyX1_ok nmX1 q0 he rfl (by decide) mw1_34 rfl rfl hI rfl (ty := tyX1 3) (tyX1_ok 3 (by decide)) rfl rfl hlt hw hdg kk
theorem gf_X2_45 {a : Nat} {fs : List Value} {v : Value} (q0 : Nat) (he : w[q0]? = some (a, .inr (1, fs))) (hv : fs[3]? = some v) (hdg : decode cc pc = .ok (.getfield 45, 3)) (kk : V k l D tys R cc nL RX2 w cells slots (pc + 3) lv (v :: rest)) : V k l D tys R cc nL RX2 w cells slots (pc) lv (.ref a :: rest) :=
  j_get (k0 := 3) (T := TX1) (N := 7) (C := RX1) inA1 q0 he rfl (by decide) mw1_35 rfl hv hdg kk
theorem gf_X1_25 {a : Nat} {fs : List Value} {v : Value} (q0 : Nat) (he : w[q0]? = some (a, .inr (1, fs))) (hv : fs[4]? = some v) (hdg : decode cc pc = .ok (.getfield 25, 3)) (kk : V k l D tys R cc nL RX1 w cells slots (pc + 3) lv (v :: rest)) : V k l D tys R cc nL RX1 w cells slots (pc) lv (.ref a :: rest) :=
  j_get (k0 := 4) (T := TX1) (N := 7) (C := RX1) inA1 q0 he rfl (by decide) mw1_36 rfl hv hdg kk
theorem pF_X1_25 {a b : Nat} {fs : List Value} (hI : VInit k) (w' : va_W) (q0 : Nat) (he : w[q0]? = some (a, .inr (1, fs))) (hlt : 4 < fs.length) (hw : w.set q0 (a, .inr (1, fs.set 4 (.ref b))) = w') (hdg : decode cc pc = .ok (.putfield 25, 3)) (kk : V k l D tys R cc nL RX1 w' cells slots (pc + 3) lv (rest)) : V k l D tys R cc nL RX1 w cells slots (pc) lv (.ref b :: .ref a :: rest) :=
  j_putF (k0 := 4) (T := TX1) (N := 7) (C0 := RX1) w' inA1 tyX1 tyX1_ok nmX1 q0 he rfl (by decide) mw1_36 rfl rfl hI rfl (ty := tyX1 4) (tyX1_ok 4 (by decide)) rfl rfl hlt hw hdg kk
theorem gf_X2_52 {a : Nat} {fs : List Value} {v : Value} (q0 : Nat) (he : w[q0]? = some (a, .inr (1, fs))) (hv : fs[4]? = some v) (hdg : decode cc pc = .ok (.getfield 52, 3)) (kk : V k l D tys R cc nL RX2 w cells slots (pc + 3) lv (v :: rest)) : V k l D tys R cc nL RX2 w cells slots (pc) lv (.ref a :: rest) :=
  j_get (k0 := 4) (T := TX1) (N := 7) (C := RX1) inA1 q0 he rfl (by decide) mw1_37 rfl hv hdg kk
theorem gf_X1_28 {a : Nat} {fs : List Value} {v : Value} (q0 : Nat) (he : w[q0]? = some (a, .inr (1, fs))) (hv : fs[5]? = some v) (hdg : decode cc pc = .ok (.getfield 28, 3)) (kk : V k l D tys R cc nL RX1 w cells slots (pc + 3) lv (v :: rest)) : V k l D tys R cc nL RX1 w cells slots (pc) lv (.ref a :: rest) :=
  j_get (k0 := 5) (T := TX1) (N := 7) (C := RX1) inA1 q0 he rfl (by decide) mw1_38 rfl hv hdg kk
theorem pF_X1_28 {a b : Nat} {fs : List Value} (hI : VInit k) (w' : va_W) (q0 : Nat) (he : w[q0]? = some (a, .inr (1, fs))) (hlt : 5 < fs.length) (hw : w.set q0 (a, .inr (1, fs.set 5 (.ref b))) = w') (hdg : decode cc pc = .ok (.putfield 28, 3)) (kk : V k l D tys R cc nL RX1 w' cells slots (pc + 3) lv (rest)) : V k l D tys R cc nL RX1 w cells slots (pc) lv (.ref b :: .ref a :: rest) :=
  j_putF (k0 := 5) (T := TX1) (N := 7) (C0 := RX1) w' inA1 tyX1 tyX1_ok nmX1 q0 he rfl (by decide) mw1_38 rfl rfl hI rfl (ty := tyX1 5) (tyX1_ok 5 (by decide)) rfl rfl hlt hw hdg kk
theorem gf_X2_55 {a : Nat} {fs : List Value} {v : Value} (q0 : Nat) (he : w[q0]? = some (a, .inr (1, fs))) (hv : fs[5]? = some v) (hdg : decode cc pc = .ok (.getfield 55, 3)) (kk : V k l D tys R cc nL RX2 w cells slots (pc + 3) lv (v :: rest)) : V k l D tys R cc nL RX2 w cells slots (pc) lv (.ref a :: rest) :=
  j_get (k0 := 5) (T := TX1) (N := 7) (C := RX1) inA1 q0 he rfl (by decide) mw1_39 rfl hv hdg kk
theorem gf_X1_32 {a : Nat} {fs : List Value} {v : Value} (q0 : Nat) (he : w[q0]? = some (a, .inr (1, fs))) (hv : fs[6]? = some v) (hdg : decode cc pc = .ok (.getfield 32, 3)) (kk : V k l D tys R cc nL RX1 w cells slots (pc + 3) lv (v :: rest)) : V k l D tys R cc nL RX1 w cells slots (pc) lv (.ref a :: rest) :=
  j_get (k0 := 6) (T := TX1) (N := 7) (C := RX1) inA1 q0 he rfl (by decide) mw1_40 rfl hv hdg kk
theorem pF_X1_32 {a b : Nat} {fs : List Value} (hI : VInit k) (w' : va_W) (q0 : Nat) (he : w[q0]? = some (a, .inr (1, fs))) (hlt : 6 < fs.length) (hw : w.set q0 (a, .inr (1, fs.set 6 (.ref b))) = w') (hdg : decode cc pc = .ok (.putfield 32, 3)) (kk : V k l D tys R cc nL RX1 w' cells slots (pc + 3) lv (rest)) : V k l D tys R cc nL RX1 w cells slots (pc) lv (.ref b :: .ref a :: rest) :=
  j_putF (k0 := 6) (T := TX1) (N := 7) (C0 := RX1) w' inA1 tyX1 tyX1_ok nmX1 q0 he rfl (by decide) mw1_40 rfl rfl hI rfl (ty := tyX1 6) (tyX1_ok 6 (by decide)) rfl rfl hlt hw hdg kk
theorem gf_X2_116 {a : Nat} {fs : List Value} {v : Value} (q0 : Nat) (he : w[q0]? = some (a, .inr (1, fs))) (hv : fs[6]? = some v) (hdg : decode cc pc = .ok (.getfield 116, 3)) (kk : V k l D tys R cc nL RX2 w cells slots (pc + 3) lv (v :: rest)) : V k l D tys R cc nL RX2 w cells slots (pc) lv (.ref a :: rest) :=
  j_get (k0 := 6) (T := TX1) (N := 7) (C := RX1) inA1 q0 he rfl (by decide) mw1_41 rfl hv hdg kk
theorem gf_X0_9 {a : Nat} {fs : List Value} {v : Value} (q0 : Nat) (he : w[q0]? = some (a, .inr (0, fs))) (hv : fs[0]? = some v) (hdg : decode cc pc = .ok (.getfield 9, 3)) (kk : V k l D tys R cc nL RX0 w cells slots (pc + 3) lv (v :: rest)) : V k l D tys R cc nL RX0 w cells slots (pc) lv (.ref a :: rest) :=
  j_get (k0 := 0) (T := TX0) (N := 8) (C := RX0) inA0 q0 he rfl (by decide) mw1_65 rfl hv hdg kk
theorem pF_X0_9 {a b : Nat} {fs : List Value} (hI : VInit k) (w' : va_W) (q0 : Nat) (he : w[q0]? = some (a, .inr (0, fs))) (hlt : 0 < fs.length) (hw : w.set q0 (a, .inr (0, fs.set 0 (.ref b))) = w') (hdg : decode cc pc = .ok (.putfield 9, 3)) (kk : V k l D tys R cc nL RX0 w' cells slots (pc + 3) lv (rest)) : V k l D tys R cc nL RX0 w cells slots (pc) lv (.ref b :: .ref a :: rest) :=
  j_putF (k0 := 0) (T := TX0) (N := 8) (C0 := RX0) w' inA0 tyX0 tyX0_ok nmX0 q0 he rfl (by decide) mw1_65 rfl rfl hI rfl (ty := tyX0 0) (tyX0_ok 0 (by decide)) rfl rfl hlt hw hdg kk
theorem gf_X0_21 {a : Nat} {fs : List Value} {v : Value} (q0 : Nat) (he : w[q0]? = some (a, .inr (0, fs))) (hv : fs[1]? = some v) (hdg : decode cc pc = .ok (.getfield 21, 3)) (kk : V k l D tys R cc nL RX0 w cells slots (pc + 3) lv (v :: rest)) : V k l D tys R cc nL RX0 w cells slots (pc) lv (.ref a :: rest) :=
  j_get (k0 := 1) (T := TX0) (N := 8) (C := RX0) inA0 q0 he rfl (by decide) mw1_66 rfl hv hdg kk
theorem pF_X0_21 {a b : Nat} {fs : List Value} (hI : VInit k) (w' : va_W) (q0 : Nat) (he : w[q0]? = some (a, .inr (0, fs))) (hlt : 1 < fs.length) (hw : w.set q0 (a, .inr (0, fs.set 1 (.ref b))) = w') (hdg : decode cc pc = .ok (.putfield 21, 3)) (kk : V k l D tys R cc nL RX0 w' cells slots (pc + 3) lv (rest)) : V k l D tys R cc nL RX0 w cells slots (pc) lv (.ref b :: .ref a :: rest) :=
  j_putF (k0 := 1) (T := TX0) (N := 8) (C0 := RX0) w' inA0 tyX0 tyX0_ok nmX0 q0 he rfl (by decide) mw1_66 rfl rfl hI rfl (ty := tyX0 1) (tyX0_ok 1 (by decide)) rfl rfl hlt hw hdg kk
theorem gf_X2_80 {a : Nat} {fs : List Value} {v : Value} (q0 : Nat) (he : w[q0]? = some (a, .inr (0, fs))) (hv : fs[1]? = some v) (hdg : decode cc pc = .ok (.getfield 80, 3)) (kk : V k l D tys R cc nL RX2 w cells slots (pc + 3) lv (v :: rest)) : V k l D tys R cc nL RX2 w cells slots (pc) lv (.ref a :: rest) :=
  j_get (k0 := 1) (T := TX0) (N := 8) (C := RX0) inA0 q0 he rfl (by decide) mw1_67 rfl hv hdg kk
theorem gf_X0_25 {a : Nat} {fs : List Value} {v : Value} (q0 : Nat) (he : w[q0]? = some (a, .inr (0, fs))) (hv : fs[2]? = some v) (hdg : decode cc pc = .ok (.getfield 25, 3)) (kk : V k l D tys R cc nL RX0 w cells slots (pc + 3) lv (v :: rest)) : V k l D tys R cc nL RX0 w cells slots (pc) lv (.ref a :: rest) :=
  j_get (k0 := 2) (T := TX0) (N := 8) (C := RX0) inA0 q0 he rfl (by decide) mw1_68 rfl hv hdg kk
theorem pf_X0_25 {a : Nat} {fs : List Value} {x : Int32} (w' : va_W) (q0 : Nat) (he : w[q0]? = some (a, .inr (0, fs))) (hlt : 2 < fs.length) (hw : w.set q0 (a, .inr (0, fs.set 2 (.int x))) = w') (hdg : decode cc pc = .ok (.putfield 25, 3)) (kk : V k l D tys R cc nL RX0 w' cells slots (pc + 3) lv (rest)) : V k l D tys R cc nL RX0 w cells slots (pc) lv (.int x :: .ref a :: rest) :=
  j_put (k0 := 2) (T := TX0) (N := 8) (C0 := RX0) w' inA0 tyX0 tyX0_ok nmX0 q0 he rfl (by decide) mw1_68 rfl rfl (ty := .int) (tyX0_ok 2 (by decide)) rfl rfl hlt hw hdg kk
theorem gf_X2_83 {a : Nat} {fs : List Value} {v : Value} (q0 : Nat) (he : w[q0]? = some (a, .inr (0, fs))) (hv : fs[2]? = some v) (hdg : decode cc pc = .ok (.getfield 83, 3)) (kk : V k l D tys R cc nL RX2 w cells slots (pc + 3) lv (v :: rest)) : V k l D tys R cc nL RX2 w cells slots (pc) lv (.ref a :: rest) :=
  j_get (k0 := 2) (T := TX0) (N := 8) (C := RX0) inA0 q0 he rfl (by decide) mw1_69 rfl hv hdg kk
theorem pf_X2_83 {a : Nat} {fs : List Value} {x : Int32} (w' : va_W) (q0 : Nat) (he : w[q0]? = some (a, .inr (0, fs))) (hlt : 2 < fs.length) (hw : w.set q0 (a, .inr (0, fs.set 2 (.int x))) = w') (hdg : decode cc pc = .ok (.putfield 83, 3)) (kk : V k l D tys R cc nL RX2 w' cells slots (pc + 3) lv (rest)) : V k l D tys R cc nL RX2 w cells slots (pc) lv (.int x :: .ref a :: rest) :=
  j_put (k0 := 2) (T := TX0) (N := 8) (C0 := RX0) w' inA0 tyX0 tyX0_ok nmX0 q0 he rfl (by decide) mw1_69 rfl rfl (ty := .int) (tyX0_ok 2 (by decide)) rfl rfl hlt hw hdg kk
theorem gf_X0_28 {a : Nat} {fs : List Value} {v : Value} (q0 : Nat) (he : w[q0]? = some (a, .inr (0, fs))) (hv : fs[3]? = some v) (hdg : decode cc pc = .ok (.getfield 28, 3)) (kk : V k l D tys R cc nL RX0 w cells slots (pc + 3) lv (v :: rest)) : V k l D tys R cc nL RX0 w cells slots (pc) lv (.ref a :: rest) :=
  j_get (k0 := 3) (T := TX0) (N := 8) (C := RX0) inA0 q0 he rfl (by decide) mw1_70 rfl hv hdg kk
theorem pF_X0_28 {a b : Nat} {fs : List Value} (hI : VInit k) (w' : va_W) (q0 : Nat) (he : w[q0]? = some (a, .inr (0, fs))) (hlt : 3 < fs.length) (hw : w.set q0 (a, .inr (0, fs.set 3 (.ref b))) = w') (hdg : decode cc pc = .ok (.putfield 28, 3)) (kk : V k l D tys R cc nL RX0 w' cells slots (pc + 3) lv (rest)) : V k l D tys R cc nL RX0 w cells slots (pc) lv (.ref b :: .ref a :: rest) :=
  j_putF (k0 := 3) (T := TX0) (N := 8) (C0 := RX0) w' inA0 tyX0 tyX0_ok nmX0 q0 he rfl (by decide) mw1_70 rfl rfl hI rfl (ty := tyX0 3) (tyX0_ok 3 (by decide)) rfl rfl hlt hw hdg kk
theorem gf_X0_31 {a : Nat} {fs : List Value} {v : Value} (q0 : Nat) (he : w[q0]? = some (a, .inr (0, fs))) (hv : fs[4]? = some v) (hdg : decode cc pc = .ok (.getfield 31, 3)) (kk : V k l D tys R cc nL RX0 w cells slots (pc + 3) lv (v :: rest)) : V k l D tys R cc nL RX0 w cells slots (pc) lv (.ref a :: rest) :=
  j_get (k0 := 4) (T := TX0) (N := 8) (C := RX0) inA0 q0 he rfl (by decide) mw1_71 rfl hv hdg kk
theorem pF_X0_31 {a b : Nat} {fs : List Value} (hI : VInit k) (w' : va_W) (q0 : Nat) (he : w[q0]? = some (a, .inr (0, fs))) (hlt : 4 < fs.length) (hw : w.set q0 (a, .inr (0, fs.set 4 (.ref b))) = w') (hdg : decode cc pc = .ok (.putfield 31, 3)) (kk : V k l D tys R cc nL RX0 w' cells slots (pc + 3) lv (rest)) : V k l D tys R cc nL RX0 w cells slots (pc) lv (.ref b :: .ref a :: rest) :=
  j_putF (k0 := 4) (T := TX0) (N := 8) (C0 := RX0) w' inA0 tyX0 tyX0_ok nmX0 q0 he rfl (by decide) mw1_71 rfl rfl hI rfl (ty := tyX0 4) (tyX0_ok 4 (by decide)) rfl rfl hlt hw hdg kk
theorem gf_X0_34 {a : Nat} {fs : List Value} {v : Value} (q0 : Nat) (he : w[q0]? = some (a, .inr (0, fs))) (hv : fs[5]? = some v) (hdg : decode cc pc = .ok (.getfield 34, 3)) (kk : V k l D tys R cc nL RX0 w cells slots (pc + 3) lv (v :: rest)) : V k l D tys R cc nL RX0 w cells slots (pc) lv (.ref a :: rest) :=
  j_get (k0 := 5) (T := TX0) (N := 8) (C := RX0) inA0 q0 he rfl (by decide) mw1_72 rfl hv hdg kk
theorem pF_X0_34 {a b : Nat} {fs : List Value} (hI : VInit k) (w' : va_W) (q0 : Nat) (he : w[q0]? = some (a, .inr (0, fs))) (hlt : 5 < fs.length) (hw : w.set q0 (a, .inr (0, fs.set 5 (.ref b))) = w') (hdg : decode cc pc = .ok (.putfield 34, 3)) (kk : V k l D tys R cc nL RX0 w' cells slots (pc + 3) lv (rest)) : V k l D tys R cc nL RX0 w cells slots (pc) lv (.ref b :: .ref a :: rest) :=
  j_putF (k0 := 5) (T := TX0) (N := 8) (C0 := RX0) w' inA0 tyX0 tyX0_ok nmX0 q0 he rfl (by decide) mw1_72 rfl rfl hI rfl (ty := tyX0 5) (tyX0_ok 5 (by decide)) rfl rfl hlt hw hdg kk
theorem gf_X0_37 {a : Nat} {fs : List Value} {v : Value} (q0 : Nat) (he : w[q0]? = some (a, .inr (0, fs))) (hv : fs[6]? = some v) (hdg : decode cc pc = .ok (.getfield 37, 3)) (kk : V k l D tys R cc nL RX0 w cells slots (pc + 3) lv (v :: rest)) : V k l D tys R cc nL RX0 w cells slots (pc) lv (.ref a :: rest) :=
  j_get (k0 := 6) (T := TX0) (N := 8) (C := RX0) inA0 q0 he rfl (by decide) mw1_73 rfl hv hdg kk
theorem pF_X0_37 {a b : Nat} {fs : List Value} (hI : VInit k) (w' : va_W) (q0 : Nat) (he : w[q0]? = some (a, .inr (0, fs))) (hlt : 6 < fs.length) (hw : w.set q0 (a, .inr (0, fs.set 6 (.ref b))) = w') (hdg : decode cc pc = .ok (.putfield 37, 3)) (kk : V k l D tys R cc nL RX0 w' cells slots (pc + 3) lv (rest)) : V k l D tys R cc nL RX0 w cells slots (pc) lv (.ref b :: .ref a :: rest) :=
  j_putF (k0 := 6) (T := TX0) (N := 8) (C0 := RX0) w' inA0 tyX0 tyX0_ok nmX0 q0 he rfl (by decide) mw1_73 rfl rfl hI rfl (ty := tyX0 6) (tyX0_ok 6 (by decide)) rfl rfl hlt hw hdg kk
theorem gf_X2_73 {a : Nat} {fs : List Value} {v : Value} (q0 : Nat) (he : w[q0]? = some (a, .inr (0, fs))) (hv : fs[6]? = some v) (hdg : decode cc pc = .ok (.getfield 73, 3)) (kk : V k l D tys R cc nL RX2 w cells slots (pc + 3) lv (v :: rest)) : V k l D tys R cc nL RX2 w cells slots (pc) lv (.ref a :: rest) :=
  j_get (k0 := 6) (T := TX0) (N := 8) (C := RX0) inA0 q0 he rfl (by decide) mw1_74 rfl hv hdg kk
theorem gf_X0_40 {a : Nat} {fs : List Value} {v : Value} (q0 : Nat) (he : w[q0]? = some (a, .inr (0, fs))) (hv : fs[7]? = some v) (hdg : decode cc pc = .ok (.getfield 40, 3)) (kk : V k l D tys R cc nL RX0 w cells slots (pc + 3) lv (v :: rest)) : V k l D tys R cc nL RX0 w cells slots (pc) lv (.ref a :: rest) :=
  j_get (k0 := 7) (T := TX0) (N := 8) (C := RX0) inA0 q0 he rfl (by decide) mw1_75 rfl hv hdg kk
theorem pF_X0_40 {a b : Nat} {fs : List Value} (hI : VInit k) (w' : va_W) (q0 : Nat) (he : w[q0]? = some (a, .inr (0, fs))) (hlt : 7 < fs.length) (hw : w.set q0 (a, .inr (0, fs.set 7 (.ref b))) = w') (hdg : decode cc pc = .ok (.putfield 40, 3)) (kk : V k l D tys R cc nL RX0 w' cells slots (pc + 3) lv (rest)) : V k l D tys R cc nL RX0 w cells slots (pc) lv (.ref b :: .ref a :: rest) :=
  j_putF (k0 := 7) (T := TX0) (N := 8) (C0 := RX0) w' inA0 tyX0 tyX0_ok nmX0 q0 he rfl (by decide) mw1_75 rfl rfl hI rfl (ty := tyX0 7) (tyX0_ok 7 (by decide)) rfl rfl hlt hw hdg kk
theorem gf_X2_14 {a : Nat} {fs : List Value} {v : Value} (q0 : Nat) (he : w[q0]? = some (a, .inr (2, fs))) (hv : fs[0]? = some v) (hdg : decode cc pc = .ok (.getfield 14, 3)) (kk : V k l D tys R cc nL RX2 w cells slots (pc + 3) lv (v :: rest)) : V k l D tys R cc nL RX2 w cells slots (pc) lv (.ref a :: rest) :=
  j_get (k0 := 0) (T := TX2) (N := 4) (C := RX2) inA2 q0 he rfl (by decide) mw1_93 rfl hv hdg kk
theorem pF_X2_14 {a b : Nat} {fs : List Value} (hI : VInit k) (w' : va_W) (q0 : Nat) (he : w[q0]? = some (a, .inr (2, fs))) (hlt : 0 < fs.length) (hw : w.set q0 (a, .inr (2, fs.set 0 (.ref b))) = w') (hdg : decode cc pc = .ok (.putfield 14, 3)) (kk : V k l D tys R cc nL RX2 w' cells slots (pc + 3) lv (rest)) : V k l D tys R cc nL RX2 w cells slots (pc) lv (.ref b :: .ref a :: rest) :=
  j_putF (k0 := 0) (T := TX2) (N := 4) (C0 := RX2) w' inA2 tyX2 tyX2_ok nmX2 q0 he rfl (by decide) mw1_93 rfl rfl hI rfl (ty := tyX2 0) (tyX2_ok 0 (by decide)) rfl rfl hlt hw hdg kk
theorem gf_X2_23 {a : Nat} {fs : List Value} {v : Value} (q0 : Nat) (he : w[q0]? = some (a, .inr (2, fs))) (hv : fs[1]? = some v) (hdg : decode cc pc = .ok (.getfield 23, 3)) (kk : V k l D tys R cc nL RX2 w cells slots (pc + 3) lv (v :: rest)) : V k l D tys R cc nL RX2 w cells slots (pc) lv (.ref a :: rest) :=
  j_get (k0 := 1) (T := TX2) (N := 4) (C := RX2) inA2 q0 he rfl (by decide) mw1_94 rfl hv hdg kk
theorem pF_X2_23 {a b : Nat} {fs : List Value} (hI : VInit k) (w' : va_W) (q0 : Nat) (he : w[q0]? = some (a, .inr (2, fs))) (hlt : 1 < fs.length) (hw : w.set q0 (a, .inr (2, fs.set 1 (.ref b))) = w') (hdg : decode cc pc = .ok (.putfield 23, 3)) (kk : V k l D tys R cc nL RX2 w' cells slots (pc + 3) lv (rest)) : V k l D tys R cc nL RX2 w cells slots (pc) lv (.ref b :: .ref a :: rest) :=
  j_putF (k0 := 1) (T := TX2) (N := 4) (C0 := RX2) w' inA2 tyX2 tyX2_ok nmX2 q0 he rfl (by decide) mw1_94 rfl rfl hI rfl (ty := tyX2 1) (tyX2_ok 1 (by decide)) rfl rfl hlt hw hdg kk
theorem gf_X2_27 {a : Nat} {fs : List Value} {v : Value} (q0 : Nat) (he : w[q0]? = some (a, .inr (2, fs))) (hv : fs[2]? = some v) (hdg : decode cc pc = .ok (.getfield 27, 3)) (kk : V k l D tys R cc nL RX2 w cells slots (pc + 3) lv (v :: rest)) : V k l D tys R cc nL RX2 w cells slots (pc) lv (.ref a :: rest) :=
  j_get (k0 := 2) (T := TX2) (N := 4) (C := RX2) inA2 q0 he rfl (by decide) mw1_95 rfl hv hdg kk
theorem pf_X2_27 {a : Nat} {fs : List Value} {x : Int32} (w' : va_W) (q0 : Nat) (he : w[q0]? = some (a, .inr (2, fs))) (hlt : 2 < fs.length) (hw : w.set q0 (a, .inr (2, fs.set 2 (.int x))) = w') (hdg : decode cc pc = .ok (.putfield 27, 3)) (kk : V k l D tys R cc nL RX2 w' cells slots (pc + 3) lv (rest)) : V k l D tys R cc nL RX2 w cells slots (pc) lv (.int x :: .ref a :: rest) :=
  j_put (k0 := 2) (T := TX2) (N := 4) (C0 := RX2) w' inA2 tyX2 tyX2_ok nmX2 q0 he rfl (by decide) mw1_95 rfl rfl (ty := .int) (tyX2_ok 2 (by decide)) rfl rfl hlt hw hdg kk
theorem gf_X2_31 {a : Nat} {fs : List Value} {v : Value} (q0 : Nat) (he : w[q0]? = some (a, .inr (2, fs))) (hv : fs[3]? = some v) (hdg : decode cc pc = .ok (.getfield 31, 3)) (kk : V k l D tys R cc nL RX2 w cells slots (pc + 3) lv (v :: rest)) : V k l D tys R cc nL RX2 w cells slots (pc) lv (.ref a :: rest) :=
  j_get (k0 := 3) (T := TX2) (N := 4) (C := RX2) inA2 q0 he rfl (by decide) mw1_96 rfl hv hdg kk
theorem pf_X2_31 {a : Nat} {fs : List Value} {x : Int32} (w' : va_W) (q0 : Nat) (he : w[q0]? = some (a, .inr (2, fs))) (hlt : 3 < fs.length) (hn : narrow .boolean (.int x) = .int x) (hf : fits .boolean (.int x) = true) (hw : w.set q0 (a, .inr (2, fs.set 3 (.int x))) = w') (hdg : decode cc pc = .ok (.putfield 31, 3)) (kk : V k l D tys R cc nL RX2 w' cells slots (pc + 3) lv (rest)) : V k l D tys R cc nL RX2 w cells slots (pc) lv (.int x :: .ref a :: rest) :=
  j_put (k0 := 3) (T := TX2) (N := 4) (C0 := RX2) w' inA2 tyX2 tyX2_ok nmX2 q0 he rfl (by decide) mw1_96 rfl rfl (ty := .boolean) (tyX2_ok 3 (by decide)) hn hf hlt hw hdg kk
theorem gf_X3_103 {a : Nat} {fs : List Value} {v : Value} (q0 : Nat) (he : w[q0]? = some (a, .inr (3, fs))) (hv : fs[0]? = some v) (hdg : decode cc pc = .ok (.getfield 103, 3)) (kk : V k l D tys R cc nL RX3 w cells slots (pc + 3) lv (v :: rest)) : V k l D tys R cc nL RX3 w cells slots (pc) lv (.ref a :: rest) :=
  j_get (k0 := 0) (T := TX3) (N := 32) (C := RX3) inA3 q0 he rfl (by decide) mw3_7 rfl hv hdg kk
theorem pf_X3_103 {a : Nat} {fs : List Value} {x : Int32} (w' : va_W) (q0 : Nat) (he : w[q0]? = some (a, .inr (3, fs))) (hlt : 0 < fs.length) (hw : w.set q0 (a, .inr (3, fs.set 0 (.int x))) = w') (hdg : decode cc pc = .ok (.putfield 103, 3)) (kk : V k l D tys R cc nL RX3 w' cells slots (pc + 3) lv (rest)) : V k l D tys R cc nL RX3 w cells slots (pc) lv (.int x :: .ref a :: rest) :=
  j_put (k0 := 0) (T := TX3) (N := 32) (C0 := RX3) w' inA3 tyX3 tyX3_ok nmX3 q0 he rfl (by decide) mw3_7 rfl rfl (ty := .int) (tyX3_ok 0 (by decide)) rfl rfl hlt hw hdg kk
theorem gf_X3_72 {a : Nat} {fs : List Value} {v : Value} (q0 : Nat) (he : w[q0]? = some (a, .inr (3, fs))) (hv : fs[1]? = some v) (hdg : decode cc pc = .ok (.getfield 72, 3)) (kk : V k l D tys R cc nL RX3 w cells slots (pc + 3) lv (v :: rest)) : V k l D tys R cc nL RX3 w cells slots (pc) lv (.ref a :: rest) :=
  j_get (k0 := 1) (T := TX3) (N := 32) (C := RX3) inA3 q0 he rfl (by decide) mw3_8 rfl hv hdg kk
theorem pf_X3_72 {a : Nat} {fs : List Value} {x : Int32} (w' : va_W) (q0 : Nat) (he : w[q0]? = some (a, .inr (3, fs))) (hlt : 1 < fs.length) (hw : w.set q0 (a, .inr (3, fs.set 1 (.int x))) = w') (hdg : decode cc pc = .ok (.putfield 72, 3)) (kk : V k l D tys R cc nL RX3 w' cells slots (pc + 3) lv (rest)) : V k l D tys R cc nL RX3 w cells slots (pc) lv (.int x :: .ref a :: rest) :=
  j_put (k0 := 1) (T := TX3) (N := 32) (C0 := RX3) w' inA3 tyX3 tyX3_ok nmX3 q0 he rfl (by decide) mw3_8 rfl rfl (ty := .int) (tyX3_ok 1 (by decide)) rfl rfl hlt hw hdg kk
theorem gf_X3_76 {a : Nat} {fs : List Value} {v : Value} (q0 : Nat) (he : w[q0]? = some (a, .inr (3, fs))) (hv : fs[2]? = some v) (hdg : decode cc pc = .ok (.getfield 76, 3)) (kk : V k l D tys R cc nL RX3 w cells slots (pc + 3) lv (v :: rest)) : V k l D tys R cc nL RX3 w cells slots (pc) lv (.ref a :: rest) :=
  j_get (k0 := 2) (T := TX3) (N := 32) (C := RX3) inA3 q0 he rfl (by decide) mw3_9 rfl hv hdg kk
theorem pf_X3_76 {a : Nat} {fs : List Value} {x : Int32} (w' : va_W) (q0 : Nat) (he : w[q0]? = some (a, .inr (3, fs))) (hlt : 2 < fs.length) (hw : w.set q0 (a, .inr (3, fs.set 2 (.int x))) = w') (hdg : decode cc pc = .ok (.putfield 76, 3)) (kk : V k l D tys R cc nL RX3 w' cells slots (pc + 3) lv (rest)) : V k l D tys R cc nL RX3 w cells slots (pc) lv (.int x :: .ref a :: rest) :=
  j_put (k0 := 2) (T := TX3) (N := 32) (C0 := RX3) w' inA3 tyX3 tyX3_ok nmX3 q0 he rfl (by decide) mw3_9 rfl rfl (ty := .int) (tyX3_ok 2 (by decide)) rfl rfl hlt hw hdg kk
theorem gf_X3_79 {a : Nat} {fs : List Value} {v : Value} (q0 : Nat) (he : w[q0]? = some (a, .inr (3, fs))) (hv : fs[3]? = some v) (hdg : decode cc pc = .ok (.getfield 79, 3)) (kk : V k l D tys R cc nL RX3 w cells slots (pc + 3) lv (v :: rest)) : V k l D tys R cc nL RX3 w cells slots (pc) lv (.ref a :: rest) :=
  j_get (k0 := 3) (T := TX3) (N := 32) (C := RX3) inA3 q0 he rfl (by decide) mw3_10 rfl hv hdg kk
theorem pf_X3_79 {a : Nat} {fs : List Value} {x : Int32} (w' : va_W) (q0 : Nat) (he : w[q0]? = some (a, .inr (3, fs))) (hlt : 3 < fs.length) (hw : w.set q0 (a, .inr (3, fs.set 3 (.int x))) = w') (hdg : decode cc pc = .ok (.putfield 79, 3)) (kk : V k l D tys R cc nL RX3 w' cells slots (pc + 3) lv (rest)) : V k l D tys R cc nL RX3 w cells slots (pc) lv (.int x :: .ref a :: rest) :=
  j_put (k0 := 3) (T := TX3) (N := 32) (C0 := RX3) w' inA3 tyX3 tyX3_ok nmX3 q0 he rfl (by decide) mw3_10 rfl rfl (ty := .int) (tyX3_ok 3 (by decide)) rfl rfl hlt hw hdg kk
theorem gf_X3_93 {a : Nat} {fs : List Value} {v : Value} (q0 : Nat) (he : w[q0]? = some (a, .inr (3, fs))) (hv : fs[4]? = some v) (hdg : decode cc pc = .ok (.getfield 93, 3)) (kk : V k l D tys R cc nL RX3 w cells slots (pc + 3) lv (v :: rest)) : V k l D tys R cc nL RX3 w cells slots (pc) lv (.ref a :: rest) :=
  j_get (k0 := 4) (T := TX3) (N := 32) (C := RX3) inA3 q0 he rfl (by decide) mw3_11 rfl hv hdg kk
theorem pf_X3_93 {a : Nat} {fs : List Value} {x : Int32} (w' : va_W) (q0 : Nat) (he : w[q0]? = some (a, .inr (3, fs))) (hlt : 4 < fs.length) (hw : w.set q0 (a, .inr (3, fs.set 4 (.int x))) = w') (hdg : decode cc pc = .ok (.putfield 93, 3)) (kk : V k l D tys R cc nL RX3 w' cells slots (pc + 3) lv (rest)) : V k l D tys R cc nL RX3 w cells slots (pc) lv (.int x :: .ref a :: rest) :=
  j_put (k0 := 4) (T := TX3) (N := 32) (C0 := RX3) w' inA3 tyX3 tyX3_ok nmX3 q0 he rfl (by decide) mw3_11 rfl rfl (ty := .int) (tyX3_ok 4 (by decide)) rfl rfl hlt hw hdg kk
theorem gf_X3_7 {a : Nat} {fs : List Value} {v : Value} (q0 : Nat) (he : w[q0]? = some (a, .inr (3, fs))) (hv : fs[5]? = some v) (hdg : decode cc pc = .ok (.getfield 7, 3)) (kk : V k l D tys R cc nL RX3 w cells slots (pc + 3) lv (v :: rest)) : V k l D tys R cc nL RX3 w cells slots (pc) lv (.ref a :: rest) :=
  j_get (k0 := 5) (T := TX3) (N := 32) (C := RX3) inA3 q0 he rfl (by decide) mw3_12 rfl hv hdg kk
theorem pF_X3_7 {a b : Nat} {fs : List Value} (hI : VInit k) (w' : va_W) (q0 : Nat) (he : w[q0]? = some (a, .inr (3, fs))) (hlt : 5 < fs.length) (hw : w.set q0 (a, .inr (3, fs.set 5 (.ref b))) = w') (hdg : decode cc pc = .ok (.putfield 7, 3)) (kk : V k l D tys R cc nL RX3 w' cells slots (pc + 3) lv (rest)) : V k l D tys R cc nL RX3 w cells slots (pc) lv (.ref b :: .ref a :: rest) :=
  j_putF (k0 := 5) (T := TX3) (N := 32) (C0 := RX3) w' inA3 tyX3 tyX3_ok nmX3 q0 he rfl (by decide) mw3_12 rfl rfl hI rfl (ty := tyX3 5) (tyX3_ok 5 (by decide)) rfl rfl hlt hw hdg kk
theorem gf_X3_13 {a : Nat} {fs : List Value} {v : Value} (q0 : Nat) (he : w[q0]? = some (a, .inr (3, fs))) (hv : fs[6]? = some v) (hdg : decode cc pc = .ok (.getfield 13, 3)) (kk : V k l D tys R cc nL RX3 w cells slots (pc + 3) lv (v :: rest)) : V k l D tys R cc nL RX3 w cells slots (pc) lv (.ref a :: rest) :=
  j_get (k0 := 6) (T := TX3) (N := 32) (C := RX3) inA3 q0 he rfl (by decide) mw3_13 rfl hv hdg kk
theorem pF_X3_13 {a b : Nat} {fs : List Value} (hI : VInit k) (w' : va_W) (q0 : Nat) (he : w[q0]? = some (a, .inr (3, fs))) (hlt : 6 < fs.length) (hw : w.set q0 (a, .inr (3, fs.set 6 (.ref b))) = w') (hdg : decode cc pc = .ok (.putfield 13, 3)) (kk : V k l D tys R cc nL RX3 w' cells slots (pc + 3) lv (rest)) : V k l D tys R cc nL RX3 w cells slots (pc) lv (.ref b :: .ref a :: rest) :=
  j_putF (k0 := 6) (T := TX3) (N := 32) (C0 := RX3) w' inA3 tyX3 tyX3_ok nmX3 q0 he rfl (by decide) mw3_13 rfl rfl hI rfl (ty := tyX3 6) (tyX3_ok 6 (by decide)) rfl rfl hlt hw hdg kk
theorem gf_X3_16 {a : Nat} {fs : List Value} {v : Value} (q0 : Nat) (he : w[q0]? = some (a, .inr (3, fs))) (hv : fs[7]? = some v) (hdg : decode cc pc = .ok (.getfield 16, 3)) (kk : V k l D tys R cc nL RX3 w cells slots (pc + 3) lv (v :: rest)) : V k l D tys R cc nL RX3 w cells slots (pc) lv (.ref a :: rest) :=
  j_get (k0 := 7) (T := TX3) (N := 32) (C := RX3) inA3 q0 he rfl (by decide) mw3_14 rfl hv hdg kk
theorem pF_X3_16 {a b : Nat} {fs : List Value} (hI : VInit k) (w' : va_W) (q0 : Nat) (he : w[q0]? = some (a, .inr (3, fs))) (hlt : 7 < fs.length) (hw : w.set q0 (a, .inr (3, fs.set 7 (.ref b))) = w') (hdg : decode cc pc = .ok (.putfield 16, 3)) (kk : V k l D tys R cc nL RX3 w' cells slots (pc + 3) lv (rest)) : V k l D tys R cc nL RX3 w cells slots (pc) lv (.ref b :: .ref a :: rest) :=
  j_putF (k0 := 7) (T := TX3) (N := 32) (C0 := RX3) w' inA3 tyX3 tyX3_ok nmX3 q0 he rfl (by decide) mw3_14 rfl rfl hI rfl (ty := tyX3 7) (tyX3_ok 7 (by decide)) rfl rfl hlt hw hdg kk
theorem gf_X3_19 {a : Nat} {fs : List Value} {v : Value} (q0 : Nat) (he : w[q0]? = some (a, .inr (3, fs))) (hv : fs[8]? = some v) (hdg : decode cc pc = .ok (.getfield 19, 3)) (kk : V k l D tys R cc nL RX3 w cells slots (pc + 3) lv (v :: rest)) : V k l D tys R cc nL RX3 w cells slots (pc) lv (.ref a :: rest) :=
  j_get (k0 := 8) (T := TX3) (N := 32) (C := RX3) inA3 q0 he rfl (by decide) mw3_15 rfl hv hdg kk
theorem pF_X3_19 {a b : Nat} {fs : List Value} (hI : VInit k) (w' : va_W) (q0 : Nat) (he : w[q0]? = some (a, .inr (3, fs))) (hlt : 8 < fs.length) (hw : w.set q0 (a, .inr (3, fs.set 8 (.ref b))) = w') (hdg : decode cc pc = .ok (.putfield 19, 3)) (kk : V k l D tys R cc nL RX3 w' cells slots (pc + 3) lv (rest)) : V k l D tys R cc nL RX3 w cells slots (pc) lv (.ref b :: .ref a :: rest) :=
  j_putF (k0 := 8) (T := TX3) (N := 32) (C0 := RX3) w' inA3 tyX3 tyX3_ok nmX3 q0 he rfl (by decide) mw3_15 rfl rfl hI rfl (ty := tyX3 8) (tyX3_ok 8 (by decide)) rfl rfl hlt hw hdg kk
theorem gf_X3_22 {a : Nat} {fs : List Value} {v : Value} (q0 : Nat) (he : w[q0]? = some (a, .inr (3, fs))) (hv : fs[9]? = some v) (hdg : decode cc pc = .ok (.getfield 22, 3)) (kk : V k l D tys R cc nL RX3 w cells slots (pc + 3) lv (v :: rest)) : V k l D tys R cc nL RX3 w cells slots (pc) lv (.ref a :: rest) :=
  j_get (k0 := 9) (T := TX3) (N := 32) (C := RX3) inA3 q0 he rfl (by decide) mw3_16 rfl hv hdg kk
theorem pF_X3_22 {a b : Nat} {fs : List Value} (hI : VInit k) (w' : va_W) (q0 : Nat) (he : w[q0]? = some (a, .inr (3, fs))) (hlt : 9 < fs.length) (hw : w.set q0 (a, .inr (3, fs.set 9 (.ref b))) = w') (hdg : decode cc pc = .ok (.putfield 22, 3)) (kk : V k l D tys R cc nL RX3 w' cells slots (pc + 3) lv (rest)) : V k l D tys R cc nL RX3 w cells slots (pc) lv (.ref b :: .ref a :: rest) :=
  j_putF (k0 := 9) (T := TX3) (N := 32) (C0 := RX3) w' inA3 tyX3 tyX3_ok nmX3 q0 he rfl (by decide) mw3_16 rfl rfl hI rfl (ty := tyX3 9) (tyX3_ok 9 (by decide)) rfl rfl hlt hw hdg kk
theorem gf_X3_25 {a : Nat} {fs : List Value} {v : Value} (q0 : Nat) (he : w[q0]? = some (a, .inr (3, fs))) (hv : fs[10]? = some v) (hdg : decode cc pc = .ok (.getfield 25, 3)) (kk : V k l D tys R cc nL RX3 w cells slots (pc + 3) lv (v :: rest)) : V k l D tys R cc nL RX3 w cells slots (pc) lv (.ref a :: rest) :=
  j_get (k0 := 10) (T := TX3) (N := 32) (C := RX3) inA3 q0 he rfl (by decide) mw3_17 rfl hv hdg kk
theorem pF_X3_25 {a b : Nat} {fs : List Value} (hI : VInit k) (w' : va_W) (q0 : Nat) (he : w[q0]? = some (a, .inr (3, fs))) (hlt : 10 < fs.length) (hw : w.set q0 (a, .inr (3, fs.set 10 (.ref b))) = w') (hdg : decode cc pc = .ok (.putfield 25, 3)) (kk : V k l D tys R cc nL RX3 w' cells slots (pc + 3) lv (rest)) : V k l D tys R cc nL RX3 w cells slots (pc) lv (.ref b :: .ref a :: rest) :=
  j_putF (k0 := 10) (T := TX3) (N := 32) (C0 := RX3) w' inA3 tyX3 tyX3_ok nmX3 q0 he rfl (by decide) mw3_17 rfl rfl hI rfl (ty := tyX3 10) (tyX3_ok 10 (by decide)) rfl rfl hlt hw hdg kk
theorem gf_X3_28 {a : Nat} {fs : List Value} {v : Value} (q0 : Nat) (he : w[q0]? = some (a, .inr (3, fs))) (hv : fs[11]? = some v) (hdg : decode cc pc = .ok (.getfield 28, 3)) (kk : V k l D tys R cc nL RX3 w cells slots (pc + 3) lv (v :: rest)) : V k l D tys R cc nL RX3 w cells slots (pc) lv (.ref a :: rest) :=
  j_get (k0 := 11) (T := TX3) (N := 32) (C := RX3) inA3 q0 he rfl (by decide) mw3_18 rfl hv hdg kk
theorem pF_X3_28 {a b : Nat} {fs : List Value} (hI : VInit k) (w' : va_W) (q0 : Nat) (he : w[q0]? = some (a, .inr (3, fs))) (hlt : 11 < fs.length) (hw : w.set q0 (a, .inr (3, fs.set 11 (.ref b))) = w') (hdg : decode cc pc = .ok (.putfield 28, 3)) (kk : V k l D tys R cc nL RX3 w' cells slots (pc + 3) lv (rest)) : V k l D tys R cc nL RX3 w cells slots (pc) lv (.ref b :: .ref a :: rest) :=
  j_putF (k0 := 11) (T := TX3) (N := 32) (C0 := RX3) w' inA3 tyX3 tyX3_ok nmX3 q0 he rfl (by decide) mw3_18 rfl rfl hI rfl (ty := tyX3 11) (tyX3_ok 11 (by decide)) rfl rfl hlt hw hdg kk
theorem gf_X3_31 {a : Nat} {fs : List Value} {v : Value} (q0 : Nat) (he : w[q0]? = some (a, .inr (3, fs))) (hv : fs[12]? = some v) (hdg : decode cc pc = .ok (.getfield 31, 3)) (kk : V k l D tys R cc nL RX3 w cells slots (pc + 3) lv (v :: rest)) : V k l D tys R cc nL RX3 w cells slots (pc) lv (.ref a :: rest) :=
  j_get (k0 := 12) (T := TX3) (N := 32) (C := RX3) inA3 q0 he rfl (by decide) mw3_19 rfl hv hdg kk
theorem pF_X3_31 {a b : Nat} {fs : List Value} (hI : VInit k) (w' : va_W) (q0 : Nat) (he : w[q0]? = some (a, .inr (3, fs))) (hlt : 12 < fs.length) (hw : w.set q0 (a, .inr (3, fs.set 12 (.ref b))) = w') (hdg : decode cc pc = .ok (.putfield 31, 3)) (kk : V k l D tys R cc nL RX3 w' cells slots (pc + 3) lv (rest)) : V k l D tys R cc nL RX3 w cells slots (pc) lv (.ref b :: .ref a :: rest) :=
  j_putF (k0 := 12) (T := TX3) (N := 32) (C0 := RX3) w' inA3 tyX3 tyX3_ok nmX3 q0 he rfl (by decide) mw3_19 rfl rfl hI rfl (ty := tyX3 12) (tyX3_ok 12 (by decide)) rfl rfl hlt hw hdg kk
theorem gf_X3_34 {a : Nat} {fs : List Value} {v : Value} (q0 : Nat) (he : w[q0]? = some (a, .inr (3, fs))) (hv : fs[13]? = some v) (hdg : decode cc pc = .ok (.getfield 34, 3)) (kk : V k l D tys R cc nL RX3 w cells slots (pc + 3) lv (v :: rest)) : V k l D tys R cc nL RX3 w cells slots (pc) lv (.ref a :: rest) :=
  j_get (k0 := 13) (T := TX3) (N := 32) (C := RX3) inA3 q0 he rfl (by decide) mw3_20 rfl hv hdg kk
theorem pF_X3_34 {a b : Nat} {fs : List Value} (hI : VInit k) (w' : va_W) (q0 : Nat) (he : w[q0]? = some (a, .inr (3, fs))) (hlt : 13 < fs.length) (hw : w.set q0 (a, .inr (3, fs.set 13 (.ref b))) = w') (hdg : decode cc pc = .ok (.putfield 34, 3)) (kk : V k l D tys R cc nL RX3 w' cells slots (pc + 3) lv (rest)) : V k l D tys R cc nL RX3 w cells slots (pc) lv (.ref b :: .ref a :: rest) :=
  j_putF (k0 := 13) (T := TX3) (N := 32) (C0 := RX3) w' inA3 tyX3 tyX3_ok nmX3 q0 he rfl (by decide) mw3_20 rfl rfl hI rfl (ty := tyX3 13) (tyX3_ok 13 (by decide)) rfl rfl hlt hw hdg kk
theorem gf_X3_146 {a : Nat} {fs : List Value} {v : Value} (q0 : Nat) (he : w[q0]? = some (a, .inr (3, fs))) (hv : fs[14]? = some v) (hdg : decode cc pc = .ok (.getfield 146, 3)) (kk : V k l D tys R cc nL RX3 w cells slots (pc + 3) lv (v :: rest)) : V k l D tys R cc nL RX3 w cells slots (pc) lv (.ref a :: rest) :=
  j_get (k0 := 14) (T := TX3) (N := 32) (C := RX3) inA3 q0 he rfl (by decide) mw3_21 rfl hv hdg kk
theorem pf_X3_146 {a : Nat} {fs : List Value} {x : Int32} (w' : va_W) (q0 : Nat) (he : w[q0]? = some (a, .inr (3, fs))) (hlt : 14 < fs.length) (hw : w.set q0 (a, .inr (3, fs.set 14 (.int x))) = w') (hdg : decode cc pc = .ok (.putfield 146, 3)) (kk : V k l D tys R cc nL RX3 w' cells slots (pc + 3) lv (rest)) : V k l D tys R cc nL RX3 w cells slots (pc) lv (.int x :: .ref a :: rest) :=
  j_put (k0 := 14) (T := TX3) (N := 32) (C0 := RX3) w' inA3 tyX3 tyX3_ok nmX3 q0 he rfl (by decide) mw3_21 rfl rfl (ty := .int) (tyX3_ok 14 (by decide)) rfl rfl hlt hw hdg kk
theorem gf_X3_37 {a : Nat} {fs : List Value} {v : Value} (q0 : Nat) (he : w[q0]? = some (a, .inr (3, fs))) (hv : fs[15]? = some v) (hdg : decode cc pc = .ok (.getfield 37, 3)) (kk : V k l D tys R cc nL RX3 w cells slots (pc + 3) lv (v :: rest)) : V k l D tys R cc nL RX3 w cells slots (pc) lv (.ref a :: rest) :=
  j_get (k0 := 15) (T := TX3) (N := 32) (C := RX3) inA3 q0 he rfl (by decide) mw3_22 rfl hv hdg kk
theorem pF_X3_37 {a b : Nat} {fs : List Value} (hI : VInit k) (w' : va_W) (q0 : Nat) (he : w[q0]? = some (a, .inr (3, fs))) (hlt : 15 < fs.length) (hw : w.set q0 (a, .inr (3, fs.set 15 (.ref b))) = w') (hdg : decode cc pc = .ok (.putfield 37, 3)) (kk : V k l D tys R cc nL RX3 w' cells slots (pc + 3) lv (rest)) : V k l D tys R cc nL RX3 w cells slots (pc) lv (.ref b :: .ref a :: rest) :=
  j_putF (k0 := 15) (T := TX3) (N := 32) (C0 := RX3) w' inA3 tyX3 tyX3_ok nmX3 q0 he rfl (by decide) mw3_22 rfl rfl hI rfl (ty := tyX3 15) (tyX3_ok 15 (by decide)) rfl rfl hlt hw hdg kk
theorem gf_X3_40 {a : Nat} {fs : List Value} {v : Value} (q0 : Nat) (he : w[q0]? = some (a, .inr (3, fs))) (hv : fs[16]? = some v) (hdg : decode cc pc = .ok (.getfield 40, 3)) (kk : V k l D tys R cc nL RX3 w cells slots (pc + 3) lv (v :: rest)) : V k l D tys R cc nL RX3 w cells slots (pc) lv (.ref a :: rest) :=
  j_get (k0 := 16) (T := TX3) (N := 32) (C := RX3) inA3 q0 he rfl (by decide) mw3_23 rfl hv hdg kk
theorem pF_X3_40 {a b : Nat} {fs : List Value} (hI : VInit k) (w' : va_W) (q0 : Nat) (he : w[q0]? = some (a, .inr (3, fs))) (hlt : 16 < fs.length) (hw : w.set q0 (a, .inr (3, fs.set 16 (.ref b))) = w') (hdg : decode cc pc = .ok (.putfield 40, 3)) (kk : V k l D tys R cc nL RX3 w' cells slots (pc + 3) lv (rest)) : V k l D tys R cc nL RX3 w cells slots (pc) lv (.ref b :: .ref a :: rest) :=
  j_putF (k0 := 16) (T := TX3) (N := 32) (C0 := RX3) w' inA3 tyX3 tyX3_ok nmX3 q0 he rfl (by decide) mw3_23 rfl rfl hI rfl (ty := tyX3 16) (tyX3_ok 16 (by decide)) rfl rfl hlt hw hdg kk
theorem gf_X3_152 {a : Nat} {fs : List Value} {v : Value} (q0 : Nat) (he : w[q0]? = some (a, .inr (3, fs))) (hv : fs[17]? = some v) (hdg : decode cc pc = .ok (.getfield 152, 3)) (kk : V k l D tys R cc nL RX3 w cells slots (pc + 3) lv (v :: rest)) : V k l D tys R cc nL RX3 w cells slots (pc) lv (.ref a :: rest) :=
  j_get (k0 := 17) (T := TX3) (N := 32) (C := RX3) inA3 q0 he rfl (by decide) mw3_24 rfl hv hdg kk
theorem pf_X3_152 {a : Nat} {fs : List Value} {x : Int32} (w' : va_W) (q0 : Nat) (he : w[q0]? = some (a, .inr (3, fs))) (hlt : 17 < fs.length) (hn : narrow .boolean (.int x) = .int x) (hf : fits .boolean (.int x) = true) (hw : w.set q0 (a, .inr (3, fs.set 17 (.int x))) = w') (hdg : decode cc pc = .ok (.putfield 152, 3)) (kk : V k l D tys R cc nL RX3 w' cells slots (pc + 3) lv (rest)) : V k l D tys R cc nL RX3 w cells slots (pc) lv (.int x :: .ref a :: rest) :=
  j_put (k0 := 17) (T := TX3) (N := 32) (C0 := RX3) w' inA3 tyX3 tyX3_ok nmX3 q0 he rfl (by decide) mw3_24 rfl rfl (ty := .boolean) (tyX3_ok 17 (by decide)) hn hf hlt hw hdg kk
theorem gf_X3_159 {a : Nat} {fs : List Value} {v : Value} (q0 : Nat) (he : w[q0]? = some (a, .inr (3, fs))) (hv : fs[18]? = some v) (hdg : decode cc pc = .ok (.getfield 159, 3)) (kk : V k l D tys R cc nL RX3 w cells slots (pc + 3) lv (v :: rest)) : V k l D tys R cc nL RX3 w cells slots (pc) lv (.ref a :: rest) :=
  j_get (k0 := 18) (T := TX3) (N := 32) (C := RX3) inA3 q0 he rfl (by decide) mw3_25 rfl hv hdg kk
theorem pf_X3_159 {a : Nat} {fs : List Value} {x : Int32} (w' : va_W) (q0 : Nat) (he : w[q0]? = some (a, .inr (3, fs))) (hlt : 18 < fs.length) (hw : w.set q0 (a, .inr (3, fs.set 18 (.int x))) = w') (hdg : decode cc pc = .ok (.putfield 159, 3)) (kk : V k l D tys R cc nL RX3 w' cells slots (pc + 3) lv (rest)) : V k l D tys R cc nL RX3 w cells slots (pc) lv (.int x :: .ref a :: rest) :=
  j_put (k0 := 18) (T := TX3) (N := 32) (C0 := RX3) w' inA3 tyX3 tyX3_ok nmX3 q0 he rfl (by decide) mw3_25 rfl rfl (ty := .int) (tyX3_ok 18 (by decide)) rfl rfl hlt hw hdg kk
theorem gf_X3_43 {a : Nat} {fs : List Value} {v : Value} (q0 : Nat) (he : w[q0]? = some (a, .inr (3, fs))) (hv : fs[19]? = some v) (hdg : decode cc pc = .ok (.getfield 43, 3)) (kk : V k l D tys R cc nL RX3 w cells slots (pc + 3) lv (v :: rest)) : V k l D tys R cc nL RX3 w cells slots (pc) lv (.ref a :: rest) :=
  j_get (k0 := 19) (T := TX3) (N := 32) (C := RX3) inA3 q0 he rfl (by decide) mw3_26 rfl hv hdg kk
theorem pF_X3_43 {a b : Nat} {fs : List Value} (hI : VInit k) (w' : va_W) (q0 : Nat) (he : w[q0]? = some (a, .inr (3, fs))) (hlt : 19 < fs.length) (hw : w.set q0 (a, .inr (3, fs.set 19 (.ref b))) = w') (hdg : decode cc pc = .ok (.putfield 43, 3)) (kk : V k l D tys R cc nL RX3 w' cells slots (pc + 3) lv (rest)) : V k l D tys R cc nL RX3 w cells slots (pc) lv (.ref b :: .ref a :: rest) :=
  j_putF (k0 := 19) (T := TX3) (N := 32) (C0 := RX3) w' inA3 tyX3 tyX3_ok nmX3 q0 he rfl (by decide) mw3_26 rfl rfl hI rfl (ty := tyX3 19) (tyX3_ok 19 (by decide)) rfl rfl hlt hw hdg kk
theorem gf_X3_156 {a : Nat} {fs : List Value} {v : Value} (q0 : Nat) (he : w[q0]? = some (a, .inr (3, fs))) (hv : fs[20]? = some v) (hdg : decode cc pc = .ok (.getfield 156, 3)) (kk : V k l D tys R cc nL RX3 w cells slots (pc + 3) lv (v :: rest)) : V k l D tys R cc nL RX3 w cells slots (pc) lv (.ref a :: rest) :=
  j_get (k0 := 20) (T := TX3) (N := 32) (C := RX3) inA3 q0 he rfl (by decide) mw3_27 rfl hv hdg kk
theorem pf_X3_156 {a : Nat} {fs : List Value} {x : Int32} (w' : va_W) (q0 : Nat) (he : w[q0]? = some (a, .inr (3, fs))) (hlt : 20 < fs.length) (hn : narrow .boolean (.int x) = .int x) (hf : fits .boolean (.int x) = true) (hw : w.set q0 (a, .inr (3, fs.set 20 (.int x))) = w') (hdg : decode cc pc = .ok (.putfield 156, 3)) (kk : V k l D tys R cc nL RX3 w' cells slots (pc + 3) lv (rest)) : V k l D tys R cc nL RX3 w cells slots (pc) lv (.int x :: .ref a :: rest) :=
  j_put (k0 := 20) (T := TX3) (N := 32) (C0 := RX3) w' inA3 tyX3 tyX3_ok nmX3 q0 he rfl (by decide) mw3_27 rfl rfl (ty := .boolean) (tyX3_ok 20 (by decide)) hn hf hlt hw hdg kk
theorem gf_X3_46 {a : Nat} {fs : List Value} {v : Value} (q0 : Nat) (he : w[q0]? = some (a, .inr (3, fs))) (hv : fs[21]? = some v) (hdg : decode cc pc = .ok (.getfield 46, 3)) (kk : V k l D tys R cc nL RX3 w cells slots (pc + 3) lv (v :: rest)) : V k l D tys R cc nL RX3 w cells slots (pc) lv (.ref a :: rest) :=
  j_get (k0 := 21) (T := TX3) (N := 32) (C := RX3) inA3 q0 he rfl (by decide) mw3_28 rfl hv hdg kk
theorem pF_X3_46 {a b : Nat} {fs : List Value} (hI : VInit k) (w' : va_W) (q0 : Nat) (he : w[q0]? = some (a, .inr (3, fs))) (hlt : 21 < fs.length) (hw : w.set q0 (a, .inr (3, fs.set 21 (.ref b))) = w') (hdg : decode cc pc = .ok (.putfield 46, 3)) (kk : V k l D tys R cc nL RX3 w' cells slots (pc + 3) lv (rest)) : V k l D tys R cc nL RX3 w cells slots (pc) lv (.ref b :: .ref a :: rest) :=
  j_putF (k0 := 21) (T := TX3) (N := 32) (C0 := RX3) w' inA3 tyX3 tyX3_ok nmX3 q0 he rfl (by decide) mw3_28 rfl rfl hI rfl (ty := tyX3 21) (tyX3_ok 21 (by decide)) rfl rfl hlt hw hdg kk
theorem gf_X3_49 {a : Nat} {fs : List Value} {v : Value} (q0 : Nat) (he : w[q0]? = some (a, .inr (3, fs))) (hv : fs[22]? = some v) (hdg : decode cc pc = .ok (.getfield 49, 3)) (kk : V k l D tys R cc nL RX3 w cells slots (pc + 3) lv (v :: rest)) : V k l D tys R cc nL RX3 w cells slots (pc) lv (.ref a :: rest) :=
  j_get (k0 := 22) (T := TX3) (N := 32) (C := RX3) inA3 q0 he rfl (by decide) mw3_29 rfl hv hdg kk
theorem pF_X3_49 {a b : Nat} {fs : List Value} (hI : VInit k) (w' : va_W) (q0 : Nat) (he : w[q0]? = some (a, .inr (3, fs))) (hlt : 22 < fs.length) (hw : w.set q0 (a, .inr (3, fs.set 22 (.ref b))) = w') (hdg : decode cc pc = .ok (.putfield 49, 3)) (kk : V k l D tys R cc nL RX3 w' cells slots (pc + 3) lv (rest)) : V k l D tys R cc nL RX3 w cells slots (pc) lv (.ref b :: .ref a :: rest) :=
  j_putF (k0 := 22) (T := TX3) (N := 32) (C0 := RX3) w' inA3 tyX3 tyX3_ok nmX3 q0 he rfl (by decide) mw3_29 rfl rfl hI rfl (ty := tyX3 22) (tyX3_ok 22 (by decide)) rfl rfl hlt hw hdg kk
theorem gf_X3_184 {a : Nat} {fs : List Value} {v : Value} (q0 : Nat) (he : w[q0]? = some (a, .inr (3, fs))) (hv : fs[23]? = some v) (hdg : decode cc pc = .ok (.getfield 184, 3)) (kk : V k l D tys R cc nL RX3 w cells slots (pc + 3) lv (v :: rest)) : V k l D tys R cc nL RX3 w cells slots (pc) lv (.ref a :: rest) :=
  j_get (k0 := 23) (T := TX3) (N := 32) (C := RX3) inA3 q0 he rfl (by decide) mw3_30 rfl hv hdg kk
theorem pf_X3_184 {a : Nat} {fs : List Value} {x : Int32} (w' : va_W) (q0 : Nat) (he : w[q0]? = some (a, .inr (3, fs))) (hlt : 23 < fs.length) (hw : w.set q0 (a, .inr (3, fs.set 23 (.int x))) = w') (hdg : decode cc pc = .ok (.putfield 184, 3)) (kk : V k l D tys R cc nL RX3 w' cells slots (pc + 3) lv (rest)) : V k l D tys R cc nL RX3 w cells slots (pc) lv (.int x :: .ref a :: rest) :=
  j_put (k0 := 23) (T := TX3) (N := 32) (C0 := RX3) w' inA3 tyX3 tyX3_ok nmX3 q0 he rfl (by decide) mw3_30 rfl rfl (ty := .int) (tyX3_ok 23 (by decide)) rfl rfl hlt hw hdg kk
theorem gf_X3_52 {a : Nat} {fs : List Value} {v : Value} (q0 : Nat) (he : w[q0]? = some (a, .inr (3, fs))) (hv : fs[24]? = some v) (hdg : decode cc pc = .ok (.getfield 52, 3)) (kk : V k l D tys R cc nL RX3 w cells slots (pc + 3) lv (v :: rest)) : V k l D tys R cc nL RX3 w cells slots (pc) lv (.ref a :: rest) :=
  j_get (k0 := 24) (T := TX3) (N := 32) (C := RX3) inA3 q0 he rfl (by decide) mw3_31 rfl hv hdg kk
theorem pF_X3_52 {a b : Nat} {fs : List Value} (hI : VInit k) (w' : va_W) (q0 : Nat) (he : w[q0]? = some (a, .inr (3, fs))) (hlt : 24 < fs.length) (hw : w.set q0 (a, .inr (3, fs.set 24 (.ref b))) = w') (hdg : decode cc pc = .ok (.putfield 52, 3)) (kk : V k l D tys R cc nL RX3 w' cells slots (pc + 3) lv (rest)) : V k l D tys R cc nL RX3 w cells slots (pc) lv (.ref b :: .ref a :: rest) :=
  j_putF (k0 := 24) (T := TX3) (N := 32) (C0 := RX3) w' inA3 tyX3 tyX3_ok nmX3 q0 he rfl (by decide) mw3_31 rfl rfl hI rfl (ty := tyX3 24) (tyX3_ok 24 (by decide)) rfl rfl hlt hw hdg kk
theorem gf_X3_178 {a : Nat} {fs : List Value} {v : Value} (q0 : Nat) (he : w[q0]? = some (a, .inr (3, fs))) (hv : fs[25]? = some v) (hdg : decode cc pc = .ok (.getfield 178, 3)) (kk : V k l D tys R cc nL RX3 w cells slots (pc + 3) lv (v :: rest)) : V k l D tys R cc nL RX3 w cells slots (pc) lv (.ref a :: rest) :=
  j_get (k0 := 25) (T := TX3) (N := 32) (C := RX3) inA3 q0 he rfl (by decide) mw3_32 rfl hv hdg kk
theorem pf_X3_178 {a : Nat} {fs : List Value} {x : Int32} (w' : va_W) (q0 : Nat) (he : w[q0]? = some (a, .inr (3, fs))) (hlt : 25 < fs.length) (hw : w.set q0 (a, .inr (3, fs.set 25 (.int x))) = w') (hdg : decode cc pc = .ok (.putfield 178, 3)) (kk : V k l D tys R cc nL RX3 w' cells slots (pc + 3) lv (rest)) : V k l D tys R cc nL RX3 w cells slots (pc) lv (.int x :: .ref a :: rest) :=
  j_put (k0 := 25) (T := TX3) (N := 32) (C0 := RX3) w' inA3 tyX3 tyX3_ok nmX3 q0 he rfl (by decide) mw3_32 rfl rfl (ty := .int) (tyX3_ok 25 (by decide)) rfl rfl hlt hw hdg kk
theorem gf_X3_55 {a : Nat} {fs : List Value} {v : Value} (q0 : Nat) (he : w[q0]? = some (a, .inr (3, fs))) (hv : fs[26]? = some v) (hdg : decode cc pc = .ok (.getfield 55, 3)) (kk : V k l D tys R cc nL RX3 w cells slots (pc + 3) lv (v :: rest)) : V k l D tys R cc nL RX3 w cells slots (pc) lv (.ref a :: rest) :=
  j_get (k0 := 26) (T := TX3) (N := 32) (C := RX3) inA3 q0 he rfl (by decide) mw3_33 rfl hv hdg kk
theorem pF_X3_55 {a b : Nat} {fs : List Value} (hI : VInit k) (w' : va_W) (q0 : Nat) (he : w[q0]? = some (a, .inr (3, fs))) (hlt : 26 < fs.length) (hw : w.set q0 (a, .inr (3, fs.set 26 (.ref b))) = w') (hdg : decode cc pc = .ok (.putfield 55, 3)) (kk : V k l D tys R cc nL RX3 w' cells slots (pc + 3) lv (rest)) : V k l D tys R cc nL RX3 w cells slots (pc) lv (.ref b :: .ref a :: rest) :=
  j_putF (k0 := 26) (T := TX3) (N := 32) (C0 := RX3) w' inA3 tyX3 tyX3_ok nmX3 q0 he rfl (by decide) mw3_33 rfl rfl hI rfl (ty := tyX3 26) (tyX3_ok 26 (by decide)) rfl rfl hlt hw hdg kk
theorem gf_X3_58 {a : Nat} {fs : List Value} {v : Value} (q0 : Nat) (he : w[q0]? = some (a, .inr (3, fs))) (hv : fs[27]? = some v) (hdg : decode cc pc = .ok (.getfield 58, 3)) (kk : V k l D tys R cc nL RX3 w cells slots (pc + 3) lv (v :: rest)) : V k l D tys R cc nL RX3 w cells slots (pc) lv (.ref a :: rest) :=
  j_get (k0 := 27) (T := TX3) (N := 32) (C := RX3) inA3 q0 he rfl (by decide) mw3_34 rfl hv hdg kk
theorem pF_X3_58 {a b : Nat} {fs : List Value} (hI : VInit k) (w' : va_W) (q0 : Nat) (he : w[q0]? = some (a, .inr (3, fs))) (hlt : 27 < fs.length) (hw : w.set q0 (a, .inr (3, fs.set 27 (.ref b))) = w') (hdg : decode cc pc = .ok (.putfield 58, 3)) (kk : V k l D tys R cc nL RX3 w' cells slots (pc + 3) lv (rest)) : V k l D tys R cc nL RX3 w cells slots (pc) lv (.ref b :: .ref a :: rest) :=
  j_putF (k0 := 27) (T := TX3) (N := 32) (C0 := RX3) w' inA3 tyX3 tyX3_ok nmX3 q0 he rfl (by decide) mw3_34 rfl rfl hI rfl (ty := tyX3 27) (tyX3_ok 27 (by decide)) rfl rfl hlt hw hdg kk
theorem gf_X3_62 {a : Nat} {fs : List Value} {v : Value} (q0 : Nat) (he : w[q0]? = some (a, .inr (3, fs))) (hv : fs[28]? = some v) (hdg : decode cc pc = .ok (.getfield 62, 3)) (kk : V k l D tys R cc nL RX3 w cells slots (pc + 3) lv (v :: rest)) : V k l D tys R cc nL RX3 w cells slots (pc) lv (.ref a :: rest) :=
  j_get (k0 := 28) (T := TX3) (N := 32) (C := RX3) inA3 q0 he rfl (by decide) mw3_35 rfl hv hdg kk
theorem pF_X3_62 {a b : Nat} {fs : List Value} (hI : VInit k) (w' : va_W) (q0 : Nat) (he : w[q0]? = some (a, .inr (3, fs))) (hlt : 28 < fs.length) (hw : w.set q0 (a, .inr (3, fs.set 28 (.ref b))) = w') (hdg : decode cc pc = .ok (.putfield 62, 3)) (kk : V k l D tys R cc nL RX3 w' cells slots (pc + 3) lv (rest)) : V k l D tys R cc nL RX3 w cells slots (pc) lv (.ref b :: .ref a :: rest) :=
  j_putF (k0 := 28) (T := TX3) (N := 32) (C0 := RX3) w' inA3 tyX3 tyX3_ok nmX3 q0 he rfl (by decide) mw3_35 rfl rfl hI rfl (ty := tyX3 28) (tyX3_ok 28 (by decide)) rfl rfl hlt hw hdg kk
theorem gf_X3_211 {a : Nat} {fs : List Value} {v : Value} (q0 : Nat) (he : w[q0]? = some (a, .inr (3, fs))) (hv : fs[29]? = some v) (hdg : decode cc pc = .ok (.getfield 211, 3)) (kk : V k l D tys R cc nL RX3 w cells slots (pc + 3) lv (v :: rest)) : V k l D tys R cc nL RX3 w cells slots (pc) lv (.ref a :: rest) :=
  j_get (k0 := 29) (T := TX3) (N := 32) (C := RX3) inA3 q0 he rfl (by decide) mw3_36 rfl hv hdg kk
theorem pf_X3_211 {a : Nat} {fs : List Value} {x : Int32} (w' : va_W) (q0 : Nat) (he : w[q0]? = some (a, .inr (3, fs))) (hlt : 29 < fs.length) (hw : w.set q0 (a, .inr (3, fs.set 29 (.int x))) = w') (hdg : decode cc pc = .ok (.putfield 211, 3)) (kk : V k l D tys R cc nL RX3 w' cells slots (pc + 3) lv (rest)) : V k l D tys R cc nL RX3 w cells slots (pc) lv (.int x :: .ref a :: rest) :=
  j_put (k0 := 29) (T := TX3) (N := 32) (C0 := RX3) w' inA3 tyX3 tyX3_ok nmX3 q0 he rfl (by decide) mw3_36 rfl rfl (ty := .int) (tyX3_ok 29 (by decide)) rfl rfl hlt hw hdg kk
theorem gf_X3_65 {a : Nat} {fs : List Value} {v : Value} (q0 : Nat) (he : w[q0]? = some (a, .inr (3, fs))) (hv : fs[30]? = some v) (hdg : decode cc pc = .ok (.getfield 65, 3)) (kk : V k l D tys R cc nL RX3 w cells slots (pc + 3) lv (v :: rest)) : V k l D tys R cc nL RX3 w cells slots (pc) lv (.ref a :: rest) :=
  j_get (k0 := 30) (T := TX3) (N := 32) (C := RX3) inA3 q0 he rfl (by decide) mw3_37 rfl hv hdg kk
theorem pF_X3_65 {a b : Nat} {fs : List Value} (hI : VInit k) (w' : va_W) (q0 : Nat) (he : w[q0]? = some (a, .inr (3, fs))) (hlt : 30 < fs.length) (hw : w.set q0 (a, .inr (3, fs.set 30 (.ref b))) = w') (hdg : decode cc pc = .ok (.putfield 65, 3)) (kk : V k l D tys R cc nL RX3 w' cells slots (pc + 3) lv (rest)) : V k l D tys R cc nL RX3 w cells slots (pc) lv (.ref b :: .ref a :: rest) :=
  j_putF (k0 := 30) (T := TX3) (N := 32) (C0 := RX3) w' inA3 tyX3 tyX3_ok nmX3 q0 he rfl (by decide) mw3_37 rfl rfl hI rfl (ty := tyX3 30) (tyX3_ok 30 (by decide)) rfl rfl hlt hw hdg kk
theorem gf_X3_68 {a : Nat} {fs : List Value} {v : Value} (q0 : Nat) (he : w[q0]? = some (a, .inr (3, fs))) (hv : fs[31]? = some v) (hdg : decode cc pc = .ok (.getfield 68, 3)) (kk : V k l D tys R cc nL RX3 w cells slots (pc + 3) lv (v :: rest)) : V k l D tys R cc nL RX3 w cells slots (pc) lv (.ref a :: rest) :=
  j_get (k0 := 31) (T := TX3) (N := 32) (C := RX3) inA3 q0 he rfl (by decide) mw3_38 rfl hv hdg kk
theorem pF_X3_68 {a b : Nat} {fs : List Value} (hI : VInit k) (w' : va_W) (q0 : Nat) (he : w[q0]? = some (a, .inr (3, fs))) (hlt : 31 < fs.length) (hw : w.set q0 (a, .inr (3, fs.set 31 (.ref b))) = w') (hdg : decode cc pc = .ok (.putfield 68, 3)) (kk : V k l D tys R cc nL RX3 w' cells slots (pc + 3) lv (rest)) : V k l D tys R cc nL RX3 w cells slots (pc) lv (.ref b :: .ref a :: rest) :=
  j_putF (k0 := 31) (T := TX3) (N := 32) (C0 := RX3) w' inA3 tyX3 tyX3_ok nmX3 q0 he rfl (by decide) mw3_38 rfl rfl hI rfl (ty := tyX3 31) (tyX3_ok 31 (by decide)) rfl rfl hlt hw hdg kk
end JF
theorem hd_X0_init : yX0_init.cls ≠ "java/lang/invoke/MethodHandle" ∧ yX0_init.cls ≠ "java/lang/invoke/VarHandle" ∧ (parseMethodDescriptor yX0_init.desc).map (fun d => d.parameters.length) = some 1 := ⟨by decide, by decide, by decide +kernel⟩
theorem hd_X0_grow : yX0_grow.cls ≠ "java/lang/invoke/MethodHandle" ∧ yX0_grow.cls ≠ "java/lang/invoke/VarHandle" ∧ (parseMethodDescriptor yX0_grow.desc).map (fun d => d.parameters.length) = some 0 := ⟨by decide, by decide, by decide +kernel⟩
theorem hd_X0_usefulAt : yX0_usefulAt.cls ≠ "java/lang/invoke/MethodHandle" ∧ yX0_usefulAt.cls ≠ "java/lang/invoke/VarHandle" ∧ (parseMethodDescriptor yX0_usefulAt.desc).map (fun d => d.parameters.length) = some 1 := ⟨by decide, by decide, by decide +kernel⟩
theorem hd_X0_solutionsWith : yX0_solutionsWith.cls ≠ "java/lang/invoke/MethodHandle" ∧ yX0_solutionsWith.cls ≠ "java/lang/invoke/VarHandle" ∧ (parseMethodDescriptor yX0_solutionsWith.desc).map (fun d => d.parameters.length) = some 1 := ⟨by decide, by decide, by decide +kernel⟩
theorem hd_X0_solution : yX0_solution.cls ≠ "java/lang/invoke/MethodHandle" ∧ yX0_solution.cls ≠ "java/lang/invoke/VarHandle" ∧ (parseMethodDescriptor yX0_solution.desc).map (fun d => d.parameters.length) = some 1 := ⟨by decide, by decide, by decide +kernel⟩
theorem hd_X0_rankOf : yX0_rankOf.cls ≠ "java/lang/invoke/MethodHandle" ∧ yX0_rankOf.cls ≠ "java/lang/invoke/VarHandle" ∧ (parseMethodDescriptor yX0_rankOf.desc).map (fun d => d.parameters.length) = some 1 := ⟨by decide, by decide, by decide +kernel⟩
theorem hd_X0_aliveEdges : yX0_aliveEdges.cls ≠ "java/lang/invoke/MethodHandle" ∧ yX0_aliveEdges.cls ≠ "java/lang/invoke/VarHandle" ∧ (parseMethodDescriptor yX0_aliveEdges.desc).map (fun d => d.parameters.length) = some 1 := ⟨by decide, by decide, by decide +kernel⟩
theorem hd_X0_nodeAfter : yX0_nodeAfter.cls ≠ "java/lang/invoke/MethodHandle" ∧ yX0_nodeAfter.cls ≠ "java/lang/invoke/VarHandle" ∧ (parseMethodDescriptor yX0_nodeAfter.desc).map (fun d => d.parameters.length) = some 3 := ⟨by decide, by decide, by decide +kernel⟩
theorem hd_X0_fillWays : yX0_fillWays.cls ≠ "java/lang/invoke/MethodHandle" ∧ yX0_fillWays.cls ≠ "java/lang/invoke/VarHandle" ∧ (parseMethodDescriptor yX0_fillWays.desc).map (fun d => d.parameters.length) = some 2 := ⟨by decide, by decide, by decide +kernel⟩
theorem hd_X0_waysOf : yX0_waysOf.cls ≠ "java/lang/invoke/MethodHandle" ∧ yX0_waysOf.cls ≠ "java/lang/invoke/VarHandle" ∧ (parseMethodDescriptor yX0_waysOf.desc).map (fun d => d.parameters.length) = some 2 := ⟨by decide, by decide, by decide +kernel⟩
theorem hd_X1_init : yX1_init.cls ≠ "java/lang/invoke/MethodHandle" ∧ yX1_init.cls ≠ "java/lang/invoke/VarHandle" ∧ (parseMethodDescriptor yX1_init.desc).map (fun d => d.parameters.length) = some 2 := ⟨by decide, by decide, by decide +kernel⟩
theorem hd_X1_pointsAfter : yX1_pointsAfter.cls ≠ "java/lang/invoke/MethodHandle" ∧ yX1_pointsAfter.cls ≠ "java/lang/invoke/VarHandle" ∧ (parseMethodDescriptor yX1_pointsAfter.desc).map (fun d => d.parameters.length) = some 3 := ⟨by decide, by decide, by decide +kernel⟩
theorem hd_X1_cluesAfter : yX1_cluesAfter.cls ≠ "java/lang/invoke/MethodHandle" ∧ yX1_cluesAfter.cls ≠ "java/lang/invoke/VarHandle" ∧ (parseMethodDescriptor yX1_cluesAfter.desc).map (fun d => d.parameters.length) = some 3 := ⟨by decide, by decide, by decide +kernel⟩
theorem hd_X1_downAfter : yX1_downAfter.cls ≠ "java/lang/invoke/MethodHandle" ∧ yX1_downAfter.cls ≠ "java/lang/invoke/VarHandle" ∧ (parseMethodDescriptor yX1_downAfter.desc).map (fun d => d.parameters.length) = some 3 := ⟨by decide, by decide, by decide +kernel⟩
theorem hd_X1_joined : yX1_joined.cls ≠ "java/lang/invoke/MethodHandle" ∧ yX1_joined.cls ≠ "java/lang/invoke/VarHandle" ∧ (parseMethodDescriptor yX1_joined.desc).map (fun d => d.parameters.length) = some 2 := ⟨by decide, by decide, by decide +kernel⟩
theorem hd_X1_ended : yX1_ended.cls ≠ "java/lang/invoke/MethodHandle" ∧ yX1_ended.cls ≠ "java/lang/invoke/VarHandle" ∧ (parseMethodDescriptor yX1_ended.desc).map (fun d => d.parameters.length) = some 2 := ⟨by decide, by decide, by decide +kernel⟩
theorem hd_X1_sideAfter : yX1_sideAfter.cls ≠ "java/lang/invoke/MethodHandle" ∧ yX1_sideAfter.cls ≠ "java/lang/invoke/VarHandle" ∧ (parseMethodDescriptor yX1_sideAfter.desc).map (fun d => d.parameters.length) = some 5 := ⟨by decide, by decide, by decide +kernel⟩
theorem hd_X1_isPathEnd : yX1_isPathEnd.cls ≠ "java/lang/invoke/MethodHandle" ∧ yX1_isPathEnd.cls ≠ "java/lang/invoke/VarHandle" ∧ (parseMethodDescriptor yX1_isPathEnd.desc).map (fun d => d.parameters.length) = some 2 := ⟨by decide, by decide, by decide +kernel⟩
theorem hd_X1_slot : yX1_slot.cls ≠ "java/lang/invoke/MethodHandle" ∧ yX1_slot.cls ≠ "java/lang/invoke/VarHandle" ∧ (parseMethodDescriptor yX1_slot.desc).map (fun d => d.parameters.length) = some 2 := ⟨by decide, by decide, by decide +kernel⟩
theorem hd_X1_put : yX1_put.cls ≠ "java/lang/invoke/MethodHandle" ∧ yX1_put.cls ≠ "java/lang/invoke/VarHandle" ∧ (parseMethodDescriptor yX1_put.desc).map (fun d => d.parameters.length) = some 3 := ⟨by decide, by decide, by decide +kernel⟩
theorem hd_X2_init : yX2_init.cls ≠ "java/lang/invoke/MethodHandle" ∧ yX2_init.cls ≠ "java/lang/invoke/VarHandle" ∧ (parseMethodDescriptor yX2_init.desc).map (fun d => d.parameters.length) = some 2 := ⟨by decide, by decide, by decide +kernel⟩
theorem hd_X2_edges : yX2_edges.cls ≠ "java/lang/invoke/MethodHandle" ∧ yX2_edges.cls ≠ "java/lang/invoke/VarHandle" ∧ (parseMethodDescriptor yX2_edges.desc).map (fun d => d.parameters.length) = some 0 := ⟨by decide, by decide, by decide +kernel⟩
theorem hd_X2_point : yX2_point.cls ≠ "java/lang/invoke/MethodHandle" ∧ yX2_point.cls ≠ "java/lang/invoke/VarHandle" ∧ (parseMethodDescriptor yX2_point.desc).map (fun d => d.parameters.length) = some 2 := ⟨by decide, by decide, by decide +kernel⟩
theorem hd_X2_clue : yX2_clue.cls ≠ "java/lang/invoke/MethodHandle" ∧ yX2_clue.cls ≠ "java/lang/invoke/VarHandle" ∧ (parseMethodDescriptor yX2_clue.desc).map (fun d => d.parameters.length) = some 3 := ⟨by decide, by decide, by decide +kernel⟩
theorem hd_X2_count : yX2_count.cls ≠ "java/lang/invoke/MethodHandle" ∧ yX2_count.cls ≠ "java/lang/invoke/VarHandle" ∧ (parseMethodDescriptor yX2_count.desc).map (fun d => d.parameters.length) = some 0 := ⟨by decide, by decide, by decide +kernel⟩
theorem hd_X2_width : yX2_width.cls ≠ "java/lang/invoke/MethodHandle" ∧ yX2_width.cls ≠ "java/lang/invoke/VarHandle" ∧ (parseMethodDescriptor yX2_width.desc).map (fun d => d.parameters.length) = some 2 := ⟨by decide, by decide, by decide +kernel⟩
theorem hd_X2_nodes : yX2_nodes.cls ≠ "java/lang/invoke/MethodHandle" ∧ yX2_nodes.cls ≠ "java/lang/invoke/VarHandle" ∧ (parseMethodDescriptor yX2_nodes.desc).map (fun d => d.parameters.length) = some 0 := ⟨by decide, by decide, by decide +kernel⟩
theorem hd_X2_has : yX2_has.cls ≠ "java/lang/invoke/MethodHandle" ∧ yX2_has.cls ≠ "java/lang/invoke/VarHandle" ∧ (parseMethodDescriptor yX2_has.desc).map (fun d => d.parameters.length) = some 2 := ⟨by decide, by decide, by decide +kernel⟩
theorem hd_X2_length : yX2_length.cls ≠ "java/lang/invoke/MethodHandle" ∧ yX2_length.cls ≠ "java/lang/invoke/VarHandle" ∧ (parseMethodDescriptor yX2_length.desc).map (fun d => d.parameters.length) = some 1 := ⟨by decide, by decide, by decide +kernel⟩
theorem hd_X2_often : yX2_often.cls ≠ "java/lang/invoke/MethodHandle" ∧ yX2_often.cls ≠ "java/lang/invoke/VarHandle" ∧ (parseMethodDescriptor yX2_often.desc).map (fun d => d.parameters.length) = some 1 := ⟨by decide, by decide, by decide +kernel⟩
theorem hd_X2_draw : yX2_draw.cls ≠ "java/lang/invoke/MethodHandle" ∧ yX2_draw.cls ≠ "java/lang/invoke/VarHandle" ∧ (parseMethodDescriptor yX2_draw.desc).map (fun d => d.parameters.length) = some 1 := ⟨by decide, by decide, by decide +kernel⟩
theorem hd_X2_copy : yX2_copy.cls ≠ "java/lang/invoke/MethodHandle" ∧ yX2_copy.cls ≠ "java/lang/invoke/VarHandle" ∧ (parseMethodDescriptor yX2_copy.desc).map (fun d => d.parameters.length) = some 1 := ⟨by decide, by decide, by decide +kernel⟩
theorem hd_X2_drawn : yX2_drawn.cls ≠ "java/lang/invoke/MethodHandle" ∧ yX2_drawn.cls ≠ "java/lang/invoke/VarHandle" ∧ (parseMethodDescriptor yX2_drawn.desc).map (fun d => d.parameters.length) = some 0 := ⟨by decide, by decide, by decide +kernel⟩
theorem hd_X2_isLoop : yX2_isLoop.cls ≠ "java/lang/invoke/MethodHandle" ∧ yX2_isLoop.cls ≠ "java/lang/invoke/VarHandle" ∧ (parseMethodDescriptor yX2_isLoop.desc).map (fun d => d.parameters.length) = some 0 := ⟨by decide, by decide, by decide +kernel⟩
theorem hd_X2_rank : yX2_rank.cls ≠ "java/lang/invoke/MethodHandle" ∧ yX2_rank.cls ≠ "java/lang/invoke/VarHandle" ∧ (parseMethodDescriptor yX2_rank.desc).map (fun d => d.parameters.length) = some 0 := ⟨by decide, by decide, by decide +kernel⟩
theorem hd_X2_above : yX2_above.cls ≠ "java/lang/invoke/MethodHandle" ∧ yX2_above.cls ≠ "java/lang/invoke/VarHandle" ∧ (parseMethodDescriptor yX2_above.desc).map (fun d => d.parameters.length) = some 0 := ⟨by decide, by decide, by decide +kernel⟩
theorem hd_X2_alive : yX2_alive.cls ≠ "java/lang/invoke/MethodHandle" ∧ yX2_alive.cls ≠ "java/lang/invoke/VarHandle" ∧ (parseMethodDescriptor yX2_alive.desc).map (fun d => d.parameters.length) = some 0 := ⟨by decide, by decide, by decide +kernel⟩
theorem hd_X2_spare : yX2_spare.cls ≠ "java/lang/invoke/MethodHandle" ∧ yX2_spare.cls ≠ "java/lang/invoke/VarHandle" ∧ (parseMethodDescriptor yX2_spare.desc).map (fun d => d.parameters.length) = some 0 := ⟨by decide, by decide, by decide +kernel⟩
theorem hd_X2_clueOf : yX2_clueOf.cls ≠ "java/lang/invoke/MethodHandle" ∧ yX2_clueOf.cls ≠ "java/lang/invoke/VarHandle" ∧ (parseMethodDescriptor yX2_clueOf.desc).map (fun d => d.parameters.length) = some 2 := ⟨by decide, by decide, by decide +kernel⟩
theorem hd_X2_isNoEdge : yX2_isNoEdge.cls ≠ "java/lang/invoke/MethodHandle" ∧ yX2_isNoEdge.cls ≠ "java/lang/invoke/VarHandle" ∧ (parseMethodDescriptor yX2_isNoEdge.desc).map (fun d => d.parameters.length) = some 1 := ⟨by decide, by decide, by decide +kernel⟩
theorem hd_X2_isNoCell : yX2_isNoCell.cls ≠ "java/lang/invoke/MethodHandle" ∧ yX2_isNoCell.cls ≠ "java/lang/invoke/VarHandle" ∧ (parseMethodDescriptor yX2_isNoCell.desc).map (fun d => d.parameters.length) = some 2 := ⟨by decide, by decide, by decide +kernel⟩
theorem hd_X2_setClue : yX2_setClue.cls ≠ "java/lang/invoke/MethodHandle" ∧ yX2_setClue.cls ≠ "java/lang/invoke/VarHandle" ∧ (parseMethodDescriptor yX2_setClue.desc).map (fun d => d.parameters.length) = some 2 := ⟨by decide, by decide, by decide +kernel⟩
theorem hd_X2_fresh : yX2_fresh.cls ≠ "java/lang/invoke/MethodHandle" ∧ yX2_fresh.cls ≠ "java/lang/invoke/VarHandle" ∧ (parseMethodDescriptor yX2_fresh.desc).map (fun d => d.parameters.length) = some 0 := ⟨by decide, by decide, by decide +kernel⟩
theorem hd_X2_hasBit : yX2_hasBit.cls ≠ "java/lang/invoke/MethodHandle" ∧ yX2_hasBit.cls ≠ "java/lang/invoke/VarHandle" ∧ (parseMethodDescriptor yX2_hasBit.desc).map (fun d => d.parameters.length) = some 2 := ⟨by decide, by decide, by decide +kernel⟩
theorem hd_X3_init : yX3_init.cls ≠ "java/lang/invoke/MethodHandle" ∧ yX3_init.cls ≠ "java/lang/invoke/VarHandle" ∧ (parseMethodDescriptor yX3_init.desc).map (fun d => d.parameters.length) = some 2 := ⟨by decide, by decide, by decide +kernel⟩
theorem hd_X3_cell : yX3_cell.cls ≠ "java/lang/invoke/MethodHandle" ∧ yX3_cell.cls ≠ "java/lang/invoke/VarHandle" ∧ (parseMethodDescriptor yX3_cell.desc).map (fun d => d.parameters.length) = some 2 := ⟨by decide, by decide, by decide +kernel⟩
theorem hd_X3_meet : yX3_meet.cls ≠ "java/lang/invoke/MethodHandle" ∧ yX3_meet.cls ≠ "java/lang/invoke/VarHandle" ∧ (parseMethodDescriptor yX3_meet.desc).map (fun d => d.parameters.length) = some 2 := ⟨by decide, by decide, by decide +kernel⟩
theorem hd_X3_border : yX3_border.cls ≠ "java/lang/invoke/MethodHandle" ∧ yX3_border.cls ≠ "java/lang/invoke/VarHandle" ∧ (parseMethodDescriptor yX3_border.desc).map (fun d => d.parameters.length) = some 2 := ⟨by decide, by decide, by decide +kernel⟩
theorem hd_X3_join : yX3_join.cls ≠ "java/lang/invoke/MethodHandle" ∧ yX3_join.cls ≠ "java/lang/invoke/VarHandle" ∧ (parseMethodDescriptor yX3_join.desc).map (fun d => d.parameters.length) = some 4 := ⟨by decide, by decide, by decide +kernel⟩
theorem hd_X3_thrown : yX3_thrown.cls ≠ "java/lang/invoke/MethodHandle" ∧ yX3_thrown.cls ≠ "java/lang/invoke/VarHandle" ∧ (parseMethodDescriptor yX3_thrown.desc).map (fun d => d.parameters.length) = some 0 := ⟨by decide, by decide, by decide +kernel⟩
theorem hd_X3_fail : yX3_fail.cls ≠ "java/lang/invoke/MethodHandle" ∧ yX3_fail.cls ≠ "java/lang/invoke/VarHandle" ∧ (parseMethodDescriptor yX3_fail.desc).map (fun d => d.parameters.length) = some 1 := ⟨by decide, by decide, by decide +kernel⟩
theorem hd_X3_isIn : yX3_isIn.cls ≠ "java/lang/invoke/MethodHandle" ∧ yX3_isIn.cls ≠ "java/lang/invoke/VarHandle" ∧ (parseMethodDescriptor yX3_isIn.desc).map (fun d => d.parameters.length) = some 2 := ⟨by decide, by decide, by decide +kernel⟩
theorem hd_X3_bit : yX3_bit.cls ≠ "java/lang/invoke/MethodHandle" ∧ yX3_bit.cls ≠ "java/lang/invoke/VarHandle" ∧ (parseMethodDescriptor yX3_bit.desc).map (fun d => d.parameters.length) = some 1 := ⟨by decide, by decide, by decide +kernel⟩
theorem hd_X3_size : yX3_size.cls ≠ "java/lang/invoke/MethodHandle" ∧ yX3_size.cls ≠ "java/lang/invoke/VarHandle" ∧ (parseMethodDescriptor yX3_size.desc).map (fun d => d.parameters.length) = some 1 := ⟨by decide, by decide, by decide +kernel⟩
theorem hd_X3_measure : yX3_measure.cls ≠ "java/lang/invoke/MethodHandle" ∧ yX3_measure.cls ≠ "java/lang/invoke/VarHandle" ∧ (parseMethodDescriptor yX3_measure.desc).map (fun d => d.parameters.length) = some 1 := ⟨by decide, by decide, by decide +kernel⟩
theorem hd_X3_onward : yX3_onward.cls ≠ "java/lang/invoke/MethodHandle" ∧ yX3_onward.cls ≠ "java/lang/invoke/VarHandle" ∧ (parseMethodDescriptor yX3_onward.desc).map (fun d => d.parameters.length) = some 3 := ⟨by decide, by decide, by decide +kernel⟩
theorem hd_X3_walk : yX3_walk.cls ≠ "java/lang/invoke/MethodHandle" ∧ yX3_walk.cls ≠ "java/lang/invoke/VarHandle" ∧ (parseMethodDescriptor yX3_walk.desc).map (fun d => d.parameters.length) = some 2 := ⟨by decide, by decide, by decide +kernel⟩
theorem hd_X3_isThin : yX3_isThin.cls ≠ "java/lang/invoke/MethodHandle" ∧ yX3_isThin.cls ≠ "java/lang/invoke/VarHandle" ∧ (parseMethodDescriptor yX3_isThin.desc).map (fun d => d.parameters.length) = some 0 := ⟨by decide, by decide, by decide +kernel⟩
theorem hd_X3_unseen : yX3_unseen.cls ≠ "java/lang/invoke/MethodHandle" ∧ yX3_unseen.cls ≠ "java/lang/invoke/VarHandle" ∧ (parseMethodDescriptor yX3_unseen.desc).map (fun d => d.parameters.length) = some 0 := ⟨by decide, by decide, by decide +kernel⟩
theorem hd_X3_hasEnds : yX3_hasEnds.cls ≠ "java/lang/invoke/MethodHandle" ∧ yX3_hasEnds.cls ≠ "java/lang/invoke/VarHandle" ∧ (parseMethodDescriptor yX3_hasEnds.desc).map (fun d => d.parameters.length) = some 0 := ⟨by decide, by decide, by decide +kernel⟩
theorem hd_X3_isRing : yX3_isRing.cls ≠ "java/lang/invoke/MethodHandle" ∧ yX3_isRing.cls ≠ "java/lang/invoke/VarHandle" ∧ (parseMethodDescriptor yX3_isRing.desc).map (fun d => d.parameters.length) = some 1 := ⟨by decide, by decide, by decide +kernel⟩
theorem hd_X3_isLoopSet : yX3_isLoopSet.cls ≠ "java/lang/invoke/MethodHandle" ∧ yX3_isLoopSet.cls ≠ "java/lang/invoke/VarHandle" ∧ (parseMethodDescriptor yX3_isLoopSet.desc).map (fun d => d.parameters.length) = some 1 := ⟨by decide, by decide, by decide +kernel⟩
theorem hd_X3_borderOf : yX3_borderOf.cls ≠ "java/lang/invoke/MethodHandle" ∧ yX3_borderOf.cls ≠ "java/lang/invoke/VarHandle" ∧ (parseMethodDescriptor yX3_borderOf.desc).map (fun d => d.parameters.length) = some 1 := ⟨by decide, by decide, by decide +kernel⟩
theorem hd_X3_findLoops : yX3_findLoops.cls ≠ "java/lang/invoke/MethodHandle" ∧ yX3_findLoops.cls ≠ "java/lang/invoke/VarHandle" ∧ (parseMethodDescriptor yX3_findLoops.desc).map (fun d => d.parameters.length) = some 0 := ⟨by decide, by decide, by decide +kernel⟩
theorem hd_X3_sides : yX3_sides.cls ≠ "java/lang/invoke/MethodHandle" ∧ yX3_sides.cls ≠ "java/lang/invoke/VarHandle" ∧ (parseMethodDescriptor yX3_sides.desc).map (fun d => d.parameters.length) = some 2 := ⟨by decide, by decide, by decide +kernel⟩
theorem hd_X3_keepsClues : yX3_keepsClues.cls ≠ "java/lang/invoke/MethodHandle" ∧ yX3_keepsClues.cls ≠ "java/lang/invoke/VarHandle" ∧ (parseMethodDescriptor yX3_keepsClues.desc).map (fun d => d.parameters.length) = some 1 := ⟨by decide, by decide, by decide +kernel⟩
theorem hd_X3_find : yX3_find.cls ≠ "java/lang/invoke/MethodHandle" ∧ yX3_find.cls ≠ "java/lang/invoke/VarHandle" ∧ (parseMethodDescriptor yX3_find.desc).map (fun d => d.parameters.length) = some 0 := ⟨by decide, by decide, by decide +kernel⟩
theorem hd_X3_isCellAlive : yX3_isCellAlive.cls ≠ "java/lang/invoke/MethodHandle" ∧ yX3_isCellAlive.cls ≠ "java/lang/invoke/VarHandle" ∧ (parseMethodDescriptor yX3_isCellAlive.desc).map (fun d => d.parameters.length) = some 3 := ⟨by decide, by decide, by decide +kernel⟩
theorem hd_X3_isAlive : yX3_isAlive.cls ≠ "java/lang/invoke/MethodHandle" ∧ yX3_isAlive.cls ≠ "java/lang/invoke/VarHandle" ∧ (parseMethodDescriptor yX3_isAlive.desc).map (fun d => d.parameters.length) = some 2 := ⟨by decide, by decide, by decide +kernel⟩
theorem hd_X3_trace : yX3_trace.cls ≠ "java/lang/invoke/MethodHandle" ∧ yX3_trace.cls ≠ "java/lang/invoke/VarHandle" ∧ (parseMethodDescriptor yX3_trace.desc).map (fun d => d.parameters.length) = some 2 := ⟨by decide, by decide, by decide +kernel⟩
theorem hd_X3_offer : yX3_offer.cls ≠ "java/lang/invoke/MethodHandle" ∧ yX3_offer.cls ≠ "java/lang/invoke/VarHandle" ∧ (parseMethodDescriptor yX3_offer.desc).map (fun d => d.parameters.length) = some 2 := ⟨by decide, by decide, by decide +kernel⟩
theorem hd_X3_wipe : yX3_wipe.cls ≠ "java/lang/invoke/MethodHandle" ∧ yX3_wipe.cls ≠ "java/lang/invoke/VarHandle" ∧ (parseMethodDescriptor yX3_wipe.desc).map (fun d => d.parameters.length) = some 0 := ⟨by decide, by decide, by decide +kernel⟩
theorem hd_X3_isUseful : yX3_isUseful.cls ≠ "java/lang/invoke/MethodHandle" ∧ yX3_isUseful.cls ≠ "java/lang/invoke/VarHandle" ∧ (parseMethodDescriptor yX3_isUseful.desc).map (fun d => d.parameters.length) = some 2 := ⟨by decide, by decide, by decide +kernel⟩
theorem hd_X3_measureLevels : yX3_measureLevels.cls ≠ "java/lang/invoke/MethodHandle" ∧ yX3_measureLevels.cls ≠ "java/lang/invoke/VarHandle" ∧ (parseMethodDescriptor yX3_measureLevels.desc).map (fun d => d.parameters.length) = some 0 := ⟨by decide, by decide, by decide +kernel⟩
theorem hd_X3_edges : yX3_edges.cls ≠ "java/lang/invoke/MethodHandle" ∧ yX3_edges.cls ≠ "java/lang/invoke/VarHandle" ∧ (parseMethodDescriptor yX3_edges.desc).map (fun d => d.parameters.length) = some 0 := ⟨by decide, by decide, by decide +kernel⟩
theorem hd_X3_isEdge : yX3_isEdge.cls ≠ "java/lang/invoke/MethodHandle" ∧ yX3_isEdge.cls ≠ "java/lang/invoke/VarHandle" ∧ (parseMethodDescriptor yX3_isEdge.desc).map (fun d => d.parameters.length) = some 1 := ⟨by decide, by decide, by decide +kernel⟩
theorem hd_X3_point : yX3_point.cls ≠ "java/lang/invoke/MethodHandle" ∧ yX3_point.cls ≠ "java/lang/invoke/VarHandle" ∧ (parseMethodDescriptor yX3_point.desc).map (fun d => d.parameters.length) = some 2 := ⟨by decide, by decide, by decide +kernel⟩
theorem hd_X3_clue : yX3_clue.cls ≠ "java/lang/invoke/MethodHandle" ∧ yX3_clue.cls ≠ "java/lang/invoke/VarHandle" ∧ (parseMethodDescriptor yX3_clue.desc).map (fun d => d.parameters.length) = some 3 := ⟨by decide, by decide, by decide +kernel⟩
theorem hd_X3_clueOf : yX3_clueOf.cls ≠ "java/lang/invoke/MethodHandle" ∧ yX3_clueOf.cls ≠ "java/lang/invoke/VarHandle" ∧ (parseMethodDescriptor yX3_clueOf.desc).map (fun d => d.parameters.length) = some 2 := ⟨by decide, by decide, by decide +kernel⟩
theorem hd_X3_count : yX3_count.cls ≠ "java/lang/invoke/MethodHandle" ∧ yX3_count.cls ≠ "java/lang/invoke/VarHandle" ∧ (parseMethodDescriptor yX3_count.desc).map (fun d => d.parameters.length) = some 0 := ⟨by decide, by decide, by decide +kernel⟩
theorem hd_X3_width : yX3_width.cls ≠ "java/lang/invoke/MethodHandle" ∧ yX3_width.cls ≠ "java/lang/invoke/VarHandle" ∧ (parseMethodDescriptor yX3_width.desc).map (fun d => d.parameters.length) = some 2 := ⟨by decide, by decide, by decide +kernel⟩
theorem hd_X3_nodes : yX3_nodes.cls ≠ "java/lang/invoke/MethodHandle" ∧ yX3_nodes.cls ≠ "java/lang/invoke/VarHandle" ∧ (parseMethodDescriptor yX3_nodes.desc).map (fun d => d.parameters.length) = some 0 := ⟨by decide, by decide, by decide +kernel⟩
theorem hd_X3_isSolution : yX3_isSolution.cls ≠ "java/lang/invoke/MethodHandle" ∧ yX3_isSolution.cls ≠ "java/lang/invoke/VarHandle" ∧ (parseMethodDescriptor yX3_isSolution.desc).map (fun d => d.parameters.length) = some 1 := ⟨by decide, by decide, by decide +kernel⟩
theorem hd_X3_has : yX3_has.cls ≠ "java/lang/invoke/MethodHandle" ∧ yX3_has.cls ≠ "java/lang/invoke/VarHandle" ∧ (parseMethodDescriptor yX3_has.desc).map (fun d => d.parameters.length) = some 2 := ⟨by decide, by decide, by decide +kernel⟩
theorem hd_X3_length : yX3_length.cls ≠ "java/lang/invoke/MethodHandle" ∧ yX3_length.cls ≠ "java/lang/invoke/VarHandle" ∧ (parseMethodDescriptor yX3_length.desc).map (fun d => d.parameters.length) = some 1 := ⟨by decide, by decide, by decide +kernel⟩
theorem hd_X3_often : yX3_often.cls ≠ "java/lang/invoke/MethodHandle" ∧ yX3_often.cls ≠ "java/lang/invoke/VarHandle" ∧ (parseMethodDescriptor yX3_often.desc).map (fun d => d.parameters.length) = some 1 := ⟨by decide, by decide, by decide +kernel⟩
theorem hd_X3_withAll : yX3_withAll.cls ≠ "java/lang/invoke/MethodHandle" ∧ yX3_withAll.cls ≠ "java/lang/invoke/VarHandle" ∧ (parseMethodDescriptor yX3_withAll.desc).map (fun d => d.parameters.length) = some 1 := ⟨by decide, by decide, by decide +kernel⟩
theorem hd_X3_draw : yX3_draw.cls ≠ "java/lang/invoke/MethodHandle" ∧ yX3_draw.cls ≠ "java/lang/invoke/VarHandle" ∧ (parseMethodDescriptor yX3_draw.desc).map (fun d => d.parameters.length) = some 1 := ⟨by decide, by decide, by decide +kernel⟩
theorem hd_X3_copy : yX3_copy.cls ≠ "java/lang/invoke/MethodHandle" ∧ yX3_copy.cls ≠ "java/lang/invoke/VarHandle" ∧ (parseMethodDescriptor yX3_copy.desc).map (fun d => d.parameters.length) = some 1 := ⟨by decide, by decide, by decide +kernel⟩
theorem hd_X3_drawn : yX3_drawn.cls ≠ "java/lang/invoke/MethodHandle" ∧ yX3_drawn.cls ≠ "java/lang/invoke/VarHandle" ∧ (parseMethodDescriptor yX3_drawn.desc).map (fun d => d.parameters.length) = some 0 := ⟨by decide, by decide, by decide +kernel⟩
theorem hd_X3_isLoop : yX3_isLoop.cls ≠ "java/lang/invoke/MethodHandle" ∧ yX3_isLoop.cls ≠ "java/lang/invoke/VarHandle" ∧ (parseMethodDescriptor yX3_isLoop.desc).map (fun d => d.parameters.length) = some 0 := ⟨by decide, by decide, by decide +kernel⟩
theorem hd_X3_rank : yX3_rank.cls ≠ "java/lang/invoke/MethodHandle" ∧ yX3_rank.cls ≠ "java/lang/invoke/VarHandle" ∧ (parseMethodDescriptor yX3_rank.desc).map (fun d => d.parameters.length) = some 0 := ⟨by decide, by decide, by decide +kernel⟩
theorem hd_X3_above : yX3_above.cls ≠ "java/lang/invoke/MethodHandle" ∧ yX3_above.cls ≠ "java/lang/invoke/VarHandle" ∧ (parseMethodDescriptor yX3_above.desc).map (fun d => d.parameters.length) = some 0 := ⟨by decide, by decide, by decide +kernel⟩
theorem hd_X3_alive : yX3_alive.cls ≠ "java/lang/invoke/MethodHandle" ∧ yX3_alive.cls ≠ "java/lang/invoke/VarHandle" ∧ (parseMethodDescriptor yX3_alive.desc).map (fun d => d.parameters.length) = some 0 := ⟨by decide, by decide, by decide +kernel⟩
theorem hd_X3_spare : yX3_spare.cls ≠ "java/lang/invoke/MethodHandle" ∧ yX3_spare.cls ≠ "java/lang/invoke/VarHandle" ∧ (parseMethodDescriptor yX3_spare.desc).map (fun d => d.parameters.length) = some 0 := ⟨by decide, by decide, by decide +kernel⟩
theorem hd_J6_bitCount_0f7a4 : yJ6_bitCount_0f7a4.cls ≠ "java/lang/invoke/MethodHandle" ∧ yJ6_bitCount_0f7a4.cls ≠ "java/lang/invoke/VarHandle" ∧ (parseMethodDescriptor yJ6_bitCount_0f7a4.desc).map (fun d => d.parameters.length) = some 1 := ⟨by decide, by decide, by decide +kernel⟩
theorem hd_L_cell : yL_cell.cls ≠ "java/lang/invoke/MethodHandle" ∧ yL_cell.cls ≠ "java/lang/invoke/VarHandle" ∧ (parseMethodDescriptor yL_cell.desc).map (fun d => d.parameters.length) = some 2 := ⟨by decide, by decide, by decide +kernel⟩
theorem hd_L_point : yL_point.cls ≠ "java/lang/invoke/MethodHandle" ∧ yL_point.cls ≠ "java/lang/invoke/VarHandle" ∧ (parseMethodDescriptor yL_point.desc).map (fun d => d.parameters.length) = some 4 := ⟨by decide, by decide, by decide +kernel⟩
theorem hd_L_clue : yL_clue.cls ≠ "java/lang/invoke/MethodHandle" ∧ yL_clue.cls ≠ "java/lang/invoke/VarHandle" ∧ (parseMethodDescriptor yL_clue.desc).map (fun d => d.parameters.length) = some 4 := ⟨by decide, by decide, by decide +kernel⟩
theorem hd_L_width : yL_width.cls ≠ "java/lang/invoke/MethodHandle" ∧ yL_width.cls ≠ "java/lang/invoke/VarHandle" ∧ (parseMethodDescriptor yL_width.desc).map (fun d => d.parameters.length) = some 4 := ⟨by decide, by decide, by decide +kernel⟩
theorem hd_L_has : yL_has.cls ≠ "java/lang/invoke/MethodHandle" ∧ yL_has.cls ≠ "java/lang/invoke/VarHandle" ∧ (parseMethodDescriptor yL_has.desc).map (fun d => d.parameters.length) = some 4 := ⟨by decide, by decide, by decide +kernel⟩
theorem hd_L_length : yL_length.cls ≠ "java/lang/invoke/MethodHandle" ∧ yL_length.cls ≠ "java/lang/invoke/VarHandle" ∧ (parseMethodDescriptor yL_length.desc).map (fun d => d.parameters.length) = some 3 := ⟨by decide, by decide, by decide +kernel⟩
theorem hd_L_often : yL_often.cls ≠ "java/lang/invoke/MethodHandle" ∧ yL_often.cls ≠ "java/lang/invoke/VarHandle" ∧ (parseMethodDescriptor yL_often.desc).map (fun d => d.parameters.length) = some 3 := ⟨by decide, by decide, by decide +kernel⟩
theorem hd_L_draw : yL_draw.cls ≠ "java/lang/invoke/MethodHandle" ∧ yL_draw.cls ≠ "java/lang/invoke/VarHandle" ∧ (parseMethodDescriptor yL_draw.desc).map (fun d => d.parameters.length) = some 3 := ⟨by decide, by decide, by decide +kernel⟩
theorem hd_L_copy : yL_copy.cls ≠ "java/lang/invoke/MethodHandle" ∧ yL_copy.cls ≠ "java/lang/invoke/VarHandle" ∧ (parseMethodDescriptor yL_copy.desc).map (fun d => d.parameters.length) = some 2 := ⟨by decide, by decide, by decide +kernel⟩
theorem hd_L_rank : yL_rank.cls ≠ "java/lang/invoke/MethodHandle" ∧ yL_rank.cls ≠ "java/lang/invoke/VarHandle" ∧ (parseMethodDescriptor yL_rank.desc).map (fun d => d.parameters.length) = some 2 := ⟨by decide, by decide, by decide +kernel⟩
theorem hd_L_spare : yL_spare.cls ≠ "java/lang/invoke/MethodHandle" ∧ yL_spare.cls ≠ "java/lang/invoke/VarHandle" ∧ (parseMethodDescriptor yL_spare.desc).map (fun d => d.parameters.length) = some 2 := ⟨by decide, by decide, by decide +kernel⟩
theorem hd_L_clueOf : yL_clueOf.cls ≠ "java/lang/invoke/MethodHandle" ∧ yL_clueOf.cls ≠ "java/lang/invoke/VarHandle" ∧ (parseMethodDescriptor yL_clueOf.desc).map (fun d => d.parameters.length) = some 4 := ⟨by decide, by decide, by decide +kernel⟩
theorem hd_L_law : yL_law.cls ≠ "java/lang/invoke/MethodHandle" ∧ yL_law.cls ≠ "java/lang/invoke/VarHandle" ∧ (parseMethodDescriptor yL_law.desc).map (fun d => d.parameters.length) = some 1 := ⟨by decide, by decide, by decide +kernel⟩
section JW
variable {k : VK} {l : Launch} {D : va_G} {tys : List (ClassId × FieldType)} {R : Room} {cc : ByteArray} {nL : Nat} {own : String} {w : va_W} {cells slots pc : Nat} {lv : List (Nat × Value)} {rest : List Value}
/-- a static method of numbers alone: the world stays -/
theorem j_s0 {y : MethodName} {cc2 : ByteArray} {n2 index n : Nat} {ret2 : Option FieldType} {rm : Room} {av : List Value} {r0 : Value} (hM : Ct l y cc2 n2 ret2 rm D tys tys [] av (fun r u => r = some r0 ∧ u = []) 0 0) (h1 : Cond.methodLink own index y ∈ aL) (h2 : Cond.static y ∈ aL) (h3 : Cond.initialized y.cls ∈ aL) (h4 : Cond.code y cc2 n2 ret2 ∈ aL) (hd : y.cls ≠ "java/lang/invoke/MethodHandle" ∧ y.cls ≠ "java/lang/invoke/VarHandle" ∧ (parseMethodDescriptor y.desc).map (fun d => d.parameters.length) = some n) (hlen : av.length = n) (hrm : rm.cells = 0 ∧ rm.slots = 0) (hR : rm.frames + 1 ≤ R.frames ∧ 8 + (n2 + 11) + rm.locals ≤ R.locals) (hc : cells ≤ R.cells ∧ slots ≤ R.slots) (hW : (rest.map fun v => v.category).sum ≤ 8) {st : List Value} (hst : st = av.reverse ++ rest) (hdg : decode cc pc = .ok (.invokestatic index, 3)) (kk : V k l D tys R cc nL own w cells slots (pc + 3) lv (r0 :: rest)) : V k l D tys R cc nL own w cells slots (pc) lv (st) :=
  j_callS0 hM h1 h2 h3 h4 hd hlen hrm hR hc hW (fun _ _ h => nomatch h) (nd_range _) hst hdg kk
theorem j_sn0 {y : MethodName} {cc2 : ByteArray} {n2 index n : Nat} {ret2 : Option FieldType} {rm : Room} {av : List Value} {r0 : Value} (hM : Ct l y cc2 n2 ret2 rm D tys tys [] av (fun r u => r = some r0 ∧ u = []) 0 0) (h1 : nestW = Cond.methodLinkNest own index y RX2) (h2 : Cond.static y ∈ aL) (h3 : Cond.initialized y.cls ∈ aL) (h4 : Cond.code y cc2 n2 ret2 ∈ aL) (hd : y.cls ≠ "java/lang/invoke/MethodHandle" ∧ y.cls ≠ "java/lang/invoke/VarHandle" ∧ (parseMethodDescriptor y.desc).map (fun d => d.parameters.length) = some n) (hlen : av.length = n) (hrm : rm.cells = 0 ∧ rm.slots = 0) (hR : rm.frames + 1 ≤ R.frames ∧ 8 + (n2 + 11) + rm.locals ≤ R.locals) (hc : cells ≤ R.cells ∧ slots ≤ R.slots) (hW : (rest.map fun v => v.category).sum ≤ 8) {st : List Value} (hst : st = av.reverse ++ rest) (hdg : decode cc pc = .ok (.invokestatic index, 3)) (kk : V k l D tys R cc nL own w cells slots (pc + 3) lv (r0 :: rest)) : V k l D tys R cc nL own w cells slots (pc) lv (st) :=
  j_callSN0 hM h1 h2 h3 h4 hd hlen hrm hR hc hW (fun _ _ h => nomatch h) (nd_range _) hst hdg kk
theorem j_sW {y : MethodName} {cc2 : ByteArray} {n2 index n : Nat} {ret2 : Option FieldType} {rm : Room} {av : List Value} {Po : Option Value → va_W → Prop} (hM : Ct l y cc2 n2 ret2 rm D tys tys w av Po 0 0) (h1 : Cond.methodLink own index y ∈ aL) (h2 : Cond.static y ∈ aL) (h3 : Cond.initialized y.cls ∈ aL) (h4 : Cond.code y cc2 n2 ret2 ∈ aL) (hd : y.cls ≠ "java/lang/invoke/MethodHandle" ∧ y.cls ≠ "java/lang/invoke/VarHandle" ∧ (parseMethodDescriptor y.desc).map (fun d => d.parameters.length) = some n) (hlen : av.length = n) (hrm : rm.cells = 0 ∧ rm.slots = 0) (hR : rm.frames + 1 ≤ R.frames ∧ 8 + (n2 + 11) + rm.locals ≤ R.locals) (hc : cells ≤ R.cells ∧ slots ≤ R.slots) (hW : (rest.map fun v => v.category).sum ≤ 8) {st : List Value} (hst : st = av.reverse ++ rest) (hdg : decode cc pc = .ok (.invokestatic index, 3)) (kk : ∀ (r : Option Value) (u : va_W), Po r u → V k l D tys R cc nL own u cells slots (pc + 3) lv (r.toList ++ rest)) : V k l D tys R cc nL own w cells slots (pc) lv (st) :=
  j_callS (mc := 0) (ms := 0) (wr := []) (tys3 := tys) hM h1 h2 h3 h4 hd hlen hrm hR hc hW (List.range w.length) [] (all_map w) rfl (nd_range _) rfl (fun _ h => nomatch h) (fun _ h _ => h) hst hdg kk
theorem j_vW {y : MethodName} {cc2 : ByteArray} {n2 index n : Nat} {ret2 : Option FieldType} {rm : Room} {av : List Value} {b ci : Nat} {qc : vw_C} {fs : List Value} {Po : Option Value → va_W → Prop} (hM : Ct l y cc2 n2 ret2 rm D tys tys w (.ref b :: av) Po 0 0) (q0 : Nat) (he : w[q0]? = some (b, .inr (ci, fs))) (hcl : vwCl[ci]? = some qc) (h1 : Cond.methodLink own index y ∈ aL) (h2 : Cond.instanceMethod y ∈ aL) (h5 : Cond.selects qc.1 y y ∈ aL) (h3 : Cond.initialized qc.1 ∈ aL) (h4 : Cond.code y cc2 n2 ret2 ∈ aL) (hyc : y.cls = qc.1) (hd : y.cls ≠ "java/lang/invoke/MethodHandle" ∧ y.cls ≠ "java/lang/invoke/VarHandle" ∧ (parseMethodDescriptor y.desc).map (fun d => d.parameters.length) = some n) (hlen : av.length = n) (hrm : rm.cells = 0 ∧ rm.slots = 0) (hR : rm.frames + 1 ≤ R.frames ∧ 8 + (n2 + 11) + rm.locals ≤ R.locals) (hc : cells ≤ R.cells ∧ slots ≤ R.slots) (hW : (rest.map fun v => v.category).sum ≤ 8) {st : List Value} (hst : st = av.reverse ++ .ref b :: rest) (hdg : decode cc pc = .ok (.invokevirtual index, 3)) (kk : ∀ (r : Option Value) (u : va_W), Po r u → V k l D tys R cc nL own u cells slots (pc + 3) lv (r.toList ++ rest)) : V k l D tys R cc nL own w cells slots (pc) lv (st) :=
  j_callV (mc := 0) (ms := 0) (wr := []) (tys3 := tys) hM q0 he hcl h1 h2 h5 h3 h4 ⟨hyc, hd⟩ hlen hrm hR hc hW (List.range w.length) [] (all_map w) rfl (nd_range _) rfl (fun _ h => nomatch h) (fun _ h _ => h) hst hdg kk
end JW
end
section
/-! numbers: bits of nI, slots of three bits -/
theorem nb_and (a b : Nat) : nI a &&& nI b = nI (a &&& b) := by
  apply Int32.toBitVec_inj.1
  show BitVec.ofNat 32 a &&& BitVec.ofNat 32 b = BitVec.ofNat 32 (a &&& b)
  apply BitVec.eq_of_getLsbD_eq
  intro i hi
  simp [hi]
theorem nb_or (a b : Nat) : nI a ||| nI b = nI (a ||| b) := by
  apply Int32.toBitVec_inj.1
  show BitVec.ofNat 32 a ||| BitVec.ofNat 32 b = BitVec.ofNat 32 (a ||| b)
  apply BitVec.eq_of_getLsbD_eq
  intro i hi
  simp [hi]
theorem nb_xor (a b : Nat) : nI a ^^^ nI b = nI (a ^^^ b) := by
  apply Int32.toBitVec_inj.1
  show BitVec.ofNat 32 a ^^^ BitVec.ofNat 32 b = BitVec.ofNat 32 (a ^^^ b)
  apply BitVec.eq_of_getLsbD_eq
  intro i hi
  simp [hi]
theorem nb_m1 : (-1 : Int32) = nI 4294967295 := by decide
theorem nb_amt : ∀ i, i < 32 → ((nI i &&& 31).toBitVec.smod 32).toNat = i := by decide
theorem nb_shr {n i : Nat} (h : n < 2 ^ 31) (hi : i < 32) : nI n >>> (nI i &&& 31) = nI (n / 2 ^ i) := pk_shrN h _ i (nb_amt i hi)
theorem nb_shl {n i : Nat} (h : n * 2 ^ i < 2 ^ 32) (hi : i < 32) : nI n <<< (nI i &&& 31) = nI (n * 2 ^ i) := pk_shlN _ i (nb_amt i hi) h
theorem nb_lo {n : Nat} (k : Nat) (h : n < 2 ^ 32) {m : Nat} (hm : m = 2 ^ k - 1) (hk : k < 32) : nI n &&& nI m = nI (n % 2 ^ k) := by
  rw [nb_and, hm, Nat.and_two_pow_sub_one_eq_mod]
theorem nb_bit {n i : Nat} (h : n < 2 ^ 31) (hi : i < 32) : (nI n >>> (nI i &&& 31)) &&& nI 1 = nI (if n.testBit i then 1 else 0) := by
  have h2 : n / 2 ^ i < 2 ^ 32 := Nat.lt_of_le_of_lt (Nat.div_le_self _ _) (by omega)
  rw [nb_shr h hi, nb_lo 1 h2 (by rfl) (by decide)]
  congr 1
  rw [Nat.testBit_eq_decide_div_mod_eq]
  have := Nat.mod_two_eq_zero_or_one (n / 2 ^ i)
  rcases this with e | e <;> simp [e]
theorem fit_bI (b : Bool) : fits .boolean (.int (bI b)) = true := by cases b <;> rfl
def eI (x : Nat) : Int32 := if x = 99 then -1 else nI x
/-- the slot i of a state, and the state with v put there -/
def sl (s i : Nat) : Nat := s / 8 ^ i % 8
def pt (s i v : Nat) : Nat := s - sl s i * 8 ^ i + v * 8 ^ i
theorem p8 (i : Nat) : 2 ^ (3 * i) = 8 ^ i := by rw [Nat.pow_mul]
theorem sl_lt (s i : Nat) : sl s i < 8 := Nat.mod_lt _ (by decide)
theorem sl_run {s i : Nat} (h : s < 2 ^ 31) (hi : i < 8) : (nI s >>> (nI (3 * i) &&& 31)) &&& nI 7 = nI (sl s i) := by
  have h2 : s / 2 ^ (3 * i) < 2 ^ 32 := Nat.lt_of_le_of_lt (Nat.div_le_self _ _) (by omega)
  rw [nb_shr h (by omega), nb_lo 3 h2 (by rfl) (by decide), p8]
  rfl
theorem pt_bits (k h m l v : Nat) (hk : k < 28) (hl : l < 2 ^ k) (hm : m < 8) (hv : v < 8) (hh : 2 ^ (k + 3) * h + (2 ^ k * m + l) < 2 ^ 32) :
    ((2 ^ (k + 3) * h + (2 ^ k * m + l)) &&& (4294967295 ^^^ (7 * 2 ^ k))) ||| (v * 2 ^ k) = 2 ^ (k + 3) * h + (2 ^ k * v + l) := by
  have e3 : (2 : Nat) ^ (k + 3) = 2 ^ k * 8 := by rw [Nat.pow_add]
  have hl3 : ∀ x, x < 8 → 2 ^ k * x + l < 2 ^ (k + 3) := fun x hx => by
    rw [e3]
    have : 2 ^ k * x + 2 ^ k ≤ 2 ^ k * 8 := by
      have := Nat.mul_le_mul_left (2 ^ k) (show x + 1 ≤ 8 by omega)
      rw [Nat.mul_add] at this
      omega
    omega
  apply Nat.eq_of_testBit_eq
  intro j
  have hb : (2 ^ (k + 3) * h + (2 ^ k * m + l)).testBit j = true → j < 32 := fun ht => by
    rcases Nat.lt_or_ge j 32 with q | q
    · exact q
    · rw [Nat.testBit_lt_two_pow (Nat.lt_of_lt_of_le hh (Nat.pow_le_pow_right (by decide) q))] at ht
      cases ht
  have h7 : (7 * 2 ^ k).testBit j = (decide (k ≤ j) && (7 : Nat).testBit (j - k)) := by rw [Nat.mul_comm]; exact Nat.testBit_two_pow_mul
  have hv2 : (v * 2 ^ k).testBit j = (decide (k ≤ j) && v.testBit (j - k)) := by rw [Nat.mul_comm]; exact Nat.testBit_two_pow_mul
  have hff : (4294967295 : Nat).testBit j = decide (j < 32) := Nat.testBit_two_pow_sub_one 32 j
  have a1 : (2 ^ (k + 3) * h + (2 ^ k * m + l)).testBit j = if j < k + 3 then (2 ^ k * m + l).testBit j else h.testBit (j - (k + 3)) := Nat.testBit_two_pow_mul_add h (hl3 m hm) j
  have a2 : (2 ^ (k + 3) * h + (2 ^ k * v + l)).testBit j = if j < k + 3 then (2 ^ k * v + l).testBit j else h.testBit (j - (k + 3)) := Nat.testBit_two_pow_mul_add h (hl3 v hv) j
  have a3 : (2 ^ k * m + l).testBit j = if j < k then l.testBit j else m.testBit (j - k) := Nat.testBit_two_pow_mul_add m hl j
  have a4 : (2 ^ k * v + l).testBit j = if j < k then l.testBit j else v.testBit (j - k) := Nat.testBit_two_pow_mul_add v hl j
  rw [Nat.testBit_or, Nat.testBit_and, Nat.testBit_xor, h7, hv2, hff, a2]
  by_cases j1 : j < k
  · have n1 : ¬ k ≤ j := by omega
    have n2 : j < k + 3 := by omega
    have n3 : j < 32 := by omega
    rw [a1, a3, a4]
    simp [n1, n2, n3, j1]
  · by_cases j2 : j < k + 3
    · have n1 : k ≤ j := by omega
      have n3 : j < 32 := by omega
      have n4 : (7 : Nat).testBit (j - k) = true := by
        have : j - k = 0 ∨ j - k = 1 ∨ j - k = 2 := by omega
        rcases this with e | e | e <;> rw [e] <;> rfl
      rw [a4]
      simp [n1, n3, n4, j1, j2]
    · have n1 : k ≤ j := by omega
      have s1 : ∀ x, x < 8 → x.testBit (j - k) = false := fun x hx => Nat.testBit_lt_two_pow (Nat.lt_of_lt_of_le hx (show (8 : Nat) ≤ 2 ^ (j - k) from Nat.pow_le_pow_right (n := 2) (by decide) (show 3 ≤ j - k by omega)))
      have s2 := s1 7 (by decide)
      have s3 := s1 v hv
      rw [s2, s3]
      have := hb
      rw [a1] at this ⊢
      simp only [j2, if_false] at this ⊢
      cases hh2 : h.testBit (j - (k + 3)) with
      | false => simp
      | true => simp [this hh2]
theorem pt_split (s i v : Nat) : ∃ h l, l < 2 ^ (3 * i) ∧ s = 2 ^ (3 * i + 3) * h + (2 ^ (3 * i) * sl s i + l) ∧ pt s i v = 2 ^ (3 * i + 3) * h + (2 ^ (3 * i) * v + l) := by
  have hp : 0 < 2 ^ (3 * i) := Nat.pow_pos (by decide)
  refine ⟨s / 2 ^ (3 * i) / 8, s % 2 ^ (3 * i), Nat.mod_lt _ hp, ?_, ?_⟩
  · have h1 := Nat.div_add_mod s (2 ^ (3 * i))
    have h2 := Nat.div_add_mod (s / 2 ^ (3 * i)) 8
    have e : sl s i = s / 2 ^ (3 * i) % 8 := by rw [sl, p8]
    rw [Nat.pow_add, e]
    generalize s / 2 ^ (3 * i) = d at *
    have : 2 ^ (3 * i) * (8 * (d / 8) + d % 8) = 2 ^ (3 * i) * d := by rw [h2]
    rw [Nat.mul_add, ← Nat.mul_assoc] at this
    show s = 2 ^ (3 * i) * 8 * (d / 8) + _
    omega
  · have h1 := Nat.div_add_mod s (2 ^ (3 * i))
    have h2 := Nat.div_add_mod (s / 2 ^ (3 * i)) 8
    have e : sl s i = s / 2 ^ (3 * i) % 8 := by rw [sl, p8]
    rw [pt, Nat.pow_add, e, ← p8]
    generalize s / 2 ^ (3 * i) = d at *
    generalize hP : 2 ^ (3 * i) = Q at *
    have : Q * (8 * (d / 8) + d % 8) = Q * d := by rw [h2]
    rw [Nat.mul_add, ← Nat.mul_assoc] at this
    have c1 : d % 8 * Q = Q * (d % 8) := Nat.mul_comm _ _
    have c2 : v * Q = Q * v := Nat.mul_comm _ _
    rw [c1, c2]
    show s - Q * (d % 8) + Q * v = Q * 8 * (d / 8) + _
    omega
theorem pt_run {s i v : Nat} (h : s < 2 ^ 31) (hi : i < 8) (hv : v < 8) : ((nI s &&& ((nI 7 <<< (nI (3 * i) &&& 31)) ^^^ (-1))) ||| (nI v <<< (nI (3 * i) &&& 31))) = nI (pt s i v) := by
  have hp : 2 ^ (3 * i) ≤ 2 ^ 21 := Nat.pow_le_pow_right (by decide) (by omega)
  obtain ⟨a, l, hl, e1, e2⟩ := pt_split s i v
  rw [nb_shl (by omega) (by omega), nb_shl (by have := Nat.mul_le_mul (show v ≤ 7 by omega) hp; omega) (by omega), nb_m1, nb_xor, nb_and, nb_or, e2, Nat.xor_comm]
  congr 1
  have := pt_bits (3 * i) a (sl s i) l v (by omega) hl (sl_lt s i) hv (by rw [← e1]; omega)
  rw [← this, ← e1]
theorem sl_pt {s i v j : Nat} (hv : v < 8) (hi : i < 8) (hj : j < 8) : sl (pt s i v) j = if j = i then v else sl s j := by
  have hi2 : i = 0 ∨ i = 1 ∨ i = 2 ∨ i = 3 ∨ i = 4 ∨ i = 5 ∨ i = 6 ∨ i = 7 := by omega
  have hj2 : j = 0 ∨ j = 1 ∨ j = 2 ∨ j = 3 ∨ j = 4 ∨ j = 5 ∨ j = 6 ∨ j = 7 := by omega
  have hs : sl s i < 8 := sl_lt s i
  clear hi hj
  rcases hi2 with rfl | rfl | rfl | rfl | rfl | rfl | rfl | rfl <;> rcases hj2 with rfl | rfl | rfl | rfl | rfl | rfl | rfl | rfl <;> simp only [sl, pt] at * <;> (first | rw [if_pos rfl] | rw [if_pos trivial] | rw [if_neg (by decide)]) <;> omega
theorem pt_lt {s i v : Nat} (h : s < 8 ^ 8) (hi : i < 8) (hv : v < 8) : pt s i v < 8 ^ 8 := by
  have : i = 0 ∨ i = 1 ∨ i = 2 ∨ i = 3 ∨ i = 4 ∨ i = 5 ∨ i = 6 ∨ i = 7 := by omega
  rcases this with rfl | rfl | rfl | rfl | rfl | rfl | rfl | rfl <;> simp only [sl, pt] at * <;> omega
end
section
theorem upd_nI (f : Nat → Nat) (i x : Nat) : upd (fun j => nI (f j)) i (nI x) = fun j => nI (va_up f i x j) := by funext j; simp only [upd, va_up]; split <;> rfl
theorem upd_bI (f : Nat → Bool) (i : Nat) (x : Bool) : upd (fun j => bI (f j)) i (vp_nar .boolean (bI x)) = fun j => bI (va_up f i x j) := by
  funext j; simp only [upd, va_up]; split <;> first | rfl | (cases x <;> rfl)
theorem upd_eI (f : Nat → Nat) (i x : Nat) : upd (fun j => eI (f j)) i (eI x) = fun j => eI (va_up f i x j) := by funext j; simp only [upd, va_up]; split <;> rfl
def oI (x : Option Nat) : Int32 := match x with | none => -1 | some s => nI s
theorem upd_oI (f : Nat → Option Nat) (i : Nat) (x : Option Nat) : upd (fun j => oI (f j)) i (oI x) = fun j => oI (va_up f i x j) := by funext j; simp only [upd, va_up]; split <;> rfl
section JS
variable {k : VK} {l : Launch} {D : va_G} {tys : List (ClassId × FieldType)} {R : Room} {cc : ByteArray} {nL : Nat} {own : String} {w : va_W} {cells slots pc : Nat} {lv : List (Nat × Value)} {rest : List Value}
theorem jn_iastN {a n : Nat} {cA : ClassId} {f : Nat → Nat} {i : Nat} {x : Nat} (w' : va_W) (q0 t0 : Nat) (ha : w[q0]? = some (a, .inl (cA, n, .inl (fun j => nI (f j))))) (ht : tys[t0]? = some (cA, .int)) (hi : i < n) (hn : n < 2 ^ 31) (hw : w.set q0 (a, .inl (cA, n, .inl (fun j => nI (va_up f i x j)))) = w') (hdg : decode cc pc = .ok (.iastore, 1)) (kk : V k l D tys R cc nL own w' cells slots (pc + 1) lv (rest)) : V k l D tys R cc nL own w cells slots (pc) lv (.int (nI x) :: .int (nI i) :: .ref a :: rest) :=
  jn_iast w' q0 t0 ha ht hi hn (by rw [upd_nI]; exact hw) hdg kk
theorem jn_iastE {a n : Nat} {cA : ClassId} {f : Nat → Nat} {i : Nat} {x : Nat} (w' : va_W) (q0 t0 : Nat) (ha : w[q0]? = some (a, .inl (cA, n, .inl (fun j => eI (f j))))) (ht : tys[t0]? = some (cA, .int)) (hi : i < n) (hn : n < 2 ^ 31) (hw : w.set q0 (a, .inl (cA, n, .inl (fun j => eI (va_up f i x j)))) = w') (hdg : decode cc pc = .ok (.iastore, 1)) (kk : V k l D tys R cc nL own w' cells slots (pc + 1) lv (rest)) : V k l D tys R cc nL own w cells slots (pc) lv (.int (eI x) :: .int (nI i) :: .ref a :: rest) :=
  jn_iast w' q0 t0 ha ht hi hn (by rw [upd_eI]; exact hw) hdg kk
theorem jn_iastO {a n : Nat} {cA : ClassId} {f : Nat → Option Nat} {i : Nat} {x : Option Nat} (w' : va_W) (q0 t0 : Nat) (ha : w[q0]? = some (a, .inl (cA, n, .inl (fun j => oI (f j))))) (ht : tys[t0]? = some (cA, .int)) (hi : i < n) (hn : n < 2 ^ 31) (hw : w.set q0 (a, .inl (cA, n, .inl (fun j => oI (va_up f i x j)))) = w') (hdg : decode cc pc = .ok (.iastore, 1)) (kk : V k l D tys R cc nL own w' cells slots (pc + 1) lv (rest)) : V k l D tys R cc nL own w cells slots (pc) lv (.int (oI x) :: .int (nI i) :: .ref a :: rest) :=
  jn_iast w' q0 t0 ha ht hi hn (by rw [upd_oI]; exact hw) hdg kk
theorem jn_zastB {a n : Nat} {cA : ClassId} {f : Nat → Bool} {i : Nat} {x : Bool} (w' : va_W) (q0 t0 : Nat) (ha : w[q0]? = some (a, .inl (cA, n, .inl (fun j => bI (f j))))) (ht : tys[t0]? = some (cA, .boolean)) (hi : i < n) (hn : n < 2 ^ 31) (hw : w.set q0 (a, .inl (cA, n, .inl (fun j => bI (va_up f i x j)))) = w') (hdg : decode cc pc = .ok (.bastore, 1)) (kk : V k l D tys R cc nL own w' cells slots (pc + 1) lv (rest)) : V k l D tys R cc nL own w cells slots (pc) lv (.int (bI x) :: .int (nI i) :: .ref a :: rest) :=
  jn_zast w' q0 t0 ha ht hi hn (by rw [upd_bI]; exact hw) hdg kk
end JS
/-! the class's pure words: the tables of the grid, states, and one edge further -/
def nE (R C : Nat) : Nat := (R + 1) * C + R * (C + 1)
def tRow (R C e : Nat) : Nat := if e < R * (2 * C + 1) then e / (2 * C + 1) else R
def tCol (R C e : Nat) : Nat := if e < R * (2 * C + 1) then e % (2 * C + 1) / 2 else e - R * (2 * C + 1)
def tDown (R C e : Nat) : Bool := decide (e < R * (2 * C + 1)) && (e % (2 * C + 1) == 2 * C || e % (2 * C + 1) % 2 == 1)
def pe (e a : Nat) : Bool := !(e == a) && !(e == 7)
def downF (s a : Nat) (t : Bool) : Option Nat := if pe (sl s a) a = t then some (if t then s else pt s a a) else none
def joinedF (s a : Nat) : Option Nat :=
  if sl s a = 7 then none else if sl s 7 = 1 then none else
  if sl s a = a + 1 then
    (if pe (sl (pt (pt s a 7) (a + 1) 7) 0) 0 then none else if pe (sl (pt (pt s a 7) (a + 1) 7) 1) 1 then none else if pe (sl (pt (pt s a 7) (a + 1) 7) 2) 2 then none else if pe (sl (pt (pt s a 7) (a + 1) 7) 3) 3 then none else some (pt (pt (pt s a 7) (a + 1) 7) 7 1))
  else some (pt (pt (pt (pt s a 7) (a + 1) 7) (sl s a) (sl s (a + 1))) (sl s (a + 1)) (sl s a))
def endedF (x : Option Nat) (a : Nat) : Option Nat := match x with | none => none | some s => if pe (sl s a) a then none else some (pt s a a)
theorem bI_inj {x y : Bool} (h : bI x = bI y) : x = y := by cases x <;> cases y <;> first | rfl | exact absurd h (by decide)
theorem nI_m1 {s : Nat} (h : s < 2 ^ 31) : ¬ nI s = -1 := fun e => by
  have := congrArg Int32.toInt e
  rw [nI_toInt h] at this
  exact absurd this (by show ¬ ((s : Int) = (-1 : Int32).toInt); rw [show (-1 : Int32).toInt = -1 by decide]; omega)
theorem oI_m1 {x : Option Nat} (h : ∀ s, x = some s → s < 2 ^ 31) : oI x = -1 ↔ x = none := by
  cases x with
  | none => exact ⟨fun _ => rfl, fun _ => rfl⟩
  | some s => exact ⟨fun e => absurd e (nI_m1 (h s rfl)), fun e => nomatch e⟩
theorem slN {s i : Nat} : sl s i < 2 ^ 31 := Nat.lt_trans (sl_lt s i) (by decide)
theorem pt31 {s i v : Nat} (h : s < 8 ^ 8) (hi : i < 8) (hv : v < 8) : pt s i v < 2 ^ 31 := Nat.lt_of_lt_of_le (pt_lt h hi hv) (by decide)

set_option maxHeartbeats 4000000 in
set_option maxRecDepth 100000 in
theorem c_slot (l : Launch) (hfl : l.flags = flags0) (D : va_G) (tys : List (ClassId × FieldType)) (s i : Nat) (hs : s < 2 ^ 31) (hi : i < 8) : Ct l yX1_slot cX1_slot 2 (Option.some FieldType.int) ({ frames := 0, cells := 0, slots := 0, locals := 0 } : Room) D tys tys ([]) [.int (nI (s)), .int (nI (i))] (fun r u => r = some (.int (nI (sl s i))) ∧ u = []) 0 0 := by
  refine Ct.of hfl (by decide) (Nat.le_of_ble_eq_true rfl) ?_
  intro k hR _
  show V k l D tys ({ frames := 0, cells := 0, slots := 0, locals := 0 } : Room) cX1_slot 2 RX1 ([]) 0 0 0 [(0, .int (nI (s))), (1, .int (nI (i)))] []
  refine j_iload_n dX1_slot_0 rfl 0 rfl ?_
  refine j_iconst (v := nI (3)) dX1_slot_1 (by decide) ?_
  refine j_iload_n dX1_slot_2 rfl 1 rfl ?_
  refine jn_imul (v := 3 * i) dX1_slot_3 rfl ?_
  refine j_ishr dX1_slot_4 rfl ?_
  refine j_bipush (v := nI (7)) dX1_slot_5 (by decide) ?_
  refine j_iand dX1_slot_7 rfl ?_
  refine j_topi (y := nI (sl s i)) (sl_run hs hi) ?_
  exact j_iret (tys' := []) rfl hR dX1_slot_8 (⟨rfl, rfl⟩)

set_option maxHeartbeats 4000000 in
set_option maxRecDepth 100000 in
theorem c_put (l : Launch) (hfl : l.flags = flags0) (D : va_G) (tys : List (ClassId × FieldType)) (s i v : Nat) (hs : s < 2 ^ 31) (hi : i < 8) (hv : v < 8) : Ct l yX1_put cX1_put 3 (Option.some FieldType.int) ({ frames := 0, cells := 0, slots := 0, locals := 0 } : Room) D tys tys ([]) [.int (nI (s)), .int (nI (i)), .int (nI (v))] (fun r u => r = some (.int (nI (pt s i v))) ∧ u = []) 0 0 := by
  refine Ct.of hfl (by decide) (Nat.le_of_ble_eq_true rfl) ?_
  intro k hR _
  show V k l D tys ({ frames := 0, cells := 0, slots := 0, locals := 0 } : Room) cX1_put 3 RX1 ([]) 0 0 0 [(0, .int (nI (s))), (1, .int (nI (i))), (2, .int (nI (v)))] []
  refine j_iload_n dX1_put_0 rfl 0 rfl ?_
  refine j_bipush (v := nI (7)) dX1_put_1 (by decide) ?_
  refine j_iconst (v := nI (3)) dX1_put_3 (by decide) ?_
  refine j_iload_n dX1_put_4 rfl 1 rfl ?_
  refine jn_imul (v := 3 * i) dX1_put_5 rfl ?_
  refine j_ishl dX1_put_6 rfl ?_
  refine j_iconst (v := (-1)) dX1_put_7 (by decide) ?_
  refine j_ixor dX1_put_8 rfl ?_
  refine j_iand dX1_put_9 rfl ?_
  refine j_iload_n dX1_put_10 rfl 2 rfl ?_
  refine j_iconst (v := nI (3)) dX1_put_11 (by decide) ?_
  refine j_iload_n dX1_put_12 rfl 1 rfl ?_
  refine jn_imul (v := 3 * i) dX1_put_13 rfl ?_
  refine j_ishl dX1_put_14 rfl ?_
  refine j_ior dX1_put_15 rfl ?_
  refine j_topi (y := nI (pt s i v)) (pt_run hs hi hv) ?_
  exact j_iret (tys' := []) rfl hR dX1_put_16 (⟨rfl, rfl⟩)

set_option maxHeartbeats 4000000 in
set_option maxRecDepth 100000 in
theorem c_isPathEnd (l : Launch) (hfl : l.flags = flags0) (D : va_G) (tys : List (ClassId × FieldType)) (e a : Nat) (he : e < 2 ^ 31) (ha : a < 2 ^ 31) : Ct l yX1_isPathEnd cX1_isPathEnd 2 (Option.some FieldType.boolean) ({ frames := 0, cells := 0, slots := 0, locals := 0 } : Room) D tys tys ([]) [.int (nI (e)), .int (nI (a))] (fun r u => r = some (.int (bI ((pe e a)))) ∧ u = []) 0 0 := by
  refine Ct.of hfl (by decide) (Nat.le_of_ble_eq_true rfl) ?_
  intro k hR _
  show V k l D tys ({ frames := 0, cells := 0, slots := 0, locals := 0 } : Room) cX1_isPathEnd 2 RX1 ([]) 0 0 0 [(0, .int (nI (e))), (1, .int (nI (a)))] []
  refine j_iload_n dX1_isPathEnd_0 rfl 0 rfl ?_
  refine j_iload_n dX1_isPathEnd_1 rfl 1 rfl ?_
  refine jn_icmp_eq (tgt := 15) (a := e) (b := a) (by omega) (by omega) dX1_isPathEnd_2 (by decide) (fun c2 => ?_) (fun c2 => ?_)
  · refine j_iconst (v := nI (0)) dX1_isPathEnd_15 (by decide) ?_
    refine j_st (st' := [.int (bI (false))]) (by rfl) ?_
    exact j_zretB (tys' := []) rfl hR dX1_isPathEnd_16 (⟨by have : pe e a = false := (by simp [pe, *]); rw [this], rfl⟩)
  · refine j_iload_n dX1_isPathEnd_5 rfl 0 rfl ?_
    refine j_bipush (v := nI (7)) dX1_isPathEnd_6 (by decide) ?_
    refine jn_icmp_eq (tgt := 15) (a := e) (b := 7) (by omega) (by omega) dX1_isPathEnd_8 (by decide) (fun c8 => ?_) (fun c8 => ?_)
    · refine j_iconst (v := nI (0)) dX1_isPathEnd_15 (by decide) ?_
      refine j_st (st' := [.int (bI (false))]) (by rfl) ?_
      exact j_zretB (tys' := []) rfl hR dX1_isPathEnd_16 (⟨by have : pe e a = false := (by simp [pe, *]); rw [this], rfl⟩)
    · refine j_iconst (v := nI (1)) dX1_isPathEnd_11 (by decide) ?_
      refine j_goto (tgt := 16) dX1_isPathEnd_12 (by decide) ?_
      refine j_st (st' := [.int (bI (true))]) (by rfl) ?_
      exact j_zretB (tys' := []) rfl hR dX1_isPathEnd_16 (⟨by have : pe e a = true := (by simp [pe, *]); rw [this], rfl⟩)

set_option maxHeartbeats 4000000 in
set_option maxRecDepth 100000 in
theorem c_hasBit (l : Launch) (hfl : l.flags = flags0) (D : va_G) (tys : List (ClassId × FieldType)) (s e : Nat) (hs : s < 2 ^ 31) (he : e < 32) : Ct l yX2_hasBit cX2_hasBit 2 (Option.some FieldType.boolean) ({ frames := 0, cells := 0, slots := 0, locals := 0 } : Room) D tys tys ([]) [.int (nI (s)), .int (nI (e))] (fun r u => r = some (.int (bI ((s.testBit e)))) ∧ u = []) 0 0 := by
  refine Ct.of hfl (by decide) (Nat.le_of_ble_eq_true rfl) ?_
  intro k hR _
  show V k l D tys ({ frames := 0, cells := 0, slots := 0, locals := 0 } : Room) cX2_hasBit 2 RX2 ([]) 0 0 0 [(0, .int (nI (s))), (1, .int (nI (e)))] []
  refine j_iload_n dX2_hasBit_0 rfl 0 rfl ?_
  refine j_iload_n dX2_hasBit_1 rfl 1 rfl ?_
  refine j_ishr dX2_hasBit_2 rfl ?_
  refine j_iconst (v := nI (1)) dX2_hasBit_3 (by decide) ?_
  refine j_iand dX2_hasBit_4 rfl ?_
  refine j_topi (y := nI (if s.testBit e then 1 else 0)) (nb_bit hs he) ?_
  refine j_iconst (v := nI (1)) dX2_hasBit_5 (by decide) ?_
  refine jn_icmp_ne (tgt := 13) (a := if s.testBit e then 1 else 0) (b := 1) (by split <;> omega) (by omega) dX2_hasBit_6 (by decide) (fun c6 => ?_) (fun c6 => ?_)
  · refine j_iconst (v := nI (0)) dX2_hasBit_13 (by decide) ?_
    refine j_st (st' := [.int (bI (false))]) (by rfl) ?_
    exact j_zretB (tys' := []) rfl hR dX2_hasBit_14 (⟨by have : s.testBit e = false := (by revert c6; cases s.testBit e <;> simp); rw [this], rfl⟩)
  · refine j_iconst (v := nI (1)) dX2_hasBit_9 (by decide) ?_
    refine j_goto (tgt := 14) dX2_hasBit_10 (by decide) ?_
    refine j_st (st' := [.int (bI (true))]) (by rfl) ?_
    exact j_zretB (tys' := []) rfl hR dX2_hasBit_14 (⟨by have : s.testBit e = true := (by revert c6; cases s.testBit e <;> simp); rw [this], rfl⟩)

theorem eI_99 : eI 99 = -1 := by unfold eI; exact if_pos rfl
theorem eI_ne {x : Nat} (h : x ≠ 99) : eI x = nI x := if_neg h
theorem eI_m1 {x : Nat} (hx : x < 2 ^ 31) : eI x = -1 ↔ x = 99 := by
  by_cases h : x = 99
  · rw [h, eI_99]; exact ⟨fun _ => rfl, fun _ => rfl⟩
  · rw [eI_ne h]; exact ⟨fun e => absurd e (nI_m1 hx), fun e => absurd e h⟩
theorem bI_ne {x y : Bool} (h : ¬ bI x = bI y) : x ≠ y := fun e => h (by rw [e])
theorem bI_x {x : Bool} : narrow .boolean (.int (bI x)) = .int (bI x) := nar_bI x
set_option maxHeartbeats 4000000 in
set_option maxRecDepth 100000 in
theorem c_down (l : Launch) (hfl : l.flags = flags0) (D : va_G) (tys : List (ClassId × FieldType)) (s a : Nat) (t : Bool) (hs : s < 8 ^ 8) (ha : a < 4) : Ct l yX1_downAfter cX1_downAfter 3 (Option.some FieldType.int) ({ frames := 1, cells := 0, slots := 0, locals := 22 } : Room) D tys tys ([]) [.int (nI (s)), .int (nI (a)), .int (bI (t))] (fun r u => r = some (.int (oI (downF s a t))) ∧ u = []) 0 0 := by
  refine Ct.of hfl (by decide) (Nat.le_of_ble_eq_true rfl) ?_
  intro k hR _
  show V k l D tys ({ frames := 1, cells := 0, slots := 0, locals := 22 } : Room) cX1_downAfter 3 RX1 ([]) 0 0 0 [(0, .int (nI (s))), (1, .int (nI (a))), (2, .int (bI (t)))] []
  refine j_iload_n dX1_downAfter_0 rfl 0 rfl ?_
  refine j_iload_n dX1_downAfter_1 rfl 1 rfl ?_
  refine j_s0 (av := [.int (nI (s)), .int (nI (a))]) (r0 := .int (nI (sl s a))) (c_slot l hfl D tys (s) (a) (by repeat first | assumption | omega | exact sl_lt _ _ | exact slN | apply pt31 | apply pt_lt) (by repeat first | assumption | omega | exact sl_lt _ _ | exact slN | apply pt31 | apply pt_lt)) mw1_133 mw1_134 mw1_2 mw1_135 hd_X1_slot rfl ⟨rfl, rfl⟩ ⟨Nat.le_of_ble_eq_true rfl, Nat.le_of_ble_eq_true rfl⟩ ⟨Nat.zero_le _, Nat.zero_le _⟩ (Nat.le_of_ble_eq_true rfl) rfl dX1_downAfter_2 ?_
  refine j_iload_n dX1_downAfter_5 rfl 1 rfl ?_
  refine j_s0 (av := [.int (nI (sl s a)), .int (nI (a))]) (r0 := .int (bI ((pe (sl s a) a)))) (c_isPathEnd l hfl D tys (sl s a) (a) (by repeat first | assumption | omega | exact sl_lt _ _ | exact slN | apply pt31 | apply pt_lt) (by repeat first | assumption | omega | exact sl_lt _ _ | exact slN | apply pt31 | apply pt_lt)) mw1_136 mw1_137 mw1_2 mw1_138 hd_X1_isPathEnd rfl ⟨rfl, rfl⟩ ⟨Nat.le_of_ble_eq_true rfl, Nat.le_of_ble_eq_true rfl⟩ ⟨Nat.zero_le _, Nat.zero_le _⟩ (Nat.le_of_ble_eq_true rfl) rfl dX1_downAfter_6 ?_
  refine j_iload_n dX1_downAfter_9 rfl 2 rfl ?_
  refine j_icmp_eq (tgt := 15) dX1_downAfter_10 (by decide) (fun c10 => ?_) (fun c10 => ?_)
  · have e10 := bI_inj c10
    refine j_iload_n dX1_downAfter_15 rfl 2 rfl ?_
    refine jb_if_eq (tgt := 23) (b := t) dX1_downAfter_16 (by decide) (fun c16 => ?_) (fun c16 => ?_)
    · refine j_iload_n dX1_downAfter_23 rfl 0 rfl ?_
      refine j_iload_n dX1_downAfter_24 rfl 1 rfl ?_
      refine j_iload_n dX1_downAfter_25 rfl 1 rfl ?_
      refine j_s0 (av := [.int (nI (s)), .int (nI (a)), .int (nI (a))]) (r0 := .int (nI (pt s a a))) (c_put l hfl D tys (s) (a) (a) (by repeat first | assumption | omega | exact sl_lt _ _ | exact slN | apply pt31 | apply pt_lt) (by repeat first | assumption | omega | exact sl_lt _ _ | exact slN | apply pt31 | apply pt_lt) (by repeat first | assumption | omega | exact sl_lt _ _ | exact slN | apply pt31 | apply pt_lt)) mw1_139 mw1_140 mw1_2 mw1_141 hd_X1_put rfl ⟨rfl, rfl⟩ ⟨Nat.le_of_ble_eq_true rfl, Nat.le_of_ble_eq_true rfl⟩ ⟨Nat.zero_le _, Nat.zero_le _⟩ (Nat.le_of_ble_eq_true rfl) rfl dX1_downAfter_26 ?_
      exact j_iret (tys' := []) rfl hR dX1_downAfter_29 (⟨by rw [show downF s a t = (some (pt s a a)) from by simp [downF, *]]; rfl, rfl⟩)
    · refine j_iload_n dX1_downAfter_19 rfl 0 rfl ?_
      refine j_goto (tgt := 29) dX1_downAfter_20 (by decide) ?_
      exact j_iret (tys' := []) rfl hR dX1_downAfter_29 (⟨by rw [show downF s a t = (some s) from by simp [downF, *]]; rfl, rfl⟩)
  · have e10 := bI_ne c10
    refine j_iconst (v := (-1)) dX1_downAfter_13 (by decide) ?_
    exact j_iret (tys' := []) rfl hR dX1_downAfter_14 (⟨by rw [show downF s a t = none from by simp [downF, *]]; rfl, rfl⟩)

set_option maxHeartbeats 4000000 in
set_option maxRecDepth 100000 in
theorem c_joined (l : Launch) (hfl : l.flags = flags0) (D : va_G) (tys : List (ClassId × FieldType)) (s a : Nat) (hs : s < 8 ^ 8) (ha : a < 3) : Ct l yX1_joined cX1_joined 7 (Option.some FieldType.int) ({ frames := 1, cells := 0, slots := 0, locals := 22 } : Room) D tys tys ([]) [.int (nI (s)), .int (nI (a))] (fun r u => r = some (.int (oI (joinedF s a))) ∧ u = []) 0 0 := by
  refine Ct.of hfl (by decide) (Nat.le_of_ble_eq_true rfl) ?_
  intro k hR _
  show V k l D tys ({ frames := 1, cells := 0, slots := 0, locals := 22 } : Room) cX1_joined 7 RX1 ([]) 0 0 0 [(0, .int (nI (s))), (1, .int (nI (a)))] []
  refine j_iload_n dX1_joined_0 rfl 1 rfl ?_
  refine j_iconst (v := nI (1)) dX1_joined_1 (by decide) ?_
  refine jn_iadd (v := a + 1) dX1_joined_2 rfl ?_
  refine j_istore_n [(2, .int (nI (a + 1))), (0, .int (nI (s))), (1, .int (nI (a)))] dX1_joined_3 rfl (by decide) rfl ?_
  refine j_iload_n dX1_joined_4 rfl 1 rfl ?_
  refine j_iload_n dX1_joined_5 rfl 2 rfl ?_
  refine j_s0 (av := [.int (nI (s)), .int (nI (a))]) (r0 := .int (nI (sl s a))) (c_slot l hfl D tys (s) (a) (by repeat first | assumption | omega | exact sl_lt _ _ | exact slN | apply pt31 | apply pt_lt) (by repeat first | assumption | omega | exact sl_lt _ _ | exact slN | apply pt31 | apply pt_lt)) mw1_133 mw1_134 mw1_2 mw1_135 hd_X1_slot rfl ⟨rfl, rfl⟩ ⟨Nat.le_of_ble_eq_true rfl, Nat.le_of_ble_eq_true rfl⟩ ⟨Nat.zero_le _, Nat.zero_le _⟩ (Nat.le_of_ble_eq_true rfl) rfl dX1_joined_6 ?_
  refine j_istore_n [(3, .int (nI (sl s a))), (2, .int (nI (a + 1))), (0, .int (nI (s))), (1, .int (nI (a)))] dX1_joined_9 rfl (by decide) rfl ?_
  refine j_iload_n dX1_joined_10 rfl 2 rfl ?_
  refine j_iload_n dX1_joined_11 rfl 1 rfl ?_
  refine j_s0 (av := [.int (nI (s)), .int (nI (a + 1))]) (r0 := .int (nI (sl s (a + 1)))) (c_slot l hfl D tys (s) (a + 1) (by repeat first | assumption | omega | exact sl_lt _ _ | exact slN | apply pt31 | apply pt_lt) (by repeat first | assumption | omega | exact sl_lt _ _ | exact slN | apply pt31 | apply pt_lt)) mw1_133 mw1_134 mw1_2 mw1_135 hd_X1_slot rfl ⟨rfl, rfl⟩ ⟨Nat.le_of_ble_eq_true rfl, Nat.le_of_ble_eq_true rfl⟩ ⟨Nat.zero_le _, Nat.zero_le _⟩ (Nat.le_of_ble_eq_true rfl) rfl dX1_joined_12 ?_
  refine j_istore [(4, .int (nI (sl s (a + 1)))), (3, .int (nI (sl s a))), (2, .int (nI (a + 1))), (0, .int (nI (s))), (1, .int (nI (a)))] dX1_joined_15 (by decide) rfl ?_
  refine j_iload_n dX1_joined_17 rfl 1 rfl ?_
  refine j_bipush (v := nI (7)) dX1_joined_18 (by decide) ?_
  refine jn_icmp_eq (tgt := 33) (a := sl s a) (b := 7) (slN) (by omega) dX1_joined_20 (by decide) (fun c20 => ?_) (fun c20 => ?_)
  · refine j_iconst (v := (-1)) dX1_joined_33 (by decide) ?_
    exact j_iret (tys' := []) rfl hR dX1_joined_34 (⟨by rw [show joinedF s a = none from by simp [joinedF, *] <;> omega]; rfl, rfl⟩)
  · refine j_iload_n dX1_joined_23 rfl 3 rfl ?_
    refine j_bipush (v := nI (7)) dX1_joined_24 (by decide) ?_
    refine j_s0 (av := [.int (nI (s)), .int (nI (7))]) (r0 := .int (nI (sl s 7))) (c_slot l hfl D tys (s) (7) (by repeat first | assumption | omega | exact sl_lt _ _ | exact slN | apply pt31 | apply pt_lt) (by repeat first | assumption | omega | exact sl_lt _ _ | exact slN | apply pt31 | apply pt_lt)) mw1_133 mw1_134 mw1_2 mw1_135 hd_X1_slot rfl ⟨rfl, rfl⟩ ⟨Nat.le_of_ble_eq_true rfl, Nat.le_of_ble_eq_true rfl⟩ ⟨Nat.zero_le _, Nat.zero_le _⟩ (Nat.le_of_ble_eq_true rfl) rfl dX1_joined_26 ?_
    refine j_iconst (v := nI (1)) dX1_joined_29 (by decide) ?_
    refine jn_icmp_ne (tgt := 35) (a := sl s 7) (b := 1) (slN) (by omega) dX1_joined_30 (by decide) (fun c30 => ?_) (fun c30 => ?_)
    · refine j_iload_n dX1_joined_35 rfl 3 rfl ?_
      refine j_iload_n dX1_joined_36 rfl 4 rfl ?_
      refine j_bipush (v := nI (7)) dX1_joined_37 (by decide) ?_
      refine j_s0 (av := [.int (nI (s)), .int (nI (a)), .int (nI (7))]) (r0 := .int (nI (pt s a 7))) (c_put l hfl D tys (s) (a) (7) (by repeat first | assumption | omega | exact sl_lt _ _ | exact slN | apply pt31 | apply pt_lt) (by repeat first | assumption | omega | exact sl_lt _ _ | exact slN | apply pt31 | apply pt_lt) (by repeat first | assumption | omega | exact sl_lt _ _ | exact slN | apply pt31 | apply pt_lt)) mw1_139 mw1_140 mw1_2 mw1_141 hd_X1_put rfl ⟨rfl, rfl⟩ ⟨Nat.le_of_ble_eq_true rfl, Nat.le_of_ble_eq_true rfl⟩ ⟨Nat.zero_le _, Nat.zero_le _⟩ (Nat.le_of_ble_eq_true rfl) rfl dX1_joined_39 ?_
      refine j_iload_n dX1_joined_42 rfl 2 rfl ?_
      refine j_bipush (v := nI (7)) dX1_joined_43 (by decide) ?_
      refine j_s0 (av := [.int (nI (pt s a 7)), .int (nI (a + 1)), .int (nI (7))]) (r0 := .int (nI (pt (pt s a 7) (a + 1) 7))) (c_put l hfl D tys (pt s a 7) (a + 1) (7) (by repeat first | assumption | omega | exact sl_lt _ _ | exact slN | apply pt31 | apply pt_lt) (by repeat first | assumption | omega | exact sl_lt _ _ | exact slN | apply pt31 | apply pt_lt) (by repeat first | assumption | omega | exact sl_lt _ _ | exact slN | apply pt31 | apply pt_lt)) mw1_139 mw1_140 mw1_2 mw1_141 hd_X1_put rfl ⟨rfl, rfl⟩ ⟨Nat.le_of_ble_eq_true rfl, Nat.le_of_ble_eq_true rfl⟩ ⟨Nat.zero_le _, Nat.zero_le _⟩ (Nat.le_of_ble_eq_true rfl) rfl dX1_joined_45 ?_
      refine j_istore [(5, .int (nI (pt (pt s a 7) (a + 1) 7))), (4, .int (nI (sl s (a + 1)))), (3, .int (nI (sl s a))), (2, .int (nI (a + 1))), (0, .int (nI (s))), (1, .int (nI (a)))] dX1_joined_48 (by decide) rfl ?_
      refine j_iload_n dX1_joined_50 rfl 2 rfl ?_
      refine j_iload_n dX1_joined_51 rfl 3 rfl ?_
      refine jn_icmp_eq (tgt := 70) (a := sl s a) (b := a + 1) (slN) (by omega) dX1_joined_52 (by decide) (fun c52 => ?_) (fun c52 => ?_)
      · refine j_iconst (v := nI (0)) dX1_joined_70 (by decide) ?_
        refine j_istore [(6, .int (nI (0))), (5, .int (nI (pt (pt s a 7) (a + 1) 7))), (4, .int (nI (sl s (a + 1)))), (3, .int (nI (sl s a))), (2, .int (nI (a + 1))), (0, .int (nI (s))), (1, .int (nI (a)))] dX1_joined_71 (by decide) rfl ?_
        refine j_iload dX1_joined_73 0 rfl ?_
        refine j_iconst (v := nI (4)) dX1_joined_75 (by decide) ?_
        refine jn_icmp_ge (tgt := 102) (a := 0) (b := 4) (by omega) (by omega) dX1_joined_76 (by decide) (fun c76 => ?_) (fun c76 => ?_)
        · exact absurd c76 (by first | decide | omega)
        · refine j_iload dX1_joined_79 1 rfl ?_
          refine j_iload dX1_joined_81 0 rfl ?_
          refine j_s0 (av := [.int (nI (pt (pt s a 7) (a + 1) 7)), .int (nI (0))]) (r0 := .int (nI (sl (pt (pt s a 7) (a + 1) 7) 0))) (c_slot l hfl D tys (pt (pt s a 7) (a + 1) 7) (0) (by repeat first | assumption | omega | exact sl_lt _ _ | exact slN | apply pt31 | apply pt_lt) (by repeat first | assumption | omega | exact sl_lt _ _ | exact slN | apply pt31 | apply pt_lt)) mw1_133 mw1_134 mw1_2 mw1_135 hd_X1_slot rfl ⟨rfl, rfl⟩ ⟨Nat.le_of_ble_eq_true rfl, Nat.le_of_ble_eq_true rfl⟩ ⟨Nat.zero_le _, Nat.zero_le _⟩ (Nat.le_of_ble_eq_true rfl) rfl dX1_joined_83 ?_
          refine j_iload dX1_joined_86 0 rfl ?_
          refine j_s0 (av := [.int (nI (sl (pt (pt s a 7) (a + 1) 7) 0)), .int (nI (0))]) (r0 := .int (bI ((pe (sl (pt (pt s a 7) (a + 1) 7) 0) 0)))) (c_isPathEnd l hfl D tys (sl (pt (pt s a 7) (a + 1) 7) 0) (0) (by repeat first | assumption | omega | exact sl_lt _ _ | exact slN | apply pt31 | apply pt_lt) (by repeat first | assumption | omega | exact sl_lt _ _ | exact slN | apply pt31 | apply pt_lt)) mw1_136 mw1_137 mw1_2 mw1_138 hd_X1_isPathEnd rfl ⟨rfl, rfl⟩ ⟨Nat.le_of_ble_eq_true rfl, Nat.le_of_ble_eq_true rfl⟩ ⟨Nat.zero_le _, Nat.zero_le _⟩ (Nat.le_of_ble_eq_true rfl) rfl dX1_joined_88 ?_
          refine jb_if_eq (tgt := 96) (b := (pe (sl (pt (pt s a 7) (a + 1) 7) 0) 0)) dX1_joined_91 (by decide) (fun c91 => ?_) (fun c91 => ?_)
          · refine j_iinc (n0 := 0) (v := nI (1)) [(6, .int (nI (1))), (5, .int (nI (pt (pt s a 7) (a + 1) 7))), (4, .int (nI (sl s (a + 1)))), (3, .int (nI (sl s a))), (2, .int (nI (a + 1))), (0, .int (nI (s))), (1, .int (nI (a)))] dX1_joined_96 rfl (by decide) (by decide) rfl ?_
            refine j_goto (tgt := 73) dX1_joined_99 (by decide) ?_
            refine j_iload dX1_joined_73 0 rfl ?_
            refine j_iconst (v := nI (4)) dX1_joined_75 (by decide) ?_
            refine jn_icmp_ge (tgt := 102) (a := 1) (b := 4) (by omega) (by omega) dX1_joined_76 (by decide) (fun c76 => ?_) (fun c76 => ?_)
            · exact absurd c76 (by first | decide | omega)
            · refine j_iload dX1_joined_79 1 rfl ?_
              refine j_iload dX1_joined_81 0 rfl ?_
              refine j_s0 (av := [.int (nI (pt (pt s a 7) (a + 1) 7)), .int (nI (1))]) (r0 := .int (nI (sl (pt (pt s a 7) (a + 1) 7) 1))) (c_slot l hfl D tys (pt (pt s a 7) (a + 1) 7) (1) (by repeat first | assumption | omega | exact sl_lt _ _ | exact slN | apply pt31 | apply pt_lt) (by repeat first | assumption | omega | exact sl_lt _ _ | exact slN | apply pt31 | apply pt_lt)) mw1_133 mw1_134 mw1_2 mw1_135 hd_X1_slot rfl ⟨rfl, rfl⟩ ⟨Nat.le_of_ble_eq_true rfl, Nat.le_of_ble_eq_true rfl⟩ ⟨Nat.zero_le _, Nat.zero_le _⟩ (Nat.le_of_ble_eq_true rfl) rfl dX1_joined_83 ?_
              refine j_iload dX1_joined_86 0 rfl ?_
              refine j_s0 (av := [.int (nI (sl (pt (pt s a 7) (a + 1) 7) 1)), .int (nI (1))]) (r0 := .int (bI ((pe (sl (pt (pt s a 7) (a + 1) 7) 1) 1)))) (c_isPathEnd l hfl D tys (sl (pt (pt s a 7) (a + 1) 7) 1) (1) (by repeat first | assumption | omega | exact sl_lt _ _ | exact slN | apply pt31 | apply pt_lt) (by repeat first | assumption | omega | exact sl_lt _ _ | exact slN | apply pt31 | apply pt_lt)) mw1_136 mw1_137 mw1_2 mw1_138 hd_X1_isPathEnd rfl ⟨rfl, rfl⟩ ⟨Nat.le_of_ble_eq_true rfl, Nat.le_of_ble_eq_true rfl⟩ ⟨Nat.zero_le _, Nat.zero_le _⟩ (Nat.le_of_ble_eq_true rfl) rfl dX1_joined_88 ?_
              refine jb_if_eq (tgt := 96) (b := (pe (sl (pt (pt s a 7) (a + 1) 7) 1) 1)) dX1_joined_91 (by decide) (fun c91 => ?_) (fun c91 => ?_)
              · refine j_iinc (n0 := 0) (v := nI (2)) [(6, .int (nI (2))), (5, .int (nI (pt (pt s a 7) (a + 1) 7))), (4, .int (nI (sl s (a + 1)))), (3, .int (nI (sl s a))), (2, .int (nI (a + 1))), (0, .int (nI (s))), (1, .int (nI (a)))] dX1_joined_96 rfl (by decide) (by decide) rfl ?_
                refine j_goto (tgt := 73) dX1_joined_99 (by decide) ?_
                refine j_iload dX1_joined_73 0 rfl ?_
                refine j_iconst (v := nI (4)) dX1_joined_75 (by decide) ?_
                refine jn_icmp_ge (tgt := 102) (a := 2) (b := 4) (by omega) (by omega) dX1_joined_76 (by decide) (fun c76 => ?_) (fun c76 => ?_)
                · exact absurd c76 (by first | decide | omega)
                · refine j_iload dX1_joined_79 1 rfl ?_
                  refine j_iload dX1_joined_81 0 rfl ?_
                  refine j_s0 (av := [.int (nI (pt (pt s a 7) (a + 1) 7)), .int (nI (2))]) (r0 := .int (nI (sl (pt (pt s a 7) (a + 1) 7) 2))) (c_slot l hfl D tys (pt (pt s a 7) (a + 1) 7) (2) (by repeat first | assumption | omega | exact sl_lt _ _ | exact slN | apply pt31 | apply pt_lt) (by repeat first | assumption | omega | exact sl_lt _ _ | exact slN | apply pt31 | apply pt_lt)) mw1_133 mw1_134 mw1_2 mw1_135 hd_X1_slot rfl ⟨rfl, rfl⟩ ⟨Nat.le_of_ble_eq_true rfl, Nat.le_of_ble_eq_true rfl⟩ ⟨Nat.zero_le _, Nat.zero_le _⟩ (Nat.le_of_ble_eq_true rfl) rfl dX1_joined_83 ?_
                  refine j_iload dX1_joined_86 0 rfl ?_
                  refine j_s0 (av := [.int (nI (sl (pt (pt s a 7) (a + 1) 7) 2)), .int (nI (2))]) (r0 := .int (bI ((pe (sl (pt (pt s a 7) (a + 1) 7) 2) 2)))) (c_isPathEnd l hfl D tys (sl (pt (pt s a 7) (a + 1) 7) 2) (2) (by repeat first | assumption | omega | exact sl_lt _ _ | exact slN | apply pt31 | apply pt_lt) (by repeat first | assumption | omega | exact sl_lt _ _ | exact slN | apply pt31 | apply pt_lt)) mw1_136 mw1_137 mw1_2 mw1_138 hd_X1_isPathEnd rfl ⟨rfl, rfl⟩ ⟨Nat.le_of_ble_eq_true rfl, Nat.le_of_ble_eq_true rfl⟩ ⟨Nat.zero_le _, Nat.zero_le _⟩ (Nat.le_of_ble_eq_true rfl) rfl dX1_joined_88 ?_
                  refine jb_if_eq (tgt := 96) (b := (pe (sl (pt (pt s a 7) (a + 1) 7) 2) 2)) dX1_joined_91 (by decide) (fun c91 => ?_) (fun c91 => ?_)
                  · refine j_iinc (n0 := 0) (v := nI (3)) [(6, .int (nI (3))), (5, .int (nI (pt (pt s a 7) (a + 1) 7))), (4, .int (nI (sl s (a + 1)))), (3, .int (nI (sl s a))), (2, .int (nI (a + 1))), (0, .int (nI (s))), (1, .int (nI (a)))] dX1_joined_96 rfl (by decide) (by decide) rfl ?_
                    refine j_goto (tgt := 73) dX1_joined_99 (by decide) ?_
                    refine j_iload dX1_joined_73 0 rfl ?_
                    refine j_iconst (v := nI (4)) dX1_joined_75 (by decide) ?_
                    refine jn_icmp_ge (tgt := 102) (a := 3) (b := 4) (by omega) (by omega) dX1_joined_76 (by decide) (fun c76 => ?_) (fun c76 => ?_)
                    · exact absurd c76 (by first | decide | omega)
                    · refine j_iload dX1_joined_79 1 rfl ?_
                      refine j_iload dX1_joined_81 0 rfl ?_
                      refine j_s0 (av := [.int (nI (pt (pt s a 7) (a + 1) 7)), .int (nI (3))]) (r0 := .int (nI (sl (pt (pt s a 7) (a + 1) 7) 3))) (c_slot l hfl D tys (pt (pt s a 7) (a + 1) 7) (3) (by repeat first | assumption | omega | exact sl_lt _ _ | exact slN | apply pt31 | apply pt_lt) (by repeat first | assumption | omega | exact sl_lt _ _ | exact slN | apply pt31 | apply pt_lt)) mw1_133 mw1_134 mw1_2 mw1_135 hd_X1_slot rfl ⟨rfl, rfl⟩ ⟨Nat.le_of_ble_eq_true rfl, Nat.le_of_ble_eq_true rfl⟩ ⟨Nat.zero_le _, Nat.zero_le _⟩ (Nat.le_of_ble_eq_true rfl) rfl dX1_joined_83 ?_
                      refine j_iload dX1_joined_86 0 rfl ?_
                      refine j_s0 (av := [.int (nI (sl (pt (pt s a 7) (a + 1) 7) 3)), .int (nI (3))]) (r0 := .int (bI ((pe (sl (pt (pt s a 7) (a + 1) 7) 3) 3)))) (c_isPathEnd l hfl D tys (sl (pt (pt s a 7) (a + 1) 7) 3) (3) (by repeat first | assumption | omega | exact sl_lt _ _ | exact slN | apply pt31 | apply pt_lt) (by repeat first | assumption | omega | exact sl_lt _ _ | exact slN | apply pt31 | apply pt_lt)) mw1_136 mw1_137 mw1_2 mw1_138 hd_X1_isPathEnd rfl ⟨rfl, rfl⟩ ⟨Nat.le_of_ble_eq_true rfl, Nat.le_of_ble_eq_true rfl⟩ ⟨Nat.zero_le _, Nat.zero_le _⟩ (Nat.le_of_ble_eq_true rfl) rfl dX1_joined_88 ?_
                      refine jb_if_eq (tgt := 96) (b := (pe (sl (pt (pt s a 7) (a + 1) 7) 3) 3)) dX1_joined_91 (by decide) (fun c91 => ?_) (fun c91 => ?_)
                      · refine j_iinc (n0 := 0) (v := nI (4)) [(6, .int (nI (4))), (5, .int (nI (pt (pt s a 7) (a + 1) 7))), (4, .int (nI (sl s (a + 1)))), (3, .int (nI (sl s a))), (2, .int (nI (a + 1))), (0, .int (nI (s))), (1, .int (nI (a)))] dX1_joined_96 rfl (by decide) (by decide) rfl ?_
                        refine j_goto (tgt := 73) dX1_joined_99 (by decide) ?_
                        refine j_iload dX1_joined_73 0 rfl ?_
                        refine j_iconst (v := nI (4)) dX1_joined_75 (by decide) ?_
                        refine jn_icmp_ge (tgt := 102) (a := 4) (b := 4) (by omega) (by omega) dX1_joined_76 (by decide) (fun c76 => ?_) (fun c76 => ?_)
                        · refine j_iload dX1_joined_102 1 rfl ?_
                          refine j_bipush (v := nI (7)) dX1_joined_104 (by decide) ?_
                          refine j_iconst (v := nI (1)) dX1_joined_106 (by decide) ?_
                          refine j_s0 (av := [.int (nI (pt (pt s a 7) (a + 1) 7)), .int (nI (7)), .int (nI (1))]) (r0 := .int (nI (pt (pt (pt s a 7) (a + 1) 7) 7 1))) (c_put l hfl D tys (pt (pt s a 7) (a + 1) 7) (7) (1) (by repeat first | assumption | omega | exact sl_lt _ _ | exact slN | apply pt31 | apply pt_lt) (by repeat first | assumption | omega | exact sl_lt _ _ | exact slN | apply pt31 | apply pt_lt) (by repeat first | assumption | omega | exact sl_lt _ _ | exact slN | apply pt31 | apply pt_lt)) mw1_139 mw1_140 mw1_2 mw1_141 hd_X1_put rfl ⟨rfl, rfl⟩ ⟨Nat.le_of_ble_eq_true rfl, Nat.le_of_ble_eq_true rfl⟩ ⟨Nat.zero_le _, Nat.zero_le _⟩ (Nat.le_of_ble_eq_true rfl) rfl dX1_joined_107 ?_
                          exact j_iret (tys' := []) rfl hR dX1_joined_110 (⟨by rw [show joinedF s a = (some (pt (pt (pt s a 7) (a + 1) 7) 7 1)) from by simp [joinedF, *] <;> omega]; rfl, rfl⟩)
                        · exact absurd c76 (by first | decide | omega)
                      · refine j_iconst (v := (-1)) dX1_joined_94 (by decide) ?_
                        exact j_iret (tys' := []) rfl hR dX1_joined_95 (⟨by rw [show joinedF s a = none from by simp [joinedF, *] <;> omega]; rfl, rfl⟩)
                  · refine j_iconst (v := (-1)) dX1_joined_94 (by decide) ?_
                    exact j_iret (tys' := []) rfl hR dX1_joined_95 (⟨by rw [show joinedF s a = none from by simp [joinedF, *] <;> omega]; rfl, rfl⟩)
              · refine j_iconst (v := (-1)) dX1_joined_94 (by decide) ?_
                exact j_iret (tys' := []) rfl hR dX1_joined_95 (⟨by rw [show joinedF s a = none from by simp [joinedF, *] <;> omega]; rfl, rfl⟩)
          · refine j_iconst (v := (-1)) dX1_joined_94 (by decide) ?_
            exact j_iret (tys' := []) rfl hR dX1_joined_95 (⟨by rw [show joinedF s a = none from by simp [joinedF, *] <;> omega]; rfl, rfl⟩)
      · refine j_iload dX1_joined_55 0 rfl ?_
        refine j_iload_n dX1_joined_57 rfl 2 rfl ?_
        refine j_iload dX1_joined_58 1 rfl ?_
        refine j_s0 (av := [.int (nI (pt (pt s a 7) (a + 1) 7)), .int (nI (sl s a)), .int (nI (sl s (a + 1)))]) (r0 := .int (nI (pt (pt (pt s a 7) (a + 1) 7) (sl s a) (sl s (a + 1))))) (c_put l hfl D tys (pt (pt s a 7) (a + 1) 7) (sl s a) (sl s (a + 1)) (by repeat first | assumption | omega | exact sl_lt _ _ | exact slN | apply pt31 | apply pt_lt) (by repeat first | assumption | omega | exact sl_lt _ _ | exact slN | apply pt31 | apply pt_lt) (by repeat first | assumption | omega | exact sl_lt _ _ | exact slN | apply pt31 | apply pt_lt)) mw1_139 mw1_140 mw1_2 mw1_141 hd_X1_put rfl ⟨rfl, rfl⟩ ⟨Nat.le_of_ble_eq_true rfl, Nat.le_of_ble_eq_true rfl⟩ ⟨Nat.zero_le _, Nat.zero_le _⟩ (Nat.le_of_ble_eq_true rfl) rfl dX1_joined_60 ?_
        refine j_iload dX1_joined_63 1 rfl ?_
        refine j_iload_n dX1_joined_65 rfl 2 rfl ?_
        refine j_s0 (av := [.int (nI (pt (pt (pt s a 7) (a + 1) 7) (sl s a) (sl s (a + 1)))), .int (nI (sl s (a + 1))), .int (nI (sl s a))]) (r0 := .int (nI (pt (pt (pt (pt s a 7) (a + 1) 7) (sl s a) (sl s (a + 1))) (sl s (a + 1)) (sl s a)))) (c_put l hfl D tys (pt (pt (pt s a 7) (a + 1) 7) (sl s a) (sl s (a + 1))) (sl s (a + 1)) (sl s a) (by repeat first | assumption | omega | exact sl_lt _ _ | exact slN | apply pt31 | apply pt_lt) (by repeat first | assumption | omega | exact sl_lt _ _ | exact slN | apply pt31 | apply pt_lt) (by repeat first | assumption | omega | exact sl_lt _ _ | exact slN | apply pt31 | apply pt_lt)) mw1_139 mw1_140 mw1_2 mw1_141 hd_X1_put rfl ⟨rfl, rfl⟩ ⟨Nat.le_of_ble_eq_true rfl, Nat.le_of_ble_eq_true rfl⟩ ⟨Nat.zero_le _, Nat.zero_le _⟩ (Nat.le_of_ble_eq_true rfl) rfl dX1_joined_66 ?_
        exact j_iret (tys' := []) rfl hR dX1_joined_69 (⟨by rw [show joinedF s a = (some (pt (pt (pt (pt s a 7) (a + 1) 7) (sl s a) (sl s (a + 1))) (sl s (a + 1)) (sl s a))) from by simp [joinedF, *] <;> omega]; rfl, rfl⟩)
    · refine j_iconst (v := (-1)) dX1_joined_33 (by decide) ?_
      exact j_iret (tys' := []) rfl hR dX1_joined_34 (⟨by rw [show joinedF s a = none from by simp [joinedF, *] <;> omega]; rfl, rfl⟩)

set_option maxHeartbeats 4000000 in
set_option maxRecDepth 100000 in
theorem c_ended0 (l : Launch) (hfl : l.flags = flags0) (D : va_G) (tys : List (ClassId × FieldType)) (a : Nat) (ha : a < 4) : Ct l yX1_ended cX1_ended 2 (Option.some FieldType.int) ({ frames := 1, cells := 0, slots := 0, locals := 22 } : Room) D tys tys ([]) [.int ((-1)), .int (nI (a))] (fun r u => r = some (.int (oI (endedF none a))) ∧ u = []) 0 0 := by
  refine Ct.of hfl (by decide) (Nat.le_of_ble_eq_true rfl) ?_
  intro k hR _
  show V k l D tys ({ frames := 1, cells := 0, slots := 0, locals := 22 } : Room) cX1_ended 2 RX1 ([]) 0 0 0 [(0, .int ((-1))), (1, .int (nI (a)))] []
  refine j_iload_n dX1_ended_0 rfl 0 rfl ?_
  refine j_iconst (v := (-1)) dX1_ended_1 (by decide) ?_
  refine j_icmp_eq (tgt := 17) dX1_ended_2 (by decide) (fun c2 => ?_) (fun c2 => ?_)
  · refine j_iconst (v := (-1)) dX1_ended_17 (by decide) ?_
    exact j_iret (tys' := []) rfl hR dX1_ended_18 (⟨rfl, rfl⟩)
  · exact absurd rfl c2

set_option maxHeartbeats 4000000 in
set_option maxRecDepth 100000 in
theorem c_ended1 (l : Launch) (hfl : l.flags = flags0) (D : va_G) (tys : List (ClassId × FieldType)) (s a : Nat) (hs : s < 8 ^ 8) (ha : a < 4) : Ct l yX1_ended cX1_ended 2 (Option.some FieldType.int) ({ frames := 1, cells := 0, slots := 0, locals := 22 } : Room) D tys tys ([]) [.int (nI (s)), .int (nI (a))] (fun r u => r = some (.int (oI (endedF (some s) a))) ∧ u = []) 0 0 := by
  refine Ct.of hfl (by decide) (Nat.le_of_ble_eq_true rfl) ?_
  intro k hR _
  show V k l D tys ({ frames := 1, cells := 0, slots := 0, locals := 22 } : Room) cX1_ended 2 RX1 ([]) 0 0 0 [(0, .int (nI (s))), (1, .int (nI (a)))] []
  refine j_iload_n dX1_ended_0 rfl 0 rfl ?_
  refine j_iconst (v := (-1)) dX1_ended_1 (by decide) ?_
  refine j_icmp_eq (tgt := 17) dX1_ended_2 (by decide) (fun c2 => ?_) (fun c2 => ?_)
  · exact absurd c2 (nI_m1 (by omega))
  · refine j_iload_n dX1_ended_5 rfl 0 rfl ?_
    refine j_iload_n dX1_ended_6 rfl 1 rfl ?_
    refine j_s0 (av := [.int (nI (s)), .int (nI (a))]) (r0 := .int (nI (sl s a))) (c_slot l hfl D tys (s) (a) (by repeat first | assumption | omega | exact sl_lt _ _ | exact slN | apply pt31 | apply pt_lt) (by repeat first | assumption | omega | exact sl_lt _ _ | exact slN | apply pt31 | apply pt_lt)) mw1_133 mw1_134 mw1_2 mw1_135 hd_X1_slot rfl ⟨rfl, rfl⟩ ⟨Nat.le_of_ble_eq_true rfl, Nat.le_of_ble_eq_true rfl⟩ ⟨Nat.zero_le _, Nat.zero_le _⟩ (Nat.le_of_ble_eq_true rfl) rfl dX1_ended_7 ?_
    refine j_iload_n dX1_ended_10 rfl 1 rfl ?_
    refine j_s0 (av := [.int (nI (sl s a)), .int (nI (a))]) (r0 := .int (bI ((pe (sl s a) a)))) (c_isPathEnd l hfl D tys (sl s a) (a) (by repeat first | assumption | omega | exact sl_lt _ _ | exact slN | apply pt31 | apply pt_lt) (by repeat first | assumption | omega | exact sl_lt _ _ | exact slN | apply pt31 | apply pt_lt)) mw1_136 mw1_137 mw1_2 mw1_138 hd_X1_isPathEnd rfl ⟨rfl, rfl⟩ ⟨Nat.le_of_ble_eq_true rfl, Nat.le_of_ble_eq_true rfl⟩ ⟨Nat.zero_le _, Nat.zero_le _⟩ (Nat.le_of_ble_eq_true rfl) rfl dX1_ended_11 ?_
    refine jb_if_eq (tgt := 19) (b := (pe (sl s a) a)) dX1_ended_14 (by decide) (fun c14 => ?_) (fun c14 => ?_)
    · refine j_iload_n dX1_ended_19 rfl 0 rfl ?_
      refine j_iload_n dX1_ended_20 rfl 1 rfl ?_
      refine j_iload_n dX1_ended_21 rfl 1 rfl ?_
      refine j_s0 (av := [.int (nI (s)), .int (nI (a)), .int (nI (a))]) (r0 := .int (nI (pt s a a))) (c_put l hfl D tys (s) (a) (a) (by repeat first | assumption | omega | exact sl_lt _ _ | exact slN | apply pt31 | apply pt_lt) (by repeat first | assumption | omega | exact sl_lt _ _ | exact slN | apply pt31 | apply pt_lt) (by repeat first | assumption | omega | exact sl_lt _ _ | exact slN | apply pt31 | apply pt_lt)) mw1_139 mw1_140 mw1_2 mw1_141 hd_X1_put rfl ⟨rfl, rfl⟩ ⟨Nat.le_of_ble_eq_true rfl, Nat.le_of_ble_eq_true rfl⟩ ⟨Nat.zero_le _, Nat.zero_le _⟩ (Nat.le_of_ble_eq_true rfl) rfl dX1_ended_22 ?_
      exact j_iret (tys' := []) rfl hR dX1_ended_25 (⟨by rw [show endedF (some s) a = (some (pt s a a)) from by simp [endedF, *]]; rfl, rfl⟩)
    · refine j_iconst (v := (-1)) dX1_ended_17 (by decide) ?_
      exact j_iret (tys' := []) rfl hR dX1_ended_18 (⟨by rw [show endedF (some s) a = none from by simp [endedF, *]]; rfl, rfl⟩)

theorem c_ended (l : Launch) (hfl : l.flags = flags0) (D : va_G) (tys : List (ClassId × FieldType)) (x : Option Nat) (a : Nat) (hs : ∀ s, x = some s → s < 8 ^ 8) (ha : a < 4) : Ct l yX1_ended cX1_ended 2 (Option.some FieldType.int) ({ frames := 1, cells := 0, slots := 0, locals := 22 } : Room) D tys tys [] [.int (oI x), .int (nI a)] (fun r u => r = some (.int (oI (endedF x a))) ∧ u = []) 0 0 := by
  cases x with
  | none => exact c_ended0 l hfl D tys a ha
  | some s => exact c_ended1 l hfl D tys s a (hs s rfl) ha
theorem downF_lt {s a : Nat} {t : Bool} (hs : s < 8 ^ 8) (ha : a < 8) {z : Nat} (h : downF s a t = some z) : z < 8 ^ 8 := by
  unfold downF at h
  split at h
  · cases t with
    | true => simp at h; omega
    | false => simp at h; rw [← h]; exact pt_lt hs ha (by omega)
  · cases h
theorem endedF_lt {x : Option Nat} {a : Nat} (hs : ∀ s, x = some s → s < 8 ^ 8) (ha : a < 8) {z : Nat} (h : endedF x a = some z) : z < 8 ^ 8 := by
  cases x with
  | none => cases h
  | some s =>
    unfold endedF at h
    simp only at h
    split at h
    · cases h
    · cases h; exact pt_lt (hs s rfl) ha (by omega)
theorem joinedF_lt {s a : Nat} (hs : s < 8 ^ 8) (ha : a < 3) {z : Nat} (h : joinedF s a = some z) : z < 8 ^ 8 := by
  unfold joinedF at h
  repeat' split at h
  all_goals (first | (cases h; done) | (cases h; repeat first | assumption | exact sl_lt _ _ | apply pt_lt | omega))
end
section
/-- the cells of a LoopDiagram: the object, its grid, its diagram, and the arrays -/
def wX (cI cZ : ClassId) (q : Nat → Nat) (R C : Nat) (dr sz : Nat) (sa : Bool) (cu fi st : Nat → Nat) (lo hi : Nat → Option Nat) (wa sw : Nat → Nat) : va_W := [
  (q 0, .inr (2, [.ref (q 1), .ref (q 2), .int (nI dr), .int (bI sa)])),
  (q 1, .inr (1, [.int (nI R), .int (nI C), .int (nI (nE R C)), .ref (q 3), .ref (q 4), .ref (q 5), .ref (q 6)])),
  (q 2, .inr (0, [.ref (q 1), .ref (q 7), .int (nI sz), .ref (q 8), .ref (q 9), .ref (q 10), .ref (q 11), .ref (q 12)])),
  (q 3, .inl (cI, nE R C, .inl (fun e => nI (tRow R C e)))), (q 4, .inl (cI, nE R C, .inl (fun e => nI (tCol R C e)))), (q 5, .inl (cZ, nE R C, .inl (fun e => bI (tDown R C e)))),
  (q 6, .inl (cI, R * C, .inl (fun i => eI (cu i)))), (q 7, .inl (cI, nE R C + 2, .inl (fun i => nI (fi i)))), (q 8, .inl (cI, 1014, .inl (fun i => nI (st i)))), (q 9, .inl (cI, 1014, .inl (fun i => oI (lo i)))), (q 10, .inl (cI, 1014, .inl (fun i => oI (hi i)))), (q 11, .inl (cI, 1014, .inl (fun i => nI (wa i)))), (q 12, .inl (cI, 1014, .inl (fun i => nI (sw i))))]
def tys3 (cI cJ cZ : ClassId) : List (ClassId × FieldType) := [(cI, .int), (cJ, .long), (cZ, .boolean)]

def GS (R C : Nat) : Prop := 1 ≤ R ∧ R ≤ 4 ∧ 1 ≤ C ∧ C ≤ 3
theorem GS.cases {R C : Nat} (h : GS R C) {P : Nat → Nat → Prop} (h2 : ∀ R, R < 5 → ∀ C, C < 4 → P R C) : P R C := h2 R (by have := h.2.1; omega) C (by have := h.2.2.2; omega)
theorem tb_row : ∀ R, R < 5 → ∀ C, C < 4 → ∀ e, e < nE R C → tRow R C e ≤ R := by decide +kernel
theorem tb_col : ∀ R, R < 5 → ∀ C, C < 4 → ∀ e, e < nE R C → tCol R C e ≤ C ∧ (tDown R C e = false → tCol R C e < C) ∧ (tDown R C e = true → tRow R C e < R) := by decide +kernel
theorem tb_E : ∀ R, R < 5 → ∀ C, C < 4 → nE R C < 32 ∧ R * C ≤ 12 := by decide +kernel
theorem tb_E1 : ∀ R, R < 5 → 1 ≤ R → ∀ C, C < 4 → 1 ≤ C → 4 ≤ nE R C ∧ tDown R C (nE R C - 1) = false ∧ tRow R C (nE R C - 1) = R := by decide +kernel
theorem GS.row {R C e : Nat} (h : GS R C) (he : e < nE R C) : tRow R C e ≤ R := tb_row R (by have := h.2.1; omega) C (by have := h.2.2.2; omega) e he
theorem GS.col {R C e : Nat} (h : GS R C) (he : e < nE R C) : tCol R C e ≤ C := (tb_col R (by have := h.2.1; omega) C (by have := h.2.2.2; omega) e he).1
theorem GS.colF {R C e : Nat} (h : GS R C) (he : e < nE R C) (hd : tDown R C e = false) : tCol R C e < C := (tb_col R (by have := h.2.1; omega) C (by have := h.2.2.2; omega) e he).2.1 hd
theorem GS.rowT {R C e : Nat} (h : GS R C) (he : e < nE R C) (hd : tDown R C e = true) : tRow R C e < R := (tb_col R (by have := h.2.1; omega) C (by have := h.2.2.2; omega) e he).2.2 hd
theorem GS.E {R C : Nat} (h : GS R C) : nE R C < 32 := (tb_E R (by have := h.2.1; omega) C (by have := h.2.2.2; omega)).1
theorem GS.RC {R C : Nat} (h : GS R C) : R * C ≤ 12 := (tb_E R (by have := h.2.1; omega) C (by have := h.2.2.2; omega)).2
theorem GS.E4 {R C : Nat} (h : GS R C) : 4 ≤ nE R C := (tb_E1 R (by have := h.2.1; omega) h.1 C (by have := h.2.2.2; omega) h.2.2.1).1
theorem GS.last {R C : Nat} (h : GS R C) : tRow R C (nE R C - 1) = R := (tb_E1 R (by have := h.2.1; omega) h.1 C (by have := h.2.2.2; omega) h.2.2.1).2.2
/-- the clue of each cell: 99 for none, or 0 to 4 -/
def CU (R C : Nat) (cu : Nat → Nat) : Prop := ∀ i, i < R * C → cu i = 99 ∨ cu i ≤ 4
theorem cell_lt {R C r c : Nat} (hr : r < R) (hc : c < C) : r * C + c < R * C := by
  have := Nat.mul_le_mul_right C (show r + 1 ≤ R from hr)
  rw [Nat.add_mul, Nat.one_mul] at this
  omega
def pd (n : Nat) : Nat := if n = 0 then 99 else n - 1
theorem eI_pd {n : Nat} (hn : n < 100) : nI n - nI 1 = eI (pd n) := by
  unfold pd
  split
  · rename_i h; subst h; decide
  · rename_i h
    rw [eI_ne (by omega), nI_sub (by omega)]
/-- a side of a cell: the state then -/
def sideF (R C : Nat) (cu : Nat → Nat) (x : Option Nat) (r c : Nat) (t last : Bool) : Option Nat :=
  match x with
  | none => none
  | some s =>
    if r < R then if c < C then
      if cu (r * C + c) = 99 then some s
      else if cu (r * C + c) < sl s (4 + c) + (if t then 1 else 0) then none
      else if last then (if sl s (4 + c) + (if t then 1 else 0) < cu (r * C + c) then none else some (pt s (4 + c) 0))
      else some (pt s (4 + c) (sl s (4 + c) + (if t then 1 else 0)))
    else some s else some s
def pointsF (R C s e : Nat) (t : Bool) : Option Nat :=
  if tDown R C e then downF s (tCol R C e) t
  else
    let n := if t then joinedF s (tCol R C e) else some s
    let n2 := if tRow R C e = R then endedF n (tCol R C e) else n
    if e = nE R C - 1 then (match endedF n2 (tCol R C e + 1) with | none => none | some z => if sl z 7 = 1 then some z else none) else n2
def cluesF (R C : Nat) (cu : Nat → Nat) (s e : Nat) (t : Bool) : Option Nat :=
  if tDown R C e then sideF R C cu (sideF R C cu (some s) (tRow R C e) (pd (tCol R C e)) t false) (tRow R C e) (tCol R C e) t false
  else sideF R C cu (sideF R C cu (some s) (pd (tRow R C e)) (tCol R C e) t true) (tRow R C e) (tCol R C e) t false
theorem sideF_lt {R C : Nat} {cu : Nat → Nat} (hC : C ≤ 3) (hcu : CU R C cu) {x : Option Nat} {r c : Nat} {t last : Bool} (hs : ∀ s, x = some s → s < 8 ^ 8) {z : Nat} (h : sideF R C cu x r c t last = some z) : z < 8 ^ 8 := by
  cases x with
  | none => cases h
  | some s =>
    have hs := hs s rfl
    unfold sideF at h
    simp only at h
    by_cases hr : r < R
    · by_cases hc : c < C
      · have h4 := hcu _ (cell_lt hr hc)
        rw [if_pos hr, if_pos hc] at h
        by_cases h9 : cu (r * C + c) = 99
        · rw [if_pos h9] at h; cases h; exact hs
        · rw [if_neg h9] at h
          generalize hn : sl s (4 + c) + (if t then 1 else 0) = n at h
          by_cases hlt : cu (r * C + c) < n
          · rw [if_pos hlt] at h; cases h
          · rw [if_neg hlt] at h
            cases last with
            | true =>
              simp only [if_true] at h
              by_cases h5 : n < cu (r * C + c)
              · rw [if_pos h5] at h; cases h
              · rw [if_neg h5] at h; cases h; exact pt_lt hs (by omega) (by omega)
            | false =>
              simp only [Bool.false_eq_true, if_false] at h
              cases h; exact pt_lt hs (by omega) (by omega)
      · rw [if_pos hr, if_neg hc] at h; cases h; exact hs
    · rw [if_neg hr] at h; cases h; exact hs
theorem pointsF_lt {R C s e : Nat} {t : Bool} (hG : GS R C) (hs : s < 8 ^ 8) (he : e < nE R C) {z : Nat} (h : pointsF R C s e t = some z) : z < 8 ^ 8 := by
  have hc := hG.col he
  have hC := hG.2.2.2
  unfold pointsF at h
  split at h
  · exact downF_lt hs (by omega) h
  · rename_i hd
    have hcl := hG.colF he (by simpa using hd)
    have h1 : ∀ z, (if t then joinedF s (tCol R C e) else some s) = some z → z < 8 ^ 8 := by
      intro z hz
      split at hz
      · exact joinedF_lt hs (by omega) hz
      · cases hz; exact hs
    have h2 : ∀ z, (if tRow R C e = R then endedF (if t then joinedF s (tCol R C e) else some s) (tCol R C e) else (if t then joinedF s (tCol R C e) else some s)) = some z → z < 8 ^ 8 := by
      intro z hz
      split at hz
      · exact endedF_lt h1 (by omega) hz
      · exact h1 z hz
    simp only at h
    split at h
    · split at h
      · cases h
      · rename_i y hy
        split at h
        · cases h; exact endedF_lt h2 (by omega) hy
        · cases h
    · exact h2 z h

set_option maxHeartbeats 4000000 in
set_option maxRecDepth 100000 in
theorem c_side_d (l : Launch) (hfl : l.flags = flags0) (D : va_G) (cI cJ cZ : ClassId) (q : Nat → Nat) (R C : Nat) (hG : GS R C) (dr sz : Nat) (sa : Bool) (cu fi st : Nat → Nat) (lo hi : Nat → Option Nat) (wa sw : Nat → Nat) (x y : Int32) (t last : Bool) : Ct l yX1_sideAfter cX1_sideAfter 8 (Option.some FieldType.int) ({ frames := 1, cells := 0, slots := 0, locals := 22 } : Room) D (tys3 cI cJ cZ) (tys3 cI cJ cZ) (wX cI cZ q R C dr sz sa cu fi st lo hi wa sw) [.ref (q 1), .int ((-1)), .int (x), .int (y), .int (bI (t)), .int (bI (last))] (fun r0 u => r0 = some (.int (-1)) ∧ u = wX cI cZ q R C dr sz sa cu fi st lo hi wa sw) 0 0 := by
  refine Ct.of hfl (by decide) (Nat.le_of_ble_eq_true rfl) ?_
  intro k hR _
  show V k l D (tys3 cI cJ cZ) ({ frames := 1, cells := 0, slots := 0, locals := 22 } : Room) cX1_sideAfter 8 RX1 (wX cI cZ q R C dr sz sa cu fi st lo hi wa sw) 0 0 0 [(0, .ref (q 1)), (1, .int ((-1))), (2, .int (x)), (3, .int (y)), (4, .int (bI (t))), (5, .int (bI (last)))] []
  refine j_iload_n dX1_sideAfter_0 rfl 1 rfl ?_
  refine j_iconst (v := (-1)) dX1_sideAfter_1 (by decide) ?_
  refine j_icmp_eq (tgt := 29) dX1_sideAfter_2 (by decide) (fun c2 => ?_) (fun c2 => ?_)
  · refine j_iload_n dX1_sideAfter_29 rfl 1 rfl ?_
    exact j_iret (tys' := []) rfl hR dX1_sideAfter_30 (⟨rfl, rfl⟩)
  · exact absurd rfl c2

set_option maxHeartbeats 4000000 in
set_option maxRecDepth 100000 in
theorem c_side_r (l : Launch) (hfl : l.flags = flags0) (D : va_G) (cI cJ cZ : ClassId) (q : Nat → Nat) (R C : Nat) (hG : GS R C) (dr sz : Nat) (sa : Bool) (cu fi st : Nat → Nat) (lo hi : Nat → Option Nat) (wa sw : Nat → Nat) (s : Nat) (hs : s < 8 ^ 8) (y : Int32) (t last : Bool) : Ct l yX1_sideAfter cX1_sideAfter 8 (Option.some FieldType.int) ({ frames := 1, cells := 0, slots := 0, locals := 22 } : Room) D (tys3 cI cJ cZ) (tys3 cI cJ cZ) (wX cI cZ q R C dr sz sa cu fi st lo hi wa sw) [.ref (q 1), .int (nI (s)), .int ((-1)), .int (y), .int (bI (t)), .int (bI (last))] (fun r0 u => r0 = some (.int (nI s)) ∧ u = wX cI cZ q R C dr sz sa cu fi st lo hi wa sw) 0 0 := by
  refine Ct.of hfl (by decide) (Nat.le_of_ble_eq_true rfl) ?_
  intro k hR _
  have hR4 := hG.2.1
  have hC3 := hG.2.2.2
  have hR1 := hG.1
  have hC1 := hG.2.2.1
  have hE := hG.E
  have hRC := hG.RC
  show V k l D (tys3 cI cJ cZ) ({ frames := 1, cells := 0, slots := 0, locals := 22 } : Room) cX1_sideAfter 8 RX1 (wX cI cZ q R C dr sz sa cu fi st lo hi wa sw) 0 0 0 [(0, .ref (q 1)), (1, .int (nI (s))), (2, .int ((-1))), (3, .int (y)), (4, .int (bI (t))), (5, .int (bI (last)))] []
  refine j_iload_n dX1_sideAfter_0 rfl 1 rfl ?_
  refine j_iconst (v := (-1)) dX1_sideAfter_1 (by decide) ?_
  refine j_icmp_eq (tgt := 29) dX1_sideAfter_2 (by decide) (fun c2 => ?_) (fun c2 => ?_)
  · exact absurd c2 (nI_m1 (by omega))
  · refine j_iload_n dX1_sideAfter_5 rfl 2 rfl ?_
    refine j_if_lt (tgt := 29) dX1_sideAfter_6 (by decide) (fun c6 => ?_) (fun c6 => ?_)
    · refine j_iload_n dX1_sideAfter_29 rfl 1 rfl ?_
      exact j_iret (tys' := []) rfl hR dX1_sideAfter_30 (⟨rfl, rfl⟩)
    · exact absurd (by decide) c6

set_option maxHeartbeats 4000000 in
set_option maxRecDepth 100000 in
theorem c_side_c (l : Launch) (hfl : l.flags = flags0) (D : va_G) (cI cJ cZ : ClassId) (q : Nat → Nat) (R C : Nat) (hG : GS R C) (dr sz : Nat) (sa : Bool) (cu fi st : Nat → Nat) (lo hi : Nat → Option Nat) (wa sw : Nat → Nat) (s : Nat) (hs : s < 8 ^ 8) (r : Nat) (hr : r < 100) (t last : Bool) : Ct l yX1_sideAfter cX1_sideAfter 8 (Option.some FieldType.int) ({ frames := 1, cells := 0, slots := 0, locals := 22 } : Room) D (tys3 cI cJ cZ) (tys3 cI cJ cZ) (wX cI cZ q R C dr sz sa cu fi st lo hi wa sw) [.ref (q 1), .int (nI (s)), .int (nI (r)), .int ((-1)), .int (bI (t)), .int (bI (last))] (fun r0 u => r0 = some (.int (nI s)) ∧ u = wX cI cZ q R C dr sz sa cu fi st lo hi wa sw) 0 0 := by
  refine Ct.of hfl (by decide) (Nat.le_of_ble_eq_true rfl) ?_
  intro k hR _
  have hR4 := hG.2.1
  have hC3 := hG.2.2.2
  have hR1 := hG.1
  have hC1 := hG.2.2.1
  have hE := hG.E
  have hRC := hG.RC
  show V k l D (tys3 cI cJ cZ) ({ frames := 1, cells := 0, slots := 0, locals := 22 } : Room) cX1_sideAfter 8 RX1 (wX cI cZ q R C dr sz sa cu fi st lo hi wa sw) 0 0 0 [(0, .ref (q 1)), (1, .int (nI (s))), (2, .int (nI (r))), (3, .int ((-1))), (4, .int (bI (t))), (5, .int (bI (last)))] []
  refine j_iload_n dX1_sideAfter_0 rfl 1 rfl ?_
  refine j_iconst (v := (-1)) dX1_sideAfter_1 (by decide) ?_
  refine j_icmp_eq (tgt := 29) dX1_sideAfter_2 (by decide) (fun c2 => ?_) (fun c2 => ?_)
  · exact absurd c2 (nI_m1 (by omega))
  · refine j_iload_n dX1_sideAfter_5 rfl 2 rfl ?_
    refine jn_if_lt (tgt := 29) (a := r) (by omega) dX1_sideAfter_6 (by decide) (fun c6 => ?_) (fun c6 => ?_)
    · exact absurd c6 (by simp)
    · refine j_iload_n dX1_sideAfter_9 rfl 2 rfl ?_
      refine j_aload_n dX1_sideAfter_10 rfl 0 rfl ?_
      refine gf_X1_11 1 rfl (rfl) dX1_sideAfter_11 ?_
      refine jn_icmp_ge (tgt := 29) (a := r) (b := R) (by omega) (by omega) dX1_sideAfter_14 (by decide) (fun c14 => ?_) (fun c14 => ?_)
      · refine j_iload_n dX1_sideAfter_29 rfl 1 rfl ?_
        exact j_iret (tys' := []) rfl hR dX1_sideAfter_30 (⟨rfl, rfl⟩)
      · refine j_iload_n dX1_sideAfter_17 rfl 3 rfl ?_
        refine j_if_lt (tgt := 29) dX1_sideAfter_18 (by decide) (fun c18 => ?_) (fun c18 => ?_)
        · refine j_iload_n dX1_sideAfter_29 rfl 1 rfl ?_
          exact j_iret (tys' := []) rfl hR dX1_sideAfter_30 (⟨rfl, rfl⟩)
        · exact absurd (by decide) c18

set_option maxHeartbeats 4000000 in
set_option maxRecDepth 100000 in
theorem c_side_n (l : Launch) (hfl : l.flags = flags0) (D : va_G) (cI cJ cZ : ClassId) (q : Nat → Nat) (R C : Nat) (hG : GS R C) (dr sz : Nat) (sa : Bool) (cu fi st : Nat → Nat) (lo hi : Nat → Option Nat) (wa sw : Nat → Nat) (hcu : CU R C cu) (s : Nat) (hs : s < 8 ^ 8) (r c : Nat) (hr : r < 99) (hc : c < 99) (t last : Bool) : Ct l yX1_sideAfter cX1_sideAfter 8 (Option.some FieldType.int) ({ frames := 1, cells := 0, slots := 0, locals := 22 } : Room) D (tys3 cI cJ cZ) (tys3 cI cJ cZ) (wX cI cZ q R C dr sz sa cu fi st lo hi wa sw) [.ref (q 1), .int (nI (s)), .int (nI (r)), .int (nI (c)), .int (bI (t)), .int (bI (last))] (fun r0 u => r0 = some (.int (oI (sideF R C cu (some s) (r) (c) t last))) ∧ u = wX cI cZ q R C dr sz sa cu fi st lo hi wa sw) 0 0 := by
  refine Ct.of hfl (by decide) (Nat.le_of_ble_eq_true rfl) ?_
  intro k hR _
  have hR4 := hG.2.1
  have hC3 := hG.2.2.2
  have hR1 := hG.1
  have hC1 := hG.2.2.1
  have hE := hG.E
  have hRC := hG.RC
  show V k l D (tys3 cI cJ cZ) ({ frames := 1, cells := 0, slots := 0, locals := 22 } : Room) cX1_sideAfter 8 RX1 (wX cI cZ q R C dr sz sa cu fi st lo hi wa sw) 0 0 0 [(0, .ref (q 1)), (1, .int (nI (s))), (2, .int (nI (r))), (3, .int (nI (c))), (4, .int (bI (t))), (5, .int (bI (last)))] []
  refine j_iload_n dX1_sideAfter_0 rfl 1 rfl ?_
  refine j_iconst (v := (-1)) dX1_sideAfter_1 (by decide) ?_
  refine j_icmp_eq (tgt := 29) dX1_sideAfter_2 (by decide) (fun c2 => ?_) (fun c2 => ?_)
  · exact absurd c2 (nI_m1 (by omega))
  · refine j_iload_n dX1_sideAfter_5 rfl 2 rfl ?_
    refine jn_if_lt (tgt := 29) (a := r) (by omega) dX1_sideAfter_6 (by decide) (fun c6 => ?_) (fun c6 => ?_)
    · exact absurd c6 (by simp)
    · refine j_iload_n dX1_sideAfter_9 rfl 2 rfl ?_
      refine j_aload_n dX1_sideAfter_10 rfl 0 rfl ?_
      refine gf_X1_11 1 rfl (rfl) dX1_sideAfter_11 ?_
      refine jn_icmp_ge (tgt := 29) (a := r) (b := R) (by omega) (by omega) dX1_sideAfter_14 (by decide) (fun c14 => ?_) (fun c14 => ?_)
      · refine j_iload_n dX1_sideAfter_29 rfl 1 rfl ?_
        exact j_iret (tys' := []) rfl hR dX1_sideAfter_30 (⟨by rw [show sideF R C cu (some s) r c t last = (some s) from by first | (simp [sideF, *]; done) | (simp [sideF, *] <;> omega) | (exfalso; simp_all)]; rfl, rfl⟩)
      · refine j_iload_n dX1_sideAfter_17 rfl 3 rfl ?_
        refine jn_if_lt (tgt := 29) (a := c) (by omega) dX1_sideAfter_18 (by decide) (fun c18 => ?_) (fun c18 => ?_)
        · exact absurd c18 (by simp)
        · refine j_iload_n dX1_sideAfter_21 rfl 3 rfl ?_
          refine j_aload_n dX1_sideAfter_22 rfl 0 rfl ?_
          refine gf_X1_15 1 rfl (rfl) dX1_sideAfter_23 ?_
          refine jn_icmp_lt (tgt := 31) (a := c) (b := C) (by omega) (by omega) dX1_sideAfter_26 (by decide) (fun c26 => ?_) (fun c26 => ?_)
          · refine j_aload_n dX1_sideAfter_31 rfl 0 rfl ?_
            refine gf_X1_32 1 rfl (rfl) dX1_sideAfter_32 ?_
            refine j_iload_n dX1_sideAfter_35 rfl 2 rfl ?_
            refine j_aload_n dX1_sideAfter_36 rfl 0 rfl ?_
            refine gf_X1_15 1 rfl (rfl) dX1_sideAfter_37 ?_
            refine jn_imul (v := r * C) dX1_sideAfter_40 rfl ?_
            refine j_iload_n dX1_sideAfter_41 rfl 3 rfl ?_
            refine jn_iadd (v := (r * C) + c) dX1_sideAfter_42 rfl ?_
            refine jn_iald (v := eI (cu ((r * C) + c))) 6 0 rfl rfl (cell_lt c14 c26) (by omega) (rfl) dX1_sideAfter_43 ?_
            refine j_istore [(6, .int (eI (cu ((r * C) + c)))), (0, .ref (q 1)), (1, .int (nI (s))), (2, .int (nI (r))), (3, .int (nI (c))), (4, .int (bI (t))), (5, .int (bI (last)))] dX1_sideAfter_44 (by decide) rfl ?_
            refine j_iload dX1_sideAfter_46 0 rfl ?_
            refine j_iconst (v := (-1)) dX1_sideAfter_48 (by decide) ?_
            refine j_icmp_ne (tgt := 54) dX1_sideAfter_49 (by decide) (fun c49 => ?_) (fun c49 => ?_)
            · have e49 : cu (r * C + c) ≠ 99 := fun e => c49 (by rw [e]; exact eI_99)
              have h4 : cu (r * C + c) ≤ 4 := (hcu _ (cell_lt c14 c26)).resolve_left e49
              refine j_lv (lv' := [(6, .int (nI (cu (r * C + c)))), (0, .ref (q 1)), (1, .int (nI (s))), (2, .int (nI (r))), (3, .int (nI (c))), (4, .int (bI (t))), (5, .int (bI (last)))]) (by rw [eI_ne e49]) ?_
              refine j_iload_n dX1_sideAfter_54 rfl 2 rfl ?_
              refine j_iconst (v := nI (4)) dX1_sideAfter_55 (by decide) ?_
              refine j_iload_n dX1_sideAfter_56 rfl 4 rfl ?_
              refine jn_iadd (v := 4 + c) dX1_sideAfter_57 rfl ?_
              refine j_s0 (av := [.int (nI (s)), .int (nI (4 + c))]) (r0 := .int (nI (sl s (4 + c)))) (c_slot l hfl D (tys3 cI cJ cZ) (s) (4 + c) (by repeat first | assumption | omega | exact sl_lt _ _ | exact slN | apply pt31 | apply pt_lt) (by repeat first | assumption | omega | exact sl_lt _ _ | exact slN | apply pt31 | apply pt_lt)) mw1_133 mw1_134 mw1_2 mw1_135 hd_X1_slot rfl ⟨rfl, rfl⟩ ⟨Nat.le_of_ble_eq_true rfl, Nat.le_of_ble_eq_true rfl⟩ ⟨Nat.zero_le _, Nat.zero_le _⟩ (Nat.le_of_ble_eq_true rfl) rfl dX1_sideAfter_58 ?_
              refine j_iload dX1_sideAfter_61 5 rfl ?_
              refine jb_if_eq (tgt := 70) (b := t) dX1_sideAfter_63 (by decide) (fun c63 => ?_) (fun c63 => ?_)
              · refine j_iconst (v := nI (0)) dX1_sideAfter_70 (by decide) ?_
                refine jn_iadd (v := (sl s (4 + c)) + 0) dX1_sideAfter_71 rfl ?_
                refine j_istore [(7, .int (nI ((sl s (4 + c)) + 0))), (6, .int (nI (cu (r * C + c)))), (0, .ref (q 1)), (1, .int (nI (s))), (2, .int (nI (r))), (3, .int (nI (c))), (4, .int (bI (t))), (5, .int (bI (last)))] dX1_sideAfter_72 (by decide) rfl ?_
                refine j_iload dX1_sideAfter_74 0 rfl ?_
                refine j_iload dX1_sideAfter_76 1 rfl ?_
                refine jn_icmp_gt (tgt := 93) (a := (sl s (4 + c)) + 0) (b := cu (r * C + c)) (by have := sl_lt s (4 + c); omega) (by omega) dX1_sideAfter_78 (by decide) (fun c78 => ?_) (fun c78 => ?_)
                · refine j_iconst (v := (-1)) dX1_sideAfter_93 (by decide) ?_
                  exact j_iret (tys' := []) rfl hR dX1_sideAfter_94 (⟨by rw [show sideF R C cu (some s) r c t last = none from by first | (simp [sideF, *]; done) | (simp [sideF, *] <;> omega) | (exfalso; simp_all)]; rfl, rfl⟩)
                · refine j_iload dX1_sideAfter_81 7 rfl ?_
                  refine jb_if_eq (tgt := 95) (b := last) dX1_sideAfter_83 (by decide) (fun c83 => ?_) (fun c83 => ?_)
                  · refine j_iload_n dX1_sideAfter_95 rfl 3 rfl ?_
                    refine j_iconst (v := nI (4)) dX1_sideAfter_96 (by decide) ?_
                    refine j_iload_n dX1_sideAfter_97 rfl 5 rfl ?_
                    refine jn_iadd (v := 4 + c) dX1_sideAfter_98 rfl ?_
                    refine j_iload dX1_sideAfter_99 7 rfl ?_
                    refine jb_if_eq (tgt := 108) (b := last) dX1_sideAfter_101 (by decide) (fun c101 => ?_) (fun c101 => ?_)
                    · refine j_iload dX1_sideAfter_108 0 rfl ?_
                      refine j_s0 (av := [.int (nI (s)), .int (nI (4 + c)), .int (nI ((sl s (4 + c)) + 0))]) (r0 := .int (nI (pt s (4 + c) ((sl s (4 + c)) + 0)))) (c_put l hfl D (tys3 cI cJ cZ) (s) (4 + c) ((sl s (4 + c)) + 0) (by repeat first | assumption | omega | exact sl_lt _ _ | exact slN | apply pt31 | apply pt_lt) (by repeat first | assumption | omega | exact sl_lt _ _ | exact slN | apply pt31 | apply pt_lt) (by omega)) mw1_139 mw1_140 mw1_2 mw1_141 hd_X1_put rfl ⟨rfl, rfl⟩ ⟨Nat.le_of_ble_eq_true rfl, Nat.le_of_ble_eq_true rfl⟩ ⟨Nat.zero_le _, Nat.zero_le _⟩ (Nat.le_of_ble_eq_true rfl) rfl dX1_sideAfter_110 ?_
                      exact j_iret (tys' := []) rfl hR dX1_sideAfter_113 (⟨by rw [show sideF R C cu (some s) r c t last = (some (pt s (4 + c) ((sl s (4 + c)) + 0))) from by first | (simp [sideF, *]; done) | (simp [sideF, *] <;> omega) | (exfalso; simp_all)]; rfl, rfl⟩)
                    · refine j_iconst (v := nI (0)) dX1_sideAfter_104 (by decide) ?_
                      refine j_goto (tgt := 110) dX1_sideAfter_105 (by decide) ?_
                      refine j_s0 (av := [.int (nI (s)), .int (nI (4 + c)), .int (nI (0))]) (r0 := .int (nI (pt s (4 + c) 0))) (c_put l hfl D (tys3 cI cJ cZ) (s) (4 + c) (0) (by repeat first | assumption | omega | exact sl_lt _ _ | exact slN | apply pt31 | apply pt_lt) (by repeat first | assumption | omega | exact sl_lt _ _ | exact slN | apply pt31 | apply pt_lt) (by omega)) mw1_139 mw1_140 mw1_2 mw1_141 hd_X1_put rfl ⟨rfl, rfl⟩ ⟨Nat.le_of_ble_eq_true rfl, Nat.le_of_ble_eq_true rfl⟩ ⟨Nat.zero_le _, Nat.zero_le _⟩ (Nat.le_of_ble_eq_true rfl) rfl dX1_sideAfter_110 ?_
                      exact j_iret (tys' := []) rfl hR dX1_sideAfter_113 (⟨by rw [show sideF R C cu (some s) r c t last = (some (pt s (4 + c) 0)) from by first | (simp [sideF, *]; done) | (simp [sideF, *] <;> omega) | (exfalso; simp_all)]; rfl, rfl⟩)
                  · refine j_iload dX1_sideAfter_86 0 rfl ?_
                    refine j_iload dX1_sideAfter_88 1 rfl ?_
                    refine jn_icmp_ge (tgt := 95) (a := (sl s (4 + c)) + 0) (b := cu (r * C + c)) (by have := sl_lt s (4 + c); omega) (by omega) dX1_sideAfter_90 (by decide) (fun c90 => ?_) (fun c90 => ?_)
                    · refine j_iload_n dX1_sideAfter_95 rfl 3 rfl ?_
                      refine j_iconst (v := nI (4)) dX1_sideAfter_96 (by decide) ?_
                      refine j_iload_n dX1_sideAfter_97 rfl 5 rfl ?_
                      refine jn_iadd (v := 4 + c) dX1_sideAfter_98 rfl ?_
                      refine j_iload dX1_sideAfter_99 7 rfl ?_
                      refine jb_if_eq (tgt := 108) (b := last) dX1_sideAfter_101 (by decide) (fun c101 => ?_) (fun c101 => ?_)
                      · refine j_iload dX1_sideAfter_108 0 rfl ?_
                        refine j_s0 (av := [.int (nI (s)), .int (nI (4 + c)), .int (nI ((sl s (4 + c)) + 0))]) (r0 := .int (nI (pt s (4 + c) ((sl s (4 + c)) + 0)))) (c_put l hfl D (tys3 cI cJ cZ) (s) (4 + c) ((sl s (4 + c)) + 0) (by repeat first | assumption | omega | exact sl_lt _ _ | exact slN | apply pt31 | apply pt_lt) (by repeat first | assumption | omega | exact sl_lt _ _ | exact slN | apply pt31 | apply pt_lt) (by omega)) mw1_139 mw1_140 mw1_2 mw1_141 hd_X1_put rfl ⟨rfl, rfl⟩ ⟨Nat.le_of_ble_eq_true rfl, Nat.le_of_ble_eq_true rfl⟩ ⟨Nat.zero_le _, Nat.zero_le _⟩ (Nat.le_of_ble_eq_true rfl) rfl dX1_sideAfter_110 ?_
                        exact j_iret (tys' := []) rfl hR dX1_sideAfter_113 (⟨by rw [show sideF R C cu (some s) r c t last = (some (pt s (4 + c) ((sl s (4 + c)) + 0))) from by first | (simp [sideF, *]; done) | (simp [sideF, *] <;> omega) | (exfalso; simp_all)]; rfl, rfl⟩)
                      · refine j_iconst (v := nI (0)) dX1_sideAfter_104 (by decide) ?_
                        refine j_goto (tgt := 110) dX1_sideAfter_105 (by decide) ?_
                        refine j_s0 (av := [.int (nI (s)), .int (nI (4 + c)), .int (nI (0))]) (r0 := .int (nI (pt s (4 + c) 0))) (c_put l hfl D (tys3 cI cJ cZ) (s) (4 + c) (0) (by repeat first | assumption | omega | exact sl_lt _ _ | exact slN | apply pt31 | apply pt_lt) (by repeat first | assumption | omega | exact sl_lt _ _ | exact slN | apply pt31 | apply pt_lt) (by omega)) mw1_139 mw1_140 mw1_2 mw1_141 hd_X1_put rfl ⟨rfl, rfl⟩ ⟨Nat.le_of_ble_eq_true rfl, Nat.le_of_ble_eq_true rfl⟩ ⟨Nat.zero_le _, Nat.zero_le _⟩ (Nat.le_of_ble_eq_true rfl) rfl dX1_sideAfter_110 ?_
                        exact j_iret (tys' := []) rfl hR dX1_sideAfter_113 (⟨by rw [show sideF R C cu (some s) r c t last = (some (pt s (4 + c) 0)) from by first | (simp [sideF, *]; done) | (simp [sideF, *] <;> omega) | (exfalso; simp_all)]; rfl, rfl⟩)
                    · refine j_iconst (v := (-1)) dX1_sideAfter_93 (by decide) ?_
                      exact j_iret (tys' := []) rfl hR dX1_sideAfter_94 (⟨by rw [show sideF R C cu (some s) r c t last = none from by first | (simp [sideF, *]; done) | (simp [sideF, *] <;> omega) | (exfalso; simp_all)]; rfl, rfl⟩)
              · refine j_iconst (v := nI (1)) dX1_sideAfter_66 (by decide) ?_
                refine j_goto (tgt := 71) dX1_sideAfter_67 (by decide) ?_
                refine jn_iadd (v := (sl s (4 + c)) + 1) dX1_sideAfter_71 rfl ?_
                refine j_istore [(7, .int (nI ((sl s (4 + c)) + 1))), (6, .int (nI (cu (r * C + c)))), (0, .ref (q 1)), (1, .int (nI (s))), (2, .int (nI (r))), (3, .int (nI (c))), (4, .int (bI (t))), (5, .int (bI (last)))] dX1_sideAfter_72 (by decide) rfl ?_
                refine j_iload dX1_sideAfter_74 0 rfl ?_
                refine j_iload dX1_sideAfter_76 1 rfl ?_
                refine jn_icmp_gt (tgt := 93) (a := (sl s (4 + c)) + 1) (b := cu (r * C + c)) (by have := sl_lt s (4 + c); omega) (by omega) dX1_sideAfter_78 (by decide) (fun c78 => ?_) (fun c78 => ?_)
                · refine j_iconst (v := (-1)) dX1_sideAfter_93 (by decide) ?_
                  exact j_iret (tys' := []) rfl hR dX1_sideAfter_94 (⟨by rw [show sideF R C cu (some s) r c t last = none from by first | (simp [sideF, *]; done) | (simp [sideF, *] <;> omega) | (exfalso; simp_all)]; rfl, rfl⟩)
                · refine j_iload dX1_sideAfter_81 7 rfl ?_
                  refine jb_if_eq (tgt := 95) (b := last) dX1_sideAfter_83 (by decide) (fun c83 => ?_) (fun c83 => ?_)
                  · refine j_iload_n dX1_sideAfter_95 rfl 3 rfl ?_
                    refine j_iconst (v := nI (4)) dX1_sideAfter_96 (by decide) ?_
                    refine j_iload_n dX1_sideAfter_97 rfl 5 rfl ?_
                    refine jn_iadd (v := 4 + c) dX1_sideAfter_98 rfl ?_
                    refine j_iload dX1_sideAfter_99 7 rfl ?_
                    refine jb_if_eq (tgt := 108) (b := last) dX1_sideAfter_101 (by decide) (fun c101 => ?_) (fun c101 => ?_)
                    · refine j_iload dX1_sideAfter_108 0 rfl ?_
                      refine j_s0 (av := [.int (nI (s)), .int (nI (4 + c)), .int (nI ((sl s (4 + c)) + 1))]) (r0 := .int (nI (pt s (4 + c) ((sl s (4 + c)) + 1)))) (c_put l hfl D (tys3 cI cJ cZ) (s) (4 + c) ((sl s (4 + c)) + 1) (by repeat first | assumption | omega | exact sl_lt _ _ | exact slN | apply pt31 | apply pt_lt) (by repeat first | assumption | omega | exact sl_lt _ _ | exact slN | apply pt31 | apply pt_lt) (by omega)) mw1_139 mw1_140 mw1_2 mw1_141 hd_X1_put rfl ⟨rfl, rfl⟩ ⟨Nat.le_of_ble_eq_true rfl, Nat.le_of_ble_eq_true rfl⟩ ⟨Nat.zero_le _, Nat.zero_le _⟩ (Nat.le_of_ble_eq_true rfl) rfl dX1_sideAfter_110 ?_
                      exact j_iret (tys' := []) rfl hR dX1_sideAfter_113 (⟨by rw [show sideF R C cu (some s) r c t last = (some (pt s (4 + c) ((sl s (4 + c)) + 1))) from by first | (simp [sideF, *]; done) | (simp [sideF, *] <;> omega) | (exfalso; simp_all)]; rfl, rfl⟩)
                    · refine j_iconst (v := nI (0)) dX1_sideAfter_104 (by decide) ?_
                      refine j_goto (tgt := 110) dX1_sideAfter_105 (by decide) ?_
                      refine j_s0 (av := [.int (nI (s)), .int (nI (4 + c)), .int (nI (0))]) (r0 := .int (nI (pt s (4 + c) 0))) (c_put l hfl D (tys3 cI cJ cZ) (s) (4 + c) (0) (by repeat first | assumption | omega | exact sl_lt _ _ | exact slN | apply pt31 | apply pt_lt) (by repeat first | assumption | omega | exact sl_lt _ _ | exact slN | apply pt31 | apply pt_lt) (by omega)) mw1_139 mw1_140 mw1_2 mw1_141 hd_X1_put rfl ⟨rfl, rfl⟩ ⟨Nat.le_of_ble_eq_true rfl, Nat.le_of_ble_eq_true rfl⟩ ⟨Nat.zero_le _, Nat.zero_le _⟩ (Nat.le_of_ble_eq_true rfl) rfl dX1_sideAfter_110 ?_
                      exact j_iret (tys' := []) rfl hR dX1_sideAfter_113 (⟨by rw [show sideF R C cu (some s) r c t last = (some (pt s (4 + c) 0)) from by first | (simp [sideF, *]; done) | (simp [sideF, *] <;> omega) | (exfalso; simp_all)]; rfl, rfl⟩)
                  · refine j_iload dX1_sideAfter_86 0 rfl ?_
                    refine j_iload dX1_sideAfter_88 1 rfl ?_
                    refine jn_icmp_ge (tgt := 95) (a := (sl s (4 + c)) + 1) (b := cu (r * C + c)) (by have := sl_lt s (4 + c); omega) (by omega) dX1_sideAfter_90 (by decide) (fun c90 => ?_) (fun c90 => ?_)
                    · refine j_iload_n dX1_sideAfter_95 rfl 3 rfl ?_
                      refine j_iconst (v := nI (4)) dX1_sideAfter_96 (by decide) ?_
                      refine j_iload_n dX1_sideAfter_97 rfl 5 rfl ?_
                      refine jn_iadd (v := 4 + c) dX1_sideAfter_98 rfl ?_
                      refine j_iload dX1_sideAfter_99 7 rfl ?_
                      refine jb_if_eq (tgt := 108) (b := last) dX1_sideAfter_101 (by decide) (fun c101 => ?_) (fun c101 => ?_)
                      · refine j_iload dX1_sideAfter_108 0 rfl ?_
                        refine j_s0 (av := [.int (nI (s)), .int (nI (4 + c)), .int (nI ((sl s (4 + c)) + 1))]) (r0 := .int (nI (pt s (4 + c) ((sl s (4 + c)) + 1)))) (c_put l hfl D (tys3 cI cJ cZ) (s) (4 + c) ((sl s (4 + c)) + 1) (by repeat first | assumption | omega | exact sl_lt _ _ | exact slN | apply pt31 | apply pt_lt) (by repeat first | assumption | omega | exact sl_lt _ _ | exact slN | apply pt31 | apply pt_lt) (by omega)) mw1_139 mw1_140 mw1_2 mw1_141 hd_X1_put rfl ⟨rfl, rfl⟩ ⟨Nat.le_of_ble_eq_true rfl, Nat.le_of_ble_eq_true rfl⟩ ⟨Nat.zero_le _, Nat.zero_le _⟩ (Nat.le_of_ble_eq_true rfl) rfl dX1_sideAfter_110 ?_
                        exact j_iret (tys' := []) rfl hR dX1_sideAfter_113 (⟨by rw [show sideF R C cu (some s) r c t last = (some (pt s (4 + c) ((sl s (4 + c)) + 1))) from by first | (simp [sideF, *]; done) | (simp [sideF, *] <;> omega) | (exfalso; simp_all)]; rfl, rfl⟩)
                      · refine j_iconst (v := nI (0)) dX1_sideAfter_104 (by decide) ?_
                        refine j_goto (tgt := 110) dX1_sideAfter_105 (by decide) ?_
                        refine j_s0 (av := [.int (nI (s)), .int (nI (4 + c)), .int (nI (0))]) (r0 := .int (nI (pt s (4 + c) 0))) (c_put l hfl D (tys3 cI cJ cZ) (s) (4 + c) (0) (by repeat first | assumption | omega | exact sl_lt _ _ | exact slN | apply pt31 | apply pt_lt) (by repeat first | assumption | omega | exact sl_lt _ _ | exact slN | apply pt31 | apply pt_lt) (by omega)) mw1_139 mw1_140 mw1_2 mw1_141 hd_X1_put rfl ⟨rfl, rfl⟩ ⟨Nat.le_of_ble_eq_true rfl, Nat.le_of_ble_eq_true rfl⟩ ⟨Nat.zero_le _, Nat.zero_le _⟩ (Nat.le_of_ble_eq_true rfl) rfl dX1_sideAfter_110 ?_
                        exact j_iret (tys' := []) rfl hR dX1_sideAfter_113 (⟨by rw [show sideF R C cu (some s) r c t last = (some (pt s (4 + c) 0)) from by first | (simp [sideF, *]; done) | (simp [sideF, *] <;> omega) | (exfalso; simp_all)]; rfl, rfl⟩)
                    · refine j_iconst (v := (-1)) dX1_sideAfter_93 (by decide) ?_
                      exact j_iret (tys' := []) rfl hR dX1_sideAfter_94 (⟨by rw [show sideF R C cu (some s) r c t last = none from by first | (simp [sideF, *]; done) | (simp [sideF, *] <;> omega) | (exfalso; simp_all)]; rfl, rfl⟩)
            · have e49 : cu (r * C + c) = 99 := (eI_m1 (by rcases hcu _ (cell_lt c14 c26) with e | e <;> omega)).mp c49
              refine j_iload_n dX1_sideAfter_52 rfl 2 rfl ?_
              exact j_iret (tys' := []) rfl hR dX1_sideAfter_53 (⟨by rw [show sideF R C cu (some s) r c t last = (some s) from by first | (simp [sideF, *]; done) | (simp [sideF, *] <;> omega) | (exfalso; simp_all)]; rfl, rfl⟩)
          · refine j_iload_n dX1_sideAfter_29 rfl 1 rfl ?_
            exact j_iret (tys' := []) rfl hR dX1_sideAfter_30 (⟨by rw [show sideF R C cu (some s) r c t last = (some s) from by first | (simp [sideF, *]; done) | (simp [sideF, *] <;> omega) | (exfalso; simp_all)]; rfl, rfl⟩)

theorem c_side (l : Launch) (hfl : l.flags = flags0) (D : va_G) (cI cJ cZ : ClassId) (q : Nat → Nat) (R C : Nat) (hG : GS R C) (dr sz : Nat) (sa : Bool) (cu fi st : Nat → Nat) (lo hi : Nat → Option Nat) (wa sw : Nat → Nat) (hcu : CU R C cu) (x : Option Nat) (hs : ∀ s, x = some s → s < 8 ^ 8) (r c : Nat) (hr : r < 100) (hc : c < 100) (t last : Bool) : Ct l yX1_sideAfter cX1_sideAfter 8 (Option.some FieldType.int) ({ frames := 1, cells := 0, slots := 0, locals := 22 } : Room) D (tys3 cI cJ cZ) (tys3 cI cJ cZ) (wX cI cZ q R C dr sz sa cu fi st lo hi wa sw) [.ref (q 1), .int (oI x), .int (eI r), .int (eI c), .int (bI t), .int (bI last)] (fun r0 u => r0 = some (.int (oI (sideF R C cu x r c t last))) ∧ u = wX cI cZ q R C dr sz sa cu fi st lo hi wa sw) 0 0 := by
  have hR4 := hG.2.1
  have hC3 := hG.2.2.2
  cases x with
  | none => exact c_side_d l hfl D cI cJ cZ q R C hG dr sz sa cu fi st lo hi wa sw (eI r) (eI c) t last
  | some s =>
    have hs := hs s rfl
    by_cases h1 : r = 99
    · subst h1
      have e : sideF R C cu (some s) 99 c t last = some s := by simp [sideF]; omega
      rw [e, eI_99]
      exact c_side_r l hfl D cI cJ cZ q R C hG dr sz sa cu fi st lo hi wa sw s hs (eI c) t last
    · rw [eI_ne h1]
      by_cases h2 : c = 99
      · subst h2
        have e : sideF R C cu (some s) r 99 t last = some s := by simp [sideF]; omega
        rw [e, eI_99]
        exact c_side_c l hfl D cI cJ cZ q R C hG dr sz sa cu fi st lo hi wa sw s hs r hr t last
      · rw [eI_ne h2]
        exact c_side_n l hfl D cI cJ cZ q R C hG dr sz sa cu fi st lo hi wa sw hcu s hs r c (by omega) (by omega) t last
set_option maxHeartbeats 4000000 in
set_option maxRecDepth 100000 in
theorem c_cluesAfter (l : Launch) (hfl : l.flags = flags0) (D : va_G) (cI cJ cZ : ClassId) (q : Nat → Nat) (R C : Nat) (hG : GS R C) (dr sz : Nat) (sa : Bool) (cu fi st : Nat → Nat) (lo hi : Nat → Option Nat) (wa sw : Nat → Nat) (hcu : CU R C cu) (s e : Nat) (hs : s < 8 ^ 8) (he : e < nE R C) (t : Bool) : Ct l yX1_cluesAfter cX1_cluesAfter 6 (Option.some FieldType.int) ({ frames := 2, cells := 0, slots := 0, locals := 49 } : Room) D (tys3 cI cJ cZ) (tys3 cI cJ cZ) (wX cI cZ q R C dr sz sa cu fi st lo hi wa sw) [.ref (q 1), .int (nI (s)), .int (nI (e)), .int (bI (t))] (fun r u => r = some (.int (oI (cluesF R C cu s e t))) ∧ u = wX cI cZ q R C dr sz sa cu fi st lo hi wa sw) 0 0 := by
  refine Ct.of hfl (by decide) (Nat.le_of_ble_eq_true rfl) ?_
  intro k hR _
  have hR4 := hG.2.1
  have hC3 := hG.2.2.2
  have hR1 := hG.1
  have hC1 := hG.2.2.1
  have hE := hG.E
  have hRC := hG.RC
  have hro := hG.row he
  have hco := hG.col he
  show V k l D (tys3 cI cJ cZ) ({ frames := 2, cells := 0, slots := 0, locals := 49 } : Room) cX1_cluesAfter 6 RX1 (wX cI cZ q R C dr sz sa cu fi st lo hi wa sw) 0 0 0 [(0, .ref (q 1)), (1, .int (nI (s))), (2, .int (nI (e))), (3, .int (bI (t)))] []
  refine j_aload_n dX1_cluesAfter_0 rfl 0 rfl ?_
  refine gf_X1_21 1 rfl (rfl) dX1_cluesAfter_1 ?_
  refine j_iload_n dX1_cluesAfter_4 rfl 2 rfl ?_
  refine jn_iald (v := nI (tRow R C e)) 3 0 rfl rfl (he) (by omega) (rfl) dX1_cluesAfter_5 ?_
  refine j_istore [(4, .int (nI (tRow R C e))), (0, .ref (q 1)), (1, .int (nI (s))), (2, .int (nI (e))), (3, .int (bI (t)))] dX1_cluesAfter_6 (by decide) rfl ?_
  refine j_aload_n dX1_cluesAfter_8 rfl 1 rfl ?_
  refine gf_X1_25 1 rfl (rfl) dX1_cluesAfter_9 ?_
  refine j_iload_n dX1_cluesAfter_12 rfl 3 rfl ?_
  refine jn_iald (v := nI (tCol R C e)) 4 0 rfl rfl (he) (by omega) (rfl) dX1_cluesAfter_13 ?_
  refine j_istore [(5, .int (nI (tCol R C e))), (4, .int (nI (tRow R C e))), (0, .ref (q 1)), (1, .int (nI (s))), (2, .int (nI (e))), (3, .int (bI (t)))] dX1_cluesAfter_14 (by decide) rfl ?_
  refine j_aload_n dX1_cluesAfter_16 rfl 2 rfl ?_
  refine gf_X1_28 1 rfl (rfl) dX1_cluesAfter_17 ?_
  refine j_iload_n dX1_cluesAfter_20 rfl 4 rfl ?_
  refine jn_zald (v := bI ((tDown R C e))) 5 2 rfl rfl (he) (by omega) (rfl) dX1_cluesAfter_21 ?_
  refine jb_if_eq (tgt := 49) (b := (tDown R C e)) dX1_cluesAfter_22 (by decide) (fun c22 => ?_) (fun c22 => ?_)
  · have hcl := hG.colF he c22
    refine j_aload_n dX1_cluesAfter_49 rfl 2 rfl ?_
    refine j_aload_n dX1_cluesAfter_50 rfl 2 rfl ?_
    refine j_iload_n dX1_cluesAfter_51 rfl 3 rfl ?_
    refine j_iload dX1_cluesAfter_52 1 rfl ?_
    refine j_iconst (v := nI (1)) dX1_cluesAfter_54 (by decide) ?_
    refine j_isub dX1_cluesAfter_55 rfl ?_
    refine j_topi (y := eI (pd (tRow R C e))) (eI_pd (by omega)) ?_
    refine j_iload dX1_cluesAfter_56 0 rfl ?_
    refine j_iload_n dX1_cluesAfter_58 rfl 5 rfl ?_
    refine j_iconst (v := nI (1)) dX1_cluesAfter_59 (by decide) ?_
    refine j_st (st' := [.int (nI (1)), .int (bI (t)), .int (eI (tCol R C e)), .int (eI (pd (tRow R C e))), .int (nI (s)), .ref (q 1), .ref (q 1)]) (by rw [show nI (tCol R C e) = eI (tCol R C e) from (eI_ne (by omega)).symm] <;> rfl) ?_
    refine j_st (st' := [.int (bI (true)), .int (bI (t)), .int (eI (tCol R C e)), .int (eI (pd (tRow R C e))), .int (nI (s)), .ref (q 1), .ref (q 1)]) (by rfl) ?_
    refine j_vW (av := [.int (nI (s)), .int (eI (pd (tRow R C e))), .int (eI (tCol R C e)), .int (bI (t)), .int (bI (true))]) (c_side l hfl D cI cJ cZ q R C hG dr sz sa cu fi st lo hi wa sw hcu (some (s)) (fun z hz => by cases hz; exact hs) (pd (tRow R C e)) (tCol R C e) (by first | omega | (unfold pd; split <;> omega)) (by first | omega | (unfold pd; split <;> omega)) (t) (true)) 1 rfl rfl mw1_152 mw1_154 msel2 mw1_2 mw1_155 rfl hd_X1_sideAfter rfl ⟨rfl, rfl⟩ ⟨Nat.le_of_ble_eq_true rfl, Nat.le_of_ble_eq_true rfl⟩ ⟨Nat.zero_le _, Nat.zero_le _⟩ (Nat.le_of_ble_eq_true rfl) rfl dX1_cluesAfter_60 ?_
    rintro _ _ ⟨rfl, rfl⟩
    refine j_st (st' := [.int (oI (sideF R C cu (some (s)) (pd (tRow R C e)) (tCol R C e) t true)), .ref (q 1)]) rfl ?_
    refine j_iload dX1_cluesAfter_63 1 rfl ?_
    refine j_iload dX1_cluesAfter_65 0 rfl ?_
    refine j_iload_n dX1_cluesAfter_67 rfl 5 rfl ?_
    refine j_iconst (v := nI (0)) dX1_cluesAfter_68 (by decide) ?_
    refine j_st (st' := [.int (nI (0)), .int (bI (t)), .int (nI (tCol R C e)), .int (eI (tRow R C e)), .int (oI (sideF R C cu (some (s)) (pd (tRow R C e)) (tCol R C e) t true)), .ref (q 1)]) (by rw [show nI (tRow R C e) = eI (tRow R C e) from (eI_ne (by omega)).symm] <;> rfl) ?_
    refine j_st (st' := [.int (nI (0)), .int (bI (t)), .int (eI (tCol R C e)), .int (eI (tRow R C e)), .int (oI (sideF R C cu (some (s)) (pd (tRow R C e)) (tCol R C e) t true)), .ref (q 1)]) (by rw [show nI (tCol R C e) = eI (tCol R C e) from (eI_ne (by omega)).symm] <;> rfl) ?_
    refine j_st (st' := [.int (bI (false)), .int (bI (t)), .int (eI (tCol R C e)), .int (eI (tRow R C e)), .int (oI (sideF R C cu (some (s)) (pd (tRow R C e)) (tCol R C e) t true)), .ref (q 1)]) (by rfl) ?_
    refine j_vW (av := [.int (oI (sideF R C cu (some (s)) (pd (tRow R C e)) (tCol R C e) t true)), .int (eI (tRow R C e)), .int (eI (tCol R C e)), .int (bI (t)), .int (bI (false))]) (c_side l hfl D cI cJ cZ q R C hG dr sz sa cu fi st lo hi wa sw hcu (sideF R C cu (some (s)) (pd (tRow R C e)) (tCol R C e) t true) (fun z hz => sideF_lt hC3 hcu (fun y hy => by cases hy; exact hs) hz) (tRow R C e) (tCol R C e) (by first | omega | (unfold pd; split <;> omega)) (by first | omega | (unfold pd; split <;> omega)) (t) (false)) 1 rfl rfl mw1_152 mw1_154 msel2 mw1_2 mw1_155 rfl hd_X1_sideAfter rfl ⟨rfl, rfl⟩ ⟨Nat.le_of_ble_eq_true rfl, Nat.le_of_ble_eq_true rfl⟩ ⟨Nat.zero_le _, Nat.zero_le _⟩ (Nat.le_of_ble_eq_true rfl) rfl dX1_cluesAfter_69 ?_
    rintro _ _ ⟨rfl, rfl⟩
    refine j_st (st' := [.int (oI (sideF R C cu (sideF R C cu (some (s)) (pd (tRow R C e)) (tCol R C e) t true) (tRow R C e) (tCol R C e) t false))]) rfl ?_
    exact j_iret (tys' := []) rfl hR dX1_cluesAfter_72 (⟨by rw [show cluesF R C cu s e t = sideF R C cu (sideF R C cu (some (s)) (pd (tRow R C e)) (tCol R C e) t true) (tRow R C e) (tCol R C e) t false from by simp [cluesF, *]], rfl⟩)
  · have hrl := hG.rowT he c22
    refine j_aload_n dX1_cluesAfter_25 rfl 2 rfl ?_
    refine j_aload_n dX1_cluesAfter_26 rfl 2 rfl ?_
    refine j_iload_n dX1_cluesAfter_27 rfl 3 rfl ?_
    refine j_iload dX1_cluesAfter_28 1 rfl ?_
    refine j_iload dX1_cluesAfter_30 0 rfl ?_
    refine j_iconst (v := nI (1)) dX1_cluesAfter_32 (by decide) ?_
    refine j_isub dX1_cluesAfter_33 rfl ?_
    refine j_topi (y := eI (pd (tCol R C e))) (eI_pd (by omega)) ?_
    refine j_iload_n dX1_cluesAfter_34 rfl 5 rfl ?_
    refine j_iconst (v := nI (0)) dX1_cluesAfter_35 (by decide) ?_
    refine j_st (st' := [.int (nI (0)), .int (bI (t)), .int (eI (pd (tCol R C e))), .int (eI (tRow R C e)), .int (nI (s)), .ref (q 1), .ref (q 1)]) (by rw [show nI (tRow R C e) = eI (tRow R C e) from (eI_ne (by omega)).symm] <;> rfl) ?_
    refine j_st (st' := [.int (bI (false)), .int (bI (t)), .int (eI (pd (tCol R C e))), .int (eI (tRow R C e)), .int (nI (s)), .ref (q 1), .ref (q 1)]) (by rfl) ?_
    refine j_vW (av := [.int (nI (s)), .int (eI (tRow R C e)), .int (eI (pd (tCol R C e))), .int (bI (t)), .int (bI (false))]) (c_side l hfl D cI cJ cZ q R C hG dr sz sa cu fi st lo hi wa sw hcu (some (s)) (fun z hz => by cases hz; exact hs) (tRow R C e) (pd (tCol R C e)) (by first | omega | (unfold pd; split <;> omega)) (by first | omega | (unfold pd; split <;> omega)) (t) (false)) 1 rfl rfl mw1_152 mw1_154 msel2 mw1_2 mw1_155 rfl hd_X1_sideAfter rfl ⟨rfl, rfl⟩ ⟨Nat.le_of_ble_eq_true rfl, Nat.le_of_ble_eq_true rfl⟩ ⟨Nat.zero_le _, Nat.zero_le _⟩ (Nat.le_of_ble_eq_true rfl) rfl dX1_cluesAfter_36 ?_
    rintro _ _ ⟨rfl, rfl⟩
    refine j_st (st' := [.int (oI (sideF R C cu (some (s)) (tRow R C e) (pd (tCol R C e)) t false)), .ref (q 1)]) rfl ?_
    refine j_iload dX1_cluesAfter_39 1 rfl ?_
    refine j_iload dX1_cluesAfter_41 0 rfl ?_
    refine j_iload_n dX1_cluesAfter_43 rfl 5 rfl ?_
    refine j_iconst (v := nI (0)) dX1_cluesAfter_44 (by decide) ?_
    refine j_st (st' := [.int (nI (0)), .int (bI (t)), .int (nI (tCol R C e)), .int (eI (tRow R C e)), .int (oI (sideF R C cu (some (s)) (tRow R C e) (pd (tCol R C e)) t false)), .ref (q 1)]) (by rw [show nI (tRow R C e) = eI (tRow R C e) from (eI_ne (by omega)).symm] <;> rfl) ?_
    refine j_st (st' := [.int (nI (0)), .int (bI (t)), .int (eI (tCol R C e)), .int (eI (tRow R C e)), .int (oI (sideF R C cu (some (s)) (tRow R C e) (pd (tCol R C e)) t false)), .ref (q 1)]) (by rw [show nI (tCol R C e) = eI (tCol R C e) from (eI_ne (by omega)).symm] <;> rfl) ?_
    refine j_st (st' := [.int (bI (false)), .int (bI (t)), .int (eI (tCol R C e)), .int (eI (tRow R C e)), .int (oI (sideF R C cu (some (s)) (tRow R C e) (pd (tCol R C e)) t false)), .ref (q 1)]) (by rfl) ?_
    refine j_vW (av := [.int (oI (sideF R C cu (some (s)) (tRow R C e) (pd (tCol R C e)) t false)), .int (eI (tRow R C e)), .int (eI (tCol R C e)), .int (bI (t)), .int (bI (false))]) (c_side l hfl D cI cJ cZ q R C hG dr sz sa cu fi st lo hi wa sw hcu (sideF R C cu (some (s)) (tRow R C e) (pd (tCol R C e)) t false) (fun z hz => sideF_lt hC3 hcu (fun y hy => by cases hy; exact hs) hz) (tRow R C e) (tCol R C e) (by first | omega | (unfold pd; split <;> omega)) (by first | omega | (unfold pd; split <;> omega)) (t) (false)) 1 rfl rfl mw1_152 mw1_154 msel2 mw1_2 mw1_155 rfl hd_X1_sideAfter rfl ⟨rfl, rfl⟩ ⟨Nat.le_of_ble_eq_true rfl, Nat.le_of_ble_eq_true rfl⟩ ⟨Nat.zero_le _, Nat.zero_le _⟩ (Nat.le_of_ble_eq_true rfl) rfl dX1_cluesAfter_45 ?_
    rintro _ _ ⟨rfl, rfl⟩
    refine j_st (st' := [.int (oI (sideF R C cu (sideF R C cu (some (s)) (tRow R C e) (pd (tCol R C e)) t false) (tRow R C e) (tCol R C e) t false))]) rfl ?_
    exact j_iret (tys' := []) rfl hR dX1_cluesAfter_48 (⟨by rw [show cluesF R C cu s e t = sideF R C cu (sideF R C cu (some (s)) (tRow R C e) (pd (tCol R C e)) t false) (tRow R C e) (tCol R C e) t false from by simp [cluesF, *]], rfl⟩)

set_option maxHeartbeats 4000000 in
set_option maxRecDepth 100000 in
theorem c_pointsAfter (l : Launch) (hfl : l.flags = flags0) (D : va_G) (cI cJ cZ : ClassId) (q : Nat → Nat) (R C : Nat) (hG : GS R C) (dr sz : Nat) (sa : Bool) (cu fi st : Nat → Nat) (lo hi : Nat → Option Nat) (wa sw : Nat → Nat) (s e : Nat) (hs : s < 8 ^ 8) (he : e < nE R C) (t : Bool) : Ct l yX1_pointsAfter cX1_pointsAfter 7 (Option.some FieldType.int) ({ frames := 2, cells := 0, slots := 0, locals := 48 } : Room) D (tys3 cI cJ cZ) (tys3 cI cJ cZ) (wX cI cZ q R C dr sz sa cu fi st lo hi wa sw) [.ref (q 1), .int (nI (s)), .int (nI (e)), .int (bI (t))] (fun r u => r = some (.int (oI (pointsF R C s e t))) ∧ u = wX cI cZ q R C dr sz sa cu fi st lo hi wa sw) 0 0 := by
  refine Ct.of hfl (by decide) (Nat.le_of_ble_eq_true rfl) ?_
  intro k hR _
  have hR4 := hG.2.1
  have hC3 := hG.2.2.2
  have hR1 := hG.1
  have hC1 := hG.2.2.1
  have hE := hG.E
  have hRC := hG.RC
  have hro := hG.row he
  have hco := hG.col he
  have hla := hG.last
  show V k l D (tys3 cI cJ cZ) ({ frames := 2, cells := 0, slots := 0, locals := 48 } : Room) cX1_pointsAfter 7 RX1 (wX cI cZ q R C dr sz sa cu fi st lo hi wa sw) 0 0 0 [(0, .ref (q 1)), (1, .int (nI (s))), (2, .int (nI (e))), (3, .int (bI (t)))] []
  refine j_aload_n dX1_pointsAfter_0 rfl 0 rfl ?_
  refine gf_X1_25 1 rfl (rfl) dX1_pointsAfter_1 ?_
  refine j_iload_n dX1_pointsAfter_4 rfl 2 rfl ?_
  refine jn_iald (v := nI (tCol R C e)) 4 0 rfl rfl (he) (by omega) (rfl) dX1_pointsAfter_5 ?_
  refine j_istore [(4, .int (nI (tCol R C e))), (0, .ref (q 1)), (1, .int (nI (s))), (2, .int (nI (e))), (3, .int (bI (t)))] dX1_pointsAfter_6 (by decide) rfl ?_
  refine j_aload_n dX1_pointsAfter_8 rfl 1 rfl ?_
  refine gf_X1_28 1 rfl (rfl) dX1_pointsAfter_9 ?_
  refine j_iload_n dX1_pointsAfter_12 rfl 3 rfl ?_
  refine jn_zald (v := bI ((tDown R C e))) 5 2 rfl rfl (he) (by omega) (rfl) dX1_pointsAfter_13 ?_
  refine jb_if_eq (tgt := 25) (b := (tDown R C e)) dX1_pointsAfter_14 (by decide) (fun c14 => ?_) (fun c14 => ?_)
  · have hcl := hG.colF he c14
    refine j_iload_n dX1_pointsAfter_25 rfl 4 rfl ?_
    refine jb_if_eq (tgt := 38) (b := t) dX1_pointsAfter_26 (by decide) (fun c26 => ?_) (fun c26 => ?_)
    · refine j_iload_n dX1_pointsAfter_38 rfl 2 rfl ?_
      refine j_istore [(5, .int (nI (s))), (4, .int (nI (tCol R C e))), (0, .ref (q 1)), (1, .int (nI (s))), (2, .int (nI (e))), (3, .int (bI (t)))] dX1_pointsAfter_39 (by decide) rfl ?_
      refine j_aload_n dX1_pointsAfter_41 rfl 2 rfl ?_
      refine gf_X1_21 1 rfl (rfl) dX1_pointsAfter_42 ?_
      refine j_iload_n dX1_pointsAfter_45 rfl 4 rfl ?_
      refine jn_iald (v := nI (tRow R C e)) 3 0 rfl rfl (he) (by omega) (rfl) dX1_pointsAfter_46 ?_
      refine j_aload_n dX1_pointsAfter_47 rfl 2 rfl ?_
      refine gf_X1_11 1 rfl (rfl) dX1_pointsAfter_48 ?_
      refine jn_icmp_ne (tgt := 63) (a := tRow R C e) (b := R) (by omega) (by omega) dX1_pointsAfter_51 (by decide) (fun c51 => ?_) (fun c51 => ?_)
      · have h2 : ∀ y, (some (s)) = some y → y < 8 ^ 8 := fun y hy => by
          first | (cases hy; exact hs) | exact joinedF_lt hs (by omega) hy | exact endedF_lt (fun w hw => by first | (cases hw; exact hs) | exact joinedF_lt hs (by omega) hw) (by omega) hy
        refine j_iload_n dX1_pointsAfter_63 rfl 4 rfl ?_
        refine j_aload_n dX1_pointsAfter_64 rfl 2 rfl ?_
        refine gf_X1_18 1 rfl (rfl) dX1_pointsAfter_65 ?_
        refine j_iconst (v := nI (1)) dX1_pointsAfter_68 (by decide) ?_
        refine jn_isub dX1_pointsAfter_69 (by omega) rfl ?_
        refine jn_icmp_ne (tgt := 120) (a := e) (b := (nE R C) - 1) (by omega) (by omega) dX1_pointsAfter_70 (by decide) (fun c70 => ?_) (fun c70 => ?_)
        · refine j_iload dX1_pointsAfter_120 0 rfl ?_
          exact j_iret (tys' := []) rfl hR dX1_pointsAfter_122 (⟨by rw [show pointsF R C s e t = some s from by first | (simp [pointsF, c14, c26, c51, c70]; done) | (exfalso; simp_all)]; rfl, rfl⟩)
        · refine j_iload dX1_pointsAfter_73 0 rfl ?_
          refine j_iload dX1_pointsAfter_75 1 rfl ?_
          refine j_iconst (v := nI (1)) dX1_pointsAfter_77 (by decide) ?_
          refine jn_iadd (v := (tCol R C e) + 1) dX1_pointsAfter_78 rfl ?_
          refine j_s0 (av := [.int (nI (s)), .int (nI ((tCol R C e) + 1))]) (r0 := .int (oI (endedF (some (s)) ((tCol R C e) + 1)))) (c_ended l hfl D (tys3 cI cJ cZ) (some (s)) ((tCol R C e) + 1) (h2) (by omega)) mw1_145 mw1_146 mw1_2 mw1_147 hd_X1_ended rfl ⟨rfl, rfl⟩ ⟨Nat.le_of_ble_eq_true rfl, Nat.le_of_ble_eq_true rfl⟩ ⟨Nat.zero_le _, Nat.zero_le _⟩ (Nat.le_of_ble_eq_true rfl) rfl dX1_pointsAfter_79 ?_
          refine j_istore [(5, .int (oI (endedF (some (s)) ((tCol R C e) + 1)))), (4, .int (nI (tCol R C e))), (0, .ref (q 1)), (1, .int (nI (s))), (2, .int (nI (e))), (3, .int (bI (t)))] dX1_pointsAfter_82 (by decide) rfl ?_
          refine j_iload dX1_pointsAfter_84 0 rfl ?_
          refine j_iconst (v := (-1)) dX1_pointsAfter_86 (by decide) ?_
          refine j_icmp_eq (tgt := 105) dX1_pointsAfter_87 (by decide) (fun c87 => ?_) (fun c87 => ?_)
          · have e87 := (oI_m1 (fun w hw => Nat.lt_of_lt_of_le (endedF_lt (fun y hy => h2 y hy) (by omega) hw) (by decide))).mp c87
            refine j_iconst (v := nI (0)) dX1_pointsAfter_105 (by decide) ?_
            refine j_istore [(6, .int (nI (0))), (5, .int (oI (endedF (some (s)) ((tCol R C e) + 1)))), (4, .int (nI (tCol R C e))), (0, .ref (q 1)), (1, .int (nI (s))), (2, .int (nI (e))), (3, .int (bI (t)))] dX1_pointsAfter_106 (by decide) rfl ?_
            refine j_iload dX1_pointsAfter_108 0 rfl ?_
            refine jn_if_eq (tgt := 118) (a := 0) (by omega) dX1_pointsAfter_110 (by decide) (fun c110 => ?_) (fun c110 => ?_)
            · refine j_iconst (v := (-1)) dX1_pointsAfter_118 (by decide) ?_
              exact j_iret (tys' := []) rfl hR dX1_pointsAfter_119 (⟨by rw [show pointsF R C s e t = none from by first | (simp [pointsF, c14, c26, c51, eq_true c70, eq_true c110, e87]; done) | (exfalso; simp_all)]; rfl, rfl⟩)
            · exact absurd c110 (by first | decide | omega)
          · obtain ⟨z, hz⟩ : ∃ z, endedF (some (s)) ((tCol R C e) + 1) = some z := by
              cases h9 : endedF (some (s)) ((tCol R C e) + 1) with
              | none => exact absurd (by rw [h9]; rfl) c87
              | some z => exact ⟨z, rfl⟩
            have hz8 : z < 8 ^ 8 := endedF_lt (fun y hy => h2 y hy) (by omega) hz
            refine j_lv (lv' := [(5, .int (nI (z))), (4, .int (nI (tCol R C e))), (0, .ref (q 1)), (1, .int (nI (s))), (2, .int (nI (e))), (3, .int (bI (t)))]) (by rw [hz]; rfl) ?_
            refine j_iload dX1_pointsAfter_90 0 rfl ?_
            refine j_bipush (v := nI (7)) dX1_pointsAfter_92 (by decide) ?_
            refine j_s0 (av := [.int (nI (z)), .int (nI (7))]) (r0 := .int (nI (sl z 7))) (c_slot l hfl D (tys3 cI cJ cZ) (z) (7) (by repeat first | assumption | omega | exact sl_lt _ _ | exact slN | apply pt31 | apply pt_lt) (by repeat first | assumption | omega | exact sl_lt _ _ | exact slN | apply pt31 | apply pt_lt)) mw1_133 mw1_134 mw1_2 mw1_135 hd_X1_slot rfl ⟨rfl, rfl⟩ ⟨Nat.le_of_ble_eq_true rfl, Nat.le_of_ble_eq_true rfl⟩ ⟨Nat.zero_le _, Nat.zero_le _⟩ (Nat.le_of_ble_eq_true rfl) rfl dX1_pointsAfter_94 ?_
            refine j_iconst (v := nI (1)) dX1_pointsAfter_97 (by decide) ?_
            refine jn_icmp_ne (tgt := 105) (a := sl z 7) (b := 1) (slN) (by omega) dX1_pointsAfter_98 (by decide) (fun c98 => ?_) (fun c98 => ?_)
            · refine j_iconst (v := nI (0)) dX1_pointsAfter_105 (by decide) ?_
              refine j_istore [(6, .int (nI (0))), (5, .int (nI (z))), (4, .int (nI (tCol R C e))), (0, .ref (q 1)), (1, .int (nI (s))), (2, .int (nI (e))), (3, .int (bI (t)))] dX1_pointsAfter_106 (by decide) rfl ?_
              refine j_iload dX1_pointsAfter_108 0 rfl ?_
              refine jn_if_eq (tgt := 118) (a := 0) (by omega) dX1_pointsAfter_110 (by decide) (fun c110 => ?_) (fun c110 => ?_)
              · refine j_iconst (v := (-1)) dX1_pointsAfter_118 (by decide) ?_
                exact j_iret (tys' := []) rfl hR dX1_pointsAfter_119 (⟨by rw [show pointsF R C s e t = none from by first | (simp [pointsF, c14, c26, c51, eq_true c70, hz, c98, eq_true c110]; done) | (exfalso; simp_all)]; rfl, rfl⟩)
              · exact absurd c110 (by first | decide | omega)
            · refine j_iconst (v := nI (1)) dX1_pointsAfter_101 (by decide) ?_
              refine j_goto (tgt := 106) dX1_pointsAfter_102 (by decide) ?_
              refine j_istore [(6, .int (nI (1))), (5, .int (nI (z))), (4, .int (nI (tCol R C e))), (0, .ref (q 1)), (1, .int (nI (s))), (2, .int (nI (e))), (3, .int (bI (t)))] dX1_pointsAfter_106 (by decide) rfl ?_
              refine j_iload dX1_pointsAfter_108 0 rfl ?_
              refine jn_if_eq (tgt := 118) (a := 1) (by omega) dX1_pointsAfter_110 (by decide) (fun c110 => ?_) (fun c110 => ?_)
              · exact absurd c110 (by first | decide | omega)
              · refine j_iload dX1_pointsAfter_113 1 rfl ?_
                refine j_goto (tgt := 119) dX1_pointsAfter_115 (by decide) ?_
                exact j_iret (tys' := []) rfl hR dX1_pointsAfter_119 (⟨by rw [show pointsF R C s e t = some z from by first | (simp [pointsF, c14, c26, c51, eq_true c70, hz, eq_true c98, c110]; done) | (exfalso; simp_all)]; rfl, rfl⟩)
      · refine j_iload dX1_pointsAfter_54 0 rfl ?_
        refine j_iload dX1_pointsAfter_56 1 rfl ?_
        refine j_s0 (av := [.int (nI (s)), .int (nI (tCol R C e))]) (r0 := .int (oI (endedF (some (s)) (tCol R C e)))) (c_ended l hfl D (tys3 cI cJ cZ) (some (s)) (tCol R C e) (fun y hy => by first | (cases hy; exact hs) | exact joinedF_lt hs (by omega) hy) (by omega)) mw1_145 mw1_146 mw1_2 mw1_147 hd_X1_ended rfl ⟨rfl, rfl⟩ ⟨Nat.le_of_ble_eq_true rfl, Nat.le_of_ble_eq_true rfl⟩ ⟨Nat.zero_le _, Nat.zero_le _⟩ (Nat.le_of_ble_eq_true rfl) rfl dX1_pointsAfter_58 ?_
        refine j_istore [(5, .int (oI (endedF (some (s)) (tCol R C e)))), (4, .int (nI (tCol R C e))), (0, .ref (q 1)), (1, .int (nI (s))), (2, .int (nI (e))), (3, .int (bI (t)))] dX1_pointsAfter_61 (by decide) rfl ?_
        have h2 : ∀ y, (endedF (some (s)) (tCol R C e)) = some y → y < 8 ^ 8 := fun y hy => by
          first | (cases hy; exact hs) | exact joinedF_lt hs (by omega) hy | exact endedF_lt (fun w hw => by first | (cases hw; exact hs) | exact joinedF_lt hs (by omega) hw) (by omega) hy
        refine j_iload_n dX1_pointsAfter_63 rfl 4 rfl ?_
        refine j_aload_n dX1_pointsAfter_64 rfl 2 rfl ?_
        refine gf_X1_18 1 rfl (rfl) dX1_pointsAfter_65 ?_
        refine j_iconst (v := nI (1)) dX1_pointsAfter_68 (by decide) ?_
        refine jn_isub dX1_pointsAfter_69 (by omega) rfl ?_
        refine jn_icmp_ne (tgt := 120) (a := e) (b := (nE R C) - 1) (by omega) (by omega) dX1_pointsAfter_70 (by decide) (fun c70 => ?_) (fun c70 => ?_)
        · refine j_iload dX1_pointsAfter_120 0 rfl ?_
          exact j_iret (tys' := []) rfl hR dX1_pointsAfter_122 (⟨by rw [show pointsF R C s e t = endedF (some (s)) (tCol R C e) from by first | (simp [pointsF, c14, c26, eq_true c51, c70]; done) | (exfalso; simp_all)], rfl⟩)
        · refine j_iload dX1_pointsAfter_73 0 rfl ?_
          refine j_iload dX1_pointsAfter_75 1 rfl ?_
          refine j_iconst (v := nI (1)) dX1_pointsAfter_77 (by decide) ?_
          refine jn_iadd (v := (tCol R C e) + 1) dX1_pointsAfter_78 rfl ?_
          refine j_s0 (av := [.int (oI (endedF (some (s)) (tCol R C e))), .int (nI ((tCol R C e) + 1))]) (r0 := .int (oI (endedF (endedF (some (s)) (tCol R C e)) ((tCol R C e) + 1)))) (c_ended l hfl D (tys3 cI cJ cZ) (endedF (some (s)) (tCol R C e)) ((tCol R C e) + 1) (h2) (by omega)) mw1_145 mw1_146 mw1_2 mw1_147 hd_X1_ended rfl ⟨rfl, rfl⟩ ⟨Nat.le_of_ble_eq_true rfl, Nat.le_of_ble_eq_true rfl⟩ ⟨Nat.zero_le _, Nat.zero_le _⟩ (Nat.le_of_ble_eq_true rfl) rfl dX1_pointsAfter_79 ?_
          refine j_istore [(5, .int (oI (endedF (endedF (some (s)) (tCol R C e)) ((tCol R C e) + 1)))), (4, .int (nI (tCol R C e))), (0, .ref (q 1)), (1, .int (nI (s))), (2, .int (nI (e))), (3, .int (bI (t)))] dX1_pointsAfter_82 (by decide) rfl ?_
          refine j_iload dX1_pointsAfter_84 0 rfl ?_
          refine j_iconst (v := (-1)) dX1_pointsAfter_86 (by decide) ?_
          refine j_icmp_eq (tgt := 105) dX1_pointsAfter_87 (by decide) (fun c87 => ?_) (fun c87 => ?_)
          · have e87 := (oI_m1 (fun w hw => Nat.lt_of_lt_of_le (endedF_lt (fun y hy => h2 y hy) (by omega) hw) (by decide))).mp c87
            refine j_iconst (v := nI (0)) dX1_pointsAfter_105 (by decide) ?_
            refine j_istore [(6, .int (nI (0))), (5, .int (oI (endedF (endedF (some (s)) (tCol R C e)) ((tCol R C e) + 1)))), (4, .int (nI (tCol R C e))), (0, .ref (q 1)), (1, .int (nI (s))), (2, .int (nI (e))), (3, .int (bI (t)))] dX1_pointsAfter_106 (by decide) rfl ?_
            refine j_iload dX1_pointsAfter_108 0 rfl ?_
            refine jn_if_eq (tgt := 118) (a := 0) (by omega) dX1_pointsAfter_110 (by decide) (fun c110 => ?_) (fun c110 => ?_)
            · refine j_iconst (v := (-1)) dX1_pointsAfter_118 (by decide) ?_
              exact j_iret (tys' := []) rfl hR dX1_pointsAfter_119 (⟨by rw [show pointsF R C s e t = none from by first | (simp [pointsF, c14, c26, eq_true c51, eq_true c70, eq_true c110, e87]; done) | (exfalso; simp_all)]; rfl, rfl⟩)
            · exact absurd c110 (by first | decide | omega)
          · obtain ⟨z, hz⟩ : ∃ z, endedF (endedF (some (s)) (tCol R C e)) ((tCol R C e) + 1) = some z := by
              cases h9 : endedF (endedF (some (s)) (tCol R C e)) ((tCol R C e) + 1) with
              | none => exact absurd (by rw [h9]; rfl) c87
              | some z => exact ⟨z, rfl⟩
            have hz8 : z < 8 ^ 8 := endedF_lt (fun y hy => h2 y hy) (by omega) hz
            refine j_lv (lv' := [(5, .int (nI (z))), (4, .int (nI (tCol R C e))), (0, .ref (q 1)), (1, .int (nI (s))), (2, .int (nI (e))), (3, .int (bI (t)))]) (by rw [hz]; rfl) ?_
            refine j_iload dX1_pointsAfter_90 0 rfl ?_
            refine j_bipush (v := nI (7)) dX1_pointsAfter_92 (by decide) ?_
            refine j_s0 (av := [.int (nI (z)), .int (nI (7))]) (r0 := .int (nI (sl z 7))) (c_slot l hfl D (tys3 cI cJ cZ) (z) (7) (by repeat first | assumption | omega | exact sl_lt _ _ | exact slN | apply pt31 | apply pt_lt) (by repeat first | assumption | omega | exact sl_lt _ _ | exact slN | apply pt31 | apply pt_lt)) mw1_133 mw1_134 mw1_2 mw1_135 hd_X1_slot rfl ⟨rfl, rfl⟩ ⟨Nat.le_of_ble_eq_true rfl, Nat.le_of_ble_eq_true rfl⟩ ⟨Nat.zero_le _, Nat.zero_le _⟩ (Nat.le_of_ble_eq_true rfl) rfl dX1_pointsAfter_94 ?_
            refine j_iconst (v := nI (1)) dX1_pointsAfter_97 (by decide) ?_
            refine jn_icmp_ne (tgt := 105) (a := sl z 7) (b := 1) (slN) (by omega) dX1_pointsAfter_98 (by decide) (fun c98 => ?_) (fun c98 => ?_)
            · refine j_iconst (v := nI (0)) dX1_pointsAfter_105 (by decide) ?_
              refine j_istore [(6, .int (nI (0))), (5, .int (nI (z))), (4, .int (nI (tCol R C e))), (0, .ref (q 1)), (1, .int (nI (s))), (2, .int (nI (e))), (3, .int (bI (t)))] dX1_pointsAfter_106 (by decide) rfl ?_
              refine j_iload dX1_pointsAfter_108 0 rfl ?_
              refine jn_if_eq (tgt := 118) (a := 0) (by omega) dX1_pointsAfter_110 (by decide) (fun c110 => ?_) (fun c110 => ?_)
              · refine j_iconst (v := (-1)) dX1_pointsAfter_118 (by decide) ?_
                exact j_iret (tys' := []) rfl hR dX1_pointsAfter_119 (⟨by rw [show pointsF R C s e t = none from by first | (simp [pointsF, c14, c26, eq_true c51, eq_true c70, hz, c98, eq_true c110]; done) | (exfalso; simp_all)]; rfl, rfl⟩)
              · exact absurd c110 (by first | decide | omega)
            · refine j_iconst (v := nI (1)) dX1_pointsAfter_101 (by decide) ?_
              refine j_goto (tgt := 106) dX1_pointsAfter_102 (by decide) ?_
              refine j_istore [(6, .int (nI (1))), (5, .int (nI (z))), (4, .int (nI (tCol R C e))), (0, .ref (q 1)), (1, .int (nI (s))), (2, .int (nI (e))), (3, .int (bI (t)))] dX1_pointsAfter_106 (by decide) rfl ?_
              refine j_iload dX1_pointsAfter_108 0 rfl ?_
              refine jn_if_eq (tgt := 118) (a := 1) (by omega) dX1_pointsAfter_110 (by decide) (fun c110 => ?_) (fun c110 => ?_)
              · exact absurd c110 (by first | decide | omega)
              · refine j_iload dX1_pointsAfter_113 1 rfl ?_
                refine j_goto (tgt := 119) dX1_pointsAfter_115 (by decide) ?_
                exact j_iret (tys' := []) rfl hR dX1_pointsAfter_119 (⟨by rw [show pointsF R C s e t = some z from by first | (simp [pointsF, c14, c26, eq_true c51, eq_true c70, hz, eq_true c98, c110]; done) | (exfalso; simp_all)]; rfl, rfl⟩)
    · refine j_iload_n dX1_pointsAfter_29 rfl 2 rfl ?_
      refine j_iload dX1_pointsAfter_30 0 rfl ?_
      refine j_s0 (av := [.int (nI (s)), .int (nI (tCol R C e))]) (r0 := .int (oI (joinedF s (tCol R C e)))) (c_joined l hfl D (tys3 cI cJ cZ) (s) (tCol R C e) (hs) (by omega)) mw1_142 mw1_143 mw1_2 mw1_144 hd_X1_joined rfl ⟨rfl, rfl⟩ ⟨Nat.le_of_ble_eq_true rfl, Nat.le_of_ble_eq_true rfl⟩ ⟨Nat.zero_le _, Nat.zero_le _⟩ (Nat.le_of_ble_eq_true rfl) rfl dX1_pointsAfter_32 ?_
      refine j_goto (tgt := 39) dX1_pointsAfter_35 (by decide) ?_
      refine j_istore [(5, .int (oI (joinedF s (tCol R C e)))), (4, .int (nI (tCol R C e))), (0, .ref (q 1)), (1, .int (nI (s))), (2, .int (nI (e))), (3, .int (bI (t)))] dX1_pointsAfter_39 (by decide) rfl ?_
      refine j_aload_n dX1_pointsAfter_41 rfl 2 rfl ?_
      refine gf_X1_21 1 rfl (rfl) dX1_pointsAfter_42 ?_
      refine j_iload_n dX1_pointsAfter_45 rfl 4 rfl ?_
      refine jn_iald (v := nI (tRow R C e)) 3 0 rfl rfl (he) (by omega) (rfl) dX1_pointsAfter_46 ?_
      refine j_aload_n dX1_pointsAfter_47 rfl 2 rfl ?_
      refine gf_X1_11 1 rfl (rfl) dX1_pointsAfter_48 ?_
      refine jn_icmp_ne (tgt := 63) (a := tRow R C e) (b := R) (by omega) (by omega) dX1_pointsAfter_51 (by decide) (fun c51 => ?_) (fun c51 => ?_)
      · have h2 : ∀ y, (joinedF s (tCol R C e)) = some y → y < 8 ^ 8 := fun y hy => by
          first | (cases hy; exact hs) | exact joinedF_lt hs (by omega) hy | exact endedF_lt (fun w hw => by first | (cases hw; exact hs) | exact joinedF_lt hs (by omega) hw) (by omega) hy
        refine j_iload_n dX1_pointsAfter_63 rfl 4 rfl ?_
        refine j_aload_n dX1_pointsAfter_64 rfl 2 rfl ?_
        refine gf_X1_18 1 rfl (rfl) dX1_pointsAfter_65 ?_
        refine j_iconst (v := nI (1)) dX1_pointsAfter_68 (by decide) ?_
        refine jn_isub dX1_pointsAfter_69 (by omega) rfl ?_
        refine jn_icmp_ne (tgt := 120) (a := e) (b := (nE R C) - 1) (by omega) (by omega) dX1_pointsAfter_70 (by decide) (fun c70 => ?_) (fun c70 => ?_)
        · refine j_iload dX1_pointsAfter_120 0 rfl ?_
          exact j_iret (tys' := []) rfl hR dX1_pointsAfter_122 (⟨by rw [show pointsF R C s e t = joinedF s (tCol R C e) from by first | (simp [pointsF, c14, c26, c51, c70]; done) | (exfalso; simp_all)], rfl⟩)
        · refine j_iload dX1_pointsAfter_73 0 rfl ?_
          refine j_iload dX1_pointsAfter_75 1 rfl ?_
          refine j_iconst (v := nI (1)) dX1_pointsAfter_77 (by decide) ?_
          refine jn_iadd (v := (tCol R C e) + 1) dX1_pointsAfter_78 rfl ?_
          refine j_s0 (av := [.int (oI (joinedF s (tCol R C e))), .int (nI ((tCol R C e) + 1))]) (r0 := .int (oI (endedF (joinedF s (tCol R C e)) ((tCol R C e) + 1)))) (c_ended l hfl D (tys3 cI cJ cZ) (joinedF s (tCol R C e)) ((tCol R C e) + 1) (h2) (by omega)) mw1_145 mw1_146 mw1_2 mw1_147 hd_X1_ended rfl ⟨rfl, rfl⟩ ⟨Nat.le_of_ble_eq_true rfl, Nat.le_of_ble_eq_true rfl⟩ ⟨Nat.zero_le _, Nat.zero_le _⟩ (Nat.le_of_ble_eq_true rfl) rfl dX1_pointsAfter_79 ?_
          refine j_istore [(5, .int (oI (endedF (joinedF s (tCol R C e)) ((tCol R C e) + 1)))), (4, .int (nI (tCol R C e))), (0, .ref (q 1)), (1, .int (nI (s))), (2, .int (nI (e))), (3, .int (bI (t)))] dX1_pointsAfter_82 (by decide) rfl ?_
          refine j_iload dX1_pointsAfter_84 0 rfl ?_
          refine j_iconst (v := (-1)) dX1_pointsAfter_86 (by decide) ?_
          refine j_icmp_eq (tgt := 105) dX1_pointsAfter_87 (by decide) (fun c87 => ?_) (fun c87 => ?_)
          · have e87 := (oI_m1 (fun w hw => Nat.lt_of_lt_of_le (endedF_lt (fun y hy => h2 y hy) (by omega) hw) (by decide))).mp c87
            refine j_iconst (v := nI (0)) dX1_pointsAfter_105 (by decide) ?_
            refine j_istore [(6, .int (nI (0))), (5, .int (oI (endedF (joinedF s (tCol R C e)) ((tCol R C e) + 1)))), (4, .int (nI (tCol R C e))), (0, .ref (q 1)), (1, .int (nI (s))), (2, .int (nI (e))), (3, .int (bI (t)))] dX1_pointsAfter_106 (by decide) rfl ?_
            refine j_iload dX1_pointsAfter_108 0 rfl ?_
            refine jn_if_eq (tgt := 118) (a := 0) (by omega) dX1_pointsAfter_110 (by decide) (fun c110 => ?_) (fun c110 => ?_)
            · refine j_iconst (v := (-1)) dX1_pointsAfter_118 (by decide) ?_
              exact j_iret (tys' := []) rfl hR dX1_pointsAfter_119 (⟨by rw [show pointsF R C s e t = none from by first | (simp [pointsF, c14, c26, c51, eq_true c70, eq_true c110, e87]; done) | (exfalso; simp_all)]; rfl, rfl⟩)
            · exact absurd c110 (by first | decide | omega)
          · obtain ⟨z, hz⟩ : ∃ z, endedF (joinedF s (tCol R C e)) ((tCol R C e) + 1) = some z := by
              cases h9 : endedF (joinedF s (tCol R C e)) ((tCol R C e) + 1) with
              | none => exact absurd (by rw [h9]; rfl) c87
              | some z => exact ⟨z, rfl⟩
            have hz8 : z < 8 ^ 8 := endedF_lt (fun y hy => h2 y hy) (by omega) hz
            refine j_lv (lv' := [(5, .int (nI (z))), (4, .int (nI (tCol R C e))), (0, .ref (q 1)), (1, .int (nI (s))), (2, .int (nI (e))), (3, .int (bI (t)))]) (by rw [hz]; rfl) ?_
            refine j_iload dX1_pointsAfter_90 0 rfl ?_
            refine j_bipush (v := nI (7)) dX1_pointsAfter_92 (by decide) ?_
            refine j_s0 (av := [.int (nI (z)), .int (nI (7))]) (r0 := .int (nI (sl z 7))) (c_slot l hfl D (tys3 cI cJ cZ) (z) (7) (by repeat first | assumption | omega | exact sl_lt _ _ | exact slN | apply pt31 | apply pt_lt) (by repeat first | assumption | omega | exact sl_lt _ _ | exact slN | apply pt31 | apply pt_lt)) mw1_133 mw1_134 mw1_2 mw1_135 hd_X1_slot rfl ⟨rfl, rfl⟩ ⟨Nat.le_of_ble_eq_true rfl, Nat.le_of_ble_eq_true rfl⟩ ⟨Nat.zero_le _, Nat.zero_le _⟩ (Nat.le_of_ble_eq_true rfl) rfl dX1_pointsAfter_94 ?_
            refine j_iconst (v := nI (1)) dX1_pointsAfter_97 (by decide) ?_
            refine jn_icmp_ne (tgt := 105) (a := sl z 7) (b := 1) (slN) (by omega) dX1_pointsAfter_98 (by decide) (fun c98 => ?_) (fun c98 => ?_)
            · refine j_iconst (v := nI (0)) dX1_pointsAfter_105 (by decide) ?_
              refine j_istore [(6, .int (nI (0))), (5, .int (nI (z))), (4, .int (nI (tCol R C e))), (0, .ref (q 1)), (1, .int (nI (s))), (2, .int (nI (e))), (3, .int (bI (t)))] dX1_pointsAfter_106 (by decide) rfl ?_
              refine j_iload dX1_pointsAfter_108 0 rfl ?_
              refine jn_if_eq (tgt := 118) (a := 0) (by omega) dX1_pointsAfter_110 (by decide) (fun c110 => ?_) (fun c110 => ?_)
              · refine j_iconst (v := (-1)) dX1_pointsAfter_118 (by decide) ?_
                exact j_iret (tys' := []) rfl hR dX1_pointsAfter_119 (⟨by rw [show pointsF R C s e t = none from by first | (simp [pointsF, c14, c26, c51, eq_true c70, hz, c98, eq_true c110]; done) | (exfalso; simp_all)]; rfl, rfl⟩)
              · exact absurd c110 (by first | decide | omega)
            · refine j_iconst (v := nI (1)) dX1_pointsAfter_101 (by decide) ?_
              refine j_goto (tgt := 106) dX1_pointsAfter_102 (by decide) ?_
              refine j_istore [(6, .int (nI (1))), (5, .int (nI (z))), (4, .int (nI (tCol R C e))), (0, .ref (q 1)), (1, .int (nI (s))), (2, .int (nI (e))), (3, .int (bI (t)))] dX1_pointsAfter_106 (by decide) rfl ?_
              refine j_iload dX1_pointsAfter_108 0 rfl ?_
              refine jn_if_eq (tgt := 118) (a := 1) (by omega) dX1_pointsAfter_110 (by decide) (fun c110 => ?_) (fun c110 => ?_)
              · exact absurd c110 (by first | decide | omega)
              · refine j_iload dX1_pointsAfter_113 1 rfl ?_
                refine j_goto (tgt := 119) dX1_pointsAfter_115 (by decide) ?_
                exact j_iret (tys' := []) rfl hR dX1_pointsAfter_119 (⟨by rw [show pointsF R C s e t = some z from by first | (simp [pointsF, c14, c26, c51, eq_true c70, hz, eq_true c98, c110]; done) | (exfalso; simp_all)]; rfl, rfl⟩)
      · refine j_iload dX1_pointsAfter_54 0 rfl ?_
        refine j_iload dX1_pointsAfter_56 1 rfl ?_
        refine j_s0 (av := [.int (oI (joinedF s (tCol R C e))), .int (nI (tCol R C e))]) (r0 := .int (oI (endedF (joinedF s (tCol R C e)) (tCol R C e)))) (c_ended l hfl D (tys3 cI cJ cZ) (joinedF s (tCol R C e)) (tCol R C e) (fun y hy => by first | (cases hy; exact hs) | exact joinedF_lt hs (by omega) hy) (by omega)) mw1_145 mw1_146 mw1_2 mw1_147 hd_X1_ended rfl ⟨rfl, rfl⟩ ⟨Nat.le_of_ble_eq_true rfl, Nat.le_of_ble_eq_true rfl⟩ ⟨Nat.zero_le _, Nat.zero_le _⟩ (Nat.le_of_ble_eq_true rfl) rfl dX1_pointsAfter_58 ?_
        refine j_istore [(5, .int (oI (endedF (joinedF s (tCol R C e)) (tCol R C e)))), (4, .int (nI (tCol R C e))), (0, .ref (q 1)), (1, .int (nI (s))), (2, .int (nI (e))), (3, .int (bI (t)))] dX1_pointsAfter_61 (by decide) rfl ?_
        have h2 : ∀ y, (endedF (joinedF s (tCol R C e)) (tCol R C e)) = some y → y < 8 ^ 8 := fun y hy => by
          first | (cases hy; exact hs) | exact joinedF_lt hs (by omega) hy | exact endedF_lt (fun w hw => by first | (cases hw; exact hs) | exact joinedF_lt hs (by omega) hw) (by omega) hy
        refine j_iload_n dX1_pointsAfter_63 rfl 4 rfl ?_
        refine j_aload_n dX1_pointsAfter_64 rfl 2 rfl ?_
        refine gf_X1_18 1 rfl (rfl) dX1_pointsAfter_65 ?_
        refine j_iconst (v := nI (1)) dX1_pointsAfter_68 (by decide) ?_
        refine jn_isub dX1_pointsAfter_69 (by omega) rfl ?_
        refine jn_icmp_ne (tgt := 120) (a := e) (b := (nE R C) - 1) (by omega) (by omega) dX1_pointsAfter_70 (by decide) (fun c70 => ?_) (fun c70 => ?_)
        · refine j_iload dX1_pointsAfter_120 0 rfl ?_
          exact j_iret (tys' := []) rfl hR dX1_pointsAfter_122 (⟨by rw [show pointsF R C s e t = endedF (joinedF s (tCol R C e)) (tCol R C e) from by first | (simp [pointsF, c14, c26, eq_true c51, c70]; done) | (exfalso; simp_all)], rfl⟩)
        · refine j_iload dX1_pointsAfter_73 0 rfl ?_
          refine j_iload dX1_pointsAfter_75 1 rfl ?_
          refine j_iconst (v := nI (1)) dX1_pointsAfter_77 (by decide) ?_
          refine jn_iadd (v := (tCol R C e) + 1) dX1_pointsAfter_78 rfl ?_
          refine j_s0 (av := [.int (oI (endedF (joinedF s (tCol R C e)) (tCol R C e))), .int (nI ((tCol R C e) + 1))]) (r0 := .int (oI (endedF (endedF (joinedF s (tCol R C e)) (tCol R C e)) ((tCol R C e) + 1)))) (c_ended l hfl D (tys3 cI cJ cZ) (endedF (joinedF s (tCol R C e)) (tCol R C e)) ((tCol R C e) + 1) (h2) (by omega)) mw1_145 mw1_146 mw1_2 mw1_147 hd_X1_ended rfl ⟨rfl, rfl⟩ ⟨Nat.le_of_ble_eq_true rfl, Nat.le_of_ble_eq_true rfl⟩ ⟨Nat.zero_le _, Nat.zero_le _⟩ (Nat.le_of_ble_eq_true rfl) rfl dX1_pointsAfter_79 ?_
          refine j_istore [(5, .int (oI (endedF (endedF (joinedF s (tCol R C e)) (tCol R C e)) ((tCol R C e) + 1)))), (4, .int (nI (tCol R C e))), (0, .ref (q 1)), (1, .int (nI (s))), (2, .int (nI (e))), (3, .int (bI (t)))] dX1_pointsAfter_82 (by decide) rfl ?_
          refine j_iload dX1_pointsAfter_84 0 rfl ?_
          refine j_iconst (v := (-1)) dX1_pointsAfter_86 (by decide) ?_
          refine j_icmp_eq (tgt := 105) dX1_pointsAfter_87 (by decide) (fun c87 => ?_) (fun c87 => ?_)
          · have e87 := (oI_m1 (fun w hw => Nat.lt_of_lt_of_le (endedF_lt (fun y hy => h2 y hy) (by omega) hw) (by decide))).mp c87
            refine j_iconst (v := nI (0)) dX1_pointsAfter_105 (by decide) ?_
            refine j_istore [(6, .int (nI (0))), (5, .int (oI (endedF (endedF (joinedF s (tCol R C e)) (tCol R C e)) ((tCol R C e) + 1)))), (4, .int (nI (tCol R C e))), (0, .ref (q 1)), (1, .int (nI (s))), (2, .int (nI (e))), (3, .int (bI (t)))] dX1_pointsAfter_106 (by decide) rfl ?_
            refine j_iload dX1_pointsAfter_108 0 rfl ?_
            refine jn_if_eq (tgt := 118) (a := 0) (by omega) dX1_pointsAfter_110 (by decide) (fun c110 => ?_) (fun c110 => ?_)
            · refine j_iconst (v := (-1)) dX1_pointsAfter_118 (by decide) ?_
              exact j_iret (tys' := []) rfl hR dX1_pointsAfter_119 (⟨by rw [show pointsF R C s e t = none from by first | (simp [pointsF, c14, c26, eq_true c51, eq_true c70, eq_true c110, e87]; done) | (exfalso; simp_all)]; rfl, rfl⟩)
            · exact absurd c110 (by first | decide | omega)
          · obtain ⟨z, hz⟩ : ∃ z, endedF (endedF (joinedF s (tCol R C e)) (tCol R C e)) ((tCol R C e) + 1) = some z := by
              cases h9 : endedF (endedF (joinedF s (tCol R C e)) (tCol R C e)) ((tCol R C e) + 1) with
              | none => exact absurd (by rw [h9]; rfl) c87
              | some z => exact ⟨z, rfl⟩
            have hz8 : z < 8 ^ 8 := endedF_lt (fun y hy => h2 y hy) (by omega) hz
            refine j_lv (lv' := [(5, .int (nI (z))), (4, .int (nI (tCol R C e))), (0, .ref (q 1)), (1, .int (nI (s))), (2, .int (nI (e))), (3, .int (bI (t)))]) (by rw [hz]; rfl) ?_
            refine j_iload dX1_pointsAfter_90 0 rfl ?_
            refine j_bipush (v := nI (7)) dX1_pointsAfter_92 (by decide) ?_
            refine j_s0 (av := [.int (nI (z)), .int (nI (7))]) (r0 := .int (nI (sl z 7))) (c_slot l hfl D (tys3 cI cJ cZ) (z) (7) (by repeat first | assumption | omega | exact sl_lt _ _ | exact slN | apply pt31 | apply pt_lt) (by repeat first | assumption | omega | exact sl_lt _ _ | exact slN | apply pt31 | apply pt_lt)) mw1_133 mw1_134 mw1_2 mw1_135 hd_X1_slot rfl ⟨rfl, rfl⟩ ⟨Nat.le_of_ble_eq_true rfl, Nat.le_of_ble_eq_true rfl⟩ ⟨Nat.zero_le _, Nat.zero_le _⟩ (Nat.le_of_ble_eq_true rfl) rfl dX1_pointsAfter_94 ?_
            refine j_iconst (v := nI (1)) dX1_pointsAfter_97 (by decide) ?_
            refine jn_icmp_ne (tgt := 105) (a := sl z 7) (b := 1) (slN) (by omega) dX1_pointsAfter_98 (by decide) (fun c98 => ?_) (fun c98 => ?_)
            · refine j_iconst (v := nI (0)) dX1_pointsAfter_105 (by decide) ?_
              refine j_istore [(6, .int (nI (0))), (5, .int (nI (z))), (4, .int (nI (tCol R C e))), (0, .ref (q 1)), (1, .int (nI (s))), (2, .int (nI (e))), (3, .int (bI (t)))] dX1_pointsAfter_106 (by decide) rfl ?_
              refine j_iload dX1_pointsAfter_108 0 rfl ?_
              refine jn_if_eq (tgt := 118) (a := 0) (by omega) dX1_pointsAfter_110 (by decide) (fun c110 => ?_) (fun c110 => ?_)
              · refine j_iconst (v := (-1)) dX1_pointsAfter_118 (by decide) ?_
                exact j_iret (tys' := []) rfl hR dX1_pointsAfter_119 (⟨by rw [show pointsF R C s e t = none from by first | (simp [pointsF, c14, c26, eq_true c51, eq_true c70, hz, c98, eq_true c110]; done) | (exfalso; simp_all)]; rfl, rfl⟩)
              · exact absurd c110 (by first | decide | omega)
            · refine j_iconst (v := nI (1)) dX1_pointsAfter_101 (by decide) ?_
              refine j_goto (tgt := 106) dX1_pointsAfter_102 (by decide) ?_
              refine j_istore [(6, .int (nI (1))), (5, .int (nI (z))), (4, .int (nI (tCol R C e))), (0, .ref (q 1)), (1, .int (nI (s))), (2, .int (nI (e))), (3, .int (bI (t)))] dX1_pointsAfter_106 (by decide) rfl ?_
              refine j_iload dX1_pointsAfter_108 0 rfl ?_
              refine jn_if_eq (tgt := 118) (a := 1) (by omega) dX1_pointsAfter_110 (by decide) (fun c110 => ?_) (fun c110 => ?_)
              · exact absurd c110 (by first | decide | omega)
              · refine j_iload dX1_pointsAfter_113 1 rfl ?_
                refine j_goto (tgt := 119) dX1_pointsAfter_115 (by decide) ?_
                exact j_iret (tys' := []) rfl hR dX1_pointsAfter_119 (⟨by rw [show pointsF R C s e t = some z from by first | (simp [pointsF, c14, c26, eq_true c51, eq_true c70, hz, eq_true c98, c110]; done) | (exfalso; simp_all)]; rfl, rfl⟩)
  · have hrl := hG.rowT he c14
    refine j_iload_n dX1_pointsAfter_17 rfl 2 rfl ?_
    refine j_iload dX1_pointsAfter_18 0 rfl ?_
    refine j_iload_n dX1_pointsAfter_20 rfl 4 rfl ?_
    refine j_s0 (av := [.int (nI (s)), .int (nI (tCol R C e)), .int (bI (t))]) (r0 := .int (oI (downF s (tCol R C e) t))) (c_down l hfl D (tys3 cI cJ cZ) (s) (tCol R C e) (t) (hs) (by omega)) mw1_130 mw1_131 mw1_2 mw1_132 hd_X1_downAfter rfl ⟨rfl, rfl⟩ ⟨Nat.le_of_ble_eq_true rfl, Nat.le_of_ble_eq_true rfl⟩ ⟨Nat.zero_le _, Nat.zero_le _⟩ (Nat.le_of_ble_eq_true rfl) rfl dX1_pointsAfter_21 ?_
    exact j_iret (tys' := []) rfl hR dX1_pointsAfter_24 (⟨by rw [show pointsF R C s e t = downF s (tCol R C e) t from by first | (simp [pointsF, c14]; done) | (exfalso; simp_all)], rfl⟩)
end
section
/-! the diagram in mathematics: levels, nodes, ways -/
def stepF (R C : Nat) (cu : Nat → Nat) (s e : Nat) (t : Bool) : Option Nat := match pointsF R C s e t with | none => none | some p => cluesF R C cu p e t
theorem cluesF_lt {R C : Nat} {cu : Nat → Nat} (hC : C ≤ 3) (hcu : CU R C cu) {s e : Nat} {t : Bool} (hs : s < 8 ^ 8) {z : Nat} (h : cluesF R C cu s e t = some z) : z < 8 ^ 8 := by
  unfold cluesF at h
  split at h
  · exact sideF_lt hC hcu (fun y hy => sideF_lt hC hcu (fun w hw => by cases hw; exact hs) hy) h
  · exact sideF_lt hC hcu (fun y hy => sideF_lt hC hcu (fun w hw => by cases hw; exact hs) hy) h
theorem stepF_lt {R C : Nat} {cu : Nat → Nat} (hG : GS R C) (hcu : CU R C cu) {s e : Nat} {t : Bool} (hs : s < 8 ^ 8) (he : e < nE R C) {z : Nat} (h : stepF R C cu s e t = some z) : z < 8 ^ 8 := by
  unfold stepF at h
  split at h
  · cases h
  · rename_i p hp
    exact cluesF_lt hG.2.2.2 hcu (pointsF_lt hG hs he hp) h
def ins (acc : List Nat) (x : Option Nat) : List Nat := match x with | none => acc | some t => if t ∈ acc then acc else acc ++ [t]
def exA (R C : Nat) (cu : Nat → Nat) (k : Nat) (acc l : List Nat) : List Nat := l.foldl (fun a s => ins (ins a (stepF R C cu s k false)) (stepF R C cu s k true)) acc
def LvS (R C : Nat) (cu : Nat → Nat) : Nat → List Nat
  | 0 => [1672]
  | k + 1 => exA R C cu k [] (LvS R C cu k)
def off (R C : Nat) (cu : Nat → Nat) : Nat → Nat
  | 0 => 0
  | k + 1 => off R C cu k + (LvS R C cu k).length
def oW (f : Nat → Nat) (x : Option Nat) : Nat := match x with | none => 0 | some t => f t
/-- in how many ways a state goes on to the end, with every wanted edge still to come -/
def WS (R C : Nat) (cu : Nat → Nat) (wn : Nat) : Nat → Nat → Nat → Nat
  | 0, _, _ => 1
  | n + 1, k, s => (if wn.testBit k then 0 else oW (WS R C cu wn n (k + 1)) (stepF R C cu s k false)) + oW (WS R C cu wn n (k + 1)) (stepF R C cu s k true)
def chOK (R C : Nat) (cu : Nat → Nat) (k : Nat) (x o : Option Nat) : Prop := match o with
  | none => x = none
  | some t => ∃ j, x = some (off R C cu (k + 1) + j) ∧ (LvS R C cu (k + 1))[j]? = some t
/-- the nodes stand -/
def Gr (R C : Nat) (cu : Nat → Nat) (sz : Nat) (fi st : Nat → Nat) (lo hi : Nat → Option Nat) : Prop :=
  sz = off R C cu (nE R C + 1) ∧ (∀ j, j ≤ nE R C + 1 → fi j = off R C cu j) ∧ (∀ k i s, k ≤ nE R C → (LvS R C cu k)[i]? = some s → st (off R C cu k + i) = s) ∧
  (∀ k i s, k < nE R C → (LvS R C cu k)[i]? = some s → chOK R C cu k (lo (off R C cu k + i)) (stepF R C cu s k false) ∧ chOK R C cu k (hi (off R C cu k + i)) (stepF R C cu s k true))
/-- the ways stand -/
def Wy (R C : Nat) (cu : Nat → Nat) (wn : Nat) (m : Nat) (f : Nat → Nat) : Prop := ∀ k i s, m ≤ k → k ≤ nE R C → (LvS R C cu k)[i]? = some s → f (off R C cu k + i) = WS R C cu wn (nE R C - k) k s
/-- what the counts of the grid keep to -/
def XOK (R C : Nat) (cu : Nat → Nat) : Prop := CU R C cu ∧ off R C cu (nE R C + 1) ≤ 1014 ∧ ∀ k, k ≤ nE R C → ∀ s, s ∈ LvS R C cu k → ∀ wn, WS R C cu wn (nE R C - k) k s < 2 ^ 31
theorem off_mono {R C : Nat} {cu : Nat → Nat} {j : Nat} : ∀ {k : Nat}, j ≤ k → off R C cu j ≤ off R C cu k
  | 0, h => by rw [Nat.le_zero.mp h]; exact Nat.le_refl _
  | k + 1, h => by
    rcases Nat.lt_or_ge j (k + 1) with q | q
    · exact Nat.le_trans (off_mono (Nat.le_of_lt_succ q)) (Nat.le_add_right _ _)
    · rw [Nat.le_antisymm h q]; exact Nat.le_refl _
theorem ins_pre (acc : List Nat) (x : Option Nat) : acc <+: ins acc x := by
  unfold ins
  split
  · exact List.prefix_refl _
  · split
    · exact List.prefix_refl _
    · exact List.prefix_append _ _
theorem exA_pre (R C : Nat) (cu : Nat → Nat) (k : Nat) : ∀ (l acc : List Nat), acc <+: exA R C cu k acc l
  | [], acc => List.prefix_refl _
  | s :: l, acc => ((ins_pre acc _).trans (ins_pre _ _)).trans (exA_pre R C cu k l _)
theorem exA_app (R C : Nat) (cu : Nat → Nat) (k : Nat) (acc a b : List Nat) : exA R C cu k acc (a ++ b) = exA R C cu k (exA R C cu k acc a) b := by
  unfold exA; rw [List.foldl_append]
theorem pre_get {a b : List Nat} (h : a <+: b) {j x : Nat} (hj : a[j]? = some x) : b[j]? = some x := by
  obtain ⟨r, rfl⟩ := h
  rw [List.getElem?_append_left (List.getElem?_eq_some_iff.mp hj).1]
  exact hj
theorem take_get {l : List Nat} {i x : Nat} (h : l[i]? = some x) : l.take (i + 1) = l.take i ++ [x] := by
  obtain ⟨h1, h2⟩ := List.getElem?_eq_some_iff.mp h
  rw [List.take_succ, h]
  rfl
/-- so far as i nodes of level k are through -/
def accA (R C : Nat) (cu : Nat → Nat) (k i : Nat) : List Nat := exA R C cu k [] ((LvS R C cu k).take i)
theorem accA_0 (R C : Nat) (cu : Nat → Nat) (k : Nat) : accA R C cu k 0 = [] := by simp [accA, exA]
theorem accA_s {R C : Nat} {cu : Nat → Nat} {k i s : Nat} (h : (LvS R C cu k)[i]? = some s) : accA R C cu k (i + 1) = ins (ins (accA R C cu k i) (stepF R C cu s k false)) (stepF R C cu s k true) := by
  unfold accA
  rw [take_get h, exA_app]
  rfl
theorem accA_e {R C : Nat} {cu : Nat → Nat} {k : Nat} : accA R C cu k (LvS R C cu k).length = LvS R C cu (k + 1) := by
  unfold accA
  rw [List.take_length]
  rfl
theorem accA_pre (R C : Nat) (cu : Nat → Nat) (k i : Nat) : accA R C cu k i <+: LvS R C cu (k + 1) := by
  have h : exA R C cu k [] ((LvS R C cu k).take i) <+: exA R C cu k [] ((LvS R C cu k).take i ++ (LvS R C cu k).drop i) := by
    rw [exA_app]
    exact exA_pre R C cu k _ _
  rw [List.take_append_drop] at h
  exact h
/-- the half way: the low child of node i is there, too -/
theorem accH_pre {R C : Nat} {cu : Nat → Nat} {k i s : Nat} (h : (LvS R C cu k)[i]? = some s) : ins (accA R C cu k i) (stepF R C cu s k false) <+: LvS R C cu (k + 1) :=
  ((ins_pre _ _).trans (by rw [← accA_s h]; exact List.prefix_refl _)).trans (accA_pre R C cu k (i + 1))
theorem pre_len {a b : List Nat} (h : a <+: b) : a.length ≤ b.length := h.length_le
theorem LvS_lt {R C : Nat} {cu : Nat → Nat} (hG : GS R C) (hcu : CU R C cu) : ∀ {k : Nat}, k ≤ nE R C → ∀ s ∈ LvS R C cu k, s < 8 ^ 8
  | 0, _, s, h => by
    simp only [LvS, List.mem_singleton] at h
    omega
  | k + 1, hk, s, h => by
    have key : ∀ (l acc : List Nat), (∀ x ∈ acc, x < 8 ^ 8) → (∀ x ∈ l, x < 8 ^ 8) → ∀ x ∈ exA R C cu k acc l, x < 8 ^ 8 := by
      intro l
      induction l with
      | nil => intro acc h1 _ x hx; exact h1 x hx
      | cons y l ih =>
        intro acc h1 h2 x hx
        refine ih _ ?_ (fun z hz => h2 z (List.mem_cons_of_mem _ hz)) x hx
        have hi : ∀ (acc : List Nat) (o : Option Nat), (∀ x ∈ acc, x < 8 ^ 8) → (∀ t, o = some t → t < 8 ^ 8) → ∀ x ∈ ins acc o, x < 8 ^ 8 := by
          intro acc o h1 h2 x hx
          unfold ins at hx
          cases o with
          | none => exact h1 x hx
          | some t =>
            simp only at hx
            split at hx
            · exact h1 x hx
            · rcases List.mem_append.mp hx with h | h
              · exact h1 x h
              · rw [List.mem_singleton.mp h]; exact h2 t rfl
        exact hi _ _ (hi _ _ h1 (fun t ht => stepF_lt hG hcu (h2 y List.mem_cons_self) (by omega) ht)) (fun t ht => stepF_lt hG hcu (h2 y List.mem_cons_self) (by omega) ht)
    exact key _ [] (fun x hx => absurd hx List.not_mem_nil) (fun x hx => LvS_lt hG hcu (by omega) x hx) s h
theorem ch_oW {R C : Nat} {cu : Nat → Nat} {k : Nat} {x o : Option Nat} {f g : Nat → Nat} (h : chOK R C cu k x o) (hf : ∀ i s, (LvS R C cu (k + 1))[i]? = some s → f (off R C cu (k + 1) + i) = g s) : oW f x = oW g o := by
  cases o with
  | none => rw [show x = none from h]; rfl
  | some t =>
    obtain ⟨j, rfl, hj⟩ := h
    exact hf j t hj
theorem ch_lt {R C : Nat} {cu : Nat → Nat} {k : Nat} {x o : Option Nat} (h : chOK R C cu k x o) (hk : k < nE R C) {i : Nat} (hi : x = some i) : i < off R C cu (nE R C + 1) := by
  cases o with
  | none => rw [show x = none from h] at hi; cases hi
  | some t =>
    obtain ⟨j, rfl, hj⟩ := h
    cases hi
    have h1 := (List.getElem?_eq_some_iff.mp hj).1
    have h2 : off R C cu (k + 2) ≤ off R C cu (nE R C + 1) := off_mono (by omega)
    have h3 : off R C cu (k + 2) = off R C cu (k + 1) + (LvS R C cu (k + 1)).length := rfl
    omega
/-- a node's number tells its place in its level -/
theorem nd_at {R C : Nat} {cu : Nat → Nat} {k nd : Nat} (h1 : off R C cu k ≤ nd) (h2 : nd < off R C cu (k + 1)) : ∃ i s, nd = off R C cu k + i ∧ (LvS R C cu k)[i]? = some s := by
  have h3 : off R C cu (k + 1) = off R C cu k + (LvS R C cu k).length := rfl
  refine ⟨nd - off R C cu k, (LvS R C cu k)[nd - off R C cu k]'(by omega), by omega, ?_⟩
  exact List.getElem?_eq_getElem (by omega)
theorem nd_lt {R C : Nat} {cu : Nat → Nat} {k i s : Nat} (h : (LvS R C cu k)[i]? = some s) : off R C cu k + i < off R C cu (k + 1) := by
  have h1 := (List.getElem?_eq_some_iff.mp h).1
  have h3 : off R C cu (k + 1) = off R C cu k + (LvS R C cu k).length := rfl
  omega
def solA (R C : Nat) (cu : Nat → Nat) : Nat → Nat → Nat → Nat → Nat → Nat
  | 0, _, _, _, acc => acc
  | n + 1, e, s, left, acc =>
    if left < oW (WS R C cu 0 n (e + 1)) (stepF R C cu s e false) then oW (fun t => solA R C cu n (e + 1) t left acc) (stepF R C cu s e false)
    else oW (fun t => solA R C cu n (e + 1) t (left - oW (WS R C cu 0 n (e + 1)) (stepF R C cu s e false)) (acc ||| 2 ^ e)) (stepF R C cu s e true)
def rkA (R C : Nat) (cu : Nat → Nat) (set : Nat) : Nat → Nat → Nat → Nat → Option Nat
  | 0, _, _, acc => some acc
  | n + 1, e, s, acc => (stepF R C cu s e (set.testBit e)).bind fun t => rkA R C cu set n (e + 1) t (if set.testBit e then acc + oW (WS R C cu 0 n (e + 1)) (stepF R C cu s e false) else acc)
def alA (R C : Nat) (cu : Nat → Nat) (set : Nat) : Nat → Nat → Nat → Nat
  | 0, e, _ => e
  | n + 1, e, s => match stepF R C cu s e (set.testBit e) with | none => e | some t => alA R C cu set n (e + 1) t
theorem pd_s {m : Nat} (h : m < 99) : eI (pd (m + 1)) = nI m := by
  unfold pd
  rw [if_neg (by omega), Nat.add_sub_cancel, eI_ne (by omega)]
theorem eI_dec {m : Nat} (h : m < 100) : nI m + Int32.ofInt (-1) = eI (pd m) := by
  cases m with
  | zero => decide
  | succ j => rw [pd_s (by omega)]; exact pk_m1 j
theorem pd_neg {m : Nat} (h : m < 99) (h2 : eI (pd m) < 0) : m = 0 := by
  cases m with
  | zero => rfl
  | succ j => rw [pd_s (by omega)] at h2; exact absurd h2 (nI_pos (by omega))
theorem pd_nn {m : Nat} (h2 : ¬ eI (pd m) < 0) : ∃ j, m = j + 1 := by
  cases m with
  | zero => exact absurd (by decide) h2
  | succ j => exact ⟨j, rfl⟩
theorem Wy_put {R C : Nat} {cu : Nat → Nat} {wn m1 i3 v : Nat} {f3 : Nat → Nat} (hf3 : Wy R C cu wn (m1 + 1) f3) (h : i3 < off R C cu (m1 + 1)) : Wy R C cu wn (m1 + 1) (va_up f3 i3 v) := fun k i4 s4 h5 h6 h7 => by
  have h8 : off R C cu (m1 + 1) ≤ off R C cu k := off_mono h5
  rw [va_up_ne _ _ (by omega)]
  exact hf3 k i4 s4 h5 h6 h7
theorem Wy_down {R C : Nat} {cu : Nat → Nat} {wn m1 : Nat} {f3 : Nat → Nat} (hf3 : Wy R C cu wn (m1 + 1) f3) (hp3 : ∀ j s, (LvS R C cu m1)[j]? = some s → off R C cu m1 + j < off R C cu (m1 + 1) → f3 (off R C cu m1 + j) = WS R C cu wn (nE R C - m1) m1 s) : Wy R C cu wn m1 f3 := fun k i4 s4 h5 h6 h7 => by
  rcases Nat.lt_or_ge m1 k with h8 | h8
  · exact hf3 k i4 s4 h8 h6 h7
  · have h9 : k = m1 := by omega
    subst h9
    exact hp3 i4 s4 h7 (nd_lt h7)
/-- how many of the first i nodes of level k go on to the end -/
def usA (R C : Nat) (cu : Nat → Nat) (k i : Nat) : Nat := ((LvS R C cu k).take i).countP (fun s => decide (0 < WS R C cu 0 (nE R C - k) k s))
theorem usA_0 (R C : Nat) (cu : Nat → Nat) (k : Nat) : usA R C cu k 0 = 0 := by simp [usA]
theorem usA_s {R C : Nat} {cu : Nat → Nat} {k i s : Nat} (h : (LvS R C cu k)[i]? = some s) : usA R C cu k (i + 1) = usA R C cu k i + (if 0 < WS R C cu 0 (nE R C - k) k s then 1 else 0) := by
  unfold usA
  rw [take_get h, List.countP_append]
  simp [List.countP_cons]
theorem lv0 (R C : Nat) (cu : Nat → Nat) : (LvS R C cu 0)[0]? = some 1672 := rfl
theorem mem_of_get {l : List Nat} {i s : Nat} (h : l[i]? = some s) : s ∈ l := List.mem_of_getElem? h
theorem oI_some {x : Option Nat} {t : Nat} (h : x = some t) : oI x = nI t := by rw [h]; rfl
theorem ch_some {R C : Nat} {cu : Nat → Nat} {k : Nat} {x o : Option Nat} (h : chOK R C cu k x o) {t : Nat} (ho : o = some t) : ∃ j, x = some (off R C cu (k + 1) + j) ∧ (LvS R C cu (k + 1))[j]? = some t := by
  subst ho
  exact h
theorem ch_none {R C : Nat} {cu : Nat → Nat} {k : Nat} {x o : Option Nat} (h : chOK R C cu k x o) (ho : o = none) : x = none := by
  subst ho
  exact h
theorem oW_pos {f : Nat → Nat} {o : Option Nat} {x : Nat} (h : x < oW f o) : ∃ t, o = some t ∧ x < f t := by
  cases o with
  | none => exact absurd h (Nat.not_lt_zero _)
  | some t => exact ⟨t, rfl, h⟩
theorem or_bit {a e : Nat} (he : e < 31) : nI a ||| (nI 1 <<< (nI e &&& 31)) = nI (a ||| 2 ^ e) := by
  have h : 1 * 2 ^ e < 2 ^ 32 := by
    have := Nat.pow_lt_pow_right (a := 2) (by decide) (show e < 32 by omega)
    omega
  rw [nb_shl h (by omega), nb_or, Nat.one_mul]
end
section
theorem c_waysOf0 (l : Launch) (hfl : l.flags = flags0) (D : va_G) (tys : List (ClassId × FieldType)) (w : va_W) (p aa : Nat) (cI : ClassId) (f : Nat → Nat) (hp : w[p]? = some (aa, .inl (cI, 1014, .inl (fun i => nI (f i))))) (ht : tys[0]? = some (cI, .int))  : Ct l yX0_waysOf cX0_waysOf 2 (Option.some FieldType.int) ({ frames := 0, cells := 0, slots := 0, locals := 0 } : Room) D tys tys w [.ref aa, .int ((-1))] (fun r u => r = some (.int (nI (0))) ∧ u = w) 0 0 := by
  refine Ct.of hfl (by decide) (Nat.le_of_ble_eq_true rfl) ?_
  intro k hR _
  show V k l D tys ({ frames := 0, cells := 0, slots := 0, locals := 0 } : Room) cX0_waysOf 2 RX0 w 0 0 0 [(0, .ref (aa)), (1, .int ((-1)))] []
  refine j_iload_n dX0_waysOf_0 rfl 1 rfl ?_
  refine j_iconst (v := (-1)) dX0_waysOf_1 (by decide) ?_
  refine j_icmp_ne (tgt := 9) dX0_waysOf_2 (by decide) (fun c2 => ?_) (fun c2 => ?_)
  · exact absurd rfl c2
  · refine j_iconst (v := nI (0)) dX0_waysOf_5 (by decide) ?_
    refine j_goto (tgt := 12) dX0_waysOf_6 (by decide) ?_
    exact j_iret (tys' := []) rfl hR dX0_waysOf_12 (⟨rfl, rfl⟩)
theorem c_waysOf1 (l : Launch) (hfl : l.flags = flags0) (D : va_G) (tys : List (ClassId × FieldType)) (w : va_W) (p aa : Nat) (cI : ClassId) (f : Nat → Nat) (hp : w[p]? = some (aa, .inl (cI, 1014, .inl (fun i => nI (f i))))) (ht : tys[0]? = some (cI, .int)) (i : Nat) (hi : i < 1014) : Ct l yX0_waysOf cX0_waysOf 2 (Option.some FieldType.int) ({ frames := 0, cells := 0, slots := 0, locals := 0 } : Room) D tys tys w [.ref aa, .int (nI (i))] (fun r u => r = some (.int (nI (f i))) ∧ u = w) 0 0 := by
  refine Ct.of hfl (by decide) (Nat.le_of_ble_eq_true rfl) ?_
  intro k hR _
  show V k l D tys ({ frames := 0, cells := 0, slots := 0, locals := 0 } : Room) cX0_waysOf 2 RX0 w 0 0 0 [(0, .ref (aa)), (1, .int (nI (i)))] []
  refine j_iload_n dX0_waysOf_0 rfl 1 rfl ?_
  refine j_iconst (v := (-1)) dX0_waysOf_1 (by decide) ?_
  refine j_icmp_ne (tgt := 9) dX0_waysOf_2 (by decide) (fun c2 => ?_) (fun c2 => ?_)
  · refine j_aload_n dX0_waysOf_9 rfl 0 rfl ?_
    refine j_iload_n dX0_waysOf_10 rfl 1 rfl ?_
    refine jn_iald (v := nI (f i)) p 0 hp ht hi (by omega) rfl dX0_waysOf_11 ?_
    exact j_iret (tys' := []) rfl hR dX0_waysOf_12 (⟨rfl, rfl⟩)
  · exact absurd c2 (nI_m1 (by omega))
theorem c_waysOf (l : Launch) (hfl : l.flags = flags0) (D : va_G) (tys : List (ClassId × FieldType)) (w : va_W) (p aa : Nat) (cI : ClassId) (f : Nat → Nat) (hp : w[p]? = some (aa, .inl (cI, 1014, .inl (fun i => nI (f i))))) (ht : tys[0]? = some (cI, .int)) (x : Option Nat) (hx : ∀ i, x = some i → i < 1014) : Ct l yX0_waysOf cX0_waysOf 2 (Option.some FieldType.int) ({ frames := 0, cells := 0, slots := 0, locals := 0 } : Room) D tys tys w [.ref aa, .int (oI x)] (fun r u => r = some (.int (nI (oW f x))) ∧ u = w) 0 0 := by
  cases x with
  | none => exact c_waysOf0 l hfl D tys w p aa cI f hp ht
  | some i => exact c_waysOf1 l hfl D tys w p aa cI f hp ht i (hx i rfl)
set_option maxHeartbeats 4000000 in
set_option maxRecDepth 100000 in
theorem c_fillW (l : Launch) (hfl : l.flags = flags0) (D : va_G) (cI cJ cZ : ClassId) (q : Nat → Nat) (R C : Nat) (hG : GS R C) (dr sz : Nat) (sa : Bool) (cu fi st : Nat → Nat) (lo hi : Nat → Option Nat) (wa sw : Nat → Nat) (hx : XOK R C cu) (hg : Gr R C cu sz fi st lo hi) (wn : Nat) (hw : wn < 2 ^ 31) : Ct l yX0_fillWays cX0_fillWays 6 none ({ frames := 1, cells := 0, slots := 0, locals := 21 } : Room) D (tys3 cI cJ cZ) (tys3 cI cJ cZ) (wX cI cZ q R C dr sz sa cu fi st lo hi wa sw) [.ref (q 2), .ref (q 11), .int (nI (wn))] (fun r u => r = none ∧ ∃ f : Nat → Nat, Wy R C cu wn 0 f ∧ u = wX cI cZ q R C dr sz sa cu fi st lo hi f sw) 0 0 := by
  refine Ct.of hfl (by decide) (Nat.le_of_ble_eq_true rfl) ?_
  intro k hR _
  have hR4 := hG.2.1
  have hC3 := hG.2.2.2
  have hR1 := hG.1
  have hC1 := hG.2.2.1
  have hE := hG.E
  have hRC := hG.RC
  have hE4 := hG.E4
  obtain ⟨hcu, hcap, -⟩ := hx
  obtain ⟨hsz, hfi, hst, hch⟩ := id hg
  have hfE := hfi (nE R C) (by omega)
  have oE1 : off R C cu (nE R C + 1) = off R C cu (nE R C) + (LvS R C cu (nE R C)).length := rfl
  show V k l D (tys3 cI cJ cZ) ({ frames := 1, cells := 0, slots := 0, locals := 21 } : Room) cX0_fillWays 6 RX0 (wX cI cZ q R C dr sz sa cu fi st lo hi wa sw) 0 0 0 [(0, .ref (q 2)), (1, .ref (q 11)), (2, .int (nI (wn)))] []
  refine j_aload_n dX0_fillWays_0 rfl 0 rfl ?_
  refine gf_X0_21 2 rfl (rfl) dX0_fillWays_1 ?_
  refine j_aload_n dX0_fillWays_4 rfl 0 rfl ?_
  refine gf_X0_9 2 rfl (rfl) dX0_fillWays_5 ?_
  refine gf_X0_15 1 rfl (rfl) dX0_fillWays_8 ?_
  refine jn_iald (v := nI (fi (nE R C))) 7 0 rfl rfl (by omega) (by omega) (rfl) dX0_fillWays_11 ?_
  refine j_istore_n [(3, .int (nI (fi (nE R C)))), (0, .ref (q 2)), (1, .ref (q 11)), (2, .int (nI (wn)))] dX0_fillWays_12 rfl (by decide) rfl ?_
  refine j_sub [1, 2, 3, 0] [(0, .ref (q 2)), (1, .ref (q 11)), (2, .int (nI (wn))), (3, .int (nI (fi (nE R C))))] rfl ?_
  have loop13 : ∀ (n : Nat) (i : Nat) (f : Nat → Nat), (sz < i + n) → (off R C cu (nE R C) ≤ i) → (i ≤ sz) → (∀ j, off R C cu (nE R C) ≤ j → j < i → f j = 1) → V k l D (tys3 cI cJ cZ) ({ frames := 1, cells := 0, slots := 0, locals := 21 } : Room) cX0_fillWays 6 RX0 (wX cI cZ q R C dr sz sa cu fi st lo hi f sw) 0 0 13 [(0, .ref (q 2)), (1, .ref (q 11)), (2, .int (nI (wn))), (3, .int (nI (i)))] [] := by
    intro n
    induction n with
    | zero => intro i f hm h1 h2 h3; exfalso; omega
    | succ n ih13 =>
      intro i f hm h1 h2 h3
      refine j_iload_n dX0_fillWays_13 rfl 3 rfl ?_
      refine j_aload_n dX0_fillWays_14 rfl 0 rfl ?_
      refine gf_X0_25 2 rfl (rfl) dX0_fillWays_15 ?_
      refine jn_icmp_ge (tgt := 31) (a := i) (b := sz) (by omega) (by omega) dX0_fillWays_18 (by decide) (fun c18 => ?_) (fun c18 => ?_)
      · refine j_aload_n dX0_fillWays_31 rfl 0 rfl ?_
        refine gf_X0_9 2 rfl (rfl) dX0_fillWays_32 ?_
        refine gf_X0_15 1 rfl (rfl) dX0_fillWays_35 ?_
        refine j_iconst (v := nI (1)) dX0_fillWays_38 (by decide) ?_
        refine jn_isub dX0_fillWays_39 (by omega) rfl ?_
        refine j_istore_n [(3, .int (nI ((nE R C) - 1))), (0, .ref (q 2)), (1, .ref (q 11)), (2, .int (nI (wn)))] dX0_fillWays_40 rfl (by decide) rfl ?_
        have hW0 : Wy R C cu wn (nE R C) f := fun k i2 s hk1 hk2 hs => by
          have : k = nE R C := by omega
          subst this
          have := nd_lt hs
          rw [h3 _ (by omega) (by omega), Nat.sub_self]; rfl
        refine j_lv (lv' := [(3, .int (eI (pd (nE R C)))), (0, .ref (q 2)), (1, .ref (q 11)), (2, .int (nI (wn)))]) (by rw [show eI (pd (nE R C)) = nI (nE R C - 1) from (by unfold pd; rw [if_neg (by omega), eI_ne (by omega)])]) ?_
        refine j_sub [1, 2, 3, 0] [(0, .ref (q 2)), (1, .ref (q 11)), (2, .int (nI (wn))), (3, .int (eI (pd (nE R C))))] rfl ?_
        have loop41 : ∀ (n : Nat) (m : Nat) (f2 : Nat → Nat), (m < n) → (m ≤ nE R C) → (Wy R C cu wn m f2) → V k l D (tys3 cI cJ cZ) ({ frames := 1, cells := 0, slots := 0, locals := 21 } : Room) cX0_fillWays 6 RX0 (wX cI cZ q R C dr sz sa cu fi st lo hi f2 sw) 0 0 41 [(0, .ref (q 2)), (1, .ref (q 11)), (2, .int (nI (wn))), (3, .int (eI (pd m)))] [] := by
          intro n
          induction n with
          | zero => intro m f2 hm2 hmE hf2; exfalso; omega
          | succ n ih41 =>
            intro m f2 hm2 hmE hf2
            refine j_iload_n dX0_fillWays_41 rfl 3 rfl ?_
            refine j_if_lt (tgt := 121) dX0_fillWays_42 (by decide) (fun c42 => ?_) (fun c42 => ?_)
            · have e42 : m = 0 := pd_neg (by omega) c42
              exact j_vret (tys' := []) rfl hR dX0_fillWays_121 (⟨rfl, f2, by subst e42; exact hf2, rfl⟩)
            · obtain ⟨m1, rfl⟩ := pd_nn c42
              refine j_lv (lv' := [(0, .ref (q 2)), (1, .ref (q 11)), (2, .int (nI (wn))), (3, .int (nI (m1)))]) (by rw [pd_s (by omega)]) ?_
              have fm1 := hfi m1 (by omega)
              have fm2 := hfi (m1 + 1) (by omega)
              have om2 : off R C cu (m1 + 1) = off R C cu m1 + (LvS R C cu m1).length := rfl
              have om3 : off R C cu (m1 + 1) ≤ off R C cu (nE R C + 1) := off_mono (by omega)
              refine j_aload_n dX0_fillWays_45 rfl 0 rfl ?_
              refine gf_X0_21 2 rfl (rfl) dX0_fillWays_46 ?_
              refine j_iload_n dX0_fillWays_49 rfl 3 rfl ?_
              refine jn_iald (v := nI (fi m1)) 7 0 rfl rfl (by omega) (by omega) (rfl) dX0_fillWays_50 ?_
              refine j_istore [(4, .int (nI (fi m1))), (0, .ref (q 2)), (1, .ref (q 11)), (2, .int (nI (wn))), (3, .int (nI (m1)))] dX0_fillWays_51 (by decide) rfl ?_
              refine j_sub [1, 2, 3, 4, 0] [(0, .ref (q 2)), (1, .ref (q 11)), (2, .int (nI (wn))), (3, .int (nI (m1))), (4, .int (nI (fi m1)))] rfl ?_
              have loop53 : ∀ (n : Nat) (i3 : Nat) (f3 : Nat → Nat), (off R C cu (m1 + 1) < i3 + n) → (off R C cu m1 ≤ i3) → (i3 ≤ off R C cu (m1 + 1)) → (Wy R C cu wn (m1 + 1) f3) → (∀ j s, (LvS R C cu m1)[j]? = some s → off R C cu m1 + j < i3 → f3 (off R C cu m1 + j) = WS R C cu wn (nE R C - m1) m1 s) → V k l D (tys3 cI cJ cZ) ({ frames := 1, cells := 0, slots := 0, locals := 21 } : Room) cX0_fillWays 6 RX0 (wX cI cZ q R C dr sz sa cu fi st lo hi f3 sw) 0 0 53 [(0, .ref (q 2)), (1, .ref (q 11)), (2, .int (nI (wn))), (3, .int (nI (m1))), (4, .int (nI (i3)))] [] := by
                intro n
                induction n with
                | zero => intro i3 f3 hm3 ha3 hb3 hf3 hp3; exfalso; omega
                | succ n ih53 =>
                  intro i3 f3 hm3 ha3 hb3 hf3 hp3
                  refine j_iload dX0_fillWays_53 4 rfl ?_
                  refine j_aload_n dX0_fillWays_55 rfl 0 rfl ?_
                  refine gf_X0_21 2 rfl (rfl) dX0_fillWays_56 ?_
                  refine j_iload_n dX0_fillWays_59 rfl 3 rfl ?_
                  refine j_iconst (v := nI (1)) dX0_fillWays_60 (by decide) ?_
                  refine jn_iadd (v := m1 + 1) dX0_fillWays_61 rfl ?_
                  refine jn_iald (v := nI (fi (m1 + 1))) 7 0 rfl rfl (by omega) (by omega) (rfl) dX0_fillWays_62 ?_
                  refine jn_icmp_ge (tgt := 115) (a := i3) (b := fi (m1 + 1)) (by omega) (by omega) dX0_fillWays_63 (by decide) (fun c63 => ?_) (fun c63 => ?_)
                  · have hW1 : Wy R C cu wn m1 f3 := Wy_down hf3 (fun j s h h2 => hp3 j s h (by omega))
                    refine j_iinc (n0 := 3) (v := eI (pd m1)) [(3, .int (eI (pd m1))), (0, .ref (q 2)), (1, .ref (q 11)), (2, .int (nI (wn))), (4, .int (nI (i3)))] dX0_fillWays_115 rfl (eI_dec (by omega)) (by decide) rfl ?_
                    refine j_goto (tgt := 41) dX0_fillWays_118 (by decide) ?_
                    refine j_sub [1, 2, 3, 0] [(0, .ref (q 2)), (1, .ref (q 11)), (2, .int (nI (wn))), (3, .int (eI (pd m1)))] rfl ?_
                    exact ih41 m1 (f3) (by omega) (by omega) hW1
                  · obtain ⟨j3, s3, hi3, hs3⟩ := nd_at ha3 (show i3 < off R C cu (m1 + 1) by omega)
                    obtain ⟨hl3, hh3⟩ := hch m1 j3 s3 (by omega) hs3
                    rw [← hi3] at hl3 hh3
                    have hl4 : ∀ i, lo i3 = some i → i < 1014 := fun i e => Nat.lt_of_lt_of_le (ch_lt hl3 (by omega) e) hcap
                    have hh4 : ∀ i, hi i3 = some i → i < 1014 := fun i e => Nat.lt_of_lt_of_le (ch_lt hh3 (by omega) e) hcap
                    refine j_iload_n dX0_fillWays_66 rfl 2 rfl ?_
                    refine j_iload_n dX0_fillWays_67 rfl 3 rfl ?_
                    refine j_sn0 (av := [.int (nI (wn)), .int (nI (m1))]) (r0 := .int (bI ((Nat.testBit wn m1)))) (c_hasBit l hfl D (tys3 cI cJ cZ) (wn) (m1) (by omega) (by omega)) rfl mw1_161 mw1_1 mw1_162 hd_X2_hasBit rfl ⟨rfl, rfl⟩ ⟨Nat.le_of_ble_eq_true rfl, Nat.le_of_ble_eq_true rfl⟩ ⟨Nat.zero_le _, Nat.zero_le _⟩ (Nat.le_of_ble_eq_true rfl) rfl dX0_fillWays_68 ?_
                    refine jb_if_eq (tgt := 78) (b := (Nat.testBit wn m1)) dX0_fillWays_71 (by decide) (fun c71 => ?_) (fun c71 => ?_)
                    · refine j_aload_n dX0_fillWays_78 rfl 1 rfl ?_
                      refine j_aload_n dX0_fillWays_79 rfl 0 rfl ?_
                      refine gf_X0_31 2 rfl (rfl) dX0_fillWays_80 ?_
                      refine j_iload dX0_fillWays_83 4 rfl ?_
                      refine jn_iald (v := oI (lo i3)) 9 0 rfl rfl (by omega) (by omega) (rfl) dX0_fillWays_85 ?_
                      refine j_sW (av := [.ref (q 11), .int (oI (lo i3))]) (c_waysOf l hfl D (tys3 cI cJ cZ) (wX cI cZ q R C dr sz sa cu fi st lo hi f3 sw) 11 (q 11) cI f3 rfl rfl (lo i3) (hl4)) mw1_163 mw1_164 mw1_3 mw1_165 hd_X0_waysOf rfl ⟨rfl, rfl⟩ ⟨Nat.le_of_ble_eq_true rfl, Nat.le_of_ble_eq_true rfl⟩ ⟨Nat.zero_le _, Nat.zero_le _⟩ (Nat.le_of_ble_eq_true rfl) rfl dX0_fillWays_86 ?_
                      rintro _ _ ⟨rfl, rfl⟩
                      refine j_st (st' := [.int (nI (oW f3 (lo i3)))]) rfl ?_
                      refine j_istore [(5, .int (nI (oW f3 (lo i3)))), (0, .ref (q 2)), (1, .ref (q 11)), (2, .int (nI (wn))), (3, .int (nI (m1))), (4, .int (nI (i3)))] dX0_fillWays_89 (by decide) rfl ?_
                      refine j_aload_n dX0_fillWays_91 rfl 2 rfl ?_
                      refine j_iload dX0_fillWays_92 5 rfl ?_
                      refine j_iload dX0_fillWays_94 0 rfl ?_
                      refine j_aload_n dX0_fillWays_96 rfl 2 rfl ?_
                      refine j_aload_n dX0_fillWays_97 rfl 1 rfl ?_
                      refine gf_X0_34 2 rfl (rfl) dX0_fillWays_98 ?_
                      refine j_iload dX0_fillWays_101 5 rfl ?_
                      refine jn_iald (v := oI (hi i3)) 10 0 rfl rfl (by omega) (by omega) (rfl) dX0_fillWays_103 ?_
                      refine j_sW (av := [.ref (q 11), .int (oI (hi i3))]) (c_waysOf l hfl D (tys3 cI cJ cZ) (wX cI cZ q R C dr sz sa cu fi st lo hi f3 sw) 11 (q 11) cI f3 rfl rfl (hi i3) (hh4)) mw1_163 mw1_164 mw1_3 mw1_165 hd_X0_waysOf rfl ⟨rfl, rfl⟩ ⟨Nat.le_of_ble_eq_true rfl, Nat.le_of_ble_eq_true rfl⟩ ⟨Nat.zero_le _, Nat.zero_le _⟩ (Nat.le_of_ble_eq_true rfl) rfl dX0_fillWays_104 ?_
                      rintro _ _ ⟨rfl, rfl⟩
                      refine j_st (st' := [.int (nI (oW f3 (hi i3))), .int (nI (oW f3 (lo i3))), .int (nI (i3)), .ref (q 11)]) rfl ?_
                      refine jn_iadd (v := (oW f3 (lo i3)) + (oW f3 (hi i3))) dX0_fillWays_107 rfl ?_
                      refine jn_iastN (wX cI cZ q R C dr sz sa cu fi st lo hi (va_up f3 i3 ((oW f3 (lo i3)) + (oW f3 (hi i3)))) sw) 11 0 rfl rfl (by omega) (by omega) rfl dX0_fillWays_108 ?_
                      refine j_iinc (n0 := 5) (v := nI (i3 + 1)) [(4, .int (nI (i3 + 1))), (5, .int (nI (oW f3 (lo i3)))), (0, .ref (q 2)), (1, .ref (q 11)), (2, .int (nI (wn))), (3, .int (nI (m1)))] dX0_fillWays_109 rfl (by exact nI_add (i3) 1) (by decide) rfl ?_
                      refine j_goto (tgt := 53) dX0_fillWays_112 (by decide) ?_
                      refine j_sub [2, 3, 4, 5, 0] [(0, .ref (q 2)), (1, .ref (q 11)), (2, .int (nI (wn))), (3, .int (nI (m1))), (4, .int (nI (i3 + 1)))] rfl ?_
                      have hf4 : Wy R C cu wn (m1 + 1) (va_up f3 i3 (((oW f3 (lo i3)) + (oW f3 (hi i3))))) := Wy_put hf3 (by omega)
                      have hp4 : ∀ j s, (LvS R C cu m1)[j]? = some s → off R C cu m1 + j < i3 + 1 → (va_up f3 i3 (((oW f3 (lo i3)) + (oW f3 (hi i3))))) (off R C cu m1 + j) = WS R C cu wn (nE R C - m1) m1 s := fun j s4 h5 h6 => by
                        by_cases h7 : off R C cu m1 + j = i3
                        · rw [h7, va_up_self]
                          have h8 : j = j3 := by omega
                          subst h8
                          cases hs3.symm.trans h5
                          rw [show nE R C - m1 = (nE R C - (m1 + 1)) + 1 by omega]
                          unfold WS
                          rw [← ch_oW hl3 (fun i4 s4 h => hf3 (m1 + 1) i4 s4 (Nat.le_refl _) (by omega) h), ← ch_oW hh3 (fun i4 s4 h => hf3 (m1 + 1) i4 s4 (Nat.le_refl _) (by omega) h)]
                          simp [c71, hi3]
                        · rw [va_up_ne _ _ h7]; exact hp3 j s4 h5 (by omega)
                      exact ih53 (i3 + 1) (va_up f3 i3 ((oW f3 (lo i3)) + (oW f3 (hi i3)))) (by omega) (by omega) (by omega) hf4 hp4
                    · refine j_iconst (v := nI (0)) dX0_fillWays_74 (by decide) ?_
                      refine j_goto (tgt := 89) dX0_fillWays_75 (by decide) ?_
                      refine j_istore [(5, .int (nI (0))), (0, .ref (q 2)), (1, .ref (q 11)), (2, .int (nI (wn))), (3, .int (nI (m1))), (4, .int (nI (i3)))] dX0_fillWays_89 (by decide) rfl ?_
                      refine j_aload_n dX0_fillWays_91 rfl 2 rfl ?_
                      refine j_iload dX0_fillWays_92 5 rfl ?_
                      refine j_iload dX0_fillWays_94 0 rfl ?_
                      refine j_aload_n dX0_fillWays_96 rfl 2 rfl ?_
                      refine j_aload_n dX0_fillWays_97 rfl 1 rfl ?_
                      refine gf_X0_34 2 rfl (rfl) dX0_fillWays_98 ?_
                      refine j_iload dX0_fillWays_101 5 rfl ?_
                      refine jn_iald (v := oI (hi i3)) 10 0 rfl rfl (by omega) (by omega) (rfl) dX0_fillWays_103 ?_
                      refine j_sW (av := [.ref (q 11), .int (oI (hi i3))]) (c_waysOf l hfl D (tys3 cI cJ cZ) (wX cI cZ q R C dr sz sa cu fi st lo hi f3 sw) 11 (q 11) cI f3 rfl rfl (hi i3) (hh4)) mw1_163 mw1_164 mw1_3 mw1_165 hd_X0_waysOf rfl ⟨rfl, rfl⟩ ⟨Nat.le_of_ble_eq_true rfl, Nat.le_of_ble_eq_true rfl⟩ ⟨Nat.zero_le _, Nat.zero_le _⟩ (Nat.le_of_ble_eq_true rfl) rfl dX0_fillWays_104 ?_
                      rintro _ _ ⟨rfl, rfl⟩
                      refine j_st (st' := [.int (nI (oW f3 (hi i3))), .int (nI (0)), .int (nI (i3)), .ref (q 11)]) rfl ?_
                      refine jn_iadd (v := 0 + (oW f3 (hi i3))) dX0_fillWays_107 rfl ?_
                      refine jn_iastN (wX cI cZ q R C dr sz sa cu fi st lo hi (va_up f3 i3 (0 + (oW f3 (hi i3)))) sw) 11 0 rfl rfl (by omega) (by omega) rfl dX0_fillWays_108 ?_
                      refine j_iinc (n0 := 5) (v := nI (i3 + 1)) [(4, .int (nI (i3 + 1))), (5, .int (nI (0))), (0, .ref (q 2)), (1, .ref (q 11)), (2, .int (nI (wn))), (3, .int (nI (m1)))] dX0_fillWays_109 rfl (by exact nI_add (i3) 1) (by decide) rfl ?_
                      refine j_goto (tgt := 53) dX0_fillWays_112 (by decide) ?_
                      refine j_sub [2, 3, 4, 5, 0] [(0, .ref (q 2)), (1, .ref (q 11)), (2, .int (nI (wn))), (3, .int (nI (m1))), (4, .int (nI (i3 + 1)))] rfl ?_
                      have hf4 : Wy R C cu wn (m1 + 1) (va_up f3 i3 ((0 + (oW f3 (hi i3))))) := Wy_put hf3 (by omega)
                      have hp4 : ∀ j s, (LvS R C cu m1)[j]? = some s → off R C cu m1 + j < i3 + 1 → (va_up f3 i3 ((0 + (oW f3 (hi i3))))) (off R C cu m1 + j) = WS R C cu wn (nE R C - m1) m1 s := fun j s4 h5 h6 => by
                        by_cases h7 : off R C cu m1 + j = i3
                        · rw [h7, va_up_self]
                          have h8 : j = j3 := by omega
                          subst h8
                          cases hs3.symm.trans h5
                          rw [show nE R C - m1 = (nE R C - (m1 + 1)) + 1 by omega]
                          unfold WS
                          rw [← ch_oW hl3 (fun i4 s4 h => hf3 (m1 + 1) i4 s4 (Nat.le_refl _) (by omega) h), ← ch_oW hh3 (fun i4 s4 h => hf3 (m1 + 1) i4 s4 (Nat.le_refl _) (by omega) h)]
                          simp [c71, hi3]
                        · rw [va_up_ne _ _ h7]; exact hp3 j s4 h5 (by omega)
                      exact ih53 (i3 + 1) (va_up f3 i3 (0 + (oW f3 (hi i3)))) (by omega) (by omega) (by omega) hf4 hp4
              exact loop53 (off R C cu (m1 + 1) + 2) (fi m1) f2 (by omega) (by omega) (by omega) hf2 (fun j s hj h9 => absurd h9 (by omega))
        exact loop41 (nE R C + 1) (nE R C) f (by omega) (Nat.le_refl _) hW0
      · refine j_aload_n dX0_fillWays_21 rfl 1 rfl ?_
        refine j_iload_n dX0_fillWays_22 rfl 3 rfl ?_
        refine j_iconst (v := nI (1)) dX0_fillWays_23 (by decide) ?_
        refine jn_iastN (wX cI cZ q R C dr sz sa cu fi st lo hi (va_up f i 1) sw) 11 0 rfl rfl (by omega) (by omega) rfl dX0_fillWays_24 ?_
        refine j_iinc (n0 := 3) (v := nI (i + 1)) [(3, .int (nI (i + 1))), (0, .ref (q 2)), (1, .ref (q 11)), (2, .int (nI (wn)))] dX0_fillWays_25 rfl (by exact nI_add (i) 1) (by decide) rfl ?_
        refine j_goto (tgt := 13) dX0_fillWays_28 (by decide) ?_
        refine j_sub [1, 2, 3, 0] [(0, .ref (q 2)), (1, .ref (q 11)), (2, .int (nI (wn))), (3, .int (nI (i + 1)))] rfl ?_
        exact ih13 (i + 1) (va_up f i 1) (by omega) (by omega) (by omega) (fun j h5 h6 => if h7 : j = i then by rw [h7, va_up_self] else by rw [va_up_ne _ _ h7]; exact h3 j h5 (by omega))
  exact loop13 (sz + 2) (fi (nE R C)) wa (by omega) (by omega) (by omega) (fun j h5 h6 => absurd h6 (by omega))

set_option maxHeartbeats 4000000 in
set_option maxRecDepth 100000 in
theorem c_fillS (l : Launch) (hfl : l.flags = flags0) (D : va_G) (cI cJ cZ : ClassId) (q : Nat → Nat) (R C : Nat) (hG : GS R C) (dr sz : Nat) (sa : Bool) (cu fi st : Nat → Nat) (lo hi : Nat → Option Nat) (wa sw : Nat → Nat) (hx : XOK R C cu) (hg : Gr R C cu sz fi st lo hi) (wn : Nat) (hw : wn < 2 ^ 31) : Ct l yX0_fillWays cX0_fillWays 6 none ({ frames := 1, cells := 0, slots := 0, locals := 21 } : Room) D (tys3 cI cJ cZ) (tys3 cI cJ cZ) (wX cI cZ q R C dr sz sa cu fi st lo hi wa sw) [.ref (q 2), .ref (q 12), .int (nI (wn))] (fun r u => r = none ∧ ∃ f : Nat → Nat, Wy R C cu wn 0 f ∧ u = wX cI cZ q R C dr sz sa cu fi st lo hi wa f) 0 0 := by
  refine Ct.of hfl (by decide) (Nat.le_of_ble_eq_true rfl) ?_
  intro k hR _
  have hR4 := hG.2.1
  have hC3 := hG.2.2.2
  have hR1 := hG.1
  have hC1 := hG.2.2.1
  have hE := hG.E
  have hRC := hG.RC
  have hE4 := hG.E4
  obtain ⟨hcu, hcap, -⟩ := hx
  obtain ⟨hsz, hfi, hst, hch⟩ := id hg
  have hfE := hfi (nE R C) (by omega)
  have oE1 : off R C cu (nE R C + 1) = off R C cu (nE R C) + (LvS R C cu (nE R C)).length := rfl
  show V k l D (tys3 cI cJ cZ) ({ frames := 1, cells := 0, slots := 0, locals := 21 } : Room) cX0_fillWays 6 RX0 (wX cI cZ q R C dr sz sa cu fi st lo hi wa sw) 0 0 0 [(0, .ref (q 2)), (1, .ref (q 12)), (2, .int (nI (wn)))] []
  refine j_aload_n dX0_fillWays_0 rfl 0 rfl ?_
  refine gf_X0_21 2 rfl (rfl) dX0_fillWays_1 ?_
  refine j_aload_n dX0_fillWays_4 rfl 0 rfl ?_
  refine gf_X0_9 2 rfl (rfl) dX0_fillWays_5 ?_
  refine gf_X0_15 1 rfl (rfl) dX0_fillWays_8 ?_
  refine jn_iald (v := nI (fi (nE R C))) 7 0 rfl rfl (by omega) (by omega) (rfl) dX0_fillWays_11 ?_
  refine j_istore_n [(3, .int (nI (fi (nE R C)))), (0, .ref (q 2)), (1, .ref (q 12)), (2, .int (nI (wn)))] dX0_fillWays_12 rfl (by decide) rfl ?_
  refine j_sub [1, 2, 3, 0] [(0, .ref (q 2)), (1, .ref (q 12)), (2, .int (nI (wn))), (3, .int (nI (fi (nE R C))))] rfl ?_
  have loop13 : ∀ (n : Nat) (i : Nat) (f : Nat → Nat), (sz < i + n) → (off R C cu (nE R C) ≤ i) → (i ≤ sz) → (∀ j, off R C cu (nE R C) ≤ j → j < i → f j = 1) → V k l D (tys3 cI cJ cZ) ({ frames := 1, cells := 0, slots := 0, locals := 21 } : Room) cX0_fillWays 6 RX0 (wX cI cZ q R C dr sz sa cu fi st lo hi wa f) 0 0 13 [(0, .ref (q 2)), (1, .ref (q 12)), (2, .int (nI (wn))), (3, .int (nI (i)))] [] := by
    intro n
    induction n with
    | zero => intro i f hm h1 h2 h3; exfalso; omega
    | succ n ih13 =>
      intro i f hm h1 h2 h3
      refine j_iload_n dX0_fillWays_13 rfl 3 rfl ?_
      refine j_aload_n dX0_fillWays_14 rfl 0 rfl ?_
      refine gf_X0_25 2 rfl (rfl) dX0_fillWays_15 ?_
      refine jn_icmp_ge (tgt := 31) (a := i) (b := sz) (by omega) (by omega) dX0_fillWays_18 (by decide) (fun c18 => ?_) (fun c18 => ?_)
      · refine j_aload_n dX0_fillWays_31 rfl 0 rfl ?_
        refine gf_X0_9 2 rfl (rfl) dX0_fillWays_32 ?_
        refine gf_X0_15 1 rfl (rfl) dX0_fillWays_35 ?_
        refine j_iconst (v := nI (1)) dX0_fillWays_38 (by decide) ?_
        refine jn_isub dX0_fillWays_39 (by omega) rfl ?_
        refine j_istore_n [(3, .int (nI ((nE R C) - 1))), (0, .ref (q 2)), (1, .ref (q 12)), (2, .int (nI (wn)))] dX0_fillWays_40 rfl (by decide) rfl ?_
        have hW0 : Wy R C cu wn (nE R C) f := fun k i2 s hk1 hk2 hs => by
          have : k = nE R C := by omega
          subst this
          have := nd_lt hs
          rw [h3 _ (by omega) (by omega), Nat.sub_self]; rfl
        refine j_lv (lv' := [(3, .int (eI (pd (nE R C)))), (0, .ref (q 2)), (1, .ref (q 12)), (2, .int (nI (wn)))]) (by rw [show eI (pd (nE R C)) = nI (nE R C - 1) from (by unfold pd; rw [if_neg (by omega), eI_ne (by omega)])]) ?_
        refine j_sub [1, 2, 3, 0] [(0, .ref (q 2)), (1, .ref (q 12)), (2, .int (nI (wn))), (3, .int (eI (pd (nE R C))))] rfl ?_
        have loop41 : ∀ (n : Nat) (m : Nat) (f2 : Nat → Nat), (m < n) → (m ≤ nE R C) → (Wy R C cu wn m f2) → V k l D (tys3 cI cJ cZ) ({ frames := 1, cells := 0, slots := 0, locals := 21 } : Room) cX0_fillWays 6 RX0 (wX cI cZ q R C dr sz sa cu fi st lo hi wa f2) 0 0 41 [(0, .ref (q 2)), (1, .ref (q 12)), (2, .int (nI (wn))), (3, .int (eI (pd m)))] [] := by
          intro n
          induction n with
          | zero => intro m f2 hm2 hmE hf2; exfalso; omega
          | succ n ih41 =>
            intro m f2 hm2 hmE hf2
            refine j_iload_n dX0_fillWays_41 rfl 3 rfl ?_
            refine j_if_lt (tgt := 121) dX0_fillWays_42 (by decide) (fun c42 => ?_) (fun c42 => ?_)
            · have e42 : m = 0 := pd_neg (by omega) c42
              exact j_vret (tys' := []) rfl hR dX0_fillWays_121 (⟨rfl, f2, by subst e42; exact hf2, rfl⟩)
            · obtain ⟨m1, rfl⟩ := pd_nn c42
              refine j_lv (lv' := [(0, .ref (q 2)), (1, .ref (q 12)), (2, .int (nI (wn))), (3, .int (nI (m1)))]) (by rw [pd_s (by omega)]) ?_
              have fm1 := hfi m1 (by omega)
              have fm2 := hfi (m1 + 1) (by omega)
              have om2 : off R C cu (m1 + 1) = off R C cu m1 + (LvS R C cu m1).length := rfl
              have om3 : off R C cu (m1 + 1) ≤ off R C cu (nE R C + 1) := off_mono (by omega)
              refine j_aload_n dX0_fillWays_45 rfl 0 rfl ?_
              refine gf_X0_21 2 rfl (rfl) dX0_fillWays_46 ?_
              refine j_iload_n dX0_fillWays_49 rfl 3 rfl ?_
              refine jn_iald (v := nI (fi m1)) 7 0 rfl rfl (by omega) (by omega) (rfl) dX0_fillWays_50 ?_
              refine j_istore [(4, .int (nI (fi m1))), (0, .ref (q 2)), (1, .ref (q 12)), (2, .int (nI (wn))), (3, .int (nI (m1)))] dX0_fillWays_51 (by decide) rfl ?_
              refine j_sub [1, 2, 3, 4, 0] [(0, .ref (q 2)), (1, .ref (q 12)), (2, .int (nI (wn))), (3, .int (nI (m1))), (4, .int (nI (fi m1)))] rfl ?_
              have loop53 : ∀ (n : Nat) (i3 : Nat) (f3 : Nat → Nat), (off R C cu (m1 + 1) < i3 + n) → (off R C cu m1 ≤ i3) → (i3 ≤ off R C cu (m1 + 1)) → (Wy R C cu wn (m1 + 1) f3) → (∀ j s, (LvS R C cu m1)[j]? = some s → off R C cu m1 + j < i3 → f3 (off R C cu m1 + j) = WS R C cu wn (nE R C - m1) m1 s) → V k l D (tys3 cI cJ cZ) ({ frames := 1, cells := 0, slots := 0, locals := 21 } : Room) cX0_fillWays 6 RX0 (wX cI cZ q R C dr sz sa cu fi st lo hi wa f3) 0 0 53 [(0, .ref (q 2)), (1, .ref (q 12)), (2, .int (nI (wn))), (3, .int (nI (m1))), (4, .int (nI (i3)))] [] := by
                intro n
                induction n with
                | zero => intro i3 f3 hm3 ha3 hb3 hf3 hp3; exfalso; omega
                | succ n ih53 =>
                  intro i3 f3 hm3 ha3 hb3 hf3 hp3
                  refine j_iload dX0_fillWays_53 4 rfl ?_
                  refine j_aload_n dX0_fillWays_55 rfl 0 rfl ?_
                  refine gf_X0_21 2 rfl (rfl) dX0_fillWays_56 ?_
                  refine j_iload_n dX0_fillWays_59 rfl 3 rfl ?_
                  refine j_iconst (v := nI (1)) dX0_fillWays_60 (by decide) ?_
                  refine jn_iadd (v := m1 + 1) dX0_fillWays_61 rfl ?_
                  refine jn_iald (v := nI (fi (m1 + 1))) 7 0 rfl rfl (by omega) (by omega) (rfl) dX0_fillWays_62 ?_
                  refine jn_icmp_ge (tgt := 115) (a := i3) (b := fi (m1 + 1)) (by omega) (by omega) dX0_fillWays_63 (by decide) (fun c63 => ?_) (fun c63 => ?_)
                  · have hW1 : Wy R C cu wn m1 f3 := Wy_down hf3 (fun j s h h2 => hp3 j s h (by omega))
                    refine j_iinc (n0 := 3) (v := eI (pd m1)) [(3, .int (eI (pd m1))), (0, .ref (q 2)), (1, .ref (q 12)), (2, .int (nI (wn))), (4, .int (nI (i3)))] dX0_fillWays_115 rfl (eI_dec (by omega)) (by decide) rfl ?_
                    refine j_goto (tgt := 41) dX0_fillWays_118 (by decide) ?_
                    refine j_sub [1, 2, 3, 0] [(0, .ref (q 2)), (1, .ref (q 12)), (2, .int (nI (wn))), (3, .int (eI (pd m1)))] rfl ?_
                    exact ih41 m1 (f3) (by omega) (by omega) hW1
                  · obtain ⟨j3, s3, hi3, hs3⟩ := nd_at ha3 (show i3 < off R C cu (m1 + 1) by omega)
                    obtain ⟨hl3, hh3⟩ := hch m1 j3 s3 (by omega) hs3
                    rw [← hi3] at hl3 hh3
                    have hl4 : ∀ i, lo i3 = some i → i < 1014 := fun i e => Nat.lt_of_lt_of_le (ch_lt hl3 (by omega) e) hcap
                    have hh4 : ∀ i, hi i3 = some i → i < 1014 := fun i e => Nat.lt_of_lt_of_le (ch_lt hh3 (by omega) e) hcap
                    refine j_iload_n dX0_fillWays_66 rfl 2 rfl ?_
                    refine j_iload_n dX0_fillWays_67 rfl 3 rfl ?_
                    refine j_sn0 (av := [.int (nI (wn)), .int (nI (m1))]) (r0 := .int (bI ((Nat.testBit wn m1)))) (c_hasBit l hfl D (tys3 cI cJ cZ) (wn) (m1) (by omega) (by omega)) rfl mw1_161 mw1_1 mw1_162 hd_X2_hasBit rfl ⟨rfl, rfl⟩ ⟨Nat.le_of_ble_eq_true rfl, Nat.le_of_ble_eq_true rfl⟩ ⟨Nat.zero_le _, Nat.zero_le _⟩ (Nat.le_of_ble_eq_true rfl) rfl dX0_fillWays_68 ?_
                    refine jb_if_eq (tgt := 78) (b := (Nat.testBit wn m1)) dX0_fillWays_71 (by decide) (fun c71 => ?_) (fun c71 => ?_)
                    · refine j_aload_n dX0_fillWays_78 rfl 1 rfl ?_
                      refine j_aload_n dX0_fillWays_79 rfl 0 rfl ?_
                      refine gf_X0_31 2 rfl (rfl) dX0_fillWays_80 ?_
                      refine j_iload dX0_fillWays_83 4 rfl ?_
                      refine jn_iald (v := oI (lo i3)) 9 0 rfl rfl (by omega) (by omega) (rfl) dX0_fillWays_85 ?_
                      refine j_sW (av := [.ref (q 12), .int (oI (lo i3))]) (c_waysOf l hfl D (tys3 cI cJ cZ) (wX cI cZ q R C dr sz sa cu fi st lo hi wa f3) 12 (q 12) cI f3 rfl rfl (lo i3) (hl4)) mw1_163 mw1_164 mw1_3 mw1_165 hd_X0_waysOf rfl ⟨rfl, rfl⟩ ⟨Nat.le_of_ble_eq_true rfl, Nat.le_of_ble_eq_true rfl⟩ ⟨Nat.zero_le _, Nat.zero_le _⟩ (Nat.le_of_ble_eq_true rfl) rfl dX0_fillWays_86 ?_
                      rintro _ _ ⟨rfl, rfl⟩
                      refine j_st (st' := [.int (nI (oW f3 (lo i3)))]) rfl ?_
                      refine j_istore [(5, .int (nI (oW f3 (lo i3)))), (0, .ref (q 2)), (1, .ref (q 12)), (2, .int (nI (wn))), (3, .int (nI (m1))), (4, .int (nI (i3)))] dX0_fillWays_89 (by decide) rfl ?_
                      refine j_aload_n dX0_fillWays_91 rfl 2 rfl ?_
                      refine j_iload dX0_fillWays_92 5 rfl ?_
                      refine j_iload dX0_fillWays_94 0 rfl ?_
                      refine j_aload_n dX0_fillWays_96 rfl 2 rfl ?_
                      refine j_aload_n dX0_fillWays_97 rfl 1 rfl ?_
                      refine gf_X0_34 2 rfl (rfl) dX0_fillWays_98 ?_
                      refine j_iload dX0_fillWays_101 5 rfl ?_
                      refine jn_iald (v := oI (hi i3)) 10 0 rfl rfl (by omega) (by omega) (rfl) dX0_fillWays_103 ?_
                      refine j_sW (av := [.ref (q 12), .int (oI (hi i3))]) (c_waysOf l hfl D (tys3 cI cJ cZ) (wX cI cZ q R C dr sz sa cu fi st lo hi wa f3) 12 (q 12) cI f3 rfl rfl (hi i3) (hh4)) mw1_163 mw1_164 mw1_3 mw1_165 hd_X0_waysOf rfl ⟨rfl, rfl⟩ ⟨Nat.le_of_ble_eq_true rfl, Nat.le_of_ble_eq_true rfl⟩ ⟨Nat.zero_le _, Nat.zero_le _⟩ (Nat.le_of_ble_eq_true rfl) rfl dX0_fillWays_104 ?_
                      rintro _ _ ⟨rfl, rfl⟩
                      refine j_st (st' := [.int (nI (oW f3 (hi i3))), .int (nI (oW f3 (lo i3))), .int (nI (i3)), .ref (q 12)]) rfl ?_
                      refine jn_iadd (v := (oW f3 (lo i3)) + (oW f3 (hi i3))) dX0_fillWays_107 rfl ?_
                      refine jn_iastN (wX cI cZ q R C dr sz sa cu fi st lo hi wa (va_up f3 i3 ((oW f3 (lo i3)) + (oW f3 (hi i3))))) 12 0 rfl rfl (by omega) (by omega) rfl dX0_fillWays_108 ?_
                      refine j_iinc (n0 := 5) (v := nI (i3 + 1)) [(4, .int (nI (i3 + 1))), (5, .int (nI (oW f3 (lo i3)))), (0, .ref (q 2)), (1, .ref (q 12)), (2, .int (nI (wn))), (3, .int (nI (m1)))] dX0_fillWays_109 rfl (by exact nI_add (i3) 1) (by decide) rfl ?_
                      refine j_goto (tgt := 53) dX0_fillWays_112 (by decide) ?_
                      refine j_sub [2, 3, 4, 5, 0] [(0, .ref (q 2)), (1, .ref (q 12)), (2, .int (nI (wn))), (3, .int (nI (m1))), (4, .int (nI (i3 + 1)))] rfl ?_
                      have hf4 : Wy R C cu wn (m1 + 1) (va_up f3 i3 (((oW f3 (lo i3)) + (oW f3 (hi i3))))) := Wy_put hf3 (by omega)
                      have hp4 : ∀ j s, (LvS R C cu m1)[j]? = some s → off R C cu m1 + j < i3 + 1 → (va_up f3 i3 (((oW f3 (lo i3)) + (oW f3 (hi i3))))) (off R C cu m1 + j) = WS R C cu wn (nE R C - m1) m1 s := fun j s4 h5 h6 => by
                        by_cases h7 : off R C cu m1 + j = i3
                        · rw [h7, va_up_self]
                          have h8 : j = j3 := by omega
                          subst h8
                          cases hs3.symm.trans h5
                          rw [show nE R C - m1 = (nE R C - (m1 + 1)) + 1 by omega]
                          unfold WS
                          rw [← ch_oW hl3 (fun i4 s4 h => hf3 (m1 + 1) i4 s4 (Nat.le_refl _) (by omega) h), ← ch_oW hh3 (fun i4 s4 h => hf3 (m1 + 1) i4 s4 (Nat.le_refl _) (by omega) h)]
                          simp [c71, hi3]
                        · rw [va_up_ne _ _ h7]; exact hp3 j s4 h5 (by omega)
                      exact ih53 (i3 + 1) (va_up f3 i3 ((oW f3 (lo i3)) + (oW f3 (hi i3)))) (by omega) (by omega) (by omega) hf4 hp4
                    · refine j_iconst (v := nI (0)) dX0_fillWays_74 (by decide) ?_
                      refine j_goto (tgt := 89) dX0_fillWays_75 (by decide) ?_
                      refine j_istore [(5, .int (nI (0))), (0, .ref (q 2)), (1, .ref (q 12)), (2, .int (nI (wn))), (3, .int (nI (m1))), (4, .int (nI (i3)))] dX0_fillWays_89 (by decide) rfl ?_
                      refine j_aload_n dX0_fillWays_91 rfl 2 rfl ?_
                      refine j_iload dX0_fillWays_92 5 rfl ?_
                      refine j_iload dX0_fillWays_94 0 rfl ?_
                      refine j_aload_n dX0_fillWays_96 rfl 2 rfl ?_
                      refine j_aload_n dX0_fillWays_97 rfl 1 rfl ?_
                      refine gf_X0_34 2 rfl (rfl) dX0_fillWays_98 ?_
                      refine j_iload dX0_fillWays_101 5 rfl ?_
                      refine jn_iald (v := oI (hi i3)) 10 0 rfl rfl (by omega) (by omega) (rfl) dX0_fillWays_103 ?_
                      refine j_sW (av := [.ref (q 12), .int (oI (hi i3))]) (c_waysOf l hfl D (tys3 cI cJ cZ) (wX cI cZ q R C dr sz sa cu fi st lo hi wa f3) 12 (q 12) cI f3 rfl rfl (hi i3) (hh4)) mw1_163 mw1_164 mw1_3 mw1_165 hd_X0_waysOf rfl ⟨rfl, rfl⟩ ⟨Nat.le_of_ble_eq_true rfl, Nat.le_of_ble_eq_true rfl⟩ ⟨Nat.zero_le _, Nat.zero_le _⟩ (Nat.le_of_ble_eq_true rfl) rfl dX0_fillWays_104 ?_
                      rintro _ _ ⟨rfl, rfl⟩
                      refine j_st (st' := [.int (nI (oW f3 (hi i3))), .int (nI (0)), .int (nI (i3)), .ref (q 12)]) rfl ?_
                      refine jn_iadd (v := 0 + (oW f3 (hi i3))) dX0_fillWays_107 rfl ?_
                      refine jn_iastN (wX cI cZ q R C dr sz sa cu fi st lo hi wa (va_up f3 i3 (0 + (oW f3 (hi i3))))) 12 0 rfl rfl (by omega) (by omega) rfl dX0_fillWays_108 ?_
                      refine j_iinc (n0 := 5) (v := nI (i3 + 1)) [(4, .int (nI (i3 + 1))), (5, .int (nI (0))), (0, .ref (q 2)), (1, .ref (q 12)), (2, .int (nI (wn))), (3, .int (nI (m1)))] dX0_fillWays_109 rfl (by exact nI_add (i3) 1) (by decide) rfl ?_
                      refine j_goto (tgt := 53) dX0_fillWays_112 (by decide) ?_
                      refine j_sub [2, 3, 4, 5, 0] [(0, .ref (q 2)), (1, .ref (q 12)), (2, .int (nI (wn))), (3, .int (nI (m1))), (4, .int (nI (i3 + 1)))] rfl ?_
                      have hf4 : Wy R C cu wn (m1 + 1) (va_up f3 i3 ((0 + (oW f3 (hi i3))))) := Wy_put hf3 (by omega)
                      have hp4 : ∀ j s, (LvS R C cu m1)[j]? = some s → off R C cu m1 + j < i3 + 1 → (va_up f3 i3 ((0 + (oW f3 (hi i3))))) (off R C cu m1 + j) = WS R C cu wn (nE R C - m1) m1 s := fun j s4 h5 h6 => by
                        by_cases h7 : off R C cu m1 + j = i3
                        · rw [h7, va_up_self]
                          have h8 : j = j3 := by omega
                          subst h8
                          cases hs3.symm.trans h5
                          rw [show nE R C - m1 = (nE R C - (m1 + 1)) + 1 by omega]
                          unfold WS
                          rw [← ch_oW hl3 (fun i4 s4 h => hf3 (m1 + 1) i4 s4 (Nat.le_refl _) (by omega) h), ← ch_oW hh3 (fun i4 s4 h => hf3 (m1 + 1) i4 s4 (Nat.le_refl _) (by omega) h)]
                          simp [c71, hi3]
                        · rw [va_up_ne _ _ h7]; exact hp3 j s4 h5 (by omega)
                      exact ih53 (i3 + 1) (va_up f3 i3 (0 + (oW f3 (hi i3)))) (by omega) (by omega) (by omega) hf4 hp4
              exact loop53 (off R C cu (m1 + 1) + 2) (fi m1) f2 (by omega) (by omega) (by omega) hf2 (fun j s hj h9 => absurd h9 (by omega))
        exact loop41 (nE R C + 1) (nE R C) f (by omega) (Nat.le_refl _) hW0
      · refine j_aload_n dX0_fillWays_21 rfl 1 rfl ?_
        refine j_iload_n dX0_fillWays_22 rfl 3 rfl ?_
        refine j_iconst (v := nI (1)) dX0_fillWays_23 (by decide) ?_
        refine jn_iastN (wX cI cZ q R C dr sz sa cu fi st lo hi wa (va_up f i 1)) 12 0 rfl rfl (by omega) (by omega) rfl dX0_fillWays_24 ?_
        refine j_iinc (n0 := 3) (v := nI (i + 1)) [(3, .int (nI (i + 1))), (0, .ref (q 2)), (1, .ref (q 12)), (2, .int (nI (wn)))] dX0_fillWays_25 rfl (by exact nI_add (i) 1) (by decide) rfl ?_
        refine j_goto (tgt := 13) dX0_fillWays_28 (by decide) ?_
        refine j_sub [1, 2, 3, 0] [(0, .ref (q 2)), (1, .ref (q 12)), (2, .int (nI (wn))), (3, .int (nI (i + 1)))] rfl ?_
        exact ih13 (i + 1) (va_up f i 1) (by omega) (by omega) (by omega) (fun j h5 h6 => if h7 : j = i then by rw [h7, va_up_self] else by rw [va_up_ne _ _ h7]; exact h3 j h5 (by omega))
  exact loop13 (sz + 2) (fi (nE R C)) sw (by omega) (by omega) (by omega) (fun j h5 h6 => absurd h6 (by omega))
end
section
set_option maxHeartbeats 4000000 in
set_option maxRecDepth 100000 in
theorem c_usefulAt (l : Launch) (hfl : l.flags = flags0) (D : va_G) (cI cJ cZ : ClassId) (q : Nat → Nat) (R C : Nat) (hG : GS R C) (dr sz : Nat) (sa : Bool) (cu fi st : Nat → Nat) (lo hi : Nat → Option Nat) (wa sw : Nat → Nat) (hx : XOK R C cu) (hg : Gr R C cu sz fi st lo hi) (hW : Wy R C cu 0 0 wa) (k0 : Nat) (hk0 : k0 ≤ nE R C) : Ct l yX0_usefulAt cX0_usefulAt 4 (Option.some FieldType.int) ({ frames := 0, cells := 0, slots := 0, locals := 0 } : Room) D (tys3 cI cJ cZ) (tys3 cI cJ cZ) (wX cI cZ q R C dr sz sa cu fi st lo hi wa sw) [.ref (q 2), .int (nI (k0))] (fun r u => r = some (.int (nI (usA R C cu k0 (LvS R C cu k0).length))) ∧ u = wX cI cZ q R C dr sz sa cu fi st lo hi wa sw) 0 0 := by
  refine Ct.of hfl (by decide) (Nat.le_of_ble_eq_true rfl) ?_
  intro k hR _
  have hR4 := hG.2.1
  have hC3 := hG.2.2.2
  have hR1 := hG.1
  have hC1 := hG.2.2.1
  have hE := hG.E
  have hRC := hG.RC
  have hE4 := hG.E4
  obtain ⟨hcu, hcap, hWb⟩ := hx
  obtain ⟨hsz, hfi, hst, hch⟩ := id hg
  have fk1 := hfi k0 (by omega)
  have fk2 := hfi (k0 + 1) (by omega)
  have ok1 : off R C cu (k0 + 1) = off R C cu k0 + (LvS R C cu k0).length := rfl
  have om1 : off R C cu (k0 + 1) ≤ off R C cu (nE R C + 1) := off_mono (by omega)
  show V k l D (tys3 cI cJ cZ) ({ frames := 0, cells := 0, slots := 0, locals := 0 } : Room) cX0_usefulAt 4 RX0 (wX cI cZ q R C dr sz sa cu fi st lo hi wa sw) 0 0 0 [(0, .ref (q 2)), (1, .int (nI (k0)))] []
  refine j_iconst (v := nI (0)) dX0_usefulAt_0 (by decide) ?_
  refine j_istore_n [(2, .int (nI (0))), (0, .ref (q 2)), (1, .int (nI (k0)))] dX0_usefulAt_1 rfl (by decide) rfl ?_
  refine j_aload_n dX0_usefulAt_2 rfl 1 rfl ?_
  refine gf_X0_21 2 rfl (rfl) dX0_usefulAt_3 ?_
  refine j_iload_n dX0_usefulAt_6 rfl 2 rfl ?_
  refine jn_iald (v := nI (fi k0)) 7 0 rfl rfl (by omega) (by omega) (rfl) dX0_usefulAt_7 ?_
  refine j_istore_n [(3, .int (nI (fi k0))), (2, .int (nI (0))), (0, .ref (q 2)), (1, .int (nI (k0)))] dX0_usefulAt_8 rfl (by decide) rfl ?_
  refine j_lv (lv' := [(3, .int (nI (off R C cu k0))), (2, .int (nI (0))), (0, .ref (q 2)), (1, .int (nI (k0)))]) (by rw [fk1]) ?_
  refine j_lv (lv' := [(3, .int (nI (off R C cu k0))), (2, .int (nI (usA R C cu k0 (off R C cu k0 - off R C cu k0)))), (0, .ref (q 2)), (1, .int (nI (k0)))]) (by rw [Nat.sub_self, usA_0]) ?_
  refine j_sub [2, 3, 1, 0] [(0, .ref (q 2)), (1, .int (nI (k0))), (2, .int (nI (usA R C cu k0 (off R C cu k0 - off R C cu k0)))), (3, .int (nI (off R C cu k0)))] rfl ?_
  have loop9 : ∀ (n : Nat) (i : Nat), (off R C cu (k0 + 1) < i + n) → (off R C cu k0 ≤ i) → (i ≤ off R C cu (k0 + 1)) → V k l D (tys3 cI cJ cZ) ({ frames := 0, cells := 0, slots := 0, locals := 0 } : Room) cX0_usefulAt 4 RX0 (wX cI cZ q R C dr sz sa cu fi st lo hi wa sw) 0 0 9 [(0, .ref (q 2)), (1, .int (nI (k0))), (2, .int (nI (usA R C cu k0 (i - off R C cu k0)))), (3, .int (nI (i)))] [] := by
    intro n
    induction n with
    | zero => intro i hm h1 h2; exfalso; omega
    | succ n ih9 =>
      intro i hm h1 h2
      refine j_iload_n dX0_usefulAt_9 rfl 3 rfl ?_
      refine j_aload_n dX0_usefulAt_10 rfl 0 rfl ?_
      refine gf_X0_21 2 rfl (rfl) dX0_usefulAt_11 ?_
      refine j_iload_n dX0_usefulAt_14 rfl 1 rfl ?_
      refine j_iconst (v := nI (1)) dX0_usefulAt_15 (by decide) ?_
      refine jn_iadd (v := k0 + 1) dX0_usefulAt_16 rfl ?_
      refine jn_iald (v := nI (fi (k0 + 1))) 7 0 rfl rfl (by omega) (by omega) (rfl) dX0_usefulAt_17 ?_
      refine jn_icmp_ge (tgt := 39) (a := i) (b := fi (k0 + 1)) (by omega) (by omega) dX0_usefulAt_18 (by decide) (fun c18 => ?_) (fun c18 => ?_)
      · refine j_iload_n dX0_usefulAt_39 rfl 2 rfl ?_
        exact j_iret (tys' := []) rfl hR dX0_usefulAt_40 (⟨by rw [show i = off R C cu (k0 + 1) by omega, show off R C cu (k0 + 1) - off R C cu k0 = (LvS R C cu k0).length from by rw [ok1, Nat.add_sub_cancel_left]], rfl⟩)
      · obtain ⟨j, s0, hi0, hs0⟩ := nd_at h1 (show i < off R C cu (k0 + 1) by omega)
        have w0 : wa i = WS R C cu 0 (nE R C - k0) k0 s0 := by rw [hi0]; exact hW k0 j s0 (Nat.zero_le _) hk0 hs0
        have w1 := hWb k0 hk0 s0 (mem_of_get hs0) 0
        have us := usA_s hs0
        have ij : i + 1 - off R C cu k0 = j + 1 := by omega
        have ij2 : i - off R C cu k0 = j := by omega
        refine j_aload_n dX0_usefulAt_21 rfl 0 rfl ?_
        refine gf_X0_37 2 rfl (rfl) dX0_usefulAt_22 ?_
        refine j_iload_n dX0_usefulAt_25 rfl 3 rfl ?_
        refine jn_iald (v := nI (wa i)) 11 0 rfl rfl (by omega) (by omega) (rfl) dX0_usefulAt_26 ?_
        refine jn_if_le (tgt := 33) (a := wa i) (by omega) dX0_usefulAt_27 (by decide) (fun c27 => ?_) (fun c27 => ?_)
        · refine j_lv (lv' := [(0, .ref (q 2)), (1, .int (nI (k0))), (2, .int (nI (usA R C cu k0 (i + 1 - off R C cu k0)))), (3, .int (nI (i)))]) (by rw [ij, ij2, us, if_neg (by omega), Nat.add_zero]) ?_
          refine j_iinc (n0 := 3) (v := nI (i + 1)) [(3, .int (nI (i + 1))), (0, .ref (q 2)), (1, .int (nI (k0))), (2, .int (nI (usA R C cu k0 (i + 1 - off R C cu k0))))] dX0_usefulAt_33 rfl (by exact nI_add (i) 1) (by decide) rfl ?_
          refine j_goto (tgt := 9) dX0_usefulAt_36 (by decide) ?_
          refine j_sub [1, 2, 3, 0] [(0, .ref (q 2)), (1, .int (nI (k0))), (2, .int (nI (usA R C cu k0 (i + 1 - off R C cu k0)))), (3, .int (nI (i + 1)))] rfl ?_
          exact ih9 (i + 1) (by omega) (by omega) (by omega)
        · refine j_iinc (n0 := 2) (v := nI (usA R C cu k0 (i - off R C cu k0) + 1)) [(2, .int (nI (usA R C cu k0 (i - off R C cu k0) + 1))), (0, .ref (q 2)), (1, .int (nI (k0))), (3, .int (nI (i)))] dX0_usefulAt_30 rfl (by exact nI_add (usA R C cu k0 (i - off R C cu k0)) 1) (by decide) rfl ?_
          refine j_lv (lv' := [(2, .int (nI (usA R C cu k0 (i + 1 - off R C cu k0)))), (0, .ref (q 2)), (1, .int (nI (k0))), (3, .int (nI (i)))]) (by rw [ij, ij2, us, if_pos (by omega)]) ?_
          refine j_iinc (n0 := 3) (v := nI (i + 1)) [(3, .int (nI (i + 1))), (2, .int (nI (usA R C cu k0 (i + 1 - off R C cu k0)))), (0, .ref (q 2)), (1, .int (nI (k0)))] dX0_usefulAt_33 rfl (by exact nI_add (i) 1) (by decide) rfl ?_
          refine j_goto (tgt := 9) dX0_usefulAt_36 (by decide) ?_
          refine j_sub [2, 3, 1, 0] [(0, .ref (q 2)), (1, .int (nI (k0))), (2, .int (nI (usA R C cu k0 (i + 1 - off R C cu k0)))), (3, .int (nI (i + 1)))] rfl ?_
          exact ih9 (i + 1) (by omega) (by omega) (by omega)
  exact loop9 (off R C cu (k0 + 1) + 2) (off R C cu k0) (by omega) (by omega) (by omega)

set_option maxHeartbeats 4000000 in
set_option maxRecDepth 100000 in
theorem c_solutionsWith (l : Launch) (hfl : l.flags = flags0) (D : va_G) (cI cJ cZ : ClassId) (q : Nat → Nat) (R C : Nat) (hG : GS R C) (dr sz : Nat) (sa : Bool) (cu fi st : Nat → Nat) (lo hi : Nat → Option Nat) (wa sw : Nat → Nat) (hx : XOK R C cu) (hg : Gr R C cu sz fi st lo hi) (wn : Nat) (hw : wn < 2 ^ 31) : Ct l yX0_solutionsWith cX0_solutionsWith 2 (Option.some FieldType.int) ({ frames := 2, cells := 0, slots := 0, locals := 46 } : Room) D (tys3 cI cJ cZ) (tys3 cI cJ cZ) (wX cI cZ q R C dr sz sa cu fi st lo hi wa sw) [.ref (q 2), .int (nI (wn))] (fun r u => r = some (.int (nI (WS R C cu wn (nE R C) 0 1672))) ∧ ∃ f : Nat → Nat, u = wX cI cZ q R C dr sz sa cu fi st lo hi wa f) 0 0 := by
  refine Ct.of hfl (by decide) (Nat.le_of_ble_eq_true rfl) ?_
  intro k hR _
  have hR4 := hG.2.1
  have hC3 := hG.2.2.2
  have hR1 := hG.1
  have hC1 := hG.2.2.1
  have hE := hG.E
  have hRC := hG.RC
  have hE4 := hG.E4
  show V k l D (tys3 cI cJ cZ) ({ frames := 2, cells := 0, slots := 0, locals := 46 } : Room) cX0_solutionsWith 2 RX0 (wX cI cZ q R C dr sz sa cu fi st lo hi wa sw) 0 0 0 [(0, .ref (q 2)), (1, .int (nI (wn)))] []
  refine j_aload_n dX0_solutionsWith_0 rfl 0 rfl ?_
  refine j_aload_n dX0_solutionsWith_1 rfl 0 rfl ?_
  refine gf_X0_40 2 rfl (rfl) dX0_solutionsWith_2 ?_
  refine j_iload_n dX0_solutionsWith_5 rfl 1 rfl ?_
  refine j_vW (av := [.ref (q 12), .int (nI (wn))]) (c_fillS l hfl D cI cJ cZ q R C hG dr sz sa cu fi st lo hi wa sw hx hg (wn) (hw)) 2 rfl rfl mw1_156 mw1_158 msel3 mw1_3 mw1_159 rfl hd_X0_fillWays rfl ⟨rfl, rfl⟩ ⟨Nat.le_of_ble_eq_true rfl, Nat.le_of_ble_eq_true rfl⟩ ⟨Nat.zero_le _, Nat.zero_le _⟩ (Nat.le_of_ble_eq_true rfl) rfl dX0_solutionsWith_6 ?_
  rintro _ _ ⟨rfl, f, hWf, rfl⟩
  refine j_st (st' := []) rfl ?_
  refine j_aload_n dX0_solutionsWith_9 rfl 0 rfl ?_
  refine gf_X0_40 2 rfl (rfl) dX0_solutionsWith_10 ?_
  refine j_iconst (v := nI (0)) dX0_solutionsWith_13 (by decide) ?_
  refine jn_iald (v := nI (f 0)) 12 0 rfl rfl (by omega) (by omega) (rfl) dX0_solutionsWith_14 ?_
  exact j_iret (tys' := []) rfl hR dX0_solutionsWith_15 (⟨by rw [show f 0 = WS R C cu wn (nE R C) 0 1672 from hWf 0 0 1672 (Nat.le_refl _) (Nat.zero_le _) (lv0 R C cu)], f, rfl⟩)

set_option maxHeartbeats 4000000 in
set_option maxRecDepth 100000 in
theorem c_solution0 (l : Launch) (hfl : l.flags = flags0) (D : va_G) (cI cJ cZ : ClassId) (q : Nat → Nat) (R C : Nat) (hG : GS R C) (dr sz : Nat) (sa : Bool) (cu fi st : Nat → Nat) (lo hi : Nat → Option Nat) (wa sw : Nat → Nat) (hx : XOK R C cu) (hg : Gr R C cu sz fi st lo hi) (hW : Wy R C cu 0 0 wa) (x : Int32) (hx0 : x < 0) : Ct l yX0_solution cX0_solution 7 (Option.some FieldType.int) ({ frames := 1, cells := 0, slots := 0, locals := 21 } : Room) D (tys3 cI cJ cZ) (tys3 cI cJ cZ) (wX cI cZ q R C dr sz sa cu fi st lo hi wa sw) [.ref (q 2), .int (x)] (fun r u => r = some (.int (nI (0))) ∧ u = wX cI cZ q R C dr sz sa cu fi st lo hi wa sw) 0 0 := by
  refine Ct.of hfl (by decide) (Nat.le_of_ble_eq_true rfl) ?_
  intro k hR _
  show V k l D (tys3 cI cJ cZ) ({ frames := 1, cells := 0, slots := 0, locals := 21 } : Room) cX0_solution 7 RX0 (wX cI cZ q R C dr sz sa cu fi st lo hi wa sw) 0 0 0 [(0, .ref (q 2)), (1, .int (x))] []
  refine j_iload_n dX0_solution_0 rfl 1 rfl ?_
  refine j_if_lt (tgt := 14) dX0_solution_1 (by decide) (fun c1 => ?_) (fun c1 => ?_)
  · refine j_iconst (v := nI (0)) dX0_solution_14 (by decide) ?_
    exact j_iret (tys' := []) rfl hR dX0_solution_15 (⟨rfl, rfl⟩)
  · exact absurd hx0 c1

set_option maxHeartbeats 4000000 in
set_option maxRecDepth 100000 in
theorem c_solution1 (l : Launch) (hfl : l.flags = flags0) (D : va_G) (cI cJ cZ : ClassId) (q : Nat → Nat) (R C : Nat) (hG : GS R C) (dr sz : Nat) (sa : Bool) (cu fi st : Nat → Nat) (lo hi : Nat → Option Nat) (wa sw : Nat → Nat) (hx : XOK R C cu) (hg : Gr R C cu sz fi st lo hi) (hW : Wy R C cu 0 0 wa) (x : Nat) (hx0 : x < 2 ^ 31) : Ct l yX0_solution cX0_solution 7 (Option.some FieldType.int) ({ frames := 1, cells := 0, slots := 0, locals := 21 } : Room) D (tys3 cI cJ cZ) (tys3 cI cJ cZ) (wX cI cZ q R C dr sz sa cu fi st lo hi wa sw) [.ref (q 2), .int (nI (x))] (fun r u => r = some (.int (nI (if x < WS R C cu 0 (nE R C) 0 1672 then solA R C cu (nE R C) 0 1672 x 0 else 0))) ∧ u = wX cI cZ q R C dr sz sa cu fi st lo hi wa sw) 0 0 := by
  refine Ct.of hfl (by decide) (Nat.le_of_ble_eq_true rfl) ?_
  intro k hR _
  have hR4 := hG.2.1
  have hC3 := hG.2.2.2
  have hR1 := hG.1
  have hC1 := hG.2.2.1
  have hE := hG.E
  have hRC := hG.RC
  have hE4 := hG.E4
  obtain ⟨hcu, hcap, hWb⟩ := hx
  obtain ⟨hsz, hfi, hst, hch⟩ := id hg
  have w00 : wa 0 = WS R C cu 0 (nE R C) 0 1672 := hW 0 0 1672 (Nat.le_refl _) (Nat.zero_le _) (lv0 R C cu)
  have wb0 := hWb 0 (Nat.zero_le _) 1672 (mem_of_get (lv0 R C cu)) 0
  rw [Nat.sub_zero] at wb0
  show V k l D (tys3 cI cJ cZ) ({ frames := 1, cells := 0, slots := 0, locals := 21 } : Room) cX0_solution 7 RX0 (wX cI cZ q R C dr sz sa cu fi st lo hi wa sw) 0 0 0 [(0, .ref (q 2)), (1, .int (nI (x)))] []
  refine j_iload_n dX0_solution_0 rfl 1 rfl ?_
  refine jn_if_lt (tgt := 14) (a := x) (by omega) dX0_solution_1 (by decide) (fun c1 => ?_) (fun c1 => ?_)
  · exact absurd c1 (by simp)
  · refine j_iload_n dX0_solution_4 rfl 1 rfl ?_
    refine j_aload_n dX0_solution_5 rfl 0 rfl ?_
    refine gf_X0_37 2 rfl (rfl) dX0_solution_6 ?_
    refine j_iconst (v := nI (0)) dX0_solution_9 (by decide) ?_
    refine jn_iald (v := nI (wa 0)) 11 0 rfl rfl (by omega) (by omega) (rfl) dX0_solution_10 ?_
    refine jn_icmp_lt (tgt := 16) (a := x) (b := wa 0) (by omega) (by omega) dX0_solution_11 (by decide) (fun c11 => ?_) (fun c11 => ?_)
    · refine j_iconst (v := nI (0)) dX0_solution_16 (by decide) ?_
      refine j_istore_n [(2, .int (nI (0))), (0, .ref (q 2)), (1, .int (nI (x)))] dX0_solution_17 rfl (by decide) rfl ?_
      refine j_iload_n dX0_solution_18 rfl 2 rfl ?_
      refine j_istore_n [(3, .int (nI (x))), (2, .int (nI (0))), (0, .ref (q 2)), (1, .int (nI (x)))] dX0_solution_19 rfl (by decide) rfl ?_
      refine j_iconst (v := nI (0)) dX0_solution_20 (by decide) ?_
      refine j_istore [(4, .int (nI (0))), (3, .int (nI (x))), (2, .int (nI (0))), (0, .ref (q 2)), (1, .int (nI (x)))] dX0_solution_21 (by decide) rfl ?_
      refine j_iconst (v := nI (0)) dX0_solution_23 (by decide) ?_
      refine j_istore [(5, .int (nI (0))), (4, .int (nI (0))), (3, .int (nI (x))), (2, .int (nI (0))), (0, .ref (q 2)), (1, .int (nI (x)))] dX0_solution_24 (by decide) rfl ?_
      refine j_lv (lv' := [(5, .int (nI (0))), (4, .int (nI (off R C cu 0 + 0))), (3, .int (nI (x))), (2, .int (nI (0))), (0, .ref (q 2)), (1, .int (nI (x)))]) (by rfl) ?_
      have hlt0 : x < WS R C cu 0 (nE R C) 0 1672 := by omega
      refine j_sub [4, 5, 3, 2, 1, 0] [(0, .ref (q 2)), (1, .int (nI (x))), (2, .int (nI (0))), (3, .int (nI (x))), (4, .int (nI (off R C cu 0 + 0))), (5, .int (nI (0)))] rfl ?_
      have loop26 : ∀ (n : Nat) (e i s le ac : Nat), (nE R C < e + n) → (e ≤ nE R C) → ((LvS R C cu e)[i]? = some s) → (le < WS R C cu 0 (nE R C - e) e s) → (solA R C cu (nE R C - e) e s le ac = solA R C cu (nE R C) 0 1672 x 0) → V k l D (tys3 cI cJ cZ) ({ frames := 1, cells := 0, slots := 0, locals := 21 } : Room) cX0_solution 7 RX0 (wX cI cZ q R C dr sz sa cu fi st lo hi wa sw) 0 0 26 [(0, .ref (q 2)), (1, .int (nI (x))), (2, .int (nI (ac))), (3, .int (nI (le))), (4, .int (nI (off R C cu e + i))), (5, .int (nI (e)))] [] := by
        intro n
        induction n with
        | zero => intro e i s le ac hm he hs hle hso; exfalso; omega
        | succ n ih26 =>
          intro e i s le ac hm he hs hle hso
          refine j_iload dX0_solution_26 5 rfl ?_
          refine j_aload_n dX0_solution_28 rfl 0 rfl ?_
          refine gf_X0_9 2 rfl (rfl) dX0_solution_29 ?_
          refine gf_X0_15 1 rfl (rfl) dX0_solution_32 ?_
          refine jn_icmp_ge (tgt := 105) (a := e) (b := nE R C) (by omega) (by omega) dX0_solution_35 (by decide) (fun c35 => ?_) (fun c35 => ?_)
          · refine j_iload_n dX0_solution_105 rfl 2 rfl ?_
            exact j_iret (tys' := []) rfl hR dX0_solution_106 (⟨by rw [if_pos hlt0, ← hso, show nE R C - e = 0 by omega]; rfl, rfl⟩)
          · have nb := nd_lt hs
            have om1 : off R C cu (e + 1) ≤ off R C cu (nE R C + 1) := off_mono (by omega)
            refine j_iload dX0_solution_38 4 rfl ?_
            refine j_iconst (v := (-1)) dX0_solution_40 (by decide) ?_
            refine j_icmp_eq (tgt := 105) dX0_solution_41 (by decide) (fun c41 => ?_) (fun c41 => ?_)
            · exact absurd c41 (nI_m1 (by omega))
            · obtain ⟨n1, hn1⟩ : ∃ n1, nE R C - e = n1 + 1 := ⟨nE R C - e - 1, by omega⟩
              have hn2 : nE R C - (e + 1) = n1 := by omega
              obtain ⟨hl, hh⟩ := hch e i s (by omega) hs
              have hlb : ∀ i2, lo (off R C cu e + i) = some i2 → i2 < 1014 := fun i2 h => Nat.lt_of_lt_of_le (ch_lt hl (by omega) h) hcap
              have wl : oW wa (lo (off R C cu e + i)) = oW (WS R C cu 0 n1 (e + 1)) (stepF R C cu s e false) := ch_oW hl (fun i2 s2 h => by rw [hW (e + 1) i2 s2 (Nat.zero_le _) (by omega) h, hn2])
              have wb1 := hWb e (by omega) s (mem_of_get hs) 0
              rw [hn1] at hle hso wb1
              simp only [WS, Nat.zero_testBit, Bool.false_eq_true, if_false] at hle wb1
              refine j_aload_n dX0_solution_44 rfl 0 rfl ?_
              refine gf_X0_37 2 rfl (rfl) dX0_solution_45 ?_
              refine j_aload_n dX0_solution_48 rfl 0 rfl ?_
              refine gf_X0_31 2 rfl (rfl) dX0_solution_49 ?_
              refine j_iload dX0_solution_52 4 rfl ?_
              refine jn_iald (v := oI (lo (off R C cu e + i))) 9 0 rfl rfl (by omega) (by omega) (rfl) dX0_solution_54 ?_
              refine j_sW (av := [.ref (q 11), .int (oI (lo (off R C cu e + i)))]) (c_waysOf l hfl D (tys3 cI cJ cZ) (wX cI cZ q R C dr sz sa cu fi st lo hi wa sw) 11 (q 11) cI wa rfl rfl (lo (off R C cu e + i)) (hlb)) mw1_163 mw1_164 mw1_3 mw1_165 hd_X0_waysOf rfl ⟨rfl, rfl⟩ ⟨Nat.le_of_ble_eq_true rfl, Nat.le_of_ble_eq_true rfl⟩ ⟨Nat.zero_le _, Nat.zero_le _⟩ (Nat.le_of_ble_eq_true rfl) rfl dX0_solution_55 ?_
              rintro _ _ ⟨rfl, rfl⟩
              refine j_st (st' := [.int (nI (oW wa (lo (off R C cu e + i))))]) rfl ?_
              refine j_topi (y := nI (oW wa (lo (off R C cu e + i)))) (rfl) ?_
              refine j_istore [(6, .int (nI (oW wa (lo (off R C cu e + i))))), (0, .ref (q 2)), (1, .int (nI (x))), (2, .int (nI (ac))), (3, .int (nI (le))), (4, .int (nI (off R C cu e + i))), (5, .int (nI (e)))] dX0_solution_58 (by decide) rfl ?_
              refine j_iload_n dX0_solution_60 rfl 4 rfl ?_
              refine j_iload dX0_solution_61 0 rfl ?_
              refine jn_icmp_ge (tgt := 78) (a := le) (b := oW wa (lo (off R C cu e + i))) (by omega) (by omega) dX0_solution_63 (by decide) (fun c63 => ?_) (fun c63 => ?_)
              · rw [wl] at c63
                have hlt0 : le - oW (WS R C cu 0 n1 (e + 1)) (stepF R C cu s e false) < oW (WS R C cu 0 n1 (e + 1)) (stepF R C cu s e true) := by omega
                obtain ⟨t, ht, hlt⟩ := oW_pos hlt0
                obtain ⟨j, hj1, hj2⟩ := ch_some hh ht
                have hs1 : solA R C cu n1 (e + 1) t (le - oW (WS R C cu 0 n1 (e + 1)) (stepF R C cu s e false)) (ac ||| 2 ^ e) = solA R C cu (nE R C) 0 1672 x 0 := by rw [← hso]; simp only [solA]; rw [if_neg (by omega), ht]; rfl
                refine j_iload_n dX0_solution_78 rfl 4 rfl ?_
                refine j_iload dX0_solution_79 0 rfl ?_
                refine jn_isub dX0_solution_81 (by rw [wl]; omega) rfl ?_
                refine j_topi (y := nI (le - oW (WS R C cu 0 n1 (e + 1)) (stepF R C cu s e false))) (by rw [wl]) ?_
                refine j_istore_n [(3, .int (nI (le - oW (WS R C cu 0 n1 (e + 1)) (stepF R C cu s e false)))), (6, .int (nI (oW wa (lo (off R C cu e + i))))), (0, .ref (q 2)), (1, .int (nI (x))), (2, .int (nI (ac))), (4, .int (nI (off R C cu e + i))), (5, .int (nI (e)))] dX0_solution_82 rfl (by decide) rfl ?_
                refine j_iload_n dX0_solution_83 rfl 4 rfl ?_
                refine j_iconst (v := nI (1)) dX0_solution_84 (by decide) ?_
                refine j_iload dX0_solution_85 6 rfl ?_
                refine j_ishl dX0_solution_87 rfl ?_
                refine j_ior dX0_solution_88 rfl ?_
                refine j_topi (y := nI (ac ||| 2 ^ e)) (or_bit (by omega)) ?_
                refine j_istore_n [(2, .int (nI (ac ||| 2 ^ e))), (3, .int (nI (le - oW (WS R C cu 0 n1 (e + 1)) (stepF R C cu s e false)))), (6, .int (nI (oW wa (lo (off R C cu e + i))))), (0, .ref (q 2)), (1, .int (nI (x))), (4, .int (nI (off R C cu e + i))), (5, .int (nI (e)))] dX0_solution_89 rfl (by decide) rfl ?_
                refine j_aload_n dX0_solution_90 rfl 3 rfl ?_
                refine gf_X0_34 2 rfl (rfl) dX0_solution_91 ?_
                refine j_iload dX0_solution_94 5 rfl ?_
                refine jn_iald (v := oI (hi (off R C cu e + i))) 10 0 rfl rfl (by omega) (by omega) (rfl) dX0_solution_96 ?_
                refine j_topi (y := nI (off R C cu (e + 1) + j)) (oI_some hj1) ?_
                refine j_istore [(4, .int (nI (off R C cu (e + 1) + j))), (2, .int (nI (ac ||| 2 ^ e))), (3, .int (nI (le - oW (WS R C cu 0 n1 (e + 1)) (stepF R C cu s e false)))), (6, .int (nI (oW wa (lo (off R C cu e + i))))), (0, .ref (q 2)), (1, .int (nI (x))), (5, .int (nI (e)))] dX0_solution_97 (by decide) rfl ?_
                refine j_iinc (n0 := 6) (v := nI (e + 1)) [(5, .int (nI (e + 1))), (4, .int (nI (off R C cu (e + 1) + j))), (2, .int (nI (ac ||| 2 ^ e))), (3, .int (nI (le - oW (WS R C cu 0 n1 (e + 1)) (stepF R C cu s e false)))), (6, .int (nI (oW wa (lo (off R C cu e + i))))), (0, .ref (q 2)), (1, .int (nI (x)))] dX0_solution_99 rfl (by exact nI_add (e) 1) (by decide) rfl ?_
                refine j_goto (tgt := 26) dX0_solution_102 (by decide) ?_
                refine j_sub [5, 6, 2, 3, 1, 0] [(0, .ref (q 2)), (1, .int (nI (x))), (2, .int (nI (ac ||| 2 ^ e))), (3, .int (nI (le - oW (WS R C cu 0 n1 (e + 1)) (stepF R C cu s e false)))), (4, .int (nI (off R C cu (e + 1) + j))), (5, .int (nI (e + 1)))] rfl ?_
                exact ih26 (e + 1) j t (le - oW (WS R C cu 0 n1 (e + 1)) (stepF R C cu s e false)) (ac ||| 2 ^ e) (by omega) (by omega) hj2 (by rw [hn2]; exact hlt) (by rw [hn2]; exact hs1)
              · rw [wl] at c63
                obtain ⟨t, ht, hlt⟩ := oW_pos c63
                obtain ⟨j, hj1, hj2⟩ := ch_some hl ht
                have hs1 : solA R C cu n1 (e + 1) t le ac = solA R C cu (nE R C) 0 1672 x 0 := by rw [← hso]; simp only [solA]; rw [if_pos c63, ht]; rfl
                refine j_aload_n dX0_solution_66 rfl 1 rfl ?_
                refine gf_X0_31 2 rfl (rfl) dX0_solution_67 ?_
                refine j_iload dX0_solution_70 5 rfl ?_
                refine jn_iald (v := oI (lo (off R C cu e + i))) 9 0 rfl rfl (by omega) (by omega) (rfl) dX0_solution_72 ?_
                refine j_topi (y := nI (off R C cu (e + 1) + j)) (oI_some hj1) ?_
                refine j_istore [(4, .int (nI (off R C cu (e + 1) + j))), (6, .int (nI (oW wa (lo (off R C cu e + i))))), (0, .ref (q 2)), (1, .int (nI (x))), (2, .int (nI (ac))), (3, .int (nI (le))), (5, .int (nI (e)))] dX0_solution_73 (by decide) rfl ?_
                refine j_goto (tgt := 99) dX0_solution_75 (by decide) ?_
                refine j_iinc (n0 := 6) (v := nI (e + 1)) [(5, .int (nI (e + 1))), (4, .int (nI (off R C cu (e + 1) + j))), (6, .int (nI (oW wa (lo (off R C cu e + i))))), (0, .ref (q 2)), (1, .int (nI (x))), (2, .int (nI (ac))), (3, .int (nI (le)))] dX0_solution_99 rfl (by exact nI_add (e) 1) (by decide) rfl ?_
                refine j_goto (tgt := 26) dX0_solution_102 (by decide) ?_
                refine j_sub [3, 4, 5, 6, 1, 0] [(0, .ref (q 2)), (1, .int (nI (x))), (2, .int (nI (ac))), (3, .int (nI (le))), (4, .int (nI (off R C cu (e + 1) + j))), (5, .int (nI (e + 1)))] rfl ?_
                exact ih26 (e + 1) j t (le) (ac) (by omega) (by omega) hj2 (by rw [hn2]; exact hlt) (by rw [hn2]; exact hs1)
      exact loop26 (nE R C + 2) 0 0 1672 x 0 (by omega) (by omega) (lv0 R C cu) hlt0 rfl
    · refine j_iconst (v := nI (0)) dX0_solution_14 (by decide) ?_
      exact j_iret (tys' := []) rfl hR dX0_solution_15 (⟨by rw [if_neg (by omega)], rfl⟩)

def solI (R C : Nat) (cu : Nat → Nat) (x : Int32) : Nat := if x < 0 then 0 else if x.toNatClampNeg < WS R C cu 0 (nE R C) 0 1672 then solA R C cu (nE R C) 0 1672 x.toNatClampNeg 0 else 0
theorem c_solution (l : Launch) (hfl : l.flags = flags0) (D : va_G) (cI cJ cZ : ClassId) (q : Nat → Nat) (R C : Nat) (hG : GS R C) (dr sz : Nat) (sa : Bool) (cu fi st : Nat → Nat) (lo hi : Nat → Option Nat) (wa sw : Nat → Nat) (hx : XOK R C cu) (hg : Gr R C cu sz fi st lo hi) (hW : Wy R C cu 0 0 wa) (x : Int32) : Ct l yX0_solution cX0_solution 7 (Option.some FieldType.int) ({ frames := 1, cells := 0, slots := 0, locals := 21 } : Room) D (tys3 cI cJ cZ) (tys3 cI cJ cZ) (wX cI cZ q R C dr sz sa cu fi st lo hi wa sw) [.ref (q 2), .int x] (fun r u => r = some (.int (nI (solI R C cu x))) ∧ u = wX cI cZ q R C dr sz sa cu fi st lo hi wa sw) 0 0 := by
  by_cases h : x < 0
  · have e : solI R C cu x = 0 := if_pos h
    rw [e]
    exact c_solution0 l hfl D cI cJ cZ q R C hG dr sz sa cu fi st lo hi wa sw hx hg hW x h
  · obtain ⟨n, hn, rfl⟩ := nI_of h
    have e : solI R C cu (nI n) = if n < WS R C cu 0 (nE R C) 0 1672 then solA R C cu (nE R C) 0 1672 n 0 else 0 := by
      unfold solI; rw [if_neg h, nI_clamp hn]
    rw [e]
    exact c_solution1 l hfl D cI cJ cZ q R C hG dr sz sa cu fi st lo hi wa sw hx hg hW n hn
end
section
set_option maxHeartbeats 4000000 in
set_option maxRecDepth 100000 in
theorem c_rankOf (l : Launch) (hfl : l.flags = flags0) (D : va_G) (cI cJ cZ : ClassId) (q : Nat → Nat) (R C : Nat) (hG : GS R C) (dr sz : Nat) (sa : Bool) (cu fi st : Nat → Nat) (lo hi : Nat → Option Nat) (wa sw : Nat → Nat) (hx : XOK R C cu) (hg : Gr R C cu sz fi st lo hi) (hW : Wy R C cu 0 0 wa) (sx : Nat) (hsx : sx < 2 ^ 31) : Ct l yX0_rankOf cX0_rankOf 5 (Option.some FieldType.int) ({ frames := 1, cells := 0, slots := 0, locals := 21 } : Room) D (tys3 cI cJ cZ) (tys3 cI cJ cZ) (wX cI cZ q R C dr sz sa cu fi st lo hi wa sw) [.ref (q 2), .int (nI (sx))] (fun r u => r = some (.int (oI (rkA R C cu sx (nE R C) 0 1672 0))) ∧ u = wX cI cZ q R C dr sz sa cu fi st lo hi wa sw) 0 0 := by
  refine Ct.of hfl (by decide) (Nat.le_of_ble_eq_true rfl) ?_
  intro k hR _
  have hR4 := hG.2.1
  have hC3 := hG.2.2.2
  have hR1 := hG.1
  have hC1 := hG.2.2.1
  have hE := hG.E
  have hRC := hG.RC
  have hE4 := hG.E4
  obtain ⟨hcu, hcap, hWb⟩ := hx
  obtain ⟨hsz, hfi, hst, hch⟩ := id hg
  have w00 : wa 0 = WS R C cu 0 (nE R C) 0 1672 := hW 0 0 1672 (Nat.le_refl _) (Nat.zero_le _) (lv0 R C cu)
  have wb0 := hWb 0 (Nat.zero_le _) 1672 (mem_of_get (lv0 R C cu)) 0
  rw [Nat.sub_zero] at wb0
  show V k l D (tys3 cI cJ cZ) ({ frames := 1, cells := 0, slots := 0, locals := 21 } : Room) cX0_rankOf 5 RX0 (wX cI cZ q R C dr sz sa cu fi st lo hi wa sw) 0 0 0 [(0, .ref (q 2)), (1, .int (nI (sx)))] []
  refine j_iconst (v := nI (0)) dX0_rankOf_0 (by decide) ?_
  refine j_istore_n [(2, .int (nI (0))), (0, .ref (q 2)), (1, .int (nI (sx)))] dX0_rankOf_1 rfl (by decide) rfl ?_
  refine j_iconst (v := nI (0)) dX0_rankOf_2 (by decide) ?_
  refine j_istore_n [(3, .int (nI (0))), (2, .int (nI (0))), (0, .ref (q 2)), (1, .int (nI (sx)))] dX0_rankOf_3 rfl (by decide) rfl ?_
  refine j_iconst (v := nI (0)) dX0_rankOf_4 (by decide) ?_
  refine j_istore [(4, .int (nI (0))), (3, .int (nI (0))), (2, .int (nI (0))), (0, .ref (q 2)), (1, .int (nI (sx)))] dX0_rankOf_5 (by decide) rfl ?_
  refine j_lv (lv' := [(4, .int (nI (0))), (3, .int (oI (some (off R C cu 0 + 0)))), (2, .int (nI (0))), (0, .ref (q 2)), (1, .int (nI (sx)))]) (by rfl) ?_
  refine j_sub [3, 4, 2, 1, 0] [(0, .ref (q 2)), (1, .int (nI (sx))), (2, .int (nI (0))), (3, .int (oI (some (off R C cu 0 + 0)))), (4, .int (nI (0)))] rfl ?_
  have loop7 : ∀ (n : Nat) (e rk : Nat) (no : Option Nat), (nE R C < e + n) → (e ≤ nE R C) → ((no = none ∧ rkA R C cu sx (nE R C) 0 1672 0 = none) ∨ (∃ i s, no = some (off R C cu e + i) ∧ (LvS R C cu e)[i]? = some s ∧ rkA R C cu sx (nE R C - e) e s rk = rkA R C cu sx (nE R C) 0 1672 0)) → V k l D (tys3 cI cJ cZ) ({ frames := 1, cells := 0, slots := 0, locals := 21 } : Room) cX0_rankOf 5 RX0 (wX cI cZ q R C dr sz sa cu fi st lo hi wa sw) 0 0 7 [(0, .ref (q 2)), (1, .int (nI (sx))), (2, .int (nI (rk))), (3, .int (oI (no))), (4, .int (nI (e)))] [] := by
    intro n
    induction n with
    | zero => intro e rk no hm he hs; exfalso; omega
    | succ n ih7 =>
      intro e rk no hm he hs
      refine j_iload dX0_rankOf_7 4 rfl ?_
      refine j_aload_n dX0_rankOf_9 rfl 0 rfl ?_
      refine gf_X0_9 2 rfl (rfl) dX0_rankOf_10 ?_
      refine gf_X0_15 1 rfl (rfl) dX0_rankOf_13 ?_
      refine jn_icmp_ge (tgt := 72) (a := e) (b := nE R C) (by omega) (by omega) dX0_rankOf_16 (by decide) (fun c16 => ?_) (fun c16 => ?_)
      · have hnob : ∀ s2, no = some s2 → s2 < 2 ^ 31 := fun s2 h => by
          rcases hs with ⟨h2, -⟩ | ⟨i, s3, h2, h3, -⟩
          · rw [h2] at h; cases h
          · rw [h2] at h; cases h; have := nd_lt h3; have : off R C cu (e + 1) ≤ off R C cu (nE R C + 1) := off_mono (by omega); omega
        refine j_iload_n dX0_rankOf_72 rfl 3 rfl ?_
        refine j_iconst (v := (-1)) dX0_rankOf_73 (by decide) ?_
        refine j_icmp_ne (tgt := 81) dX0_rankOf_74 (by decide) (fun c74 => ?_) (fun c74 => ?_)
        · have hend : nE R C - e = 0 := by first | omega | exact absurd c21 c74
          have hres : rkA R C cu sx (nE R C) 0 1672 0 = some rk := by
            rcases hs with ⟨h, -⟩ | ⟨i, s, h, hs, hr⟩
            · exact absurd (by rw [h]; rfl) c74
            · rw [← hr, hend]; rfl
          refine j_iload_n dX0_rankOf_81 rfl 2 rfl ?_
          exact j_iret (tys' := []) rfl hR dX0_rankOf_82 (by rw [hres]; exact ⟨rfl, rfl⟩)
        · have hres : rkA R C cu sx (nE R C) 0 1672 0 = none := by
            have hno : no = none := (oI_m1 hnob).mp c74
            rcases hs with ⟨-, h⟩ | ⟨i, s, h, -, -⟩
            · exact h
            · rw [hno] at h; cases h
          refine j_iconst (v := (-1)) dX0_rankOf_77 (by decide) ?_
          refine j_goto (tgt := 82) dX0_rankOf_78 (by decide) ?_
          exact j_iret (tys' := []) rfl hR dX0_rankOf_82 (by rw [hres]; exact ⟨rfl, rfl⟩)
      · refine j_iload_n dX0_rankOf_19 rfl 3 rfl ?_
        refine j_iconst (v := (-1)) dX0_rankOf_20 (by decide) ?_
        refine j_icmp_eq (tgt := 72) dX0_rankOf_21 (by decide) (fun c21 => ?_) (fun c21 => ?_)
        · have hnob : ∀ s2, no = some s2 → s2 < 2 ^ 31 := fun s2 h => by
            rcases hs with ⟨h2, -⟩ | ⟨i, s3, h2, h3, -⟩
            · rw [h2] at h; cases h
            · rw [h2] at h; cases h; have := nd_lt h3; have : off R C cu (e + 1) ≤ off R C cu (nE R C + 1) := off_mono (by omega); omega
          refine j_iload_n dX0_rankOf_72 rfl 3 rfl ?_
          refine j_iconst (v := (-1)) dX0_rankOf_73 (by decide) ?_
          refine j_icmp_ne (tgt := 81) dX0_rankOf_74 (by decide) (fun c74 => ?_) (fun c74 => ?_)
          · have hend : nE R C - e = 0 := by first | omega | exact absurd c21 c74
            have hres : rkA R C cu sx (nE R C) 0 1672 0 = some rk := by
              rcases hs with ⟨h, -⟩ | ⟨i, s, h, hs, hr⟩
              · exact absurd (by rw [h]; rfl) c74
              · rw [← hr, hend]; rfl
            refine j_iload_n dX0_rankOf_81 rfl 2 rfl ?_
            exact j_iret (tys' := []) rfl hR dX0_rankOf_82 (by rw [hres]; exact ⟨rfl, rfl⟩)
          · have hres : rkA R C cu sx (nE R C) 0 1672 0 = none := by
              have hno : no = none := (oI_m1 hnob).mp c74
              rcases hs with ⟨-, h⟩ | ⟨i, s, h, -, -⟩
              · exact h
              · rw [hno] at h; cases h
            refine j_iconst (v := (-1)) dX0_rankOf_77 (by decide) ?_
            refine j_goto (tgt := 82) dX0_rankOf_78 (by decide) ?_
            exact j_iret (tys' := []) rfl hR dX0_rankOf_82 (by rw [hres]; exact ⟨rfl, rfl⟩)
        · have hno : no ≠ none := fun h => c21 (by rw [h]; rfl)
          rcases hs with ⟨h, -⟩ | ⟨i, s, hno2, hs, hr⟩
          · exact absurd h hno
          subst hno2
          refine j_lv (lv' := [(0, .ref (q 2)), (1, .int (nI (sx))), (2, .int (nI (rk))), (3, .int (nI (off R C cu e + i))), (4, .int (nI (e)))]) (by rfl) ?_
          obtain ⟨n1, hn1⟩ : ∃ n1, nE R C - e = n1 + 1 := ⟨nE R C - e - 1, by omega⟩
          have hn2 : nE R C - (e + 1) = n1 := by omega
          obtain ⟨hl, hh⟩ := hch e i s (by omega) hs
          have hlb : ∀ i2, lo (off R C cu e + i) = some i2 → i2 < 1014 := fun i2 h => Nat.lt_of_lt_of_le (ch_lt hl (by omega) h) hcap
          have wl : oW wa (lo (off R C cu e + i)) = oW (WS R C cu 0 n1 (e + 1)) (stepF R C cu s e false) := ch_oW hl (fun i2 s2 h => by rw [hW (e + 1) i2 s2 (Nat.zero_le _) (by omega) h, hn2])
          have nb := nd_lt hs
          have om1 : off R C cu (e + 1) ≤ off R C cu (nE R C + 1) := off_mono (by omega)
          rw [hn1] at hr
          simp only [rkA] at hr
          refine j_iload_n dX0_rankOf_24 rfl 1 rfl ?_
          refine j_iload dX0_rankOf_25 4 rfl ?_
          refine j_sn0 (av := [.int (nI (sx)), .int (nI (e))]) (r0 := .int (bI ((Nat.testBit sx e)))) (c_hasBit l hfl D (tys3 cI cJ cZ) (sx) (e) (by omega) (by omega)) rfl mw1_161 mw1_1 mw1_162 hd_X2_hasBit rfl ⟨rfl, rfl⟩ ⟨Nat.le_of_ble_eq_true rfl, Nat.le_of_ble_eq_true rfl⟩ ⟨Nat.zero_le _, Nat.zero_le _⟩ (Nat.le_of_ble_eq_true rfl) rfl dX0_rankOf_27 ?_
          refine jb_if_eq (tgt := 59) (b := (Nat.testBit sx e)) dX0_rankOf_30 (by decide) (fun c30 => ?_) (fun c30 => ?_)
          · have hs1 : (lo (off R C cu e + i) = none ∧ rkA R C cu sx (nE R C) 0 1672 0 = none) ∨ (∃ i2 s2, lo (off R C cu e + i) = some (off R C cu (e + 1) + i2) ∧ (LvS R C cu (e + 1))[i2]? = some s2 ∧ rkA R C cu sx (nE R C - (e + 1)) (e + 1) s2 (rk) = rkA R C cu sx (nE R C) 0 1672 0) := by
              rw [c30] at hr
              cases hst : stepF R C cu s e false with
              | none =>
                rw [hst] at hr
                exact Or.inl ⟨ch_none hl hst, hr.symm⟩
              | some t =>
                rw [hst] at hr
                obtain ⟨j, hj1, hj2⟩ := ch_some hl hst
                refine Or.inr ⟨j, t, hj1, hj2, ?_⟩
                rw [← hr, hn2]
                first | rfl | simp
            refine j_aload_n dX0_rankOf_59 rfl 0 rfl ?_
            refine gf_X0_31 2 rfl (rfl) dX0_rankOf_60 ?_
            refine j_iload_n dX0_rankOf_63 rfl 3 rfl ?_
            refine jn_iald (v := oI (lo (off R C cu e + i))) 9 0 rfl rfl (by omega) (by omega) (rfl) dX0_rankOf_64 ?_
            refine j_istore_n [(3, .int (oI (lo (off R C cu e + i)))), (0, .ref (q 2)), (1, .int (nI (sx))), (2, .int (nI (rk))), (4, .int (nI (e)))] dX0_rankOf_65 rfl (by decide) rfl ?_
            refine j_iinc (n0 := 4) (v := nI (e + 1)) [(4, .int (nI (e + 1))), (3, .int (oI (lo (off R C cu e + i)))), (0, .ref (q 2)), (1, .int (nI (sx))), (2, .int (nI (rk)))] dX0_rankOf_66 rfl (by exact nI_add (e) 1) (by decide) rfl ?_
            refine j_goto (tgt := 7) dX0_rankOf_69 (by decide) ?_
            refine j_sub [2, 3, 4, 1, 0] [(0, .ref (q 2)), (1, .int (nI (sx))), (2, .int (nI (rk))), (3, .int (oI (lo (off R C cu e + i)))), (4, .int (nI (e + 1)))] rfl ?_
            exact ih7 (e + 1) (rk) (lo (off R C cu e + i)) (by omega) (by omega) hs1
          · refine j_iload_n dX0_rankOf_33 rfl 2 rfl ?_
            refine j_aload_n dX0_rankOf_34 rfl 0 rfl ?_
            refine gf_X0_37 2 rfl (rfl) dX0_rankOf_35 ?_
            refine j_aload_n dX0_rankOf_38 rfl 0 rfl ?_
            refine gf_X0_31 2 rfl (rfl) dX0_rankOf_39 ?_
            refine j_iload_n dX0_rankOf_42 rfl 3 rfl ?_
            refine jn_iald (v := oI (lo (off R C cu e + i))) 9 0 rfl rfl (by omega) (by omega) (rfl) dX0_rankOf_43 ?_
            refine j_sW (av := [.ref (q 11), .int (oI (lo (off R C cu e + i)))]) (c_waysOf l hfl D (tys3 cI cJ cZ) (wX cI cZ q R C dr sz sa cu fi st lo hi wa sw) 11 (q 11) cI wa rfl rfl (lo (off R C cu e + i)) (hlb)) mw1_163 mw1_164 mw1_3 mw1_165 hd_X0_waysOf rfl ⟨rfl, rfl⟩ ⟨Nat.le_of_ble_eq_true rfl, Nat.le_of_ble_eq_true rfl⟩ ⟨Nat.zero_le _, Nat.zero_le _⟩ (Nat.le_of_ble_eq_true rfl) rfl dX0_rankOf_44 ?_
            rintro _ _ ⟨rfl, rfl⟩
            refine j_st (st' := [.int (nI (oW wa (lo (off R C cu e + i)))), .int (nI (rk))]) rfl ?_
            refine jn_iadd (v := rk + (oW wa (lo (off R C cu e + i)))) dX0_rankOf_47 rfl ?_
            refine j_istore_n [(2, .int (nI (rk + (oW wa (lo (off R C cu e + i)))))), (0, .ref (q 2)), (1, .int (nI (sx))), (3, .int (nI (off R C cu e + i))), (4, .int (nI (e)))] dX0_rankOf_48 rfl (by decide) rfl ?_
            have hs1 : (hi (off R C cu e + i) = none ∧ rkA R C cu sx (nE R C) 0 1672 0 = none) ∨ (∃ i2 s2, hi (off R C cu e + i) = some (off R C cu (e + 1) + i2) ∧ (LvS R C cu (e + 1))[i2]? = some s2 ∧ rkA R C cu sx (nE R C - (e + 1)) (e + 1) s2 (rk + oW wa (lo (off R C cu e + i))) = rkA R C cu sx (nE R C) 0 1672 0) := by
              rw [c30] at hr
              cases hst : stepF R C cu s e true with
              | none =>
                rw [hst] at hr
                exact Or.inl ⟨ch_none hh hst, hr.symm⟩
              | some t =>
                rw [hst] at hr
                obtain ⟨j, hj1, hj2⟩ := ch_some hh hst
                refine Or.inr ⟨j, t, hj1, hj2, ?_⟩
                rw [← hr, hn2, wl]
                first | rfl | simp
            refine j_aload_n dX0_rankOf_49 rfl 1 rfl ?_
            refine gf_X0_34 2 rfl (rfl) dX0_rankOf_50 ?_
            refine j_iload_n dX0_rankOf_53 rfl 3 rfl ?_
            refine jn_iald (v := oI (hi (off R C cu e + i))) 10 0 rfl rfl (by omega) (by omega) (rfl) dX0_rankOf_54 ?_
            refine j_istore_n [(3, .int (oI (hi (off R C cu e + i)))), (2, .int (nI (rk + (oW wa (lo (off R C cu e + i)))))), (0, .ref (q 2)), (1, .int (nI (sx))), (4, .int (nI (e)))] dX0_rankOf_55 rfl (by decide) rfl ?_
            refine j_goto (tgt := 66) dX0_rankOf_56 (by decide) ?_
            refine j_iinc (n0 := 4) (v := nI (e + 1)) [(4, .int (nI (e + 1))), (3, .int (oI (hi (off R C cu e + i)))), (2, .int (nI (rk + (oW wa (lo (off R C cu e + i)))))), (0, .ref (q 2)), (1, .int (nI (sx)))] dX0_rankOf_66 rfl (by exact nI_add (e) 1) (by decide) rfl ?_
            refine j_goto (tgt := 7) dX0_rankOf_69 (by decide) ?_
            refine j_sub [3, 4, 2, 1, 0] [(0, .ref (q 2)), (1, .int (nI (sx))), (2, .int (nI (rk + (oW wa (lo (off R C cu e + i)))))), (3, .int (oI (hi (off R C cu e + i)))), (4, .int (nI (e + 1)))] rfl ?_
            exact ih7 (e + 1) (rk + (oW wa (lo (off R C cu e + i)))) (hi (off R C cu e + i)) (by omega) (by omega) hs1
  exact loop7 (nE R C + 2) 0 0 (some (off R C cu 0 + 0)) (by omega) (by omega) (Or.inr ⟨0, 1672, rfl, lv0 R C cu, rfl⟩)

set_option maxHeartbeats 4000000 in
set_option maxRecDepth 100000 in
theorem c_aliveEdges (l : Launch) (hfl : l.flags = flags0) (D : va_G) (cI cJ cZ : ClassId) (q : Nat → Nat) (R C : Nat) (hG : GS R C) (dr sz : Nat) (sa : Bool) (cu fi st : Nat → Nat) (lo hi : Nat → Option Nat) (wa sw : Nat → Nat) (hx : XOK R C cu) (hg : Gr R C cu sz fi st lo hi) (sx : Nat) (hsx : sx < 2 ^ 31) : Ct l yX0_aliveEdges cX0_aliveEdges 4 (Option.some FieldType.int) ({ frames := 1, cells := 0, slots := 0, locals := 21 } : Room) D (tys3 cI cJ cZ) (tys3 cI cJ cZ) (wX cI cZ q R C dr sz sa cu fi st lo hi wa sw) [.ref (q 2), .int (nI (sx))] (fun r u => r = some (.int (nI (alA R C cu sx (nE R C) 0 1672))) ∧ u = wX cI cZ q R C dr sz sa cu fi st lo hi wa sw) 0 0 := by
  refine Ct.of hfl (by decide) (Nat.le_of_ble_eq_true rfl) ?_
  intro k hR _
  have hR4 := hG.2.1
  have hC3 := hG.2.2.2
  have hR1 := hG.1
  have hC1 := hG.2.2.1
  have hE := hG.E
  have hRC := hG.RC
  have hE4 := hG.E4
  obtain ⟨hcu, hcap, hWb⟩ := hx
  obtain ⟨hsz, hfi, hst, hch⟩ := id hg
  show V k l D (tys3 cI cJ cZ) ({ frames := 1, cells := 0, slots := 0, locals := 21 } : Room) cX0_aliveEdges 4 RX0 (wX cI cZ q R C dr sz sa cu fi st lo hi wa sw) 0 0 0 [(0, .ref (q 2)), (1, .int (nI (sx)))] []
  refine j_iconst (v := nI (0)) dX0_aliveEdges_0 (by decide) ?_
  refine j_istore_n [(2, .int (nI (0))), (0, .ref (q 2)), (1, .int (nI (sx)))] dX0_aliveEdges_1 rfl (by decide) rfl ?_
  refine j_iconst (v := nI (0)) dX0_aliveEdges_2 (by decide) ?_
  refine j_istore_n [(3, .int (nI (0))), (2, .int (nI (0))), (0, .ref (q 2)), (1, .int (nI (sx)))] dX0_aliveEdges_3 rfl (by decide) rfl ?_
  refine j_lv (lv' := [(3, .int (nI (0))), (2, .int (nI (off R C cu 0 + 0))), (0, .ref (q 2)), (1, .int (nI (sx)))]) (by rfl) ?_
  refine j_sub [2, 3, 1, 0] [(0, .ref (q 2)), (1, .int (nI (sx))), (2, .int (nI (off R C cu 0 + 0))), (3, .int (nI (0)))] rfl ?_
  have loop4 : ∀ (n : Nat) (e i s : Nat), (nE R C < e + n) → (e ≤ nE R C) → ((LvS R C cu e)[i]? = some s) → (alA R C cu sx (nE R C - e) e s = alA R C cu sx (nE R C) 0 1672) → V k l D (tys3 cI cJ cZ) ({ frames := 1, cells := 0, slots := 0, locals := 21 } : Room) cX0_aliveEdges 4 RX0 (wX cI cZ q R C dr sz sa cu fi st lo hi wa sw) 0 0 4 [(0, .ref (q 2)), (1, .int (nI (sx))), (2, .int (nI (off R C cu e + i))), (3, .int (nI (e)))] [] := by
    intro n
    induction n with
    | zero => intro e i s hm he hs hr; exfalso; omega
    | succ n ih4 =>
      intro e i s hm he hs hr
      refine j_iload_n dX0_aliveEdges_4 rfl 3 rfl ?_
      refine j_aload_n dX0_aliveEdges_5 rfl 0 rfl ?_
      refine gf_X0_9 2 rfl (rfl) dX0_aliveEdges_6 ?_
      refine gf_X0_15 1 rfl (rfl) dX0_aliveEdges_9 ?_
      refine jn_icmp_ge (tgt := 52) (a := e) (b := nE R C) (by omega) (by omega) dX0_aliveEdges_12 (by decide) (fun c12 => ?_) (fun c12 => ?_)
      · refine j_aload_n dX0_aliveEdges_52 rfl 0 rfl ?_
        refine gf_X0_9 2 rfl (rfl) dX0_aliveEdges_53 ?_
        refine gf_X0_15 1 rfl (rfl) dX0_aliveEdges_56 ?_
        exact j_iret (tys' := []) rfl hR dX0_aliveEdges_59 (⟨by rw [← hr, show nE R C - e = 0 by omega]; show _ = some (Value.int (nI e)); rw [show e = nE R C by omega], rfl⟩)
      · obtain ⟨n1, hn1⟩ : ∃ n1, nE R C - e = n1 + 1 := ⟨nE R C - e - 1, by omega⟩
        have hn2 : nE R C - (e + 1) = n1 := by omega
        obtain ⟨hl, hh⟩ := hch e i s (by omega) hs
        have nb := nd_lt hs
        have om1 : off R C cu (e + 1) ≤ off R C cu (nE R C + 1) := off_mono (by omega)
        rw [hn1] at hr
        simp only [alA] at hr
        refine j_iload_n dX0_aliveEdges_15 rfl 1 rfl ?_
        refine j_iload_n dX0_aliveEdges_16 rfl 3 rfl ?_
        refine j_sn0 (av := [.int (nI (sx)), .int (nI (e))]) (r0 := .int (bI ((Nat.testBit sx e)))) (c_hasBit l hfl D (tys3 cI cJ cZ) (sx) (e) (by omega) (by omega)) rfl mw1_161 mw1_1 mw1_162 hd_X2_hasBit rfl ⟨rfl, rfl⟩ ⟨Nat.le_of_ble_eq_true rfl, Nat.le_of_ble_eq_true rfl⟩ ⟨Nat.zero_le _, Nat.zero_le _⟩ (Nat.le_of_ble_eq_true rfl) rfl dX0_aliveEdges_17 ?_
        refine jb_if_eq (tgt := 32) (b := (Nat.testBit sx e)) dX0_aliveEdges_20 (by decide) (fun c20 => ?_) (fun c20 => ?_)
        · refine j_aload_n dX0_aliveEdges_32 rfl 0 rfl ?_
          refine gf_X0_31 2 rfl (rfl) dX0_aliveEdges_33 ?_
          refine j_iload_n dX0_aliveEdges_36 rfl 2 rfl ?_
          refine jn_iald (v := oI (lo (off R C cu e + i))) 9 0 rfl rfl (by omega) (by omega) (rfl) dX0_aliveEdges_37 ?_
          refine j_istore_n [(2, .int (oI (lo (off R C cu e + i)))), (0, .ref (q 2)), (1, .int (nI (sx))), (3, .int (nI (e)))] dX0_aliveEdges_38 rfl (by decide) rfl ?_
          refine j_iload_n dX0_aliveEdges_39 rfl 0 rfl ?_
          refine j_iconst (v := (-1)) dX0_aliveEdges_40 (by decide) ?_
          refine j_icmp_ne (tgt := 46) dX0_aliveEdges_41 (by decide) (fun c41 => ?_) (fun c41 => ?_)
          · obtain ⟨t, ht⟩ : ∃ t, stepF R C cu s e false = some t := by
              cases hst : stepF R C cu s e false with
              | none => exact absurd (by rw [ch_none hl hst]; rfl) c41
              | some t => exact ⟨t, rfl⟩
            obtain ⟨j, hj1, hj2⟩ := ch_some hl ht
            have hs1 : alA R C cu sx (nE R C - (e + 1)) (e + 1) t = alA R C cu sx (nE R C) 0 1672 := by rw [← hr, c20, ht, hn2]
            refine j_lv (lv' := [(2, .int (nI (off R C cu (e + 1) + j))), (0, .ref (q 2)), (1, .int (nI (sx))), (3, .int (nI (e)))]) (by rw [hj1]; rfl) ?_
            refine j_iinc (n0 := 3) (v := nI (e + 1)) [(3, .int (nI (e + 1))), (2, .int (nI (off R C cu (e + 1) + j))), (0, .ref (q 2)), (1, .int (nI (sx)))] dX0_aliveEdges_46 rfl (by exact nI_add (e) 1) (by decide) rfl ?_
            refine j_goto (tgt := 4) dX0_aliveEdges_49 (by decide) ?_
            refine j_sub [2, 3, 1, 0] [(0, .ref (q 2)), (1, .int (nI (sx))), (2, .int (nI (off R C cu (e + 1) + j))), (3, .int (nI (e + 1)))] rfl ?_
            exact ih4 (e + 1) j t (by omega) (by omega) hj2 hs1
          · have hc1 : lo (off R C cu e + i) = none := by
              cases hst : stepF R C cu s e false with
              | none => exact ch_none hl hst
              | some t =>
                obtain ⟨j, hj1, hj2⟩ := ch_some hl hst
                have := nd_lt hj2
                have : off R C cu (e + 1 + 1) ≤ off R C cu (nE R C + 1) := off_mono (by omega)
                rw [hj1] at c41
                exact absurd c41 (nI_m1 (by show off R C cu (e + 1) + j < 2 ^ 31; omega))
            have hres : alA R C cu sx (nE R C) 0 1672 = e := by
              rw [← hr, c20]
              cases hst : stepF R C cu s e false with
              | none => rfl
              | some t =>
                obtain ⟨j, hj1, -⟩ := ch_some hl hst
                rw [hj1] at hc1; cases hc1
            refine j_iload_n dX0_aliveEdges_44 rfl 3 rfl ?_
            exact j_iret (tys' := []) rfl hR dX0_aliveEdges_45 (⟨by rw [hres], rfl⟩)
        · refine j_aload_n dX0_aliveEdges_23 rfl 0 rfl ?_
          refine gf_X0_34 2 rfl (rfl) dX0_aliveEdges_24 ?_
          refine j_iload_n dX0_aliveEdges_27 rfl 2 rfl ?_
          refine jn_iald (v := oI (hi (off R C cu e + i))) 10 0 rfl rfl (by omega) (by omega) (rfl) dX0_aliveEdges_28 ?_
          refine j_goto (tgt := 38) dX0_aliveEdges_29 (by decide) ?_
          refine j_istore_n [(2, .int (oI (hi (off R C cu e + i)))), (0, .ref (q 2)), (1, .int (nI (sx))), (3, .int (nI (e)))] dX0_aliveEdges_38 rfl (by decide) rfl ?_
          refine j_iload_n dX0_aliveEdges_39 rfl 0 rfl ?_
          refine j_iconst (v := (-1)) dX0_aliveEdges_40 (by decide) ?_
          refine j_icmp_ne (tgt := 46) dX0_aliveEdges_41 (by decide) (fun c41 => ?_) (fun c41 => ?_)
          · obtain ⟨t, ht⟩ : ∃ t, stepF R C cu s e true = some t := by
              cases hst : stepF R C cu s e true with
              | none => exact absurd (by rw [ch_none hh hst]; rfl) c41
              | some t => exact ⟨t, rfl⟩
            obtain ⟨j, hj1, hj2⟩ := ch_some hh ht
            have hs1 : alA R C cu sx (nE R C - (e + 1)) (e + 1) t = alA R C cu sx (nE R C) 0 1672 := by rw [← hr, c20, ht, hn2]
            refine j_lv (lv' := [(2, .int (nI (off R C cu (e + 1) + j))), (0, .ref (q 2)), (1, .int (nI (sx))), (3, .int (nI (e)))]) (by rw [hj1]; rfl) ?_
            refine j_iinc (n0 := 3) (v := nI (e + 1)) [(3, .int (nI (e + 1))), (2, .int (nI (off R C cu (e + 1) + j))), (0, .ref (q 2)), (1, .int (nI (sx)))] dX0_aliveEdges_46 rfl (by exact nI_add (e) 1) (by decide) rfl ?_
            refine j_goto (tgt := 4) dX0_aliveEdges_49 (by decide) ?_
            refine j_sub [2, 3, 1, 0] [(0, .ref (q 2)), (1, .int (nI (sx))), (2, .int (nI (off R C cu (e + 1) + j))), (3, .int (nI (e + 1)))] rfl ?_
            exact ih4 (e + 1) j t (by omega) (by omega) hj2 hs1
          · have hc1 : hi (off R C cu e + i) = none := by
              cases hst : stepF R C cu s e true with
              | none => exact ch_none hh hst
              | some t =>
                obtain ⟨j, hj1, hj2⟩ := ch_some hh hst
                have := nd_lt hj2
                have : off R C cu (e + 1 + 1) ≤ off R C cu (nE R C + 1) := off_mono (by omega)
                rw [hj1] at c41
                exact absurd c41 (nI_m1 (by show off R C cu (e + 1) + j < 2 ^ 31; omega))
            have hres : alA R C cu sx (nE R C) 0 1672 = e := by
              rw [← hr, c20]
              cases hst : stepF R C cu s e true with
              | none => rfl
              | some t =>
                obtain ⟨j, hj1, -⟩ := ch_some hh hst
                rw [hj1] at hc1; cases hc1
            refine j_iload_n dX0_aliveEdges_44 rfl 3 rfl ?_
            exact j_iret (tys' := []) rfl hR dX0_aliveEdges_45 (⟨by rw [hres], rfl⟩)
  exact loop4 (nE R C + 2) 0 0 1672 (by omega) (by omega) (lv0 R C cu) rfl
end
