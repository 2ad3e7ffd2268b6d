section
-- ===== PART A: goes FIRST, ahead of the names: the tables' words, and 'selects' of the private methods out of them =====
/-- a private method of a class that the tables say can be made, by its rows of tables_1 -/
def lw_okq (q : MethodName × Nat) : Prop := (q.1.cls ≠ "java/lang/invoke/MethodHandle" ∧ q.1.cls ≠ "java/lang/invoke/VarHandle") ∧ Cond.instantiable q.1.cls q.2 ∈ tables_1 ∧ Cond.privateMethod q.1 ∈ tables_1 ∧ Cond.instanceMethod q.1 ∈ tables_1
theorem lw_p0 : lw_okq (⟨"LoopDiagram", "fresh", "()LLoopDiagram$Diagram;"⟩, 4) := ⟨⟨by decide +kernel, by decide +kernel⟩, List.mem_of_getElem? (i := 14) (by decide +kernel), List.mem_of_getElem? (i := 115) (by decide +kernel), List.mem_of_getElem? (i := 116) (by decide +kernel)⟩
theorem lw_p1 : lw_okq (⟨"LoopDiagram$Diagram", "nodeAfter", "(IIZ)I"⟩, 8) := ⟨⟨by decide +kernel, by decide +kernel⟩, List.mem_of_getElem? (i := 60) (by decide +kernel), List.mem_of_getElem? (i := 123) (by decide +kernel), List.mem_of_getElem? (i := 124) (by decide +kernel)⟩
theorem lw_p2 : lw_okq (⟨"LoopDiagram$Grid", "sideAfter", "(IIIZZ)I"⟩, 7) := ⟨⟨by decide +kernel, by decide +kernel⟩, List.mem_of_getElem? (i := 22) (by decide +kernel), List.mem_of_getElem? (i := 153) (by decide +kernel), List.mem_of_getElem? (i := 154) (by decide +kernel)⟩
theorem lw_p3 : lw_okq (⟨"LoopDiagram$Diagram", "fillWays", "([II)V"⟩, 8) := ⟨⟨by decide +kernel, by decide +kernel⟩, List.mem_of_getElem? (i := 60) (by decide +kernel), List.mem_of_getElem? (i := 157) (by decide +kernel), List.mem_of_getElem? (i := 158) (by decide +kernel)⟩
theorem lw_p4 : lw_okq (⟨"LoopDiagram", "isNoEdge", "(I)Z"⟩, 4) := ⟨⟨by decide +kernel, by decide +kernel⟩, List.mem_of_getElem? (i := 14) (by decide +kernel), List.mem_of_getElem? (i := 214) (by decide +kernel), List.mem_of_getElem? (i := 215) (by decide +kernel)⟩
theorem lw_p5 : lw_okq (⟨"java/lang/Throwable", "fillInStackTrace", "(I)Ljava/lang/Throwable;"⟩, 6) := ⟨⟨by decide +kernel, by decide +kernel⟩, List.mem_of_getElem? (i := 257) (by decide +kernel), List.mem_of_getElem? (i := 255) (by decide +kernel), List.mem_of_getElem? (i := 256) (by decide +kernel)⟩
theorem lw_p6 : lw_okq (⟨"LoopDiagram", "isNoCell", "(II)Z"⟩, 4) := ⟨⟨by decide +kernel, by decide +kernel⟩, List.mem_of_getElem? (i := 14) (by decide +kernel), List.mem_of_getElem? (i := 290) (by decide +kernel), List.mem_of_getElem? (i := 291) (by decide +kernel)⟩
theorem lw_p7 : lw_okq (⟨"LoopDiagram", "setClue", "(II)V"⟩, 4) := ⟨⟨by decide +kernel, by decide +kernel⟩, List.mem_of_getElem? (i := 14) (by decide +kernel), List.mem_of_getElem? (i := 309) (by decide +kernel), List.mem_of_getElem? (i := 310) (by decide +kernel)⟩
theorem lw_p8 : lw_okq (⟨"LoopDiagramModel", "cell", "(II)I"⟩, 32) := ⟨⟨by decide +kernel, by decide +kernel⟩, List.mem_of_getElem? (i := 420) (by decide +kernel), List.mem_of_getElem? (i := 426) (by decide +kernel), List.mem_of_getElem? (i := 427) (by decide +kernel)⟩
theorem lw_p9 : lw_okq (⟨"LoopDiagramModel", "join", "(IIII)V"⟩, 32) := ⟨⟨by decide +kernel, by decide +kernel⟩, List.mem_of_getElem? (i := 420) (by decide +kernel), List.mem_of_getElem? (i := 430) (by decide +kernel), List.mem_of_getElem? (i := 431) (by decide +kernel)⟩
theorem lw_p10 : lw_okq (⟨"LoopDiagramModel", "meet", "(II)V"⟩, 32) := ⟨⟨by decide +kernel, by decide +kernel⟩, List.mem_of_getElem? (i := 420) (by decide +kernel), List.mem_of_getElem? (i := 434) (by decide +kernel), List.mem_of_getElem? (i := 435) (by decide +kernel)⟩
theorem lw_p11 : lw_okq (⟨"LoopDiagramModel", "border", "(II)V"⟩, 32) := ⟨⟨by decide +kernel, by decide +kernel⟩, List.mem_of_getElem? (i := 420) (by decide +kernel), List.mem_of_getElem? (i := 438) (by decide +kernel), List.mem_of_getElem? (i := 439) (by decide +kernel)⟩
theorem lw_p12 : lw_okq (⟨"LoopDiagramModel", "findLoops", "()V"⟩, 32) := ⟨⟨by decide +kernel, by decide +kernel⟩, List.mem_of_getElem? (i := 420) (by decide +kernel), List.mem_of_getElem? (i := 442) (by decide +kernel), List.mem_of_getElem? (i := 443) (by decide +kernel)⟩
theorem lw_p13 : lw_okq (⟨"LoopDiagramModel", "borderOf", "(I)I"⟩, 32) := ⟨⟨by decide +kernel, by decide +kernel⟩, List.mem_of_getElem? (i := 420) (by decide +kernel), List.mem_of_getElem? (i := 446) (by decide +kernel), List.mem_of_getElem? (i := 447) (by decide +kernel)⟩
theorem lw_p14 : lw_okq (⟨"LoopDiagramModel", "isLoopSet", "(I)Z"⟩, 32) := ⟨⟨by decide +kernel, by decide +kernel⟩, List.mem_of_getElem? (i := 420) (by decide +kernel), List.mem_of_getElem? (i := 453) (by decide +kernel), List.mem_of_getElem? (i := 454) (by decide +kernel)⟩
theorem lw_p15 : lw_okq (⟨"LoopDiagramModel", "measure", "(I)V"⟩, 32) := ⟨⟨by decide +kernel, by decide +kernel⟩, List.mem_of_getElem? (i := 420) (by decide +kernel), List.mem_of_getElem? (i := 457) (by decide +kernel), List.mem_of_getElem? (i := 458) (by decide +kernel)⟩
def lw_privs_1 : List (MethodName × Nat) := [(⟨"LoopDiagram", "fresh", "()LLoopDiagram$Diagram;"⟩, 4), (⟨"LoopDiagram$Diagram", "nodeAfter", "(IIZ)I"⟩, 8), (⟨"LoopDiagram$Grid", "sideAfter", "(IIIZZ)I"⟩, 7), (⟨"LoopDiagram$Diagram", "fillWays", "([II)V"⟩, 8), (⟨"LoopDiagram", "isNoEdge", "(I)Z"⟩, 4), (⟨"java/lang/Throwable", "fillInStackTrace", "(I)Ljava/lang/Throwable;"⟩, 6), (⟨"LoopDiagram", "isNoCell", "(II)Z"⟩, 4), (⟨"LoopDiagram", "setClue", "(II)V"⟩, 4), (⟨"LoopDiagramModel", "cell", "(II)I"⟩, 32), (⟨"LoopDiagramModel", "join", "(IIII)V"⟩, 32), (⟨"LoopDiagramModel", "meet", "(II)V"⟩, 32), (⟨"LoopDiagramModel", "border", "(II)V"⟩, 32), (⟨"LoopDiagramModel", "findLoops", "()V"⟩, 32), (⟨"LoopDiagramModel", "borderOf", "(I)I"⟩, 32), (⟨"LoopDiagramModel", "isLoopSet", "(I)Z"⟩, 32), (⟨"LoopDiagramModel", "measure", "(I)V"⟩, 32)]
theorem lw_r1 : ∀ q ∈ lw_privs_1, lw_okq q := List.forall_mem_cons.mpr ⟨lw_p0, List.forall_mem_cons.mpr ⟨lw_p1, List.forall_mem_cons.mpr ⟨lw_p2, List.forall_mem_cons.mpr ⟨lw_p3, List.forall_mem_cons.mpr ⟨lw_p4, List.forall_mem_cons.mpr ⟨lw_p5, List.forall_mem_cons.mpr ⟨lw_p6, List.forall_mem_cons.mpr ⟨lw_p7, List.forall_mem_cons.mpr ⟨lw_p8, List.forall_mem_cons.mpr ⟨lw_p9, List.forall_mem_cons.mpr ⟨lw_p10, List.forall_mem_cons.mpr ⟨lw_p11, List.forall_mem_cons.mpr ⟨lw_p12, List.forall_mem_cons.mpr ⟨lw_p13, List.forall_mem_cons.mpr ⟨lw_p14, List.forall_mem_cons.mpr ⟨lw_p15, fun _ h => absurd h List.not_mem_nil⟩⟩⟩⟩⟩⟩⟩⟩⟩⟩⟩⟩⟩⟩⟩⟩
theorem lw_p16 : lw_okq (⟨"LoopDiagramModel", "isRing", "(I)Z"⟩, 32) := ⟨⟨by decide +kernel, by decide +kernel⟩, List.mem_of_getElem? (i := 420) (by decide +kernel), List.mem_of_getElem? (i := 464) (by decide +kernel), List.mem_of_getElem? (i := 465) (by decide +kernel)⟩
theorem lw_p17 : lw_okq (⟨"LoopDiagramModel", "unseen", "()I"⟩, 32) := ⟨⟨by decide +kernel, by decide +kernel⟩, List.mem_of_getElem? (i := 420) (by decide +kernel), List.mem_of_getElem? (i := 468) (by decide +kernel), List.mem_of_getElem? (i := 469) (by decide +kernel)⟩
theorem lw_p18 : lw_okq (⟨"LoopDiagramModel", "isThin", "()Z"⟩, 32) := ⟨⟨by decide +kernel, by decide +kernel⟩, List.mem_of_getElem? (i := 420) (by decide +kernel), List.mem_of_getElem? (i := 472) (by decide +kernel), List.mem_of_getElem? (i := 473) (by decide +kernel)⟩
theorem lw_p19 : lw_okq (⟨"LoopDiagramModel", "hasEnds", "()Z"⟩, 32) := ⟨⟨by decide +kernel, by decide +kernel⟩, List.mem_of_getElem? (i := 420) (by decide +kernel), List.mem_of_getElem? (i := 476) (by decide +kernel), List.mem_of_getElem? (i := 477) (by decide +kernel)⟩
theorem lw_p20 : lw_okq (⟨"LoopDiagramModel", "walk", "(II)I"⟩, 32) := ⟨⟨by decide +kernel, by decide +kernel⟩, List.mem_of_getElem? (i := 420) (by decide +kernel), List.mem_of_getElem? (i := 480) (by decide +kernel), List.mem_of_getElem? (i := 481) (by decide +kernel)⟩
theorem lw_p21 : lw_okq (⟨"LoopDiagramModel", "onward", "(III)I"⟩, 32) := ⟨⟨by decide +kernel, by decide +kernel⟩, List.mem_of_getElem? (i := 420) (by decide +kernel), List.mem_of_getElem? (i := 484) (by decide +kernel), List.mem_of_getElem? (i := 485) (by decide +kernel)⟩
theorem lw_p22 : lw_okq (⟨"LoopDiagramModel", "isEdge", "(I)Z"⟩, 32) := ⟨⟨by decide +kernel, by decide +kernel⟩, List.mem_of_getElem? (i := 420) (by decide +kernel), List.mem_of_getElem? (i := 598) (by decide +kernel), List.mem_of_getElem? (i := 599) (by decide +kernel)⟩
theorem lw_p23 : lw_okq (⟨"LoopDiagramModel", "find", "()V"⟩, 32) := ⟨⟨by decide +kernel, by decide +kernel⟩, List.mem_of_getElem? (i := 420) (by decide +kernel), List.mem_of_getElem? (i := 614) (by decide +kernel), List.mem_of_getElem? (i := 615) (by decide +kernel)⟩
theorem lw_p24 : lw_okq (⟨"LoopDiagramModel", "keepsClues", "(I)Z"⟩, 32) := ⟨⟨by decide +kernel, by decide +kernel⟩, List.mem_of_getElem? (i := 420) (by decide +kernel), List.mem_of_getElem? (i := 618) (by decide +kernel), List.mem_of_getElem? (i := 619) (by decide +kernel)⟩
theorem lw_p25 : lw_okq (⟨"LoopDiagramModel", "sides", "(II)I"⟩, 32) := ⟨⟨by decide +kernel, by decide +kernel⟩, List.mem_of_getElem? (i := 420) (by decide +kernel), List.mem_of_getElem? (i := 622) (by decide +kernel), List.mem_of_getElem? (i := 623) (by decide +kernel)⟩
theorem lw_p26 : lw_okq (⟨"LoopDiagramModel", "measureLevels", "()V"⟩, 32) := ⟨⟨by decide +kernel, by decide +kernel⟩, List.mem_of_getElem? (i := 420) (by decide +kernel), List.mem_of_getElem? (i := 630) (by decide +kernel), List.mem_of_getElem? (i := 631) (by decide +kernel)⟩
theorem lw_p27 : lw_okq (⟨"LoopDiagramModel", "wipe", "()V"⟩, 32) := ⟨⟨by decide +kernel, by decide +kernel⟩, List.mem_of_getElem? (i := 420) (by decide +kernel), List.mem_of_getElem? (i := 634) (by decide +kernel), List.mem_of_getElem? (i := 635) (by decide +kernel)⟩
theorem lw_p28 : lw_okq (⟨"LoopDiagramModel", "isUseful", "(II)Z"⟩, 32) := ⟨⟨by decide +kernel, by decide +kernel⟩, List.mem_of_getElem? (i := 420) (by decide +kernel), List.mem_of_getElem? (i := 638) (by decide +kernel), List.mem_of_getElem? (i := 639) (by decide +kernel)⟩
theorem lw_p29 : lw_okq (⟨"LoopDiagramModel", "offer", "(II)V"⟩, 32) := ⟨⟨by decide +kernel, by decide +kernel⟩, List.mem_of_getElem? (i := 420) (by decide +kernel), List.mem_of_getElem? (i := 642) (by decide +kernel), List.mem_of_getElem? (i := 643) (by decide +kernel)⟩
theorem lw_p30 : lw_okq (⟨"LoopDiagramModel", "isAlive", "(II)Z"⟩, 32) := ⟨⟨by decide +kernel, by decide +kernel⟩, List.mem_of_getElem? (i := 420) (by decide +kernel), List.mem_of_getElem? (i := 646) (by decide +kernel), List.mem_of_getElem? (i := 647) (by decide +kernel)⟩
theorem lw_p31 : lw_okq (⟨"LoopDiagramModel", "isCellAlive", "(III)Z"⟩, 32) := ⟨⟨by decide +kernel, by decide +kernel⟩, List.mem_of_getElem? (i := 420) (by decide +kernel), List.mem_of_getElem? (i := 650) (by decide +kernel), List.mem_of_getElem? (i := 651) (by decide +kernel)⟩
def lw_privs_2 : List (MethodName × Nat) := [(⟨"LoopDiagramModel", "isRing", "(I)Z"⟩, 32), (⟨"LoopDiagramModel", "unseen", "()I"⟩, 32), (⟨"LoopDiagramModel", "isThin", "()Z"⟩, 32), (⟨"LoopDiagramModel", "hasEnds", "()Z"⟩, 32), (⟨"LoopDiagramModel", "walk", "(II)I"⟩, 32), (⟨"LoopDiagramModel", "onward", "(III)I"⟩, 32), (⟨"LoopDiagramModel", "isEdge", "(I)Z"⟩, 32), (⟨"LoopDiagramModel", "find", "()V"⟩, 32), (⟨"LoopDiagramModel", "keepsClues", "(I)Z"⟩, 32), (⟨"LoopDiagramModel", "sides", "(II)I"⟩, 32), (⟨"LoopDiagramModel", "measureLevels", "()V"⟩, 32), (⟨"LoopDiagramModel", "wipe", "()V"⟩, 32), (⟨"LoopDiagramModel", "isUseful", "(II)Z"⟩, 32), (⟨"LoopDiagramModel", "offer", "(II)V"⟩, 32), (⟨"LoopDiagramModel", "isAlive", "(II)Z"⟩, 32), (⟨"LoopDiagramModel", "isCellAlive", "(III)Z"⟩, 32)]
theorem lw_r2 : ∀ q ∈ lw_privs_2, lw_okq q := List.forall_mem_cons.mpr ⟨lw_p16, List.forall_mem_cons.mpr ⟨lw_p17, List.forall_mem_cons.mpr ⟨lw_p18, List.forall_mem_cons.mpr ⟨lw_p19, List.forall_mem_cons.mpr ⟨lw_p20, List.forall_mem_cons.mpr ⟨lw_p21, List.forall_mem_cons.mpr ⟨lw_p22, List.forall_mem_cons.mpr ⟨lw_p23, List.forall_mem_cons.mpr ⟨lw_p24, List.forall_mem_cons.mpr ⟨lw_p25, List.forall_mem_cons.mpr ⟨lw_p26, List.forall_mem_cons.mpr ⟨lw_p27, List.forall_mem_cons.mpr ⟨lw_p28, List.forall_mem_cons.mpr ⟨lw_p29, List.forall_mem_cons.mpr ⟨lw_p30, List.forall_mem_cons.mpr ⟨lw_p31, fun _ h => absurd h List.not_mem_nil⟩⟩⟩⟩⟩⟩⟩⟩⟩⟩⟩⟩⟩⟩⟩⟩
theorem lw_p32 : lw_okq (⟨"LoopDiagramModel", "trace", "(II)J"⟩, 32) := ⟨⟨by decide +kernel, by decide +kernel⟩, List.mem_of_getElem? (i := 420) (by decide +kernel), List.mem_of_getElem? (i := 654) (by decide +kernel), List.mem_of_getElem? (i := 655) (by decide +kernel)⟩
theorem lw_p33 : lw_okq (⟨"LoopDiagramModel", "isSolution", "(I)Z"⟩, 32) := ⟨⟨by decide +kernel, by decide +kernel⟩, List.mem_of_getElem? (i := 420) (by decide +kernel), List.mem_of_getElem? (i := 667) (by decide +kernel), List.mem_of_getElem? (i := 668) (by decide +kernel)⟩
theorem lw_p34 : lw_okq (⟨"LoopDiagramModel", "size", "(I)I"⟩, 32) := ⟨⟨by decide +kernel, by decide +kernel⟩, List.mem_of_getElem? (i := 420) (by decide +kernel), List.mem_of_getElem? (i := 675) (by decide +kernel), List.mem_of_getElem? (i := 676) (by decide +kernel)⟩
theorem lw_p35 : lw_okq (⟨"LoopDiagramModel", "withAll", "(I)I"⟩, 32) := ⟨⟨by decide +kernel, by decide +kernel⟩, List.mem_of_getElem? (i := 420) (by decide +kernel), List.mem_of_getElem? (i := 683) (by decide +kernel), List.mem_of_getElem? (i := 684) (by decide +kernel)⟩
theorem lw_p36 : lw_okq (⟨"LoopDiagramModel", "fail", "(I)I"⟩, 32) := ⟨⟨by decide +kernel, by decide +kernel⟩, List.mem_of_getElem? (i := 420) (by decide +kernel), List.mem_of_getElem? (i := 719) (by decide +kernel), List.mem_of_getElem? (i := 720) (by decide +kernel)⟩
def lw_privs_3 : List (MethodName × Nat) := [(⟨"LoopDiagramModel", "trace", "(II)J"⟩, 32), (⟨"LoopDiagramModel", "isSolution", "(I)Z"⟩, 32), (⟨"LoopDiagramModel", "size", "(I)I"⟩, 32), (⟨"LoopDiagramModel", "withAll", "(I)I"⟩, 32), (⟨"LoopDiagramModel", "fail", "(I)I"⟩, 32)]
theorem lw_r3 : ∀ q ∈ lw_privs_3, lw_okq q := List.forall_mem_cons.mpr ⟨lw_p32, List.forall_mem_cons.mpr ⟨lw_p33, List.forall_mem_cons.mpr ⟨lw_p34, List.forall_mem_cons.mpr ⟨lw_p35, List.forall_mem_cons.mpr ⟨lw_p36, fun _ h => absurd h List.not_mem_nil⟩⟩⟩⟩⟩
def lw_privs : List (MethodName × Nat) := lw_privs_1 ++ (lw_privs_2 ++ (lw_privs_3))
def lw_tbl : List Cond := k2_sels lw_privs ++ tables_1
theorem lw_privs_ok : ∀ q ∈ lw_privs, lw_okq q := by
  show ∀ q ∈ lw_privs_1 ++ (lw_privs_2 ++ (lw_privs_3)), lw_okq q
  exact List.forall_mem_append.mpr ⟨lw_r1, List.forall_mem_append.mpr ⟨lw_r2, lw_r3⟩⟩
end
section
/-! ===== BEGIN words of one list among another's, by their places ===== -/
theorem goodIn_r {big : List Cond} (ws : List Cond) (ps : List Nat) (hp : ws = ps.filterMap (fun i => big[i]?)) (h : ws.all goodWord = true) : GoodIn big ws := by
  intro w hw
  have h1 := List.all_eq_true.mp h w hw
  rw [hp] at hw
  obtain ⟨i, -, hi⟩ := List.mem_filterMap.mp hw
  have hm : w ∈ big := by first | exact List.mem_of_getElem? hi | exact List.getElem?_mem hi
  exact ⟨hm, good_of_word h1⟩
theorem goodIn_app {big a b : List Cond} (ha : GoodIn big a) (hb : GoodIn big b) : GoodIn big (a ++ b) := fun w h => (List.mem_append.mp h).elim (ha w) (hb w)
theorem goodIn_ca {big a b : List Cond} {c : Cond} (ha : GoodIn big (c :: a)) (hb : GoodIn big b) : GoodIn big (c :: (a ++ b)) := fun w h => (List.mem_cons.mp h).elim (fun e => ha w (List.mem_cons.mpr (Or.inl e))) (fun h => (List.mem_append.mp h).elim (fun h => ha w (List.mem_cons.mpr (Or.inr h))) (hb w))
theorem goodIn_sub {big ws : List Cond} (hm : ∀ w ∈ ws, w ∈ big) (h : ws.all goodWord = true) : GoodIn big ws := fun w hw => ⟨hm w hw, good_of_word (List.all_eq_true.mp h w hw)⟩
/-! ===== END ===== -/

/-! ===== BEGIN exceptions that leave a method, and their catching by the caller (launches without stack traces) ===== -/
section VXA
/-! The laws vx_back, vx_callV, vx_callS, vx_callSW, vx_throw0, vx_throwS follow proofs of the library, with one case more: JvmDerived/Free/Laws.lean (Back.of_free), Shelf42/LK1.lean (callV, callS), Shelf/KitTraced.lean (throwNew0V, throwNewS). -/
/-- where a method has thrown q: the class by its name, the cell, what was written, the world -/
def vx_T (XC : String → State → State → Prop) (st : State) (q : Addr) (t : State) (mc ms : Nat) (free : Addr → Prop) : Prop :=
  ∃ (E : String) (ce : Cell) (L : List Loc), XC E st t ∧ t.heap[q]? = some ce ∧ ce.vm = .none ∧ st.vm.findClass E = some ce.cls ∧ st.WarmedH t.vm ∧ st.sameButNew ({ t with vm := st.vm } : State) L mc ms ∧ ∀ z ∈ L, free z.base
def vx_Q (Qc : Array Value → State → Outcome → State → Prop) (XC : String → State → State → Prop) (mc ms : Nat) (free : Addr → Prop) : Array Value → State → Outcome → State → Prop := fun a st o t =>
  (Qc a st o t ∧ ∃ L, FrameEnd st o t L mc ms ∧ ∀ q ∈ L, free q.base) ∨ ∃ q, o = .threw q ∧ vx_T XC st q t mc ms free
/-- a callee that returns or throws -/
def vx_Met (l : Launch) (y : MethodName) (ws : List Cond) (rm : Room) (Pc : Array Value → State → Prop) (Qc : Array Value → State → Outcome → State → Prop) (XC : String → State → State → Prop) (mc ms : Nat) (free : Addr → Prop) : Prop :=
  MetFree l y (headSpec ws rm) Pc (fun _ _ _ _ _ => True) (vx_Q Qc XC mc ms free)
def vx_Post (XC : String → State → State → Prop) (mc ms : Nat) (free : Addr → Prop) : Pt → Array Value → Addr → Pt → Prop := fun A a q B =>
  ∃ (g : JFrame) (mk : MethodId) (t : State) (L : List Loc) (E : String) (ce : Cell), B.U.heap = t.heap ∧ B.U.vm = t.vm ∧ XC E (A.U.calling g mk a) t ∧ t.heap[q]? = some ce ∧ ce.vm = .none ∧ A.U.vm.findClass E = some ce.cls ∧ B.locs = A.locs ++ L ∧ (∀ z ∈ L, free z.base) ∧ B.cells = A.cells + mc ∧ B.slots = A.slots + ms
def vx_Back (l : Launch) (R : Room) (p : Program) (e : Env) (below : List Frame) (s : State) (sargs : Array Value) (y : MethodName) (len W9 : Nat)
    (Pre : Pt → Array Value → Prop) (Post : Pt → Array Value → Option Value → Pt → Prop) (PostX : Pt → Array Value → Addr → Pt → Prop) : Prop :=
  ∀ (m : MethodId) (meth : Method) (c : Code) (A : Pt) (g : JFrame) (ig : Instr) (mk : MethodId) (a : Array Value),
    Stand p l e R s m sargs below meth c A.U A.locs A.cells A.slots → g.method = m → g.locals.size = c.maxLocals → decode c.code g.pc = .ok (ig, len) →
    2 * g.monitorRoom + (g.stack.map fun v => v.category).sum ≤ W9 → A.U.methodNamed? y = some mk → Pre A a →
    (∃ (v : Option Value) (B : Pt), Stand p l e R s m sargs below meth c B.U B.locs B.cells B.slots ∧ Post A a v B ∧
      Steps p.tables e below (doInvoke e (A.U.setTop g) [] mk a).1 (B.U.setTop { g with pc := g.pc + len, stack := v.toList ++ g.stack })) ∨
    (∃ (q : Addr) (B : Pt), Stand p l e R s m sargs below meth c B.U B.locs B.cells B.slots ∧ PostX A a q B ∧
      Steps p.tables e below (doInvoke e (A.U.setTop g) [] mk a).1 ((B.U.setTop g).pushFrame (.throwing q)))
section Payer
variable {l : Launch} {R : Room} {p : Program} {e : Env} {below : List Frame} {s : State} {sargs : Array Value} {y : MethodName} {len W9 : Nat}
theorem vx_back {ws : List Cond} {rm : Room} {Pc : Array Value → State → Prop} {Qc : Array Value → State → Outcome → State → Prop} {XC : String → State → State → Prop} {mc ms : Nat} {free : Addr → Prop} {bytes : ByteArray} {maxL : Nat} {ret : Option FieldType}
    (hM : vx_Met l y ws rm Pc Qc XC mc ms free) (hblind : FrameBlind Pc) (hrc : rm.cells = mc) (hrs : rm.slots = ms)
    (hframes : rm.frames + 1 ≤ R.frames) (hlocals : W9 + (maxL + 11) + rm.locals ≤ R.locals)
    (hws : ∀ w ∈ ws, ∀ a' U, s.WarmedH U.vm → w.before a' U = true) (hcode : Cond.code y bytes maxL ret ∈ ws) (hinit : ∀ a' U, s.WarmedH U.vm → (Cond.initialized y.cls).before a' U = true) :
    vx_Back l R p e below s sargs y len W9 (PreOf R mc ms Pc) (PostOf Qc mc ms free) (vx_Post XC mc ms free) := by
  intro m meth c A g ig mk a X hg hsize hdg hW hn hp
  have h1 : (headSpec ws rm).pre.before a A.U = true := atoms_intro fun w hw => hws w hw _ _ X.warmed
  have h2 : (Cond.code y bytes maxL ret).before a A.U = true := hws _ hcode _ _ X.warmed
  have h3 : (Cond.initialized y.cls).before a A.U = true := hinit _ _ X.warmed
  have h4 : A.cells + (headSpec ws rm).room.cells ≤ R.cells := by rw [show (headSpec ws rm).room.cells = mc from hrc]; exact hp.1
  have h5 : A.slots + (headSpec ws rm).room.slots ≤ R.slots := by rw [show (headSpec ws rm).room.slots = ms from hrs]; exact hp.2.1
  have hPc : Pc a (A.U.calling g mk a) := hblind _ _ _ _ hp.2.2
  obtain ⟨U, Ls, c0, s0⟩ := A
  dsimp only [Pt.U, Pt.locs, Pt.cells, Pt.slots] at h1 h2 h3 h4 h5 X hn hPc ⊢
  obtain ⟨methY, cY, hmY, hcY, -, hlY, -, -, -, -⟩ := Cond.code_spec hn h2
  obtain ⟨kY, hkY, -⟩ := className_of_methodNamed hn
  have hinitY : kY.init = .initialized := Cond.initialized_spec (findClass_of_methodNamed hn) hkY h3
  have h : At U g.method c below := by rw [hg]; exact X.here
  have hlocals9 : W9 + (maxL + 11) + (headSpec ws rm).room.locals ≤ R.locals := hlocals
  have happ : (headSpec ws rm).appliesLoose y e.platform (U.calling g mk a) = true :=
    Spec.appliesLoose_calling (g := g) h hdg hn hkY hinitY
      (X.room_calling (g := g) (R' := (headSpec ws rm).room) hsize hmY hcY hframes (by rw [hlY]; omega) h4 h5) h1
  obtain ⟨mid, hmid⟩ := h.above
  have hfr : (U.setTop g).frames = (.java g :: mid) ++ below := by rw [State.frames_setTop' g h.top, hmid]; rfl
  obtain ⟨o, s₂, hsteps, -, hend, hq⟩ := Steps.callFree hM p X.admits X.cas X.clock (acts := []) hfr happ hPc trivial
  have hq' : vx_Q Qc XC mc ms free a (U.calling g mk a) o s₂ := hq
  rw [State.frames_setTop' g h.top] at hend
  obtain ⟨g₀, hg0⟩ := Option.isSome_iff_exists.mp h.top
  obtain ⟨r, hr⟩ := State.topJava?_eq_some.mp hg0
  have hr' : (({ U with heap := s₂.heap, slotsUsed := s₂.slotsUsed } : State).setVm s₂.vm).frames = .java g₀ :: r := hr
  rcases hq' with ⟨hqc, L, hfe, hL⟩ | ⟨q, rfl, E, ce, L, hx, hce, hcv, hcl, hW₂, hsm, hL⟩
  · obtain ⟨⟨v, rfl⟩, hW₂, e2, q2, q3, q4, q5, q6⟩ := id hfe
    have e3 : s₂ = ({ (U.calling g mk a).setFrames s₂.frames with heap := s₂.heap, slotsUsed := s₂.slotsUsed } : State).setVm s₂.vm := by
      have : s₂ = ({ s₂ with vm := (U.calling g mk a).vm } : State).setVm s₂.vm := rfl
      rw [e2] at this
      exact this
    obtain ⟨c₂, i₂, len₂, hc₂, hd₂, hf₂⟩ := hend
    have hW' : U.WarmedH s₂.vm := hW₂
    have hcc : c₂ = c := by
      have h1 : s₂.code? g.method = U.code? g.method := by
        rw [State.code?_eq, State.code?_eq, hW'.alike.method?]
      exact Option.some.inj (hc₂.symm.trans (h1.trans h.code))
    subst hcc
    have hlen : len₂ = len := by rw [hdg] at hd₂; cases hd₂; rfl
    subst hlen
    have hs₂ : s₂ = (({ U with heap := s₂.heap, slotsUsed := s₂.slotsUsed } : State).setVm s₂.vm).setTop { g with pc := g.pc + len₂, stack := v.toList ++ g.stack } := by
      refine e3.trans ?_
      rw [hf₂, State.calling_eq h.top, State.setFrames_setFrames, State.setTop_of_frames _ hr', hr]
      rfl
    have hsame : U.sameButNew ({ U with heap := s₂.heap, slotsUsed := s₂.slotsUsed } : State) L mc ms := by
      refine ⟨?_, q2, q3, q4, q5, q6⟩
      obtain ⟨t, ht, -⟩ := State.frames_cons hr
      show ({ U with heap := s₂.heap, slotsUsed := s₂.slotsUsed } : State) = { U.setFrames U.frames with heap := s₂.heap, slotsUsed := s₂.slotsUsed }
      rw [State.setFrames_self ht]
    subst hg
    refine Or.inl ⟨v, ⟨(({ U with heap := s₂.heap, slotsUsed := s₂.slotsUsed } : State).setVm s₂.vm), Ls ++ L, c0 + mc, s0 + ms⟩,
      ⟨X.admits, X.cas, X.clock, X.frames, X.room, X.hears, X.method, X.code, (X.here.setHeapUsed s₂.heap s₂.slotsUsed).setVm hW'.alike, X.tail, State.WarmedH.trans X.warmed hW', X.limits, X.bytes, X.same.trans (hsame.setVm s.vm)⟩,
      ⟨g, mk, s₂, L, rfl, rfl, hqc, rfl, hL, rfl, rfl⟩, ?_⟩
    show Steps p.tables e below _ ((({ U with heap := s₂.heap, slotsUsed := s₂.slotsUsed } : State).setVm s₂.vm).setTop { g with pc := g.pc + len₂, stack := v.toList ++ g.stack })
    rw [← hs₂]
    exact hsteps
  · obtain ⟨e2, q2, q3, q4, q5, q6⟩ := id hsm
    have e3 : s₂ = ({ (U.calling g mk a).setFrames s₂.frames with heap := s₂.heap, slotsUsed := s₂.slotsUsed } : State).setVm s₂.vm := by
      have : s₂ = ({ s₂ with vm := (U.calling g mk a).vm } : State).setVm s₂.vm := rfl
      rw [e2] at this
      exact this
    have hf₂ : s₂.frames = .throwing q :: .java g :: U.frames.tail := hend
    have hW' : U.WarmedH s₂.vm := hW₂
    have hs₂ : s₂ = ((({ U with heap := s₂.heap, slotsUsed := s₂.slotsUsed } : State).setVm s₂.vm).setTop g).pushFrame (.throwing q) := by
      refine e3.trans ?_
      rw [hf₂, State.calling_eq h.top, State.setFrames_setFrames, State.pushFrame, State.frames_setTop _ hr', State.setTop_of_frames _ hr', State.setFrames_setFrames, hr]
      rfl
    have hsame : U.sameButNew ({ U with heap := s₂.heap, slotsUsed := s₂.slotsUsed } : State) L mc ms := by
      refine ⟨?_, q2, q3, q4, q5, q6⟩
      obtain ⟨t, ht, -⟩ := State.frames_cons hr
      show ({ U with heap := s₂.heap, slotsUsed := s₂.slotsUsed } : State) = { U.setFrames U.frames with heap := s₂.heap, slotsUsed := s₂.slotsUsed }
      rw [State.setFrames_self ht]
    subst hg
    refine Or.inr ⟨q, ⟨(({ U with heap := s₂.heap, slotsUsed := s₂.slotsUsed } : State).setVm s₂.vm), Ls ++ L, c0 + mc, s0 + ms⟩,
      ⟨X.admits, X.cas, X.clock, X.frames, X.room, X.hears, X.method, X.code, (X.here.setHeapUsed s₂.heap s₂.slotsUsed).setVm hW'.alike, X.tail, State.WarmedH.trans X.warmed hW', X.limits, X.bytes, X.same.trans (hsame.setVm s.vm)⟩,
      ⟨g, mk, s₂, L, E, ce, rfl, rfl, hx, hce, hcv, hcl, rfl, hL, rfl, rfl⟩, ?_⟩
    show Steps p.tables e below _ (((({ U with heap := s₂.heap, slotsUsed := s₂.slotsUsed } : State).setVm s₂.vm).setTop g).pushFrame (.throwing q))
    rw [← hs₂]
    exact hsteps
end Payer
section Calls
variable {p : Program} {l : Launch} {e : Env} {R : Room} {s : State} {m : MethodId} {args : Array Value} {below : List Frame} {meth : Method} {c : Code} {T : State} {locs : List Loc} {cells slots : Nat}
theorem vx_callV (X : Stand p l e R s m args below meth c T locs cells slots) (hexec : p.tables.exec = Jvm.exec) {own C : String} {index : Nat} {y : MethodName} {bytes : ByteArray} {maxL : Nat} {ret : Option FieldType}
    (hown : s.vm.findClass own = some m.cls) (hlink : (Cond.methodLink own index y).before args s = true) (hinst : (Cond.instanceMethod y).before args s = true) (hsel : (Cond.selects C y y).before args s = true)
    (hcode : (Cond.code y bytes maxL ret).before args s = true) (hy : y.cls ≠ "java/lang/invoke/MethodHandle" ∧ y.cls ≠ "java/lang/invoke/VarHandle")
    {W9 : Nat} {Pre : Pt → Array Value → Prop} {Post : Pt → Array Value → Option Value → Pt → Prop} {PostX : Pt → Array Value → Addr → Pt → Prop} (hK : vx_Back l R p e below s args y 3 W9 Pre Post PostX)
    {b : Addr} {cellB : Cell} (hcell : T.heap[b]? = some cellB) (hobj : cellB.vm.isStatics = false) (hcls : s.vm.findClass C = some cellB.cls)
    {g : JFrame} (hg : g.method = m) (hsize : g.locals.size = c.maxLocals) {argsL rest : List Value} (hlen : ∀ sig, parseMethodDescriptor y.desc = some sig → argsL.length = sig.parameters.length)
    (hstack : g.stack = argsL.reverse ++ .ref b :: rest) (hW : 2 * g.monitorRoom + (rest.map fun v => v.category).sum ≤ W9) (hdg : decode c.code g.pc = .ok (.invokevirtual index, 3))
    (hpre : ∀ vm₁, s.WarmedH vm₁ → Pre ⟨T.setVm vm₁, locs, cells, slots⟩ (Value.ref b :: argsL).toArray) :
    (∃ (v : Option Value) (vm₁ : Vm) (B : Pt), s.WarmedH vm₁ ∧ Stand p l e R s m args below meth c B.U B.locs B.cells B.slots ∧ Post ⟨T.setVm vm₁, locs, cells, slots⟩ (Value.ref b :: argsL).toArray v B ∧
      ∀ target, Steps p.tables e below (B.U.setTop { g with pc := g.pc + 3, stack := v.toList ++ rest }) target → Steps p.tables e below (T.setTop g) target) ∨
    (∃ (q : Addr) (vm₁ : Vm) (B : Pt), s.WarmedH vm₁ ∧ Stand p l e R s m args below meth c B.U B.locs B.cells B.slots ∧ PostX ⟨T.setVm vm₁, locs, cells, slots⟩ (Value.ref b :: argsL).toArray q B ∧
      Steps p.tables e below (T.setTop g) ((B.U.setTop { g with stack := rest }).pushFrame (.throwing q))) := by
  obtain ⟨mk, methM, hnamed, hmethM, hstM, habM⟩ := Cond.instanceMethod_spec hinst
  obtain ⟨methM', cM, hmethM', -, -, -, -, -, -, hsigM⟩ := Cond.code_spec hnamed hcode
  cases hmethM.symm.trans hmethM'
  obtain ⟨c2, r2, m2, q1, q2, q3, q4, kP, hkP, hkPi⟩ := Cond.selects_spec hsel
  cases hcls.symm.trans q1
  cases (State.methodFound?_of_named hnamed hy).symm.trans q2
  cases hnamed.symm.trans q3
  have hselP : selectMethod e.platform s.vm cellB.cls mk = .method mk := by rw [Launch.admits_selectMethod X.admits]; exact q4
  obtain ⟨vm₁, X₁, hstep₁⟩ := X.invokevirtual hexec hown hlink hnamed hmethM hstM hkP hkPi hy (a := b) (cell := cellB) hcell
    (fun z h => by rw [h] at hobj; cases hobj) hselP hmethM habM hkP hkPi (g := g) hg (argsL := argsL) (rest := rest) (hlen _ hsigM) hstack hdg
  rcases hK m meth c ⟨T.setVm vm₁, locs, cells, slots⟩ { g with stack := rest } (.invokevirtual index) mk (Value.ref b :: argsL).toArray X₁ hg hsize hdg hW (X₁.named hnamed) (hpre vm₁ X₁.warmed) with ⟨v, B, X', hpost, hsteps⟩ | ⟨q, B, X', hpost, hsteps⟩
  · exact Or.inl ⟨v, vm₁, B, X₁.warmed, X', hpost, fun target h => hstep₁ _ fun acts => by rw [doInvoke_state]; exact hsteps.trans h⟩
  · exact Or.inr ⟨q, vm₁, B, X₁.warmed, X', hpost, hstep₁ _ fun acts => by rw [doInvoke_state]; exact hsteps⟩
theorem vx_callS (X : Stand p l e R s m args below meth c T locs cells slots) (hexec : p.tables.exec = Jvm.exec) {own : String} {index : Nat} {y : MethodName} {bytes : ByteArray} {maxL : Nat} {ret : Option FieldType}
    (hown : s.vm.findClass own = some m.cls) (hlink : (Cond.methodLink own index y).before args s = true) (hstat : (Cond.static y).before args s = true) (hinit : (Cond.initialized y.cls).before args s = true)
    (hcode : (Cond.code y bytes maxL ret).before args s = true) (hy : y.cls ≠ "java/lang/invoke/MethodHandle" ∧ y.cls ≠ "java/lang/invoke/VarHandle")
    {W9 : Nat} {Pre : Pt → Array Value → Prop} {Post : Pt → Array Value → Option Value → Pt → Prop} {PostX : Pt → Array Value → Addr → Pt → Prop} (hK : vx_Back l R p e below s args y 3 W9 Pre Post PostX)
    {g : JFrame} (hg : g.method = m) (hsize : g.locals.size = c.maxLocals) {argsL rest : List Value} (hlen : ∀ sig, parseMethodDescriptor y.desc = some sig → argsL.length = sig.parameters.length)
    (hstack : g.stack = argsL.reverse ++ rest) (hW : 2 * g.monitorRoom + (rest.map fun v => v.category).sum ≤ W9) (hdg : decode c.code g.pc = .ok (.invokestatic index, 3))
    (hpre : ∀ vm₁, s.WarmedH vm₁ → Pre ⟨T.setVm vm₁, locs, cells, slots⟩ argsL.toArray) :
    (∃ (v : Option Value) (vm₁ : Vm) (B : Pt), s.WarmedH vm₁ ∧ Stand p l e R s m args below meth c B.U B.locs B.cells B.slots ∧ Post ⟨T.setVm vm₁, locs, cells, slots⟩ argsL.toArray v B ∧
      ∀ target, Steps p.tables e below (B.U.setTop { g with pc := g.pc + 3, stack := v.toList ++ rest }) target → Steps p.tables e below (T.setTop g) target) ∨
    (∃ (q : Addr) (vm₁ : Vm) (B : Pt), s.WarmedH vm₁ ∧ Stand p l e R s m args below meth c B.U B.locs B.cells B.slots ∧ PostX ⟨T.setVm vm₁, locs, cells, slots⟩ argsL.toArray q B ∧
      Steps p.tables e below (T.setTop g) ((B.U.setTop { g with stack := rest }).pushFrame (.throwing q))) := by
  obtain ⟨mk, hnamed⟩ := Cond.code_named hcode
  obtain ⟨methM, cM, hmethM, -, -, -, -, -, -, hsigM⟩ := Cond.code_spec hnamed hcode
  have hstatic : methM.isStatic = true := Cond.static_spec hnamed hmethM hstat
  obtain ⟨kP, hkP, -⟩ := className_of_methodNamed hnamed
  have hinitP : kP.init = .initialized := Cond.initialized_spec (findClass_of_methodNamed hnamed) hkP hinit
  obtain ⟨vm₁, X₁, hstep₁⟩ := X.invokestatic hexec hown hlink hnamed hmethM hstatic hkP hinitP hy (g := g) hg (argsL := argsL) (rest := rest) (hlen _ hsigM) hstack hdg
  rcases hK m meth c ⟨T.setVm vm₁, locs, cells, slots⟩ { g with stack := rest } (.invokestatic index) mk argsL.toArray X₁ hg hsize hdg hW (X₁.named hnamed) (hpre vm₁ X₁.warmed) with ⟨v, B, X', hpost, hsteps⟩ | ⟨q, B, X', hpost, hsteps⟩
  · exact Or.inl ⟨v, vm₁, B, X₁.warmed, X', hpost, fun target h => hstep₁ _ fun acts => by rw [doInvoke_state]; exact hsteps.trans h⟩
  · exact Or.inr ⟨q, vm₁, B, X₁.warmed, X', hpost, hstep₁ _ fun acts => by rw [doInvoke_state]; exact hsteps⟩
end Calls
theorem vx_cls {s : State} {T : State} {vm₁ : Vm} {E : String} {k : ClassId} (hW : s.WarmedH vm₁) (h : (T.setVm vm₁).vm.findClass E = some k) : s.vm.findClass E = some k := by
  have h1 : vm₁.findClass E = some k := h
  rw [hW.alike.findClass] at h1
  exact h1
/-- the method's frame g, with q thrown over it -/
def vx_W (p : Program) (l : Launch) (e : Env) (R : Room) (s : State) (m : MethodId) (args : Array Value) (below : List Frame) (meth : Method) (c : Code) (H : Heap) (locs : List Loc) (cells slots : Nat) (Q : State → Prop) (g : JFrame) (q : Addr) : Prop :=
  ∀ T : State, T.heap = H → Stand p l e R s m args below meth c T locs cells slots → ∃ t, Steps p.tables e below ((T.setTop g).pushFrame (.throwing q)) t ∧ Q t
def vx_Run (p : Program) (l : Launch) (e : Env) (R : Room) (s : State) (m : MethodId) (args : Array Value) (below : List Frame) (meth : Method) (c : Code) (H : Heap) (locs : List Loc) (cells slots mc ms : Nat) (g : JFrame) (rest : List Value) (Qa : State → Outcome → State → Prop) (XC : String → State → State → Prop) (free : Addr → Prop) : Prop :=
  ∀ T : State, T.heap = H → Stand p l e R s m args below meth c T locs cells slots →
    (∃ (v : Option Value) (st₀ t T' : State) (L : List Loc), st₀.heap = H ∧ Stand p l e R s m args below meth c T' (locs ++ L) (cells + mc) (slots + ms) ∧ (∀ q ∈ L, free q.base) ∧ T'.heap = t.heap ∧ T'.vm = t.vm ∧ Qa st₀ (.returned v) t ∧
      Goes p e below T g T' { g with pc := g.pc + 3, stack := v.toList ++ rest }) ∨
    (∃ (q : Addr) (st₀ t T' : State) (L : List Loc) (E : String) (ce : Cell), st₀.heap = H ∧ Stand p l e R s m args below meth c T' (locs ++ L) (cells + mc) (slots + ms) ∧ (∀ z ∈ L, free z.base) ∧ T'.heap = t.heap ∧ T'.vm = t.vm ∧ XC E st₀ t ∧ t.heap[q]? = some ce ∧ ce.vm = .none ∧ s.vm.findClass E = some ce.cls ∧
      Steps p.tables e below (T.setTop g) ((T'.setTop { g with stack := rest }).pushFrame (.throwing q)))
def vx_X {S : Type} (px : S → Prop) (B : String → S → State → Prop) (A : Nat → Prop) : String → State → State → Prop := fun E st t => ∃ u : S, px u ∧ B E u t ∧ va_F A st t
section Runs
variable {p : Program} {l : Launch} {e : Env} {R : Room} {s : State} {m : MethodId} {args : Array Value} {below : List Frame} {meth : Method} {c : Code} {H : Heap} {locs : List Loc} {cells slots : Nat}
variable {y : MethodName} {bytes cc : ByteArray} {maxL nL mc ms n index : Nat} {ret : Option FieldType} {ws : List Cond} {rm : Room} {Pc : Array Value → State → Prop} {Qc : Array Value → State → Outcome → State → Prop} {XC : String → State → State → Prop} {free : Addr → Prop} {Ts : List Cond} {own C : String} {b : Addr} {As rest : List Value} {g : JFrame}
theorem vx_callBack (cb : CallB R s args own index y bytes maxL ret ws rm mc ms n) (hM : vx_Met l y ws rm Pc Qc XC mc ms free) (hbl : FrameBlind Pc) : vx_Back l R p e below s args y 3 8 (PreOf R mc ms Pc) (PostOf Qc mc ms free) (vx_Post XC mc ms free) := by
  obtain ⟨hrc, hrs, hfr, hlo, hws, hcw, -, hini, -⟩ := cb
  exact vx_back (bytes := bytes) (maxL := maxL) (ret := ret) hM hbl hrc hrs hfr hlo hws hcw (fun a' U hW => word_at hW (Or.inl (by first | rfl | simp [Cond.onTables, Cond.keeps, Cond.steady])) hini)
theorem vx_runV (S : CallFix p m c cc nL s args Ts own) (hM : vx_Met l y ws rm Pc Qc XC mc ms free) (cw : CallW R s args own C index y bytes maxL ret ws rm mc ms n) (hp : PreV s H C b Pc As)
    (hg : g.method = m) (hn : As.length = n) (hsize : g.locals.size = nL) (hstack : g.stack = As.reverse ++ .ref b :: rest) (hW : 2 * g.monitorRoom + (rest.map fun v => v.category).sum ≤ 8) (hdg : decode cc g.pc = .ok (.invokevirtual index, 3)) (hf : cells + mc ≤ R.cells ∧ slots + ms ≤ R.slots) :
    vx_Run p l e R s m args below meth c H locs cells slots mc ms g rest (Qc (Value.ref b :: As).toArray) XC free := by
  have hK : vx_Back l R p e below s args y 3 8 (PreOf R mc ms Pc) (PostOf Qc mc ms free) (vx_Post XC mc ms free) := vx_callBack cw.1 hM hp.1
  obtain ⟨⟨-, -, -, -, -, -, hcode, -, hy, hlen, hl⟩, hin, hse⟩ := cw
  obtain ⟨hx, hb, hml, ho, -⟩ := S
  obtain ⟨-, ⟨cellB, hcB, hoB, hclB⟩, hPc⟩ := hp
  intro T hT X
  rcases vx_callV X hx (C := C) (bytes := bytes) (maxL := maxL) (ret := ret) ho hl hin hse hcode hy hK (by rw [hT]; exact hcB) hoB hclB hg (hsize.trans hml.symm) (argsL := As) (rest := rest) (fun sig h => hn.trans (hlen sig h)) hstack hW (by rw [hb]; exact hdg)
    (fun vm₁ hW₁ => ⟨hf.1, hf.2, hPc (T.setVm vm₁) hT hW₁⟩) with ⟨v, vm₁, ⟨U', l2, c2, s2⟩, hW₁, X', ⟨g', mk, t, L, e1, e2, hq, h1, hL, h2, h3⟩, st⟩ | ⟨q, vm₁, ⟨U', l2, c2, s2⟩, hW₁, X', ⟨g', mk, t, L, E, ce, e1, e2, hq, hce, hcv, hcl, h1, hL, h2, h3⟩, st⟩
  · dsimp only [Pt.U, Pt.locs, Pt.cells, Pt.slots] at X' e1 e2 h1 h2 h3 st
    subst h1; subst h2; subst h3
    exact Or.inl ⟨v, (T.setVm vm₁).calling g' mk (Value.ref b :: As).toArray, t, U', L, hT, X', hL, e1, e2, hq, st⟩
  · dsimp only [Pt.U, Pt.locs, Pt.cells, Pt.slots] at X' e1 e2 h1 h2 h3 st hcl
    subst h1; subst h2; subst h3
    exact Or.inr ⟨q, (T.setVm vm₁).calling g' mk (Value.ref b :: As).toArray, t, U', L, E, ce, hT, X', hL, e1, e2, hq, hce, hcv, vx_cls hW₁ hcl, st⟩
theorem vx_runS (S : CallFix p m c cc nL s args Ts own) (hM : vx_Met l y ws rm Pc Qc XC mc ms free) (cw : CallB R s args own index y bytes maxL ret ws rm mc ms n ∧ (Cond.static y).before args s = true) (hp : PreS s H Pc As)
    (hg : g.method = m) (hn : As.length = n) (hsize : g.locals.size = nL) (hstack : g.stack = As.reverse ++ rest) (hW : 2 * g.monitorRoom + (rest.map fun v => v.category).sum ≤ 8) (hdg : decode cc g.pc = .ok (.invokestatic index, 3)) (hf : cells + mc ≤ R.cells ∧ slots + ms ≤ R.slots) :
    vx_Run p l e R s m args below meth c H locs cells slots mc ms g rest (Qc As.toArray) XC free := by
  have hK : vx_Back l R p e below s args y 3 8 (PreOf R mc ms Pc) (PostOf Qc mc ms free) (vx_Post XC mc ms free) := vx_callBack cw.1 hM hp.1
  obtain ⟨⟨-, -, -, -, -, -, hcode, hini, hy, hlen, hl⟩, hstt⟩ := cw
  obtain ⟨hx, hb, hml, ho, -⟩ := S
  intro T hT X
  rcases vx_callS X hx (bytes := bytes) (maxL := maxL) (ret := ret) ho hl hstt hini hcode hy hK hg (hsize.trans hml.symm) (argsL := As) (rest := rest) (fun sig h => hn.trans (hlen sig h)) hstack hW (by rw [hb]; exact hdg)
    (fun vm₁ hW₁ => ⟨hf.1, hf.2, hp.2 (T.setVm vm₁) hT hW₁⟩) with ⟨v, vm₁, ⟨U', l2, c2, s2⟩, hW₁, X', ⟨g', mk, t, L, e1, e2, hq, h1, hL, h2, h3⟩, st⟩ | ⟨q, vm₁, ⟨U', l2, c2, s2⟩, hW₁, X', ⟨g', mk, t, L, E, ce, e1, e2, hq, hce, hcv, hcl, h1, hL, h2, h3⟩, st⟩
  · dsimp only [Pt.U, Pt.locs, Pt.cells, Pt.slots] at X' e1 e2 h1 h2 h3 st
    subst h1; subst h2; subst h3
    exact Or.inl ⟨v, (T.setVm vm₁).calling g' mk As.toArray, t, U', L, hT, X', hL, e1, e2, hq, st⟩
  · dsimp only [Pt.U, Pt.locs, Pt.cells, Pt.slots] at X' e1 e2 h1 h2 h3 st hcl
    subst h1; subst h2; subst h3
    exact Or.inr ⟨q, (T.setVm vm₁).calling g' mk As.toArray, t, U', L, E, ce, hT, X', hL, e1, e2, hq, hce, hcv, vx_cls hW₁ hcl, st⟩
end Runs
section Rows
variable {p : Program} {l : Launch} {e : Env} {R : Room} {s : State} {m : MethodId} {args : Array Value} {below : List Frame} {meth : Method} {c : Code} {H : Heap} {locs : List Loc} {cells slots : Nat} {Q : State → Prop}
variable {mc ms : Nat} {free : Addr → Prop} {A0 A1 : Nat → Prop} {H0 : Heap} {a : Array Value} {pc : Nat} {ls : Array Slot} {st0 rest : List Value}
theorem vx_keep {st₀ t T' : State} {L : List Loc} (h0 : st₀.heap = H) (e1 : T'.heap = t.heap) (hS : va_S A0 H0 H locs) (hA : ∀ q, q < H.size → A1 q → A0 q) (hf : ∀ q, free q → A0 q) (hL : ∀ q ∈ L, free q.base) (hF : va_F A1 st₀ t) :
    H.size ≤ T'.heap.size ∧ (∀ q : Nat, q < H.size → ¬ A1 q → T'.heap[q]? = H[q]?) ∧ va_S A0 H0 T'.heap (locs ++ L) := by
  obtain ⟨hz, hk⟩ := hF
  rw [h0] at hz hk
  exact ⟨by rw [e1]; exact hz, fun q h1 h2 => by rw [e1]; exact hk q h1 h2,
    ⟨Nat.le_trans hS.1 (by rw [e1]; exact hz), fun q h1 h2 => by rw [e1, hk q (Nat.lt_of_lt_of_le h1 hS.1) (fun z => h2 (hA q (Nat.lt_of_lt_of_le h1 hS.1) z))]; exact hS.2.1 q h1 h2, fun q hq => by
      rcases List.mem_append.mp hq with h | h
      · exact hS.2.2 q h
      · exact hf _ (hL q h)⟩⟩
theorem vx_calli {S SX : Type} {post : Int32 → S → Prop} {px : SX → Prop} {B : S → State → Prop} {BX : String → SX → State → Prop} {AX : Nat → Prop} (hr : vx_Run p l e R s m args below meth c H locs cells slots mc ms (F0 m pc ls st0) rest (va_Qi post B A1 a) (vx_X px BX AX) free) (hS : va_S A0 H0 H locs) (hA : ∀ q, q < H.size → A1 q → A0 q) (hf : ∀ q, free q → A0 q) (hAX : ∀ q, q < H.size → AX q → A0 q)
    (kx : ∀ (E : String) (ce : Cell) (q9 : Addr) (u : SX) (t : State) (H1 : Heap) (locs1 : List Loc), t.heap = H1 → s.vm.Alike t.vm → px u → BX E u t → H.size ≤ H1.size → (∀ q : Nat, q < H.size → ¬ AX q → H1[q]? = H[q]?) → va_S A0 H0 H1 locs1 → H1[q9]? = some ce → ce.vm = .none → s.vm.findClass E = some ce.cls → vx_W p l e R s m args below meth c H1 locs1 (cells + mc) (slots + ms) Q (F0 m pc ls rest) q9)
    (kk : ∀ (r : Int32) (u : S) (t : State) (H1 : Heap) (locs1 : List Loc), t.heap = H1 → s.vm.Alike t.vm → post r u → B u t → H.size ≤ H1.size → (∀ q : Nat, q < H.size → ¬ A1 q → H1[q]? = H[q]?) → va_S A0 H0 H1 locs1 → W p l e R s m args below meth c H1 locs1 (cells + mc) (slots + ms) Q (F0 m (pc + 3) ls (.int r :: rest))) : W p l e R s m args below meth c H locs cells slots Q (F0 m pc ls st0) := by
  intro T hT X
  rcases hr T hT X with ⟨v, st₀, t, T', L, h0, X', hL, e1, e2, ⟨⟨r, u, hv, hp, hb⟩, hF⟩, st⟩ | ⟨q, st₀, t, T', L, E, ce, h0, X', hL, e1, e2, ⟨u, hp, hb, hF⟩, hce, hcv, hcl, st⟩
  · cases hv
    obtain ⟨k1, k2, k3⟩ := vx_keep h0 e1 hS hA hf hL hF
    obtain ⟨t2, a1, b1⟩ := kk r u t T'.heap (locs ++ L) e1.symm (by rw [← e2]; exact X'.warmed.alike) hp hb k1 k2 k3 T' rfl X'
    exact ⟨t2, st t2 a1, b1⟩
  · obtain ⟨k1, k2, k3⟩ := vx_keep h0 e1 hS hAX hf hL hF
    obtain ⟨t2, a1, b1⟩ := kx E ce q u t T'.heap (locs ++ L) e1.symm (by rw [← e2]; exact X'.warmed.alike) hp hb k1 k2 k3 (by rw [e1]; exact hce) hcv hcl T' rfl X'
    exact ⟨t2, st.trans a1, b1⟩
theorem vx_calll {S SX : Type} {post : Int64 → S → Prop} {px : SX → Prop} {B : S → State → Prop} {BX : String → SX → State → Prop} {AX : Nat → Prop} (hr : vx_Run p l e R s m args below meth c H locs cells slots mc ms (F0 m pc ls st0) rest (va_Ql post B A1 a) (vx_X px BX AX) free) (hS : va_S A0 H0 H locs) (hA : ∀ q, q < H.size → A1 q → A0 q) (hf : ∀ q, free q → A0 q) (hAX : ∀ q, q < H.size → AX q → A0 q)
    (kx : ∀ (E : String) (ce : Cell) (q9 : Addr) (u : SX) (t : State) (H1 : Heap) (locs1 : List Loc), t.heap = H1 → s.vm.Alike t.vm → px u → BX E u t → H.size ≤ H1.size → (∀ q : Nat, q < H.size → ¬ AX q → H1[q]? = H[q]?) → va_S A0 H0 H1 locs1 → H1[q9]? = some ce → ce.vm = .none → s.vm.findClass E = some ce.cls → vx_W p l e R s m args below meth c H1 locs1 (cells + mc) (slots + ms) Q (F0 m pc ls rest) q9)
    (kk : ∀ (r : Int64) (u : S) (t : State) (H1 : Heap) (locs1 : List Loc), t.heap = H1 → s.vm.Alike t.vm → post r u → B u t → H.size ≤ H1.size → (∀ q : Nat, q < H.size → ¬ A1 q → H1[q]? = H[q]?) → va_S A0 H0 H1 locs1 → W p l e R s m args below meth c H1 locs1 (cells + mc) (slots + ms) Q (F0 m (pc + 3) ls (.long r :: rest))) : W p l e R s m args below meth c H locs cells slots Q (F0 m pc ls st0) := by
  intro T hT X
  rcases hr T hT X with ⟨v, st₀, t, T', L, h0, X', hL, e1, e2, ⟨⟨r, u, hv, hp, hb⟩, hF⟩, st⟩ | ⟨q, st₀, t, T', L, E, ce, h0, X', hL, e1, e2, ⟨u, hp, hb, hF⟩, hce, hcv, hcl, st⟩
  · cases hv
    obtain ⟨k1, k2, k3⟩ := vx_keep h0 e1 hS hA hf hL hF
    obtain ⟨t2, a1, b1⟩ := kk r u t T'.heap (locs ++ L) e1.symm (by rw [← e2]; exact X'.warmed.alike) hp hb k1 k2 k3 T' rfl X'
    exact ⟨t2, st t2 a1, b1⟩
  · obtain ⟨k1, k2, k3⟩ := vx_keep h0 e1 hS hAX hf hL hF
    obtain ⟨t2, a1, b1⟩ := kx E ce q u t T'.heap (locs ++ L) e1.symm (by rw [← e2]; exact X'.warmed.alike) hp hb k1 k2 k3 (by rw [e1]; exact hce) hcv hcl T' rfl X'
    exact ⟨t2, st.trans a1, b1⟩
theorem vx_callf {S SX : Type} {post : UInt32 → S → Prop} {px : SX → Prop} {B : S → State → Prop} {BX : String → SX → State → Prop} {AX : Nat → Prop} (hr : vx_Run p l e R s m args below meth c H locs cells slots mc ms (F0 m pc ls st0) rest (va_Qf post B A1 a) (vx_X px BX AX) free) (hS : va_S A0 H0 H locs) (hA : ∀ q, q < H.size → A1 q → A0 q) (hf : ∀ q, free q → A0 q) (hAX : ∀ q, q < H.size → AX q → A0 q)
    (kx : ∀ (E : String) (ce : Cell) (q9 : Addr) (u : SX) (t : State) (H1 : Heap) (locs1 : List Loc), t.heap = H1 → s.vm.Alike t.vm → px u → BX E u t → H.size ≤ H1.size → (∀ q : Nat, q < H.size → ¬ AX q → H1[q]? = H[q]?) → va_S A0 H0 H1 locs1 → H1[q9]? = some ce → ce.vm = .none → s.vm.findClass E = some ce.cls → vx_W p l e R s m args below meth c H1 locs1 (cells + mc) (slots + ms) Q (F0 m pc ls rest) q9)
    (kk : ∀ (r : UInt32) (u : S) (t : State) (H1 : Heap) (locs1 : List Loc), t.heap = H1 → s.vm.Alike t.vm → post r u → B u t → H.size ≤ H1.size → (∀ q : Nat, q < H.size → ¬ A1 q → H1[q]? = H[q]?) → va_S A0 H0 H1 locs1 → W p l e R s m args below meth c H1 locs1 (cells + mc) (slots + ms) Q (F0 m (pc + 3) ls (.float r :: rest))) : W p l e R s m args below meth c H locs cells slots Q (F0 m pc ls st0) := by
  intro T hT X
  rcases hr T hT X with ⟨v, st₀, t, T', L, h0, X', hL, e1, e2, ⟨⟨r, u, hv, hp, hb⟩, hF⟩, st⟩ | ⟨q, st₀, t, T', L, E, ce, h0, X', hL, e1, e2, ⟨u, hp, hb, hF⟩, hce, hcv, hcl, st⟩
  · cases hv
    obtain ⟨k1, k2, k3⟩ := vx_keep h0 e1 hS hA hf hL hF
    obtain ⟨t2, a1, b1⟩ := kk r u t T'.heap (locs ++ L) e1.symm (by rw [← e2]; exact X'.warmed.alike) hp hb k1 k2 k3 T' rfl X'
    exact ⟨t2, st t2 a1, b1⟩
  · obtain ⟨k1, k2, k3⟩ := vx_keep h0 e1 hS hAX hf hL hF
    obtain ⟨t2, a1, b1⟩ := kx E ce q u t T'.heap (locs ++ L) e1.symm (by rw [← e2]; exact X'.warmed.alike) hp hb k1 k2 k3 (by rw [e1]; exact hce) hcv hcl T' rfl X'
    exact ⟨t2, st.trans a1, b1⟩
theorem vx_calld {S SX : Type} {post : UInt64 → S → Prop} {px : SX → Prop} {B : S → State → Prop} {BX : String → SX → State → Prop} {AX : Nat → Prop} (hr : vx_Run p l e R s m args below meth c H locs cells slots mc ms (F0 m pc ls st0) rest (va_Qd post B A1 a) (vx_X px BX AX) free) (hS : va_S A0 H0 H locs) (hA : ∀ q, q < H.size → A1 q → A0 q) (hf : ∀ q, free q → A0 q) (hAX : ∀ q, q < H.size → AX q → A0 q)
    (kx : ∀ (E : String) (ce : Cell) (q9 : Addr) (u : SX) (t : State) (H1 : Heap) (locs1 : List Loc), t.heap = H1 → s.vm.Alike t.vm → px u → BX E u t → H.size ≤ H1.size → (∀ q : Nat, q < H.size → ¬ AX q → H1[q]? = H[q]?) → va_S A0 H0 H1 locs1 → H1[q9]? = some ce → ce.vm = .none → s.vm.findClass E = some ce.cls → vx_W p l e R s m args below meth c H1 locs1 (cells + mc) (slots + ms) Q (F0 m pc ls rest) q9)
    (kk : ∀ (r : UInt64) (u : S) (t : State) (H1 : Heap) (locs1 : List Loc), t.heap = H1 → s.vm.Alike t.vm → post r u → B u t → H.size ≤ H1.size → (∀ q : Nat, q < H.size → ¬ A1 q → H1[q]? = H[q]?) → va_S A0 H0 H1 locs1 → W p l e R s m args below meth c H1 locs1 (cells + mc) (slots + ms) Q (F0 m (pc + 3) ls (.double r :: rest))) : W p l e R s m args below meth c H locs cells slots Q (F0 m pc ls st0) := by
  intro T hT X
  rcases hr T hT X with ⟨v, st₀, t, T', L, h0, X', hL, e1, e2, ⟨⟨r, u, hv, hp, hb⟩, hF⟩, st⟩ | ⟨q, st₀, t, T', L, E, ce, h0, X', hL, e1, e2, ⟨u, hp, hb, hF⟩, hce, hcv, hcl, st⟩
  · cases hv
    obtain ⟨k1, k2, k3⟩ := vx_keep h0 e1 hS hA hf hL hF
    obtain ⟨t2, a1, b1⟩ := kk r u t T'.heap (locs ++ L) e1.symm (by rw [← e2]; exact X'.warmed.alike) hp hb k1 k2 k3 T' rfl X'
    exact ⟨t2, st t2 a1, b1⟩
  · obtain ⟨k1, k2, k3⟩ := vx_keep h0 e1 hS hAX hf hL hF
    obtain ⟨t2, a1, b1⟩ := kx E ce q u t T'.heap (locs ++ L) e1.symm (by rw [← e2]; exact X'.warmed.alike) hp hb k1 k2 k3 (by rw [e1]; exact hce) hcv hcl T' rfl X'
    exact ⟨t2, st.trans a1, b1⟩
theorem vx_callv {S SX : Type} {post : S → Prop} {px : SX → Prop} {B : S → State → Prop} {BX : String → SX → State → Prop} {AX : Nat → Prop} (hr : vx_Run p l e R s m args below meth c H locs cells slots mc ms (F0 m pc ls st0) rest (va_Qv post B A1 a) (vx_X px BX AX) free) (hS : va_S A0 H0 H locs) (hA : ∀ q, q < H.size → A1 q → A0 q) (hf : ∀ q, free q → A0 q) (hAX : ∀ q, q < H.size → AX q → A0 q)
    (kx : ∀ (E : String) (ce : Cell) (q9 : Addr) (u : SX) (t : State) (H1 : Heap) (locs1 : List Loc), t.heap = H1 → s.vm.Alike t.vm → px u → BX E u t → H.size ≤ H1.size → (∀ q : Nat, q < H.size → ¬ AX q → H1[q]? = H[q]?) → va_S A0 H0 H1 locs1 → H1[q9]? = some ce → ce.vm = .none → s.vm.findClass E = some ce.cls → vx_W p l e R s m args below meth c H1 locs1 (cells + mc) (slots + ms) Q (F0 m pc ls rest) q9)
    (kk : ∀ (u : S) (t : State) (H1 : Heap) (locs1 : List Loc), t.heap = H1 → s.vm.Alike t.vm → post u → B u t → H.size ≤ H1.size → (∀ q : Nat, q < H.size → ¬ A1 q → H1[q]? = H[q]?) → va_S A0 H0 H1 locs1 → W p l e R s m args below meth c H1 locs1 (cells + mc) (slots + ms) Q (F0 m (pc + 3) ls (rest))) : W p l e R s m args below meth c H locs cells slots Q (F0 m pc ls st0) := by
  intro T hT X
  rcases hr T hT X with ⟨v, st₀, t, T', L, h0, X', hL, e1, e2, ⟨⟨u, hv, hp, hb⟩, hF⟩, st⟩ | ⟨q, st₀, t, T', L, E, ce, h0, X', hL, e1, e2, ⟨u, hp, hb, hF⟩, hce, hcv, hcl, st⟩
  · cases hv
    obtain ⟨k1, k2, k3⟩ := vx_keep h0 e1 hS hA hf hL hF
    obtain ⟨t2, a1, b1⟩ := kk u t T'.heap (locs ++ L) e1.symm (by rw [← e2]; exact X'.warmed.alike) hp hb k1 k2 k3 T' rfl X'
    exact ⟨t2, st t2 a1, b1⟩
  · obtain ⟨k1, k2, k3⟩ := vx_keep h0 e1 hS hAX hf hL hF
    obtain ⟨t2, a1, b1⟩ := kx E ce q u t T'.heap (locs ++ L) e1.symm (by rw [← e2]; exact X'.warmed.alike) hp hb k1 k2 k3 (by rw [e1]; exact hce) hcv hcl T' rfl X'
    exact ⟨t2, st.trans a1, b1⟩
/-- caught by the row x of this method's table; the rows ahead don't take it -/
theorem vx_catch {own name : String} {E : String} {ce : Cell} {q : Addr} (hown : s.vm.findClass own = some m.cls) (pre : List ExceptionTableEntry) (x : ExceptionTableEntry) (suf : List ExceptionTableEntry) (hsplit : c.exceptionTable.toList = pre ++ x :: suf)
    (hpass : ∀ z ∈ pre, covers z pc = false ∨ (z.catchType ≠ 0 ∧ ∃ nm : String, (Cond.classLink own z.catchType nm).before args s = true ∧ va_Nc E nm s)) (hx : covers x pc = true) (h0 : x.catchType ≠ 0)
    (hlink : (Cond.classLink own x.catchType name).before args s = true) (hcast : (Cond.castable E name).before args s = true) (hcell : H[q]? = some ce) (hv : ce.vm = .none) (hcl : s.vm.findClass E = some ce.cls)
    (kk : W p l e R s m args below meth c H locs cells slots Q (F0 m x.handlerPc ls [.ref q])) : vx_W p l e R s m args below meth c H locs cells slots Q (F0 m pc ls rest) q := by
  intro T hT X
  have hpl : e.platform.magicAccessors = ({} : Platform).magicAccessors := by rw [X.admits.platform]
  obtain ⟨c3, c4, hc3, hc4, hasg⟩ := Cond.castable_spec hcast
  cases Option.some.inj (hc3.symm.trans hcl)
  obtain ⟨c5, hc5, hcl5⟩ := Cond.classLink_spec hown hlink e.platform hpl
  cases Option.some.inj (hc4.symm.trans hc5)
  obtain ⟨vm', X', st⟩ := X.thenCaughtThrough q (g := F0 m pc ls rest) rfl (Steps.refl _) (by rw [hT]; exact hcell) (by rw [hv]; rfl) (by obtain ⟨k9, h9, -⟩ := Vm.findClass_spec hcl; exact ⟨k9, h9⟩) pre x suf hsplit
    (fun z hz => by
      rcases hpass z hz with h | ⟨hz0, nm, hl1, hn1⟩
      · exact Or.inl h
      · obtain ⟨c6, hc6, hcl6⟩ := Cond.classLink_spec hown hl1 e.platform hpl
        obtain ⟨a8, b8, h1, h2, h3⟩ := hn1
        cases Option.some.inj (h1.symm.trans hcl)
        cases Option.some.inj (h2.symm.trans hc6)
        exact Or.inr ⟨hz0, _, hcl6, h3⟩) hx (Or.inr ⟨h0, c4, hcl5, hasg⟩)
  obtain ⟨t, a1, b1⟩ := kk (T.setVm vm') hT X'
  exact ⟨t, st.trans a1, b1⟩
end Rows
section Ends
variable {p : Program} {l : Launch} {e : Env} {R : Room} {s : State} {m : MethodId} {args : Array Value} {below : List Frame} {meth : Method} {c : Code} {H : Heap} {locs : List Loc} {cells slots : Nat} {Q : State → Prop}
variable {mc ms : Nat} {free : Addr → Prop} {A0 A1 : Nat → Prop} {H0 : Heap} {a : Array Value} {ls : Array Slot} {st0 rest : List Value}
variable {Qc : Array Value → State → Outcome → State → Prop} {XC : String → State → State → Prop}
/-- what a body that may throw owes at its end -/
def vx_MQ (below : List Frame) (Qc : Array Value → State → Outcome → State → Prop) (XC : String → State → State → Prop) (a : Array Value) (s : State) (mc ms : Nat) (free : Addr → Prop) : State → Prop := fun t =>
  ∃ o, t.status = .running ∧ Ended t below o ∧ vx_Q Qc XC mc ms free a s o t
theorem vx_ret {g : JFrame} {mc ms : Nat} (k : W p l e R s m args below meth c H locs cells slots (MQ below Qc args s mc ms free) g) : W p l e R s m args below meth c H locs cells slots (vx_MQ below Qc XC args s mc ms free) g := by
  intro T hT X
  obtain ⟨t, a1, o, b1, b2, b3, b4⟩ := k T hT X
  exact ⟨t, a1, o, b1, b2, Or.inl ⟨b3, b4⟩⟩
/-- not caught here: it goes on to the caller -/
theorem vx_widen {g : JFrame} {q : Addr} {k n : Nat} (h1 : cells ≤ k) (h2 : slots ≤ n) (kk : vx_W p l e R s m args below meth c H locs k n Q g q) : vx_W p l e R s m args below meth c H locs cells slots Q g q := fun T hT X => kk T hT (stand_widen X h1 h2)
theorem vx_out {pc : Nat} {E : String} {ce : Cell} {q : Addr} {mc ms : Nat} (hout : ∀ x ∈ c.exceptionTable.toList, covers x pc = false) (hlocks : meth.locks = false) (hcell : H[q]? = some ce) (hv : ce.vm = .none) (hcl : s.vm.findClass E = some ce.cls)
    (hx : ∀ t : State, t.heap = H → s.vm.Alike t.vm → XC E s t) (hf : ∀ z ∈ locs, free z.base) (hc : cells ≤ mc) (hs : slots ≤ ms) :
    vx_W p l e R s m args below meth c H locs cells slots (vx_MQ below Qc XC args s mc ms free) (F0 m pc ls rest) q := by
  intro T hT X
  obtain ⟨st1, hrun, hend, hW, hsm⟩ := X.leaveThrown q (g := F0 m pc ls rest) rfl rfl rfl hout hlocks
  have hcell9 : (T.setFrames (.throwing q :: below)).heap[q]? = some ce := by
    show T.heap[q]? = some ce
    rw [hT]; exact hcell
  exact ⟨_, st1, .threw q, hrun, hend, Or.inr ⟨q, rfl, E, ce, locs, hx _ hT hW.alike, hcell9, hv, hcl, hW, hsm.mono hc hs, hf⟩⟩
theorem vx_frame {U : State} {k n : Nat} (h : s.sameButNew ({ U with vm := s.vm } : State) locs k n) : s.heap.size ≤ U.heap.size ∧ ∀ q : Nat, q < s.heap.size → (∀ z ∈ locs, z.base ≠ q) → U.heap[q]? = s.heap[q]? := by
  obtain ⟨-, h2, -, -, -, h6⟩ := h
  refine ⟨h2, fun q hq hz => ?_⟩
  obtain ⟨c9, e1, e2, e3, e4⟩ := h6 q _ (Array.getElem?_eq_getElem hq)
  have hs : c9.slots = (s.heap[q]).slots := Array.ext_getElem? fun i => e4 i fun hm => hz _ hm rfl
  have h9 : c9 = s.heap[q] := by
    rw [hs] at e2
    exact e2
  have e5 : U.heap[q]? = some c9 := e1
  rw [e5, h9, Array.getElem?_eq_getElem hq]
/-- the words of a throw but the four that speak of the heap -/
def vx_no (w : Cond) : Bool := decide (w ≠ .isRef (.static Bundle.tN "UNASSIGNED_STACK" Bundle.steD)) && decide (w ≠ .isRef (.static Bundle.tN "SUPPRESSED_SENTINEL" Bundle.listD)) && decide (w ≠ .laysStatic Bundle.tN "UNASSIGNED_STACK" Bundle.steD) && decide (w ≠ .laysStatic Bundle.tN "SUPPRESSED_SENTINEL" Bundle.listD)
def vx_at0 (own : String) (ic : Nat) (X : String) (names : List String) : List Cond := (Bundle.ownAtoms0 own ic X names).filter vx_no
def vx_atS (own : String) (ic : Nat) (X : String) (names : List String) : List Cond := (Bundle.ownAtoms own ic X names).filter vx_no
/-- a word that the tables alone decide, or a good one -/
def vx_ot (w : Cond) : Bool := w.onTables || goodWord w
theorem vx_ot_at {args a' : Array Value} {s U : State} {w : Cond} (hW : s.WarmedH U.vm) (hvm : s.vm = U.vm) (hg : vx_ot w = true) (h : w.before args s = true) : w.before a' U = true := by
  simp only [vx_ot, Bool.or_eq_true] at hg
  rcases hg with hg | hg
  · exact va_tabs hg hvm h
  · exact word_at hW (good_of_word hg) h
/-- a list's words: the good ones out of the method's own list, the others by premises of their own -/
theorem vx_hat {args : Array Value} {s : State} {L B : List Cond} (h1 : ∀ w ∈ L.filter goodWord, w.before args s = true) (h2 : ∀ w ∈ L.filter (fun w => !goodWord w), w ∈ B) (h3 : ∀ w ∈ B, w.before args s = true) : ∀ w ∈ L, w.before args s = true := by
  intro w hw
  by_cases g : goodWord w = true
  · exact h1 w (List.mem_filter.mpr ⟨hw, g⟩)
  · refine h3 w (h2 w (List.mem_filter.mpr ⟨hw, ?_⟩))
    show (!goodWord w) = true
    cases hgw : goodWord w
    · rfl
    · exact absurd hgw g
theorem vx_c {args : Array Value} {s : State} {w : Cond} {B : List Cond} (h : w.before args s = true) (t : ∀ w ∈ B, w.before args s = true) : ∀ w' ∈ w :: B, w'.before args s = true := fun w' h' => (List.mem_cons.mp h').elim (fun e => by rw [e]; exact h) (t w')
theorem vx_n {args : Array Value} {s : State} : ∀ w ∈ ([] : List Cond), w.before args s = true := fun _ h => nomatch h
theorem vx_own {args : Array Value} {s : State} {L : List Cond} (h1 : ∀ w ∈ L.filter vx_no, w.before args s = true)
    (hU : (Cond.isRef (.static Bundle.tN "UNASSIGNED_STACK" Bundle.steD)).before args s = true) (hN : (Cond.isRef (.static Bundle.tN "SUPPRESSED_SENTINEL" Bundle.listD)).before args s = true)
    (lU : (Cond.laysStatic Bundle.tN "UNASSIGNED_STACK" Bundle.steD).before args s = true) (lN : (Cond.laysStatic Bundle.tN "SUPPRESSED_SENTINEL" Bundle.listD).before args s = true) : ∀ w ∈ L, w.before args s = true := by
  intro w hw
  by_cases e1 : w = .isRef (.static Bundle.tN "UNASSIGNED_STACK" Bundle.steD)
  · rw [e1]; exact hU
  · by_cases e2 : w = .isRef (.static Bundle.tN "SUPPRESSED_SENTINEL" Bundle.listD)
    · rw [e2]; exact hN
    · by_cases e3 : w = .laysStatic Bundle.tN "UNASSIGNED_STACK" Bundle.steD
      · rw [e3]; exact lU
      · by_cases e4 : w = .laysStatic Bundle.tN "SUPPRESSED_SENTINEL" Bundle.listD
        · rw [e4]; exact lN
        · exact h1 w (List.mem_filter.mpr ⟨hw, by unfold vx_no; rw [decide_eq_true e1, decide_eq_true e2, decide_eq_true e3, decide_eq_true e4]; rfl⟩)
/-- where a static field lies, its class's statics cell in H -/
def vx_L (C n d : String) (A : Nat → Prop) (U : State) (H : Heap) : Prop := ∃ (c : ClassId) (k : Class) (i : Nat) (f : Field) (a : Nat) (cell : Cell), U.vm.findClass C = some c ∧ U.fieldFound? C n d = some (c, k, i, f) ∧ f.isStatic = true ∧ k.statics = some a ∧ H[a]? = some cell ∧ cell.vm.isStatics = true ∧ cell.cls = c ∧ f.slot < cell.slots.size ∧ k.staticTypes[f.slot]? = some f.type ∧ ¬ A a
theorem vx_L.moved {C n d : String} {A : Nat → Prop} {u U : State} {H : Heap} (hvm : u.vm.Alike U.vm) (h : vx_L C n d A u H) : vx_L C n d A U H := by
  obtain ⟨c, k, i, f, a, cell, h1, h2, h3, h4, h5, h6, h7, h8, h9, h10⟩ := h
  obtain ⟨k', hi', he⟩ := State.fieldFound?_setVm hvm h2
  exact ⟨c, k', i, f, a, cell, by rw [hvm.findClass]; exact h1, hi', h3, by rw [he]; exact h4, h5, h6, h7, h8, by rw [he]; exact h9, h10⟩
theorem vx_L.kept {C n d : String} {A : Nat → Prop} {U : State} {H H1 : Heap} (h : vx_L C n d A U H) (hq : ∀ a : Nat, a < H.size → ¬ A a → H1[a]? = H[a]?) : vx_L C n d A U H1 := by
  obtain ⟨c, k, i, f, a, cell, h1, h2, h3, h4, h5, h6, h7, h8, h9, h10⟩ := h
  exact ⟨c, k, i, f, a, cell, h1, h2, h3, h4, by rw [hq a (Array.getElem?_eq_some_iff.mp h5).1 h10]; exact h5, h6, h7, h8, h9, h10⟩
theorem vx_L.narrow {C n d : String} {A B : Nat → Prop} {U : State} {H : Heap} (h : vx_L C n d A U H) (hAB : ∀ q, B q → A q) : vx_L C n d B U H := by
  obtain ⟨c, k, i, f, a, cell, h1, h2, h3, h4, h5, h6, h7, h8, h9, h10⟩ := h
  exact ⟨c, k, i, f, a, cell, h1, h2, h3, h4, h5, h6, h7, h8, h9, fun z => h10 (hAB _ z)⟩
theorem vx_L.word {C n d : String} {A : Nat → Prop} {s : State} {args : Array Value} (h : vx_L C n d A s s.heap) : (Cond.laysStatic C n d).before args s = true := by
  obtain ⟨c, k, i, f, a, cell, h1, h2, h3, h4, h5, h6, h7, h8, h9, -⟩ := h
  show (Cond.laysStatic C n d).holds args s none s [] = true
  exact Cond.laysStatic_of h1 h2 h3 h4 h5 h6 h7 h8 h9
/-- .. and what it holds: null or some reference -/
def vx_Zq (C n d : String) (A : Nat → Prop) (U : State) (H : Heap) : Prop := va_Zq C n d A U H ∧ vx_L C n d A U H
theorem vx_Zq.moved {C n d : String} {A : Nat → Prop} {u U : State} {H : Heap} (hvm : u.vm.Alike U.vm) (h : vx_Zq C n d A u H) : vx_Zq C n d A U H := ⟨va_Zq.moved hvm h.1, vx_L.moved hvm h.2⟩
theorem vx_Zq.kept {C n d : String} {A : Nat → Prop} {U : State} {H H1 : Heap} (h : vx_Zq C n d A U H) (hq : ∀ a : Nat, a < H.size → ¬ A a → H1[a]? = H[a]?) : vx_Zq C n d A U H1 := ⟨va_Zq.kept h.1 hq, vx_L.kept h.2 hq⟩
theorem vx_Zq.narrow {C n d : String} {A B : Nat → Prop} {U : State} {H : Heap} (h : vx_Zq C n d A U H) (hAB : ∀ q, B q → A q) : vx_Zq C n d B U H := ⟨va_Zq.narrow h.1 hAB, vx_L.narrow h.2 hAB⟩
theorem vx_Zqof {args : Array Value} {s : State} {C n d : String} {A : Nat → Prop} (hl : (Cond.laysStatic C n d).before args s = true) (hini : (Cond.initialized C).before args s = true) (h : (Cond.isRef (.static C n d)).before args s = true) (hA : ∀ a : Nat, a < s.heap.size → ¬ A a) : vx_Zq C n d A s s.heap := by
  refine ⟨va_Zqof hl hini h hA, ?_⟩
  obtain ⟨c, k, i, f, a, cell, h1, h2, h3, h4, h5, h6, h7, h8, h9⟩ := Cond.laysStatic_spec hl
  exact ⟨c, k, i, f, a, cell, h1, h2, h3, h4, h5, h6, h7, h8, h9, hA a (Array.getElem?_eq_some_iff.mp h5).1⟩
theorem vx_isRef {C n d : String} {v : Value} {A : Nat → Prop} {s : State} {args : Array Value} (h : va_Z C n d v A s s.heap) (hv : v.isRef = true) : (Cond.isRef (.static C n d)).before args s = true := by
  obtain ⟨cf, kf, fi, f, a, cell, h1, h2, h3, h4, h5, h6, h7, -⟩ := h
  have he : (Term.static C n d).eval args s none [] s = some v := by
    simp [Term.eval, State.fieldNamed?, h1, h2, h4, h5, h6, h7]
  simp only [Cond.before, Cond.holds, Cond.value, he]
  cases v <;> simp_all [Value.isRef]
theorem vx_isRefq {C n d : String} {A : Nat → Prop} {s : State} {args : Array Value} (h : va_Zq C n d A s s.heap) : (Cond.isRef (.static C n d)).before args s = true := by
  rcases h with h | ⟨t, h⟩
  · exact vx_isRef h rfl
  · exact vx_isRef h rfl
/-- the same frame, seen from here: as if the method were called anew in this heap -/
theorem vx_rebase {T : State} (X : Stand p l e R s m args below meth c T locs cells slots) {R' : Room} (hf : R'.frames ≤ R.frames) (hl : R'.locals ≤ R.locals) (hc : cells + R'.cells ≤ R.cells) (hs : slots + R'.slots ≤ R.slots) :
    Stand p l e R' ((T.setVm s.vm).setFrames (.invoking m args :: below)) m args below meth c T [] 0 0 := by
  have htop : (T.setVm s.vm).topJava?.isSome := X.here.top
  have hF : ((T.setVm s.vm).setFrames (.invoking m args :: below)).frames = .invoking m args :: below := State.frames_setFrames _ (State.cur_lt_of_top htop)
  obtain ⟨g₀, hg0⟩ := Option.isSome_iff_exists.mp htop
  obtain ⟨r, hr⟩ := State.topJava?_eq_some.mp hg0
  have hl9 : e.platform.stackLimits (T.setVm s.vm).me = e.platform.stackLimits s.me := X.limits
  have hb9 : (T.setVm s.vm).me.stackBytes = s.me.stackBytes := X.bytes
  refine ⟨X.admits, X.cas, X.clock, hF, ?_, X.hears, X.method, X.code, X.here, X.tail, X.warmed, ?_, ?_, ?_⟩
  · have h := X.room
    have hU : ((T.setVm s.vm).setFrames (.invoking m args :: below)).localsInUse = s.localsInUse := by
      rw [State.localsInUse_invoking hF (meth := meth) (c := c) X.method X.code, State.localsInUse_invoking X.frames X.method X.code]
    simp only [State.hasRoom, Bool.and_eq_true, decide_eq_true_eq] at h ⊢
    obtain ⟨⟨⟨⟨h1, h2, h3, h4, h5, h6⟩, h7⟩, h8⟩, h9⟩ := h
    rw [X.frames, List.length_cons] at h2 h3
    have q1 := X.heapSize
    have q2 := X.used
    simp only [hF, hU, List.length_cons, State.stackLimits_setFrames, State.stackBytes_setFrames, hl9, hb9]
    refine ⟨⟨⟨⟨by omega, by omega, by omega, by omega, by omega, h6⟩, ?_⟩, ?_⟩, X.book⟩
    · show T.heap.size + R'.cells ≤ e.platform.maxCells
      omega
    · show T.slotsUsed + R'.slots ≤ e.platform.maxSlots
      omega
  · rw [State.stackLimits_setFrames]; rfl
  · rw [State.stackBytes_setFrames]; rfl
  · refine ⟨?_, Nat.le_refl _, Nat.le_refl _, ?_, ?_, fun a c9 h9 => ⟨c9, h9, rfl, rfl, fun _ _ => rfl⟩⟩
    · obtain ⟨t, ht, -⟩ := State.frames_cons hr
      show T.setVm s.vm = { ((T.setVm s.vm).setFrames (.invoking m args :: below)).setFrames (T.setVm s.vm).frames with heap := T.heap, slotsUsed := T.slotsUsed }
      rw [State.setFrames_setFrames, State.setFrames_self ht]
      rfl
    · show T.slotsUsed = T.slotsUsed + ((T.heap.toList.drop T.heap.size).map (·.slots.size)).sum
      rw [List.drop_eq_nil_of_le (Nat.le_of_eq Array.length_toList)]
      rfl
    · show ((T.heap.toList.drop T.heap.size).map (·.slots.size)).sum ≤ 0
      rw [List.drop_eq_nil_of_le (Nat.le_of_eq Array.length_toList)]
      exact Nat.le_refl _
/-- 'throw new E()': new; dup; invokespecial; athrow -/
theorem vx_throw0 {cc : ByteArray} {pc : Nat} (hexec : p.tables.exec = Jvm.exec) (hb : c.code = cc) (hl : l.stackTraces = false) {own cls : String} {names : List String} {ik ic mc ms : Nat} {A : Nat → Prop}
    (hown : s.vm.findClass own = some m.cls) (hcls : Bundle.fit cls = true) (hnames : ∀ n ∈ names, Bundle.fit n = true)
    (hk : (Cond.classLink own ik cls).before args s = true) (hini : (Cond.initialized cls).before args s = true) (hat : ∀ w ∈ vx_at0 own ic cls names, w.before args s = true)
    (hgood : ∀ w ∈ Cond.classLink own ik cls :: Cond.initialized cls :: vx_at0 own ic cls names, vx_ot w = true)
    (hU : vx_Zq Bundle.tN "UNASSIGNED_STACK" Bundle.steD A s s.heap) (hN : vx_Zq Bundle.tN "SUPPRESSED_SENTINEL" Bundle.listD A s s.heap) (hS : va_S A s.heap H locs) (hsize : ls.size = c.maxLocals)
    (d0 : decode cc pc = .ok (.new ik, 3)) (d3 : decode cc (pc + 3) = .ok (.dup, 1)) (d4 : decode cc (pc + 4) = .ok (.invokespecial ic, 3)) (d7 : decode cc (pc + 7) = .ok (.athrow, 1))
    (hout : ∀ x ∈ c.exceptionTable.toList, covers x (pc + 7) = false)
    (hRframes : names.length + 3 < R.frames) (hRlocals : (rest.map fun v => v.category).sum + (13 * (names.length + 1) + 42) ≤ R.locals) (hRcells : cells + 1 ≤ R.cells) (hRslots : slots + 6 ≤ R.slots) (hlocks : meth.locks = false)
    (hx : ∀ t : State, s.vm.Alike t.vm → H.size ≤ t.heap.size → (∀ q : Nat, q < H.size → t.heap[q]? = H[q]?) → XC cls s t)
    (hf : ∀ z ∈ locs, free z.base) (hc : cells + 1 ≤ mc) (hs : slots + 6 ≤ ms) :
    W p l e R s m args below meth c H locs cells slots (vx_MQ below Qc XC args s mc ms free) (F0 m pc ls rest) := by
  intro T hT X
  have htr : e.platform.stackTraces = false := (show e.platform.stackTraces = l.stackTraces by rw [X.admits.platform]).trans hl
  have Y := vx_rebase X (R' := { frames := R.frames, locals := R.locals, cells := 1, slots := 6 }) (Nat.le_refl _) (Nat.le_refl _) hRcells hRslots
  obtain ⟨s', hA⟩ : ∃ z, z = (T.setVm s.vm).setFrames (.invoking m args :: below) := ⟨_, rfl⟩
  rw [← hA] at Y
  have hvm : s'.vm = s.vm := by rw [hA]; rfl
  have hhp : s'.heap = H := by rw [hA]; exact hT
  have hW0 : s.WarmedH s'.vm := by rw [hvm]; exact State.WarmedH.refl s
  have hat' : ∀ w ∈ vx_at0 own ic cls names, w.before args s' = true := fun w hw => vx_ot_at hW0 hvm.symm (hgood w (List.mem_cons_of_mem _ (List.mem_cons_of_mem _ hw))) (hat w hw)
  have hk' : (Cond.classLink own ik cls).before args s' = true := vx_ot_at hW0 hvm.symm (hgood _ List.mem_cons_self) hk
  have hini' : (Cond.initialized cls).before args s' = true := vx_ot_at hW0 hvm.symm (hgood _ (List.mem_cons_of_mem _ List.mem_cons_self)) hini
  have hU' : vx_Zq Bundle.tN "UNASSIGNED_STACK" Bundle.steD A s' s'.heap := by rw [hhp]; exact vx_Zq.moved hW0.alike (hU.kept hS.2.1)
  have hN' : vx_Zq Bundle.tN "SUPPRESSED_SENTINEL" Bundle.listD A s' s'.heap := by rw [hhp]; exact vx_Zq.moved hW0.alike (hN.kept hS.2.1)
  have h : ∀ w ∈ Bundle.ownAtoms0 own ic cls names, w.before args s' = true := vx_own hat' (vx_isRefq hU'.1) (vx_isRefq hN'.1) hU'.2.word hN'.2.word
  have hown' : s'.vm.findClass own = some m.cls := by rw [hvm]; exact hown
  have hins : (Cond.instantiable cls 6).before args s' = true := h _ (by simp [Bundle.ownAtoms0])
  obtain ⟨vm₁, cX, kX, hfX, hkX, -, -, X₁, st1⟩ := Y.newCold hexec (own := own) (C := cls) (index := ik) (n := 6) hown' hk' hins hini'
    (g := F0 m pc ls rest) rfl (by rw [hb]; exact d0) (Nat.le_refl _) (Nat.le_refl _)
  generalize hT1 : (T.setVm vm₁).pushCell { cls := cX, slots := kX.instanceTypes.map defaultValue, vm := .none } = T1 at X₁ st1
  have hcat : (Value.ref T.heap.size).category = 1 := rfl
  have hcellA : T1.heap[T.heap.size]? = some (freshCell cX kX) := by rw [← hT1]; exact State.heap_pushCell_size _ _
  have d3' : decode c.code (pc + 3) = .ok (.dup, 1) := by rw [hb]; exact d3
  obtain ⟨U, hsteps, hrun, hend, hW, hsame, ce, hce, hO⟩ := X₁.ctorThrow0 hexec htr (own := own) (cls := cls) (names := names) (ic := ic) hown' hcls hnames h (fun x hx => nomatch hx) hfX hkX hcellA (by rw [hhp, hT]; exact Nat.le_refl _)
    (g := { method := m, pc := pc + 4, locals := ls, stack := .ref T.heap.size :: .ref T.heap.size :: rest, locked := none }) rfl hsize rfl rfl (rest := rest) rfl
    (by rw [hb]; exact d4) (by rw [hb]; exact d7) hout hRframes (by simp only [List.map_cons, List.sum_cons, hcat]; omega) hlocks
  obtain ⟨f1, f2⟩ := vx_frame hsame
  rw [hhp] at f1 f2
  have hWs : s.WarmedH U.vm := State.WarmedH.trans hW0 hW
  have hcl : s.vm.findClass cls = some ce.cls := by
    have h9 := hO.cls
    rw [hvm] at h9
    exact h9
  have hall : s.sameButNew ({ U with vm := s.vm } : State) locs mc ms := by
    subst hA
    obtain ⟨e1, e2⟩ := hsame
    rw [State.setFrames_setFrames] at e1
    have h2 : (T.setVm s.vm).sameButNew ({ U with vm := s.vm } : State) [] (0 + 1) (0 + 6) := ⟨e1, e2⟩
    have h3 := X.same.trans h2
    rw [List.append_nil] at h3
    exact h3.mono hc hs
  refine ⟨U, ?_, .threw T.heap.size, hrun, hend, Or.inr ⟨T.heap.size, rfl, cls, ce, locs, hx U hWs.alike f1 (fun q hq => f2 q hq (fun z hz => nomatch hz)), hce, hO.vm, hcl, hWs, hall, hf⟩⟩
  refine st1 _ ?_
  show Steps p.tables e below (T1.setTop { method := m, pc := pc + 3, locals := ls, stack := .ref T.heap.size :: rest, locked := none }) _
  jvm_step X₁.here [X₁.here.top, hexec, d3', Value.category]
  exact hsteps
/-- 'throw new E("text")': new; dup; ldc; invokespecial; athrow -/
theorem vx_throwS {cc : ByteArray} {pc : Nat} (hexec : p.tables.exec = Jvm.exec) (hb : c.code = cc) (hl : l.stackTraces = false) {own cls text : String} {names : List String} {ik is ic mc ms sa : Nat} {A : Nat → Prop}
    (hown : s.vm.findClass own = some m.cls) (hcls : Bundle.fit cls = true) (hnames : ∀ n ∈ names, Bundle.fit n = true)
    (hk : (Cond.classLink own ik cls).before args s = true) (hini : (Cond.initialized cls).before args s = true) (hstr : vk_R own is text sa s) (hat : ∀ w ∈ vx_atS own ic cls names, w.before args s = true)
    (hgood : ∀ w ∈ Cond.classLink own ik cls :: Cond.initialized cls :: vx_atS own ic cls names, vx_ot w = true)
    (hU : vx_Zq Bundle.tN "UNASSIGNED_STACK" Bundle.steD A s s.heap) (hN : vx_Zq Bundle.tN "SUPPRESSED_SENTINEL" Bundle.listD A s s.heap) (hS : va_S A s.heap H locs) (hsize : ls.size = c.maxLocals)
    (d0 : decode cc pc = .ok (.new ik, 3)) (d3 : decode cc (pc + 3) = .ok (.dup, 1)) (d4 : decode cc (pc + 4) = .ok (.ldc is, 2)) (d6 : decode cc (pc + 6) = .ok (.invokespecial ic, 3)) (d9 : decode cc (pc + 9) = .ok (.athrow, 1))
    (hout : ∀ x ∈ c.exceptionTable.toList, covers x (pc + 9) = false)
    (hRframes : names.length + 3 < R.frames) (hRlocals : (rest.map fun v => v.category).sum + (13 * (names.length + 1) + 43) ≤ R.locals) (hRcells : cells + 1 ≤ R.cells) (hRslots : slots + 6 ≤ R.slots) (hlocks : meth.locks = false)
    (hx : ∀ t : State, s.vm.Alike t.vm → H.size ≤ t.heap.size → (∀ q : Nat, q < H.size → t.heap[q]? = H[q]?) → XC cls s t)
    (hf : ∀ z ∈ locs, free z.base) (hc : cells + 1 ≤ mc) (hs : slots + 6 ≤ ms) :
    W p l e R s m args below meth c H locs cells slots (vx_MQ below Qc XC args s mc ms free) (F0 m pc ls rest) := by
  intro T hT X
  have htr : e.platform.stackTraces = false := (show e.platform.stackTraces = l.stackTraces by rw [X.admits.platform]).trans hl
  have Y := vx_rebase X (R' := { frames := R.frames, locals := R.locals, cells := 1, slots := 6 }) (Nat.le_refl _) (Nat.le_refl _) hRcells hRslots
  obtain ⟨s', hA⟩ : ∃ z, z = (T.setVm s.vm).setFrames (.invoking m args :: below) := ⟨_, rfl⟩
  rw [← hA] at Y
  have hvm : s'.vm = s.vm := by rw [hA]; rfl
  have hhp : s'.heap = H := by rw [hA]; exact hT
  have hW0 : s.WarmedH s'.vm := by rw [hvm]; exact State.WarmedH.refl s
  have hat' : ∀ w ∈ vx_atS own ic cls names, w.before args s' = true := fun w hw => vx_ot_at hW0 hvm.symm (hgood w (List.mem_cons_of_mem _ (List.mem_cons_of_mem _ hw))) (hat w hw)
  have hk' : (Cond.classLink own ik cls).before args s' = true := vx_ot_at hW0 hvm.symm (hgood _ List.mem_cons_self) hk
  have hini' : (Cond.initialized cls).before args s' = true := vx_ot_at hW0 hvm.symm (hgood _ (List.mem_cons_of_mem _ List.mem_cons_self)) hini
  have hU' : vx_Zq Bundle.tN "UNASSIGNED_STACK" Bundle.steD A s' s'.heap := by rw [hhp]; exact vx_Zq.moved hW0.alike (hU.kept hS.2.1)
  have hN' : vx_Zq Bundle.tN "SUPPRESSED_SENTINEL" Bundle.listD A s' s'.heap := by rw [hhp]; exact vx_Zq.moved hW0.alike (hN.kept hS.2.1)
  have h : ∀ w ∈ Bundle.ownAtoms own ic cls names, w.before args s' = true := vx_own hat' (vx_isRefq hU'.1) (vx_isRefq hN'.1) hU'.2.word hN'.2.word
  have hown' : s'.vm.findClass own = some m.cls := by rw [hvm]; exact hown
  have hins : (Cond.instantiable cls 6).before args s' = true := h _ (by simp [Bundle.ownAtoms])
  obtain ⟨vm₁, cX, kX, hfX, hkX, -, -, X₁, st1⟩ := Y.newCold hexec (own := own) (C := cls) (index := ik) (n := 6) hown' hk' hins hini'
    (g := F0 m pc ls rest) rfl (by rw [hb]; exact d0) (Nat.le_refl _) (Nat.le_refl _)
  generalize hT1 : (T.setVm vm₁).pushCell { cls := cX, slots := kX.instanceTypes.map defaultValue, vm := .none } = T1 at X₁ st1
  have hcat : (Value.ref T.heap.size).category = 1 := rfl
  have hcellA : T1.heap[T.heap.size]? = some (freshCell cX kX) := by rw [← hT1]; exact State.heap_pushCell_size _ _
  have d3' : decode c.code (pc + 3) = .ok (.dup, 1) := by rw [hb]; exact d3
  have d4' : decode c.code (pc + 4) = .ok (.ldc is, 2) := by rw [hb]; exact d4
  have hstr' : vk_R own is text sa s' := vk_R.warm hW0 hstr
  obtain ⟨U, hsteps, hrun, hend, hW, hsame, ce, hce, hO⟩ := X₁.ctorThrowS hexec htr (own := own) (cls := cls) (names := names) (ic := ic) hown' hcls hnames h (fun x hx => nomatch hx) hfX hkX hcellA (by rw [hhp, hT]; exact Nat.le_refl _) (msg := .ref sa) rfl
    (g := { method := m, pc := pc + 6, locals := ls, stack := .ref sa :: .ref T.heap.size :: .ref T.heap.size :: rest, locked := none }) rfl hsize rfl rfl (rest := rest) rfl
    (by rw [hb]; exact d6) (by rw [hb]; exact d9) hout hRframes (by simp only [List.map_cons, List.sum_cons, hcat]; omega) hlocks
  obtain ⟨f1, f2⟩ := vx_frame hsame
  rw [hhp] at f1 f2
  have hWs : s.WarmedH U.vm := State.WarmedH.trans hW0 hW
  have hcl : s.vm.findClass cls = some ce.cls := by
    have h9 := hO.cls
    rw [hvm] at h9
    exact h9
  have hall : s.sameButNew ({ U with vm := s.vm } : State) locs mc ms := by
    subst hA
    obtain ⟨e1, e2⟩ := hsame
    rw [State.setFrames_setFrames] at e1
    have h2 : (T.setVm s.vm).sameButNew ({ U with vm := s.vm } : State) [] (0 + 1) (0 + 6) := ⟨e1, e2⟩
    have h3 := X.same.trans h2
    rw [List.append_nil] at h3
    exact h3.mono hc hs
  refine ⟨U, ?_, .threw T.heap.size, hrun, hend, Or.inr ⟨T.heap.size, rfl, cls, ce, locs, hx U hWs.alike f1 (fun q hq => f2 q hq (fun z hz => nomatch hz)), hce, hO.vm, hcl, hWs, hall, hf⟩⟩
  refine st1 _ ?_
  show Steps p.tables e below (T1.setTop { method := m, pc := pc + 3, locals := ls, stack := .ref T.heap.size :: rest, locked := none }) _
  jvm_step X₁.here [X₁.here.top, hexec, d3', Value.category]
  exact X₁.ldcString hexec (own := own) (text := text) (index := is) (a := sa) hown' hstr'.1 hstr'.2
    (g := { method := m, pc := pc + 4, locals := ls, stack := .ref T.heap.size :: .ref T.heap.size :: rest, locked := none }) rfl d4' _ hsteps
/-- 'throw new E("text")', the text by a wide index -/
theorem vx_throwSW {cc : ByteArray} {pc : Nat} (hexec : p.tables.exec = Jvm.exec) (hb : c.code = cc) (hl : l.stackTraces = false) {own cls text : String} {names : List String} {ik is ic mc ms sa : Nat} {A : Nat → Prop}
    (hown : s.vm.findClass own = some m.cls) (hcls : Bundle.fit cls = true) (hnames : ∀ n ∈ names, Bundle.fit n = true)
    (hk : (Cond.classLink own ik cls).before args s = true) (hini : (Cond.initialized cls).before args s = true) (hstr : vk_R own is text sa s) (hat : ∀ w ∈ vx_atS own ic cls names, w.before args s = true)
    (hgood : ∀ w ∈ Cond.classLink own ik cls :: Cond.initialized cls :: vx_atS own ic cls names, vx_ot w = true)
    (hU : vx_Zq Bundle.tN "UNASSIGNED_STACK" Bundle.steD A s s.heap) (hN : vx_Zq Bundle.tN "SUPPRESSED_SENTINEL" Bundle.listD A s s.heap) (hS : va_S A s.heap H locs) (hsize : ls.size = c.maxLocals)
    (d0 : decode cc pc = .ok (.new ik, 3)) (d3 : decode cc (pc + 3) = .ok (.dup, 1)) (d4 : decode cc (pc + 4) = .ok (.ldc_w is, 3)) (d7 : decode cc (pc + 7) = .ok (.invokespecial ic, 3)) (d10 : decode cc (pc + 10) = .ok (.athrow, 1))
    (hout : ∀ x ∈ c.exceptionTable.toList, covers x (pc + 10) = false)
    (hRframes : names.length + 3 < R.frames) (hRlocals : (rest.map fun v => v.category).sum + (13 * (names.length + 1) + 43) ≤ R.locals) (hRcells : cells + 1 ≤ R.cells) (hRslots : slots + 6 ≤ R.slots) (hlocks : meth.locks = false)
    (hx : ∀ t : State, s.vm.Alike t.vm → H.size ≤ t.heap.size → (∀ q : Nat, q < H.size → t.heap[q]? = H[q]?) → XC cls s t)
    (hf : ∀ z ∈ locs, free z.base) (hc : cells + 1 ≤ mc) (hs : slots + 6 ≤ ms) :
    W p l e R s m args below meth c H locs cells slots (vx_MQ below Qc XC args s mc ms free) (F0 m pc ls rest) := by
  intro T hT X
  have htr : e.platform.stackTraces = false := (show e.platform.stackTraces = l.stackTraces by rw [X.admits.platform]).trans hl
  have Y := vx_rebase X (R' := { frames := R.frames, locals := R.locals, cells := 1, slots := 6 }) (Nat.le_refl _) (Nat.le_refl _) hRcells hRslots
  obtain ⟨s', hA⟩ : ∃ z, z = (T.setVm s.vm).setFrames (.invoking m args :: below) := ⟨_, rfl⟩
  rw [← hA] at Y
  have hvm : s'.vm = s.vm := by rw [hA]; rfl
  have hhp : s'.heap = H := by rw [hA]; exact hT
  have hW0 : s.WarmedH s'.vm := by rw [hvm]; exact State.WarmedH.refl s
  have hat' : ∀ w ∈ vx_atS own ic cls names, w.before args s' = true := fun w hw => vx_ot_at hW0 hvm.symm (hgood w (List.mem_cons_of_mem _ (List.mem_cons_of_mem _ hw))) (hat w hw)
  have hk' : (Cond.classLink own ik cls).before args s' = true := vx_ot_at hW0 hvm.symm (hgood _ List.mem_cons_self) hk
  have hini' : (Cond.initialized cls).before args s' = true := vx_ot_at hW0 hvm.symm (hgood _ (List.mem_cons_of_mem _ List.mem_cons_self)) hini
  have hU' : vx_Zq Bundle.tN "UNASSIGNED_STACK" Bundle.steD A s' s'.heap := by rw [hhp]; exact vx_Zq.moved hW0.alike (hU.kept hS.2.1)
  have hN' : vx_Zq Bundle.tN "SUPPRESSED_SENTINEL" Bundle.listD A s' s'.heap := by rw [hhp]; exact vx_Zq.moved hW0.alike (hN.kept hS.2.1)
  have h : ∀ w ∈ Bundle.ownAtoms own ic cls names, w.before args s' = true := vx_own hat' (vx_isRefq hU'.1) (vx_isRefq hN'.1) hU'.2.word hN'.2.word
  have hown' : s'.vm.findClass own = some m.cls := by rw [hvm]; exact hown
  have hins : (Cond.instantiable cls 6).before args s' = true := h _ (by simp [Bundle.ownAtoms])
  obtain ⟨vm₁, cX, kX, hfX, hkX, -, -, X₁, st1⟩ := Y.newCold hexec (own := own) (C := cls) (index := ik) (n := 6) hown' hk' hins hini'
    (g := F0 m pc ls rest) rfl (by rw [hb]; exact d0) (Nat.le_refl _) (Nat.le_refl _)
  generalize hT1 : (T.setVm vm₁).pushCell { cls := cX, slots := kX.instanceTypes.map defaultValue, vm := .none } = T1 at X₁ st1
  have hcat : (Value.ref T.heap.size).category = 1 := rfl
  have hcellA : T1.heap[T.heap.size]? = some (freshCell cX kX) := by rw [← hT1]; exact State.heap_pushCell_size _ _
  have d3' : decode c.code (pc + 3) = .ok (.dup, 1) := by rw [hb]; exact d3
  have d4' : decode c.code (pc + 4) = .ok (.ldc_w is, 3) := by rw [hb]; exact d4
  have hstr' : vk_R own is text sa s' := vk_R.warm hW0 hstr
  obtain ⟨U, hsteps, hrun, hend, hW, hsame, ce, hce, hO⟩ := X₁.ctorThrowS hexec htr (own := own) (cls := cls) (names := names) (ic := ic) hown' hcls hnames h (fun x hx => nomatch hx) hfX hkX hcellA (by rw [hhp, hT]; exact Nat.le_refl _) (msg := .ref sa) rfl
    (g := { method := m, pc := pc + 7, locals := ls, stack := .ref sa :: .ref T.heap.size :: .ref T.heap.size :: rest, locked := none }) rfl hsize rfl rfl (rest := rest) rfl
    (by rw [hb]; exact d7) (by rw [hb]; exact d10) hout hRframes (by simp only [List.map_cons, List.sum_cons, hcat]; omega) hlocks
  obtain ⟨f1, f2⟩ := vx_frame hsame
  rw [hhp] at f1 f2
  have hWs : s.WarmedH U.vm := State.WarmedH.trans hW0 hW
  have hcl : s.vm.findClass cls = some ce.cls := by
    have h9 := hO.cls
    rw [hvm] at h9
    exact h9
  have hall : s.sameButNew ({ U with vm := s.vm } : State) locs mc ms := by
    subst hA
    obtain ⟨e1, e2⟩ := hsame
    rw [State.setFrames_setFrames] at e1
    have h2 : (T.setVm s.vm).sameButNew ({ U with vm := s.vm } : State) [] (0 + 1) (0 + 6) := ⟨e1, e2⟩
    have h3 := X.same.trans h2
    rw [List.append_nil] at h3
    exact h3.mono hc hs
  refine ⟨U, ?_, .threw T.heap.size, hrun, hend, Or.inr ⟨T.heap.size, rfl, cls, ce, locs, hx U hWs.alike f1 (fun q hq => f2 q hq (fun z hz => nomatch hz)), hce, hO.vm, hcl, hWs, hall, hf⟩⟩
  refine st1 _ ?_
  show Steps p.tables e below (T1.setTop { method := m, pc := pc + 3, locals := ls, stack := .ref T.heap.size :: rest, locked := none }) _
  jvm_step X₁.here [X₁.here.top, hexec, d3', Value.category]
  exact X₁.ldcStringW hexec (own := own) (text := text) (index := is) (a := sa) hown' hstr'.1 hstr'.2
    (g := { method := m, pc := pc + 4, locals := ls, stack := .ref T.heap.size :: .ref T.heap.size :: rest, locked := none }) rfl d4' _ hsteps
end Ends
section Bodies
variable {l : Launch}
theorem vx_ofW {y : MethodName} {ws ws' : List Cond} {rm : Room} {Pc : Array Value → State → Prop} {Qc : Array Value → State → Outcome → State → Prop} {XC : String → State → State → Prop} {mc ms : Nat} {free : Addr → Prop} {cc : ByteArray} {maxL : Nat} {ret : Option FieldType}
    (hy : plainName y.cls = true) (hw : ws = Cond.code y cc maxL ret :: ws')
    (body : ∀ p e s m args below meth c s₁, BodyLoose p l y (headSpec ws rm) cc maxL ret e s m args below meth c s₁ → c.maxLocals = maxL → (∀ x ∈ c.exceptionTable.toList, False) → Pc args s →
      W p l e (headSpec ws rm).room s m args below meth c s.heap [] 0 0 (vx_MQ below Qc XC args s mc ms free) (entryFrame m args maxL)) : vx_Met l y ws rm Pc Qc XC mc ms free := by
  refine MetFree.of_bodyS (code := cc) (maxLocals := maxL) (ret := ret) hy ?_ ?_
  · intro args s m h hn
    obtain ⟨meth, c, h1, h2, h3, h4, h5, h6, -, -⟩ := Cond.code_spec hn (atoms_spec (ws := ws) h _ (by rw [hw]; exact List.mem_cons_self))
    exact ⟨meth, c, h1, h2, h3, h4, h5, h6⟩
  · intro p e s m args below meth c s₁ B hml hP _
    have hh0 : s₁.heap = s.heap := by rw [B.state]; rfl
    have ht : ∀ x ∈ c.exceptionTable.toList, False := by
      obtain ⟨meth9, c9, h1, h2, -, -, -, -, h7, -⟩ := Cond.code_spec B.named (atoms_spec (ws := ws) B.pre _ (by rw [hw]; exact List.mem_cons_self))
      cases Option.some.inj (h1.symm.trans B.method)
      cases Option.some.inj (h2.symm.trans (Stand.of_body B).code)
      intro x hx
      rw [Array.isEmpty_iff.mp h7] at hx
      cases hx
    obtain ⟨t, a1, o, b1, b2, b3⟩ := body p e s m args below meth c s₁ B hml ht hP s₁ hh0 (Stand.of_body B)
    exact ⟨t, o, a1, b1, b2, b3⟩
/-- the table of a body with handlers -/
theorem vx_table {p : Program} {x y : MethodName} {S : Spec} {cc bytes : ByteArray} {maxL maxL' : Nat} {ret ret' : Option FieldType} {e : Env} {s s₁ : State} {m : MethodId} {args : Array Value} {below : List Frame} {meth : Method} {c : Code} {hh : List (Nat × Nat × Nat × Nat)}
    (B : BodyLoose p l y S cc maxL ret e s m args below meth c s₁) (h : (Cond.codeWith y bytes maxL' ret' hh).before args s = true) : c.exceptionTable.toList = tableOf hh := by
  obtain ⟨m9, meth9, c9, hn9, h1, h2, -, -, h6, -⟩ := Cond.codeWith_spec h
  cases Option.some.inj (hn9.symm.trans B.named)
  cases Option.some.inj (h1.symm.trans B.method)
  cases Option.some.inj (h2.symm.trans (Stand.of_body B).code)
  rw [← h6, table_eq]
end Bodies
end VXA
/-! ===== END ===== -/
/-! ===== BEGIN a static call of a method with an exception table ===== -/
section VXS
variable {p : Program} {l : Launch} {e : Env} {R : Room} {s : State} {m : MethodId} {args : Array Value} {below : List Frame} {meth : Method} {c : Code} {T : State} {H : Heap} {locs : List Loc} {cells slots : Nat}
abbrev vx_CSW (R : Room) (s : State) (args : Array Value) (own : String) (index : Nat) (y : MethodName) (bytes : ByteArray) (maxL : Nat) (ret : Option FieldType) (hh : List (Nat × Nat × Nat × Nat)) (ws : List Cond) (rm : Room) (mc ms n : Nat) : Prop :=
  (rm.cells = mc ∧ rm.slots = ms ∧ rm.frames + 1 ≤ R.frames ∧ 8 + (maxL + 11) + rm.locals ≤ R.locals ∧ (∀ w ∈ ws, ∀ (a' : Array Value) (U : State), s.WarmedH U.vm → w.before a' U = true) ∧ Cond.codeWith y bytes maxL ret hh ∈ ws) ∧
  (Cond.codeWith y bytes maxL ret hh).before args s = true ∧ (Cond.initialized y.cls).before args s = true ∧ (y.cls ≠ "java/lang/invoke/MethodHandle" ∧ y.cls ≠ "java/lang/invoke/VarHandle") ∧
  (∀ sig, parseMethodDescriptor y.desc = some sig → n = sig.parameters.length) ∧ (Cond.methodLink own index y).before args s = true ∧ (Cond.static y).before args s = true
theorem vx_cwSW {own : String} {index maxL mc ms : Nat} {y : MethodName} {bytes : ByteArray} {ret : Option FieldType} {hh : List (Nat × Nat × Nat × Nat)} {Ts ws ws' : List Cond} {rm : Room} (n : Nat) (ht : ∀ w ∈ Ts, w.before args s = true) (hT : GoodIn Ts (va_wsS own index y ws)) (hw : ws = Cond.codeWith y bytes maxL ret hh :: ws') (hrc : rm.cells = mc) (hrs : rm.slots = ms)
    (hd : y.cls ≠ "java/lang/invoke/MethodHandle" ∧ y.cls ≠ "java/lang/invoke/VarHandle" ∧ (parseMethodDescriptor y.desc).map (fun d => d.parameters.length) = some n) (hR : rm.frames + 1 ≤ R.frames ∧ 8 + (maxL + 11) + rm.locals ≤ R.locals) :
    vx_CSW R s args own index y bytes maxL ret hh ws rm mc ms n := by
  have ok : ∀ w ∈ va_wsS own index y ws, w.before args s = true := fun w h => ht w (hT w h).1
  have hG : GoodIn Ts ws := fun w h => hT w (by unfold va_wsS; exact List.mem_append_right _ h)
  have hc : Cond.codeWith y bytes maxL ret hh ∈ ws := by rw [hw]; exact List.mem_cons_self
  refine ⟨⟨hrc, hrs, hR.1, hR.2, pay_in ht hG, hc⟩, ht _ (hG _ hc).1, ok _ (by simp [va_wsS]), ⟨hd.1, hd.2.1⟩, fun sig h => ?_, ok _ (by simp [va_wsS]), ok _ (by simp [va_wsS])⟩
  have h2 := hd.2.2
  rw [h] at h2
  exact (Option.some.inj h2).symm
theorem vx_callSW (X : Stand p l e R s m args below meth c T locs cells slots) (hexec : p.tables.exec = Jvm.exec) {own : String} {index : Nat} {y : MethodName} {bytes : ByteArray} {maxL : Nat} {ret : Option FieldType} {hh : List (Nat × Nat × Nat × Nat)}
    (hown : s.vm.findClass own = some m.cls) (hlink : (Cond.methodLink own index y).before args s = true) (hstat : (Cond.static y).before args s = true) (hinit : (Cond.initialized y.cls).before args s = true)
    (hcode : (Cond.codeWith y bytes maxL ret hh).before args s = true) (hy : y.cls ≠ "java/lang/invoke/MethodHandle" ∧ y.cls ≠ "java/lang/invoke/VarHandle")
    {W9 : Nat} {Pre : Pt → Array Value → Prop} {Post : Pt → Array Value → Option Value → Pt → Prop} (hK : Back l R p e below s args y 3 W9 Pre Post)
    {g : JFrame} (hg : g.method = m) (hsize : g.locals.size = c.maxLocals) {argsL rest : List Value} (hlen : ∀ sig, parseMethodDescriptor y.desc = some sig → argsL.length = sig.parameters.length)
    (hstack : g.stack = argsL.reverse ++ rest) (hW : 2 * g.monitorRoom + (rest.map fun v => v.category).sum ≤ W9) (hdg : decode c.code g.pc = .ok (.invokestatic index, 3))
    (hpre : ∀ vm₁, s.WarmedH vm₁ → Pre ⟨T.setVm vm₁, locs, cells, slots⟩ argsL.toArray) :
    ∃ (v : Option Value) (vm₁ : Vm) (B : Pt), s.WarmedH vm₁ ∧ Stand p l e R s m args below meth c B.U B.locs B.cells B.slots ∧ Post ⟨T.setVm vm₁, locs, cells, slots⟩ argsL.toArray v B ∧
      ∀ target, Steps p.tables e below (B.U.setTop { g with pc := g.pc + 3, stack := v.toList ++ rest }) target → Steps p.tables e below (T.setTop g) target := by
  obtain ⟨mk, methM, cM, hnamed, hmethM, -, -, -, -, -, -, hsigM⟩ := Cond.codeWith_spec hcode
  have hstatic : methM.isStatic = true := Cond.static_spec hnamed hmethM hstat
  obtain ⟨kP, hkP, -⟩ := className_of_methodNamed hnamed
  have hinitP : kP.init = .initialized := Cond.initialized_spec (findClass_of_methodNamed hnamed) hkP hinit
  obtain ⟨vm₁, X₁, hstep₁⟩ := X.invokestatic hexec hown hlink hnamed hmethM hstatic hkP hinitP hy (g := g) hg (argsL := argsL) (rest := rest) (hlen _ hsigM) hstack hdg
  obtain ⟨v, B, X', hpost, hsteps⟩ := hK m meth c ⟨T.setVm vm₁, locs, cells, slots⟩ { g with stack := rest } (.invokestatic index) mk argsL.toArray X₁ hg hsize hdg hW (X₁.named hnamed) (hpre vm₁ X₁.warmed)
  exact ⟨v, vm₁, B, X₁.warmed, X', hpost, fun target h => hstep₁ _ fun acts => by rw [doInvoke_state]; exact hsteps.trans h⟩
theorem vx_runSW {y : MethodName} {bytes cc : ByteArray} {maxL nL mc ms n index : Nat} {ret : Option FieldType} {hh : List (Nat × Nat × Nat × Nat)} {ws : List Cond} {rm : Room} {Pc : Array Value → State → Prop} {Qc : Array Value → State → Outcome → State → Prop} {free : Addr → Prop} {Ts : List Cond} {own : String} {As rest : List Value} {g : JFrame}
    (S : CallFix p m c cc nL s args Ts own) (hM : Met l y ws rm Pc Qc mc ms free) (cw : vx_CSW R s args own index y bytes maxL ret hh ws rm mc ms n) (hp : PreS s H Pc As)
    (hg : g.method = m) (hn : As.length = n) (hsize : g.locals.size = nL) (hstack : g.stack = As.reverse ++ rest) (hW : 2 * g.monitorRoom + (rest.map fun v => v.category).sum ≤ 8) (hdg : decode cc g.pc = .ok (.invokestatic index, 3)) (hf : cells + mc ≤ R.cells ∧ slots + ms ≤ R.slots) :
    va_Run p l e R s m args below meth c H locs cells slots mc ms g rest (Qc As.toArray) (free) := by
  obtain ⟨⟨hrc, hrs, hfr, hlo, hws, hcw⟩, hcode, hini, hy, hlen, hl, hstt⟩ := cw
  have hK : Back l R p e below s args y 3 8 (PreOf R mc ms Pc) (PostOf Qc mc ms free) := va_backW (hh := hh) (bytes := bytes) (maxL := maxL) (ret := ret) hM hp.1 hrc hrs hfr hlo hws hcw (fun a' U hW => word_at hW (Or.inl (by first | rfl | simp [Cond.onTables, Cond.keeps, Cond.steady])) hini)
  obtain ⟨hx, hb, hml, ho, -⟩ := S
  intro T hT X
  obtain ⟨v, vm₁, ⟨U', l2, c2, s2⟩, hW₁, X', ⟨g', mk, t, L, e1, e2, hq, h1, hL, h2, h3⟩, st⟩ := vx_callSW X hx (hh := hh) (bytes := bytes) (maxL := maxL) (ret := ret) ho hl hstt hini hcode hy hK hg (hsize.trans hml.symm) (argsL := As) (rest := rest) (fun sig h => hn.trans (hlen sig h)) hstack hW (by rw [hb]; exact hdg)
    (fun vm₁ hW₁ => ⟨hf.1, hf.2, hp.2 (T.setVm vm₁) hT hW₁⟩)
  dsimp only [Pt.U, Pt.locs, Pt.cells, Pt.slots] at X' e1 e2 h1 h2 h3 st
  subst h1; subst h2; subst h3
  exact ⟨v, (T.setVm vm₁).calling g' mk As.toArray, t, U', L, hT, X', hL, e1, e2, hq, st⟩
/-- not caught here, past rows that name other classes: it goes on to the caller -/
theorem vx_outP {p : Program} {l : Launch} {e : Env} {R : Room} {s : State} {m : MethodId} {args : Array Value} {below : List Frame} {meth : Method} {c : Code} {H : Heap} {locs : List Loc} {cells slots : Nat} {free : Addr → Prop} {ls : Array Slot} {rest : List Value} {Qc : Array Value → State → Outcome → State → Prop} {XC : String → State → State → Prop}
    {pc : Nat} {own E : String} {ce : Cell} {q : Addr} {mc ms : Nat} (hown : s.vm.findClass own = some m.cls) (hlocks : meth.locks = false)
    (hpass : ∀ z ∈ c.exceptionTable.toList, covers z pc = false ∨ (z.catchType ≠ 0 ∧ ∃ nm : String, (Cond.classLink own z.catchType nm).before args s = true ∧ va_Nc E nm s)) (hcell : H[q]? = some ce) (hv : ce.vm = .none) (hcl : s.vm.findClass E = some ce.cls)
    (hx : ∀ t : State, t.heap = H → s.vm.Alike t.vm → XC E s t) (hf : ∀ z ∈ locs, free z.base) (hc : cells ≤ mc) (hs : slots ≤ ms) :
    vx_W p l e R s m args below meth c H locs cells slots (vx_MQ below Qc XC args s mc ms free) (F0 m pc ls rest) q := by
  intro T hT X
  have hpl : e.platform.magicAccessors = ({} : Platform).magicAccessors := by rw [X.admits.platform]
  obtain ⟨vm', hW', X', st⟩ := X.outThrough hlocks q (g := F0 m pc ls rest) rfl rfl rfl (cell := ce) (by rw [hT]; exact hcell) (by rw [hv]; rfl)
    (by obtain ⟨k9, h9, -⟩ := Vm.findClass_spec hcl; exact ⟨k9, h9⟩) (fun z hz => by
      rcases hpass z hz with h | ⟨hz0, nm, hl1, hn1⟩
      · exact Or.inl h
      · obtain ⟨c6, hc6, hcl6⟩ := Cond.classLink_spec hown hl1 e.platform hpl
        obtain ⟨a8, b8, h1, h2, h3⟩ := hn1
        cases Option.some.inj (h1.symm.trans hcl)
        cases Option.some.inj (h2.symm.trans hc6)
        exact Or.inr ⟨hz0, _, hcl6, h3⟩)
  obtain ⟨g₀, hfr⟩ := X'.frames_eq
  have hcell9 : ((T.setVm vm').setFrames (.throwing q :: below)).heap[q]? = some ce := by
    show T.heap[q]? = some ce
    rw [hT]; exact hcell
  have hend : Ended ((T.setVm vm').setFrames (.throwing q :: below)) below (.threw q) := State.frames_setFrames _ (State.cur_lt_of_frames hfr)
  refine ⟨(T.setVm vm').setFrames (.throwing q :: below), ?_, .threw q, X'.here.running, hend, Or.inr ⟨q, rfl, E, ce, locs, hx _ hT (X'.ends _).1.alike, hcell9, hv, hcl, (X'.ends _).1, (X'.ends _).2.mono hc hs, hf⟩⟩
  rw [X.pushThrowing_eq]
  exact st
/-- a thing of a world lies in the heap -/
theorem vx_lt {D : va_G} {cl : List vw_C} {ws : va_W} {H1 : Heap} (h : va_P D cl ws H1) {k : Nat} {q : Nat × va_E} (hk : ws[k]? = some q) : q.1 < H1.size := (h k q hk).lt
end VXS
/-! ===== END ===== -/
/-! ===== BEGIN methods with a table of their own: called by a name, returning or throwing ===== -/
section VXH
/-! vx_backW, vx_callVX, vx_callSX, vx_callVW, vx_runVW, vx_runVX, vx_runSX, vx_ofWH follow the same proofs as their sisters above (Free/Laws.lean, Shelf42/LK1.lean); vx_outP calls Shelf42/NT130.lean (outThrough). -/
section
variable {l : Launch} {R : Room} {p : Program} {e : Env} {below : List Frame} {s : State} {sargs : Array Value} {y : MethodName} {len W9 : Nat}
theorem vx_backW {ws : List Cond} {rm : Room} {Pc : Array Value → State → Prop} {Qc : Array Value → State → Outcome → State → Prop} {XC : String → State → State → Prop} {mc ms : Nat} {free : Addr → Prop} {bytes : ByteArray} {maxL : Nat} {ret : Option FieldType} {hh : List (Nat × Nat × Nat × Nat)}
    (hM : vx_Met l y ws rm Pc Qc XC mc ms free) (hblind : FrameBlind Pc) (hrc : rm.cells = mc) (hrs : rm.slots = ms)
    (hframes : rm.frames + 1 ≤ R.frames) (hlocals : W9 + (maxL + 11) + rm.locals ≤ R.locals)
    (hws : ∀ w ∈ ws, ∀ a' U, s.WarmedH U.vm → w.before a' U = true) (hcode : Cond.codeWith y bytes maxL ret hh ∈ ws) (hinit : ∀ a' U, s.WarmedH U.vm → (Cond.initialized y.cls).before a' U = true) :
    vx_Back l R p e below s sargs y len W9 (PreOf R mc ms Pc) (PostOf Qc mc ms free) (vx_Post XC mc ms free) := by
  intro m meth c A g ig mk a X hg hsize hdg hW hn hp
  have h1 : (headSpec ws rm).pre.before a A.U = true := atoms_intro fun w hw => hws w hw _ _ X.warmed
  have h2 : (Cond.codeWith y bytes maxL ret hh).before a A.U = true := hws _ hcode _ _ X.warmed
  have h3 : (Cond.initialized y.cls).before a A.U = true := hinit _ _ X.warmed
  have h4 : A.cells + (headSpec ws rm).room.cells ≤ R.cells := by rw [show (headSpec ws rm).room.cells = mc from hrc]; exact hp.1
  have h5 : A.slots + (headSpec ws rm).room.slots ≤ R.slots := by rw [show (headSpec ws rm).room.slots = ms from hrs]; exact hp.2.1
  have hPc : Pc a (A.U.calling g mk a) := hblind _ _ _ _ hp.2.2
  obtain ⟨U, Ls, c0, s0⟩ := A
  dsimp only [Pt.U, Pt.locs, Pt.cells, Pt.slots] at h1 h2 h3 h4 h5 X hn hPc ⊢
  obtain ⟨m9, methY, cY, hn9, hmY, hcY, -, hlY, -⟩ := Cond.codeWith_spec h2
  cases Option.some.inj (hn9.symm.trans hn)
  obtain ⟨kY, hkY, -⟩ := className_of_methodNamed hn
  have hinitY : kY.init = .initialized := Cond.initialized_spec (findClass_of_methodNamed hn) hkY h3
  have h : At U g.method c below := by rw [hg]; exact X.here
  have hlocals9 : W9 + (maxL + 11) + (headSpec ws rm).room.locals ≤ R.locals := hlocals
  have happ : (headSpec ws rm).appliesLoose y e.platform (U.calling g mk a) = true :=
    Spec.appliesLoose_calling (g := g) h hdg hn hkY hinitY
      (X.room_calling (g := g) (R' := (headSpec ws rm).room) hsize hmY hcY hframes (by rw [hlY]; omega) h4 h5) h1
  obtain ⟨mid, hmid⟩ := h.above
  have hfr : (U.setTop g).frames = (.java g :: mid) ++ below := by rw [State.frames_setTop' g h.top, hmid]; rfl
  obtain ⟨o, s₂, hsteps, -, hend, hq⟩ := Steps.callFree hM p X.admits X.cas X.clock (acts := []) hfr happ hPc trivial
  have hq' : vx_Q Qc XC mc ms free a (U.calling g mk a) o s₂ := hq
  rw [State.frames_setTop' g h.top] at hend
  obtain ⟨g₀, hg0⟩ := Option.isSome_iff_exists.mp h.top
  obtain ⟨r, hr⟩ := State.topJava?_eq_some.mp hg0
  have hr' : (({ U with heap := s₂.heap, slotsUsed := s₂.slotsUsed } : State).setVm s₂.vm).frames = .java g₀ :: r := hr
  rcases hq' with ⟨hqc, L, hfe, hL⟩ | ⟨q, rfl, E, ce, L, hx, hce, hcv, hcl, hW₂, hsm, hL⟩
  · obtain ⟨⟨v, rfl⟩, hW₂, e2, q2, q3, q4, q5, q6⟩ := id hfe
    have e3 : s₂ = ({ (U.calling g mk a).setFrames s₂.frames with heap := s₂.heap, slotsUsed := s₂.slotsUsed } : State).setVm s₂.vm := by
      have : s₂ = ({ s₂ with vm := (U.calling g mk a).vm } : State).setVm s₂.vm := rfl
      rw [e2] at this
      exact this
    obtain ⟨c₂, i₂, len₂, hc₂, hd₂, hf₂⟩ := hend
    have hW' : U.WarmedH s₂.vm := hW₂
    have hcc : c₂ = c := by
      have h1 : s₂.code? g.method = U.code? g.method := by
        rw [State.code?_eq, State.code?_eq, hW'.alike.method?]
      exact Option.some.inj (hc₂.symm.trans (h1.trans h.code))
    subst hcc
    have hlen : len₂ = len := by rw [hdg] at hd₂; cases hd₂; rfl
    subst hlen
    have hs₂ : s₂ = (({ U with heap := s₂.heap, slotsUsed := s₂.slotsUsed } : State).setVm s₂.vm).setTop { g with pc := g.pc + len₂, stack := v.toList ++ g.stack } := by
      refine e3.trans ?_
      rw [hf₂, State.calling_eq h.top, State.setFrames_setFrames, State.setTop_of_frames _ hr', hr]
      rfl
    have hsame : U.sameButNew ({ U with heap := s₂.heap, slotsUsed := s₂.slotsUsed } : State) L mc ms := by
      refine ⟨?_, q2, q3, q4, q5, q6⟩
      obtain ⟨t, ht, -⟩ := State.frames_cons hr
      show ({ U with heap := s₂.heap, slotsUsed := s₂.slotsUsed } : State) = { U.setFrames U.frames with heap := s₂.heap, slotsUsed := s₂.slotsUsed }
      rw [State.setFrames_self ht]
    subst hg
    refine Or.inl ⟨v, ⟨(({ U with heap := s₂.heap, slotsUsed := s₂.slotsUsed } : State).setVm s₂.vm), Ls ++ L, c0 + mc, s0 + ms⟩,
      ⟨X.admits, X.cas, X.clock, X.frames, X.room, X.hears, X.method, X.code, (X.here.setHeapUsed s₂.heap s₂.slotsUsed).setVm hW'.alike, X.tail, State.WarmedH.trans X.warmed hW', X.limits, X.bytes, X.same.trans (hsame.setVm s.vm)⟩,
      ⟨g, mk, s₂, L, rfl, rfl, hqc, rfl, hL, rfl, rfl⟩, ?_⟩
    show Steps p.tables e below _ ((({ U with heap := s₂.heap, slotsUsed := s₂.slotsUsed } : State).setVm s₂.vm).setTop { g with pc := g.pc + len₂, stack := v.toList ++ g.stack })
    rw [← hs₂]
    exact hsteps
  · obtain ⟨e2, q2, q3, q4, q5, q6⟩ := id hsm
    have e3 : s₂ = ({ (U.calling g mk a).setFrames s₂.frames with heap := s₂.heap, slotsUsed := s₂.slotsUsed } : State).setVm s₂.vm := by
      have : s₂ = ({ s₂ with vm := (U.calling g mk a).vm } : State).setVm s₂.vm := rfl
      rw [e2] at this
      exact this
    have hf₂ : s₂.frames = .throwing q :: .java g :: U.frames.tail := hend
    have hW' : U.WarmedH s₂.vm := hW₂
    have hs₂ : s₂ = ((({ U with heap := s₂.heap, slotsUsed := s₂.slotsUsed } : State).setVm s₂.vm).setTop g).pushFrame (.throwing q) := by
      refine e3.trans ?_
      rw [hf₂, State.calling_eq h.top, State.setFrames_setFrames, State.pushFrame, State.frames_setTop _ hr', State.setTop_of_frames _ hr', State.setFrames_setFrames, hr]
      rfl
    have hsame : U.sameButNew ({ U with heap := s₂.heap, slotsUsed := s₂.slotsUsed } : State) L mc ms := by
      refine ⟨?_, q2, q3, q4, q5, q6⟩
      obtain ⟨t, ht, -⟩ := State.frames_cons hr
      show ({ U with heap := s₂.heap, slotsUsed := s₂.slotsUsed } : State) = { U.setFrames U.frames with heap := s₂.heap, slotsUsed := s₂.slotsUsed }
      rw [State.setFrames_self ht]
    subst hg
    refine Or.inr ⟨q, ⟨(({ U with heap := s₂.heap, slotsUsed := s₂.slotsUsed } : State).setVm s₂.vm), Ls ++ L, c0 + mc, s0 + ms⟩,
      ⟨X.admits, X.cas, X.clock, X.frames, X.room, X.hears, X.method, X.code, (X.here.setHeapUsed s₂.heap s₂.slotsUsed).setVm hW'.alike, X.tail, State.WarmedH.trans X.warmed hW', X.limits, X.bytes, X.same.trans (hsame.setVm s.vm)⟩,
      ⟨g, mk, s₂, L, E, ce, rfl, rfl, hx, hce, hcv, hcl, rfl, hL, rfl, rfl⟩, ?_⟩
    show Steps p.tables e below _ (((({ U with heap := s₂.heap, slotsUsed := s₂.slotsUsed } : State).setVm s₂.vm).setTop g).pushFrame (.throwing q))
    rw [← hs₂]
    exact hsteps
end
variable {p : Program} {l : Launch} {e : Env} {R : Room} {s : State} {m : MethodId} {args : Array Value} {below : List Frame} {meth : Method} {c : Code} {T : State} {H : Heap} {locs : List Loc} {cells slots : Nat}
theorem vx_callVX (X : Stand p l e R s m args below meth c T locs cells slots) (hexec : p.tables.exec = Jvm.exec) {own C : String} {index : Nat} {y : MethodName} {bytes : ByteArray} {maxL : Nat} {ret : Option FieldType} {hh : List (Nat × Nat × Nat × Nat)}
    (hown : s.vm.findClass own = some m.cls) (hlink : (Cond.methodLink own index y).before args s = true) (hinst : (Cond.instanceMethod y).before args s = true) (hsel : (Cond.selects C y y).before args s = true)
    (hcode : (Cond.codeWith y bytes maxL ret hh).before args s = true) (hy : y.cls ≠ "java/lang/invoke/MethodHandle" ∧ y.cls ≠ "java/lang/invoke/VarHandle")
    {W9 : Nat} {Pre : Pt → Array Value → Prop} {Post : Pt → Array Value → Option Value → Pt → Prop} {PostX : Pt → Array Value → Addr → Pt → Prop} (hK : vx_Back l R p e below s args y 3 W9 Pre Post PostX)
    {b : Addr} {cellB : Cell} (hcell : T.heap[b]? = some cellB) (hobj : cellB.vm.isStatics = false) (hcls : s.vm.findClass C = some cellB.cls)
    {g : JFrame} (hg : g.method = m) (hsize : g.locals.size = c.maxLocals) {argsL rest : List Value} (hlen : ∀ sig, parseMethodDescriptor y.desc = some sig → argsL.length = sig.parameters.length)
    (hstack : g.stack = argsL.reverse ++ .ref b :: rest) (hW : 2 * g.monitorRoom + (rest.map fun v => v.category).sum ≤ W9) (hdg : decode c.code g.pc = .ok (.invokevirtual index, 3))
    (hpre : ∀ vm₁, s.WarmedH vm₁ → Pre ⟨T.setVm vm₁, locs, cells, slots⟩ (Value.ref b :: argsL).toArray) :
    (∃ (v : Option Value) (vm₁ : Vm) (B : Pt), s.WarmedH vm₁ ∧ Stand p l e R s m args below meth c B.U B.locs B.cells B.slots ∧ Post ⟨T.setVm vm₁, locs, cells, slots⟩ (Value.ref b :: argsL).toArray v B ∧
      ∀ target, Steps p.tables e below (B.U.setTop { g with pc := g.pc + 3, stack := v.toList ++ rest }) target → Steps p.tables e below (T.setTop g) target) ∨
    (∃ (q : Addr) (vm₁ : Vm) (B : Pt), s.WarmedH vm₁ ∧ Stand p l e R s m args below meth c B.U B.locs B.cells B.slots ∧ PostX ⟨T.setVm vm₁, locs, cells, slots⟩ (Value.ref b :: argsL).toArray q B ∧
      Steps p.tables e below (T.setTop g) ((B.U.setTop { g with stack := rest }).pushFrame (.throwing q))) := by
  obtain ⟨mk, methM, hnamed, hmethM, hstM, habM⟩ := Cond.instanceMethod_spec hinst
  obtain ⟨m8, methM', cM, hn8, hmethM', -, -, -, -, -, -, hsigM⟩ := Cond.codeWith_spec hcode
  cases Option.some.inj (hn8.symm.trans hnamed)
  cases hmethM.symm.trans hmethM'
  obtain ⟨c2, r2, m2, q1, q2, q3, q4, kP, hkP, hkPi⟩ := Cond.selects_spec hsel
  cases hcls.symm.trans q1
  cases (State.methodFound?_of_named hnamed hy).symm.trans q2
  cases hnamed.symm.trans q3
  have hselP : selectMethod e.platform s.vm cellB.cls mk = .method mk := by rw [Launch.admits_selectMethod X.admits]; exact q4
  obtain ⟨vm₁, X₁, hstep₁⟩ := X.invokevirtual hexec hown hlink hnamed hmethM hstM hkP hkPi hy (a := b) (cell := cellB) hcell
    (fun z h => by rw [h] at hobj; cases hobj) hselP hmethM habM hkP hkPi (g := g) hg (argsL := argsL) (rest := rest) (hlen _ hsigM) hstack hdg
  rcases hK m meth c ⟨T.setVm vm₁, locs, cells, slots⟩ { g with stack := rest } (.invokevirtual index) mk (Value.ref b :: argsL).toArray X₁ hg hsize hdg hW (X₁.named hnamed) (hpre vm₁ X₁.warmed) with ⟨v, B, X', hpost, hsteps⟩ | ⟨q, B, X', hpost, hsteps⟩
  · exact Or.inl ⟨v, vm₁, B, X₁.warmed, X', hpost, fun target h => hstep₁ _ fun acts => by rw [doInvoke_state]; exact hsteps.trans h⟩
  · exact Or.inr ⟨q, vm₁, B, X₁.warmed, X', hpost, hstep₁ _ fun acts => by rw [doInvoke_state]; exact hsteps⟩
theorem vx_callSX (X : Stand p l e R s m args below meth c T locs cells slots) (hexec : p.tables.exec = Jvm.exec) {own : String} {index : Nat} {y : MethodName} {bytes : ByteArray} {maxL : Nat} {ret : Option FieldType} {hh : List (Nat × Nat × Nat × Nat)}
    (hown : s.vm.findClass own = some m.cls) (hlink : (Cond.methodLink own index y).before args s = true) (hstat : (Cond.static y).before args s = true) (hinit : (Cond.initialized y.cls).before args s = true)
    (hcode : (Cond.codeWith y bytes maxL ret hh).before args s = true) (hy : y.cls ≠ "java/lang/invoke/MethodHandle" ∧ y.cls ≠ "java/lang/invoke/VarHandle")
    {W9 : Nat} {Pre : Pt → Array Value → Prop} {Post : Pt → Array Value → Option Value → Pt → Prop} {PostX : Pt → Array Value → Addr → Pt → Prop} (hK : vx_Back l R p e below s args y 3 W9 Pre Post PostX)
    {g : JFrame} (hg : g.method = m) (hsize : g.locals.size = c.maxLocals) {argsL rest : List Value} (hlen : ∀ sig, parseMethodDescriptor y.desc = some sig → argsL.length = sig.parameters.length)
    (hstack : g.stack = argsL.reverse ++ rest) (hW : 2 * g.monitorRoom + (rest.map fun v => v.category).sum ≤ W9) (hdg : decode c.code g.pc = .ok (.invokestatic index, 3))
    (hpre : ∀ vm₁, s.WarmedH vm₁ → Pre ⟨T.setVm vm₁, locs, cells, slots⟩ argsL.toArray) :
    (∃ (v : Option Value) (vm₁ : Vm) (B : Pt), s.WarmedH vm₁ ∧ Stand p l e R s m args below meth c B.U B.locs B.cells B.slots ∧ Post ⟨T.setVm vm₁, locs, cells, slots⟩ argsL.toArray v B ∧
      ∀ target, Steps p.tables e below (B.U.setTop { g with pc := g.pc + 3, stack := v.toList ++ rest }) target → Steps p.tables e below (T.setTop g) target) ∨
    (∃ (q : Addr) (vm₁ : Vm) (B : Pt), s.WarmedH vm₁ ∧ Stand p l e R s m args below meth c B.U B.locs B.cells B.slots ∧ PostX ⟨T.setVm vm₁, locs, cells, slots⟩ argsL.toArray q B ∧
      Steps p.tables e below (T.setTop g) ((B.U.setTop { g with stack := rest }).pushFrame (.throwing q))) := by
  obtain ⟨mk, methM, cM, hnamed, hmethM, -, -, -, -, -, -, hsigM⟩ := Cond.codeWith_spec hcode
  have hstatic : methM.isStatic = true := Cond.static_spec hnamed hmethM hstat
  obtain ⟨kP, hkP, -⟩ := className_of_methodNamed hnamed
  have hinitP : kP.init = .initialized := Cond.initialized_spec (findClass_of_methodNamed hnamed) hkP hinit
  obtain ⟨vm₁, X₁, hstep₁⟩ := X.invokestatic hexec hown hlink hnamed hmethM hstatic hkP hinitP hy (g := g) hg (argsL := argsL) (rest := rest) (hlen _ hsigM) hstack hdg
  rcases hK m meth c ⟨T.setVm vm₁, locs, cells, slots⟩ { g with stack := rest } (.invokestatic index) mk argsL.toArray X₁ hg hsize hdg hW (X₁.named hnamed) (hpre vm₁ X₁.warmed) with ⟨v, B, X', hpost, hsteps⟩ | ⟨q, B, X', hpost, hsteps⟩
  · exact Or.inl ⟨v, vm₁, B, X₁.warmed, X', hpost, fun target h => hstep₁ _ fun acts => by rw [doInvoke_state]; exact hsteps.trans h⟩
  · exact Or.inr ⟨q, vm₁, B, X₁.warmed, X', hpost, hstep₁ _ fun acts => by rw [doInvoke_state]; exact hsteps⟩
theorem vx_callVW (X : Stand p l e R s m args below meth c T locs cells slots) (hexec : p.tables.exec = Jvm.exec) {own C : String} {index : Nat} {y : MethodName} {bytes : ByteArray} {maxL : Nat} {ret : Option FieldType} {hh : List (Nat × Nat × Nat × Nat)}
    (hown : s.vm.findClass own = some m.cls) (hlink : (Cond.methodLink own index y).before args s = true) (hinst : (Cond.instanceMethod y).before args s = true) (hsel : (Cond.selects C y y).before args s = true)
    (hcode : (Cond.codeWith y bytes maxL ret hh).before args s = true) (hy : y.cls ≠ "java/lang/invoke/MethodHandle" ∧ y.cls ≠ "java/lang/invoke/VarHandle")
    {W9 : Nat} {Pre : Pt → Array Value → Prop} {Post : Pt → Array Value → Option Value → Pt → Prop} (hK : Back l R p e below s args y 3 W9 Pre Post)
    {b : Addr} {cellB : Cell} (hcell : T.heap[b]? = some cellB) (hobj : cellB.vm.isStatics = false) (hcls : s.vm.findClass C = some cellB.cls)
    {g : JFrame} (hg : g.method = m) (hsize : g.locals.size = c.maxLocals) {argsL rest : List Value} (hlen : ∀ sig, parseMethodDescriptor y.desc = some sig → argsL.length = sig.parameters.length)
    (hstack : g.stack = argsL.reverse ++ .ref b :: rest) (hW : 2 * g.monitorRoom + (rest.map fun v => v.category).sum ≤ W9) (hdg : decode c.code g.pc = .ok (.invokevirtual index, 3))
    (hpre : ∀ vm₁, s.WarmedH vm₁ → Pre ⟨T.setVm vm₁, locs, cells, slots⟩ (Value.ref b :: argsL).toArray) :
    ∃ (v : Option Value) (vm₁ : Vm) (B : Pt), s.WarmedH vm₁ ∧ Stand p l e R s m args below meth c B.U B.locs B.cells B.slots ∧ Post ⟨T.setVm vm₁, locs, cells, slots⟩ (Value.ref b :: argsL).toArray v B ∧
      ∀ target, Steps p.tables e below (B.U.setTop { g with pc := g.pc + 3, stack := v.toList ++ rest }) target → Steps p.tables e below (T.setTop g) target := by
  obtain ⟨mk, methM, hnamed, hmethM, hstM, habM⟩ := Cond.instanceMethod_spec hinst
  obtain ⟨m8, methM', cM, hn8, hmethM', -, -, -, -, -, -, hsigM⟩ := Cond.codeWith_spec hcode
  cases Option.some.inj (hn8.symm.trans hnamed)
  cases hmethM.symm.trans hmethM'
  obtain ⟨c2, r2, m2, q1, q2, q3, q4, kP, hkP, hkPi⟩ := Cond.selects_spec hsel
  cases hcls.symm.trans q1
  cases (State.methodFound?_of_named hnamed hy).symm.trans q2
  cases hnamed.symm.trans q3
  have hselP : selectMethod e.platform s.vm cellB.cls mk = .method mk := by rw [Launch.admits_selectMethod X.admits]; exact q4
  obtain ⟨vm₁, X₁, hstep₁⟩ := X.invokevirtual hexec hown hlink hnamed hmethM hstM hkP hkPi hy (a := b) (cell := cellB) hcell
    (fun z h => by rw [h] at hobj; cases hobj) hselP hmethM habM hkP hkPi (g := g) hg (argsL := argsL) (rest := rest) (hlen _ hsigM) hstack hdg
  obtain ⟨v, B, X', hpost, hsteps⟩ := hK m meth c ⟨T.setVm vm₁, locs, cells, slots⟩ { g with stack := rest } (.invokevirtual index) mk (Value.ref b :: argsL).toArray X₁ hg hsize hdg hW (X₁.named hnamed) (hpre vm₁ X₁.warmed)
  exact ⟨v, vm₁, B, X₁.warmed, X', hpost, fun target h => hstep₁ _ fun acts => by rw [doInvoke_state]; exact hsteps.trans h⟩
abbrev vx_CVW (R : Room) (s : State) (args : Array Value) (own C : String) (index : Nat) (y : MethodName) (bytes : ByteArray) (maxL : Nat) (ret : Option FieldType) (hh : List (Nat × Nat × Nat × Nat)) (ws : List Cond) (rm : Room) (mc ms n : Nat) : Prop :=
  (rm.cells = mc ∧ rm.slots = ms ∧ rm.frames + 1 ≤ R.frames ∧ 8 + (maxL + 11) + rm.locals ≤ R.locals ∧ (∀ w ∈ ws, ∀ (a' : Array Value) (U : State), s.WarmedH U.vm → w.before a' U = true) ∧ Cond.codeWith y bytes maxL ret hh ∈ ws) ∧
  (Cond.codeWith y bytes maxL ret hh).before args s = true ∧ (Cond.initialized y.cls).before args s = true ∧ (y.cls ≠ "java/lang/invoke/MethodHandle" ∧ y.cls ≠ "java/lang/invoke/VarHandle") ∧
  (∀ sig, parseMethodDescriptor y.desc = some sig → n = sig.parameters.length) ∧ (Cond.methodLink own index y).before args s = true ∧ (Cond.instanceMethod y).before args s = true ∧ (Cond.selects C y y).before args s = true
theorem vx_cwVW {own C : String} {index maxL mc ms : Nat} {y : MethodName} {bytes : ByteArray} {ret : Option FieldType} {hh : List (Nat × Nat × Nat × Nat)} {Ts ws ws' : List Cond} {rm : Room} (n : Nat) (ht : ∀ w ∈ Ts, w.before args s = true) (hT : GoodIn Ts (wsV own index C y ws)) (hw : ws = Cond.codeWith y bytes maxL ret hh :: ws') (hrc : rm.cells = mc) (hrs : rm.slots = ms)
    (hd : y.cls = C ∧ y.cls ≠ "java/lang/invoke/MethodHandle" ∧ y.cls ≠ "java/lang/invoke/VarHandle" ∧ (parseMethodDescriptor y.desc).map (fun d => d.parameters.length) = some n) (hR : rm.frames + 1 ≤ R.frames ∧ 8 + (maxL + 11) + rm.locals ≤ R.locals) :
    vx_CVW R s args own C index y bytes maxL ret hh ws rm mc ms n := by
  obtain ⟨hC, hd⟩ := hd
  subst hC
  have ok : ∀ w ∈ wsV own index y.cls y ws, w.before args s = true := fun w h => ht w (hT w h).1
  have hG : GoodIn Ts ws := fun w h => hT w (by unfold wsV; exact List.mem_append_right _ h)
  have hc : Cond.codeWith y bytes maxL ret hh ∈ ws := by rw [hw]; exact List.mem_cons_self
  refine ⟨⟨hrc, hrs, hR.1, hR.2, pay_in ht hG, hc⟩, ht _ (hG _ hc).1, ok _ (by simp [wsV]), ⟨hd.1, hd.2.1⟩, fun sig h => ?_, ok _ (by simp [wsV]), ok _ (by simp [wsV]), ok _ (by simp [wsV])⟩
  have h2 := hd.2.2
  rw [h] at h2
  exact (Option.some.inj h2).symm
theorem vx_runVW {y : MethodName} {bytes cc : ByteArray} {maxL nL mc ms n index : Nat} {ret : Option FieldType} {hh : List (Nat × Nat × Nat × Nat)} {ws : List Cond} {rm : Room} {Pc : Array Value → State → Prop} {Qc : Array Value → State → Outcome → State → Prop} {free : Addr → Prop} {Ts : List Cond} {own C : String} {b : Addr} {As rest : List Value} {g : JFrame}
    (S : CallFix p m c cc nL s args Ts own) (hM : Met l y ws rm Pc Qc mc ms free) (cw : vx_CVW R s args own C index y bytes maxL ret hh ws rm mc ms n) (hp : PreV s H C b Pc As)
    (hg : g.method = m) (hn : As.length = n) (hsize : g.locals.size = nL) (hstack : g.stack = As.reverse ++ .ref b :: rest) (hW : 2 * g.monitorRoom + (rest.map fun v => v.category).sum ≤ 8) (hdg : decode cc g.pc = .ok (.invokevirtual index, 3)) (hf : cells + mc ≤ R.cells ∧ slots + ms ≤ R.slots) :
    va_Run p l e R s m args below meth c H locs cells slots mc ms g rest (Qc (Value.ref b :: As).toArray) free := by
  obtain ⟨⟨hrc, hrs, hfr, hlo, hws, hcw⟩, hcode, hini, hy, hlen, hl, hin, hse⟩ := cw
  have hK : Back l R p e below s args y 3 8 (PreOf R mc ms Pc) (PostOf Qc mc ms free) := va_backW (hh := hh) (bytes := bytes) (maxL := maxL) (ret := ret) hM hp.1 hrc hrs hfr hlo hws hcw (fun a' U hW => word_at hW (Or.inl (by first | rfl | simp [Cond.onTables, Cond.keeps, Cond.steady])) hini)
  obtain ⟨hx, hb, hml, ho, -⟩ := S
  obtain ⟨-, ⟨cellB, hcB, hoB, hclB⟩, hPc⟩ := hp
  intro T hT X
  obtain ⟨v, vm₁, ⟨U', l2, c2, s2⟩, hW₁, X', ⟨g', mk, t, L, e1, e2, hq, h1, hL, h2, h3⟩, st⟩ := vx_callVW X hx (C := C) (hh := hh) (bytes := bytes) (maxL := maxL) (ret := ret) ho hl hin hse hcode hy hK (by rw [hT]; exact hcB) hoB hclB hg (hsize.trans hml.symm) (argsL := As) (rest := rest) (fun sig h => hn.trans (hlen sig h)) hstack hW (by rw [hb]; exact hdg)
    (fun vm₁ hW₁ => ⟨hf.1, hf.2, hPc (T.setVm vm₁) hT hW₁⟩)
  dsimp only [Pt.U, Pt.locs, Pt.cells, Pt.slots] at X' e1 e2 h1 h2 h3 st
  subst h1; subst h2; subst h3
  exact ⟨v, (T.setVm vm₁).calling g' mk (Value.ref b :: As).toArray, t, U', L, hT, X', hL, e1, e2, hq, st⟩
section
variable {y : MethodName} {bytes cc : ByteArray} {maxL nL mc ms n index : Nat} {ret : Option FieldType} {ws : List Cond} {rm : Room} {Pc : Array Value → State → Prop} {Qc : Array Value → State → Outcome → State → Prop} {XC : String → State → State → Prop} {free : Addr → Prop} {Ts : List Cond} {own C : String} {b : Addr} {As rest : List Value} {g : JFrame}
theorem vx_runVX {hh : List (Nat × Nat × Nat × Nat)} (S : CallFix p m c cc nL s args Ts own) (hM : vx_Met l y ws rm Pc Qc XC mc ms free) (cw : vx_CVW R s args own C index y bytes maxL ret hh ws rm mc ms n) (hp : PreV s H C b Pc As)
    (hg : g.method = m) (hn : As.length = n) (hsize : g.locals.size = nL) (hstack : g.stack = As.reverse ++ .ref b :: rest) (hW : 2 * g.monitorRoom + (rest.map fun v => v.category).sum ≤ 8) (hdg : decode cc g.pc = .ok (.invokevirtual index, 3)) (hf : cells + mc ≤ R.cells ∧ slots + ms ≤ R.slots) :
    vx_Run p l e R s m args below meth c H locs cells slots mc ms g rest (Qc (Value.ref b :: As).toArray) XC free := by
  obtain ⟨⟨hrc, hrs, hfr, hlo, hws, hcw⟩, hcode, hini, hy, hlen, hl, hin, hse⟩ := cw
  have hK : vx_Back l R p e below s args y 3 8 (PreOf R mc ms Pc) (PostOf Qc mc ms free) (vx_Post XC mc ms free) := vx_backW (hh := hh) (bytes := bytes) (maxL := maxL) (ret := ret) hM hp.1 hrc hrs hfr hlo hws hcw (fun a' U hW => word_at hW (Or.inl (by first | rfl | simp [Cond.onTables, Cond.keeps, Cond.steady])) hini)
  obtain ⟨hx, hb, hml, ho, -⟩ := S
  obtain ⟨-, ⟨cellB, hcB, hoB, hclB⟩, hPc⟩ := hp
  intro T hT X
  rcases vx_callVX X hx (C := C) (hh := hh) (bytes := bytes) (maxL := maxL) (ret := ret) ho hl hin hse hcode hy hK (by rw [hT]; exact hcB) hoB hclB hg (hsize.trans hml.symm) (argsL := As) (rest := rest) (fun sig h => hn.trans (hlen sig h)) hstack hW (by rw [hb]; exact hdg)
    (fun vm₁ hW₁ => ⟨hf.1, hf.2, hPc (T.setVm vm₁) hT hW₁⟩) with ⟨v, vm₁, ⟨U', l2, c2, s2⟩, hW₁, X', ⟨g', mk, t, L, e1, e2, hq, h1, hL, h2, h3⟩, st⟩ | ⟨q, vm₁, ⟨U', l2, c2, s2⟩, hW₁, X', ⟨g', mk, t, L, E, ce, e1, e2, hq, hce, hcv, hcl, h1, hL, h2, h3⟩, st⟩
  · dsimp only [Pt.U, Pt.locs, Pt.cells, Pt.slots] at X' e1 e2 h1 h2 h3 st
    subst h1; subst h2; subst h3
    exact Or.inl ⟨v, (T.setVm vm₁).calling g' mk (Value.ref b :: As).toArray, t, U', L, hT, X', hL, e1, e2, hq, st⟩
  · dsimp only [Pt.U, Pt.locs, Pt.cells, Pt.slots] at X' e1 e2 h1 h2 h3 st hcl
    subst h1; subst h2; subst h3
    exact Or.inr ⟨q, (T.setVm vm₁).calling g' mk (Value.ref b :: As).toArray, t, U', L, E, ce, hT, X', hL, e1, e2, hq, hce, hcv, vx_cls hW₁ hcl, st⟩
theorem vx_runSX {hh : List (Nat × Nat × Nat × Nat)} (S : CallFix p m c cc nL s args Ts own) (hM : vx_Met l y ws rm Pc Qc XC mc ms free) (cw : vx_CSW R s args own index y bytes maxL ret hh ws rm mc ms n) (hp : PreS s H Pc As)
    (hg : g.method = m) (hn : As.length = n) (hsize : g.locals.size = nL) (hstack : g.stack = As.reverse ++ rest) (hW : 2 * g.monitorRoom + (rest.map fun v => v.category).sum ≤ 8) (hdg : decode cc g.pc = .ok (.invokestatic index, 3)) (hf : cells + mc ≤ R.cells ∧ slots + ms ≤ R.slots) :
    vx_Run p l e R s m args below meth c H locs cells slots mc ms g rest (Qc As.toArray) XC free := by
  obtain ⟨⟨hrc, hrs, hfr, hlo, hws, hcw⟩, hcode, hini, hy, hlen, hl, hstt⟩ := cw
  have hK : vx_Back l R p e below s args y 3 8 (PreOf R mc ms Pc) (PostOf Qc mc ms free) (vx_Post XC mc ms free) := vx_backW (hh := hh) (bytes := bytes) (maxL := maxL) (ret := ret) hM hp.1 hrc hrs hfr hlo hws hcw (fun a' U hW => word_at hW (Or.inl (by first | rfl | simp [Cond.onTables, Cond.keeps, Cond.steady])) hini)
  obtain ⟨hx, hb, hml, ho, -⟩ := S
  intro T hT X
  rcases vx_callSX X hx (hh := hh) (bytes := bytes) (maxL := maxL) (ret := ret) ho hl hstt hini hcode hy hK hg (hsize.trans hml.symm) (argsL := As) (rest := rest) (fun sig h => hn.trans (hlen sig h)) hstack hW (by rw [hb]; exact hdg)
    (fun vm₁ hW₁ => ⟨hf.1, hf.2, hp.2 (T.setVm vm₁) hT hW₁⟩) with ⟨v, vm₁, ⟨U', l2, c2, s2⟩, hW₁, X', ⟨g', mk, t, L, e1, e2, hq, h1, hL, h2, h3⟩, st⟩ | ⟨q, vm₁, ⟨U', l2, c2, s2⟩, hW₁, X', ⟨g', mk, t, L, E, ce, e1, e2, hq, hce, hcv, hcl, h1, hL, h2, h3⟩, st⟩
  · dsimp only [Pt.U, Pt.locs, Pt.cells, Pt.slots] at X' e1 e2 h1 h2 h3 st
    subst h1; subst h2; subst h3
    exact Or.inl ⟨v, (T.setVm vm₁).calling g' mk As.toArray, t, U', L, hT, X', hL, e1, e2, hq, st⟩
  · dsimp only [Pt.U, Pt.locs, Pt.cells, Pt.slots] at X' e1 e2 h1 h2 h3 st hcl
    subst h1; subst h2; subst h3
    exact Or.inr ⟨q, (T.setVm vm₁).calling g' mk As.toArray, t, U', L, E, ce, hT, X', hL, e1, e2, hq, hce, hcv, vx_cls hW₁ hcl, st⟩
end
end VXH
theorem vx_ofWH {l : Launch} {y : MethodName} {ws ws' : List Cond} {rm : Room} {Pc : Array Value → State → Prop} {Qc : Array Value → State → Outcome → State → Prop} {XC : String → State → State → Prop} {mc ms : Nat} {free : Addr → Prop} {cc : ByteArray} {maxL : Nat} {ret : Option FieldType} {hh : List (Nat × Nat × Nat × Nat)}
    (hy : plainName y.cls = true) (hw : ws = Cond.codeWith y cc maxL ret hh :: ws')
    (body : ∀ p e s m args below meth c s₁, BodyLoose p l y (headSpec ws rm) cc maxL ret e s m args below meth c s₁ → c.maxLocals = maxL → Pc args s →
      W p l e (headSpec ws rm).room s m args below meth c s.heap [] 0 0 (vx_MQ below Qc XC args s mc ms free) (entryFrame m args maxL)) : vx_Met l y ws rm Pc Qc XC mc ms free := by
  refine MetFree.of_bodyS (code := cc) (maxLocals := maxL) (ret := ret) hy ?_ ?_
  · intro args s m h hn
    obtain ⟨m9, meth, c, hn9, h1, h2, h3, h4, -, h5, h6, -⟩ := Cond.codeWith_spec (atoms_spec (ws := ws) h _ (by rw [hw]; exact List.mem_cons_self))
    cases hn.symm.trans hn9
    exact ⟨meth, c, h1, h2, h3, h4, h5, h6⟩
  · intro p e s m args below meth c s₁ B hml hP _
    have hh0 : s₁.heap = s.heap := by rw [B.state]; rfl
    obtain ⟨t, a1, o, b1, b2, b3⟩ := body p e s m args below meth c s₁ B hml hP s₁ hh0 (Stand.of_body B)
    exact ⟨t, o, a1, b1, b2, b3⟩
/-! ===== END ===== -/
end
section
/-! ===== BEGIN printed: names, fields, word lists, decode rows ===== -/
def RX0 : String := "LoopDiagram$Diagram"
def TX0 : u_T := fun k => match k with
  | 0 => ("LoopDiagram$Diagram", "grid", "LLoopDiagram$Grid;", true)
  | 1 => ("LoopDiagram$Diagram", "first", "[I", true)
  | 2 => ("LoopDiagram$Diagram", "size", "I", false)
  | 3 => ("LoopDiagram$Diagram", "states", "[I", true)
  | 4 => ("LoopDiagram$Diagram", "low", "[I", true)
  | 5 => ("LoopDiagram$Diagram", "high", "[I", true)
  | 6 => ("LoopDiagram$Diagram", "ways", "[I", true)
  | _ => ("LoopDiagram$Diagram", "someWays", "[I", true)
def tyX0 : Nat → FieldType := fun k => match k with
  | 0 => .object "LoopDiagram$Grid"
  | 1 => .array .int
  | 2 => .int
  | 3 => .array .int
  | 4 => .array .int
  | 5 => .array .int
  | 6 => .array .int
  | _ => .array .int
abbrev wsX00 : List Cond := u_ws RX0 TX0 8
theorem nmX0 : ∀ a, a < 8 → ∀ b, b < 8 → a ≠ b → (TX0 a).2.1 ≠ (TX0 b).2.1 := by decide +kernel
theorem tyX0_ok : ∀ k, k < 8 → parseFieldDescriptor (TX0 k).2.2.1 = some (tyX0 k) := by decide +kernel
abbrev cX0_init : ByteArray := prog_2_method_1_code
def yX0_init : MethodName := ⟨RX0, "<init>", "(LLoopDiagram$Grid;)V"⟩
abbrev cX0_grow : ByteArray := prog_2_method_2_code
def yX0_grow : MethodName := ⟨RX0, "grow", "()V"⟩
abbrev cX0_usefulAt : ByteArray := prog_2_method_3_code
def yX0_usefulAt : MethodName := ⟨RX0, "usefulAt", "(I)I"⟩
abbrev cX0_solutionsWith : ByteArray := prog_2_method_4_code
def yX0_solutionsWith : MethodName := ⟨RX0, "solutionsWith", "(I)I"⟩
abbrev cX0_solution : ByteArray := prog_2_method_5_code
def yX0_solution : MethodName := ⟨RX0, "solution", "(I)I"⟩
abbrev cX0_rankOf : ByteArray := prog_2_method_6_code
def yX0_rankOf : MethodName := ⟨RX0, "rankOf", "(I)I"⟩
abbrev cX0_aliveEdges : ByteArray := prog_2_method_7_code
def yX0_aliveEdges : MethodName := ⟨RX0, "aliveEdges", "(I)I"⟩
abbrev cX0_nodeAfter : ByteArray := prog_2_method_8_code
def yX0_nodeAfter : MethodName := ⟨RX0, "nodeAfter", "(IIZ)I"⟩
abbrev cX0_fillWays : ByteArray := prog_2_method_9_code
def yX0_fillWays : MethodName := ⟨RX0, "fillWays", "([II)V"⟩
abbrev cX0_waysOf : ByteArray := prog_2_method_10_code
def yX0_waysOf : MethodName := ⟨RX0, "waysOf", "([II)I"⟩
def RX1 : String := "LoopDiagram$Grid"
def TX1 : u_T := fun k => match k with
  | 0 => ("LoopDiagram$Grid", "rows", "I", true)
  | 1 => ("LoopDiagram$Grid", "columns", "I", true)
  | 2 => ("LoopDiagram$Grid", "edges", "I", true)
  | 3 => ("LoopDiagram$Grid", "row", "[I", true)
  | 4 => ("LoopDiagram$Grid", "column", "[I", true)
  | 5 => ("LoopDiagram$Grid", "goesDown", "[Z", true)
  | _ => ("LoopDiagram$Grid", "clues", "[I", true)
def tyX1 : Nat → FieldType := fun k => match k with
  | 0 => .int
  | 1 => .int
  | 2 => .int
  | 3 => .array .int
  | 4 => .array .int
  | 5 => .array .boolean
  | _ => .array .int
abbrev wsX10 : List Cond := u_ws RX1 TX1 7
theorem nmX1 : ∀ a, a < 7 → ∀ b, b < 7 → a ≠ b → (TX1 a).2.1 ≠ (TX1 b).2.1 := by decide +kernel
theorem tyX1_ok : ∀ k, k < 7 → parseFieldDescriptor (TX1 k).2.2.1 = some (tyX1 k) := by decide +kernel
abbrev cX1_init : ByteArray := prog_3_method_1_code
def yX1_init : MethodName := ⟨RX1, "<init>", "(II)V"⟩
abbrev cX1_pointsAfter : ByteArray := prog_3_method_2_code
def yX1_pointsAfter : MethodName := ⟨RX1, "pointsAfter", "(IIZ)I"⟩
abbrev cX1_cluesAfter : ByteArray := prog_3_method_3_code
def yX1_cluesAfter : MethodName := ⟨RX1, "cluesAfter", "(IIZ)I"⟩
abbrev cX1_downAfter : ByteArray := prog_3_method_4_code
def yX1_downAfter : MethodName := ⟨RX1, "downAfter", "(IIZ)I"⟩
abbrev cX1_joined : ByteArray := prog_3_method_5_code
def yX1_joined : MethodName := ⟨RX1, "joined", "(II)I"⟩
abbrev cX1_ended : ByteArray := prog_3_method_6_code
def yX1_ended : MethodName := ⟨RX1, "ended", "(II)I"⟩
abbrev cX1_sideAfter : ByteArray := prog_3_method_7_code
def yX1_sideAfter : MethodName := ⟨RX1, "sideAfter", "(IIIZZ)I"⟩
abbrev cX1_isPathEnd : ByteArray := prog_3_method_8_code
def yX1_isPathEnd : MethodName := ⟨RX1, "isPathEnd", "(II)Z"⟩
abbrev cX1_slot : ByteArray := prog_3_method_9_code
def yX1_slot : MethodName := ⟨RX1, "slot", "(II)I"⟩
abbrev cX1_put : ByteArray := prog_3_method_10_code
def yX1_put : MethodName := ⟨RX1, "put", "(III)I"⟩
def RX2 : String := "LoopDiagram"
def TX2 : u_T := fun k => match k with
  | 0 => ("LoopDiagram", "grid", "LLoopDiagram$Grid;", true)
  | 1 => ("LoopDiagram", "diagram", "LLoopDiagram$Diagram;", true)
  | 2 => ("LoopDiagram", "drawing", "I", false)
  | _ => ("LoopDiagram", "stale", "Z", false)
def tyX2 : Nat → FieldType := fun k => match k with
  | 0 => .object "LoopDiagram$Grid"
  | 1 => .object "LoopDiagram$Diagram"
  | 2 => .int
  | _ => .boolean
abbrev wsX20 : List Cond := u_ws RX2 TX2 4
theorem nmX2 : ∀ a, a < 4 → ∀ b, b < 4 → a ≠ b → (TX2 a).2.1 ≠ (TX2 b).2.1 := by decide +kernel
theorem tyX2_ok : ∀ k, k < 4 → parseFieldDescriptor (TX2 k).2.2.1 = some (tyX2 k) := by decide +kernel
abbrev cX2_init : ByteArray := prog_1_method_1_code
def yX2_init : MethodName := ⟨RX2, "<init>", "(II)V"⟩
abbrev cX2_edges : ByteArray := prog_1_method_2_code
def yX2_edges : MethodName := ⟨RX2, "edges", "()I"⟩
abbrev cX2_point : ByteArray := prog_1_method_3_code
def yX2_point : MethodName := ⟨RX2, "point", "(IZ)I"⟩
abbrev cX2_clue : ByteArray := prog_1_method_4_code
def yX2_clue : MethodName := ⟨RX2, "clue", "(III)V"⟩
abbrev cX2_count : ByteArray := prog_1_method_5_code
def yX2_count : MethodName := ⟨RX2, "count", "()I"⟩
abbrev cX2_width : ByteArray := prog_1_method_6_code
def yX2_width : MethodName := ⟨RX2, "width", "(IZ)I"⟩
abbrev cX2_nodes : ByteArray := prog_1_method_7_code
def yX2_nodes : MethodName := ⟨RX2, "nodes", "()I"⟩
abbrev cX2_has : ByteArray := prog_1_method_8_code
def yX2_has : MethodName := ⟨RX2, "has", "(II)Z"⟩
abbrev cX2_length : ByteArray := prog_1_method_9_code
def yX2_length : MethodName := ⟨RX2, "length", "(I)I"⟩
abbrev cX2_often : ByteArray := prog_1_method_10_code
def yX2_often : MethodName := ⟨RX2, "often", "(I)I"⟩
abbrev cX2_draw : ByteArray := prog_1_method_11_code
def yX2_draw : MethodName := ⟨RX2, "draw", "(I)Z"⟩
abbrev cX2_copy : ByteArray := prog_1_method_12_code
def yX2_copy : MethodName := ⟨RX2, "copy", "(I)V"⟩
abbrev cX2_drawn : ByteArray := prog_1_method_13_code
def yX2_drawn : MethodName := ⟨RX2, "drawn", "()I"⟩
abbrev cX2_isLoop : ByteArray := prog_1_method_14_code
def yX2_isLoop : MethodName := ⟨RX2, "isLoop", "()Z"⟩
abbrev cX2_rank : ByteArray := prog_1_method_15_code
def yX2_rank : MethodName := ⟨RX2, "rank", "()I"⟩
abbrev cX2_above : ByteArray := prog_1_method_16_code
def yX2_above : MethodName := ⟨RX2, "above", "()I"⟩
abbrev cX2_alive : ByteArray := prog_1_method_17_code
def yX2_alive : MethodName := ⟨RX2, "alive", "()I"⟩
abbrev cX2_spare : ByteArray := prog_1_method_18_code
def yX2_spare : MethodName := ⟨RX2, "spare", "()I"⟩
abbrev cX2_clueOf : ByteArray := prog_1_method_19_code
def yX2_clueOf : MethodName := ⟨RX2, "clueOf", "(II)I"⟩
abbrev cX2_isNoEdge : ByteArray := prog_1_method_20_code
def yX2_isNoEdge : MethodName := ⟨RX2, "isNoEdge", "(I)Z"⟩
abbrev cX2_isNoCell : ByteArray := prog_1_method_21_code
def yX2_isNoCell : MethodName := ⟨RX2, "isNoCell", "(II)Z"⟩
abbrev cX2_setClue : ByteArray := prog_1_method_22_code
def yX2_setClue : MethodName := ⟨RX2, "setClue", "(II)V"⟩
abbrev cX2_fresh : ByteArray := prog_1_method_23_code
def yX2_fresh : MethodName := ⟨RX2, "fresh", "()LLoopDiagram$Diagram;"⟩
abbrev cX2_hasBit : ByteArray := prog_1_method_24_code
def yX2_hasBit : MethodName := ⟨RX2, "hasBit", "(II)Z"⟩
def RX3 : String := "LoopDiagramModel"
def TX3 : u_T := fun k => match k with
  | 0 => ("LoopDiagramModel", "thrown", "I", false)
  | 1 => ("LoopDiagramModel", "rows", "I", false)
  | 2 => ("LoopDiagramModel", "columns", "I", false)
  | 3 => ("LoopDiagramModel", "points", "I", false)
  | 4 => ("LoopDiagramModel", "count", "I", false)
  | 5 => ("LoopDiagramModel", "low", "[I", true)
  | 6 => ("LoopDiagramModel", "high", "[I", true)
  | 7 => ("LoopDiagramModel", "one", "[I", true)
  | 8 => ("LoopDiagramModel", "other", "[I", true)
  | 9 => ("LoopDiagramModel", "ends", "[I", true)
  | 10 => ("LoopDiagramModel", "first", "[I", true)
  | 11 => ("LoopDiagramModel", "last", "[I", true)
  | 12 => ("LoopDiagramModel", "cellFirst", "[I", true)
  | 13 => ("LoopDiagramModel", "cellLast", "[I", true)
  | 14 => ("LoopDiagramModel", "loops", "I", false)
  | 15 => ("LoopDiagramModel", "loop", "[I", true)
  | 16 => ("LoopDiagramModel", "clues", "[I", true)
  | 17 => ("LoopDiagramModel", "known", "Z", false)
  | 18 => ("LoopDiagramModel", "solutions", "I", false)
  | 19 => ("LoopDiagramModel", "solution", "[I", true)
  | 20 => ("LoopDiagramModel", "measured", "Z", false)
  | 21 => ("LoopDiagramModel", "wide", "[I", true)
  | 22 => ("LoopDiagramModel", "useful", "[I", true)
  | 23 => ("LoopDiagramModel", "held", "I", false)
  | 24 => ("LoopDiagramModel", "hold", "[I", true)
  | 25 => ("LoopDiagramModel", "next", "I", false)
  | 26 => ("LoopDiagramModel", "nextHold", "[I", true)
  | 27 => ("LoopDiagramModel", "keys", "[J", true)
  | 28 => ("LoopDiagramModel", "table", "[I", true)
  | 29 => ("LoopDiagramModel", "drawing", "I", false)
  | 30 => ("LoopDiagramModel", "degree", "[I", true)
  | _ => ("LoopDiagramModel", "seen", "[Z", true)
def tyX3 : Nat → FieldType := fun k => match k with
  | 0 => .int
  | 1 => .int
  | 2 => .int
  | 3 => .int
  | 4 => .int
  | 5 => .array .int
  | 6 => .array .int
  | 7 => .array .int
  | 8 => .array .int
  | 9 => .array .int
  | 10 => .array .int
  | 11 => .array .int
  | 12 => .array .int
  | 13 => .array .int
  | 14 => .int
  | 15 => .array .int
  | 16 => .array .int
  | 17 => .boolean
  | 18 => .int
  | 19 => .array .int
  | 20 => .boolean
  | 21 => .array .int
  | 22 => .array .int
  | 23 => .int
  | 24 => .array .int
  | 25 => .int
  | 26 => .array .int
  | 27 => .array .long
  | 28 => .array .int
  | 29 => .int
  | 30 => .array .int
  | _ => .array .boolean
abbrev wsX30 : List Cond := u_ws RX3 TX3 32
theorem nmX3 : ∀ a, a < 32 → ∀ b, b < 32 → a ≠ b → (TX3 a).2.1 ≠ (TX3 b).2.1 := by decide +kernel
theorem tyX3_ok : ∀ k, k < 32 → parseFieldDescriptor (TX3 k).2.2.1 = some (tyX3 k) := by decide +kernel
abbrev cX3_init : ByteArray := prog_5_method_1_code
def yX3_init : MethodName := ⟨RX3, "<init>", "(II)V"⟩
abbrev cX3_cell : ByteArray := prog_5_method_2_code
def yX3_cell : MethodName := ⟨RX3, "cell", "(II)I"⟩
abbrev cX3_meet : ByteArray := prog_5_method_3_code
def yX3_meet : MethodName := ⟨RX3, "meet", "(II)V"⟩
abbrev cX3_border : ByteArray := prog_5_method_4_code
def yX3_border : MethodName := ⟨RX3, "border", "(II)V"⟩
abbrev cX3_join : ByteArray := prog_5_method_5_code
def yX3_join : MethodName := ⟨RX3, "join", "(IIII)V"⟩
abbrev cX3_thrown : ByteArray := prog_5_method_6_code
def yX3_thrown : MethodName := ⟨RX3, "thrown", "()I"⟩
abbrev cX3_fail : ByteArray := prog_5_method_7_code
def yX3_fail : MethodName := ⟨RX3, "fail", "(I)I"⟩
abbrev cX3_isIn : ByteArray := prog_5_method_8_code
def yX3_isIn : MethodName := ⟨RX3, "isIn", "(II)Z"⟩
abbrev cX3_bit : ByteArray := prog_5_method_9_code
def yX3_bit : MethodName := ⟨RX3, "bit", "(I)I"⟩
abbrev cX3_size : ByteArray := prog_5_method_10_code
def yX3_size : MethodName := ⟨RX3, "size", "(I)I"⟩
abbrev cX3_measure : ByteArray := prog_5_method_11_code
def yX3_measure : MethodName := ⟨RX3, "measure", "(I)V"⟩
abbrev cX3_onward : ByteArray := prog_5_method_12_code
def yX3_onward : MethodName := ⟨RX3, "onward", "(III)I"⟩
abbrev cX3_walk : ByteArray := prog_5_method_13_code
def yX3_walk : MethodName := ⟨RX3, "walk", "(II)I"⟩
abbrev cX3_isThin : ByteArray := prog_5_method_14_code
def yX3_isThin : MethodName := ⟨RX3, "isThin", "()Z"⟩
abbrev cX3_unseen : ByteArray := prog_5_method_15_code
def yX3_unseen : MethodName := ⟨RX3, "unseen", "()I"⟩
abbrev cX3_hasEnds : ByteArray := prog_5_method_16_code
def yX3_hasEnds : MethodName := ⟨RX3, "hasEnds", "()Z"⟩
abbrev cX3_isRing : ByteArray := prog_5_method_17_code
def yX3_isRing : MethodName := ⟨RX3, "isRing", "(I)Z"⟩
abbrev cX3_isLoopSet : ByteArray := prog_5_method_18_code
def yX3_isLoopSet : MethodName := ⟨RX3, "isLoopSet", "(I)Z"⟩
abbrev cX3_borderOf : ByteArray := prog_5_method_19_code
def yX3_borderOf : MethodName := ⟨RX3, "borderOf", "(I)I"⟩
abbrev cX3_findLoops : ByteArray := prog_5_method_20_code
def yX3_findLoops : MethodName := ⟨RX3, "findLoops", "()V"⟩
abbrev cX3_sides : ByteArray := prog_5_method_21_code
def yX3_sides : MethodName := ⟨RX3, "sides", "(II)I"⟩
abbrev cX3_keepsClues : ByteArray := prog_5_method_22_code
def yX3_keepsClues : MethodName := ⟨RX3, "keepsClues", "(I)Z"⟩
abbrev cX3_find : ByteArray := prog_5_method_23_code
def yX3_find : MethodName := ⟨RX3, "find", "()V"⟩
abbrev cX3_isCellAlive : ByteArray := prog_5_method_24_code
def yX3_isCellAlive : MethodName := ⟨RX3, "isCellAlive", "(III)Z"⟩
abbrev cX3_isAlive : ByteArray := prog_5_method_25_code
def yX3_isAlive : MethodName := ⟨RX3, "isAlive", "(II)Z"⟩
abbrev cX3_trace : ByteArray := prog_5_method_26_code
def yX3_trace : MethodName := ⟨RX3, "trace", "(II)J"⟩
abbrev cX3_offer : ByteArray := prog_5_method_27_code
def yX3_offer : MethodName := ⟨RX3, "offer", "(II)V"⟩
abbrev cX3_wipe : ByteArray := prog_5_method_28_code
def yX3_wipe : MethodName := ⟨RX3, "wipe", "()V"⟩
abbrev cX3_isUseful : ByteArray := prog_5_method_29_code
def yX3_isUseful : MethodName := ⟨RX3, "isUseful", "(II)Z"⟩
abbrev cX3_measureLevels : ByteArray := prog_5_method_30_code
def yX3_measureLevels : MethodName := ⟨RX3, "measureLevels", "()V"⟩
abbrev cX3_edges : ByteArray := prog_5_method_31_code
def yX3_edges : MethodName := ⟨RX3, "edges", "()I"⟩
abbrev cX3_isEdge : ByteArray := prog_5_method_32_code
def yX3_isEdge : MethodName := ⟨RX3, "isEdge", "(I)Z"⟩
abbrev cX3_point : ByteArray := prog_5_method_33_code
def yX3_point : MethodName := ⟨RX3, "point", "(IZ)I"⟩
abbrev cX3_clue : ByteArray := prog_5_method_34_code
def yX3_clue : MethodName := ⟨RX3, "clue", "(III)V"⟩
abbrev cX3_clueOf : ByteArray := prog_5_method_35_code
def yX3_clueOf : MethodName := ⟨RX3, "clueOf", "(II)I"⟩
abbrev cX3_count : ByteArray := prog_5_method_36_code
def yX3_count : MethodName := ⟨RX3, "count", "()I"⟩
abbrev cX3_width : ByteArray := prog_5_method_37_code
def yX3_width : MethodName := ⟨RX3, "width", "(IZ)I"⟩
abbrev cX3_nodes : ByteArray := prog_5_method_38_code
def yX3_nodes : MethodName := ⟨RX3, "nodes", "()I"⟩
abbrev cX3_isSolution : ByteArray := prog_5_method_39_code
def yX3_isSolution : MethodName := ⟨RX3, "isSolution", "(I)Z"⟩
abbrev cX3_has : ByteArray := prog_5_method_40_code
def yX3_has : MethodName := ⟨RX3, "has", "(II)Z"⟩
abbrev cX3_length : ByteArray := prog_5_method_41_code
def yX3_length : MethodName := ⟨RX3, "length", "(I)I"⟩
abbrev cX3_often : ByteArray := prog_5_method_42_code
def yX3_often : MethodName := ⟨RX3, "often", "(I)I"⟩
abbrev cX3_withAll : ByteArray := prog_5_method_43_code
def yX3_withAll : MethodName := ⟨RX3, "withAll", "(I)I"⟩
abbrev cX3_draw : ByteArray := prog_5_method_44_code
def yX3_draw : MethodName := ⟨RX3, "draw", "(I)Z"⟩
abbrev cX3_copy : ByteArray := prog_5_method_45_code
def yX3_copy : MethodName := ⟨RX3, "copy", "(I)V"⟩
abbrev cX3_drawn : ByteArray := prog_5_method_46_code
def yX3_drawn : MethodName := ⟨RX3, "drawn", "()I"⟩
abbrev cX3_isLoop : ByteArray := prog_5_method_47_code
def yX3_isLoop : MethodName := ⟨RX3, "isLoop", "()Z"⟩
abbrev cX3_rank : ByteArray := prog_5_method_48_code
def yX3_rank : MethodName := ⟨RX3, "rank", "()I"⟩
abbrev cX3_above : ByteArray := prog_5_method_49_code
def yX3_above : MethodName := ⟨RX3, "above", "()I"⟩
abbrev cX3_alive : ByteArray := prog_5_method_50_code
def yX3_alive : MethodName := ⟨RX3, "alive", "()I"⟩
abbrev cX3_spare : ByteArray := prog_5_method_51_code
def yX3_spare : MethodName := ⟨RX3, "spare", "()I"⟩
def RJx145de : String := "java/io/Serializable"
def TJx145de : u_T := fun k => match k with
  | _ => ("", "", "", false)
def tyJx145de : Nat → FieldType := fun k => match k with
  | _ => .int
abbrev wsJx145de0 : List Cond := u_ws RJx145de TJx145de 0
theorem nmJx145de : ∀ a, a < 0 → ∀ b, b < 0 → a ≠ b → (TJx145de a).2.1 ≠ (TJx145de b).2.1 := by decide +kernel
theorem tyJx145de_ok : ∀ k, k < 0 → parseFieldDescriptor (TJx145de k).2.2.1 = some (tyJx145de k) := by decide +kernel
def RJ6 : String := "java/lang/Integer"
def TJ6 : u_T := fun k => match k with
  | _ => ("", "", "", false)
def tyJ6 : Nat → FieldType := fun k => match k with
  | _ => .int
abbrev wsJ60 : List Cond := u_ws RJ6 TJ6 0
theorem nmJ6 : ∀ a, a < 0 → ∀ b, b < 0 → a ≠ b → (TJ6 a).2.1 ≠ (TJ6 b).2.1 := by decide +kernel
theorem tyJ6_ok : ∀ k, k < 0 → parseFieldDescriptor (TJ6 k).2.2.1 = some (tyJ6 k) := by decide +kernel
abbrev cJ6_bitCount_0f7a4 : ByteArray := prog_11_method_49_code
def yJ6_bitCount_0f7a4 : MethodName := ⟨RJ6, "bitCount", "(I)I"⟩
def RL : String := "LoopDiagramLaw"
abbrev cL_cell : ByteArray := method_2_code
def yL_cell : MethodName := ⟨RL, "cell", "([II)I"⟩
abbrev cL_point : ByteArray := method_3_code
def yL_point : MethodName := ⟨RL, "point", "(LLoopDiagram;IZ[J)I"⟩
abbrev cL_clue : ByteArray := method_4_code
def yL_clue : MethodName := ⟨RL, "clue", "(LLoopDiagram;III)I"⟩
abbrev cL_width : ByteArray := method_5_code
def yL_width : MethodName := ⟨RL, "width", "(LLoopDiagram;IZ[J)I"⟩
abbrev cL_has : ByteArray := method_6_code
def yL_has : MethodName := ⟨RL, "has", "(LLoopDiagram;II[J)I"⟩
abbrev cL_length : ByteArray := method_7_code
def yL_length : MethodName := ⟨RL, "length", "(LLoopDiagram;I[J)I"⟩
abbrev cL_often : ByteArray := method_8_code
def yL_often : MethodName := ⟨RL, "often", "(LLoopDiagram;I[J)I"⟩
abbrev cL_draw : ByteArray := method_9_code
def yL_draw : MethodName := ⟨RL, "draw", "(LLoopDiagram;I[J)I"⟩
abbrev cL_copy : ByteArray := method_10_code
def yL_copy : MethodName := ⟨RL, "copy", "(LLoopDiagram;I)I"⟩
abbrev cL_rank : ByteArray := method_11_code
def yL_rank : MethodName := ⟨RL, "rank", "(LLoopDiagram;[J)I"⟩
abbrev cL_spare : ByteArray := method_12_code
def yL_spare : MethodName := ⟨RL, "spare", "(LLoopDiagram;[J)I"⟩
abbrev cL_clueOf : ByteArray := method_13_code
def yL_clueOf : MethodName := ⟨RL, "clueOf", "(LLoopDiagram;II[J)I"⟩
abbrev cL_law : ByteArray := code
def yL_law : MethodName := ⟨RL, "law", "([I)Z"⟩
abbrev vwCl : List vw_C := [(RX0, TX0, 8), (RX1, TX1, 7), (RX2, TX2, 4), (RX3, TX3, 32)]
end
section
/-- all words of the tables that a callee may lean on -/
def aL : List Cond := lw_tbl.filter goodWord
theorem aL_in {w : Cond} (h : w ∈ lw_tbl) (g : goodWord w = true) : w ∈ aL := List.mem_filter.mpr ⟨h, g⟩
theorem aL_tbl {w : Cond} (h : w ∈ aL) : w ∈ lw_tbl := (List.mem_filter.mp h).1
theorem aL_good {w : Cond} (h : w ∈ aL) : (w.onTables && w.keeps) = true ∨ ∃ ty, w = .arrayClass ty := good_of_word (List.mem_filter.mp h).2
theorem tb_1 {w : Cond} (h : w ∈ tables_1_1) : w ∈ lw_tbl := List.mem_append_right _ (List.mem_append_left _ h)
theorem tb_2 {w : Cond} (h : w ∈ tables_1_2) : w ∈ lw_tbl := List.mem_append_right _ (List.mem_append_right _ (List.mem_append_left _ h))
theorem tb_3 {w : Cond} (h : w ∈ tables_1_3) : w ∈ lw_tbl := List.mem_append_right _ (List.mem_append_right _ (List.mem_append_right _ (List.mem_append_left _ h)))
theorem tb_4 {w : Cond} (h : w ∈ tables_1_4) : w ∈ lw_tbl := List.mem_append_right _ (List.mem_append_right _ (List.mem_append_right _ (List.mem_append_right _ h)))
theorem mw1_0 : Cond.initialized RL ∈ aL := aL_in (tb_1 (List.mem_of_getElem? (i := 0) rfl)) rfl
theorem mw1_1 : Cond.initialized RX2 ∈ aL := aL_in (tb_1 (List.mem_of_getElem? (i := 1) rfl)) rfl
theorem mw1_2 : Cond.initialized RX1 ∈ aL := aL_in (tb_1 (List.mem_of_getElem? (i := 2) rfl)) rfl
theorem mw1_3 : Cond.initialized RX0 ∈ aL := aL_in (tb_1 (List.mem_of_getElem? (i := 3) rfl)) rfl
theorem mw1_4 : Cond.initialized RX3 ∈ aL := aL_in (tb_1 (List.mem_of_getElem? (i := 4) rfl)) rfl
theorem mw1_5 : Cond.initialized "java/lang/Throwable" ∈ aL := aL_in (tb_1 (List.mem_of_getElem? (i := 5) rfl)) rfl
theorem mw1_6 : Cond.initialized "java/lang/Exception" ∈ aL := aL_in (tb_1 (List.mem_of_getElem? (i := 6) rfl)) rfl
theorem mw1_7 : Cond.initialized "java/lang/RuntimeException" ∈ aL := aL_in (tb_1 (List.mem_of_getElem? (i := 7) rfl)) rfl
theorem mw1_8 : Cond.initialized "java/lang/IndexOutOfBoundsException" ∈ aL := aL_in (tb_1 (List.mem_of_getElem? (i := 8) rfl)) rfl
theorem mw1_9 : Cond.initialized "java/lang/IllegalArgumentException" ∈ aL := aL_in (tb_1 (List.mem_of_getElem? (i := 9) rfl)) rfl
theorem mw1_10 : Cond.initialized "java/util/NoSuchElementException" ∈ aL := aL_in (tb_1 (List.mem_of_getElem? (i := 10) rfl)) rfl
theorem mw1_11 : Cond.initialized RJ6 ∈ aL := aL_in (tb_1 (List.mem_of_getElem? (i := 11) rfl)) rfl
theorem mw1_12 : Cond.initialized "java/lang/IllegalStateException" ∈ aL := aL_in (tb_1 (List.mem_of_getElem? (i := 12) rfl)) rfl
theorem mw1_13 : Cond.classLink RL 8 RX2 ∈ aL := aL_in (tb_1 (List.mem_of_getElem? (i := 13) rfl)) rfl
theorem mw1_14 : Cond.instantiable RX2 4 ∈ aL := aL_in (tb_1 (List.mem_of_getElem? (i := 14) rfl)) rfl
theorem mw1_15 : Cond.methodLink RL 64 yX2_init ∈ aL := aL_in (tb_1 (List.mem_of_getElem? (i := 15) rfl)) rfl
theorem mw1_16 : Cond.instanceMethod yX2_init ∈ aL := aL_in (tb_1 (List.mem_of_getElem? (i := 16) rfl)) rfl
theorem mw1_17 : Cond.code yX2_init cX2_init 5 none ∈ aL := aL_in (tb_1 (List.mem_of_getElem? (i := 17) rfl)) rfl
theorem mw1_18 : Cond.methodLink RX2 1 (⟨"java/lang/Object", "<init>", "()V"⟩ : MethodName) ∈ aL := aL_in (tb_1 (List.mem_of_getElem? (i := 18) rfl)) rfl
theorem mw1_19 : Cond.instanceMethod (⟨"java/lang/Object", "<init>", "()V"⟩ : MethodName) ∈ aL := aL_in (tb_1 (List.mem_of_getElem? (i := 19) rfl)) rfl
theorem mw1_20 : Cond.code (⟨"java/lang/Object", "<init>", "()V"⟩ : MethodName) object_method_1_code 1 none ∈ aL := aL_in (tb_1 (List.mem_of_getElem? (i := 20) rfl)) rfl
theorem mw1_21 : Cond.classLink RX2 9 RX1 ∈ aL := aL_in (tb_1 (List.mem_of_getElem? (i := 21) rfl)) rfl
theorem mw1_22 : Cond.instantiable RX1 7 ∈ aL := aL_in (tb_1 (List.mem_of_getElem? (i := 22) rfl)) rfl
theorem mw1_23 : Cond.methodLink RX2 11 yX1_init ∈ aL := aL_in (tb_1 (List.mem_of_getElem? (i := 23) rfl)) rfl
theorem mw1_24 : Cond.instanceMethod yX1_init ∈ aL := aL_in (tb_1 (List.mem_of_getElem? (i := 24) rfl)) rfl
theorem mw1_25 : Cond.code yX1_init cX1_init 6 none ∈ aL := aL_in (tb_1 (List.mem_of_getElem? (i := 25) rfl)) rfl
theorem mw1_26 : Cond.methodLink RX1 5 (⟨"java/lang/Object", "<init>", "()V"⟩ : MethodName) ∈ aL := aL_in (tb_1 (List.mem_of_getElem? (i := 26) rfl)) rfl
theorem mw1_27 : Cond.fieldLink RX1 11 "LoopDiagram$Grid" "rows" "I" ∈ aL := aL_in (tb_1 (List.mem_of_getElem? (i := 27) rfl)) rfl
theorem mw1_28 : Cond.fieldLink RX2 119 "LoopDiagram$Grid" "rows" "I" ∈ aL := aL_in (tb_1 (List.mem_of_getElem? (i := 28) rfl)) rfl
theorem mw1_29 : Cond.fieldLink RX1 15 "LoopDiagram$Grid" "columns" "I" ∈ aL := aL_in (tb_1 (List.mem_of_getElem? (i := 29) rfl)) rfl
theorem mw1_30 : Cond.fieldLink RX2 49 "LoopDiagram$Grid" "columns" "I" ∈ aL := aL_in (tb_1 (List.mem_of_getElem? (i := 30) rfl)) rfl
theorem mw1_31 : Cond.fieldLink RX0 15 "LoopDiagram$Grid" "edges" "I" ∈ aL := aL_in (tb_1 (List.mem_of_getElem? (i := 31) rfl)) rfl
theorem mw1_32 : Cond.fieldLink RX1 18 "LoopDiagram$Grid" "edges" "I" ∈ aL := aL_in (tb_1 (List.mem_of_getElem? (i := 32) rfl)) rfl
theorem mw1_33 : Cond.fieldLink RX2 35 "LoopDiagram$Grid" "edges" "I" ∈ aL := aL_in (tb_1 (List.mem_of_getElem? (i := 33) rfl)) rfl
theorem mw1_34 : Cond.fieldLink RX1 21 "LoopDiagram$Grid" "row" "[I" ∈ aL := aL_in (tb_1 (List.mem_of_getElem? (i := 34) rfl)) rfl
theorem mw1_35 : Cond.fieldLink RX2 45 "LoopDiagram$Grid" "row" "[I" ∈ aL := aL_in (tb_1 (List.mem_of_getElem? (i := 35) rfl)) rfl
theorem mw1_36 : Cond.fieldLink RX1 25 "LoopDiagram$Grid" "column" "[I" ∈ aL := aL_in (tb_1 (List.mem_of_getElem? (i := 36) rfl)) rfl
theorem mw1_37 : Cond.fieldLink RX2 52 "LoopDiagram$Grid" "column" "[I" ∈ aL := aL_in (tb_1 (List.mem_of_getElem? (i := 37) rfl)) rfl
theorem mw1_38 : Cond.fieldLink RX1 28 "LoopDiagram$Grid" "goesDown" "[Z" ∈ aL := aL_in (tb_1 (List.mem_of_getElem? (i := 38) rfl)) rfl
theorem mw1_39 : Cond.fieldLink RX2 55 "LoopDiagram$Grid" "goesDown" "[Z" ∈ aL := aL_in (tb_1 (List.mem_of_getElem? (i := 39) rfl)) rfl
theorem mw1_40 : Cond.fieldLink RX1 32 "LoopDiagram$Grid" "clues" "[I" ∈ aL := aL_in (tb_1 (List.mem_of_getElem? (i := 40) rfl)) rfl
theorem mw1_41 : Cond.fieldLink RX2 116 "LoopDiagram$Grid" "clues" "[I" ∈ aL := aL_in (tb_1 (List.mem_of_getElem? (i := 41) rfl)) rfl
theorem mw1_42 : Cond.laysFinal RX1 RX1 "rows" "I" ∈ aL := aL_in (tb_1 (List.mem_of_getElem? (i := 42) rfl)) rfl
theorem mw1_43 : Cond.soleField RX1 "rows" ∈ aL := aL_in (tb_1 (List.mem_of_getElem? (i := 43) rfl)) rfl
theorem mw1_44 : Cond.laysFinal RX1 RX1 "columns" "I" ∈ aL := aL_in (tb_1 (List.mem_of_getElem? (i := 44) rfl)) rfl
theorem mw1_45 : Cond.soleField RX1 "columns" ∈ aL := aL_in (tb_1 (List.mem_of_getElem? (i := 45) rfl)) rfl
theorem mw1_46 : Cond.laysFinal RX1 RX1 "edges" "I" ∈ aL := aL_in (tb_1 (List.mem_of_getElem? (i := 46) rfl)) rfl
theorem mw1_47 : Cond.soleField RX1 "edges" ∈ aL := aL_in (tb_1 (List.mem_of_getElem? (i := 47) rfl)) rfl
theorem mw1_48 : Cond.laysFinal RX1 RX1 "row" "[I" ∈ aL := aL_in (tb_1 (List.mem_of_getElem? (i := 48) rfl)) rfl
theorem mw1_49 : Cond.soleField RX1 "row" ∈ aL := aL_in (tb_1 (List.mem_of_getElem? (i := 49) rfl)) rfl
theorem mw1_50 : Cond.laysFinal RX1 RX1 "column" "[I" ∈ aL := aL_in (tb_1 (List.mem_of_getElem? (i := 50) rfl)) rfl
theorem mw1_51 : Cond.soleField RX1 "column" ∈ aL := aL_in (tb_1 (List.mem_of_getElem? (i := 51) rfl)) rfl
theorem mw1_52 : Cond.laysFinal RX1 RX1 "goesDown" "[Z" ∈ aL := aL_in (tb_1 (List.mem_of_getElem? (i := 52) rfl)) rfl
theorem mw1_53 : Cond.soleField RX1 "goesDown" ∈ aL := aL_in (tb_1 (List.mem_of_getElem? (i := 53) rfl)) rfl
theorem mw1_54 : Cond.laysFinal RX1 RX1 "clues" "[I" ∈ aL := aL_in (tb_1 (List.mem_of_getElem? (i := 54) rfl)) rfl
theorem mw1_55 : Cond.soleField RX1 "clues" ∈ aL := aL_in (tb_1 (List.mem_of_getElem? (i := 55) rfl)) rfl
theorem mw1_57 : Cond.arrayClass FieldType.int ∈ aL := aL_in (tb_1 (List.mem_of_getElem? (i := 57) rfl)) rfl
theorem mw1_58 : Cond.arrayClass FieldType.boolean ∈ aL := aL_in (tb_1 (List.mem_of_getElem? (i := 58) rfl)) rfl
theorem mw1_59 : Cond.classLink RX2 18 RX0 ∈ aL := aL_in (tb_1 (List.mem_of_getElem? (i := 59) rfl)) rfl
theorem mw1_60 : Cond.instantiable RX0 8 ∈ aL := aL_in (tb_1 (List.mem_of_getElem? (i := 60) rfl)) rfl
theorem mw1_61 : Cond.methodLink RX2 20 yX0_init ∈ aL := aL_in (tb_1 (List.mem_of_getElem? (i := 61) rfl)) rfl
theorem mw1_62 : Cond.instanceMethod yX0_init ∈ aL := aL_in (tb_1 (List.mem_of_getElem? (i := 62) rfl)) rfl
theorem mw1_63 : Cond.code yX0_init cX0_init 2 none ∈ aL := aL_in (tb_1 (List.mem_of_getElem? (i := 63) rfl)) rfl
theorem mw1_64 : Cond.methodLink RX0 3 (⟨"java/lang/Object", "<init>", "()V"⟩ : MethodName) ∈ aL := aL_in (tb_1 (List.mem_of_getElem? (i := 64) rfl)) rfl
theorem mw1_65 : Cond.fieldLink RX0 9 "LoopDiagram$Diagram" "grid" "LLoopDiagram$Grid;" ∈ aL := aL_in (tb_1 (List.mem_of_getElem? (i := 65) rfl)) rfl
theorem mw1_66 : Cond.fieldLink RX0 21 "LoopDiagram$Diagram" "first" "[I" ∈ aL := aL_in (tb_1 (List.mem_of_getElem? (i := 66) rfl)) rfl
theorem mw1_67 : Cond.fieldLink RX2 80 "LoopDiagram$Diagram" "first" "[I" ∈ aL := aL_in (tb_1 (List.mem_of_getElem? (i := 67) rfl)) rfl
theorem mw1_68 : Cond.fieldLink RX0 25 "LoopDiagram$Diagram" "size" "I" ∈ aL := aL_in (tb_1 (List.mem_of_getElem? (i := 68) rfl)) rfl
theorem mw1_69 : Cond.fieldLink RX2 83 "LoopDiagram$Diagram" "size" "I" ∈ aL := aL_in (tb_1 (List.mem_of_getElem? (i := 69) rfl)) rfl
theorem mw1_70 : Cond.fieldLink RX0 28 "LoopDiagram$Diagram" "states" "[I" ∈ aL := aL_in (tb_1 (List.mem_of_getElem? (i := 70) rfl)) rfl
theorem mw1_71 : Cond.fieldLink RX0 31 "LoopDiagram$Diagram" "low" "[I" ∈ aL := aL_in (tb_1 (List.mem_of_getElem? (i := 71) rfl)) rfl
theorem mw1_72 : Cond.fieldLink RX0 34 "LoopDiagram$Diagram" "high" "[I" ∈ aL := aL_in (tb_1 (List.mem_of_getElem? (i := 72) rfl)) rfl
theorem mw1_73 : Cond.fieldLink RX0 37 "LoopDiagram$Diagram" "ways" "[I" ∈ aL := aL_in (tb_1 (List.mem_of_getElem? (i := 73) rfl)) rfl
theorem mw1_74 : Cond.fieldLink RX2 73 "LoopDiagram$Diagram" "ways" "[I" ∈ aL := aL_in (tb_1 (List.mem_of_getElem? (i := 74) rfl)) rfl
theorem mw1_75 : Cond.fieldLink RX0 40 "LoopDiagram$Diagram" "someWays" "[I" ∈ aL := aL_in (tb_1 (List.mem_of_getElem? (i := 75) rfl)) rfl
theorem mw1_76 : Cond.laysFinal RX0 RX0 "grid" "LLoopDiagram$Grid;" ∈ aL := aL_in (tb_1 (List.mem_of_getElem? (i := 76) rfl)) rfl
theorem mw1_77 : Cond.soleField RX0 "grid" ∈ aL := aL_in (tb_1 (List.mem_of_getElem? (i := 77) rfl)) rfl
theorem mw1_78 : Cond.laysFinal RX0 RX0 "first" "[I" ∈ aL := aL_in (tb_1 (List.mem_of_getElem? (i := 78) rfl)) rfl
theorem mw1_79 : Cond.soleField RX0 "first" ∈ aL := aL_in (tb_1 (List.mem_of_getElem? (i := 79) rfl)) rfl
theorem mw1_80 : Cond.lays RX0 RX0 "size" "I" ∈ aL := aL_in (tb_1 (List.mem_of_getElem? (i := 80) rfl)) rfl
theorem mw1_81 : Cond.soleField RX0 "size" ∈ aL := aL_in (tb_1 (List.mem_of_getElem? (i := 81) rfl)) rfl
theorem mw1_82 : Cond.laysFinal RX0 RX0 "states" "[I" ∈ aL := aL_in (tb_1 (List.mem_of_getElem? (i := 82) rfl)) rfl
theorem mw1_83 : Cond.soleField RX0 "states" ∈ aL := aL_in (tb_1 (List.mem_of_getElem? (i := 83) rfl)) rfl
theorem mw1_84 : Cond.laysFinal RX0 RX0 "low" "[I" ∈ aL := aL_in (tb_1 (List.mem_of_getElem? (i := 84) rfl)) rfl
theorem mw1_85 : Cond.soleField RX0 "low" ∈ aL := aL_in (tb_1 (List.mem_of_getElem? (i := 85) rfl)) rfl
theorem mw1_86 : Cond.laysFinal RX0 RX0 "high" "[I" ∈ aL := aL_in (tb_1 (List.mem_of_getElem? (i := 86) rfl)) rfl
theorem mw1_87 : Cond.soleField RX0 "high" ∈ aL := aL_in (tb_1 (List.mem_of_getElem? (i := 87) rfl)) rfl
theorem mw1_88 : Cond.laysFinal RX0 RX0 "ways" "[I" ∈ aL := aL_in (tb_1 (List.mem_of_getElem? (i := 88) rfl)) rfl
theorem mw1_89 : Cond.soleField RX0 "ways" ∈ aL := aL_in (tb_1 (List.mem_of_getElem? (i := 89) rfl)) rfl
theorem mw1_90 : Cond.laysFinal RX0 RX0 "someWays" "[I" ∈ aL := aL_in (tb_1 (List.mem_of_getElem? (i := 90) rfl)) rfl
theorem mw1_91 : Cond.soleField RX0 "someWays" ∈ aL := aL_in (tb_1 (List.mem_of_getElem? (i := 91) rfl)) rfl
theorem mw1_93 : Cond.fieldLink RX2 14 "LoopDiagram" "grid" "LLoopDiagram$Grid;" ∈ aL := aL_in (tb_1 (List.mem_of_getElem? (i := 93) rfl)) rfl
theorem mw1_94 : Cond.fieldLink RX2 23 "LoopDiagram" "diagram" "LLoopDiagram$Diagram;" ∈ aL := aL_in (tb_1 (List.mem_of_getElem? (i := 94) rfl)) rfl
theorem mw1_95 : Cond.fieldLink RX2 27 "LoopDiagram" "drawing" "I" ∈ aL := aL_in (tb_1 (List.mem_of_getElem? (i := 95) rfl)) rfl
theorem mw1_96 : Cond.fieldLink RX2 31 "LoopDiagram" "stale" "Z" ∈ aL := aL_in (tb_1 (List.mem_of_getElem? (i := 96) rfl)) rfl
theorem mw1_97 : Cond.laysFinal RX2 RX2 "grid" "LLoopDiagram$Grid;" ∈ aL := aL_in (tb_1 (List.mem_of_getElem? (i := 97) rfl)) rfl
theorem mw1_98 : Cond.soleField RX2 "grid" ∈ aL := aL_in (tb_1 (List.mem_of_getElem? (i := 98) rfl)) rfl
theorem mw1_99 : Cond.laysFinal RX2 RX2 "diagram" "LLoopDiagram$Diagram;" ∈ aL := aL_in (tb_1 (List.mem_of_getElem? (i := 99) rfl)) rfl
theorem mw1_100 : Cond.soleField RX2 "diagram" ∈ aL := aL_in (tb_1 (List.mem_of_getElem? (i := 100) rfl)) rfl
theorem mw1_101 : Cond.lays RX2 RX2 "drawing" "I" ∈ aL := aL_in (tb_1 (List.mem_of_getElem? (i := 101) rfl)) rfl
theorem mw1_102 : Cond.soleField RX2 "drawing" ∈ aL := aL_in (tb_1 (List.mem_of_getElem? (i := 102) rfl)) rfl
theorem mw1_103 : Cond.lays RX2 RX2 "stale" "Z" ∈ aL := aL_in (tb_1 (List.mem_of_getElem? (i := 103) rfl)) rfl
theorem mw1_104 : Cond.soleField RX2 "stale" ∈ aL := aL_in (tb_1 (List.mem_of_getElem? (i := 104) rfl)) rfl
theorem mw1_106 : Cond.methodLink RL 70 yX2_edges ∈ aL := aL_in (tb_1 (List.mem_of_getElem? (i := 106) rfl)) rfl
theorem mw1_107 : Cond.instanceMethod yX2_edges ∈ aL := aL_in (tb_1 (List.mem_of_getElem? (i := 107) rfl)) rfl
theorem mw1_108 : Cond.selects RX2 yX2_edges yX2_edges ∈ aL := aL_in (tb_1 (List.mem_of_getElem? (i := 108) rfl)) rfl
theorem mw1_109 : Cond.code yX2_edges cX2_edges 1 (Option.some FieldType.int) ∈ aL := aL_in (tb_1 (List.mem_of_getElem? (i := 109) rfl)) rfl
theorem mw1_110 : Cond.methodLink RL 85 yX2_count ∈ aL := aL_in (tb_1 (List.mem_of_getElem? (i := 110) rfl)) rfl
theorem mw1_111 : Cond.instanceMethod yX2_count ∈ aL := aL_in (tb_1 (List.mem_of_getElem? (i := 111) rfl)) rfl
theorem mw1_112 : Cond.selects RX2 yX2_count yX2_count ∈ aL := aL_in (tb_1 (List.mem_of_getElem? (i := 112) rfl)) rfl
theorem mw1_113 : Cond.code yX2_count cX2_count 1 (Option.some FieldType.int) ∈ aL := aL_in (tb_1 (List.mem_of_getElem? (i := 113) rfl)) rfl
theorem mw1_114 : Cond.methodLink RX2 69 yX2_fresh ∈ aL := aL_in (tb_1 (List.mem_of_getElem? (i := 114) rfl)) rfl
theorem mw1_116 : Cond.instanceMethod yX2_fresh ∈ aL := aL_in (tb_1 (List.mem_of_getElem? (i := 116) rfl)) rfl
theorem mw1_117 : Cond.code yX2_fresh cX2_fresh 1 (Option.some (FieldType.object RX0)) ∈ aL := aL_in (tb_1 (List.mem_of_getElem? (i := 117) rfl)) rfl
theorem mw1_118 : Cond.methodLink RX2 122 yX0_grow ∈ aL := aL_in (tb_1 (List.mem_of_getElem? (i := 118) rfl)) rfl
theorem mw1_119 : Cond.instanceMethod yX0_grow ∈ aL := aL_in (tb_1 (List.mem_of_getElem? (i := 119) rfl)) rfl
theorem mw1_120 : Cond.selects RX0 yX0_grow yX0_grow ∈ aL := aL_in (tb_1 (List.mem_of_getElem? (i := 120) rfl)) rfl
theorem mw1_121 : Cond.code yX0_grow cX0_grow 3 none ∈ aL := aL_in (tb_1 (List.mem_of_getElem? (i := 121) rfl)) rfl
theorem mw1_122 : Cond.methodLink RX0 43 yX0_nodeAfter ∈ aL := aL_in (tb_1 (List.mem_of_getElem? (i := 122) rfl)) rfl
theorem mw1_124 : Cond.instanceMethod yX0_nodeAfter ∈ aL := aL_in (tb_1 (List.mem_of_getElem? (i := 124) rfl)) rfl
theorem mw1_125 : Cond.code yX0_nodeAfter cX0_nodeAfter 6 (Option.some FieldType.int) ∈ aL := aL_in (tb_1 (List.mem_of_getElem? (i := 125) rfl)) rfl
theorem mw1_126 : Cond.methodLink RX0 59 yX1_pointsAfter ∈ aL := aL_in (tb_1 (List.mem_of_getElem? (i := 126) rfl)) rfl
theorem mw1_127 : Cond.instanceMethod yX1_pointsAfter ∈ aL := aL_in (tb_1 (List.mem_of_getElem? (i := 127) rfl)) rfl
theorem mw1_128 : Cond.selects RX1 yX1_pointsAfter yX1_pointsAfter ∈ aL := aL_in (tb_1 (List.mem_of_getElem? (i := 128) rfl)) rfl
theorem mw1_129 : Cond.code yX1_pointsAfter cX1_pointsAfter 7 (Option.some FieldType.int) ∈ aL := aL_in (tb_1 (List.mem_of_getElem? (i := 129) rfl)) rfl
theorem mw1_130 : Cond.methodLink RX1 35 yX1_downAfter ∈ aL := aL_in (tb_1 (List.mem_of_getElem? (i := 130) rfl)) rfl
theorem mw1_131 : Cond.static yX1_downAfter ∈ aL := aL_in (tb_1 (List.mem_of_getElem? (i := 131) rfl)) rfl
theorem mw1_132 : Cond.code yX1_downAfter cX1_downAfter 3 (Option.some FieldType.int) ∈ aL := aL_in (tb_1 (List.mem_of_getElem? (i := 132) rfl)) rfl
theorem mw1_133 : Cond.methodLink RX1 46 yX1_slot ∈ aL := aL_in (tb_1 (List.mem_of_getElem? (i := 133) rfl)) rfl
theorem mw1_134 : Cond.static yX1_slot ∈ aL := aL_in (tb_1 (List.mem_of_getElem? (i := 134) rfl)) rfl
theorem mw1_135 : Cond.code yX1_slot cX1_slot 2 (Option.some FieldType.int) ∈ aL := aL_in (tb_1 (List.mem_of_getElem? (i := 135) rfl)) rfl
theorem mw1_136 : Cond.methodLink RX1 53 yX1_isPathEnd ∈ aL := aL_in (tb_1 (List.mem_of_getElem? (i := 136) rfl)) rfl
theorem mw1_137 : Cond.static yX1_isPathEnd ∈ aL := aL_in (tb_1 (List.mem_of_getElem? (i := 137) rfl)) rfl
theorem mw1_138 : Cond.code yX1_isPathEnd cX1_isPathEnd 2 (Option.some FieldType.boolean) ∈ aL := aL_in (tb_1 (List.mem_of_getElem? (i := 138) rfl)) rfl
theorem mw1_139 : Cond.methodLink RX1 57 yX1_put ∈ aL := aL_in (tb_1 (List.mem_of_getElem? (i := 139) rfl)) rfl
theorem mw1_140 : Cond.static yX1_put ∈ aL := aL_in (tb_1 (List.mem_of_getElem? (i := 140) rfl)) rfl
theorem mw1_141 : Cond.code yX1_put cX1_put 3 (Option.some FieldType.int) ∈ aL := aL_in (tb_1 (List.mem_of_getElem? (i := 141) rfl)) rfl
theorem mw1_142 : Cond.methodLink RX1 39 yX1_joined ∈ aL := aL_in (tb_1 (List.mem_of_getElem? (i := 142) rfl)) rfl
theorem mw1_143 : Cond.static yX1_joined ∈ aL := aL_in (tb_1 (List.mem_of_getElem? (i := 143) rfl)) rfl
theorem mw1_144 : Cond.code yX1_joined cX1_joined 7 (Option.some FieldType.int) ∈ aL := aL_in (tb_1 (List.mem_of_getElem? (i := 144) rfl)) rfl
theorem mw1_145 : Cond.methodLink RX1 43 yX1_ended ∈ aL := aL_in (tb_1 (List.mem_of_getElem? (i := 145) rfl)) rfl
theorem mw1_146 : Cond.static yX1_ended ∈ aL := aL_in (tb_1 (List.mem_of_getElem? (i := 146) rfl)) rfl
theorem mw1_147 : Cond.code yX1_ended cX1_ended 2 (Option.some FieldType.int) ∈ aL := aL_in (tb_1 (List.mem_of_getElem? (i := 147) rfl)) rfl
theorem mw1_148 : Cond.methodLink RX0 62 yX1_cluesAfter ∈ aL := aL_in (tb_1 (List.mem_of_getElem? (i := 148) rfl)) rfl
theorem mw1_149 : Cond.instanceMethod yX1_cluesAfter ∈ aL := aL_in (tb_1 (List.mem_of_getElem? (i := 149) rfl)) rfl
theorem mw1_150 : Cond.selects RX1 yX1_cluesAfter yX1_cluesAfter ∈ aL := aL_in (tb_1 (List.mem_of_getElem? (i := 150) rfl)) rfl
theorem mw1_151 : Cond.code yX1_cluesAfter cX1_cluesAfter 6 (Option.some FieldType.int) ∈ aL := aL_in (tb_1 (List.mem_of_getElem? (i := 151) rfl)) rfl
theorem mw1_152 : Cond.methodLink RX1 49 yX1_sideAfter ∈ aL := aL_in (tb_1 (List.mem_of_getElem? (i := 152) rfl)) rfl
theorem mw1_154 : Cond.instanceMethod yX1_sideAfter ∈ aL := aL_in (tb_1 (List.mem_of_getElem? (i := 154) rfl)) rfl
theorem mw1_155 : Cond.code yX1_sideAfter cX1_sideAfter 8 (Option.some FieldType.int) ∈ aL := aL_in (tb_1 (List.mem_of_getElem? (i := 155) rfl)) rfl
theorem mw1_156 : Cond.methodLink RX0 47 yX0_fillWays ∈ aL := aL_in (tb_1 (List.mem_of_getElem? (i := 156) rfl)) rfl
theorem mw1_158 : Cond.instanceMethod yX0_fillWays ∈ aL := aL_in (tb_1 (List.mem_of_getElem? (i := 158) rfl)) rfl
theorem mw1_159 : Cond.code yX0_fillWays cX0_fillWays 6 none ∈ aL := aL_in (tb_1 (List.mem_of_getElem? (i := 159) rfl)) rfl
theorem mw1_160 : Cond.methodLinkNest RX0 55 yX2_hasBit RX2 ∈ lw_tbl := tb_1 (List.mem_of_getElem? (i := 160) rfl)
theorem mw1_161 : Cond.static yX2_hasBit ∈ aL := aL_in (tb_1 (List.mem_of_getElem? (i := 161) rfl)) rfl
theorem mw1_162 : Cond.code yX2_hasBit cX2_hasBit 2 (Option.some FieldType.boolean) ∈ aL := aL_in (tb_1 (List.mem_of_getElem? (i := 162) rfl)) rfl
theorem mw1_163 : Cond.methodLink RX0 51 yX0_waysOf ∈ aL := aL_in (tb_1 (List.mem_of_getElem? (i := 163) rfl)) rfl
theorem mw1_164 : Cond.static yX0_waysOf ∈ aL := aL_in (tb_1 (List.mem_of_getElem? (i := 164) rfl)) rfl
theorem mw1_165 : Cond.code yX0_waysOf cX0_waysOf 2 (Option.some FieldType.int) ∈ aL := aL_in (tb_1 (List.mem_of_getElem? (i := 165) rfl)) rfl
theorem mw1_166 : Cond.methodLink RL 92 yX2_nodes ∈ aL := aL_in (tb_1 (List.mem_of_getElem? (i := 166) rfl)) rfl
theorem mw1_167 : Cond.instanceMethod yX2_nodes ∈ aL := aL_in (tb_1 (List.mem_of_getElem? (i := 167) rfl)) rfl
theorem mw1_168 : Cond.selects RX2 yX2_nodes yX2_nodes ∈ aL := aL_in (tb_1 (List.mem_of_getElem? (i := 168) rfl)) rfl
theorem mw1_169 : Cond.code yX2_nodes cX2_nodes 1 (Option.some FieldType.int) ∈ aL := aL_in (tb_1 (List.mem_of_getElem? (i := 169) rfl)) rfl
theorem mw1_170 : Cond.methodLink RL 114 yX2_drawn ∈ aL := aL_in (tb_1 (List.mem_of_getElem? (i := 170) rfl)) rfl
theorem mw1_171 : Cond.instanceMethod yX2_drawn ∈ aL := aL_in (tb_1 (List.mem_of_getElem? (i := 171) rfl)) rfl
theorem mw1_172 : Cond.selects RX2 yX2_drawn yX2_drawn ∈ aL := aL_in (tb_1 (List.mem_of_getElem? (i := 172) rfl)) rfl
theorem mw1_173 : Cond.code yX2_drawn cX2_drawn 1 (Option.some FieldType.int) ∈ aL := aL_in (tb_1 (List.mem_of_getElem? (i := 173) rfl)) rfl
theorem mw1_174 : Cond.methodLink RX2 95 yJ6_bitCount_0f7a4 ∈ aL := aL_in (tb_1 (List.mem_of_getElem? (i := 174) rfl)) rfl
theorem mw1_175 : Cond.static yJ6_bitCount_0f7a4 ∈ aL := aL_in (tb_1 (List.mem_of_getElem? (i := 175) rfl)) rfl
theorem mw1_176 : Cond.code yJ6_bitCount_0f7a4 cJ6_bitCount_0f7a4 1 (Option.some FieldType.int) ∈ aL := aL_in (tb_1 (List.mem_of_getElem? (i := 176) rfl)) rfl
theorem mw1_177 : Cond.constant RJ6 265 (1431655765 : Int32) ∈ aL := aL_in (tb_1 (List.mem_of_getElem? (i := 177) rfl)) rfl
theorem mw1_178 : Cond.constant RJ6 266 (858993459 : Int32) ∈ aL := aL_in (tb_1 (List.mem_of_getElem? (i := 178) rfl)) rfl
theorem mw1_179 : Cond.constant RJ6 267 (252645135 : Int32) ∈ aL := aL_in (tb_1 (List.mem_of_getElem? (i := 179) rfl)) rfl
theorem mw1_180 : Cond.methodLink RL 118 yX2_isLoop ∈ aL := aL_in (tb_1 (List.mem_of_getElem? (i := 180) rfl)) rfl
theorem mw1_181 : Cond.instanceMethod yX2_isLoop ∈ aL := aL_in (tb_1 (List.mem_of_getElem? (i := 181) rfl)) rfl
theorem mw1_182 : Cond.selects RX2 yX2_isLoop yX2_isLoop ∈ aL := aL_in (tb_1 (List.mem_of_getElem? (i := 182) rfl)) rfl
theorem mw1_183 : Cond.code yX2_isLoop cX2_isLoop 3 (Option.some FieldType.boolean) ∈ aL := aL_in (tb_1 (List.mem_of_getElem? (i := 183) rfl)) rfl
theorem mw1_184 : Cond.methodLink RX2 92 yX2_hasBit ∈ aL := aL_in (tb_1 (List.mem_of_getElem? (i := 184) rfl)) rfl
theorem mw1_185 : Cond.methodLink RX2 103 yX1_pointsAfter ∈ aL := aL_in (tb_1 (List.mem_of_getElem? (i := 185) rfl)) rfl
theorem mw1_186 : Cond.methodLink RL 127 yX2_above ∈ aL := aL_in (tb_1 (List.mem_of_getElem? (i := 186) rfl)) rfl
theorem mw1_187 : Cond.instanceMethod yX2_above ∈ aL := aL_in (tb_1 (List.mem_of_getElem? (i := 187) rfl)) rfl
theorem mw1_188 : Cond.selects RX2 yX2_above yX2_above ∈ aL := aL_in (tb_1 (List.mem_of_getElem? (i := 188) rfl)) rfl
theorem mw1_189 : Cond.code yX2_above cX2_above 1 (Option.some FieldType.int) ∈ aL := aL_in (tb_1 (List.mem_of_getElem? (i := 189) rfl)) rfl
theorem mw1_190 : Cond.methodLink RX2 100 yX0_solutionsWith ∈ aL := aL_in (tb_1 (List.mem_of_getElem? (i := 190) rfl)) rfl
theorem mw1_191 : Cond.instanceMethod yX0_solutionsWith ∈ aL := aL_in (tb_1 (List.mem_of_getElem? (i := 191) rfl)) rfl
theorem mw1_192 : Cond.selects RX0 yX0_solutionsWith yX0_solutionsWith ∈ aL := aL_in (tb_1 (List.mem_of_getElem? (i := 192) rfl)) rfl
theorem mw1_193 : Cond.code yX0_solutionsWith cX0_solutionsWith 2 (Option.some FieldType.int) ∈ aL := aL_in (tb_1 (List.mem_of_getElem? (i := 193) rfl)) rfl
theorem mw1_194 : Cond.methodLink RL 131 yX2_alive ∈ aL := aL_in (tb_1 (List.mem_of_getElem? (i := 194) rfl)) rfl
theorem mw1_195 : Cond.instanceMethod yX2_alive ∈ aL := aL_in (tb_1 (List.mem_of_getElem? (i := 195) rfl)) rfl
theorem mw1_196 : Cond.selects RX2 yX2_alive yX2_alive ∈ aL := aL_in (tb_1 (List.mem_of_getElem? (i := 196) rfl)) rfl
theorem mw1_197 : Cond.code yX2_alive cX2_alive 1 (Option.some FieldType.int) ∈ aL := aL_in (tb_1 (List.mem_of_getElem? (i := 197) rfl)) rfl
theorem mw1_198 : Cond.methodLink RX2 110 yX0_aliveEdges ∈ aL := aL_in (tb_1 (List.mem_of_getElem? (i := 198) rfl)) rfl
theorem mw1_199 : Cond.instanceMethod yX0_aliveEdges ∈ aL := aL_in (tb_1 (List.mem_of_getElem? (i := 199) rfl)) rfl
theorem mw1_200 : Cond.selects RX0 yX0_aliveEdges yX0_aliveEdges ∈ aL := aL_in (tb_1 (List.mem_of_getElem? (i := 200) rfl)) rfl
theorem mw1_201 : Cond.code yX0_aliveEdges cX0_aliveEdges 4 (Option.some FieldType.int) ∈ aL := aL_in (tb_1 (List.mem_of_getElem? (i := 201) rfl)) rfl
theorem mw1_202 : Cond.methodLink RL 58 yL_cell ∈ aL := aL_in (tb_1 (List.mem_of_getElem? (i := 202) rfl)) rfl
theorem mw1_203 : Cond.static yL_cell ∈ aL := aL_in (tb_1 (List.mem_of_getElem? (i := 203) rfl)) rfl
theorem mw1_204 : Cond.code yL_cell method_2_code 2 (Option.some FieldType.int) ∈ aL := aL_in (tb_1 (List.mem_of_getElem? (i := 204) rfl)) rfl
theorem mw1_205 : Cond.methodLink RL 74 yL_point ∈ aL := aL_in (tb_1 (List.mem_of_getElem? (i := 205) rfl)) rfl
theorem mw1_206 : Cond.static yL_point ∈ aL := aL_in (tb_1 (List.mem_of_getElem? (i := 206) rfl)) rfl
theorem mw1_207 : Cond.codeWith yL_point method_3_code 5 (Option.some FieldType.int) [(0, 10, 13, 13)] ∈ aL := aL_in (tb_1 (List.mem_of_getElem? (i := 207) rfl)) rfl
theorem mw1_208 : Cond.classLink RL 13 "java/lang/IndexOutOfBoundsException" ∈ aL := aL_in (tb_1 (List.mem_of_getElem? (i := 208) rfl)) rfl
theorem mw1_209 : Cond.methodLink RL 7 yX2_point ∈ aL := aL_in (tb_1 (List.mem_of_getElem? (i := 209) rfl)) rfl
theorem mw1_210 : Cond.instanceMethod yX2_point ∈ aL := aL_in (tb_1 (List.mem_of_getElem? (i := 210) rfl)) rfl
theorem mw1_211 : Cond.selects RX2 yX2_point yX2_point ∈ aL := aL_in (tb_1 (List.mem_of_getElem? (i := 211) rfl)) rfl
theorem mw1_212 : Cond.code yX2_point cX2_point 4 (Option.some FieldType.int) ∈ aL := aL_in (tb_1 (List.mem_of_getElem? (i := 212) rfl)) rfl
theorem mw1_213 : Cond.methodLink RX2 38 yX2_isNoEdge ∈ aL := aL_in (tb_1 (List.mem_of_getElem? (i := 213) rfl)) rfl
theorem mw1_215 : Cond.instanceMethod yX2_isNoEdge ∈ aL := aL_in (tb_1 (List.mem_of_getElem? (i := 215) rfl)) rfl
theorem mw1_216 : Cond.code yX2_isNoEdge cX2_isNoEdge 2 (Option.some FieldType.boolean) ∈ aL := aL_in (tb_1 (List.mem_of_getElem? (i := 216) rfl)) rfl
theorem mw1_217 : Cond.classLink RX2 42 "java/lang/IndexOutOfBoundsException" ∈ aL := aL_in (tb_1 (List.mem_of_getElem? (i := 217) rfl)) rfl
theorem mw1_218 : Cond.instantiable "java/lang/IndexOutOfBoundsException" 6 ∈ aL := aL_in (tb_1 (List.mem_of_getElem? (i := 218) rfl)) rfl
theorem mw1_226 : Cond.selects "java/lang/IndexOutOfBoundsException" (⟨"java/lang/Throwable", "fillInStackTrace", "(I)Ljava/lang/Throwable;"⟩ : MethodName) (⟨"java/lang/Throwable", "fillInStackTrace", "(I)Ljava/lang/Throwable;"⟩ : MethodName) ∈ aL := aL_in (tb_1 (List.mem_of_getElem? (i := 226) rfl)) rfl
theorem mw1_227 : Cond.selects "java/lang/IndexOutOfBoundsException" (⟨"java/lang/Throwable", "fillInStackTrace", "()Ljava/lang/Throwable;"⟩ : MethodName) (⟨"java/lang/Throwable", "fillInStackTrace", "()Ljava/lang/Throwable;"⟩ : MethodName) ∈ aL := aL_in (tb_1 (List.mem_of_getElem? (i := 227) rfl)) rfl
theorem mw1_228 : Cond.lays "java/lang/IndexOutOfBoundsException" "java/lang/Throwable" "cause" "Ljava/lang/Throwable;" ∈ aL := aL_in (tb_1 (List.mem_of_getElem? (i := 228) rfl)) rfl
theorem mw1_229 : Cond.lays "java/lang/Throwable" "java/lang/Throwable" "cause" "Ljava/lang/Throwable;" ∈ aL := aL_in (tb_1 (List.mem_of_getElem? (i := 229) rfl)) rfl
theorem mw1_230 : Cond.lays "java/lang/IndexOutOfBoundsException" "java/lang/Throwable" "stackTrace" "[Ljava/lang/StackTraceElement;" ∈ aL := aL_in (tb_1 (List.mem_of_getElem? (i := 230) rfl)) rfl
theorem mw1_231 : Cond.lays "java/lang/Throwable" "java/lang/Throwable" "stackTrace" "[Ljava/lang/StackTraceElement;" ∈ aL := aL_in (tb_1 (List.mem_of_getElem? (i := 231) rfl)) rfl
theorem mw1_232 : Cond.lays "java/lang/IndexOutOfBoundsException" "java/lang/Throwable" "suppressedExceptions" "Ljava/util/List;" ∈ aL := aL_in (tb_1 (List.mem_of_getElem? (i := 232) rfl)) rfl
theorem mw1_233 : Cond.lays "java/lang/Throwable" "java/lang/Throwable" "suppressedExceptions" "Ljava/util/List;" ∈ aL := aL_in (tb_1 (List.mem_of_getElem? (i := 233) rfl)) rfl
theorem mw1_234 : Cond.lays "java/lang/IndexOutOfBoundsException" "java/lang/Throwable" "detailMessage" "Ljava/lang/String;" ∈ aL := aL_in (tb_1 (List.mem_of_getElem? (i := 234) rfl)) rfl
theorem mw1_235 : Cond.lays "java/lang/Throwable" "java/lang/Throwable" "detailMessage" "Ljava/lang/String;" ∈ aL := aL_in (tb_1 (List.mem_of_getElem? (i := 235) rfl)) rfl
theorem mw1_236 : Cond.lays "java/lang/IndexOutOfBoundsException" "java/lang/Throwable" "backtrace" "Ljava/lang/Object;" ∈ aL := aL_in (tb_1 (List.mem_of_getElem? (i := 236) rfl)) rfl
theorem mw1_237 : Cond.lays "java/lang/Throwable" "java/lang/Throwable" "backtrace" "Ljava/lang/Object;" ∈ aL := aL_in (tb_1 (List.mem_of_getElem? (i := 237) rfl)) rfl
theorem mw1_238 : Cond.fieldLink "java/lang/Throwable" 198 "java/lang/Throwable" "backtrace" "Ljava/lang/Object;" ∈ aL := aL_in (tb_1 (List.mem_of_getElem? (i := 238) rfl)) rfl
theorem mw2_0 : Cond.instanceMethod (⟨"java/lang/Throwable", "<init>", "()V"⟩ : MethodName) ∈ aL := aL_in (tb_2 (List.mem_of_getElem? (i := 0) rfl)) rfl
theorem mw2_1 : Cond.code (⟨"java/lang/Throwable", "<init>", "()V"⟩ : MethodName) prog_13_method_1_code 1 none ∈ aL := aL_in (tb_2 (List.mem_of_getElem? (i := 1) rfl)) rfl
theorem mw2_2 : Cond.methodLink "java/lang/Throwable" 1 (⟨"java/lang/Object", "<init>", "()V"⟩ : MethodName) ∈ aL := aL_in (tb_2 (List.mem_of_getElem? (i := 2) rfl)) rfl
theorem mw2_3 : Cond.fieldLink "java/lang/Throwable" 13 "java/lang/Throwable" "UNASSIGNED_STACK" "[Ljava/lang/StackTraceElement;" ∈ aL := aL_in (tb_2 (List.mem_of_getElem? (i := 3) rfl)) rfl
theorem mw2_5 : Cond.fieldLink "java/lang/Throwable" 20 "java/lang/Throwable" "SUPPRESSED_SENTINEL" "Ljava/util/List;" ∈ aL := aL_in (tb_2 (List.mem_of_getElem? (i := 5) rfl)) rfl
theorem mw2_7 : Cond.methodLink "java/lang/Throwable" 27 (⟨"java/lang/Throwable", "fillInStackTrace", "()Ljava/lang/Throwable;"⟩ : MethodName) ∈ aL := aL_in (tb_2 (List.mem_of_getElem? (i := 7) rfl)) rfl
theorem mw2_8 : Cond.instanceMethod (⟨"java/lang/Throwable", "fillInStackTrace", "()Ljava/lang/Throwable;"⟩ : MethodName) ∈ aL := aL_in (tb_2 (List.mem_of_getElem? (i := 8) rfl)) rfl
theorem mw2_10 : Cond.selects "java/lang/IllegalArgumentException" (⟨"java/lang/Throwable", "fillInStackTrace", "()Ljava/lang/Throwable;"⟩ : MethodName) (⟨"java/lang/Throwable", "fillInStackTrace", "()Ljava/lang/Throwable;"⟩ : MethodName) ∈ aL := aL_in (tb_2 (List.mem_of_getElem? (i := 10) rfl)) rfl
theorem mw2_11 : Cond.selects "java/lang/IllegalStateException" (⟨"java/lang/Throwable", "fillInStackTrace", "()Ljava/lang/Throwable;"⟩ : MethodName) (⟨"java/lang/Throwable", "fillInStackTrace", "()Ljava/lang/Throwable;"⟩ : MethodName) ∈ aL := aL_in (tb_2 (List.mem_of_getElem? (i := 11) rfl)) rfl
theorem mw2_12 : Cond.selects "java/util/NoSuchElementException" (⟨"java/lang/Throwable", "fillInStackTrace", "()Ljava/lang/Throwable;"⟩ : MethodName) (⟨"java/lang/Throwable", "fillInStackTrace", "()Ljava/lang/Throwable;"⟩ : MethodName) ∈ aL := aL_in (tb_2 (List.mem_of_getElem? (i := 12) rfl)) rfl
theorem mw2_14 : Cond.methodLink "java/lang/Throwable" 202 (⟨"java/lang/Throwable", "fillInStackTrace", "(I)Ljava/lang/Throwable;"⟩ : MethodName) ∈ aL := aL_in (tb_2 (List.mem_of_getElem? (i := 14) rfl)) rfl
theorem mw2_16 : Cond.instanceMethod (⟨"java/lang/Throwable", "fillInStackTrace", "(I)Ljava/lang/Throwable;"⟩ : MethodName) ∈ aL := aL_in (tb_2 (List.mem_of_getElem? (i := 16) rfl)) rfl
theorem mw2_17 : Cond.instantiable "java/lang/Throwable" 6 ∈ aL := aL_in (tb_2 (List.mem_of_getElem? (i := 17) rfl)) rfl
theorem mw2_19 : Cond.methodLink RX2 44 (⟨"java/lang/IndexOutOfBoundsException", "<init>", "()V"⟩ : MethodName) ∈ aL := aL_in (tb_2 (List.mem_of_getElem? (i := 19) rfl)) rfl
theorem mw2_20 : Cond.instanceMethod (⟨"java/lang/IndexOutOfBoundsException", "<init>", "()V"⟩ : MethodName) ∈ aL := aL_in (tb_2 (List.mem_of_getElem? (i := 20) rfl)) rfl
theorem mw2_21 : Cond.code (⟨"java/lang/IndexOutOfBoundsException", "<init>", "()V"⟩ : MethodName) prog_10_method_1_code 1 none ∈ aL := aL_in (tb_2 (List.mem_of_getElem? (i := 21) rfl)) rfl
theorem mw2_22 : Cond.methodLink "java/lang/IndexOutOfBoundsException" 1 (⟨"java/lang/RuntimeException", "<init>", "()V"⟩ : MethodName) ∈ aL := aL_in (tb_2 (List.mem_of_getElem? (i := 22) rfl)) rfl
theorem mw2_23 : Cond.instanceMethod (⟨"java/lang/RuntimeException", "<init>", "()V"⟩ : MethodName) ∈ aL := aL_in (tb_2 (List.mem_of_getElem? (i := 23) rfl)) rfl
theorem mw2_24 : Cond.code (⟨"java/lang/RuntimeException", "<init>", "()V"⟩ : MethodName) prog_12_method_1_code 1 none ∈ aL := aL_in (tb_2 (List.mem_of_getElem? (i := 24) rfl)) rfl
theorem mw2_25 : Cond.methodLink "java/lang/RuntimeException" 1 (⟨"java/lang/Exception", "<init>", "()V"⟩ : MethodName) ∈ aL := aL_in (tb_2 (List.mem_of_getElem? (i := 25) rfl)) rfl
theorem mw2_26 : Cond.instanceMethod (⟨"java/lang/Exception", "<init>", "()V"⟩ : MethodName) ∈ aL := aL_in (tb_2 (List.mem_of_getElem? (i := 26) rfl)) rfl
theorem mw2_27 : Cond.code (⟨"java/lang/Exception", "<init>", "()V"⟩ : MethodName) prog_7_method_1_code 1 none ∈ aL := aL_in (tb_2 (List.mem_of_getElem? (i := 27) rfl)) rfl
theorem mw2_28 : Cond.methodLink "java/lang/Exception" 1 (⟨"java/lang/Throwable", "<init>", "()V"⟩ : MethodName) ∈ aL := aL_in (tb_2 (List.mem_of_getElem? (i := 28) rfl)) rfl
theorem mw2_29 : Cond.fieldLink "java/lang/Throwable" 198 "java/lang/Throwable" "backtrace" "Ljava/lang/Object;" ∈ aL := aL_in (tb_2 (List.mem_of_getElem? (i := 29) rfl)) rfl
theorem mw2_30 : Cond.fieldLink "java/lang/Throwable" 7 "java/lang/Throwable" "cause" "Ljava/lang/Throwable;" ∈ aL := aL_in (tb_2 (List.mem_of_getElem? (i := 30) rfl)) rfl
theorem mw2_31 : Cond.fieldLink "java/lang/Throwable" 17 "java/lang/Throwable" "stackTrace" "[Ljava/lang/StackTraceElement;" ∈ aL := aL_in (tb_2 (List.mem_of_getElem? (i := 31) rfl)) rfl
theorem mw2_32 : Cond.fieldLink "java/lang/Throwable" 24 "java/lang/Throwable" "suppressedExceptions" "Ljava/util/List;" ∈ aL := aL_in (tb_2 (List.mem_of_getElem? (i := 32) rfl)) rfl
theorem mw2_33 : Cond.soleField "java/lang/Throwable" "backtrace" ∈ aL := aL_in (tb_2 (List.mem_of_getElem? (i := 33) rfl)) rfl
theorem mw2_34 : Cond.soleField "java/lang/Throwable" "detailMessage" ∈ aL := aL_in (tb_2 (List.mem_of_getElem? (i := 34) rfl)) rfl
theorem mw2_35 : Cond.soleField "java/lang/Throwable" "cause" ∈ aL := aL_in (tb_2 (List.mem_of_getElem? (i := 35) rfl)) rfl
theorem mw2_36 : Cond.soleField "java/lang/Throwable" "stackTrace" ∈ aL := aL_in (tb_2 (List.mem_of_getElem? (i := 36) rfl)) rfl
theorem mw2_37 : Cond.lays "java/lang/IndexOutOfBoundsException" "java/lang/Throwable" "depth" "I" ∈ aL := aL_in (tb_2 (List.mem_of_getElem? (i := 37) rfl)) rfl
theorem mw2_38 : Cond.soleField "java/lang/Throwable" "depth" ∈ aL := aL_in (tb_2 (List.mem_of_getElem? (i := 38) rfl)) rfl
theorem mw2_39 : Cond.soleField "java/lang/Throwable" "suppressedExceptions" ∈ aL := aL_in (tb_2 (List.mem_of_getElem? (i := 39) rfl)) rfl
theorem mw2_41 : Cond.methodLink RL 81 yL_clue ∈ aL := aL_in (tb_2 (List.mem_of_getElem? (i := 41) rfl)) rfl
theorem mw2_42 : Cond.static yL_clue ∈ aL := aL_in (tb_2 (List.mem_of_getElem? (i := 42) rfl)) rfl
theorem mw2_43 : Cond.codeWith yL_clue method_4_code 5 (Option.some FieldType.int) [(0, 7, 10, 13), (0, 7, 14, 19)] ∈ aL := aL_in (tb_2 (List.mem_of_getElem? (i := 43) rfl)) rfl
theorem mw2_44 : Cond.classLink RL 19 "java/lang/IllegalArgumentException" ∈ aL := aL_in (tb_2 (List.mem_of_getElem? (i := 44) rfl)) rfl
theorem mw2_45 : Cond.methodLink RL 15 yX2_clue ∈ aL := aL_in (tb_2 (List.mem_of_getElem? (i := 45) rfl)) rfl
theorem mw2_46 : Cond.instanceMethod yX2_clue ∈ aL := aL_in (tb_2 (List.mem_of_getElem? (i := 46) rfl)) rfl
theorem mw2_47 : Cond.selects RX2 yX2_clue yX2_clue ∈ aL := aL_in (tb_2 (List.mem_of_getElem? (i := 47) rfl)) rfl
theorem mw2_48 : Cond.code yX2_clue cX2_clue 4 none ∈ aL := aL_in (tb_2 (List.mem_of_getElem? (i := 48) rfl)) rfl
theorem mw2_49 : Cond.methodLink RX2 59 yX2_isNoCell ∈ aL := aL_in (tb_2 (List.mem_of_getElem? (i := 49) rfl)) rfl
theorem mw2_51 : Cond.instanceMethod yX2_isNoCell ∈ aL := aL_in (tb_2 (List.mem_of_getElem? (i := 51) rfl)) rfl
theorem mw2_52 : Cond.code yX2_isNoCell cX2_isNoCell 3 (Option.some FieldType.boolean) ∈ aL := aL_in (tb_2 (List.mem_of_getElem? (i := 52) rfl)) rfl
theorem mw2_53 : Cond.classLink RX2 63 "java/lang/IllegalArgumentException" ∈ aL := aL_in (tb_2 (List.mem_of_getElem? (i := 53) rfl)) rfl
theorem mw2_54 : Cond.instantiable "java/lang/IllegalArgumentException" 6 ∈ aL := aL_in (tb_2 (List.mem_of_getElem? (i := 54) rfl)) rfl
theorem mw2_56 : Cond.selects "java/lang/IllegalArgumentException" (⟨"java/lang/Throwable", "fillInStackTrace", "(I)Ljava/lang/Throwable;"⟩ : MethodName) (⟨"java/lang/Throwable", "fillInStackTrace", "(I)Ljava/lang/Throwable;"⟩ : MethodName) ∈ aL := aL_in (tb_2 (List.mem_of_getElem? (i := 56) rfl)) rfl
theorem mw2_57 : Cond.lays "java/lang/IllegalArgumentException" "java/lang/Throwable" "cause" "Ljava/lang/Throwable;" ∈ aL := aL_in (tb_2 (List.mem_of_getElem? (i := 57) rfl)) rfl
theorem mw2_58 : Cond.lays "java/lang/IllegalArgumentException" "java/lang/Throwable" "stackTrace" "[Ljava/lang/StackTraceElement;" ∈ aL := aL_in (tb_2 (List.mem_of_getElem? (i := 58) rfl)) rfl
theorem mw2_59 : Cond.lays "java/lang/IllegalArgumentException" "java/lang/Throwable" "suppressedExceptions" "Ljava/util/List;" ∈ aL := aL_in (tb_2 (List.mem_of_getElem? (i := 59) rfl)) rfl
theorem mw2_60 : Cond.lays "java/lang/IllegalArgumentException" "java/lang/Throwable" "detailMessage" "Ljava/lang/String;" ∈ aL := aL_in (tb_2 (List.mem_of_getElem? (i := 60) rfl)) rfl
theorem mw2_61 : Cond.lays "java/lang/IllegalArgumentException" "java/lang/Throwable" "backtrace" "Ljava/lang/Object;" ∈ aL := aL_in (tb_2 (List.mem_of_getElem? (i := 61) rfl)) rfl
theorem mw2_62 : Cond.methodLink RX2 65 (⟨"java/lang/IllegalArgumentException", "<init>", "()V"⟩ : MethodName) ∈ aL := aL_in (tb_2 (List.mem_of_getElem? (i := 62) rfl)) rfl
theorem mw2_63 : Cond.instanceMethod (⟨"java/lang/IllegalArgumentException", "<init>", "()V"⟩ : MethodName) ∈ aL := aL_in (tb_2 (List.mem_of_getElem? (i := 63) rfl)) rfl
theorem mw2_64 : Cond.code (⟨"java/lang/IllegalArgumentException", "<init>", "()V"⟩ : MethodName) prog_8_method_1_code 1 none ∈ aL := aL_in (tb_2 (List.mem_of_getElem? (i := 64) rfl)) rfl
theorem mw2_65 : Cond.methodLink "java/lang/IllegalArgumentException" 1 (⟨"java/lang/RuntimeException", "<init>", "()V"⟩ : MethodName) ∈ aL := aL_in (tb_2 (List.mem_of_getElem? (i := 65) rfl)) rfl
theorem mw2_66 : Cond.lays "java/lang/IllegalArgumentException" "java/lang/Throwable" "depth" "I" ∈ aL := aL_in (tb_2 (List.mem_of_getElem? (i := 66) rfl)) rfl
theorem mw2_68 : Cond.methodLink RX2 66 yX2_setClue ∈ aL := aL_in (tb_2 (List.mem_of_getElem? (i := 68) rfl)) rfl
theorem mw2_70 : Cond.instanceMethod yX2_setClue ∈ aL := aL_in (tb_2 (List.mem_of_getElem? (i := 70) rfl)) rfl
theorem mw2_71 : Cond.code yX2_setClue cX2_setClue 3 none ∈ aL := aL_in (tb_2 (List.mem_of_getElem? (i := 71) rfl)) rfl
theorem mw2_72 : Cond.methodLink RL 89 yL_width ∈ aL := aL_in (tb_2 (List.mem_of_getElem? (i := 72) rfl)) rfl
theorem mw2_73 : Cond.static yL_width ∈ aL := aL_in (tb_2 (List.mem_of_getElem? (i := 73) rfl)) rfl
theorem mw2_74 : Cond.codeWith yL_width method_5_code 5 (Option.some FieldType.int) [(0, 10, 13, 13)] ∈ aL := aL_in (tb_2 (List.mem_of_getElem? (i := 74) rfl)) rfl
theorem mw2_75 : Cond.methodLink RL 21 yX2_width ∈ aL := aL_in (tb_2 (List.mem_of_getElem? (i := 75) rfl)) rfl
theorem mw2_76 : Cond.instanceMethod yX2_width ∈ aL := aL_in (tb_2 (List.mem_of_getElem? (i := 76) rfl)) rfl
theorem mw2_77 : Cond.selects RX2 yX2_width yX2_width ∈ aL := aL_in (tb_2 (List.mem_of_getElem? (i := 77) rfl)) rfl
theorem mw2_78 : Cond.code yX2_width cX2_width 4 (Option.some FieldType.int) ∈ aL := aL_in (tb_2 (List.mem_of_getElem? (i := 78) rfl)) rfl
theorem mw2_79 : Cond.methodLink RX2 76 yX0_usefulAt ∈ aL := aL_in (tb_2 (List.mem_of_getElem? (i := 79) rfl)) rfl
theorem mw2_80 : Cond.instanceMethod yX0_usefulAt ∈ aL := aL_in (tb_2 (List.mem_of_getElem? (i := 80) rfl)) rfl
theorem mw2_81 : Cond.selects RX0 yX0_usefulAt yX0_usefulAt ∈ aL := aL_in (tb_2 (List.mem_of_getElem? (i := 81) rfl)) rfl
theorem mw2_82 : Cond.code yX0_usefulAt cX0_usefulAt 4 (Option.some FieldType.int) ∈ aL := aL_in (tb_2 (List.mem_of_getElem? (i := 82) rfl)) rfl
theorem mw2_83 : Cond.methodLink RL 96 yL_has ∈ aL := aL_in (tb_2 (List.mem_of_getElem? (i := 83) rfl)) rfl
theorem mw2_84 : Cond.static yL_has ∈ aL := aL_in (tb_2 (List.mem_of_getElem? (i := 84) rfl)) rfl
theorem mw2_85 : Cond.codeWith yL_has method_6_code 5 (Option.some FieldType.int) [(0, 17, 20, 28), (0, 17, 24, 13)] ∈ aL := aL_in (tb_2 (List.mem_of_getElem? (i := 85) rfl)) rfl
theorem mw2_86 : Cond.classLink RL 28 "java/util/NoSuchElementException" ∈ aL := aL_in (tb_2 (List.mem_of_getElem? (i := 86) rfl)) rfl
theorem mw2_87 : Cond.methodLink RL 24 yX2_has ∈ aL := aL_in (tb_2 (List.mem_of_getElem? (i := 87) rfl)) rfl
theorem mw2_88 : Cond.instanceMethod yX2_has ∈ aL := aL_in (tb_2 (List.mem_of_getElem? (i := 88) rfl)) rfl
theorem mw2_89 : Cond.selects RX2 yX2_has yX2_has ∈ aL := aL_in (tb_2 (List.mem_of_getElem? (i := 89) rfl)) rfl
theorem mw2_90 : Cond.code yX2_has cX2_has 4 (Option.some FieldType.boolean) ∈ aL := aL_in (tb_2 (List.mem_of_getElem? (i := 90) rfl)) rfl
theorem mw2_91 : Cond.methodLink RX2 86 yX0_solution ∈ aL := aL_in (tb_2 (List.mem_of_getElem? (i := 91) rfl)) rfl
theorem mw2_92 : Cond.instanceMethod yX0_solution ∈ aL := aL_in (tb_2 (List.mem_of_getElem? (i := 92) rfl)) rfl
theorem mw2_93 : Cond.selects RX0 yX0_solution yX0_solution ∈ aL := aL_in (tb_2 (List.mem_of_getElem? (i := 93) rfl)) rfl
theorem mw2_94 : Cond.code yX0_solution cX0_solution 7 (Option.some FieldType.int) ∈ aL := aL_in (tb_2 (List.mem_of_getElem? (i := 94) rfl)) rfl
theorem mw2_95 : Cond.classLink RX2 89 "java/util/NoSuchElementException" ∈ aL := aL_in (tb_2 (List.mem_of_getElem? (i := 95) rfl)) rfl
theorem mw2_96 : Cond.instantiable "java/util/NoSuchElementException" 6 ∈ aL := aL_in (tb_2 (List.mem_of_getElem? (i := 96) rfl)) rfl
theorem mw2_98 : Cond.selects "java/util/NoSuchElementException" (⟨"java/lang/Throwable", "fillInStackTrace", "(I)Ljava/lang/Throwable;"⟩ : MethodName) (⟨"java/lang/Throwable", "fillInStackTrace", "(I)Ljava/lang/Throwable;"⟩ : MethodName) ∈ aL := aL_in (tb_2 (List.mem_of_getElem? (i := 98) rfl)) rfl
theorem mw2_99 : Cond.lays "java/util/NoSuchElementException" "java/lang/Throwable" "cause" "Ljava/lang/Throwable;" ∈ aL := aL_in (tb_2 (List.mem_of_getElem? (i := 99) rfl)) rfl
theorem mw2_100 : Cond.lays "java/util/NoSuchElementException" "java/lang/Throwable" "stackTrace" "[Ljava/lang/StackTraceElement;" ∈ aL := aL_in (tb_2 (List.mem_of_getElem? (i := 100) rfl)) rfl
theorem mw2_101 : Cond.lays "java/util/NoSuchElementException" "java/lang/Throwable" "suppressedExceptions" "Ljava/util/List;" ∈ aL := aL_in (tb_2 (List.mem_of_getElem? (i := 101) rfl)) rfl
theorem mw2_102 : Cond.lays "java/util/NoSuchElementException" "java/lang/Throwable" "detailMessage" "Ljava/lang/String;" ∈ aL := aL_in (tb_2 (List.mem_of_getElem? (i := 102) rfl)) rfl
theorem mw2_103 : Cond.lays "java/util/NoSuchElementException" "java/lang/Throwable" "backtrace" "Ljava/lang/Object;" ∈ aL := aL_in (tb_2 (List.mem_of_getElem? (i := 103) rfl)) rfl
theorem mw2_104 : Cond.methodLink RX2 91 (⟨"java/util/NoSuchElementException", "<init>", "()V"⟩ : MethodName) ∈ aL := aL_in (tb_2 (List.mem_of_getElem? (i := 104) rfl)) rfl
theorem mw2_105 : Cond.instanceMethod (⟨"java/util/NoSuchElementException", "<init>", "()V"⟩ : MethodName) ∈ aL := aL_in (tb_2 (List.mem_of_getElem? (i := 105) rfl)) rfl
theorem mw2_106 : Cond.code (⟨"java/util/NoSuchElementException", "<init>", "()V"⟩ : MethodName) prog_14_method_1_code 1 none ∈ aL := aL_in (tb_2 (List.mem_of_getElem? (i := 106) rfl)) rfl
theorem mw2_107 : Cond.methodLink "java/util/NoSuchElementException" 1 (⟨"java/lang/RuntimeException", "<init>", "()V"⟩ : MethodName) ∈ aL := aL_in (tb_2 (List.mem_of_getElem? (i := 107) rfl)) rfl
theorem mw2_108 : Cond.lays "java/util/NoSuchElementException" "java/lang/Throwable" "depth" "I" ∈ aL := aL_in (tb_2 (List.mem_of_getElem? (i := 108) rfl)) rfl
theorem mw2_110 : Cond.methodLink RL 100 yL_length ∈ aL := aL_in (tb_2 (List.mem_of_getElem? (i := 110) rfl)) rfl
theorem mw2_111 : Cond.static yL_length ∈ aL := aL_in (tb_2 (List.mem_of_getElem? (i := 111) rfl)) rfl
theorem mw2_112 : Cond.codeWith yL_length method_7_code 4 (Option.some FieldType.int) [(0, 9, 12, 28)] ∈ aL := aL_in (tb_2 (List.mem_of_getElem? (i := 112) rfl)) rfl
theorem mw2_113 : Cond.methodLink RL 30 yX2_length ∈ aL := aL_in (tb_2 (List.mem_of_getElem? (i := 113) rfl)) rfl
theorem mw2_114 : Cond.instanceMethod yX2_length ∈ aL := aL_in (tb_2 (List.mem_of_getElem? (i := 114) rfl)) rfl
theorem mw2_115 : Cond.selects RX2 yX2_length yX2_length ∈ aL := aL_in (tb_2 (List.mem_of_getElem? (i := 115) rfl)) rfl
theorem mw2_116 : Cond.code yX2_length cX2_length 3 (Option.some FieldType.int) ∈ aL := aL_in (tb_2 (List.mem_of_getElem? (i := 116) rfl)) rfl
theorem mw2_117 : Cond.methodLink RL 104 yL_often ∈ aL := aL_in (tb_2 (List.mem_of_getElem? (i := 117) rfl)) rfl
theorem mw2_118 : Cond.static yL_often ∈ aL := aL_in (tb_2 (List.mem_of_getElem? (i := 118) rfl)) rfl
theorem mw2_119 : Cond.codeWith yL_often method_8_code 4 (Option.some FieldType.int) [(0, 9, 12, 13)] ∈ aL := aL_in (tb_2 (List.mem_of_getElem? (i := 119) rfl)) rfl
theorem mw2_120 : Cond.methodLink RL 34 yX2_often ∈ aL := aL_in (tb_2 (List.mem_of_getElem? (i := 120) rfl)) rfl
theorem mw2_121 : Cond.instanceMethod yX2_often ∈ aL := aL_in (tb_2 (List.mem_of_getElem? (i := 121) rfl)) rfl
theorem mw2_122 : Cond.selects RX2 yX2_often yX2_often ∈ aL := aL_in (tb_2 (List.mem_of_getElem? (i := 122) rfl)) rfl
theorem mw2_123 : Cond.code yX2_often cX2_often 2 (Option.some FieldType.int) ∈ aL := aL_in (tb_2 (List.mem_of_getElem? (i := 123) rfl)) rfl
theorem mw2_124 : Cond.methodLink RL 107 yL_draw ∈ aL := aL_in (tb_2 (List.mem_of_getElem? (i := 124) rfl)) rfl
theorem mw2_125 : Cond.static yL_draw ∈ aL := aL_in (tb_2 (List.mem_of_getElem? (i := 125) rfl)) rfl
theorem mw2_126 : Cond.codeWith yL_draw method_9_code 4 (Option.some FieldType.int) [(0, 16, 19, 13)] ∈ aL := aL_in (tb_2 (List.mem_of_getElem? (i := 126) rfl)) rfl
theorem mw2_127 : Cond.methodLink RL 37 yX2_draw ∈ aL := aL_in (tb_2 (List.mem_of_getElem? (i := 127) rfl)) rfl
theorem mw2_128 : Cond.instanceMethod yX2_draw ∈ aL := aL_in (tb_2 (List.mem_of_getElem? (i := 128) rfl)) rfl
theorem mw2_129 : Cond.selects RX2 yX2_draw yX2_draw ∈ aL := aL_in (tb_2 (List.mem_of_getElem? (i := 129) rfl)) rfl
theorem mw2_130 : Cond.code yX2_draw cX2_draw 2 (Option.some FieldType.boolean) ∈ aL := aL_in (tb_2 (List.mem_of_getElem? (i := 130) rfl)) rfl
theorem mw2_131 : Cond.methodLink RL 110 yL_copy ∈ aL := aL_in (tb_2 (List.mem_of_getElem? (i := 131) rfl)) rfl
theorem mw2_132 : Cond.static yL_copy ∈ aL := aL_in (tb_2 (List.mem_of_getElem? (i := 132) rfl)) rfl
theorem mw2_133 : Cond.codeWith yL_copy method_10_code 3 (Option.some FieldType.int) [(0, 5, 8, 28)] ∈ aL := aL_in (tb_2 (List.mem_of_getElem? (i := 133) rfl)) rfl
theorem mw2_134 : Cond.methodLink RL 41 yX2_copy ∈ aL := aL_in (tb_2 (List.mem_of_getElem? (i := 134) rfl)) rfl
theorem mw2_135 : Cond.instanceMethod yX2_copy ∈ aL := aL_in (tb_2 (List.mem_of_getElem? (i := 135) rfl)) rfl
theorem mw2_136 : Cond.selects RX2 yX2_copy yX2_copy ∈ aL := aL_in (tb_2 (List.mem_of_getElem? (i := 136) rfl)) rfl
theorem mw2_137 : Cond.code yX2_copy cX2_copy 3 none ∈ aL := aL_in (tb_2 (List.mem_of_getElem? (i := 137) rfl)) rfl
theorem mw2_138 : Cond.methodLink RL 123 yL_rank ∈ aL := aL_in (tb_2 (List.mem_of_getElem? (i := 138) rfl)) rfl
theorem mw2_139 : Cond.static yL_rank ∈ aL := aL_in (tb_2 (List.mem_of_getElem? (i := 139) rfl)) rfl
theorem mw2_140 : Cond.codeWith yL_rank method_11_code 3 (Option.some FieldType.int) [(0, 8, 11, 28)] ∈ aL := aL_in (tb_2 (List.mem_of_getElem? (i := 140) rfl)) rfl
theorem mw2_141 : Cond.methodLink RL 45 yX2_rank ∈ aL := aL_in (tb_2 (List.mem_of_getElem? (i := 141) rfl)) rfl
theorem mw2_142 : Cond.instanceMethod yX2_rank ∈ aL := aL_in (tb_2 (List.mem_of_getElem? (i := 142) rfl)) rfl
theorem mw2_143 : Cond.selects RX2 yX2_rank yX2_rank ∈ aL := aL_in (tb_2 (List.mem_of_getElem? (i := 143) rfl)) rfl
theorem mw2_144 : Cond.code yX2_rank cX2_rank 2 (Option.some FieldType.int) ∈ aL := aL_in (tb_2 (List.mem_of_getElem? (i := 144) rfl)) rfl
theorem mw2_145 : Cond.methodLink RX2 107 yX0_rankOf ∈ aL := aL_in (tb_2 (List.mem_of_getElem? (i := 145) rfl)) rfl
theorem mw2_146 : Cond.instanceMethod yX0_rankOf ∈ aL := aL_in (tb_2 (List.mem_of_getElem? (i := 146) rfl)) rfl
theorem mw2_147 : Cond.selects RX0 yX0_rankOf yX0_rankOf ∈ aL := aL_in (tb_2 (List.mem_of_getElem? (i := 147) rfl)) rfl
theorem mw2_148 : Cond.code yX0_rankOf cX0_rankOf 5 (Option.some FieldType.int) ∈ aL := aL_in (tb_2 (List.mem_of_getElem? (i := 148) rfl)) rfl
theorem mw2_149 : Cond.methodLink RL 135 yL_spare ∈ aL := aL_in (tb_2 (List.mem_of_getElem? (i := 149) rfl)) rfl
theorem mw2_150 : Cond.static yL_spare ∈ aL := aL_in (tb_2 (List.mem_of_getElem? (i := 150) rfl)) rfl
theorem mw2_151 : Cond.codeWith yL_spare method_12_code 3 (Option.some FieldType.int) [(0, 8, 11, 52)] ∈ aL := aL_in (tb_2 (List.mem_of_getElem? (i := 151) rfl)) rfl
theorem mw2_152 : Cond.classLink RL 52 "java/lang/IllegalStateException" ∈ aL := aL_in (tb_2 (List.mem_of_getElem? (i := 152) rfl)) rfl
theorem mw2_153 : Cond.methodLink RL 49 yX2_spare ∈ aL := aL_in (tb_2 (List.mem_of_getElem? (i := 153) rfl)) rfl
theorem mw2_154 : Cond.instanceMethod yX2_spare ∈ aL := aL_in (tb_2 (List.mem_of_getElem? (i := 154) rfl)) rfl
theorem mw2_155 : Cond.selects RX2 yX2_spare yX2_spare ∈ aL := aL_in (tb_2 (List.mem_of_getElem? (i := 155) rfl)) rfl
theorem mw2_156 : Cond.code yX2_spare cX2_spare 4 (Option.some FieldType.int) ∈ aL := aL_in (tb_2 (List.mem_of_getElem? (i := 156) rfl)) rfl
theorem mw2_157 : Cond.classLink RX2 113 "java/lang/IllegalStateException" ∈ aL := aL_in (tb_2 (List.mem_of_getElem? (i := 157) rfl)) rfl
theorem mw2_158 : Cond.instantiable "java/lang/IllegalStateException" 6 ∈ aL := aL_in (tb_2 (List.mem_of_getElem? (i := 158) rfl)) rfl
theorem mw2_160 : Cond.selects "java/lang/IllegalStateException" (⟨"java/lang/Throwable", "fillInStackTrace", "(I)Ljava/lang/Throwable;"⟩ : MethodName) (⟨"java/lang/Throwable", "fillInStackTrace", "(I)Ljava/lang/Throwable;"⟩ : MethodName) ∈ aL := aL_in (tb_2 (List.mem_of_getElem? (i := 160) rfl)) rfl
theorem mw2_161 : Cond.lays "java/lang/IllegalStateException" "java/lang/Throwable" "cause" "Ljava/lang/Throwable;" ∈ aL := aL_in (tb_2 (List.mem_of_getElem? (i := 161) rfl)) rfl
theorem mw2_162 : Cond.lays "java/lang/IllegalStateException" "java/lang/Throwable" "stackTrace" "[Ljava/lang/StackTraceElement;" ∈ aL := aL_in (tb_2 (List.mem_of_getElem? (i := 162) rfl)) rfl
theorem mw2_163 : Cond.lays "java/lang/IllegalStateException" "java/lang/Throwable" "suppressedExceptions" "Ljava/util/List;" ∈ aL := aL_in (tb_2 (List.mem_of_getElem? (i := 163) rfl)) rfl
theorem mw2_164 : Cond.lays "java/lang/IllegalStateException" "java/lang/Throwable" "detailMessage" "Ljava/lang/String;" ∈ aL := aL_in (tb_2 (List.mem_of_getElem? (i := 164) rfl)) rfl
theorem mw2_165 : Cond.lays "java/lang/IllegalStateException" "java/lang/Throwable" "backtrace" "Ljava/lang/Object;" ∈ aL := aL_in (tb_2 (List.mem_of_getElem? (i := 165) rfl)) rfl
theorem mw2_166 : Cond.methodLink RX2 115 (⟨"java/lang/IllegalStateException", "<init>", "()V"⟩ : MethodName) ∈ aL := aL_in (tb_2 (List.mem_of_getElem? (i := 166) rfl)) rfl
theorem mw2_167 : Cond.instanceMethod (⟨"java/lang/IllegalStateException", "<init>", "()V"⟩ : MethodName) ∈ aL := aL_in (tb_2 (List.mem_of_getElem? (i := 167) rfl)) rfl
theorem mw2_168 : Cond.code (⟨"java/lang/IllegalStateException", "<init>", "()V"⟩ : MethodName) prog_9_method_1_code 1 none ∈ aL := aL_in (tb_2 (List.mem_of_getElem? (i := 168) rfl)) rfl
theorem mw2_169 : Cond.methodLink "java/lang/IllegalStateException" 1 (⟨"java/lang/RuntimeException", "<init>", "()V"⟩ : MethodName) ∈ aL := aL_in (tb_2 (List.mem_of_getElem? (i := 169) rfl)) rfl
theorem mw2_170 : Cond.lays "java/lang/IllegalStateException" "java/lang/Throwable" "depth" "I" ∈ aL := aL_in (tb_2 (List.mem_of_getElem? (i := 170) rfl)) rfl
theorem mw2_172 : Cond.methodLink RL 138 yL_clueOf ∈ aL := aL_in (tb_2 (List.mem_of_getElem? (i := 172) rfl)) rfl
theorem mw2_173 : Cond.static yL_clueOf ∈ aL := aL_in (tb_2 (List.mem_of_getElem? (i := 173) rfl)) rfl
theorem mw2_174 : Cond.codeWith yL_clueOf method_13_code 5 (Option.some FieldType.int) [(0, 10, 13, 13)] ∈ aL := aL_in (tb_2 (List.mem_of_getElem? (i := 174) rfl)) rfl
theorem mw2_175 : Cond.methodLink RL 54 yX2_clueOf ∈ aL := aL_in (tb_2 (List.mem_of_getElem? (i := 175) rfl)) rfl
theorem mw2_176 : Cond.instanceMethod yX2_clueOf ∈ aL := aL_in (tb_2 (List.mem_of_getElem? (i := 176) rfl)) rfl
theorem mw2_177 : Cond.selects RX2 yX2_clueOf yX2_clueOf ∈ aL := aL_in (tb_2 (List.mem_of_getElem? (i := 177) rfl)) rfl
theorem mw2_178 : Cond.code yX2_clueOf cX2_clueOf 3 (Option.some FieldType.int) ∈ aL := aL_in (tb_2 (List.mem_of_getElem? (i := 178) rfl)) rfl
theorem mw2_179 : Cond.classLink RL 67 RX3 ∈ aL := aL_in (tb_2 (List.mem_of_getElem? (i := 179) rfl)) rfl
theorem mw2_180 : Cond.instantiable RX3 32 ∈ aL := aL_in (tb_2 (List.mem_of_getElem? (i := 180) rfl)) rfl
theorem mw2_181 : Cond.methodLink RL 69 yX3_init ∈ aL := aL_in (tb_2 (List.mem_of_getElem? (i := 181) rfl)) rfl
theorem mw2_182 : Cond.instanceMethod yX3_init ∈ aL := aL_in (tb_2 (List.mem_of_getElem? (i := 182) rfl)) rfl
theorem mw2_183 : Cond.code yX3_init cX3_init 6 none ∈ aL := aL_in (tb_2 (List.mem_of_getElem? (i := 183) rfl)) rfl
theorem mw2_184 : Cond.methodLink RX3 1 (⟨"java/lang/Object", "<init>", "()V"⟩ : MethodName) ∈ aL := aL_in (tb_2 (List.mem_of_getElem? (i := 184) rfl)) rfl
theorem mw2_185 : Cond.methodLink RX3 82 yX3_cell ∈ aL := aL_in (tb_2 (List.mem_of_getElem? (i := 185) rfl)) rfl
theorem mw2_187 : Cond.instanceMethod yX3_cell ∈ aL := aL_in (tb_2 (List.mem_of_getElem? (i := 187) rfl)) rfl
theorem mw2_188 : Cond.code yX3_cell cX3_cell 3 (Option.some FieldType.int) ∈ aL := aL_in (tb_2 (List.mem_of_getElem? (i := 188) rfl)) rfl
theorem mw2_189 : Cond.methodLink RX3 86 yX3_join ∈ aL := aL_in (tb_2 (List.mem_of_getElem? (i := 189) rfl)) rfl
theorem mw2_191 : Cond.instanceMethod yX3_join ∈ aL := aL_in (tb_2 (List.mem_of_getElem? (i := 191) rfl)) rfl
theorem mw2_192 : Cond.code yX3_join cX3_join 5 none ∈ aL := aL_in (tb_2 (List.mem_of_getElem? (i := 192) rfl)) rfl
theorem mw2_193 : Cond.methodLink RX3 96 yX3_meet ∈ aL := aL_in (tb_2 (List.mem_of_getElem? (i := 193) rfl)) rfl
theorem mw2_195 : Cond.instanceMethod yX3_meet ∈ aL := aL_in (tb_2 (List.mem_of_getElem? (i := 195) rfl)) rfl
theorem mw2_196 : Cond.code yX3_meet cX3_meet 4 none ∈ aL := aL_in (tb_2 (List.mem_of_getElem? (i := 196) rfl)) rfl
theorem mw2_197 : Cond.methodLink RX3 100 yX3_border ∈ aL := aL_in (tb_2 (List.mem_of_getElem? (i := 197) rfl)) rfl
theorem mw2_199 : Cond.instanceMethod yX3_border ∈ aL := aL_in (tb_2 (List.mem_of_getElem? (i := 199) rfl)) rfl
theorem mw2_200 : Cond.code yX3_border cX3_border 3 none ∈ aL := aL_in (tb_2 (List.mem_of_getElem? (i := 200) rfl)) rfl
theorem mw2_201 : Cond.methodLink RX3 90 yX3_findLoops ∈ aL := aL_in (tb_2 (List.mem_of_getElem? (i := 201) rfl)) rfl
theorem mw2_203 : Cond.instanceMethod yX3_findLoops ∈ aL := aL_in (tb_2 (List.mem_of_getElem? (i := 203) rfl)) rfl
theorem mw2_204 : Cond.code yX3_findLoops cX3_findLoops 5 none ∈ aL := aL_in (tb_2 (List.mem_of_getElem? (i := 204) rfl)) rfl
theorem mw2_205 : Cond.methodLink RX3 140 yX3_borderOf ∈ aL := aL_in (tb_2 (List.mem_of_getElem? (i := 205) rfl)) rfl
theorem mw2_207 : Cond.instanceMethod yX3_borderOf ∈ aL := aL_in (tb_2 (List.mem_of_getElem? (i := 207) rfl)) rfl
theorem mw2_208 : Cond.code yX3_borderOf cX3_borderOf 6 (Option.some FieldType.int) ∈ aL := aL_in (tb_2 (List.mem_of_getElem? (i := 208) rfl)) rfl
theorem mw2_209 : Cond.methodLink RX3 136 yX3_bit ∈ aL := aL_in (tb_2 (List.mem_of_getElem? (i := 209) rfl)) rfl
theorem mw2_210 : Cond.static yX3_bit ∈ aL := aL_in (tb_2 (List.mem_of_getElem? (i := 210) rfl)) rfl
theorem mw2_211 : Cond.code yX3_bit cX3_bit 1 (Option.some FieldType.int) ∈ aL := aL_in (tb_2 (List.mem_of_getElem? (i := 211) rfl)) rfl
theorem mw2_212 : Cond.methodLink RX3 143 yX3_isLoopSet ∈ aL := aL_in (tb_2 (List.mem_of_getElem? (i := 212) rfl)) rfl
theorem mw2_214 : Cond.instanceMethod yX3_isLoopSet ∈ aL := aL_in (tb_2 (List.mem_of_getElem? (i := 214) rfl)) rfl
theorem mw2_215 : Cond.code yX3_isLoopSet cX3_isLoopSet 2 (Option.some FieldType.boolean) ∈ aL := aL_in (tb_2 (List.mem_of_getElem? (i := 215) rfl)) rfl
theorem mw2_216 : Cond.methodLink RX3 128 yX3_measure ∈ aL := aL_in (tb_2 (List.mem_of_getElem? (i := 216) rfl)) rfl
theorem mw2_218 : Cond.instanceMethod yX3_measure ∈ aL := aL_in (tb_2 (List.mem_of_getElem? (i := 218) rfl)) rfl
theorem mw2_219 : Cond.code yX3_measure cX3_measure 3 none ∈ aL := aL_in (tb_2 (List.mem_of_getElem? (i := 219) rfl)) rfl
theorem mw2_220 : Cond.methodLink RX3 106 yX3_isIn ∈ aL := aL_in (tb_2 (List.mem_of_getElem? (i := 220) rfl)) rfl
theorem mw2_221 : Cond.static yX3_isIn ∈ aL := aL_in (tb_2 (List.mem_of_getElem? (i := 221) rfl)) rfl
theorem mw2_222 : Cond.code yX3_isIn cX3_isIn 2 (Option.some FieldType.boolean) ∈ aL := aL_in (tb_2 (List.mem_of_getElem? (i := 222) rfl)) rfl
theorem mw2_223 : Cond.methodLink RX3 132 yX3_isRing ∈ aL := aL_in (tb_2 (List.mem_of_getElem? (i := 223) rfl)) rfl
theorem mw2_225 : Cond.instanceMethod yX3_isRing ∈ aL := aL_in (tb_2 (List.mem_of_getElem? (i := 225) rfl)) rfl
theorem mw2_226 : Cond.code yX3_isRing cX3_isRing 3 (Option.some FieldType.boolean) ∈ aL := aL_in (tb_2 (List.mem_of_getElem? (i := 226) rfl)) rfl
theorem mw2_227 : Cond.methodLink RX3 114 yX3_unseen ∈ aL := aL_in (tb_2 (List.mem_of_getElem? (i := 227) rfl)) rfl
theorem mw2_229 : Cond.instanceMethod yX3_unseen ∈ aL := aL_in (tb_2 (List.mem_of_getElem? (i := 229) rfl)) rfl
theorem mw2_230 : Cond.code yX3_unseen cX3_unseen 2 (Option.some FieldType.int) ∈ aL := aL_in (tb_2 (List.mem_of_getElem? (i := 230) rfl)) rfl
theorem mw2_231 : Cond.methodLink RX3 118 yX3_isThin ∈ aL := aL_in (tb_2 (List.mem_of_getElem? (i := 231) rfl)) rfl
theorem mw2_233 : Cond.instanceMethod yX3_isThin ∈ aL := aL_in (tb_2 (List.mem_of_getElem? (i := 233) rfl)) rfl
theorem mw2_234 : Cond.code yX3_isThin cX3_isThin 3 (Option.some FieldType.boolean) ∈ aL := aL_in (tb_2 (List.mem_of_getElem? (i := 234) rfl)) rfl
theorem mw2_235 : Cond.methodLink RX3 122 yX3_hasEnds ∈ aL := aL_in (tb_2 (List.mem_of_getElem? (i := 235) rfl)) rfl
theorem mw2_237 : Cond.instanceMethod yX3_hasEnds ∈ aL := aL_in (tb_2 (List.mem_of_getElem? (i := 237) rfl)) rfl
theorem mw2_238 : Cond.code yX3_hasEnds cX3_hasEnds 3 (Option.some FieldType.boolean) ∈ aL := aL_in (tb_2 (List.mem_of_getElem? (i := 238) rfl)) rfl
theorem mw2_239 : Cond.methodLink RX3 125 yX3_walk ∈ aL := aL_in (tb_2 (List.mem_of_getElem? (i := 239) rfl)) rfl
theorem mw3_1 : Cond.instanceMethod yX3_walk ∈ aL := aL_in (tb_3 (List.mem_of_getElem? (i := 1) rfl)) rfl
theorem mw3_2 : Cond.code yX3_walk cX3_walk 6 (Option.some FieldType.int) ∈ aL := aL_in (tb_3 (List.mem_of_getElem? (i := 2) rfl)) rfl
theorem mw3_3 : Cond.methodLink RX3 110 yX3_onward ∈ aL := aL_in (tb_3 (List.mem_of_getElem? (i := 3) rfl)) rfl
theorem mw3_5 : Cond.instanceMethod yX3_onward ∈ aL := aL_in (tb_3 (List.mem_of_getElem? (i := 5) rfl)) rfl
theorem mw3_6 : Cond.code yX3_onward cX3_onward 5 (Option.some FieldType.int) ∈ aL := aL_in (tb_3 (List.mem_of_getElem? (i := 6) rfl)) rfl
theorem mw3_7 : Cond.fieldLink RX3 103 "LoopDiagramModel" "thrown" "I" ∈ aL := aL_in (tb_3 (List.mem_of_getElem? (i := 7) rfl)) rfl
theorem mw3_8 : Cond.fieldLink RX3 72 "LoopDiagramModel" "rows" "I" ∈ aL := aL_in (tb_3 (List.mem_of_getElem? (i := 8) rfl)) rfl
theorem mw3_9 : Cond.fieldLink RX3 76 "LoopDiagramModel" "columns" "I" ∈ aL := aL_in (tb_3 (List.mem_of_getElem? (i := 9) rfl)) rfl
theorem mw3_10 : Cond.fieldLink RX3 79 "LoopDiagramModel" "points" "I" ∈ aL := aL_in (tb_3 (List.mem_of_getElem? (i := 10) rfl)) rfl
theorem mw3_11 : Cond.fieldLink RX3 93 "LoopDiagramModel" "count" "I" ∈ aL := aL_in (tb_3 (List.mem_of_getElem? (i := 11) rfl)) rfl
theorem mw3_12 : Cond.fieldLink RX3 7 "LoopDiagramModel" "low" "[I" ∈ aL := aL_in (tb_3 (List.mem_of_getElem? (i := 12) rfl)) rfl
theorem mw3_13 : Cond.fieldLink RX3 13 "LoopDiagramModel" "high" "[I" ∈ aL := aL_in (tb_3 (List.mem_of_getElem? (i := 13) rfl)) rfl
theorem mw3_14 : Cond.fieldLink RX3 16 "LoopDiagramModel" "one" "[I" ∈ aL := aL_in (tb_3 (List.mem_of_getElem? (i := 14) rfl)) rfl
theorem mw3_15 : Cond.fieldLink RX3 19 "LoopDiagramModel" "other" "[I" ∈ aL := aL_in (tb_3 (List.mem_of_getElem? (i := 15) rfl)) rfl
theorem mw3_16 : Cond.fieldLink RX3 22 "LoopDiagramModel" "ends" "[I" ∈ aL := aL_in (tb_3 (List.mem_of_getElem? (i := 16) rfl)) rfl
theorem mw3_17 : Cond.fieldLink RX3 25 "LoopDiagramModel" "first" "[I" ∈ aL := aL_in (tb_3 (List.mem_of_getElem? (i := 17) rfl)) rfl
theorem mw3_18 : Cond.fieldLink RX3 28 "LoopDiagramModel" "last" "[I" ∈ aL := aL_in (tb_3 (List.mem_of_getElem? (i := 18) rfl)) rfl
theorem mw3_19 : Cond.fieldLink RX3 31 "LoopDiagramModel" "cellFirst" "[I" ∈ aL := aL_in (tb_3 (List.mem_of_getElem? (i := 19) rfl)) rfl
theorem mw3_20 : Cond.fieldLink RX3 34 "LoopDiagramModel" "cellLast" "[I" ∈ aL := aL_in (tb_3 (List.mem_of_getElem? (i := 20) rfl)) rfl
theorem mw3_21 : Cond.fieldLink RX3 146 "LoopDiagramModel" "loops" "I" ∈ aL := aL_in (tb_3 (List.mem_of_getElem? (i := 21) rfl)) rfl
theorem mw3_22 : Cond.fieldLink RX3 37 "LoopDiagramModel" "loop" "[I" ∈ aL := aL_in (tb_3 (List.mem_of_getElem? (i := 22) rfl)) rfl
theorem mw3_23 : Cond.fieldLink RX3 40 "LoopDiagramModel" "clues" "[I" ∈ aL := aL_in (tb_3 (List.mem_of_getElem? (i := 23) rfl)) rfl
theorem mw3_24 : Cond.fieldLink RX3 152 "LoopDiagramModel" "known" "Z" ∈ aL := aL_in (tb_3 (List.mem_of_getElem? (i := 24) rfl)) rfl
theorem mw3_25 : Cond.fieldLink RX3 159 "LoopDiagramModel" "solutions" "I" ∈ aL := aL_in (tb_3 (List.mem_of_getElem? (i := 25) rfl)) rfl
theorem mw3_26 : Cond.fieldLink RX3 43 "LoopDiagramModel" "solution" "[I" ∈ aL := aL_in (tb_3 (List.mem_of_getElem? (i := 26) rfl)) rfl
theorem mw3_27 : Cond.fieldLink RX3 156 "LoopDiagramModel" "measured" "Z" ∈ aL := aL_in (tb_3 (List.mem_of_getElem? (i := 27) rfl)) rfl
theorem mw3_28 : Cond.fieldLink RX3 46 "LoopDiagramModel" "wide" "[I" ∈ aL := aL_in (tb_3 (List.mem_of_getElem? (i := 28) rfl)) rfl
theorem mw3_29 : Cond.fieldLink RX3 49 "LoopDiagramModel" "useful" "[I" ∈ aL := aL_in (tb_3 (List.mem_of_getElem? (i := 29) rfl)) rfl
theorem mw3_30 : Cond.fieldLink RX3 184 "LoopDiagramModel" "held" "I" ∈ aL := aL_in (tb_3 (List.mem_of_getElem? (i := 30) rfl)) rfl
theorem mw3_31 : Cond.fieldLink RX3 52 "LoopDiagramModel" "hold" "[I" ∈ aL := aL_in (tb_3 (List.mem_of_getElem? (i := 31) rfl)) rfl
theorem mw3_32 : Cond.fieldLink RX3 178 "LoopDiagramModel" "next" "I" ∈ aL := aL_in (tb_3 (List.mem_of_getElem? (i := 32) rfl)) rfl
theorem mw3_33 : Cond.fieldLink RX3 55 "LoopDiagramModel" "nextHold" "[I" ∈ aL := aL_in (tb_3 (List.mem_of_getElem? (i := 33) rfl)) rfl
theorem mw3_34 : Cond.fieldLink RX3 58 "LoopDiagramModel" "keys" "[J" ∈ aL := aL_in (tb_3 (List.mem_of_getElem? (i := 34) rfl)) rfl
theorem mw3_35 : Cond.fieldLink RX3 62 "LoopDiagramModel" "table" "[I" ∈ aL := aL_in (tb_3 (List.mem_of_getElem? (i := 35) rfl)) rfl
theorem mw3_36 : Cond.fieldLink RX3 211 "LoopDiagramModel" "drawing" "I" ∈ aL := aL_in (tb_3 (List.mem_of_getElem? (i := 36) rfl)) rfl
theorem mw3_37 : Cond.fieldLink RX3 65 "LoopDiagramModel" "degree" "[I" ∈ aL := aL_in (tb_3 (List.mem_of_getElem? (i := 37) rfl)) rfl
theorem mw3_38 : Cond.fieldLink RX3 68 "LoopDiagramModel" "seen" "[Z" ∈ aL := aL_in (tb_3 (List.mem_of_getElem? (i := 38) rfl)) rfl
theorem mw3_39 : Cond.lays RX3 RX3 "thrown" "I" ∈ aL := aL_in (tb_3 (List.mem_of_getElem? (i := 39) rfl)) rfl
theorem mw3_40 : Cond.soleField RX3 "thrown" ∈ aL := aL_in (tb_3 (List.mem_of_getElem? (i := 40) rfl)) rfl
theorem mw3_41 : Cond.lays RX3 RX3 "rows" "I" ∈ aL := aL_in (tb_3 (List.mem_of_getElem? (i := 41) rfl)) rfl
theorem mw3_42 : Cond.soleField RX3 "rows" ∈ aL := aL_in (tb_3 (List.mem_of_getElem? (i := 42) rfl)) rfl
theorem mw3_43 : Cond.lays RX3 RX3 "columns" "I" ∈ aL := aL_in (tb_3 (List.mem_of_getElem? (i := 43) rfl)) rfl
theorem mw3_44 : Cond.soleField RX3 "columns" ∈ aL := aL_in (tb_3 (List.mem_of_getElem? (i := 44) rfl)) rfl
theorem mw3_45 : Cond.lays RX3 RX3 "points" "I" ∈ aL := aL_in (tb_3 (List.mem_of_getElem? (i := 45) rfl)) rfl
theorem mw3_46 : Cond.soleField RX3 "points" ∈ aL := aL_in (tb_3 (List.mem_of_getElem? (i := 46) rfl)) rfl
theorem mw3_47 : Cond.lays RX3 RX3 "count" "I" ∈ aL := aL_in (tb_3 (List.mem_of_getElem? (i := 47) rfl)) rfl
theorem mw3_48 : Cond.soleField RX3 "count" ∈ aL := aL_in (tb_3 (List.mem_of_getElem? (i := 48) rfl)) rfl
theorem mw3_49 : Cond.laysFinal RX3 RX3 "low" "[I" ∈ aL := aL_in (tb_3 (List.mem_of_getElem? (i := 49) rfl)) rfl
theorem mw3_50 : Cond.soleField RX3 "low" ∈ aL := aL_in (tb_3 (List.mem_of_getElem? (i := 50) rfl)) rfl
theorem mw3_51 : Cond.laysFinal RX3 RX3 "high" "[I" ∈ aL := aL_in (tb_3 (List.mem_of_getElem? (i := 51) rfl)) rfl
theorem mw3_52 : Cond.soleField RX3 "high" ∈ aL := aL_in (tb_3 (List.mem_of_getElem? (i := 52) rfl)) rfl
theorem mw3_53 : Cond.laysFinal RX3 RX3 "one" "[I" ∈ aL := aL_in (tb_3 (List.mem_of_getElem? (i := 53) rfl)) rfl
theorem mw3_54 : Cond.soleField RX3 "one" ∈ aL := aL_in (tb_3 (List.mem_of_getElem? (i := 54) rfl)) rfl
theorem mw3_55 : Cond.laysFinal RX3 RX3 "other" "[I" ∈ aL := aL_in (tb_3 (List.mem_of_getElem? (i := 55) rfl)) rfl
theorem mw3_56 : Cond.soleField RX3 "other" ∈ aL := aL_in (tb_3 (List.mem_of_getElem? (i := 56) rfl)) rfl
theorem mw3_57 : Cond.laysFinal RX3 RX3 "ends" "[I" ∈ aL := aL_in (tb_3 (List.mem_of_getElem? (i := 57) rfl)) rfl
theorem mw3_58 : Cond.soleField RX3 "ends" ∈ aL := aL_in (tb_3 (List.mem_of_getElem? (i := 58) rfl)) rfl
theorem mw3_59 : Cond.laysFinal RX3 RX3 "first" "[I" ∈ aL := aL_in (tb_3 (List.mem_of_getElem? (i := 59) rfl)) rfl
theorem mw3_60 : Cond.soleField RX3 "first" ∈ aL := aL_in (tb_3 (List.mem_of_getElem? (i := 60) rfl)) rfl
theorem mw3_61 : Cond.laysFinal RX3 RX3 "last" "[I" ∈ aL := aL_in (tb_3 (List.mem_of_getElem? (i := 61) rfl)) rfl
theorem mw3_62 : Cond.soleField RX3 "last" ∈ aL := aL_in (tb_3 (List.mem_of_getElem? (i := 62) rfl)) rfl
theorem mw3_63 : Cond.laysFinal RX3 RX3 "cellFirst" "[I" ∈ aL := aL_in (tb_3 (List.mem_of_getElem? (i := 63) rfl)) rfl
theorem mw3_64 : Cond.soleField RX3 "cellFirst" ∈ aL := aL_in (tb_3 (List.mem_of_getElem? (i := 64) rfl)) rfl
theorem mw3_65 : Cond.laysFinal RX3 RX3 "cellLast" "[I" ∈ aL := aL_in (tb_3 (List.mem_of_getElem? (i := 65) rfl)) rfl
theorem mw3_66 : Cond.soleField RX3 "cellLast" ∈ aL := aL_in (tb_3 (List.mem_of_getElem? (i := 66) rfl)) rfl
theorem mw3_67 : Cond.lays RX3 RX3 "loops" "I" ∈ aL := aL_in (tb_3 (List.mem_of_getElem? (i := 67) rfl)) rfl
theorem mw3_68 : Cond.soleField RX3 "loops" ∈ aL := aL_in (tb_3 (List.mem_of_getElem? (i := 68) rfl)) rfl
theorem mw3_69 : Cond.laysFinal RX3 RX3 "loop" "[I" ∈ aL := aL_in (tb_3 (List.mem_of_getElem? (i := 69) rfl)) rfl
theorem mw3_70 : Cond.soleField RX3 "loop" ∈ aL := aL_in (tb_3 (List.mem_of_getElem? (i := 70) rfl)) rfl
theorem mw3_71 : Cond.laysFinal RX3 RX3 "clues" "[I" ∈ aL := aL_in (tb_3 (List.mem_of_getElem? (i := 71) rfl)) rfl
theorem mw3_72 : Cond.soleField RX3 "clues" ∈ aL := aL_in (tb_3 (List.mem_of_getElem? (i := 72) rfl)) rfl
theorem mw3_73 : Cond.lays RX3 RX3 "known" "Z" ∈ aL := aL_in (tb_3 (List.mem_of_getElem? (i := 73) rfl)) rfl
theorem mw3_74 : Cond.soleField RX3 "known" ∈ aL := aL_in (tb_3 (List.mem_of_getElem? (i := 74) rfl)) rfl
theorem mw3_75 : Cond.lays RX3 RX3 "solutions" "I" ∈ aL := aL_in (tb_3 (List.mem_of_getElem? (i := 75) rfl)) rfl
theorem mw3_76 : Cond.soleField RX3 "solutions" ∈ aL := aL_in (tb_3 (List.mem_of_getElem? (i := 76) rfl)) rfl
theorem mw3_77 : Cond.laysFinal RX3 RX3 "solution" "[I" ∈ aL := aL_in (tb_3 (List.mem_of_getElem? (i := 77) rfl)) rfl
theorem mw3_78 : Cond.soleField RX3 "solution" ∈ aL := aL_in (tb_3 (List.mem_of_getElem? (i := 78) rfl)) rfl
theorem mw3_79 : Cond.lays RX3 RX3 "measured" "Z" ∈ aL := aL_in (tb_3 (List.mem_of_getElem? (i := 79) rfl)) rfl
theorem mw3_80 : Cond.soleField RX3 "measured" ∈ aL := aL_in (tb_3 (List.mem_of_getElem? (i := 80) rfl)) rfl
theorem mw3_81 : Cond.laysFinal RX3 RX3 "wide" "[I" ∈ aL := aL_in (tb_3 (List.mem_of_getElem? (i := 81) rfl)) rfl
theorem mw3_82 : Cond.soleField RX3 "wide" ∈ aL := aL_in (tb_3 (List.mem_of_getElem? (i := 82) rfl)) rfl
theorem mw3_83 : Cond.laysFinal RX3 RX3 "useful" "[I" ∈ aL := aL_in (tb_3 (List.mem_of_getElem? (i := 83) rfl)) rfl
theorem mw3_84 : Cond.soleField RX3 "useful" ∈ aL := aL_in (tb_3 (List.mem_of_getElem? (i := 84) rfl)) rfl
theorem mw3_85 : Cond.lays RX3 RX3 "held" "I" ∈ aL := aL_in (tb_3 (List.mem_of_getElem? (i := 85) rfl)) rfl
theorem mw3_86 : Cond.soleField RX3 "held" ∈ aL := aL_in (tb_3 (List.mem_of_getElem? (i := 86) rfl)) rfl
theorem mw3_87 : Cond.laysFinal RX3 RX3 "hold" "[I" ∈ aL := aL_in (tb_3 (List.mem_of_getElem? (i := 87) rfl)) rfl
theorem mw3_88 : Cond.soleField RX3 "hold" ∈ aL := aL_in (tb_3 (List.mem_of_getElem? (i := 88) rfl)) rfl
theorem mw3_89 : Cond.lays RX3 RX3 "next" "I" ∈ aL := aL_in (tb_3 (List.mem_of_getElem? (i := 89) rfl)) rfl
theorem mw3_90 : Cond.soleField RX3 "next" ∈ aL := aL_in (tb_3 (List.mem_of_getElem? (i := 90) rfl)) rfl
theorem mw3_91 : Cond.laysFinal RX3 RX3 "nextHold" "[I" ∈ aL := aL_in (tb_3 (List.mem_of_getElem? (i := 91) rfl)) rfl
theorem mw3_92 : Cond.soleField RX3 "nextHold" ∈ aL := aL_in (tb_3 (List.mem_of_getElem? (i := 92) rfl)) rfl
theorem mw3_93 : Cond.laysFinal RX3 RX3 "keys" "[J" ∈ aL := aL_in (tb_3 (List.mem_of_getElem? (i := 93) rfl)) rfl
theorem mw3_94 : Cond.soleField RX3 "keys" ∈ aL := aL_in (tb_3 (List.mem_of_getElem? (i := 94) rfl)) rfl
theorem mw3_95 : Cond.laysFinal RX3 RX3 "table" "[I" ∈ aL := aL_in (tb_3 (List.mem_of_getElem? (i := 95) rfl)) rfl
theorem mw3_96 : Cond.soleField RX3 "table" ∈ aL := aL_in (tb_3 (List.mem_of_getElem? (i := 96) rfl)) rfl
theorem mw3_97 : Cond.lays RX3 RX3 "drawing" "I" ∈ aL := aL_in (tb_3 (List.mem_of_getElem? (i := 97) rfl)) rfl
theorem mw3_98 : Cond.soleField RX3 "drawing" ∈ aL := aL_in (tb_3 (List.mem_of_getElem? (i := 98) rfl)) rfl
theorem mw3_99 : Cond.laysFinal RX3 RX3 "degree" "[I" ∈ aL := aL_in (tb_3 (List.mem_of_getElem? (i := 99) rfl)) rfl
theorem mw3_100 : Cond.soleField RX3 "degree" ∈ aL := aL_in (tb_3 (List.mem_of_getElem? (i := 100) rfl)) rfl
theorem mw3_101 : Cond.laysFinal RX3 RX3 "seen" "[Z" ∈ aL := aL_in (tb_3 (List.mem_of_getElem? (i := 101) rfl)) rfl
theorem mw3_102 : Cond.soleField RX3 "seen" ∈ aL := aL_in (tb_3 (List.mem_of_getElem? (i := 102) rfl)) rfl
theorem mw3_104 : Cond.arrayClass FieldType.long ∈ aL := aL_in (tb_3 (List.mem_of_getElem? (i := 104) rfl)) rfl
theorem mw3_105 : Cond.methodLink RL 78 yX3_thrown ∈ aL := aL_in (tb_3 (List.mem_of_getElem? (i := 105) rfl)) rfl
theorem mw3_106 : Cond.instanceMethod yX3_thrown ∈ aL := aL_in (tb_3 (List.mem_of_getElem? (i := 106) rfl)) rfl
theorem mw3_107 : Cond.selects RX3 yX3_thrown yX3_thrown ∈ aL := aL_in (tb_3 (List.mem_of_getElem? (i := 107) rfl)) rfl
theorem mw3_108 : Cond.code yX3_thrown cX3_thrown 1 (Option.some FieldType.int) ∈ aL := aL_in (tb_3 (List.mem_of_getElem? (i := 108) rfl)) rfl
theorem mw3_109 : Cond.methodLink RL 73 yX3_edges ∈ aL := aL_in (tb_3 (List.mem_of_getElem? (i := 109) rfl)) rfl
theorem mw3_110 : Cond.instanceMethod yX3_edges ∈ aL := aL_in (tb_3 (List.mem_of_getElem? (i := 110) rfl)) rfl
theorem mw3_111 : Cond.selects RX3 yX3_edges yX3_edges ∈ aL := aL_in (tb_3 (List.mem_of_getElem? (i := 111) rfl)) rfl
theorem mw3_112 : Cond.code yX3_edges cX3_edges 1 (Option.some FieldType.int) ∈ aL := aL_in (tb_3 (List.mem_of_getElem? (i := 112) rfl)) rfl
theorem mw3_113 : Cond.methodLink RL 77 yX3_point ∈ aL := aL_in (tb_3 (List.mem_of_getElem? (i := 113) rfl)) rfl
theorem mw3_114 : Cond.instanceMethod yX3_point ∈ aL := aL_in (tb_3 (List.mem_of_getElem? (i := 114) rfl)) rfl
theorem mw3_115 : Cond.selects RX3 yX3_point yX3_point ∈ aL := aL_in (tb_3 (List.mem_of_getElem? (i := 115) rfl)) rfl
theorem mw3_116 : Cond.code yX3_point cX3_point 3 (Option.some FieldType.int) ∈ aL := aL_in (tb_3 (List.mem_of_getElem? (i := 116) rfl)) rfl
theorem mw3_117 : Cond.methodLink RX3 196 yX3_isEdge ∈ aL := aL_in (tb_3 (List.mem_of_getElem? (i := 117) rfl)) rfl
theorem mw3_119 : Cond.instanceMethod yX3_isEdge ∈ aL := aL_in (tb_3 (List.mem_of_getElem? (i := 119) rfl)) rfl
theorem mw3_120 : Cond.code yX3_isEdge cX3_isEdge 2 (Option.some FieldType.boolean) ∈ aL := aL_in (tb_3 (List.mem_of_getElem? (i := 120) rfl)) rfl
theorem mw3_121 : Cond.methodLink RL 84 yX3_clue ∈ aL := aL_in (tb_3 (List.mem_of_getElem? (i := 121) rfl)) rfl
theorem mw3_122 : Cond.instanceMethod yX3_clue ∈ aL := aL_in (tb_3 (List.mem_of_getElem? (i := 122) rfl)) rfl
theorem mw3_123 : Cond.selects RX3 yX3_clue yX3_clue ∈ aL := aL_in (tb_3 (List.mem_of_getElem? (i := 123) rfl)) rfl
theorem mw3_124 : Cond.code yX3_clue cX3_clue 5 none ∈ aL := aL_in (tb_3 (List.mem_of_getElem? (i := 124) rfl)) rfl
theorem mw3_125 : Cond.methodLink RL 140 yX3_clueOf ∈ aL := aL_in (tb_3 (List.mem_of_getElem? (i := 125) rfl)) rfl
theorem mw3_126 : Cond.instanceMethod yX3_clueOf ∈ aL := aL_in (tb_3 (List.mem_of_getElem? (i := 126) rfl)) rfl
theorem mw3_127 : Cond.selects RX3 yX3_clueOf yX3_clueOf ∈ aL := aL_in (tb_3 (List.mem_of_getElem? (i := 127) rfl)) rfl
theorem mw3_128 : Cond.code yX3_clueOf cX3_clueOf 4 (Option.some FieldType.int) ∈ aL := aL_in (tb_3 (List.mem_of_getElem? (i := 128) rfl)) rfl
theorem mw3_129 : Cond.methodLink RL 88 yX3_count ∈ aL := aL_in (tb_3 (List.mem_of_getElem? (i := 129) rfl)) rfl
theorem mw3_130 : Cond.instanceMethod yX3_count ∈ aL := aL_in (tb_3 (List.mem_of_getElem? (i := 130) rfl)) rfl
theorem mw3_131 : Cond.selects RX3 yX3_count yX3_count ∈ aL := aL_in (tb_3 (List.mem_of_getElem? (i := 131) rfl)) rfl
theorem mw3_132 : Cond.code yX3_count cX3_count 1 (Option.some FieldType.int) ∈ aL := aL_in (tb_3 (List.mem_of_getElem? (i := 132) rfl)) rfl
theorem mw3_133 : Cond.methodLink RX3 181 yX3_find ∈ aL := aL_in (tb_3 (List.mem_of_getElem? (i := 133) rfl)) rfl
theorem mw3_135 : Cond.instanceMethod yX3_find ∈ aL := aL_in (tb_3 (List.mem_of_getElem? (i := 135) rfl)) rfl
theorem mw3_136 : Cond.code yX3_find cX3_find 2 none ∈ aL := aL_in (tb_3 (List.mem_of_getElem? (i := 136) rfl)) rfl
theorem mw3_137 : Cond.methodLink RX3 162 yX3_keepsClues ∈ aL := aL_in (tb_3 (List.mem_of_getElem? (i := 137) rfl)) rfl
theorem mw3_139 : Cond.instanceMethod yX3_keepsClues ∈ aL := aL_in (tb_3 (List.mem_of_getElem? (i := 139) rfl)) rfl
theorem mw3_140 : Cond.code yX3_keepsClues cX3_keepsClues 3 (Option.some FieldType.boolean) ∈ aL := aL_in (tb_3 (List.mem_of_getElem? (i := 140) rfl)) rfl
theorem mw3_141 : Cond.methodLink RX3 149 yX3_sides ∈ aL := aL_in (tb_3 (List.mem_of_getElem? (i := 141) rfl)) rfl
theorem mw3_143 : Cond.instanceMethod yX3_sides ∈ aL := aL_in (tb_3 (List.mem_of_getElem? (i := 143) rfl)) rfl
theorem mw3_144 : Cond.code yX3_sides cX3_sides 5 (Option.some FieldType.int) ∈ aL := aL_in (tb_3 (List.mem_of_getElem? (i := 144) rfl)) rfl
theorem mw3_145 : Cond.methodLink RL 91 yX3_width ∈ aL := aL_in (tb_3 (List.mem_of_getElem? (i := 145) rfl)) rfl
theorem mw3_146 : Cond.instanceMethod yX3_width ∈ aL := aL_in (tb_3 (List.mem_of_getElem? (i := 146) rfl)) rfl
theorem mw3_147 : Cond.selects RX3 yX3_width yX3_width ∈ aL := aL_in (tb_3 (List.mem_of_getElem? (i := 147) rfl)) rfl
theorem mw3_148 : Cond.code yX3_width cX3_width 3 (Option.some FieldType.int) ∈ aL := aL_in (tb_3 (List.mem_of_getElem? (i := 148) rfl)) rfl
theorem mw3_149 : Cond.methodLink RX3 199 yX3_measureLevels ∈ aL := aL_in (tb_3 (List.mem_of_getElem? (i := 149) rfl)) rfl
theorem mw3_151 : Cond.instanceMethod yX3_measureLevels ∈ aL := aL_in (tb_3 (List.mem_of_getElem? (i := 151) rfl)) rfl
theorem mw3_152 : Cond.code yX3_measureLevels cX3_measureLevels 3 none ∈ aL := aL_in (tb_3 (List.mem_of_getElem? (i := 152) rfl)) rfl
theorem mw3_153 : Cond.methodLink RX3 187 yX3_wipe ∈ aL := aL_in (tb_3 (List.mem_of_getElem? (i := 153) rfl)) rfl
theorem mw3_155 : Cond.instanceMethod yX3_wipe ∈ aL := aL_in (tb_3 (List.mem_of_getElem? (i := 155) rfl)) rfl
theorem mw3_156 : Cond.code yX3_wipe cX3_wipe 2 none ∈ aL := aL_in (tb_3 (List.mem_of_getElem? (i := 156) rfl)) rfl
theorem mw3_157 : Cond.methodLink RX3 190 yX3_isUseful ∈ aL := aL_in (tb_3 (List.mem_of_getElem? (i := 157) rfl)) rfl
theorem mw3_159 : Cond.instanceMethod yX3_isUseful ∈ aL := aL_in (tb_3 (List.mem_of_getElem? (i := 159) rfl)) rfl
theorem mw3_160 : Cond.code yX3_isUseful cX3_isUseful 6 (Option.some FieldType.boolean) ∈ aL := aL_in (tb_3 (List.mem_of_getElem? (i := 160) rfl)) rfl
theorem mw3_161 : Cond.methodLink RX3 193 yX3_offer ∈ aL := aL_in (tb_3 (List.mem_of_getElem? (i := 161) rfl)) rfl
theorem mw3_163 : Cond.instanceMethod yX3_offer ∈ aL := aL_in (tb_3 (List.mem_of_getElem? (i := 163) rfl)) rfl
theorem mw3_164 : Cond.code yX3_offer cX3_offer 6 none ∈ aL := aL_in (tb_3 (List.mem_of_getElem? (i := 164) rfl)) rfl
theorem mw3_165 : Cond.methodLink RX3 169 yX3_isAlive ∈ aL := aL_in (tb_3 (List.mem_of_getElem? (i := 165) rfl)) rfl
theorem mw3_167 : Cond.instanceMethod yX3_isAlive ∈ aL := aL_in (tb_3 (List.mem_of_getElem? (i := 167) rfl)) rfl
theorem mw3_168 : Cond.code yX3_isAlive cX3_isAlive 6 (Option.some FieldType.boolean) ∈ aL := aL_in (tb_3 (List.mem_of_getElem? (i := 168) rfl)) rfl
theorem mw3_169 : Cond.methodLink RX3 165 yX3_isCellAlive ∈ aL := aL_in (tb_3 (List.mem_of_getElem? (i := 169) rfl)) rfl
theorem mw3_171 : Cond.instanceMethod yX3_isCellAlive ∈ aL := aL_in (tb_3 (List.mem_of_getElem? (i := 171) rfl)) rfl
theorem mw3_172 : Cond.code yX3_isCellAlive cX3_isCellAlive 5 (Option.some FieldType.boolean) ∈ aL := aL_in (tb_3 (List.mem_of_getElem? (i := 172) rfl)) rfl
theorem mw3_173 : Cond.methodLink RX3 172 yX3_trace ∈ aL := aL_in (tb_3 (List.mem_of_getElem? (i := 173) rfl)) rfl
theorem mw3_175 : Cond.instanceMethod yX3_trace ∈ aL := aL_in (tb_3 (List.mem_of_getElem? (i := 175) rfl)) rfl
theorem mw3_176 : Cond.code yX3_trace cX3_trace 7 (Option.some FieldType.long) ∈ aL := aL_in (tb_3 (List.mem_of_getElem? (i := 176) rfl)) rfl
theorem mw3_177 : Cond.constantLong RX3 176 (-7046029254386353131 : Int64) ∈ aL := aL_in (tb_3 (List.mem_of_getElem? (i := 177) rfl)) rfl
theorem mw3_178 : Cond.methodLink RL 95 yX3_nodes ∈ aL := aL_in (tb_3 (List.mem_of_getElem? (i := 178) rfl)) rfl
theorem mw3_179 : Cond.instanceMethod yX3_nodes ∈ aL := aL_in (tb_3 (List.mem_of_getElem? (i := 179) rfl)) rfl
theorem mw3_180 : Cond.selects RX3 yX3_nodes yX3_nodes ∈ aL := aL_in (tb_3 (List.mem_of_getElem? (i := 180) rfl)) rfl
theorem mw3_181 : Cond.code yX3_nodes cX3_nodes 3 (Option.some FieldType.int) ∈ aL := aL_in (tb_3 (List.mem_of_getElem? (i := 181) rfl)) rfl
theorem mw3_182 : Cond.methodLink RL 99 yX3_has ∈ aL := aL_in (tb_3 (List.mem_of_getElem? (i := 182) rfl)) rfl
theorem mw3_183 : Cond.instanceMethod yX3_has ∈ aL := aL_in (tb_3 (List.mem_of_getElem? (i := 183) rfl)) rfl
theorem mw3_184 : Cond.selects RX3 yX3_has yX3_has ∈ aL := aL_in (tb_3 (List.mem_of_getElem? (i := 184) rfl)) rfl
theorem mw3_185 : Cond.code yX3_has cX3_has 3 (Option.some FieldType.boolean) ∈ aL := aL_in (tb_3 (List.mem_of_getElem? (i := 185) rfl)) rfl
theorem mw3_186 : Cond.methodLink RX3 202 yX3_isSolution ∈ aL := aL_in (tb_3 (List.mem_of_getElem? (i := 186) rfl)) rfl
theorem mw3_188 : Cond.instanceMethod yX3_isSolution ∈ aL := aL_in (tb_3 (List.mem_of_getElem? (i := 188) rfl)) rfl
theorem mw3_189 : Cond.code yX3_isSolution cX3_isSolution 2 (Option.some FieldType.boolean) ∈ aL := aL_in (tb_3 (List.mem_of_getElem? (i := 189) rfl)) rfl
theorem mw3_190 : Cond.methodLink RL 103 yX3_length ∈ aL := aL_in (tb_3 (List.mem_of_getElem? (i := 190) rfl)) rfl
theorem mw3_191 : Cond.instanceMethod yX3_length ∈ aL := aL_in (tb_3 (List.mem_of_getElem? (i := 191) rfl)) rfl
theorem mw3_192 : Cond.selects RX3 yX3_length yX3_length ∈ aL := aL_in (tb_3 (List.mem_of_getElem? (i := 192) rfl)) rfl
theorem mw3_193 : Cond.code yX3_length cX3_length 2 (Option.some FieldType.int) ∈ aL := aL_in (tb_3 (List.mem_of_getElem? (i := 193) rfl)) rfl
theorem mw3_194 : Cond.methodLink RX3 205 yX3_size ∈ aL := aL_in (tb_3 (List.mem_of_getElem? (i := 194) rfl)) rfl
theorem mw3_196 : Cond.instanceMethod yX3_size ∈ aL := aL_in (tb_3 (List.mem_of_getElem? (i := 196) rfl)) rfl
theorem mw3_197 : Cond.code yX3_size cX3_size 4 (Option.some FieldType.int) ∈ aL := aL_in (tb_3 (List.mem_of_getElem? (i := 197) rfl)) rfl
theorem mw3_198 : Cond.methodLink RL 106 yX3_often ∈ aL := aL_in (tb_3 (List.mem_of_getElem? (i := 198) rfl)) rfl
theorem mw3_199 : Cond.instanceMethod yX3_often ∈ aL := aL_in (tb_3 (List.mem_of_getElem? (i := 199) rfl)) rfl
theorem mw3_200 : Cond.selects RX3 yX3_often yX3_often ∈ aL := aL_in (tb_3 (List.mem_of_getElem? (i := 200) rfl)) rfl
theorem mw3_201 : Cond.code yX3_often cX3_often 2 (Option.some FieldType.int) ∈ aL := aL_in (tb_3 (List.mem_of_getElem? (i := 201) rfl)) rfl
theorem mw3_202 : Cond.methodLink RX3 208 yX3_withAll ∈ aL := aL_in (tb_3 (List.mem_of_getElem? (i := 202) rfl)) rfl
theorem mw3_204 : Cond.instanceMethod yX3_withAll ∈ aL := aL_in (tb_3 (List.mem_of_getElem? (i := 204) rfl)) rfl
theorem mw3_205 : Cond.code yX3_withAll cX3_withAll 4 (Option.some FieldType.int) ∈ aL := aL_in (tb_3 (List.mem_of_getElem? (i := 205) rfl)) rfl
theorem mw3_206 : Cond.methodLink RL 109 yX3_draw ∈ aL := aL_in (tb_3 (List.mem_of_getElem? (i := 206) rfl)) rfl
theorem mw3_207 : Cond.instanceMethod yX3_draw ∈ aL := aL_in (tb_3 (List.mem_of_getElem? (i := 207) rfl)) rfl
theorem mw3_208 : Cond.selects RX3 yX3_draw yX3_draw ∈ aL := aL_in (tb_3 (List.mem_of_getElem? (i := 208) rfl)) rfl
theorem mw3_209 : Cond.code yX3_draw cX3_draw 2 (Option.some FieldType.boolean) ∈ aL := aL_in (tb_3 (List.mem_of_getElem? (i := 209) rfl)) rfl
theorem mw3_210 : Cond.methodLink RL 113 yX3_copy ∈ aL := aL_in (tb_3 (List.mem_of_getElem? (i := 210) rfl)) rfl
theorem mw3_211 : Cond.instanceMethod yX3_copy ∈ aL := aL_in (tb_3 (List.mem_of_getElem? (i := 211) rfl)) rfl
theorem mw3_212 : Cond.selects RX3 yX3_copy yX3_copy ∈ aL := aL_in (tb_3 (List.mem_of_getElem? (i := 212) rfl)) rfl
theorem mw3_213 : Cond.code yX3_copy cX3_copy 2 none ∈ aL := aL_in (tb_3 (List.mem_of_getElem? (i := 213) rfl)) rfl
theorem mw3_214 : Cond.methodLink RL 117 yX3_drawn ∈ aL := aL_in (tb_3 (List.mem_of_getElem? (i := 214) rfl)) rfl
theorem mw3_215 : Cond.instanceMethod yX3_drawn ∈ aL := aL_in (tb_3 (List.mem_of_getElem? (i := 215) rfl)) rfl
theorem mw3_216 : Cond.selects RX3 yX3_drawn yX3_drawn ∈ aL := aL_in (tb_3 (List.mem_of_getElem? (i := 216) rfl)) rfl
theorem mw3_217 : Cond.code yX3_drawn cX3_drawn 1 (Option.some FieldType.int) ∈ aL := aL_in (tb_3 (List.mem_of_getElem? (i := 217) rfl)) rfl
theorem mw3_218 : Cond.methodLink RL 122 yX3_isLoop ∈ aL := aL_in (tb_3 (List.mem_of_getElem? (i := 218) rfl)) rfl
theorem mw3_219 : Cond.instanceMethod yX3_isLoop ∈ aL := aL_in (tb_3 (List.mem_of_getElem? (i := 219) rfl)) rfl
theorem mw3_220 : Cond.selects RX3 yX3_isLoop yX3_isLoop ∈ aL := aL_in (tb_3 (List.mem_of_getElem? (i := 220) rfl)) rfl
theorem mw3_221 : Cond.code yX3_isLoop cX3_isLoop 1 (Option.some FieldType.boolean) ∈ aL := aL_in (tb_3 (List.mem_of_getElem? (i := 221) rfl)) rfl
theorem mw3_222 : Cond.methodLink RL 126 yX3_rank ∈ aL := aL_in (tb_3 (List.mem_of_getElem? (i := 222) rfl)) rfl
theorem mw3_223 : Cond.instanceMethod yX3_rank ∈ aL := aL_in (tb_3 (List.mem_of_getElem? (i := 223) rfl)) rfl
theorem mw3_224 : Cond.selects RX3 yX3_rank yX3_rank ∈ aL := aL_in (tb_3 (List.mem_of_getElem? (i := 224) rfl)) rfl
theorem mw3_225 : Cond.code yX3_rank cX3_rank 2 (Option.some FieldType.int) ∈ aL := aL_in (tb_3 (List.mem_of_getElem? (i := 225) rfl)) rfl
theorem mw3_226 : Cond.methodLink RL 130 yX3_above ∈ aL := aL_in (tb_3 (List.mem_of_getElem? (i := 226) rfl)) rfl
theorem mw3_227 : Cond.instanceMethod yX3_above ∈ aL := aL_in (tb_3 (List.mem_of_getElem? (i := 227) rfl)) rfl
theorem mw3_228 : Cond.selects RX3 yX3_above yX3_above ∈ aL := aL_in (tb_3 (List.mem_of_getElem? (i := 228) rfl)) rfl
theorem mw3_229 : Cond.code yX3_above cX3_above 1 (Option.some FieldType.int) ∈ aL := aL_in (tb_3 (List.mem_of_getElem? (i := 229) rfl)) rfl
theorem mw3_230 : Cond.methodLink RL 134 yX3_alive ∈ aL := aL_in (tb_3 (List.mem_of_getElem? (i := 230) rfl)) rfl
theorem mw3_231 : Cond.instanceMethod yX3_alive ∈ aL := aL_in (tb_3 (List.mem_of_getElem? (i := 231) rfl)) rfl
theorem mw3_232 : Cond.selects RX3 yX3_alive yX3_alive ∈ aL := aL_in (tb_3 (List.mem_of_getElem? (i := 232) rfl)) rfl
theorem mw3_233 : Cond.code yX3_alive cX3_alive 4 (Option.some FieldType.int) ∈ aL := aL_in (tb_3 (List.mem_of_getElem? (i := 233) rfl)) rfl
theorem mw3_234 : Cond.methodLink RL 137 yX3_spare ∈ aL := aL_in (tb_3 (List.mem_of_getElem? (i := 234) rfl)) rfl
theorem mw3_235 : Cond.instanceMethod yX3_spare ∈ aL := aL_in (tb_3 (List.mem_of_getElem? (i := 235) rfl)) rfl
theorem mw3_236 : Cond.selects RX3 yX3_spare yX3_spare ∈ aL := aL_in (tb_3 (List.mem_of_getElem? (i := 236) rfl)) rfl
theorem mw3_237 : Cond.code yX3_spare cX3_spare 4 (Option.some FieldType.int) ∈ aL := aL_in (tb_3 (List.mem_of_getElem? (i := 237) rfl)) rfl
theorem mw3_238 : Cond.methodLink RX3 214 yX3_fail ∈ aL := aL_in (tb_3 (List.mem_of_getElem? (i := 238) rfl)) rfl
theorem mw4_0 : Cond.instanceMethod yX3_fail ∈ aL := aL_in (tb_4 (List.mem_of_getElem? (i := 0) rfl)) rfl
theorem mw4_1 : Cond.code yX3_fail cX3_fail 2 (Option.some FieldType.int) ∈ aL := aL_in (tb_4 (List.mem_of_getElem? (i := 1) rfl)) rfl
theorem msel0 : Cond.selects RX2 yX2_fresh yX2_fresh ∈ aL := aL_in (List.mem_append_left _ (List.mem_of_getElem? (i := 0) rfl)) rfl
theorem msel1 : Cond.selects RX0 yX0_nodeAfter yX0_nodeAfter ∈ aL := aL_in (List.mem_append_left _ (List.mem_of_getElem? (i := 1) rfl)) rfl
theorem msel2 : Cond.selects RX1 yX1_sideAfter yX1_sideAfter ∈ aL := aL_in (List.mem_append_left _ (List.mem_of_getElem? (i := 2) rfl)) rfl
theorem msel3 : Cond.selects RX0 yX0_fillWays yX0_fillWays ∈ aL := aL_in (List.mem_append_left _ (List.mem_of_getElem? (i := 3) rfl)) rfl
theorem msel4 : Cond.selects RX2 yX2_isNoEdge yX2_isNoEdge ∈ aL := aL_in (List.mem_append_left _ (List.mem_of_getElem? (i := 4) rfl)) rfl
theorem msel6 : Cond.selects RX2 yX2_isNoCell yX2_isNoCell ∈ aL := aL_in (List.mem_append_left _ (List.mem_of_getElem? (i := 6) rfl)) rfl
theorem msel7 : Cond.selects RX2 yX2_setClue yX2_setClue ∈ aL := aL_in (List.mem_append_left _ (List.mem_of_getElem? (i := 7) rfl)) rfl
theorem msel8 : Cond.selects RX3 yX3_cell yX3_cell ∈ aL := aL_in (List.mem_append_left _ (List.mem_of_getElem? (i := 8) rfl)) rfl
theorem msel9 : Cond.selects RX3 yX3_join yX3_join ∈ aL := aL_in (List.mem_append_left _ (List.mem_of_getElem? (i := 9) rfl)) rfl
theorem msel10 : Cond.selects RX3 yX3_meet yX3_meet ∈ aL := aL_in (List.mem_append_left _ (List.mem_of_getElem? (i := 10) rfl)) rfl
theorem msel11 : Cond.selects RX3 yX3_border yX3_border ∈ aL := aL_in (List.mem_append_left _ (List.mem_of_getElem? (i := 11) rfl)) rfl
theorem msel12 : Cond.selects RX3 yX3_findLoops yX3_findLoops ∈ aL := aL_in (List.mem_append_left _ (List.mem_of_getElem? (i := 12) rfl)) rfl
theorem msel13 : Cond.selects RX3 yX3_borderOf yX3_borderOf ∈ aL := aL_in (List.mem_append_left _ (List.mem_of_getElem? (i := 13) rfl)) rfl
theorem msel14 : Cond.selects RX3 yX3_isLoopSet yX3_isLoopSet ∈ aL := aL_in (List.mem_append_left _ (List.mem_of_getElem? (i := 14) rfl)) rfl
theorem msel15 : Cond.selects RX3 yX3_measure yX3_measure ∈ aL := aL_in (List.mem_append_left _ (List.mem_of_getElem? (i := 15) rfl)) rfl
theorem msel16 : Cond.selects RX3 yX3_isRing yX3_isRing ∈ aL := aL_in (List.mem_append_left _ (List.mem_of_getElem? (i := 16) rfl)) rfl
theorem msel17 : Cond.selects RX3 yX3_unseen yX3_unseen ∈ aL := aL_in (List.mem_append_left _ (List.mem_of_getElem? (i := 17) rfl)) rfl
theorem msel18 : Cond.selects RX3 yX3_isThin yX3_isThin ∈ aL := aL_in (List.mem_append_left _ (List.mem_of_getElem? (i := 18) rfl)) rfl
theorem msel19 : Cond.selects RX3 yX3_hasEnds yX3_hasEnds ∈ aL := aL_in (List.mem_append_left _ (List.mem_of_getElem? (i := 19) rfl)) rfl
theorem msel20 : Cond.selects RX3 yX3_walk yX3_walk ∈ aL := aL_in (List.mem_append_left _ (List.mem_of_getElem? (i := 20) rfl)) rfl
theorem msel21 : Cond.selects RX3 yX3_onward yX3_onward ∈ aL := aL_in (List.mem_append_left _ (List.mem_of_getElem? (i := 21) rfl)) rfl
theorem msel22 : Cond.selects RX3 yX3_isEdge yX3_isEdge ∈ aL := aL_in (List.mem_append_left _ (List.mem_of_getElem? (i := 22) rfl)) rfl
theorem msel23 : Cond.selects RX3 yX3_find yX3_find ∈ aL := aL_in (List.mem_append_left _ (List.mem_of_getElem? (i := 23) rfl)) rfl
theorem msel24 : Cond.selects RX3 yX3_keepsClues yX3_keepsClues ∈ aL := aL_in (List.mem_append_left _ (List.mem_of_getElem? (i := 24) rfl)) rfl
theorem msel25 : Cond.selects RX3 yX3_sides yX3_sides ∈ aL := aL_in (List.mem_append_left _ (List.mem_of_getElem? (i := 25) rfl)) rfl
theorem msel26 : Cond.selects RX3 yX3_measureLevels yX3_measureLevels ∈ aL := aL_in (List.mem_append_left _ (List.mem_of_getElem? (i := 26) rfl)) rfl
theorem msel27 : Cond.selects RX3 yX3_wipe yX3_wipe ∈ aL := aL_in (List.mem_append_left _ (List.mem_of_getElem? (i := 27) rfl)) rfl
theorem msel28 : Cond.selects RX3 yX3_isUseful yX3_isUseful ∈ aL := aL_in (List.mem_append_left _ (List.mem_of_getElem? (i := 28) rfl)) rfl
theorem msel29 : Cond.selects RX3 yX3_offer yX3_offer ∈ aL := aL_in (List.mem_append_left _ (List.mem_of_getElem? (i := 29) rfl)) rfl
theorem msel30 : Cond.selects RX3 yX3_isAlive yX3_isAlive ∈ aL := aL_in (List.mem_append_left _ (List.mem_of_getElem? (i := 30) rfl)) rfl
theorem msel31 : Cond.selects RX3 yX3_isCellAlive yX3_isCellAlive ∈ aL := aL_in (List.mem_append_left _ (List.mem_of_getElem? (i := 31) rfl)) rfl
theorem msel32 : Cond.selects RX3 yX3_trace yX3_trace ∈ aL := aL_in (List.mem_append_left _ (List.mem_of_getElem? (i := 32) rfl)) rfl
theorem msel33 : Cond.selects RX3 yX3_isSolution yX3_isSolution ∈ aL := aL_in (List.mem_append_left _ (List.mem_of_getElem? (i := 33) rfl)) rfl
theorem msel34 : Cond.selects RX3 yX3_size yX3_size ∈ aL := aL_in (List.mem_append_left _ (List.mem_of_getElem? (i := 34) rfl)) rfl
theorem msel35 : Cond.selects RX3 yX3_withAll yX3_withAll ∈ aL := aL_in (List.mem_append_left _ (List.mem_of_getElem? (i := 35) rfl)) rfl
theorem msel36 : Cond.selects RX3 yX3_fail yX3_fail ∈ aL := aL_in (List.mem_append_left _ (List.mem_of_getElem? (i := 36) rfl)) rfl
end
section
/-! The judgement V: a frame at pc with the listed locals and stack, over a world of cells; the heap, the locals' array and the facts of the method's frame are inside it. -/
abbrev VK : Type := (Program × Env × State × MethodId × Array Value) × (List Frame × Method × Code) × ((Nat → Prop) × Heap) × (State → Prop)
def nestW : Cond := Cond.methodLinkNest RX0 55 yX2_hasBit RX2
def VC (l : Launch) (D : va_G) (tys : List (ClassId × FieldType)) (cc : ByteArray) (nL : Nat) (own : String) (p : Program) (s : State) (m : MethodId) (args : Array Value) (meth : Method) (c : Code) (A : Nat → Prop) (H0 : Heap) : Prop :=
  p.tables.exec = Jvm.exec ∧ c.code = cc ∧ c.maxLocals = nL ∧ s.vm.findClass own = some m.cls ∧ (∀ w ∈ aL, w.before args s = true) ∧ va_K D vwCl tys s ∧ (∀ q, H0.size ≤ q → A q) ∧ meth.locks = false ∧ va_Nw nestW s ∧ l.flags = flags0
def V (k : VK) (l : Launch) (D : va_G) (tys : List (ClassId × FieldType)) (R : Room) (cc : ByteArray) (nL : Nat) (own : String) (w : va_W) (cells slots pc : Nat) (lv : List (Nat × Value)) (st : List Value) : Prop :=
  VC l D tys cc nL own k.1.1 k.1.2.2.1 k.1.2.2.2.1 k.1.2.2.2.2 k.2.1.2.1 k.2.1.2.2 k.2.2.1.1 k.2.2.1.2 →
  ∀ (H : Heap) (locs : List Loc) (ls : Array Slot), va_P D vwCl w H → va_D k.2.2.1.1 w → va_S k.2.2.1.1 k.2.2.1.2 H locs → lv_has ls nL lv →
    W k.1.1 l k.1.2.1 R k.1.2.2.1 k.1.2.2.2.1 k.1.2.2.2.2 k.2.1.1 k.2.1.2.1 k.2.1.2.2 H locs cells slots k.2.2.2 (F0 k.1.2.2.2.1 pc ls st)
def bI (b : Bool) : Int32 := if b then 1 else 0
/-- what a method leaves -/
def QCt (D : va_G) (tys : List (ClassId × FieldType)) (A : Nat → Prop) (Po : Option Value → va_W → Prop) : Array Value → State → Outcome → State → Prop := fun _ st oc t =>
  (∃ (r : Option Value) (u : va_W), oc = .returned r ∧ Po r u ∧ va_P D vwCl u t.heap ∧ va_K D vwCl tys t ∧ va_D A u) ∧ va_F A st t
def PCt (D : va_G) (tys : List (ClassId × FieldType)) (w : va_W) (sz : Nat) : State → Prop := fun U => U.heap.size = sz ∧ va_P D vwCl w U.heap ∧ va_K D vwCl tys U ∧ va_D (fun _ => True) w ∧ va_Nw nestW U
/-- a method's contract: from the world w with the arguments av it returns r and leaves the world u, with Po r u -/
def Ct (l : Launch) (y : MethodName) (cc : ByteArray) (n : Nat) (ret : Option FieldType) (rm : Room) (D : va_G) (tys tys2 : List (ClassId × FieldType)) (w : va_W) (av : List Value) (Po : Option Value → va_W → Prop) (mc ms : Nat) : Prop :=
  ∀ sz : Nat, Met l y (Cond.code y cc n ret :: aL) rm (va_Pc av (PCt D tys w sz)) (QCt D tys2 (va_A w sz) Po) mc ms (va_A w sz)
/-- the end that a method's body owes -/
def VRet (k : VK) (D : va_G) (tys2 : List (ClassId × FieldType)) (ret : Option FieldType) (Po : Option Value → va_W → Prop) (mc ms : Nat) : Prop :=
  k.2.1.2.1.sig.returnType = ret ∧ k.2.2.1.2 = k.1.2.2.1.heap ∧ k.2.2.2 = MQ k.2.1.1 (QCt D tys2 k.2.2.1.1 Po) k.1.2.2.2.2 k.1.2.2.1 mc ms k.2.2.1.1
def VInit (k : VK) : Prop := k.2.1.2.1.name = "<init>"
theorem Ct.of {l : Launch} {y : MethodName} {cc : ByteArray} {n : Nat} {ret : Option FieldType} {rm : Room} {D : va_G} {tys tys2 : List (ClassId × FieldType)} {w : va_W} {av : List Value} {Po : Option Value → va_W → Prop} {mc ms : Nat} (hfl : l.flags = flags0) (hy : plainName y.cls = true) (hn : (lg_sl av).length ≤ n)
    (body : ∀ k : VK, VRet k D tys2 ret Po mc ms → (∀ d, y = ⟨y.cls, "<init>", d⟩ → VInit k) → V k l D tys rm cc n y.cls w 0 0 0 (lv_args 0 av) []) : Ct l y cc n ret rm D tys tys2 w av Po mc ms := by
  intro sz
  refine Met.ofW (cc := cc) (maxL := n) (ret := ret) hy rfl ?_
  intro p e s m args below meth c s₁ B hml hv
  obtain ⟨rfl, hsz, hP, hK, hD0, hN⟩ := hv
  subst hsz
  have hts : ∀ w ∈ aL, w.before av.toArray s = true := fun w hw => atoms_spec (ws := Cond.code y cc n ret :: aL) B.pre w (List.mem_cons_of_mem _ hw)
  have hl := lv_entry av (n := n) hn
  rw [lg_entry_eq]
  have hb := body ((p, e, s, m, av.toArray), (below, meth, c), (va_A w s.heap.size, s.heap), MQ below (QCt D tys2 (va_A w s.heap.size) Po) av.toArray s mc ms (va_A w s.heap.size)) ⟨B.returns, rfl, rfl⟩ (fun d hd => by
    have h1 := (name_of_methodNamed B.named B.method).1
    show meth.name = "<init>"
    rw [h1, hd])
  exact hb ⟨B.exec, B.bytes, hml, findClass_of_methodNamed B.named, hts, hK, fun q h => Or.inr h, B.notSynchronized, hN, hfl⟩ s.heap [] _ hP hD0.self va_S.rf hl

section JV
variable {k : VK} {l : Launch} {D : va_G} {tys : List (ClassId × FieldType)} {R : Room} {cc : ByteArray} {nL : Nat} {own : String} {w : va_W} {cells slots pc : Nat} {lv : List (Nat × Value)} {rest : List Value}
theorem j_iconst {n : Int} {v : Int32} (hdg : decode cc pc = .ok (.iconst n, 1)) (hv : Int32.ofInt n = v) (kk : V k l D tys R cc nL own w cells slots (pc + 1) lv (.int v :: rest)) : V k l D tys R cc nL own w cells slots (pc) lv (rest) := by
  obtain ⟨⟨p, e, s, m, args⟩, ⟨below, meth, c⟩, ⟨A, H0⟩, Q⟩ := k
  intro C H locs ls hP hD hS hl
  obtain ⟨hx, hb, hml, hown, hts, hK, hA, hlk, hN, hfl⟩ := id C
  dsimp only at *
  exact lv_iconst hx hb hdg hv (kk C H locs ls hP hD hS hl)

theorem j_bipush {n : Int} {v : Int32} (hdg : decode cc pc = .ok (.bipush n, 2)) (hv : (Int8.ofInt n).toInt32 = v) (kk : V k l D tys R cc nL own w cells slots (pc + 2) lv (.int v :: rest)) : V k l D tys R cc nL own w cells slots (pc) lv (rest) := by
  obtain ⟨⟨p, e, s, m, args⟩, ⟨below, meth, c⟩, ⟨A, H0⟩, Q⟩ := k
  intro C H locs ls hP hD hS hl
  obtain ⟨hx, hb, hml, hown, hts, hK, hA, hlk, hN, hfl⟩ := id C
  dsimp only at *
  exact lv_bipush hx hb hdg hv (kk C H locs ls hP hD hS hl)

theorem j_sipush {n : Int} {v : Int32} (hdg : decode cc pc = .ok (.sipush n, 3)) (hv : (Int16.ofInt n).toInt32 = v) (kk : V k l D tys R cc nL own w cells slots (pc + 3) lv (.int v :: rest)) : V k l D tys R cc nL own w cells slots (pc) lv (rest) := by
  obtain ⟨⟨p, e, s, m, args⟩, ⟨below, meth, c⟩, ⟨A, H0⟩, Q⟩ := k
  intro C H locs ls hP hD hS hl
  obtain ⟨hx, hb, hml, hown, hts, hK, hA, hlk, hN, hfl⟩ := id C
  dsimp only at *
  exact lv_sipush hx hb hdg hv (kk C H locs ls hP hD hS hl)

theorem j_lconst {n : Fin 2} {v : Int64} (hdg : decode cc pc = .ok (.lconst n, 1)) (hv : Int64.ofNat (n : Nat) = v) (kk : V k l D tys R cc nL own w cells slots (pc + 1) lv (.long v :: rest)) : V k l D tys R cc nL own w cells slots (pc) lv (rest) := by
  obtain ⟨⟨p, e, s, m, args⟩, ⟨below, meth, c⟩, ⟨A, H0⟩, Q⟩ := k
  intro C H locs ls hP hD hS hl
  obtain ⟨hx, hb, hml, hown, hts, hK, hA, hlk, hN, hfl⟩ := id C
  dsimp only at *
  exact lv_lconst hx hb hdg hv (kk C H locs ls hP hD hS hl)

theorem j_ldc2 {index : Nat} {v : Int64} (hc : Cond.constantLong own index v ∈ aL) (hdg : decode cc pc = .ok (.ldc2_w index, 3)) (kk : V k l D tys R cc nL own w cells slots (pc + 3) lv (.long v :: rest)) : V k l D tys R cc nL own w cells slots (pc) lv (rest) := by
  obtain ⟨⟨p, e, s, m, args⟩, ⟨below, meth, c⟩, ⟨A, H0⟩, Q⟩ := k
  intro C H locs ls hP hD hS hl
  obtain ⟨hx, hb, hml, hown, hts, hK, hA, hlk, hN, hfl⟩ := id C
  dsimp only at *
  exact lv_ldc2 hx hb hown (hts _ hc) hdg (kk C H locs ls hP hD hS hl)

theorem j_ldc {index : Nat} {v : Int32} (hc : Cond.constant own index v ∈ aL) (hdg : decode cc pc = .ok (.ldc index, 2)) (kk : V k l D tys R cc nL own w cells slots (pc + 2) lv (.int v :: rest)) : V k l D tys R cc nL own w cells slots (pc) lv (rest) := by
  obtain ⟨⟨p, e, s, m, args⟩, ⟨below, meth, c⟩, ⟨A, H0⟩, Q⟩ := k
  intro C H locs ls hP hD hS hl
  obtain ⟨hx, hb, hml, hown, hts, hK, hA, hlk, hN, hfl⟩ := id C
  dsimp only at *
  exact lv_ldc hx hb hown (hts _ hc) hdg (kk C H locs ls hP hD hS hl)

theorem j_iload_n {j : Fin 4} {i : Nat} {x : Int32} (hdg : decode cc pc = .ok (.iload_n j, 1)) (hi : (j : Nat) = i) (n : Nat) (hn : lv[n]? = some (i, .int x)) (kk : V k l D tys R cc nL own w cells slots (pc + 1) lv (.int x :: rest)) : V k l D tys R cc nL own w cells slots (pc) lv (rest) := by
  obtain ⟨⟨p, e, s, m, args⟩, ⟨below, meth, c⟩, ⟨A, H0⟩, Q⟩ := k
  intro C H locs ls hP hD hS hl
  obtain ⟨hx, hb, hml, hown, hts, hK, hA, hlk, hN, hfl⟩ := id C
  dsimp only at *
  exact lv_iload_n hx hb hdg hi (lv_at hl n hn) (kk C H locs ls hP hD hS hl)

theorem j_iload {i : Nat} {x : Int32} (hdg : decode cc pc = .ok (.iload i, 2)) (n : Nat) (hn : lv[n]? = some (i, .int x)) (kk : V k l D tys R cc nL own w cells slots (pc + 2) lv (.int x :: rest)) : V k l D tys R cc nL own w cells slots (pc) lv (rest) := by
  obtain ⟨⟨p, e, s, m, args⟩, ⟨below, meth, c⟩, ⟨A, H0⟩, Q⟩ := k
  intro C H locs ls hP hD hS hl
  obtain ⟨hx, hb, hml, hown, hts, hK, hA, hlk, hN, hfl⟩ := id C
  dsimp only at *
  exact lv_iload hx hb hdg (lv_at hl n hn) (kk C H locs ls hP hD hS hl)

theorem j_istore_n {j : Fin 4} {i : Nat} {x : Int32} (lv' : List (Nat × Value)) (hdg : decode cc pc = .ok (.istore_n j, 1)) (hi : (j : Nat) = i) (hn : i < nL) (hl' : (i, Value.int x) :: lv.filter (fun q => !(q.1 == i) && !(q.1 + 1 == i && q.2.category == 2)) = lv') (kk : V k l D tys R cc nL own w cells slots (pc + 1) lv' (rest)) : V k l D tys R cc nL own w cells slots (pc) lv (.int x :: rest) := by
  obtain ⟨⟨p, e, s, m, args⟩, ⟨below, meth, c⟩, ⟨A, H0⟩, Q⟩ := k
  intro C H locs ls hP hD hS hl
  obtain ⟨hx, hb, hml, hown, hts, hK, hA, hlk, hN, hfl⟩ := id C
  dsimp only at *
  exact lv_istore_n hx hb hdg hi hl hn hl' (fun ls' h => kk C H locs ls' hP hD hS h)

theorem j_istore {i : Nat} {x : Int32} (lv' : List (Nat × Value)) (hdg : decode cc pc = .ok (.istore i, 2)) (hn : i < nL) (hl' : (i, Value.int x) :: lv.filter (fun q => !(q.1 == i) && !(q.1 + 1 == i && q.2.category == 2)) = lv') (kk : V k l D tys R cc nL own w cells slots (pc + 2) lv' (rest)) : V k l D tys R cc nL own w cells slots (pc) lv (.int x :: rest) := by
  obtain ⟨⟨p, e, s, m, args⟩, ⟨below, meth, c⟩, ⟨A, H0⟩, Q⟩ := k
  intro C H locs ls hP hD hS hl
  obtain ⟨hx, hb, hml, hown, hts, hK, hA, hlk, hN, hfl⟩ := id C
  dsimp only at *
  exact lv_istore hx hb hdg hl hn hl' (fun ls' h => kk C H locs ls' hP hD hS h)

theorem j_lload_n {j : Fin 4} {i : Nat} {x : Int64} (hdg : decode cc pc = .ok (.lload_n j, 1)) (hi : (j : Nat) = i) (n : Nat) (hn : lv[n]? = some (i, .long x)) (kk : V k l D tys R cc nL own w cells slots (pc + 1) lv (.long x :: rest)) : V k l D tys R cc nL own w cells slots (pc) lv (rest) := by
  obtain ⟨⟨p, e, s, m, args⟩, ⟨below, meth, c⟩, ⟨A, H0⟩, Q⟩ := k
  intro C H locs ls hP hD hS hl
  obtain ⟨hx, hb, hml, hown, hts, hK, hA, hlk, hN, hfl⟩ := id C
  dsimp only at *
  exact lv_lload_n hx hb hdg hi (lv_at hl n hn) (kk C H locs ls hP hD hS hl)

theorem j_lload {i : Nat} {x : Int64} (hdg : decode cc pc = .ok (.lload i, 2)) (n : Nat) (hn : lv[n]? = some (i, .long x)) (kk : V k l D tys R cc nL own w cells slots (pc + 2) lv (.long x :: rest)) : V k l D tys R cc nL own w cells slots (pc) lv (rest) := by
  obtain ⟨⟨p, e, s, m, args⟩, ⟨below, meth, c⟩, ⟨A, H0⟩, Q⟩ := k
  intro C H locs ls hP hD hS hl
  obtain ⟨hx, hb, hml, hown, hts, hK, hA, hlk, hN, hfl⟩ := id C
  dsimp only at *
  exact lv_lload hx hb hdg (lv_at hl n hn) (kk C H locs ls hP hD hS hl)

theorem j_lstore_n {j : Fin 4} {i : Nat} {x : Int64} (lv' : List (Nat × Value)) (hdg : decode cc pc = .ok (.lstore_n j, 1)) (hi : (j : Nat) = i) (hn : i + 1 < nL) (hl' : (i, Value.long x) :: lv.filter (fun q => !(q.1 == i) && (!(q.1 == i + 1) && !(q.1 + 1 == i && q.2.category == 2))) = lv') (kk : V k l D tys R cc nL own w cells slots (pc + 1) lv' (rest)) : V k l D tys R cc nL own w cells slots (pc) lv (.long x :: rest) := by
  obtain ⟨⟨p, e, s, m, args⟩, ⟨below, meth, c⟩, ⟨A, H0⟩, Q⟩ := k
  intro C H locs ls hP hD hS hl
  obtain ⟨hx, hb, hml, hown, hts, hK, hA, hlk, hN, hfl⟩ := id C
  dsimp only at *
  exact lv_lstore_n hx hb hdg hi hl hn hl' (fun ls' h => kk C H locs ls' hP hD hS h)

theorem j_lstore {i : Nat} {x : Int64} (lv' : List (Nat × Value)) (hdg : decode cc pc = .ok (.lstore i, 2)) (hn : i + 1 < nL) (hl' : (i, Value.long x) :: lv.filter (fun q => !(q.1 == i) && (!(q.1 == i + 1) && !(q.1 + 1 == i && q.2.category == 2))) = lv') (kk : V k l D tys R cc nL own w cells slots (pc + 2) lv' (rest)) : V k l D tys R cc nL own w cells slots (pc) lv (.long x :: rest) := by
  obtain ⟨⟨p, e, s, m, args⟩, ⟨below, meth, c⟩, ⟨A, H0⟩, Q⟩ := k
  intro C H locs ls hP hD hS hl
  obtain ⟨hx, hb, hml, hown, hts, hK, hA, hlk, hN, hfl⟩ := id C
  dsimp only at *
  exact lv_lstore hx hb hdg hl hn hl' (fun ls' h => kk C H locs ls' hP hD hS h)

theorem j_aload_n {j : Fin 4} {i : Nat} {x : Nat} (hdg : decode cc pc = .ok (.aload_n j, 1)) (hi : (j : Nat) = i) (n : Nat) (hn : lv[n]? = some (i, .ref x)) (kk : V k l D tys R cc nL own w cells slots (pc + 1) lv (.ref x :: rest)) : V k l D tys R cc nL own w cells slots (pc) lv (rest) := by
  obtain ⟨⟨p, e, s, m, args⟩, ⟨below, meth, c⟩, ⟨A, H0⟩, Q⟩ := k
  intro C H locs ls hP hD hS hl
  obtain ⟨hx, hb, hml, hown, hts, hK, hA, hlk, hN, hfl⟩ := id C
  dsimp only at *
  exact lv_aload_n hx hb hdg hi (lv_at hl n hn) (kk C H locs ls hP hD hS hl)

theorem j_aload {i : Nat} {x : Nat} (hdg : decode cc pc = .ok (.aload i, 2)) (n : Nat) (hn : lv[n]? = some (i, .ref x)) (kk : V k l D tys R cc nL own w cells slots (pc + 2) lv (.ref x :: rest)) : V k l D tys R cc nL own w cells slots (pc) lv (rest) := by
  obtain ⟨⟨p, e, s, m, args⟩, ⟨below, meth, c⟩, ⟨A, H0⟩, Q⟩ := k
  intro C H locs ls hP hD hS hl
  obtain ⟨hx, hb, hml, hown, hts, hK, hA, hlk, hN, hfl⟩ := id C
  dsimp only at *
  exact lv_aload hx hb hdg (lv_at hl n hn) (kk C H locs ls hP hD hS hl)

theorem j_astore_n {j : Fin 4} {i : Nat} {x : Nat} (lv' : List (Nat × Value)) (hdg : decode cc pc = .ok (.astore_n j, 1)) (hi : (j : Nat) = i) (hn : i < nL) (hl' : (i, Value.ref x) :: lv.filter (fun q => !(q.1 == i) && !(q.1 + 1 == i && q.2.category == 2)) = lv') (kk : V k l D tys R cc nL own w cells slots (pc + 1) lv' (rest)) : V k l D tys R cc nL own w cells slots (pc) lv (.ref x :: rest) := by
  obtain ⟨⟨p, e, s, m, args⟩, ⟨below, meth, c⟩, ⟨A, H0⟩, Q⟩ := k
  intro C H locs ls hP hD hS hl
  obtain ⟨hx, hb, hml, hown, hts, hK, hA, hlk, hN, hfl⟩ := id C
  dsimp only at *
  exact lv_astore_n hx hb hdg hi hl hn hl' (fun ls' h => kk C H locs ls' hP hD hS h)

theorem j_astore {i : Nat} {x : Nat} (lv' : List (Nat × Value)) (hdg : decode cc pc = .ok (.astore i, 2)) (hn : i < nL) (hl' : (i, Value.ref x) :: lv.filter (fun q => !(q.1 == i) && !(q.1 + 1 == i && q.2.category == 2)) = lv') (kk : V k l D tys R cc nL own w cells slots (pc + 2) lv' (rest)) : V k l D tys R cc nL own w cells slots (pc) lv (.ref x :: rest) := by
  obtain ⟨⟨p, e, s, m, args⟩, ⟨below, meth, c⟩, ⟨A, H0⟩, Q⟩ := k
  intro C H locs ls hP hD hS hl
  obtain ⟨hx, hb, hml, hown, hts, hK, hA, hlk, hN, hfl⟩ := id C
  dsimp only at *
  exact lv_astore hx hb hdg hl hn hl' (fun ls' h => kk C H locs ls' hP hD hS h)

theorem j_iinc {i n0 : Nat} {n : Int} {x v : Int32} (lv' : List (Nat × Value)) (hdg : decode cc pc = .ok (.iinc i n, 3)) (hk : lv[n0]? = some (i, .int x)) (hv : x + Int32.ofInt n = v) (hn : i < nL) (hl' : (i, Value.int v) :: lv.filter (fun q => !(q.1 == i) && !(q.1 + 1 == i && q.2.category == 2)) = lv') (kk : V k l D tys R cc nL own w cells slots (pc + 3) lv' (rest)) : V k l D tys R cc nL own w cells slots (pc) lv (rest) := by
  obtain ⟨⟨p, e, s, m, args⟩, ⟨below, meth, c⟩, ⟨A, H0⟩, Q⟩ := k
  intro C H locs ls hP hD hS hl
  obtain ⟨hx, hb, hml, hown, hts, hK, hA, hlk, hN, hfl⟩ := id C
  dsimp only at *
  exact lv_iinc hx hb hdg hl hk hv hn hl' (fun ls' h => kk C H locs ls' hP hD hS h)

theorem j_sub (ks : List Nat) (lv' : List (Nat × Value)) (hs : lv_pick lv ks = lv') (kk : V k l D tys R cc nL own w cells slots (pc) lv' (rest)) : V k l D tys R cc nL own w cells slots (pc) lv (rest) := by
  obtain ⟨⟨p, e, s, m, args⟩, ⟨below, meth, c⟩, ⟨A, H0⟩, Q⟩ := k
  intro C H locs ls hP hD hS hl
  obtain ⟨hx, hb, hml, hown, hts, hK, hA, hlk, hN, hfl⟩ := id C
  dsimp only at *
  exact kk C H locs ls hP hD hS (lv_sub hl ks hs)

theorem j_world {w' : va_W} (h : w = w') (kk : V k l D tys R cc nL own w' cells slots (pc) lv (rest)) : V k l D tys R cc nL own w cells slots (pc) lv (rest) := h ▸ kk
theorem j_lv {lv' : List (Nat × Value)} (h : lv = lv') (kk : V k l D tys R cc nL own w cells slots (pc) lv' (rest)) : V k l D tys R cc nL own w cells slots (pc) lv (rest) := h ▸ kk
theorem j_st {st' : List Value} (h : rest = st') (kk : V k l D tys R cc nL own w cells slots (pc) lv (st')) : V k l D tys R cc nL own w cells slots (pc) lv (rest) := h ▸ kk
theorem j_topi {x y : Int32} (h : x = y) (kk : V k l D tys R cc nL own w cells slots (pc) lv (.int y :: rest)) : V k l D tys R cc nL own w cells slots (pc) lv (.int x :: rest) := h ▸ kk
theorem j_topl {x y : Int64} (h : x = y) (kk : V k l D tys R cc nL own w cells slots (pc) lv (.long y :: rest)) : V k l D tys R cc nL own w cells slots (pc) lv (.long x :: rest) := h ▸ kk
theorem j_iadd {x y v : Int32} (hdg : decode cc pc = .ok (.iadd, 1)) (hv : x + y = v) (kk : V k l D tys R cc nL own w cells slots (pc + 1) lv (.int v :: rest)) : V k l D tys R cc nL own w cells slots (pc) lv (.int y :: .int x :: rest) := by
  obtain ⟨⟨p, e, s, m, args⟩, ⟨below, meth, c⟩, ⟨A, H0⟩, Q⟩ := k
  intro C H locs ls hP hD hS hl
  obtain ⟨hx, hb, hml, hown, hts, hK, hA, hlk, hN, hfl⟩ := id C
  dsimp only at *
  subst hv
  exact lv_iadd hx hb hdg (kk C H locs ls hP hD hS hl)

theorem j_isub {x y v : Int32} (hdg : decode cc pc = .ok (.isub, 1)) (hv : x - y = v) (kk : V k l D tys R cc nL own w cells slots (pc + 1) lv (.int v :: rest)) : V k l D tys R cc nL own w cells slots (pc) lv (.int y :: .int x :: rest) := by
  obtain ⟨⟨p, e, s, m, args⟩, ⟨below, meth, c⟩, ⟨A, H0⟩, Q⟩ := k
  intro C H locs ls hP hD hS hl
  obtain ⟨hx, hb, hml, hown, hts, hK, hA, hlk, hN, hfl⟩ := id C
  dsimp only at *
  subst hv
  exact lv_isub hx hb hdg (kk C H locs ls hP hD hS hl)

theorem j_imul {x y v : Int32} (hdg : decode cc pc = .ok (.imul, 1)) (hv : x * y = v) (kk : V k l D tys R cc nL own w cells slots (pc + 1) lv (.int v :: rest)) : V k l D tys R cc nL own w cells slots (pc) lv (.int y :: .int x :: rest) := by
  obtain ⟨⟨p, e, s, m, args⟩, ⟨below, meth, c⟩, ⟨A, H0⟩, Q⟩ := k
  intro C H locs ls hP hD hS hl
  obtain ⟨hx, hb, hml, hown, hts, hK, hA, hlk, hN, hfl⟩ := id C
  dsimp only at *
  subst hv
  exact lv_imul hx hb hdg (kk C H locs ls hP hD hS hl)

theorem j_iand {x y v : Int32} (hdg : decode cc pc = .ok (.iand, 1)) (hv : x &&& y = v) (kk : V k l D tys R cc nL own w cells slots (pc + 1) lv (.int v :: rest)) : V k l D tys R cc nL own w cells slots (pc) lv (.int y :: .int x :: rest) := by
  obtain ⟨⟨p, e, s, m, args⟩, ⟨below, meth, c⟩, ⟨A, H0⟩, Q⟩ := k
  intro C H locs ls hP hD hS hl
  obtain ⟨hx, hb, hml, hown, hts, hK, hA, hlk, hN, hfl⟩ := id C
  dsimp only at *
  subst hv
  exact lv_iand hx hb hdg (kk C H locs ls hP hD hS hl)

theorem j_ior {x y v : Int32} (hdg : decode cc pc = .ok (.ior, 1)) (hv : x ||| y = v) (kk : V k l D tys R cc nL own w cells slots (pc + 1) lv (.int v :: rest)) : V k l D tys R cc nL own w cells slots (pc) lv (.int y :: .int x :: rest) := by
  obtain ⟨⟨p, e, s, m, args⟩, ⟨below, meth, c⟩, ⟨A, H0⟩, Q⟩ := k
  intro C H locs ls hP hD hS hl
  obtain ⟨hx, hb, hml, hown, hts, hK, hA, hlk, hN, hfl⟩ := id C
  dsimp only at *
  subst hv
  exact lv_ior hx hb hdg (kk C H locs ls hP hD hS hl)

theorem j_ixor {x y v : Int32} (hdg : decode cc pc = .ok (.ixor, 1)) (hv : x ^^^ y = v) (kk : V k l D tys R cc nL own w cells slots (pc + 1) lv (.int v :: rest)) : V k l D tys R cc nL own w cells slots (pc) lv (.int y :: .int x :: rest) := by
  obtain ⟨⟨p, e, s, m, args⟩, ⟨below, meth, c⟩, ⟨A, H0⟩, Q⟩ := k
  intro C H locs ls hP hD hS hl
  obtain ⟨hx, hb, hml, hown, hts, hK, hA, hlk, hN, hfl⟩ := id C
  dsimp only at *
  subst hv
  exact lv_ixor hx hb hdg (kk C H locs ls hP hD hS hl)

theorem j_ishl {x y v : Int32} (hdg : decode cc pc = .ok (.ishl, 1)) (hv : x <<< (y &&& 31) = v) (kk : V k l D tys R cc nL own w cells slots (pc + 1) lv (.int v :: rest)) : V k l D tys R cc nL own w cells slots (pc) lv (.int y :: .int x :: rest) := by
  obtain ⟨⟨p, e, s, m, args⟩, ⟨below, meth, c⟩, ⟨A, H0⟩, Q⟩ := k
  intro C H locs ls hP hD hS hl
  obtain ⟨hx, hb, hml, hown, hts, hK, hA, hlk, hN, hfl⟩ := id C
  dsimp only at *
  subst hv
  exact lv_ishl hx hb hdg (kk C H locs ls hP hD hS hl)

theorem j_ishr {x y v : Int32} (hdg : decode cc pc = .ok (.ishr, 1)) (hv : x >>> (y &&& 31) = v) (kk : V k l D tys R cc nL own w cells slots (pc + 1) lv (.int v :: rest)) : V k l D tys R cc nL own w cells slots (pc) lv (.int y :: .int x :: rest) := by
  obtain ⟨⟨p, e, s, m, args⟩, ⟨below, meth, c⟩, ⟨A, H0⟩, Q⟩ := k
  intro C H locs ls hP hD hS hl
  obtain ⟨hx, hb, hml, hown, hts, hK, hA, hlk, hN, hfl⟩ := id C
  dsimp only at *
  subst hv
  exact lv_ishr hx hb hdg (kk C H locs ls hP hD hS hl)

theorem j_idiv {x y v : Int32} (hdg : decode cc pc = .ok (.idiv, 1)) (hne : ¬ y = 0) (hv : x / y = v) (kk : V k l D tys R cc nL own w cells slots (pc + 1) lv (.int v :: rest)) : V k l D tys R cc nL own w cells slots (pc) lv (.int y :: .int x :: rest) := by
  obtain ⟨⟨p, e, s, m, args⟩, ⟨below, meth, c⟩, ⟨A, H0⟩, Q⟩ := k
  intro C H locs ls hP hD hS hl
  obtain ⟨hx, hb, hml, hown, hts, hK, hA, hlk, hN, hfl⟩ := id C
  dsimp only at *
  subst hv
  exact lv_idiv hx hb hdg hne (kk C H locs ls hP hD hS hl)

theorem j_irem {x y v : Int32} (hdg : decode cc pc = .ok (.irem, 1)) (hne : ¬ y = 0) (hv : x - x / y * y = v) (kk : V k l D tys R cc nL own w cells slots (pc + 1) lv (.int v :: rest)) : V k l D tys R cc nL own w cells slots (pc) lv (.int y :: .int x :: rest) := by
  obtain ⟨⟨p, e, s, m, args⟩, ⟨below, meth, c⟩, ⟨A, H0⟩, Q⟩ := k
  intro C H locs ls hP hD hS hl
  obtain ⟨hx, hb, hml, hown, hts, hK, hA, hlk, hN, hfl⟩ := id C
  dsimp only at *
  subst hv
  exact lv_irem hx hb hdg hne (kk C H locs ls hP hD hS hl)

theorem j_iushr {x y v : Int32} (hdg : decode cc pc = .ok (.iushr, 1)) (hv : (x.toUInt32 >>> (y.toUInt32 &&& Int32.toUInt32 31)).toInt32 = v) (kk : V k l D tys R cc nL own w cells slots (pc + 1) lv (.int v :: rest)) : V k l D tys R cc nL own w cells slots (pc) lv (.int y :: .int x :: rest) := by
  obtain ⟨⟨p, e, s, m, args⟩, ⟨below, meth, c⟩, ⟨A, H0⟩, Q⟩ := k
  intro C H locs ls hP hD hS hl
  obtain ⟨hx, hb, hml, hown, hts, hK, hA, hlk, hN, hfl⟩ := id C
  dsimp only at *
  first | exact lv_iushr hx hb hdg hv (kk C H locs ls hP hD hS hl) | (subst hv; exact lv_iushr hx hb hdg (kk C H locs ls hP hD hS hl))

theorem j_ladd {x y v : Int64} (hdg : decode cc pc = .ok (.ladd, 1)) (hv : x + y = v) (kk : V k l D tys R cc nL own w cells slots (pc + 1) lv (.long v :: rest)) : V k l D tys R cc nL own w cells slots (pc) lv (.long y :: .long x :: rest) := by
  obtain ⟨⟨p, e, s, m, args⟩, ⟨below, meth, c⟩, ⟨A, H0⟩, Q⟩ := k
  intro C H locs ls hP hD hS hl
  obtain ⟨hx, hb, hml, hown, hts, hK, hA, hlk, hN, hfl⟩ := id C
  dsimp only at *
  subst hv
  exact lv_ladd hx hb hdg (kk C H locs ls hP hD hS hl)

theorem j_lmul {x y v : Int64} (hdg : decode cc pc = .ok (.lmul, 1)) (hv : x * y = v) (kk : V k l D tys R cc nL own w cells slots (pc + 1) lv (.long v :: rest)) : V k l D tys R cc nL own w cells slots (pc) lv (.long y :: .long x :: rest) := by
  obtain ⟨⟨p, e, s, m, args⟩, ⟨below, meth, c⟩, ⟨A, H0⟩, Q⟩ := k
  intro C H locs ls hP hD hS hl
  obtain ⟨hx, hb, hml, hown, hts, hK, hA, hlk, hN, hfl⟩ := id C
  dsimp only at *
  subst hv
  exact lv_lmul hx hb hdg (kk C H locs ls hP hD hS hl)

theorem j_lor {x y v : Int64} (hdg : decode cc pc = .ok (.lor, 1)) (hv : x ||| y = v) (kk : V k l D tys R cc nL own w cells slots (pc + 1) lv (.long v :: rest)) : V k l D tys R cc nL own w cells slots (pc) lv (.long y :: .long x :: rest) := by
  obtain ⟨⟨p, e, s, m, args⟩, ⟨below, meth, c⟩, ⟨A, H0⟩, Q⟩ := k
  intro C H locs ls hP hD hS hl
  obtain ⟨hx, hb, hml, hown, hts, hK, hA, hlk, hN, hfl⟩ := id C
  dsimp only at *
  subst hv
  exact lv_lor hx hb hdg (kk C H locs ls hP hD hS hl)

theorem j_lshl {x v : Int64} {y : Int32} (hdg : decode cc pc = .ok (.lshl, 1)) (hv : x <<< (y.toInt64 &&& 63) = v) (kk : V k l D tys R cc nL own w cells slots (pc + 1) lv (.long v :: rest)) : V k l D tys R cc nL own w cells slots (pc) lv (.int y :: .long x :: rest) := by
  obtain ⟨⟨p, e, s, m, args⟩, ⟨below, meth, c⟩, ⟨A, H0⟩, Q⟩ := k
  intro C H locs ls hP hD hS hl
  obtain ⟨hx, hb, hml, hown, hts, hK, hA, hlk, hN, hfl⟩ := id C
  dsimp only at *
  exact lv_lshl hx hb hdg hv (kk C H locs ls hP hD hS hl)

theorem j_lushr {x v : Int64} {y : Int32} (hdg : decode cc pc = .ok (.lushr, 1)) (hv : (x.toUInt64 >>> (y.toInt64.toUInt64 &&& Int64.toUInt64 63)).toInt64 = v) (kk : V k l D tys R cc nL own w cells slots (pc + 1) lv (.long v :: rest)) : V k l D tys R cc nL own w cells slots (pc) lv (.int y :: .long x :: rest) := by
  obtain ⟨⟨p, e, s, m, args⟩, ⟨below, meth, c⟩, ⟨A, H0⟩, Q⟩ := k
  intro C H locs ls hP hD hS hl
  obtain ⟨hx, hb, hml, hown, hts, hK, hA, hlk, hN, hfl⟩ := id C
  dsimp only at *
  exact lv_lushr hx hb hdg hv (kk C H locs ls hP hD hS hl)

theorem j_l2i {x : Int64} {v : Int32} (hdg : decode cc pc = .ok (.l2i, 1)) (hv : x.toInt32 = v) (kk : V k l D tys R cc nL own w cells slots (pc + 1) lv (.int v :: rest)) : V k l D tys R cc nL own w cells slots (pc) lv (.long x :: rest) := by
  obtain ⟨⟨p, e, s, m, args⟩, ⟨below, meth, c⟩, ⟨A, H0⟩, Q⟩ := k
  intro C H locs ls hP hD hS hl
  obtain ⟨hx, hb, hml, hown, hts, hK, hA, hlk, hN, hfl⟩ := id C
  dsimp only at *
  exact lv_l2i hx hb hdg hv (kk C H locs ls hP hD hS hl)

theorem j_i2l {x : Int32} {v : Int64} (hdg : decode cc pc = .ok (.i2l, 1)) (hv : x.toInt64 = v) (kk : V k l D tys R cc nL own w cells slots (pc + 1) lv (.long v :: rest)) : V k l D tys R cc nL own w cells slots (pc) lv (.int x :: rest) := by
  obtain ⟨⟨p, e, s, m, args⟩, ⟨below, meth, c⟩, ⟨A, H0⟩, Q⟩ := k
  intro C H locs ls hP hD hS hl
  obtain ⟨hx, hb, hml, hown, hts, hK, hA, hlk, hN, hfl⟩ := id C
  dsimp only at *
  exact lv_i2l hx hb hdg hv (kk C H locs ls hP hD hS hl)

theorem j_lcmp {x y : Int64} {v : Int32} (hdg : decode cc pc = .ok (.lcmp, 1)) (hv : lg_cmp x y = v) (kk : V k l D tys R cc nL own w cells slots (pc + 1) lv (.int v :: rest)) : V k l D tys R cc nL own w cells slots (pc) lv (.long y :: .long x :: rest) := by
  obtain ⟨⟨p, e, s, m, args⟩, ⟨below, meth, c⟩, ⟨A, H0⟩, Q⟩ := k
  intro C H locs ls hP hD hS hl
  obtain ⟨hx, hb, hml, hown, hts, hK, hA, hlk, hN, hfl⟩ := id C
  dsimp only at *
  subst hv
  exact W.lcmp hx hb hdg (kk C H locs ls hP hD hS hl)

theorem j_dup {va : Value} (hdg : decode cc pc = .ok (.dup, 1)) (hva : va.category = 1) (kk : V k l D tys R cc nL own w cells slots (pc + 1) lv (va :: va :: rest)) : V k l D tys R cc nL own w cells slots (pc) lv (va :: rest) := by
  obtain ⟨⟨p, e, s, m, args⟩, ⟨below, meth, c⟩, ⟨A, H0⟩, Q⟩ := k
  intro C H locs ls hP hD hS hl
  obtain ⟨hx, hb, hml, hown, hts, hK, hA, hlk, hN, hfl⟩ := id C
  dsimp only at *
  exact lv_dup hx hb hdg hva (kk C H locs ls hP hD hS hl)

theorem j_pop {va : Value} (hdg : decode cc pc = .ok (.pop, 1)) (hva : va.category = 1) (kk : V k l D tys R cc nL own w cells slots (pc + 1) lv (rest)) : V k l D tys R cc nL own w cells slots (pc) lv (va :: rest) := by
  obtain ⟨⟨p, e, s, m, args⟩, ⟨below, meth, c⟩, ⟨A, H0⟩, Q⟩ := k
  intro C H locs ls hP hD hS hl
  obtain ⟨hx, hb, hml, hown, hts, hK, hA, hlk, hN, hfl⟩ := id C
  dsimp only at *
  exact lv_pop hx hb hdg hva (kk C H locs ls hP hD hS hl)

theorem j_dup2 {va vb : Value} (hdg : decode cc pc = .ok (.dup2, 1)) (hva : va.category = 1) (hvb : vb.category = 1) (kk : V k l D tys R cc nL own w cells slots (pc + 1) lv (va :: vb :: va :: vb :: rest)) : V k l D tys R cc nL own w cells slots (pc) lv (va :: vb :: rest) := by
  obtain ⟨⟨p, e, s, m, args⟩, ⟨below, meth, c⟩, ⟨A, H0⟩, Q⟩ := k
  intro C H locs ls hP hD hS hl
  obtain ⟨hx, hb, hml, hown, hts, hK, hA, hlk, hN, hfl⟩ := id C
  dsimp only at *
  exact lv_dup2_11 hx hb hdg hva hvb (kk C H locs ls hP hD hS hl)

theorem j_dup_x1 {va vb : Value} (hdg : decode cc pc = .ok (.dup_x1, 1)) (hva : va.category = 1) (hvb : vb.category = 1) (kk : V k l D tys R cc nL own w cells slots (pc + 1) lv (va :: vb :: va :: rest)) : V k l D tys R cc nL own w cells slots (pc) lv (va :: vb :: rest) := by
  obtain ⟨⟨p, e, s, m, args⟩, ⟨below, meth, c⟩, ⟨A, H0⟩, Q⟩ := k
  intro C H locs ls hP hD hS hl
  obtain ⟨hx, hb, hml, hown, hts, hK, hA, hlk, hN, hfl⟩ := id C
  dsimp only at *
  exact lv_dup_x1 hx hb hdg hva hvb (kk C H locs ls hP hD hS hl)

theorem j_goto {off : Int} {tgt : Nat} (hdg : decode cc pc = .ok (.goto off, 3)) (ht : (pc : Int) + off = (tgt : Int)) (kk : V k l D tys R cc nL own w cells slots (tgt) lv (rest)) : V k l D tys R cc nL own w cells slots (pc) lv (rest) := by
  obtain ⟨⟨p, e, s, m, args⟩, ⟨below, meth, c⟩, ⟨A, H0⟩, Q⟩ := k
  intro C H locs ls hP hD hS hl
  obtain ⟨hx, hb, hml, hown, hts, hK, hA, hlk, hN, hfl⟩ := id C
  dsimp only at *
  exact lv_goto hx hb hdg ht (kk C H locs ls hP hD hS hl)

end JV
end
section
theorem nI_sub {a b : Nat} (h : b ≤ a) : nI a - nI b = nI (a - b) := pk_sub h
theorem bI_0 {b : Bool} (h : bI b = 0) : b = false := by cases b <;> first | rfl | (exact absurd h (by decide))
theorem bI_1 {b : Bool} (h : ¬ bI b = 0) : b = true := by cases b <;> first | rfl | (exact absurd rfl h)
theorem nI_eq0 {n : Nat} (hn : n < 2 ^ 31) (h : nI n = 0) : n = 0 := (nI_eq hn (by decide)).mp (by rw [nI_0]; exact h)
theorem inA0 : ∀ w ∈ wsX00, w ∈ aL := by
  show ∀ w ∈ ([Cond.laysFinal RX0 RX0 "grid" "LLoopDiagram$Grid;", Cond.laysFinal RX0 RX0 "first" "[I", Cond.lays RX0 RX0 "size" "I", Cond.laysFinal RX0 RX0 "states" "[I", Cond.laysFinal RX0 RX0 "low" "[I", Cond.laysFinal RX0 RX0 "high" "[I", Cond.laysFinal RX0 RX0 "ways" "[I", Cond.laysFinal RX0 RX0 "someWays" "[I"] : List Cond), w ∈ aL
  exact List.forall_mem_cons.mpr ⟨mw1_76, List.forall_mem_cons.mpr ⟨mw1_78, List.forall_mem_cons.mpr ⟨mw1_80, List.forall_mem_cons.mpr ⟨mw1_82, List.forall_mem_cons.mpr ⟨mw1_84, List.forall_mem_cons.mpr ⟨mw1_86, List.forall_mem_cons.mpr ⟨mw1_88, List.forall_mem_cons.mpr ⟨mw1_90, fun _ h => absurd h List.not_mem_nil⟩⟩⟩⟩⟩⟩⟩⟩
theorem inA1 : ∀ w ∈ wsX10, w ∈ aL := by
  show ∀ w ∈ ([Cond.laysFinal RX1 RX1 "rows" "I", Cond.laysFinal RX1 RX1 "columns" "I", Cond.laysFinal RX1 RX1 "edges" "I", Cond.laysFinal RX1 RX1 "row" "[I", Cond.laysFinal RX1 RX1 "column" "[I", Cond.laysFinal RX1 RX1 "goesDown" "[Z", Cond.laysFinal RX1 RX1 "clues" "[I"] : List Cond), w ∈ aL
  exact List.forall_mem_cons.mpr ⟨mw1_42, List.forall_mem_cons.mpr ⟨mw1_44, List.forall_mem_cons.mpr ⟨mw1_46, List.forall_mem_cons.mpr ⟨mw1_48, List.forall_mem_cons.mpr ⟨mw1_50, List.forall_mem_cons.mpr ⟨mw1_52, List.forall_mem_cons.mpr ⟨mw1_54, fun _ h => absurd h List.not_mem_nil⟩⟩⟩⟩⟩⟩⟩
theorem inA2 : ∀ w ∈ wsX20, w ∈ aL := by
  show ∀ w ∈ ([Cond.laysFinal RX2 RX2 "grid" "LLoopDiagram$Grid;", Cond.laysFinal RX2 RX2 "diagram" "LLoopDiagram$Diagram;", Cond.lays RX2 RX2 "drawing" "I", Cond.lays RX2 RX2 "stale" "Z"] : List Cond), w ∈ aL
  exact List.forall_mem_cons.mpr ⟨mw1_97, List.forall_mem_cons.mpr ⟨mw1_99, List.forall_mem_cons.mpr ⟨mw1_101, List.forall_mem_cons.mpr ⟨mw1_103, fun _ h => absurd h List.not_mem_nil⟩⟩⟩⟩
theorem inA3 : ∀ w ∈ wsX30, w ∈ aL := by
  show ∀ w ∈ ([Cond.lays RX3 RX3 "thrown" "I", Cond.lays RX3 RX3 "rows" "I", Cond.lays RX3 RX3 "columns" "I", Cond.lays RX3 RX3 "points" "I", Cond.lays RX3 RX3 "count" "I", Cond.laysFinal RX3 RX3 "low" "[I", Cond.laysFinal RX3 RX3 "high" "[I", Cond.laysFinal RX3 RX3 "one" "[I", Cond.laysFinal RX3 RX3 "other" "[I", Cond.laysFinal RX3 RX3 "ends" "[I", Cond.laysFinal RX3 RX3 "first" "[I", Cond.laysFinal RX3 RX3 "last" "[I", Cond.laysFinal RX3 RX3 "cellFirst" "[I", Cond.laysFinal RX3 RX3 "cellLast" "[I", Cond.lays RX3 RX3 "loops" "I", Cond.laysFinal RX3 RX3 "loop" "[I", Cond.laysFinal RX3 RX3 "clues" "[I", Cond.lays RX3 RX3 "known" "Z", Cond.lays RX3 RX3 "solutions" "I", Cond.laysFinal RX3 RX3 "solution" "[I", Cond.lays RX3 RX3 "measured" "Z", Cond.laysFinal RX3 RX3 "wide" "[I", Cond.laysFinal RX3 RX3 "useful" "[I", Cond.lays RX3 RX3 "held" "I", Cond.laysFinal RX3 RX3 "hold" "[I", Cond.lays RX3 RX3 "next" "I", Cond.laysFinal RX3 RX3 "nextHold" "[I", Cond.laysFinal RX3 RX3 "keys" "[J", Cond.laysFinal RX3 RX3 "table" "[I", Cond.lays RX3 RX3 "drawing" "I", Cond.laysFinal RX3 RX3 "degree" "[I", Cond.laysFinal RX3 RX3 "seen" "[Z"] : List Cond), w ∈ aL
  exact List.forall_mem_cons.mpr ⟨mw3_39, List.forall_mem_cons.mpr ⟨mw3_41, List.forall_mem_cons.mpr ⟨mw3_43, List.forall_mem_cons.mpr ⟨mw3_45, List.forall_mem_cons.mpr ⟨mw3_47, List.forall_mem_cons.mpr ⟨mw3_49, List.forall_mem_cons.mpr ⟨mw3_51, List.forall_mem_cons.mpr ⟨mw3_53, List.forall_mem_cons.mpr ⟨mw3_55, List.forall_mem_cons.mpr ⟨mw3_57, List.forall_mem_cons.mpr ⟨mw3_59, List.forall_mem_cons.mpr ⟨mw3_61, List.forall_mem_cons.mpr ⟨mw3_63, List.forall_mem_cons.mpr ⟨mw3_65, List.forall_mem_cons.mpr ⟨mw3_67, List.forall_mem_cons.mpr ⟨mw3_69, List.forall_mem_cons.mpr ⟨mw3_71, List.forall_mem_cons.mpr ⟨mw3_73, List.forall_mem_cons.mpr ⟨mw3_75, List.forall_mem_cons.mpr ⟨mw3_77, List.forall_mem_cons.mpr ⟨mw3_79, List.forall_mem_cons.mpr ⟨mw3_81, List.forall_mem_cons.mpr ⟨mw3_83, List.forall_mem_cons.mpr ⟨mw3_85, List.forall_mem_cons.mpr ⟨mw3_87, List.forall_mem_cons.mpr ⟨mw3_89, List.forall_mem_cons.mpr ⟨mw3_91, List.forall_mem_cons.mpr ⟨mw3_93, List.forall_mem_cons.mpr ⟨mw3_95, List.forall_mem_cons.mpr ⟨mw3_97, List.forall_mem_cons.mpr ⟨mw3_99, List.forall_mem_cons.mpr ⟨mw3_101, fun _ h => absurd h List.not_mem_nil⟩⟩⟩⟩⟩⟩⟩⟩⟩⟩⟩⟩⟩⟩⟩⟩⟩⟩⟩⟩⟩⟩⟩⟩⟩⟩⟩⟩⟩⟩⟩⟩
section JR
variable {k : VK} {l : Launch} {D : va_G} {tys : List (ClassId × FieldType)} {R : Room} {cc : ByteArray} {nL : Nat} {own : String} {w : va_W} {cells slots pc : Nat} {lv : List (Nat × Value)} {rest : List Value}
theorem j_icmp_eq {x y : Int32} {off : Int} {tgt : Nat} (hdg : decode cc pc = .ok (.if_icmp .eq off, 3)) (ht : (pc : Int) + off = (tgt : Int)) (kt : (x = y) → V k l D tys R cc nL own w cells slots (tgt) lv (rest)) (kf : (¬ x = y) → V k l D tys R cc nL own w cells slots (pc + 3) lv (rest)) : V k l D tys R cc nL own w cells slots (pc) lv (.int y :: .int x :: rest) := by
  obtain ⟨⟨p, e, s, m, args⟩, ⟨below, meth, c⟩, ⟨A, H0⟩, Q⟩ := k
  intro C H locs ls hP hD hS hl
  obtain ⟨hx, hb, hml, hown, hts, hK, hA, hlk, hN, hfl⟩ := id C
  dsimp only at *
  exact lv_icmp_eq hx hb hdg ht (fun h => kt h C H locs ls hP hD hS hl) (fun h => kf h C H locs ls hP hD hS hl)

theorem jn_icmp_eq {a b : Nat} {off : Int} {tgt : Nat} (ha : a < 2 ^ 31) (hb : b < 2 ^ 31) (hdg : decode cc pc = .ok (.if_icmp .eq off, 3)) (ht : (pc : Int) + off = (tgt : Int)) (kt : (a = b) → V k l D tys R cc nL own w cells slots (tgt) lv (rest)) (kf : (a ≠ b) → V k l D tys R cc nL own w cells slots (pc + 3) lv (rest)) : V k l D tys R cc nL own w cells slots (pc) lv (.int (nI b) :: .int (nI a) :: rest) :=
  j_icmp_eq hdg ht (fun h => kt ((nI_eq ha hb).mp h)) (fun h => kf (fun e => h ((nI_eq ha hb).mpr e)))
theorem j_icmp_ne {x y : Int32} {off : Int} {tgt : Nat} (hdg : decode cc pc = .ok (.if_icmp .ne off, 3)) (ht : (pc : Int) + off = (tgt : Int)) (kt : (¬ x = y) → V k l D tys R cc nL own w cells slots (tgt) lv (rest)) (kf : (x = y) → V k l D tys R cc nL own w cells slots (pc + 3) lv (rest)) : V k l D tys R cc nL own w cells slots (pc) lv (.int y :: .int x :: rest) := by
  obtain ⟨⟨p, e, s, m, args⟩, ⟨below, meth, c⟩, ⟨A, H0⟩, Q⟩ := k
  intro C H locs ls hP hD hS hl
  obtain ⟨hx, hb, hml, hown, hts, hK, hA, hlk, hN, hfl⟩ := id C
  dsimp only at *
  exact lv_icmp_ne hx hb hdg ht (fun h => kt h C H locs ls hP hD hS hl) (fun h => kf h C H locs ls hP hD hS hl)

theorem jn_icmp_ne {a b : Nat} {off : Int} {tgt : Nat} (ha : a < 2 ^ 31) (hb : b < 2 ^ 31) (hdg : decode cc pc = .ok (.if_icmp .ne off, 3)) (ht : (pc : Int) + off = (tgt : Int)) (kt : (a ≠ b) → V k l D tys R cc nL own w cells slots (tgt) lv (rest)) (kf : (a = b) → V k l D tys R cc nL own w cells slots (pc + 3) lv (rest)) : V k l D tys R cc nL own w cells slots (pc) lv (.int (nI b) :: .int (nI a) :: rest) :=
  j_icmp_ne hdg ht (fun h => kt (fun e => h ((nI_eq ha hb).mpr e))) (fun h => kf ((nI_eq ha hb).mp h))
theorem j_icmp_lt {x y : Int32} {off : Int} {tgt : Nat} (hdg : decode cc pc = .ok (.if_icmp .lt off, 3)) (ht : (pc : Int) + off = (tgt : Int)) (kt : (x < y) → V k l D tys R cc nL own w cells slots (tgt) lv (rest)) (kf : (¬ x < y) → V k l D tys R cc nL own w cells slots (pc + 3) lv (rest)) : V k l D tys R cc nL own w cells slots (pc) lv (.int y :: .int x :: rest) := by
  obtain ⟨⟨p, e, s, m, args⟩, ⟨below, meth, c⟩, ⟨A, H0⟩, Q⟩ := k
  intro C H locs ls hP hD hS hl
  obtain ⟨hx, hb, hml, hown, hts, hK, hA, hlk, hN, hfl⟩ := id C
  dsimp only at *
  exact lv_icmp_lt hx hb hdg ht (fun h => kt h C H locs ls hP hD hS hl) (fun h => kf h C H locs ls hP hD hS hl)

theorem jn_icmp_lt {a b : Nat} {off : Int} {tgt : Nat} (ha : a < 2 ^ 31) (hb : b < 2 ^ 31) (hdg : decode cc pc = .ok (.if_icmp .lt off, 3)) (ht : (pc : Int) + off = (tgt : Int)) (kt : (a < b) → V k l D tys R cc nL own w cells slots (tgt) lv (rest)) (kf : (b ≤ a) → V k l D tys R cc nL own w cells slots (pc + 3) lv (rest)) : V k l D tys R cc nL own w cells slots (pc) lv (.int (nI b) :: .int (nI a) :: rest) :=
  j_icmp_lt hdg ht (fun h => kt ((nI_ltI ha hb).mp h)) (fun h => kf (Nat.not_lt.mp (fun e => h ((nI_ltI ha hb).mpr e))))
theorem j_icmp_ge {x y : Int32} {off : Int} {tgt : Nat} (hdg : decode cc pc = .ok (.if_icmp .ge off, 3)) (ht : (pc : Int) + off = (tgt : Int)) (kt : (y ≤ x) → V k l D tys R cc nL own w cells slots (tgt) lv (rest)) (kf : (¬ y ≤ x) → V k l D tys R cc nL own w cells slots (pc + 3) lv (rest)) : V k l D tys R cc nL own w cells slots (pc) lv (.int y :: .int x :: rest) := by
  obtain ⟨⟨p, e, s, m, args⟩, ⟨below, meth, c⟩, ⟨A, H0⟩, Q⟩ := k
  intro C H locs ls hP hD hS hl
  obtain ⟨hx, hb, hml, hown, hts, hK, hA, hlk, hN, hfl⟩ := id C
  dsimp only at *
  exact lv_icmp_ge hx hb hdg ht (fun h => kt h C H locs ls hP hD hS hl) (fun h => kf h C H locs ls hP hD hS hl)

theorem jn_icmp_ge {a b : Nat} {off : Int} {tgt : Nat} (ha : a < 2 ^ 31) (hb : b < 2 ^ 31) (hdg : decode cc pc = .ok (.if_icmp .ge off, 3)) (ht : (pc : Int) + off = (tgt : Int)) (kt : (b ≤ a) → V k l D tys R cc nL own w cells slots (tgt) lv (rest)) (kf : (a < b) → V k l D tys R cc nL own w cells slots (pc + 3) lv (rest)) : V k l D tys R cc nL own w cells slots (pc) lv (.int (nI b) :: .int (nI a) :: rest) :=
  j_icmp_ge hdg ht (fun h => kt ((nI_leI hb ha).mp h)) (fun h => kf (Nat.not_le.mp (fun e => h ((nI_leI hb ha).mpr e))))
theorem j_icmp_gt {x y : Int32} {off : Int} {tgt : Nat} (hdg : decode cc pc = .ok (.if_icmp .gt off, 3)) (ht : (pc : Int) + off = (tgt : Int)) (kt : (y < x) → V k l D tys R cc nL own w cells slots (tgt) lv (rest)) (kf : (¬ y < x) → V k l D tys R cc nL own w cells slots (pc + 3) lv (rest)) : V k l D tys R cc nL own w cells slots (pc) lv (.int y :: .int x :: rest) := by
  obtain ⟨⟨p, e, s, m, args⟩, ⟨below, meth, c⟩, ⟨A, H0⟩, Q⟩ := k
  intro C H locs ls hP hD hS hl
  obtain ⟨hx, hb, hml, hown, hts, hK, hA, hlk, hN, hfl⟩ := id C
  dsimp only at *
  exact lv_icmp_gt hx hb hdg ht (fun h => kt h C H locs ls hP hD hS hl) (fun h => kf h C H locs ls hP hD hS hl)

theorem jn_icmp_gt {a b : Nat} {off : Int} {tgt : Nat} (ha : a < 2 ^ 31) (hb : b < 2 ^ 31) (hdg : decode cc pc = .ok (.if_icmp .gt off, 3)) (ht : (pc : Int) + off = (tgt : Int)) (kt : (b < a) → V k l D tys R cc nL own w cells slots (tgt) lv (rest)) (kf : (a ≤ b) → V k l D tys R cc nL own w cells slots (pc + 3) lv (rest)) : V k l D tys R cc nL own w cells slots (pc) lv (.int (nI b) :: .int (nI a) :: rest) :=
  j_icmp_gt hdg ht (fun h => kt ((nI_ltI hb ha).mp h)) (fun h => kf (Nat.not_lt.mp (fun e => h ((nI_ltI hb ha).mpr e))))
theorem j_icmp_le {x y : Int32} {off : Int} {tgt : Nat} (hdg : decode cc pc = .ok (.if_icmp .le off, 3)) (ht : (pc : Int) + off = (tgt : Int)) (kt : (x ≤ y) → V k l D tys R cc nL own w cells slots (tgt) lv (rest)) (kf : (¬ x ≤ y) → V k l D tys R cc nL own w cells slots (pc + 3) lv (rest)) : V k l D tys R cc nL own w cells slots (pc) lv (.int y :: .int x :: rest) := by
  obtain ⟨⟨p, e, s, m, args⟩, ⟨below, meth, c⟩, ⟨A, H0⟩, Q⟩ := k
  intro C H locs ls hP hD hS hl
  obtain ⟨hx, hb, hml, hown, hts, hK, hA, hlk, hN, hfl⟩ := id C
  dsimp only at *
  exact lv_icmp_le hx hb hdg ht (fun h => kt h C H locs ls hP hD hS hl) (fun h => kf h C H locs ls hP hD hS hl)

theorem jn_icmp_le {a b : Nat} {off : Int} {tgt : Nat} (ha : a < 2 ^ 31) (hb : b < 2 ^ 31) (hdg : decode cc pc = .ok (.if_icmp .le off, 3)) (ht : (pc : Int) + off = (tgt : Int)) (kt : (a ≤ b) → V k l D tys R cc nL own w cells slots (tgt) lv (rest)) (kf : (b < a) → V k l D tys R cc nL own w cells slots (pc + 3) lv (rest)) : V k l D tys R cc nL own w cells slots (pc) lv (.int (nI b) :: .int (nI a) :: rest) :=
  j_icmp_le hdg ht (fun h => kt ((nI_leI ha hb).mp h)) (fun h => kf (Nat.not_le.mp (fun e => h ((nI_leI ha hb).mpr e))))
theorem j_if_eq {x : Int32} {off : Int} {tgt : Nat} (hdg : decode cc pc = .ok (.ifCond .eq off, 3)) (ht : (pc : Int) + off = (tgt : Int)) (kt : (x = 0) → V k l D tys R cc nL own w cells slots (tgt) lv (rest)) (kf : (¬ x = 0) → V k l D tys R cc nL own w cells slots (pc + 3) lv (rest)) : V k l D tys R cc nL own w cells slots (pc) lv (.int x :: rest) := by
  obtain ⟨⟨p, e, s, m, args⟩, ⟨below, meth, c⟩, ⟨A, H0⟩, Q⟩ := k
  intro C H locs ls hP hD hS hl
  obtain ⟨hx, hb, hml, hown, hts, hK, hA, hlk, hN, hfl⟩ := id C
  dsimp only at *
  exact lv_if_eq hx hb hdg ht (fun h => kt h C H locs ls hP hD hS hl) (fun h => kf h C H locs ls hP hD hS hl)

theorem jn_if_eq {a : Nat} {off : Int} {tgt : Nat} (ha : a < 2 ^ 31) (hdg : decode cc pc = .ok (.ifCond .eq off, 3)) (ht : (pc : Int) + off = (tgt : Int)) (kt : (a = 0) → V k l D tys R cc nL own w cells slots (tgt) lv (rest)) (kf : (a ≠ 0) → V k l D tys R cc nL own w cells slots (pc + 3) lv (rest)) : V k l D tys R cc nL own w cells slots (pc) lv (.int (nI a) :: rest) :=
  j_if_eq hdg ht (fun h => kt (nI_eq0 ha h)) (fun h => kf (fun e => h (by rw [e]; exact nI_0)))
theorem j_if_ne {x : Int32} {off : Int} {tgt : Nat} (hdg : decode cc pc = .ok (.ifCond .ne off, 3)) (ht : (pc : Int) + off = (tgt : Int)) (kt : (¬ x = 0) → V k l D tys R cc nL own w cells slots (tgt) lv (rest)) (kf : (x = 0) → V k l D tys R cc nL own w cells slots (pc + 3) lv (rest)) : V k l D tys R cc nL own w cells slots (pc) lv (.int x :: rest) := by
  obtain ⟨⟨p, e, s, m, args⟩, ⟨below, meth, c⟩, ⟨A, H0⟩, Q⟩ := k
  intro C H locs ls hP hD hS hl
  obtain ⟨hx, hb, hml, hown, hts, hK, hA, hlk, hN, hfl⟩ := id C
  dsimp only at *
  exact lv_if_ne hx hb hdg ht (fun h => kt h C H locs ls hP hD hS hl) (fun h => kf h C H locs ls hP hD hS hl)

theorem jn_if_ne {a : Nat} {off : Int} {tgt : Nat} (ha : a < 2 ^ 31) (hdg : decode cc pc = .ok (.ifCond .ne off, 3)) (ht : (pc : Int) + off = (tgt : Int)) (kt : (a ≠ 0) → V k l D tys R cc nL own w cells slots (tgt) lv (rest)) (kf : (a = 0) → V k l D tys R cc nL own w cells slots (pc + 3) lv (rest)) : V k l D tys R cc nL own w cells slots (pc) lv (.int (nI a) :: rest) :=
  j_if_ne hdg ht (fun h => kt (fun e => h (by rw [e]; exact nI_0))) (fun h => kf (nI_eq0 ha h))
theorem j_if_lt {x : Int32} {off : Int} {tgt : Nat} (hdg : decode cc pc = .ok (.ifCond .lt off, 3)) (ht : (pc : Int) + off = (tgt : Int)) (kt : (x < 0) → V k l D tys R cc nL own w cells slots (tgt) lv (rest)) (kf : (¬ x < 0) → V k l D tys R cc nL own w cells slots (pc + 3) lv (rest)) : V k l D tys R cc nL own w cells slots (pc) lv (.int x :: rest) := by
  obtain ⟨⟨p, e, s, m, args⟩, ⟨below, meth, c⟩, ⟨A, H0⟩, Q⟩ := k
  intro C H locs ls hP hD hS hl
  obtain ⟨hx, hb, hml, hown, hts, hK, hA, hlk, hN, hfl⟩ := id C
  dsimp only at *
  exact lv_if_lt hx hb hdg ht (fun h => kt h C H locs ls hP hD hS hl) (fun h => kf h C H locs ls hP hD hS hl)

theorem jn_if_lt {a : Nat} {off : Int} {tgt : Nat} (ha : a < 2 ^ 31) (hdg : decode cc pc = .ok (.ifCond .lt off, 3)) (ht : (pc : Int) + off = (tgt : Int)) (kt : (False) → V k l D tys R cc nL own w cells slots (tgt) lv (rest)) (kf : (True) → V k l D tys R cc nL own w cells slots (pc + 3) lv (rest)) : V k l D tys R cc nL own w cells slots (pc) lv (.int (nI a) :: rest) :=
  j_if_lt hdg ht (fun h => kt (nI_pos ha h)) (fun h => kf trivial)
theorem j_if_ge {x : Int32} {off : Int} {tgt : Nat} (hdg : decode cc pc = .ok (.ifCond .ge off, 3)) (ht : (pc : Int) + off = (tgt : Int)) (kt : (0 ≤ x) → V k l D tys R cc nL own w cells slots (tgt) lv (rest)) (kf : (¬ 0 ≤ x) → V k l D tys R cc nL own w cells slots (pc + 3) lv (rest)) : V k l D tys R cc nL own w cells slots (pc) lv (.int x :: rest) := by
  obtain ⟨⟨p, e, s, m, args⟩, ⟨below, meth, c⟩, ⟨A, H0⟩, Q⟩ := k
  intro C H locs ls hP hD hS hl
  obtain ⟨hx, hb, hml, hown, hts, hK, hA, hlk, hN, hfl⟩ := id C
  dsimp only at *
  exact lv_if_ge hx hb hdg ht (fun h => kt h C H locs ls hP hD hS hl) (fun h => kf h C H locs ls hP hD hS hl)

theorem jn_if_ge {a : Nat} {off : Int} {tgt : Nat} (ha : a < 2 ^ 31) (hdg : decode cc pc = .ok (.ifCond .ge off, 3)) (ht : (pc : Int) + off = (tgt : Int)) (kt : (True) → V k l D tys R cc nL own w cells slots (tgt) lv (rest)) (kf : (False) → V k l D tys R cc nL own w cells slots (pc + 3) lv (rest)) : V k l D tys R cc nL own w cells slots (pc) lv (.int (nI a) :: rest) :=
  j_if_ge hdg ht (fun h => kt trivial) (fun h => kf (h (nI_pos' ha)))
theorem j_if_gt {x : Int32} {off : Int} {tgt : Nat} (hdg : decode cc pc = .ok (.ifCond .gt off, 3)) (ht : (pc : Int) + off = (tgt : Int)) (kt : (0 < x) → V k l D tys R cc nL own w cells slots (tgt) lv (rest)) (kf : (¬ 0 < x) → V k l D tys R cc nL own w cells slots (pc + 3) lv (rest)) : V k l D tys R cc nL own w cells slots (pc) lv (.int x :: rest) := by
  obtain ⟨⟨p, e, s, m, args⟩, ⟨below, meth, c⟩, ⟨A, H0⟩, Q⟩ := k
  intro C H locs ls hP hD hS hl
  obtain ⟨hx, hb, hml, hown, hts, hK, hA, hlk, hN, hfl⟩ := id C
  dsimp only at *
  exact lv_if_gt hx hb hdg ht (fun h => kt h C H locs ls hP hD hS hl) (fun h => kf h C H locs ls hP hD hS hl)

theorem jn_if_gt {a : Nat} {off : Int} {tgt : Nat} (ha : a < 2 ^ 31) (hdg : decode cc pc = .ok (.ifCond .gt off, 3)) (ht : (pc : Int) + off = (tgt : Int)) (kt : (0 < a) → V k l D tys R cc nL own w cells slots (tgt) lv (rest)) (kf : (a = 0) → V k l D tys R cc nL own w cells slots (pc + 3) lv (rest)) : V k l D tys R cc nL own w cells slots (pc) lv (.int (nI a) :: rest) :=
  j_if_gt hdg ht (fun h => kt (Nat.pos_of_ne_zero (fun e => by subst e; exact absurd h (by decide)))) (fun h => kf (Nat.eq_zero_of_not_pos (fun e => h (by have := nI_lt e ha; rw [nI_0] at this; exact this))))
theorem j_if_le {x : Int32} {off : Int} {tgt : Nat} (hdg : decode cc pc = .ok (.ifCond .le off, 3)) (ht : (pc : Int) + off = (tgt : Int)) (kt : (x ≤ 0) → V k l D tys R cc nL own w cells slots (tgt) lv (rest)) (kf : (¬ x ≤ 0) → V k l D tys R cc nL own w cells slots (pc + 3) lv (rest)) : V k l D tys R cc nL own w cells slots (pc) lv (.int x :: rest) := by
  obtain ⟨⟨p, e, s, m, args⟩, ⟨below, meth, c⟩, ⟨A, H0⟩, Q⟩ := k
  intro C H locs ls hP hD hS hl
  obtain ⟨hx, hb, hml, hown, hts, hK, hA, hlk, hN, hfl⟩ := id C
  dsimp only at *
  exact lv_if_le hx hb hdg ht (fun h => kt h C H locs ls hP hD hS hl) (fun h => kf h C H locs ls hP hD hS hl)

theorem jn_if_le {a : Nat} {off : Int} {tgt : Nat} (ha : a < 2 ^ 31) (hdg : decode cc pc = .ok (.ifCond .le off, 3)) (ht : (pc : Int) + off = (tgt : Int)) (kt : (a = 0) → V k l D tys R cc nL own w cells slots (tgt) lv (rest)) (kf : (0 < a) → V k l D tys R cc nL own w cells slots (pc + 3) lv (rest)) : V k l D tys R cc nL own w cells slots (pc) lv (.int (nI a) :: rest) :=
  j_if_le hdg ht (fun h => kt (Nat.eq_zero_of_not_pos (fun e => nI_nle e ha h))) (fun h => kf (Nat.pos_of_ne_zero (fun e => h (by subst e; decide))))
theorem jb_if_eq {b : Bool} {off : Int} {tgt : Nat} (hdg : decode cc pc = .ok (.ifCond .eq off, 3)) (ht : (pc : Int) + off = (tgt : Int)) (kt : b = false → V k l D tys R cc nL own w cells slots (tgt) lv (rest)) (kf : b = true → V k l D tys R cc nL own w cells slots (pc + 3) lv (rest)) : V k l D tys R cc nL own w cells slots (pc) lv (.int (bI b) :: rest) :=
  j_if_eq hdg ht (fun h => kt (bI_0 h)) (fun h => kf (bI_1 h))
theorem jb_if_ne {b : Bool} {off : Int} {tgt : Nat} (hdg : decode cc pc = .ok (.ifCond .ne off, 3)) (ht : (pc : Int) + off = (tgt : Int)) (kt : b = true → V k l D tys R cc nL own w cells slots (tgt) lv (rest)) (kf : b = false → V k l D tys R cc nL own w cells slots (pc + 3) lv (rest)) : V k l D tys R cc nL own w cells slots (pc) lv (.int (bI b) :: rest) :=
  j_if_ne hdg ht (fun h => kt (bI_1 h)) (fun h => kf (bI_0 h))
theorem jn_iadd {a b v : Nat} (hdg : decode cc pc = .ok (.iadd, 1)) (hv : a + b = v) (kk : V k l D tys R cc nL own w cells slots (pc + 1) lv (.int (nI v) :: rest)) : V k l D tys R cc nL own w cells slots (pc) lv (.int (nI b) :: .int (nI a) :: rest) := j_iadd hdg (by rw [nI_add, hv]) kk
theorem jn_isub {a b v : Nat} (hdg : decode cc pc = .ok (.isub, 1)) (hab : b ≤ a) (hv : a - b = v) (kk : V k l D tys R cc nL own w cells slots (pc + 1) lv (.int (nI v) :: rest)) : V k l D tys R cc nL own w cells slots (pc) lv (.int (nI b) :: .int (nI a) :: rest) := j_isub hdg (by rw [nI_sub hab, hv]) kk
theorem jn_imul {a b v : Nat} (hdg : decode cc pc = .ok (.imul, 1)) (hv : a * b = v) (kk : V k l D tys R cc nL own w cells slots (pc + 1) lv (.int (nI v) :: rest)) : V k l D tys R cc nL own w cells slots (pc) lv (.int (nI b) :: .int (nI a) :: rest) := j_imul hdg (by rw [pk_mul, hv]) kk
theorem j_get {a ci index N k0 : Nat} {ref C : String} {T : u_T} {fs : List Value} {v : Value} (hin : ∀ w ∈ u_ws C T N, w ∈ aL) (q0 : Nat) (he : w[q0]? = some (a, .inr (ci, fs))) (hc : vwCl[ci]? = some (C, T, N)) (hk : k0 < N) (hlink : Cond.fieldLink own index ref (T k0).2.1 (T k0).2.2.1 ∈ aL) (hsame : (T k0).1 = ref) (hv : fs[k0]? = some v) (hdg : decode cc pc = .ok (.getfield index, 3)) (kk : V k l D tys R cc nL own w cells slots (pc + 3) lv (v :: rest)) : V k l D tys R cc nL own w cells slots (pc) lv (.ref a :: rest) := by
  obtain ⟨⟨p, e, s, m, args⟩, ⟨below, meth, c⟩, ⟨A, H0⟩, Q⟩ := k
  intro C H locs ls hP hD hS hl
  obtain ⟨hx, hb, hml, hown, hts, hK, hA, hlk, hN, hfl⟩ := id C
  dsimp only at *
  exact va_get hx hb hts hin hown hK hP q0 he hc k0 hk (hts _ hlink) (fun x h => by rw [← hsame]; exact h) hv hdg (kk C H locs ls hP hD hS hl)

theorem j_put {a ci index N k0 : Nat} {ref C0 : String} {T : u_T} {fs : List Value} {v : Value} (w' : va_W) (hin : ∀ w ∈ u_ws C0 T N, w ∈ aL) (ty0 : Nat → FieldType) (hty : ∀ k, k < N → parseFieldDescriptor (T k).2.2.1 = some (ty0 k)) (hnm : ∀ a, a < N → ∀ b, b < N → a ≠ b → (T a).2.1 ≠ (T b).2.1) (q0 : Nat) (he : w[q0]? = some (a, .inr (ci, fs))) (hc : vwCl[ci]? = some (C0, T, N)) (hk : k0 < N) (hlink : Cond.fieldLink own index ref (T k0).2.1 (T k0).2.2.1 ∈ aL) (hsame : (T k0).1 = ref) (hfin : (T k0).2.2.2 = false) {ty : FieldType} (hd : parseFieldDescriptor (T k0).2.2.1 = some ty) (hn : narrow ty v = v) (hfit : fits ty v = true) (hlt : k0 < fs.length) (hw : w.set q0 (a, .inr (ci, fs.set k0 v)) = w') (hdg : decode cc pc = .ok (.putfield index, 3))
  (kk : V k l D tys R cc nL own w' cells slots (pc + 3) lv (rest)) : V k l D tys R cc nL own w cells slots (pc) lv (v :: .ref a :: rest) := by
  obtain ⟨⟨p, e, s, m, args⟩, ⟨below, meth, c⟩, ⟨A, H0⟩, Q⟩ := k
  intro C H locs ls hP hD hS hl
  obtain ⟨hx, hb, hml, hown, hts, hK, hA, hlk, hN, hfl⟩ := id C
  dsimp only at *
  subst hw
  exact va_put hx hb hts hin ty0 hty hnm hown hK hP hD hS q0 he hc k0 hk (hts _ hlink) (fun x h => by rw [← hsame]; exact h) hfin hd hn hfit hlt hdg (fun H1 locs1 hP1 hD1 hS1 => kk C H1 locs1 ls hP1 hD1 hS1 hl)
theorem j_putF {a ci index N k0 : Nat} {ref C0 : String} {T : u_T} {fs : List Value} {v : Value} (w' : va_W) (hin : ∀ w ∈ u_ws C0 T N, w ∈ aL) (ty0 : Nat → FieldType) (hty : ∀ k, k < N → parseFieldDescriptor (T k).2.2.1 = some (ty0 k)) (hnm : ∀ a, a < N → ∀ b, b < N → a ≠ b → (T a).2.1 ≠ (T b).2.1) (q0 : Nat) (he : w[q0]? = some (a, .inr (ci, fs))) (hc : vwCl[ci]? = some (C0, T, N)) (hk : k0 < N) (hlink : Cond.fieldLink own index ref (T k0).2.1 (T k0).2.2.1 ∈ aL) (hsame : (T k0).1 = ref) (hfin : (T k0).2.2.2 = true) (hin2 : VInit k) (hdecl : (T k0).1 = own) {ty : FieldType} (hd : parseFieldDescriptor (T k0).2.2.1 = some ty) (hn : narrow ty v = v) (hfit : fits ty v = true) (hlt : k0 < fs.length) (hw : w.set q0 (a, .inr (ci, fs.set k0 v)) = w') (hdg : decode cc pc = .ok (.putfield index, 3))
  (kk : V k l D tys R cc nL own w' cells slots (pc + 3) lv (rest)) : V k l D tys R cc nL own w cells slots (pc) lv (v :: .ref a :: rest) := by
  obtain ⟨⟨p, e, s, m, args⟩, ⟨below, meth, c⟩, ⟨A, H0⟩, Q⟩ := k
  intro C H locs ls hP hD hS hl
  obtain ⟨hx, hb, hml, hown, hts, hK, hA, hlk, hN, hfl⟩ := id C
  dsimp only at *
  subst hw
  exact va_putF hx hb hts hin ty0 hty hnm hown hK hP hD hS q0 he hc k0 hk (hts _ hlink) (fun x h => by rw [← hsame]; exact h) hfin hin2 hdecl hd hn hfit hlt hdg (fun H1 locs1 hP1 hD1 hS1 => kk C H1 locs1 ls hP1 hD1 hS1 hl)
theorem j_iald {a n : Nat} {cA : ClassId} {f : Nat → Int32} {i : Int32} {v : Int32} (q0 t0 : Nat) (ha : w[q0]? = some (a, .inl (cA, n, .inl f))) (ht : tys[t0]? = some (cA, .int)) (hin : vp_in i n) (hv : f i.toNatClampNeg = v) (hdg : decode cc pc = .ok (.iaload, 1)) (kk : V k l D tys R cc nL own w cells slots (pc + 1) lv (.int v :: rest)) : V k l D tys R cc nL own w cells slots (pc) lv (.int i :: .ref a :: rest) := by
  obtain ⟨⟨p, e, s, m, args⟩, ⟨below, meth, c⟩, ⟨A, H0⟩, Q⟩ := k
  intro C H locs ls hP hD hS hl
  obtain ⟨hx, hb, hml, hown, hts, hK, hA, hlk, hN, hfl⟩ := id C
  dsimp only at *
  subst hv
  exact va_iald hx hb hK hP q0 t0 ha ht hin hdg (kk C H locs ls hP hD hS hl)

theorem jn_iald {a n : Nat} {cA : ClassId} {f : Nat → Int32} {i : Nat} {v : Int32} (q0 t0 : Nat) (ha : w[q0]? = some (a, .inl (cA, n, .inl f))) (ht : tys[t0]? = some (cA, .int)) (hi : i < n) (hn : n < 2 ^ 31) (hv : f i = v) (hdg : decode cc pc = .ok (.iaload, 1)) (kk : V k l D tys R cc nL own w cells slots (pc + 1) lv (.int v :: rest)) : V k l D tys R cc nL own w cells slots (pc) lv (.int (nI i) :: .ref a :: rest) :=
  j_iald q0 t0 ha ht (vp_in_nI hi hn) (by rw [nI_clamp (Nat.lt_trans hi hn)]; exact hv) hdg kk
theorem j_zald {a n : Nat} {cA : ClassId} {f : Nat → Int32} {i : Int32} {v : Int32} (q0 t0 : Nat) (ha : w[q0]? = some (a, .inl (cA, n, .inl f))) (ht : tys[t0]? = some (cA, .boolean)) (hin : vp_in i n) (hv : f i.toNatClampNeg = v) (hdg : decode cc pc = .ok (.baload, 1)) (kk : V k l D tys R cc nL own w cells slots (pc + 1) lv (.int v :: rest)) : V k l D tys R cc nL own w cells slots (pc) lv (.int i :: .ref a :: rest) := by
  obtain ⟨⟨p, e, s, m, args⟩, ⟨below, meth, c⟩, ⟨A, H0⟩, Q⟩ := k
  intro C H locs ls hP hD hS hl
  obtain ⟨hx, hb, hml, hown, hts, hK, hA, hlk, hN, hfl⟩ := id C
  dsimp only at *
  subst hv
  exact va_zald hx hb hK hP q0 t0 ha ht hin hdg (kk C H locs ls hP hD hS hl)

theorem jn_zald {a n : Nat} {cA : ClassId} {f : Nat → Int32} {i : Nat} {v : Int32} (q0 t0 : Nat) (ha : w[q0]? = some (a, .inl (cA, n, .inl f))) (ht : tys[t0]? = some (cA, .boolean)) (hi : i < n) (hn : n < 2 ^ 31) (hv : f i = v) (hdg : decode cc pc = .ok (.baload, 1)) (kk : V k l D tys R cc nL own w cells slots (pc + 1) lv (.int v :: rest)) : V k l D tys R cc nL own w cells slots (pc) lv (.int (nI i) :: .ref a :: rest) :=
  j_zald q0 t0 ha ht (vp_in_nI hi hn) (by rw [nI_clamp (Nat.lt_trans hi hn)]; exact hv) hdg kk
theorem j_lald {a n : Nat} {cA : ClassId} {f : Nat → Int64} {i : Int32} {v : Int64} (q0 t0 : Nat) (ha : w[q0]? = some (a, .inl (cA, n, .inr (.inl f)))) (ht : tys[t0]? = some (cA, .long)) (hin : vp_in i n) (hv : f i.toNatClampNeg = v) (hdg : decode cc pc = .ok (.laload, 1)) (kk : V k l D tys R cc nL own w cells slots (pc + 1) lv (.long v :: rest)) : V k l D tys R cc nL own w cells slots (pc) lv (.int i :: .ref a :: rest) := by
  obtain ⟨⟨p, e, s, m, args⟩, ⟨below, meth, c⟩, ⟨A, H0⟩, Q⟩ := k
  intro C H locs ls hP hD hS hl
  obtain ⟨hx, hb, hml, hown, hts, hK, hA, hlk, hN, hfl⟩ := id C
  dsimp only at *
  subst hv
  exact va_lald hx hb hK hP q0 t0 ha ht hin hdg (kk C H locs ls hP hD hS hl)

theorem jn_lald {a n : Nat} {cA : ClassId} {f : Nat → Int64} {i : Nat} {v : Int64} (q0 t0 : Nat) (ha : w[q0]? = some (a, .inl (cA, n, .inr (.inl f)))) (ht : tys[t0]? = some (cA, .long)) (hi : i < n) (hn : n < 2 ^ 31) (hv : f i = v) (hdg : decode cc pc = .ok (.laload, 1)) (kk : V k l D tys R cc nL own w cells slots (pc + 1) lv (.long v :: rest)) : V k l D tys R cc nL own w cells slots (pc) lv (.int (nI i) :: .ref a :: rest) :=
  j_lald q0 t0 ha ht (vp_in_nI hi hn) (by rw [nI_clamp (Nat.lt_trans hi hn)]; exact hv) hdg kk
theorem j_iast {a n : Nat} {cA : ClassId} {f : Nat → Int32} {i : Int32} {x : Int32} (w' : va_W) (q0 t0 : Nat) (ha : w[q0]? = some (a, .inl (cA, n, .inl f))) (ht : tys[t0]? = some (cA, .int)) (hin : vp_in i n) (hw : w.set q0 (a, .inl (cA, n, .inl (upd f i.toNatClampNeg x))) = w') (hdg : decode cc pc = .ok (.iastore, 1)) (kk : V k l D tys R cc nL own w' cells slots (pc + 1) lv (rest)) : V k l D tys R cc nL own w cells slots (pc) lv (.int x :: .int i :: .ref a :: rest) := by
  obtain ⟨⟨p, e, s, m, args⟩, ⟨below, meth, c⟩, ⟨A, H0⟩, Q⟩ := k
  intro C H locs ls hP hD hS hl
  obtain ⟨hx, hb, hml, hown, hts, hK, hA, hlk, hN, hfl⟩ := id C
  dsimp only at *
  subst hw
  exact va_iast hx hb hK hP hD hS q0 t0 ha ht hin hdg (fun H1 locs1 hP1 hD1 hS1 => kk C H1 locs1 ls hP1 hD1 hS1 hl)
theorem jn_iast {a n : Nat} {cA : ClassId} {f : Nat → Int32} {i : Nat} {x : Int32} (w' : va_W) (q0 t0 : Nat) (ha : w[q0]? = some (a, .inl (cA, n, .inl f))) (ht : tys[t0]? = some (cA, .int)) (hi : i < n) (hn : n < 2 ^ 31) (hw : w.set q0 (a, .inl (cA, n, .inl (upd f i x))) = w') (hdg : decode cc pc = .ok (.iastore, 1)) (kk : V k l D tys R cc nL own w' cells slots (pc + 1) lv (rest)) : V k l D tys R cc nL own w cells slots (pc) lv (.int x :: .int (nI i) :: .ref a :: rest) :=
  j_iast w' q0 t0 ha ht (vp_in_nI hi hn) (by rw [nI_clamp (Nat.lt_trans hi hn)]; exact hw) hdg kk
theorem j_zast {a n : Nat} {cA : ClassId} {f : Nat → Int32} {i : Int32} {x : Int32} (w' : va_W) (q0 t0 : Nat) (ha : w[q0]? = some (a, .inl (cA, n, .inl f))) (ht : tys[t0]? = some (cA, .boolean)) (hin : vp_in i n) (hw : w.set q0 (a, .inl (cA, n, .inl (upd f i.toNatClampNeg (vp_nar .boolean x)))) = w') (hdg : decode cc pc = .ok (.bastore, 1)) (kk : V k l D tys R cc nL own w' cells slots (pc + 1) lv (rest)) : V k l D tys R cc nL own w cells slots (pc) lv (.int x :: .int i :: .ref a :: rest) := by
  obtain ⟨⟨p, e, s, m, args⟩, ⟨below, meth, c⟩, ⟨A, H0⟩, Q⟩ := k
  intro C H locs ls hP hD hS hl
  obtain ⟨hx, hb, hml, hown, hts, hK, hA, hlk, hN, hfl⟩ := id C
  dsimp only at *
  subst hw
  exact va_zast hx hb hK hP hD hS q0 t0 ha ht hin hdg (fun H1 locs1 hP1 hD1 hS1 => kk C H1 locs1 ls hP1 hD1 hS1 hl)
theorem jn_zast {a n : Nat} {cA : ClassId} {f : Nat → Int32} {i : Nat} {x : Int32} (w' : va_W) (q0 t0 : Nat) (ha : w[q0]? = some (a, .inl (cA, n, .inl f))) (ht : tys[t0]? = some (cA, .boolean)) (hi : i < n) (hn : n < 2 ^ 31) (hw : w.set q0 (a, .inl (cA, n, .inl (upd f i (vp_nar .boolean x)))) = w') (hdg : decode cc pc = .ok (.bastore, 1)) (kk : V k l D tys R cc nL own w' cells slots (pc + 1) lv (rest)) : V k l D tys R cc nL own w cells slots (pc) lv (.int x :: .int (nI i) :: .ref a :: rest) :=
  j_zast w' q0 t0 ha ht (vp_in_nI hi hn) (by rw [nI_clamp (Nat.lt_trans hi hn)]; exact hw) hdg kk
theorem j_last {a n : Nat} {cA : ClassId} {f : Nat → Int64} {i : Int32} {x : Int64} (w' : va_W) (q0 t0 : Nat) (ha : w[q0]? = some (a, .inl (cA, n, .inr (.inl f)))) (ht : tys[t0]? = some (cA, .long)) (hin : vp_in i n) (hw : w.set q0 (a, .inl (cA, n, .inr (.inl (vp_updL f i.toNatClampNeg x)))) = w') (hdg : decode cc pc = .ok (.lastore, 1)) (kk : V k l D tys R cc nL own w' cells slots (pc + 1) lv (rest)) : V k l D tys R cc nL own w cells slots (pc) lv (.long x :: .int i :: .ref a :: rest) := by
  obtain ⟨⟨p, e, s, m, args⟩, ⟨below, meth, c⟩, ⟨A, H0⟩, Q⟩ := k
  intro C H locs ls hP hD hS hl
  obtain ⟨hx, hb, hml, hown, hts, hK, hA, hlk, hN, hfl⟩ := id C
  dsimp only at *
  subst hw
  exact va_last hx hb hK hP hD hS q0 t0 ha ht hin hdg (fun H1 locs1 hP1 hD1 hS1 => kk C H1 locs1 ls hP1 hD1 hS1 hl)
theorem jn_last {a n : Nat} {cA : ClassId} {f : Nat → Int64} {i : Nat} {x : Int64} (w' : va_W) (q0 t0 : Nat) (ha : w[q0]? = some (a, .inl (cA, n, .inr (.inl f)))) (ht : tys[t0]? = some (cA, .long)) (hi : i < n) (hn : n < 2 ^ 31) (hw : w.set q0 (a, .inl (cA, n, .inr (.inl (vp_updL f i x)))) = w') (hdg : decode cc pc = .ok (.lastore, 1)) (kk : V k l D tys R cc nL own w' cells slots (pc + 1) lv (rest)) : V k l D tys R cc nL own w cells slots (pc) lv (.long x :: .int (nI i) :: .ref a :: rest) :=
  j_last w' q0 t0 ha ht (vp_in_nI hi hn) (by rw [nI_clamp (Nat.lt_trans hi hn)]; exact hw) hdg kk
theorem j_alen {a : Nat} {cA : ClassId} {x : vp_A} {ty : FieldType} {v : Int32} (q0 t0 : Nat) (ha : w[q0]? = some (a, .inl (cA, x))) (ht : tys[t0]? = some (cA, ty)) (hv : Int32.ofNat x.1 = v) (hdg : decode cc pc = .ok (.arraylength, 1)) (kk : V k l D tys R cc nL own w cells slots (pc + 1) lv (.int v :: rest)) : V k l D tys R cc nL own w cells slots (pc) lv (.ref a :: rest) := by
  obtain ⟨⟨p, e, s, m, args⟩, ⟨below, meth, c⟩, ⟨A, H0⟩, Q⟩ := k
  intro C H locs ls hP hD hS hl
  obtain ⟨hx, hb, hml, hown, hts, hK, hA, hlk, hN, hfl⟩ := id C
  dsimp only at *
  exact va_alen hx hb hK hP q0 t0 ha ht hv hdg (kk C H locs ls hP hD hS hl)

theorem j_iret {tys' : List (ClassId × FieldType)} {ret : Option FieldType} {Po : Option Value → va_W → Prop} {v : Int32} (hret : ret = some .int) (hR : VRet k D tys ret Po cells slots) (hdg : decode cc pc = .ok (.ireturn, 1)) (hpo : Po (some (.int v)) w) : V k l D tys R cc nL own w cells slots (pc) lv ([.int v]) := by
  obtain ⟨⟨p, e, s, m, args⟩, ⟨below, meth, c⟩, ⟨A, H0⟩, Q⟩ := k
  intro C H locs ls hP hD hS hl
  obtain ⟨hx, hb, hml, hown, hts, hK, hA, hlk, hN, hfl⟩ := id C
  dsimp only at *
  obtain ⟨h1, h2, h3⟩ := hR
  dsimp only at h1 h2 h3
  subst h2 h3
  subst hret
  exact W.iret hx hb h1 (fun t ht hW => ⟨⟨_, w, rfl, hpo, by rw [ht]; exact hP, va_K.moved hW.alike hK, hD⟩, hS.F ht⟩) hS.2.2 hdg
theorem j_zret {tys' : List (ClassId × FieldType)} {ret : Option FieldType} {Po : Option Value → va_W → Prop} {v : Int32} (hret : ret = some .boolean) (hnz : narrow .boolean (.int v) = .int v) (hR : VRet k D tys ret Po cells slots) (hdg : decode cc pc = .ok (.ireturn, 1)) (hpo : Po (some (.int v)) w) : V k l D tys R cc nL own w cells slots (pc) lv ([.int v]) := by
  obtain ⟨⟨p, e, s, m, args⟩, ⟨below, meth, c⟩, ⟨A, H0⟩, Q⟩ := k
  intro C H locs ls hP hD hS hl
  obtain ⟨hx, hb, hml, hown, hts, hK, hA, hlk, hN, hfl⟩ := id C
  dsimp only at *
  obtain ⟨h1, h2, h3⟩ := hR
  dsimp only at h1 h2 h3
  subst h2 h3
  subst hret
  exact W.zret hx hb h1 hnz (fun t ht hW => ⟨⟨_, w, rfl, hpo, by rw [ht]; exact hP, va_K.moved hW.alike hK, hD⟩, hS.F ht⟩) hS.2.2 hdg
theorem j_lret {tys' : List (ClassId × FieldType)} {ret : Option FieldType} {Po : Option Value → va_W → Prop} {v : Int64} (hret : ret = some .long) (hR : VRet k D tys ret Po cells slots) (hdg : decode cc pc = .ok (.lreturn, 1)) (hpo : Po (some (.long v)) w) : V k l D tys R cc nL own w cells slots (pc) lv ([.long v]) := by
  obtain ⟨⟨p, e, s, m, args⟩, ⟨below, meth, c⟩, ⟨A, H0⟩, Q⟩ := k
  intro C H locs ls hP hD hS hl
  obtain ⟨hx, hb, hml, hown, hts, hK, hA, hlk, hN, hfl⟩ := id C
  dsimp only at *
  obtain ⟨h1, h2, h3⟩ := hR
  dsimp only at h1 h2 h3
  subst h2 h3
  subst hret
  exact W.lret hx hb h1 (fun t ht hW => ⟨⟨_, w, rfl, hpo, by rw [ht]; exact hP, va_K.moved hW.alike hK, hD⟩, hS.F ht⟩) hS.2.2 hdg
theorem j_vret {tys' : List (ClassId × FieldType)} {ret : Option FieldType} {Po : Option Value → va_W → Prop} (hret : ret = none) (hR : VRet k D tys ret Po cells slots) (hdg : decode cc pc = .ok (.return_, 1)) (hpo : Po none w) : V k l D tys R cc nL own w cells slots (pc) lv ([]) := by
  obtain ⟨⟨p, e, s, m, args⟩, ⟨below, meth, c⟩, ⟨A, H0⟩, Q⟩ := k
  intro C H locs ls hP hD hS hl
  obtain ⟨hx, hb, hml, hown, hts, hK, hA, hlk, hN, hfl⟩ := id C
  dsimp only at *
  obtain ⟨h1, h2, h3⟩ := hR
  dsimp only at h1 h2 h3
  subst h2 h3
  subst hret
  exact W.vret hx hb h1 (fun t ht hW => ⟨⟨_, w, rfl, hpo, by rw [ht]; exact hP, va_K.moved hW.alike hK, hD⟩, hS.F ht⟩) hS.2.2 hdg
theorem nar_bI (b : Bool) : narrow .boolean (.int (bI b)) = .int (bI b) := by cases b <;> rfl
theorem j_zretB {b : Bool} {tys' : List (ClassId × FieldType)} {ret : Option FieldType} {Po : Option Value → va_W → Prop} (hret : ret = some .boolean) (hR : VRet k D tys ret Po cells slots) (hdg : decode cc pc = .ok (.ireturn, 1)) (hpo : Po (some (.int (bI b))) w) : V k l D tys R cc nL own w cells slots (pc) lv ([.int (bI b)]) := j_zret (tys' := tys') hret (nar_bI b) hR hdg hpo
end JR
end
section
theorem blindP {av : List Value} {D : va_G} {tys : List (ClassId × FieldType)} {w : va_W} {sz : Nat} : FrameBlind (va_Pc av (PCt D tys w sz)) := fun a U g mk q => by
  obtain ⟨q0, q1, qP, qK, qD, qN⟩ := q
  exact ⟨q0, q1, qP, va_K.moved (u := U) (U := U.calling g mk a) (Vm.Alike.refl U.vm) qK, qD, va_Nw.same (u := U) (U := U.calling g mk a) rfl rfl qN⟩
theorem goodAll {y : MethodName} {cc : ByteArray} {n : Nat} {ret : Option FieldType} (h : Cond.code y cc n ret ∈ aL) : GoodIn aL (Cond.code y cc n ret :: aL) := fun w hw => by
  rcases List.mem_cons.mp hw with h1 | h1
  · rw [h1]; exact ⟨h, aL_good h⟩
  · exact ⟨h1, aL_good h1⟩
theorem goodS {own : String} {index : Nat} {y : MethodName} {cc : ByteArray} {n : Nat} {ret : Option FieldType} (h1 : Cond.methodLink own index y ∈ aL) (h2 : Cond.static y ∈ aL) (h3 : Cond.initialized y.cls ∈ aL) (h : Cond.code y cc n ret ∈ aL) : GoodIn aL (va_wsS own index y (Cond.code y cc n ret :: aL)) :=
  goodIn_app (fun w hw => by
    simp only [List.mem_cons, List.not_mem_nil, or_false] at hw
    rcases hw with e | e | e
    · rw [e]; exact ⟨h1, aL_good h1⟩
    · rw [e]; exact ⟨h2, aL_good h2⟩
    · rw [e]; exact ⟨h3, aL_good h3⟩) (goodAll h)
theorem goodV {own C : String} {index : Nat} {y : MethodName} {cc : ByteArray} {n : Nat} {ret : Option FieldType} (h1 : Cond.methodLink own index y ∈ aL) (h2 : Cond.instanceMethod y ∈ aL) (h3 : Cond.selects C y y ∈ aL) (h4 : Cond.initialized C ∈ aL) (h : Cond.code y cc n ret ∈ aL) : GoodIn aL (wsV own index C y (Cond.code y cc n ret :: aL)) :=
  goodIn_app (fun w hw => by
    simp only [List.mem_cons, List.not_mem_nil, or_false] at hw
    rcases hw with e | e | e | e
    · rw [e]; exact ⟨h1, aL_good h1⟩
    · rw [e]; exact ⟨h2, aL_good h2⟩
    · rw [e]; exact ⟨h3, aL_good h3⟩
    · rw [e]; exact ⟨h4, aL_good h4⟩) (goodAll h)
section JCO
variable {p : Program} {l : Launch} {e : Env} {R : Room} {s : State} {m : MethodId} {args : Array Value} {below : List Frame} {meth : Method} {c : Code} {H : Heap} {locs : List Loc} {cells slots : Nat} {Q : State → Prop}
variable {pc : Nat} {ls : Array Slot} {rest st0 : List Value} {a : Array Value} {A0 A1 : Nat → Prop} {H0 : Heap} {mc ms : Nat} {free : Addr → Prop}
theorem va_callO {D : va_G} {tys2 : List (ClassId × FieldType)} {Po : Option Value → va_W → Prop} (hr : va_Run p l e R s m args below meth c H locs cells slots mc ms (F0 m pc ls st0) rest (QCt D tys2 A1 Po a) free) (hS : va_S A0 H0 H locs) (hA : ∀ q, q < H.size → A1 q → A0 q) (hf : ∀ q, free q → A0 q)
    (kk : ∀ (r : Option Value) (u : va_W) (t : State) (H1 : Heap) (locs1 : List Loc), t.heap = H1 → s.vm.Alike t.vm → Po r u → va_P D vwCl u t.heap → va_K D vwCl tys2 t → va_D A1 u → H.size ≤ H1.size → (∀ q : Nat, q < H.size → ¬ A1 q → H1[q]? = H[q]?) → va_S A0 H0 H1 locs1 → W p l e R s m args below meth c H1 locs1 (cells + mc) (slots + ms) Q (F0 m (pc + 3) ls (r.toList ++ rest))) : W p l e R s m args below meth c H locs cells slots Q (F0 m pc ls st0) := by
  intro T hT X
  obtain ⟨v, st₀, t, T', L, h0, X', hL, e1, e2, ⟨⟨r, u, hv, hp, hb, hk1, hd1⟩, hz, hk⟩, st⟩ := hr T hT X
  cases hv
  rw [h0] at hz hk
  obtain ⟨t2, a1, b1⟩ := kk v u t T'.heap (locs ++ L) e1.symm (by rw [← e2]; exact X'.warmed.alike) hp hb hk1 hd1 (by rw [e1]; exact hz) (fun q h1 h2 => by rw [e1]; exact hk q h1 h2)
    ⟨Nat.le_trans hS.1 (by rw [e1]; exact hz), fun q h1 h2 => by rw [e1, hk q (Nat.lt_of_lt_of_le h1 hS.1) (fun z => h2 (hA q (Nat.lt_of_lt_of_le h1 hS.1) z))]; exact hS.2.1 q h1 h2, fun q hq => by
      rcases List.mem_append.mp hq with h | h
      · exact hS.2.2 q h
      · exact hf _ (hL q h)⟩ T' rfl X'
  exact ⟨t2, st t2 a1, b1⟩
end JCO
section JC
variable {k : VK} {l : Launch} {D : va_G} {tys : List (ClassId × FieldType)} {R : Room} {cc : ByteArray} {nL : Nat} {own : String} {w : va_W} {cells slots pc : Nat} {lv : List (Nat × Value)} {rest : List Value}
theorem j_callS {y : MethodName} {cc2 : ByteArray} {n2 index n mc ms : Nat} {ret2 : Option FieldType} {rm : Room} {tys2 : List (ClassId × FieldType)} {wc wr : va_W} {av : List Value} {Po : Option Value → va_W → Prop} {tys3 : List (ClassId × FieldType)} (hM : Ct l y cc2 n2 ret2 rm D tys tys2 wc av Po mc ms) (h1 : Cond.methodLink own index y ∈ aL) (h2 : Cond.static y ∈ aL) (h3 : Cond.initialized y.cls ∈ aL) (h4 : Cond.code y cc2 n2 ret2 ∈ aL) (hd : y.cls ≠ "java/lang/invoke/MethodHandle" ∧ y.cls ≠ "java/lang/invoke/VarHandle" ∧ (parseMethodDescriptor y.desc).map (fun d => d.parameters.length) = some n) (hlen : av.length = n) (hrm : rm.cells = mc ∧ rm.slots = ms) (hR : rm.frames + 1 ≤ R.frames ∧ 8 + (n2 + 11) + rm.locals ≤ R.locals) (hc : cells + mc ≤ R.cells ∧ slots + ms ≤ R.slots) (hW : (rest.map fun v => v.category).sum ≤ 8) (isC isR : List Nat) (hC : isC.map (fun i => w[i]?) = wc.map some) (hRr : isR.map (fun i => w[i]?) = wr.map some) (hnC : va_nd isC = true) (hnd : va_nd isR = true) (hdis : ∀ i ∈ isR, i ∉ isC) (htt : ∀ s : State, va_K D vwCl tys s → va_K D vwCl tys2 s → va_K D vwCl tys3 s) {st : List Value} (hst : st = av.reverse ++ rest) (hdg : decode cc pc = .ok (.invokestatic index, 3)) (kk : ∀ (r : Option Value) (u : va_W), Po r u → V k l D tys3 R cc nL own (wr ++ u) (cells + mc) (slots + ms) (pc + 3) lv (r.toList ++ rest)) : V k l D tys R cc nL own w cells slots (pc) lv (st) := by
  obtain ⟨⟨p, e, s, m, args⟩, ⟨below, meth, c⟩, ⟨A, H0⟩, Q⟩ := k
  intro C H locs ls hP hD hS hl
  obtain ⟨hx, hb, hml, hown, hts, hK, hA, hlk, hN, hfl⟩ := id C
  dsimp only at *
  subst hst
  have hPc : va_P D vwCl wc H := by
    intro j q hq
    have h1 : (isC.map (fun i => w[i]?))[j]? = some (some q) := by rw [hC, List.getElem?_map, hq]; rfl
    rw [List.getElem?_map] at h1
    cases hi : isC[j]? with
    | none => rw [hi] at h1; cases h1
    | some i => rw [hi] at h1; exact hP i q (Option.some.inj h1)
  have hDc := hD.sub isC hnC hC
  have hFc := va_free (wc := wc) hD hS hA isC hC
  refine va_callO (va_runS (As := av) (rest := rest) ⟨hx, hb, hml, hown, hts⟩ (hM H.size) (va_cwS n hts (goodS h1 h2 h3 h4) rfl hrm.1 hrm.2 hd hR) ⟨blindP, fun U hU hW => ⟨rfl, by rw [hU], by rw [hU]; exact hPc, va_K.moved hW.alike hK, hDc.weaken (fun _ _ _ _ => trivial), va_Nw.warmM hW hN⟩⟩ rfl hlen hl.1 rfl (lv_room hW) hdg hc) hS (fun q _ h => hFc q h) hFc (fun r u t H1 locs1 ht hvm hpo hP1 hK1 hD1 hz1 hk1 hS1 => ?_)
  rw [ht] at hP1
  have hK1 := va_K.moved hvm.symm hK1
  obtain ⟨hP2, hD2⟩ := va_join (wr := wr) (w1 := u) hP hD isC isR hC hRr hnd hdis hk1 hFc hP1 hD1
  exact kk r u hpo ⟨hx, hb, hml, hown, hts, htt _ hK hK1, hA, hlk, hN, hfl⟩ H1 locs1 ls hP2 hD2 hS1 hl
theorem j_callSN {y : MethodName} {cc2 : ByteArray} {n2 index n mc ms : Nat} {ret2 : Option FieldType} {rm : Room} {tys2 : List (ClassId × FieldType)} {wc wr : va_W} {av : List Value} {Po : Option Value → va_W → Prop} {tys3 : List (ClassId × FieldType)} (hM : Ct l y cc2 n2 ret2 rm D tys tys2 wc av Po mc ms) (h1 : nestW = Cond.methodLinkNest own index y RX2) (h2 : Cond.static y ∈ aL) (h3 : Cond.initialized y.cls ∈ aL) (h4 : Cond.code y cc2 n2 ret2 ∈ aL) (hd : y.cls ≠ "java/lang/invoke/MethodHandle" ∧ y.cls ≠ "java/lang/invoke/VarHandle" ∧ (parseMethodDescriptor y.desc).map (fun d => d.parameters.length) = some n) (hlen : av.length = n) (hrm : rm.cells = mc ∧ rm.slots = ms) (hR : rm.frames + 1 ≤ R.frames ∧ 8 + (n2 + 11) + rm.locals ≤ R.locals) (hc : cells + mc ≤ R.cells ∧ slots + ms ≤ R.slots) (hW : (rest.map fun v => v.category).sum ≤ 8) (isC isR : List Nat) (hC : isC.map (fun i => w[i]?) = wc.map some) (hRr : isR.map (fun i => w[i]?) = wr.map some) (hnC : va_nd isC = true) (hnd : va_nd isR = true) (hdis : ∀ i ∈ isR, i ∉ isC) (htt : ∀ s : State, va_K D vwCl tys s → va_K D vwCl tys2 s → va_K D vwCl tys3 s) {st : List Value} (hst : st = av.reverse ++ rest) (hdg : decode cc pc = .ok (.invokestatic index, 3)) (kk : ∀ (r : Option Value) (u : va_W), Po r u → V k l D tys3 R cc nL own (wr ++ u) (cells + mc) (slots + ms) (pc + 3) lv (r.toList ++ rest)) : V k l D tys R cc nL own w cells slots (pc) lv (st) := by
  obtain ⟨⟨p, e, s, m, args⟩, ⟨below, meth, c⟩, ⟨A, H0⟩, Q⟩ := k
  intro C H locs ls hP hD hS hl
  obtain ⟨hx, hb, hml, hown, hts, hK, hA, hlk, hN, hfl⟩ := id C
  dsimp only at *
  subst hst
  have hPc : va_P D vwCl wc H := by
    intro j q hq
    have h1 : (isC.map (fun i => w[i]?))[j]? = some (some q) := by rw [hC, List.getElem?_map, hq]; rfl
    rw [List.getElem?_map] at h1
    cases hi : isC[j]? with
    | none => rw [hi] at h1; cases h1
    | some i => rw [hi] at h1; exact hP i q (Option.some.inj h1)
  have hDc := hD.sub isC hnC hC
  have hFc := va_free (wc := wc) hD hS hA isC hC
  refine va_callO (va_runSN (As := av) (rest := rest) ⟨hx, hb, hml, hown, hts⟩ (hM H.size) ⟨va_cnB n hts (goodAll h4) rfl hrm.1 hrm.2 (by rw [← h1]; exact hN) (hts _ h3) hd hR, hts _ h2, trivial⟩ ⟨blindP, fun U hU hW => ⟨rfl, by rw [hU], by rw [hU]; exact hPc, va_K.moved hW.alike hK, hDc.weaken (fun _ _ _ _ => trivial), va_Nw.warmM hW hN⟩⟩ rfl hlen hl.1 rfl (lv_room hW) hdg hc) hS (fun q _ h => hFc q h) hFc (fun r u t H1 locs1 ht hvm hpo hP1 hK1 hD1 hz1 hk1 hS1 => ?_)
  rw [ht] at hP1
  have hK1 := va_K.moved hvm.symm hK1
  obtain ⟨hP2, hD2⟩ := va_join (wr := wr) (w1 := u) hP hD isC isR hC hRr hnd hdis hk1 hFc hP1 hD1
  exact kk r u hpo ⟨hx, hb, hml, hown, hts, htt _ hK hK1, hA, hlk, hN, hfl⟩ H1 locs1 ls hP2 hD2 hS1 hl
theorem j_callV {y : MethodName} {cc2 : ByteArray} {n2 index n mc ms : Nat} {ret2 : Option FieldType} {rm : Room} {tys2 : List (ClassId × FieldType)} {wc wr : va_W} {av : List Value} {Po : Option Value → va_W → Prop} {tys3 : List (ClassId × FieldType)} {b ci : Nat} {qc : vw_C} {fs : List Value} (hM : Ct l y cc2 n2 ret2 rm D tys tys2 wc (.ref b :: av) Po mc ms) (q0 : Nat) (he : w[q0]? = some (b, .inr (ci, fs))) (hcl : vwCl[ci]? = some qc) (h1 : Cond.methodLink own index y ∈ aL) (h2 : Cond.instanceMethod y ∈ aL) (h5 : Cond.selects qc.1 y y ∈ aL) (h3 : Cond.initialized qc.1 ∈ aL) (h4 : Cond.code y cc2 n2 ret2 ∈ aL) (hd : y.cls = qc.1 ∧ y.cls ≠ "java/lang/invoke/MethodHandle" ∧ y.cls ≠ "java/lang/invoke/VarHandle" ∧ (parseMethodDescriptor y.desc).map (fun d => d.parameters.length) = some n) (hlen : av.length = n) (hrm : rm.cells = mc ∧ rm.slots = ms) (hR : rm.frames + 1 ≤ R.frames ∧ 8 + (n2 + 11) + rm.locals ≤ R.locals) (hc : cells + mc ≤ R.cells ∧ slots + ms ≤ R.slots) (hW : (rest.map fun v => v.category).sum ≤ 8) (isC isR : List Nat) (hC : isC.map (fun i => w[i]?) = wc.map some) (hRr : isR.map (fun i => w[i]?) = wr.map some) (hnC : va_nd isC = true) (hnd : va_nd isR = true) (hdis : ∀ i ∈ isR, i ∉ isC) (htt : ∀ s : State, va_K D vwCl tys s → va_K D vwCl tys2 s → va_K D vwCl tys3 s) {st : List Value} (hst : st = av.reverse ++ .ref b :: rest) (hdg : decode cc pc = .ok (.invokevirtual index, 3)) (kk : ∀ (r : Option Value) (u : va_W), Po r u → V k l D tys3 R cc nL own (wr ++ u) (cells + mc) (slots + ms) (pc + 3) lv (r.toList ++ rest)) : V k l D tys R cc nL own w cells slots (pc) lv (st) := by
  obtain ⟨⟨p, e, s, m, args⟩, ⟨below, meth, c⟩, ⟨A, H0⟩, Q⟩ := k
  intro C H locs ls hP hD hS hl
  obtain ⟨hx, hb, hml, hown, hts, hK, hA, hlk, hN, hfl⟩ := id C
  dsimp only at *
  subst hst
  have hrcv := va_recv hK hP (ci := ci) (q0 := q0) hcl he
  have hPc : va_P D vwCl wc H := by
    intro j q hq
    have h1 : (isC.map (fun i => w[i]?))[j]? = some (some q) := by rw [hC, List.getElem?_map, hq]; rfl
    rw [List.getElem?_map] at h1
    cases hi : isC[j]? with
    | none => rw [hi] at h1; cases h1
    | some i => rw [hi] at h1; exact hP i q (Option.some.inj h1)
  have hDc := hD.sub isC hnC hC
  have hFc := va_free (wc := wc) hD hS hA isC hC
  refine va_callO (va_runV (C := qc.1) (As := av) (rest := rest) ⟨hx, hb, hml, hown, hts⟩ (hM H.size) (cwV n hts (goodV h1 h2 h5 h3 h4) rfl hrm.1 hrm.2 hd hR) ⟨blindP, hrcv, fun U hU hW => ⟨rfl, by rw [hU], by rw [hU]; exact hPc, va_K.moved hW.alike hK, hDc.weaken (fun _ _ _ _ => trivial), va_Nw.warmM hW hN⟩⟩ rfl hlen hl.1 rfl (lv_room hW) hdg hc) hS (fun q _ h => hFc q h) hFc (fun r u t H1 locs1 ht hvm hpo hP1 hK1 hD1 hz1 hk1 hS1 => ?_)
  rw [ht] at hP1
  have hK1 := va_K.moved hvm.symm hK1
  obtain ⟨hP2, hD2⟩ := va_join (wr := wr) (w1 := u) hP hD isC isR hC hRr hnd hdis hk1 hFc hP1 hD1
  exact kk r u hpo ⟨hx, hb, hml, hown, hts, htt _ hK hK1, hA, hlk, hN, hfl⟩ H1 locs1 ls hP2 hD2 hS1 hl
theorem j_callI {y : MethodName} {cc2 : ByteArray} {n2 index n mc ms : Nat} {rm : Room} {tys2 : List (ClassId × FieldType)} {wc wr : va_W} {av : List Value} {Po : Option Value → va_W → Prop} {tys3 : List (ClassId × FieldType)} {b : Nat} (hM : Ct l y cc2 n2 none rm D tys tys2 wc (.ref b :: av) Po mc ms) (h1 : Cond.methodLink own index y ∈ aL) (h2 : Cond.instanceMethod y ∈ aL) (h3 : Cond.initialized y.cls ∈ aL) (h4 : Cond.code y cc2 n2 none ∈ aL) (hy1 : y.name = "<init>") (hd : y.cls ≠ "java/lang/invoke/MethodHandle" ∧ y.cls ≠ "java/lang/invoke/VarHandle" ∧ (parseMethodDescriptor y.desc).map (fun d => d.parameters.length) = some n) (hlen : av.length = n) (hrm : rm.cells = mc ∧ rm.slots = ms) (hR : rm.frames + 1 ≤ R.frames ∧ 8 + (n2 + 11) + rm.locals ≤ R.locals) (hc : cells + mc ≤ R.cells ∧ slots + ms ≤ R.slots) (hW : (rest.map fun v => v.category).sum ≤ 8) (isC isR : List Nat) (hC : isC.map (fun i => w[i]?) = wc.map some) (hRr : isR.map (fun i => w[i]?) = wr.map some) (hnC : va_nd isC = true) (hnd : va_nd isR = true) (hdis : ∀ i ∈ isR, i ∉ isC) (htt : ∀ s : State, va_K D vwCl tys s → va_K D vwCl tys2 s → va_K D vwCl tys3 s) {st : List Value} (hst : st = av.reverse ++ .ref b :: rest) (hdg : decode cc pc = .ok (.invokespecial index, 3)) (kk : ∀ (r : Option Value) (u : va_W), Po r u → V k l D tys3 R cc nL own (wr ++ u) (cells + mc) (slots + ms) (pc + 3) lv (r.toList ++ rest)) : V k l D tys R cc nL own w cells slots (pc) lv (st) := by
  obtain ⟨⟨p, e, s, m, args⟩, ⟨below, meth, c⟩, ⟨A, H0⟩, Q⟩ := k
  intro C H locs ls hP hD hS hl
  obtain ⟨hx, hb, hml, hown, hts, hK, hA, hlk, hN, hfl⟩ := id C
  dsimp only at *
  subst hst
  have hPc : va_P D vwCl wc H := by
    intro j q hq
    have h1 : (isC.map (fun i => w[i]?))[j]? = some (some q) := by rw [hC, List.getElem?_map, hq]; rfl
    rw [List.getElem?_map] at h1
    cases hi : isC[j]? with
    | none => rw [hi] at h1; cases h1
    | some i => rw [hi] at h1; exact hP i q (Option.some.inj h1)
  have hDc := hD.sub isC hnC hC
  have hFc := va_free (wc := wc) hD hS hA isC hC
  refine va_callO (va_runI (As := av) (rest := rest) ⟨hx, hb, hml, hown, hts⟩ (hM H.size) (cwI n hts (goodAll h4) rfl hrm.1 hrm.2 (hts _ h3) (hts _ h1) (hts _ h2) hy1 hd hR) ⟨blindP, fun U hU hW => ⟨rfl, by rw [hU], by rw [hU]; exact hPc, va_K.moved hW.alike hK, hDc.weaken (fun _ _ _ _ => trivial), va_Nw.warmM hW hN⟩⟩ rfl hlen hl.1 rfl (lv_room hW) hdg hc) hS (fun q _ h => hFc q h) hFc (fun r u t H1 locs1 ht hvm hpo hP1 hK1 hD1 hz1 hk1 hS1 => ?_)
  rw [ht] at hP1
  have hK1 := va_K.moved hvm.symm hK1
  obtain ⟨hP2, hD2⟩ := va_join (wr := wr) (w1 := u) hP hD isC isR hC hRr hnd hdis hk1 hFc hP1 hD1
  exact kk r u hpo ⟨hx, hb, hml, hown, hts, htt _ hK hK1, hA, hlk, hN, hfl⟩ H1 locs1 ls hP2 hD2 hS1 hl
theorem j_objInit {index : Nat} {b : Nat} (h1 : Cond.methodLink own index objectInit ∈ aL) (h2 : Cond.instanceMethod objectInit ∈ aL) (h3 : Cond.code objectInit ⟨#[0xb1]⟩ 1 none ∈ aL) (hdg : decode cc pc = .ok (.invokespecial index, 3)) (hf : 1 ≤ R.frames) (hlo : (rest.map fun v => v.category).sum + 12 ≤ R.locals) (kk : V k l D tys R cc nL own w cells slots (pc + 3) lv (rest)) : V k l D tys R cc nL own w cells slots (pc) lv (.ref b :: rest) := by
  obtain ⟨⟨p, e, s, m, args⟩, ⟨below, meth, c⟩, ⟨A, H0⟩, Q⟩ := k
  intro C H locs ls hP hD hS hl
  obtain ⟨hx, hb, hml, hown, hts, hK, hA, hlk, hN, hfl⟩ := id C
  dsimp only at *
  exact W.objInit hx hb hown (hts _ h1) (hts _ h2) (hts _ h3) rfl (by rw [hml]; exact hl.1) rfl hdg hf (by show 2 * 0 + _ + 12 ≤ _; omega) (kk C H locs ls hP hD hS hl)
theorem j_new {index N ci : Nat} {C0 : String} {T : u_T} (hin : ∀ w ∈ u_ws C0 T N, w ∈ aL) (ty : Nat → FieldType) (hty : ∀ k, k < N → parseFieldDescriptor (T k).2.2.1 = some (ty k)) (h1 : Cond.classLink own index C0 ∈ aL) (h2 : Cond.instantiable C0 N ∈ aL) (h3 : Cond.initialized C0 ∈ aL) (hc : vwCl[ci]? = some (C0, T, N)) {fs : List Value} (hfs : ∀ j, j < N → defaultValue (ty j) = vp_V fs j) (hcells : cells + 1 ≤ R.cells) (hslots : slots + N ≤ R.slots) (hdg : decode cc pc = .ok (.new index, 3)) (kk : ∀ q : Nat, V k l D tys R cc nL own (w ++ [(q, .inr (ci, fs))]) (cells + 1) (slots + N) (pc + 3) lv (.ref q :: rest)) : V k l D tys R cc nL own w cells slots (pc) lv (rest) := by
  obtain ⟨⟨p, e, s, m, args⟩, ⟨below, meth, c⟩, ⟨A, H0⟩, Q⟩ := k
  intro C H locs ls hP hD hS hl
  obtain ⟨hx, hb, hml, hown, hts, hK, hA, hlk, hN, hfl⟩ := id C
  dsimp only at *
  exact va_new (fs := fs) hx hb hts hin ty hty hown (hts _ h1) (hts _ h2) (hts _ h3) hK hP hD hS hA hc hfs hcells hslots hdg (fun q H1 hP1 hD1 hS1 => kk q C H1 locs ls hP1 hD1 hS1 hl)
theorem j_newa {atype : ArrayType} {ty : FieldType} (h1 : Cond.arrayClass (newarray.typeOf atype) ∈ aL) (hty : newarray.typeOf atype = ty) {n : Int32} {N : Nat} {a0 : vp_A} (ha : ∀ cA : ClassId, vp_cell cA a0 = arrV cA N (fun _ => defaultValue ty)) (hn : ¬ n < 0) (hN : n.toNatClampNeg = N) (hbytes : N * componentBytes ty ≤ 536870912) (hcells : cells + 1 ≤ R.cells) (hslots : slots + N ≤ R.slots) (hdg : decode cc pc = .ok (.newarray atype, 2)) (kk : ∀ (q : Nat) (cA : ClassId), V k l D (tys ++ [(cA, ty)]) R cc nL own (w ++ [(q, .inl (cA, a0))]) (cells + 1) (slots + N) (pc + 2) lv (.ref q :: rest)) : V k l D tys R cc nL own w cells slots (pc) lv (.int n :: rest) := by
  obtain ⟨⟨p, e, s, m, args⟩, ⟨below, meth, c⟩, ⟨A, H0⟩, Q⟩ := k
  intro C H locs ls hP hD hS hl
  obtain ⟨hx, hb, hml, hown, hts, hK, hA, hlk, hN0, hfl⟩ := id C
  dsimp only at *
  exact va_newa hx hb (hts _ h1) hty hK hP hD hS hA ha hn hN hbytes hcells hslots hdg (fun q cA H1 hK1 hP1 hD1 hS1 => kk q cA ⟨hx, hb, hml, hown, hts, hK1, hA, hlk, hN0, hfl⟩ H1 locs ls hP1 hD1 hS1 hl)
theorem j_newaP {atype : ArrayType} {ty : FieldType} {cA0 : ClassId} (t0 : Nat) (ht : tys[t0]? = some (cA0, ty)) (hpr : ∀ U cA, va_RA U cA ty → U.vm.findClass ("[" ++ ty.toString) = some cA) (h1 : Cond.arrayClass (newarray.typeOf atype) ∈ aL) (hty : newarray.typeOf atype = ty) {n : Int32} {N : Nat} {a0 : vp_A} (ha : ∀ cA : ClassId, vp_cell cA a0 = arrV cA N (fun _ => defaultValue ty)) (hn : ¬ n < 0) (hN : n.toNatClampNeg = N) (hbytes : N * componentBytes ty ≤ 536870912) (hcells : cells + 1 ≤ R.cells) (hslots : slots + N ≤ R.slots) (hdg : decode cc pc = .ok (.newarray atype, 2)) (kk : ∀ (q : Nat), V k l D tys R cc nL own (w ++ [(q, .inl (cA0, a0))]) (cells + 1) (slots + N) (pc + 2) lv (.ref q :: rest)) : V k l D tys R cc nL own w cells slots (pc) lv (.int n :: rest) := by
  obtain ⟨⟨p, e, s, m, args⟩, ⟨below, meth, c⟩, ⟨A, H0⟩, Q⟩ := k
  intro C H locs ls hP hD hS hl
  obtain ⟨hx, hb, hml, hown, hts, hK, hA, hlk, hN0, hfl⟩ := id C
  dsimp only at *
  exact va_newa hx hb (hts _ h1) hty hK hP hD hS hA ha hn hN hbytes hcells hslots hdg (fun q cA H1 hK1 hP1 hD1 hS1 => by
    have e1 := hpr _ _ (hK1.2 tys.length (cA, ty) (by rw [List.getElem?_append_right (Nat.le_refl _), Nat.sub_self]; rfl)).2
    have e2 := hpr _ _ (hK.2 t0 _ ht).2
    have e3 : cA = cA0 := Option.some.inj (e1.symm.trans e2)
    subst e3
    exact kk q C H1 locs ls hP1 hD1 hS1 hl)
theorem j_widen {k2 n2 : Nat} (h1 : cells ≤ k2) (h2 : slots ≤ n2) (kk : V k l D tys R cc nL own w k2 n2 (pc) lv (rest)) : V k l D tys R cc nL own w cells slots (pc) lv (rest) := by
  obtain ⟨⟨p, e, s, m, args⟩, ⟨below, meth, c⟩, ⟨A, H0⟩, Q⟩ := k
  intro C H locs ls hP hD hS hl
  obtain ⟨hx, hb, hml, hown, hts, hK, hA, hlk, hN, hfl⟩ := id C
  dsimp only at *
  exact W.widen h1 h2 (kk C H locs ls hP hD hS hl)
theorem j_aret {a : Nat} {rt : FieldType} {ret : Option FieldType} {Po : Option Value → va_W → Prop} (hret : ret = some rt) (hrt : (∃ n, rt = .object n) ∨ ∃ t, rt = .array t) (hR : VRet k D tys ret Po cells slots) (hdg : decode cc pc = .ok (.areturn, 1)) (hpo : Po (some (.ref a)) w) : V k l D tys R cc nL own w cells slots (pc) lv ([.ref a]) := by
  obtain ⟨⟨p, e, s, m, args⟩, ⟨below, meth, c⟩, ⟨A, H0⟩, Q⟩ := k
  intro C H locs ls hP hD hS hl
  obtain ⟨hx, hb, hml, hown, hts, hK, hA, hlk, hN, hfl⟩ := id C
  dsimp only at *
  obtain ⟨h1, h2, h3⟩ := hR
  dsimp only at h1 h2 h3
  subst h2 h3
  subst hret
  exact W.aret hx hb h1 hrt (Or.inr ⟨a, rfl⟩) (fun t ht hW => ⟨⟨_, w, rfl, hpo, by rw [ht]; exact hP, va_K.moved hW.alike hK, hD⟩, hS.F ht⟩) hS.2.2 hdg
end JC
section JP
variable {k : VK} {l : Launch} {D : va_G} {tys : List (ClassId × FieldType)} {R : Room} {cc : ByteArray} {nL : Nat} {own : String} {w : va_W} {cells slots pc : Nat} {lv : List (Nat × Value)} {rest : List Value}
/-- a static method of numbers alone: the world stays -/
theorem j_callS0 {y : MethodName} {cc2 : ByteArray} {n2 index n : Nat} {ret2 : Option FieldType} {rm : Room} {av : List Value} {r0 : Value} (hM : Ct l y cc2 n2 ret2 rm D tys tys [] av (fun r u => r = some r0 ∧ u = []) 0 0) (h1 : Cond.methodLink own index y ∈ aL) (h2 : Cond.static y ∈ aL) (h3 : Cond.initialized y.cls ∈ aL) (h4 : Cond.code y cc2 n2 ret2 ∈ aL) (hd : y.cls ≠ "java/lang/invoke/MethodHandle" ∧ y.cls ≠ "java/lang/invoke/VarHandle" ∧ (parseMethodDescriptor y.desc).map (fun d => d.parameters.length) = some n) (hlen : av.length = n) (hrm : rm.cells = 0 ∧ rm.slots = 0) (hR : rm.frames + 1 ≤ R.frames ∧ 8 + (n2 + 11) + rm.locals ≤ R.locals) (hc : cells ≤ R.cells ∧ slots ≤ R.slots) (hW : (rest.map fun v => v.category).sum ≤ 8) (hnw : ∀ i ∈ List.range w.length, i ∉ ([] : List Nat)) (hnd : va_nd (List.range w.length) = true) {st : List Value} (hst : st = av.reverse ++ rest) (hdg : decode cc pc = .ok (.invokestatic index, 3)) (kk : V k l D tys R cc nL own w cells slots (pc + 3) lv (r0 :: rest)) : V k l D tys R cc nL own w cells slots (pc) lv (st) :=
  j_callS (mc := 0) (ms := 0) (wr := w) (tys3 := tys) hM h1 h2 h3 h4 hd hlen hrm hR hc hW [] (List.range w.length) rfl (by
    apply List.ext_getElem?
    intro i
    simp only [List.getElem?_map]
    by_cases hi : i < w.length
    · rw [List.getElem?_range hi, List.getElem?_eq_getElem hi]
      simp only [Option.map_some, List.getElem?_eq_getElem hi]
    · rw [List.getElem?_eq_none (by simpa using hi), List.getElem?_eq_none (by omega)]
      rfl) rfl hnd hnw (fun _ h _ => h) hst hdg (fun r u hpo => by
    obtain ⟨rfl, rfl⟩ := hpo
    rw [List.append_nil]
    exact kk)
theorem j_callSN0 {y : MethodName} {cc2 : ByteArray} {n2 index n : Nat} {ret2 : Option FieldType} {rm : Room} {av : List Value} {r0 : Value} (hM : Ct l y cc2 n2 ret2 rm D tys tys [] av (fun r u => r = some r0 ∧ u = []) 0 0) (h1 : nestW = Cond.methodLinkNest own index y RX2) (h2 : Cond.static y ∈ aL) (h3 : Cond.initialized y.cls ∈ aL) (h4 : Cond.code y cc2 n2 ret2 ∈ aL) (hd : y.cls ≠ "java/lang/invoke/MethodHandle" ∧ y.cls ≠ "java/lang/invoke/VarHandle" ∧ (parseMethodDescriptor y.desc).map (fun d => d.parameters.length) = some n) (hlen : av.length = n) (hrm : rm.cells = 0 ∧ rm.slots = 0) (hR : rm.frames + 1 ≤ R.frames ∧ 8 + (n2 + 11) + rm.locals ≤ R.locals) (hc : cells ≤ R.cells ∧ slots ≤ R.slots) (hW : (rest.map fun v => v.category).sum ≤ 8) (hnw : ∀ i ∈ List.range w.length, i ∉ ([] : List Nat)) (hnd : va_nd (List.range w.length) = true) {st : List Value} (hst : st = av.reverse ++ rest) (hdg : decode cc pc = .ok (.invokestatic index, 3)) (kk : V k l D tys R cc nL own w cells slots (pc + 3) lv (r0 :: rest)) : V k l D tys R cc nL own w cells slots (pc) lv (st) :=
  j_callSN (mc := 0) (ms := 0) (wr := w) (tys3 := tys) hM h1 h2 h3 h4 hd hlen hrm hR hc hW [] (List.range w.length) rfl (by
    apply List.ext_getElem?
    intro i
    simp only [List.getElem?_map]
    by_cases hi : i < w.length
    · rw [List.getElem?_range hi, List.getElem?_eq_getElem hi]
      simp only [Option.map_some, List.getElem?_eq_getElem hi]
    · rw [List.getElem?_eq_none (by simpa using hi), List.getElem?_eq_none (by omega)]
      rfl) rfl hnd hnw (fun _ h _ => h) hst hdg (fun r u hpo => by
    obtain ⟨rfl, rfl⟩ := hpo
    rw [List.append_nil]
    exact kk)
end JP
end
