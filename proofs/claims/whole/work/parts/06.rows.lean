theorem nI_sub {a b : Nat} (h : b ≤ a) : nI a - nI b = nI (a - b) := pk_sub h
theorem bI_0 {b : Bool} (h : bI b = 0) : b = false := by cases b <;> first | rfl | (exact absurd h (by decide))
theorem bI_1 {b : Bool} (h : ¬ bI b = 0) : b = true := by cases b <;> first | rfl | (exact absurd rfl h)
theorem nI_eq0 {n : Nat} (hn : n < 2 ^ 31) (h : nI n = 0) : n = 0 := (nI_eq hn (by decide)).mp (by rw [nI_0]; exact h)
theorem inA0 : ∀ w ∈ wsX00, w ∈ aL := by
  show ∀ w ∈ ([Cond.laysFinal RX0 RX0 "grid" "LLoopDiagram$Grid;", Cond.laysFinal RX0 RX0 "first" "[I", Cond.lays RX0 RX0 "size" "I", Cond.laysFinal RX0 RX0 "states" "[I", Cond.laysFinal RX0 RX0 "low" "[I", Cond.laysFinal RX0 RX0 "high" "[I", Cond.laysFinal RX0 RX0 "ways" "[I", Cond.laysFinal RX0 RX0 "someWays" "[I"] : List Cond), w ∈ aL
  exact List.forall_mem_cons.mpr ⟨mw1_76, List.forall_mem_cons.mpr ⟨mw1_78, List.forall_mem_cons.mpr ⟨mw1_80, List.forall_mem_cons.mpr ⟨mw1_82, List.forall_mem_cons.mpr ⟨mw1_84, List.forall_mem_cons.mpr ⟨mw1_86, List.forall_mem_cons.mpr ⟨mw1_88, List.forall_mem_cons.mpr ⟨mw1_90, fun _ h => absurd h List.not_mem_nil⟩⟩⟩⟩⟩⟩⟩⟩
theorem inA1 : ∀ w ∈ wsX10, w ∈ aL := by
  show ∀ w ∈ ([Cond.laysFinal RX1 RX1 "rows" "I", Cond.laysFinal RX1 RX1 "columns" "I", Cond.laysFinal RX1 RX1 "edges" "I", Cond.laysFinal RX1 RX1 "row" "[I", Cond.laysFinal RX1 RX1 "column" "[I", Cond.laysFinal RX1 RX1 "goesDown" "[Z", Cond.laysFinal RX1 RX1 "clues" "[I"] : List Cond), w ∈ aL
  exact List.forall_mem_cons.mpr ⟨mw1_42, List.forall_mem_cons.mpr ⟨mw1_44, List.forall_mem_cons.mpr ⟨mw1_46, List.forall_mem_cons.mpr ⟨mw1_48, List.forall_mem_cons.mpr ⟨mw1_50, List.forall_mem_cons.mpr ⟨mw1_52, List.forall_mem_cons.mpr ⟨mw1_54, fun _ h => absurd h List.not_mem_nil⟩⟩⟩⟩⟩⟩⟩
theorem inA2 : ∀ w ∈ wsX20, w ∈ aL := by
  show ∀ w ∈ ([Cond.laysFinal RX2 RX2 "grid" "LLoopDiagram$Grid;", Cond.laysFinal RX2 RX2 "diagram" "LLoopDiagram$Diagram;", Cond.lays RX2 RX2 "drawing" "I", Cond.lays RX2 RX2 "stale" "Z"] : List Cond), w ∈ aL
  exact List.forall_mem_cons.mpr ⟨mw1_97, List.forall_mem_cons.mpr ⟨mw1_99, List.forall_mem_cons.mpr ⟨mw1_101, List.forall_mem_cons.mpr ⟨mw1_103, fun _ h => absurd h List.not_mem_nil⟩⟩⟩⟩
theorem inA3 : ∀ w ∈ wsX30, w ∈ aL := by
  show ∀ w ∈ ([Cond.lays RX3 RX3 "thrown" "I", Cond.lays RX3 RX3 "rows" "I", Cond.lays RX3 RX3 "columns" "I", Cond.lays RX3 RX3 "points" "I", Cond.lays RX3 RX3 "count" "I", Cond.laysFinal RX3 RX3 "low" "[I", Cond.laysFinal RX3 RX3 "high" "[I", Cond.laysFinal RX3 RX3 "one" "[I", Cond.laysFinal RX3 RX3 "other" "[I", Cond.laysFinal RX3 RX3 "ends" "[I", Cond.laysFinal RX3 RX3 "first" "[I", Cond.laysFinal RX3 RX3 "last" "[I", Cond.laysFinal RX3 RX3 "cellFirst" "[I", Cond.laysFinal RX3 RX3 "cellLast" "[I", Cond.lays RX3 RX3 "loops" "I", Cond.laysFinal RX3 RX3 "loop" "[I", Cond.laysFinal RX3 RX3 "clues" "[I", Cond.lays RX3 RX3 "known" "Z", Cond.lays RX3 RX3 "solutions" "I", Cond.laysFinal RX3 RX3 "solution" "[I", Cond.lays RX3 RX3 "measured" "Z", Cond.laysFinal RX3 RX3 "wide" "[I", Cond.laysFinal RX3 RX3 "useful" "[I", Cond.lays RX3 RX3 "held" "I", Cond.laysFinal RX3 RX3 "hold" "[I", Cond.lays RX3 RX3 "next" "I", Cond.laysFinal RX3 RX3 "nextHold" "[I", Cond.laysFinal RX3 RX3 "keys" "[J", Cond.laysFinal RX3 RX3 "table" "[I", Cond.lays RX3 RX3 "drawing" "I", Cond.laysFinal RX3 RX3 "degree" "[I", Cond.laysFinal RX3 RX3 "seen" "[Z"] : List Cond), w ∈ aL
  exact List.forall_mem_cons.mpr ⟨mw3_39, List.forall_mem_cons.mpr ⟨mw3_41, List.forall_mem_cons.mpr ⟨mw3_43, List.forall_mem_cons.mpr ⟨mw3_45, List.forall_mem_cons.mpr ⟨mw3_47, List.forall_mem_cons.mpr ⟨mw3_49, List.forall_mem_cons.mpr ⟨mw3_51, List.forall_mem_cons.mpr ⟨mw3_53, List.forall_mem_cons.mpr ⟨mw3_55, List.forall_mem_cons.mpr ⟨mw3_57, List.forall_mem_cons.mpr ⟨mw3_59, List.forall_mem_cons.mpr ⟨mw3_61, List.forall_mem_cons.mpr ⟨mw3_63, List.forall_mem_cons.mpr ⟨mw3_65, List.forall_mem_cons.mpr ⟨mw3_67, List.forall_mem_cons.mpr ⟨mw3_69, List.forall_mem_cons.mpr ⟨mw3_71, List.forall_mem_cons.mpr ⟨mw3_73, List.forall_mem_cons.mpr ⟨mw3_75, List.forall_mem_cons.mpr ⟨mw3_77, List.forall_mem_cons.mpr ⟨mw3_79, List.forall_mem_cons.mpr ⟨mw3_81, List.forall_mem_cons.mpr ⟨mw3_83, List.forall_mem_cons.mpr ⟨mw3_85, List.forall_mem_cons.mpr ⟨mw3_87, List.forall_mem_cons.mpr ⟨mw3_89, List.forall_mem_cons.mpr ⟨mw3_91, List.forall_mem_cons.mpr ⟨mw3_93, List.forall_mem_cons.mpr ⟨mw3_95, List.forall_mem_cons.mpr ⟨mw3_97, List.forall_mem_cons.mpr ⟨mw3_99, List.forall_mem_cons.mpr ⟨mw3_101, fun _ h => absurd h List.not_mem_nil⟩⟩⟩⟩⟩⟩⟩⟩⟩⟩⟩⟩⟩⟩⟩⟩⟩⟩⟩⟩⟩⟩⟩⟩⟩⟩⟩⟩⟩⟩⟩⟩
section JR
variable {k : VK} {l : Launch} {D : va_G} {tys : List (ClassId × FieldType)} {R : Room} {cc : ByteArray} {nL : Nat} {own : String} {w : va_W} {cells slots pc : Nat} {lv : List (Nat × Value)} {rest : List Value}
theorem j_icmp_eq {x y : Int32} {off : Int} {tgt : Nat} (hdg : decode cc pc = .ok (.if_icmp .eq off, 3)) (ht : (pc : Int) + off = (tgt : Int)) (kt : (x = y) → V k l D tys R cc nL own w cells slots (tgt) lv (rest)) (kf : (¬ x = y) → V k l D tys R cc nL own w cells slots (pc + 3) lv (rest)) : V k l D tys R cc nL own w cells slots (pc) lv (.int y :: .int x :: rest) := by
  obtain ⟨⟨p, e, s, m, args⟩, ⟨below, meth, c⟩, ⟨A, H0⟩, Q⟩ := k
  intro C H locs ls hP hD hS hl
  obtain ⟨hx, hb, hml, hown, hts, hK, hA, hlk, hN, hfl⟩ := id C
  dsimp only at *
  exact lv_icmp_eq hx hb hdg ht (fun h => kt h C H locs ls hP hD hS hl) (fun h => kf h C H locs ls hP hD hS hl)

theorem jn_icmp_eq {a b : Nat} {off : Int} {tgt : Nat} (ha : a < 2 ^ 31) (hb : b < 2 ^ 31) (hdg : decode cc pc = .ok (.if_icmp .eq off, 3)) (ht : (pc : Int) + off = (tgt : Int)) (kt : (a = b) → V k l D tys R cc nL own w cells slots (tgt) lv (rest)) (kf : (a ≠ b) → V k l D tys R cc nL own w cells slots (pc + 3) lv (rest)) : V k l D tys R cc nL own w cells slots (pc) lv (.int (nI b) :: .int (nI a) :: rest) :=
  j_icmp_eq hdg ht (fun h => kt ((nI_eq ha hb).mp h)) (fun h => kf (fun e => h ((nI_eq ha hb).mpr e)))
theorem j_icmp_ne {x y : Int32} {off : Int} {tgt : Nat} (hdg : decode cc pc = .ok (.if_icmp .ne off, 3)) (ht : (pc : Int) + off = (tgt : Int)) (kt : (¬ x = y) → V k l D tys R cc nL own w cells slots (tgt) lv (rest)) (kf : (x = y) → V k l D tys R cc nL own w cells slots (pc + 3) lv (rest)) : V k l D tys R cc nL own w cells slots (pc) lv (.int y :: .int x :: rest) := by
  obtain ⟨⟨p, e, s, m, args⟩, ⟨below, meth, c⟩, ⟨A, H0⟩, Q⟩ := k
  intro C H locs ls hP hD hS hl
  obtain ⟨hx, hb, hml, hown, hts, hK, hA, hlk, hN, hfl⟩ := id C
  dsimp only at *
  exact lv_icmp_ne hx hb hdg ht (fun h => kt h C H locs ls hP hD hS hl) (fun h => kf h C H locs ls hP hD hS hl)

theorem jn_icmp_ne {a b : Nat} {off : Int} {tgt : Nat} (ha : a < 2 ^ 31) (hb : b < 2 ^ 31) (hdg : decode cc pc = .ok (.if_icmp .ne off, 3)) (ht : (pc : Int) + off = (tgt : Int)) (kt : (a ≠ b) → V k l D tys R cc nL own w cells slots (tgt) lv (rest)) (kf : (a = b) → V k l D tys R cc nL own w cells slots (pc + 3) lv (rest)) : V k l D tys R cc nL own w cells slots (pc) lv (.int (nI b) :: .int (nI a) :: rest) :=
  j_icmp_ne hdg ht (fun h => kt (fun e => h ((nI_eq ha hb).mpr e))) (fun h => kf ((nI_eq ha hb).mp h))
theorem j_icmp_lt {x y : Int32} {off : Int} {tgt : Nat} (hdg : decode cc pc = .ok (.if_icmp .lt off, 3)) (ht : (pc : Int) + off = (tgt : Int)) (kt : (x < y) → V k l D tys R cc nL own w cells slots (tgt) lv (rest)) (kf : (¬ x < y) → V k l D tys R cc nL own w cells slots (pc + 3) lv (rest)) : V k l D tys R cc nL own w cells slots (pc) lv (.int y :: .int x :: rest) := by
  obtain ⟨⟨p, e, s, m, args⟩, ⟨below, meth, c⟩, ⟨A, H0⟩, Q⟩ := k
  intro C H locs ls hP hD hS hl
  obtain ⟨hx, hb, hml, hown, hts, hK, hA, hlk, hN, hfl⟩ := id C
  dsimp only at *
  exact lv_icmp_lt hx hb hdg ht (fun h => kt h C H locs ls hP hD hS hl) (fun h => kf h C H locs ls hP hD hS hl)

theorem jn_icmp_lt {a b : Nat} {off : Int} {tgt : Nat} (ha : a < 2 ^ 31) (hb : b < 2 ^ 31) (hdg : decode cc pc = .ok (.if_icmp .lt off, 3)) (ht : (pc : Int) + off = (tgt : Int)) (kt : (a < b) → V k l D tys R cc nL own w cells slots (tgt) lv (rest)) (kf : (b ≤ a) → V k l D tys R cc nL own w cells slots (pc + 3) lv (rest)) : V k l D tys R cc nL own w cells slots (pc) lv (.int (nI b) :: .int (nI a) :: rest) :=
  j_icmp_lt hdg ht (fun h => kt ((nI_ltI ha hb).mp h)) (fun h => kf (Nat.not_lt.mp (fun e => h ((nI_ltI ha hb).mpr e))))
theorem j_icmp_ge {x y : Int32} {off : Int} {tgt : Nat} (hdg : decode cc pc = .ok (.if_icmp .ge off, 3)) (ht : (pc : Int) + off = (tgt : Int)) (kt : (y ≤ x) → V k l D tys R cc nL own w cells slots (tgt) lv (rest)) (kf : (¬ y ≤ x) → V k l D tys R cc nL own w cells slots (pc + 3) lv (rest)) : V k l D tys R cc nL own w cells slots (pc) lv (.int y :: .int x :: rest) := by
  obtain ⟨⟨p, e, s, m, args⟩, ⟨below, meth, c⟩, ⟨A, H0⟩, Q⟩ := k
  intro C H locs ls hP hD hS hl
  obtain ⟨hx, hb, hml, hown, hts, hK, hA, hlk, hN, hfl⟩ := id C
  dsimp only at *
  exact lv_icmp_ge hx hb hdg ht (fun h => kt h C H locs ls hP hD hS hl) (fun h => kf h C H locs ls hP hD hS hl)

theorem jn_icmp_ge {a b : Nat} {off : Int} {tgt : Nat} (ha : a < 2 ^ 31) (hb : b < 2 ^ 31) (hdg : decode cc pc = .ok (.if_icmp .ge off, 3)) (ht : (pc : Int) + off = (tgt : Int)) (kt : (b ≤ a) → V k l D tys R cc nL own w cells slots (tgt) lv (rest)) (kf : (a < b) → V k l D tys R cc nL own w cells slots (pc + 3) lv (rest)) : V k l D tys R cc nL own w cells slots (pc) lv (.int (nI b) :: .int (nI a) :: rest) :=
  j_icmp_ge hdg ht (fun h => kt ((nI_leI hb ha).mp h)) (fun h => kf (Nat.not_le.mp (fun e => h ((nI_leI hb ha).mpr e))))
theorem j_icmp_gt {x y : Int32} {off : Int} {tgt : Nat} (hdg : decode cc pc = .ok (.if_icmp .gt off, 3)) (ht : (pc : Int) + off = (tgt : Int)) (kt : (y < x) → V k l D tys R cc nL own w cells slots (tgt) lv (rest)) (kf : (¬ y < x) → V k l D tys R cc nL own w cells slots (pc + 3) lv (rest)) : V k l D tys R cc nL own w cells slots (pc) lv (.int y :: .int x :: rest) := by
  obtain ⟨⟨p, e, s, m, args⟩, ⟨below, meth, c⟩, ⟨A, H0⟩, Q⟩ := k
  intro C H locs ls hP hD hS hl
  obtain ⟨hx, hb, hml, hown, hts, hK, hA, hlk, hN, hfl⟩ := id C
  dsimp only at *
  exact lv_icmp_gt hx hb hdg ht (fun h => kt h C H locs ls hP hD hS hl) (fun h => kf h C H locs ls hP hD hS hl)

theorem jn_icmp_gt {a b : Nat} {off : Int} {tgt : Nat} (ha : a < 2 ^ 31) (hb : b < 2 ^ 31) (hdg : decode cc pc = .ok (.if_icmp .gt off, 3)) (ht : (pc : Int) + off = (tgt : Int)) (kt : (b < a) → V k l D tys R cc nL own w cells slots (tgt) lv (rest)) (kf : (a ≤ b) → V k l D tys R cc nL own w cells slots (pc + 3) lv (rest)) : V k l D tys R cc nL own w cells slots (pc) lv (.int (nI b) :: .int (nI a) :: rest) :=
  j_icmp_gt hdg ht (fun h => kt ((nI_ltI hb ha).mp h)) (fun h => kf (Nat.not_lt.mp (fun e => h ((nI_ltI hb ha).mpr e))))
theorem j_icmp_le {x y : Int32} {off : Int} {tgt : Nat} (hdg : decode cc pc = .ok (.if_icmp .le off, 3)) (ht : (pc : Int) + off = (tgt : Int)) (kt : (x ≤ y) → V k l D tys R cc nL own w cells slots (tgt) lv (rest)) (kf : (¬ x ≤ y) → V k l D tys R cc nL own w cells slots (pc + 3) lv (rest)) : V k l D tys R cc nL own w cells slots (pc) lv (.int y :: .int x :: rest) := by
  obtain ⟨⟨p, e, s, m, args⟩, ⟨below, meth, c⟩, ⟨A, H0⟩, Q⟩ := k
  intro C H locs ls hP hD hS hl
  obtain ⟨hx, hb, hml, hown, hts, hK, hA, hlk, hN, hfl⟩ := id C
  dsimp only at *
  exact lv_icmp_le hx hb hdg ht (fun h => kt h C H locs ls hP hD hS hl) (fun h => kf h C H locs ls hP hD hS hl)

theorem jn_icmp_le {a b : Nat} {off : Int} {tgt : Nat} (ha : a < 2 ^ 31) (hb : b < 2 ^ 31) (hdg : decode cc pc = .ok (.if_icmp .le off, 3)) (ht : (pc : Int) + off = (tgt : Int)) (kt : (a ≤ b) → V k l D tys R cc nL own w cells slots (tgt) lv (rest)) (kf : (b < a) → V k l D tys R cc nL own w cells slots (pc + 3) lv (rest)) : V k l D tys R cc nL own w cells slots (pc) lv (.int (nI b) :: .int (nI a) :: rest) :=
  j_icmp_le hdg ht (fun h => kt ((nI_leI ha hb).mp h)) (fun h => kf (Nat.not_le.mp (fun e => h ((nI_leI ha hb).mpr e))))
theorem j_if_eq {x : Int32} {off : Int} {tgt : Nat} (hdg : decode cc pc = .ok (.ifCond .eq off, 3)) (ht : (pc : Int) + off = (tgt : Int)) (kt : (x = 0) → V k l D tys R cc nL own w cells slots (tgt) lv (rest)) (kf : (¬ x = 0) → V k l D tys R cc nL own w cells slots (pc + 3) lv (rest)) : V k l D tys R cc nL own w cells slots (pc) lv (.int x :: rest) := by
  obtain ⟨⟨p, e, s, m, args⟩, ⟨below, meth, c⟩, ⟨A, H0⟩, Q⟩ := k
  intro C H locs ls hP hD hS hl
  obtain ⟨hx, hb, hml, hown, hts, hK, hA, hlk, hN, hfl⟩ := id C
  dsimp only at *
  exact lv_if_eq hx hb hdg ht (fun h => kt h C H locs ls hP hD hS hl) (fun h => kf h C H locs ls hP hD hS hl)

theorem jn_if_eq {a : Nat} {off : Int} {tgt : Nat} (ha : a < 2 ^ 31) (hdg : decode cc pc = .ok (.ifCond .eq off, 3)) (ht : (pc : Int) + off = (tgt : Int)) (kt : (a = 0) → V k l D tys R cc nL own w cells slots (tgt) lv (rest)) (kf : (a ≠ 0) → V k l D tys R cc nL own w cells slots (pc + 3) lv (rest)) : V k l D tys R cc nL own w cells slots (pc) lv (.int (nI a) :: rest) :=
  j_if_eq hdg ht (fun h => kt (nI_eq0 ha h)) (fun h => kf (fun e => h (by rw [e]; exact nI_0)))
theorem j_if_ne {x : Int32} {off : Int} {tgt : Nat} (hdg : decode cc pc = .ok (.ifCond .ne off, 3)) (ht : (pc : Int) + off = (tgt : Int)) (kt : (¬ x = 0) → V k l D tys R cc nL own w cells slots (tgt) lv (rest)) (kf : (x = 0) → V k l D tys R cc nL own w cells slots (pc + 3) lv (rest)) : V k l D tys R cc nL own w cells slots (pc) lv (.int x :: rest) := by
  obtain ⟨⟨p, e, s, m, args⟩, ⟨below, meth, c⟩, ⟨A, H0⟩, Q⟩ := k
  intro C H locs ls hP hD hS hl
  obtain ⟨hx, hb, hml, hown, hts, hK, hA, hlk, hN, hfl⟩ := id C
  dsimp only at *
  exact lv_if_ne hx hb hdg ht (fun h => kt h C H locs ls hP hD hS hl) (fun h => kf h C H locs ls hP hD hS hl)

theorem jn_if_ne {a : Nat} {off : Int} {tgt : Nat} (ha : a < 2 ^ 31) (hdg : decode cc pc = .ok (.ifCond .ne off, 3)) (ht : (pc : Int) + off = (tgt : Int)) (kt : (a ≠ 0) → V k l D tys R cc nL own w cells slots (tgt) lv (rest)) (kf : (a = 0) → V k l D tys R cc nL own w cells slots (pc + 3) lv (rest)) : V k l D tys R cc nL own w cells slots (pc) lv (.int (nI a) :: rest) :=
  j_if_ne hdg ht (fun h => kt (fun e => h (by rw [e]; exact nI_0))) (fun h => kf (nI_eq0 ha h))
theorem j_if_lt {x : Int32} {off : Int} {tgt : Nat} (hdg : decode cc pc = .ok (.ifCond .lt off, 3)) (ht : (pc : Int) + off = (tgt : Int)) (kt : (x < 0) → V k l D tys R cc nL own w cells slots (tgt) lv (rest)) (kf : (¬ x < 0) → V k l D tys R cc nL own w cells slots (pc + 3) lv (rest)) : V k l D tys R cc nL own w cells slots (pc) lv (.int x :: rest) := by
  obtain ⟨⟨p, e, s, m, args⟩, ⟨below, meth, c⟩, ⟨A, H0⟩, Q⟩ := k
  intro C H locs ls hP hD hS hl
  obtain ⟨hx, hb, hml, hown, hts, hK, hA, hlk, hN, hfl⟩ := id C
  dsimp only at *
  exact lv_if_lt hx hb hdg ht (fun h => kt h C H locs ls hP hD hS hl) (fun h => kf h C H locs ls hP hD hS hl)

theorem jn_if_lt {a : Nat} {off : Int} {tgt : Nat} (ha : a < 2 ^ 31) (hdg : decode cc pc = .ok (.ifCond .lt off, 3)) (ht : (pc : Int) + off = (tgt : Int)) (kt : (False) → V k l D tys R cc nL own w cells slots (tgt) lv (rest)) (kf : (True) → V k l D tys R cc nL own w cells slots (pc + 3) lv (rest)) : V k l D tys R cc nL own w cells slots (pc) lv (.int (nI a) :: rest) :=
  j_if_lt hdg ht (fun h => kt (nI_pos ha h)) (fun h => kf trivial)
theorem j_if_ge {x : Int32} {off : Int} {tgt : Nat} (hdg : decode cc pc = .ok (.ifCond .ge off, 3)) (ht : (pc : Int) + off = (tgt : Int)) (kt : (0 ≤ x) → V k l D tys R cc nL own w cells slots (tgt) lv (rest)) (kf : (¬ 0 ≤ x) → V k l D tys R cc nL own w cells slots (pc + 3) lv (rest)) : V k l D tys R cc nL own w cells slots (pc) lv (.int x :: rest) := by
  obtain ⟨⟨p, e, s, m, args⟩, ⟨below, meth, c⟩, ⟨A, H0⟩, Q⟩ := k
  intro C H locs ls hP hD hS hl
  obtain ⟨hx, hb, hml, hown, hts, hK, hA, hlk, hN, hfl⟩ := id C
  dsimp only at *
  exact lv_if_ge hx hb hdg ht (fun h => kt h C H locs ls hP hD hS hl) (fun h => kf h C H locs ls hP hD hS hl)

theorem jn_if_ge {a : Nat} {off : Int} {tgt : Nat} (ha : a < 2 ^ 31) (hdg : decode cc pc = .ok (.ifCond .ge off, 3)) (ht : (pc : Int) + off = (tgt : Int)) (kt : (True) → V k l D tys R cc nL own w cells slots (tgt) lv (rest)) (kf : (False) → V k l D tys R cc nL own w cells slots (pc + 3) lv (rest)) : V k l D tys R cc nL own w cells slots (pc) lv (.int (nI a) :: rest) :=
  j_if_ge hdg ht (fun h => kt trivial) (fun h => kf (h (nI_pos' ha)))
theorem j_if_gt {x : Int32} {off : Int} {tgt : Nat} (hdg : decode cc pc = .ok (.ifCond .gt off, 3)) (ht : (pc : Int) + off = (tgt : Int)) (kt : (0 < x) → V k l D tys R cc nL own w cells slots (tgt) lv (rest)) (kf : (¬ 0 < x) → V k l D tys R cc nL own w cells slots (pc + 3) lv (rest)) : V k l D tys R cc nL own w cells slots (pc) lv (.int x :: rest) := by
  obtain ⟨⟨p, e, s, m, args⟩, ⟨below, meth, c⟩, ⟨A, H0⟩, Q⟩ := k
  intro C H locs ls hP hD hS hl
  obtain ⟨hx, hb, hml, hown, hts, hK, hA, hlk, hN, hfl⟩ := id C
  dsimp only at *
  exact lv_if_gt hx hb hdg ht (fun h => kt h C H locs ls hP hD hS hl) (fun h => kf h C H locs ls hP hD hS hl)

theorem jn_if_gt {a : Nat} {off : Int} {tgt : Nat} (ha : a < 2 ^ 31) (hdg : decode cc pc = .ok (.ifCond .gt off, 3)) (ht : (pc : Int) + off = (tgt : Int)) (kt : (0 < a) → V k l D tys R cc nL own w cells slots (tgt) lv (rest)) (kf : (a = 0) → V k l D tys R cc nL own w cells slots (pc + 3) lv (rest)) : V k l D tys R cc nL own w cells slots (pc) lv (.int (nI a) :: rest) :=
  j_if_gt hdg ht (fun h => kt (Nat.pos_of_ne_zero (fun e => by subst e; exact absurd h (by decide)))) (fun h => kf (Nat.eq_zero_of_not_pos (fun e => h (by have := nI_lt e ha; rw [nI_0] at this; exact this))))
theorem j_if_le {x : Int32} {off : Int} {tgt : Nat} (hdg : decode cc pc = .ok (.ifCond .le off, 3)) (ht : (pc : Int) + off = (tgt : Int)) (kt : (x ≤ 0) → V k l D tys R cc nL own w cells slots (tgt) lv (rest)) (kf : (¬ x ≤ 0) → V k l D tys R cc nL own w cells slots (pc + 3) lv (rest)) : V k l D tys R cc nL own w cells slots (pc) lv (.int x :: rest) := by
  obtain ⟨⟨p, e, s, m, args⟩, ⟨below, meth, c⟩, ⟨A, H0⟩, Q⟩ := k
  intro C H locs ls hP hD hS hl
  obtain ⟨hx, hb, hml, hown, hts, hK, hA, hlk, hN, hfl⟩ := id C
  dsimp only at *
  exact lv_if_le hx hb hdg ht (fun h => kt h C H locs ls hP hD hS hl) (fun h => kf h C H locs ls hP hD hS hl)

theorem jn_if_le {a : Nat} {off : Int} {tgt : Nat} (ha : a < 2 ^ 31) (hdg : decode cc pc = .ok (.ifCond .le off, 3)) (ht : (pc : Int) + off = (tgt : Int)) (kt : (a = 0) → V k l D tys R cc nL own w cells slots (tgt) lv (rest)) (kf : (0 < a) → V k l D tys R cc nL own w cells slots (pc + 3) lv (rest)) : V k l D tys R cc nL own w cells slots (pc) lv (.int (nI a) :: rest) :=
  j_if_le hdg ht (fun h => kt (Nat.eq_zero_of_not_pos (fun e => nI_nle e ha h))) (fun h => kf (Nat.pos_of_ne_zero (fun e => h (by subst e; decide))))
theorem jb_if_eq {b : Bool} {off : Int} {tgt : Nat} (hdg : decode cc pc = .ok (.ifCond .eq off, 3)) (ht : (pc : Int) + off = (tgt : Int)) (kt : b = false → V k l D tys R cc nL own w cells slots (tgt) lv (rest)) (kf : b = true → V k l D tys R cc nL own w cells slots (pc + 3) lv (rest)) : V k l D tys R cc nL own w cells slots (pc) lv (.int (bI b) :: rest) :=
  j_if_eq hdg ht (fun h => kt (bI_0 h)) (fun h => kf (bI_1 h))
theorem jb_if_ne {b : Bool} {off : Int} {tgt : Nat} (hdg : decode cc pc = .ok (.ifCond .ne off, 3)) (ht : (pc : Int) + off = (tgt : Int)) (kt : b = true → V k l D tys R cc nL own w cells slots (tgt) lv (rest)) (kf : b = false → V k l D tys R cc nL own w cells slots (pc + 3) lv (rest)) : V k l D tys R cc nL own w cells slots (pc) lv (.int (bI b) :: rest) :=
  j_if_ne hdg ht (fun h => kt (bI_1 h)) (fun h => kf (bI_0 h))
theorem jn_iadd {a b v : Nat} (hdg : decode cc pc = .ok (.iadd, 1)) (hv : a + b = v) (kk : V k l D tys R cc nL own w cells slots (pc + 1) lv (.int (nI v) :: rest)) : V k l D tys R cc nL own w cells slots (pc) lv (.int (nI b) :: .int (nI a) :: rest) := j_iadd hdg (by rw [nI_add, hv]) kk
theorem jn_isub {a b v : Nat} (hdg : decode cc pc = .ok (.isub, 1)) (hab : b ≤ a) (hv : a - b = v) (kk : V k l D tys R cc nL own w cells slots (pc + 1) lv (.int (nI v) :: rest)) : V k l D tys R cc nL own w cells slots (pc) lv (.int (nI b) :: .int (nI a) :: rest) := j_isub hdg (by rw [nI_sub hab, hv]) kk
theorem jn_imul {a b v : Nat} (hdg : decode cc pc = .ok (.imul, 1)) (hv : a * b = v) (kk : V k l D tys R cc nL own w cells slots (pc + 1) lv (.int (nI v) :: rest)) : V k l D tys R cc nL own w cells slots (pc) lv (.int (nI b) :: .int (nI a) :: rest) := j_imul hdg (by rw [pk_mul, hv]) kk
theorem j_get {a ci index N k0 : Nat} {ref C : String} {T : u_T} {fs : List Value} {v : Value} (hin : ∀ w ∈ u_ws C T N, w ∈ aL) (q0 : Nat) (he : w[q0]? = some (a, .inr (ci, fs))) (hc : vwCl[ci]? = some (C, T, N)) (hk : k0 < N) (hlink : Cond.fieldLink own index ref (T k0).2.1 (T k0).2.2.1 ∈ aL) (hsame : (T k0).1 = ref) (hv : fs[k0]? = some v) (hdg : decode cc pc = .ok (.getfield index, 3)) (kk : V k l D tys R cc nL own w cells slots (pc + 3) lv (v :: rest)) : V k l D tys R cc nL own w cells slots (pc) lv (.ref a :: rest) := by
  obtain ⟨⟨p, e, s, m, args⟩, ⟨below, meth, c⟩, ⟨A, H0⟩, Q⟩ := k
  intro C H locs ls hP hD hS hl
  obtain ⟨hx, hb, hml, hown, hts, hK, hA, hlk, hN, hfl⟩ := id C
  dsimp only at *
  exact va_get hx hb hts hin hown hK hP q0 he hc k0 hk (hts _ hlink) (fun x h => by rw [← hsame]; exact h) hv hdg (kk C H locs ls hP hD hS hl)

theorem j_put {a ci index N k0 : Nat} {ref C0 : String} {T : u_T} {fs : List Value} {v : Value} (w' : va_W) (hin : ∀ w ∈ u_ws C0 T N, w ∈ aL) (ty0 : Nat → FieldType) (hty : ∀ k, k < N → parseFieldDescriptor (T k).2.2.1 = some (ty0 k)) (hnm : ∀ a, a < N → ∀ b, b < N → a ≠ b → (T a).2.1 ≠ (T b).2.1) (q0 : Nat) (he : w[q0]? = some (a, .inr (ci, fs))) (hc : vwCl[ci]? = some (C0, T, N)) (hk : k0 < N) (hlink : Cond.fieldLink own index ref (T k0).2.1 (T k0).2.2.1 ∈ aL) (hsame : (T k0).1 = ref) (hfin : (T k0).2.2.2 = false) {ty : FieldType} (hd : parseFieldDescriptor (T k0).2.2.1 = some ty) (hn : narrow ty v = v) (hfit : fits ty v = true) (hlt : k0 < fs.length) (hw : w.set q0 (a, .inr (ci, fs.set k0 v)) = w') (hdg : decode cc pc = .ok (.putfield index, 3))
  (kk : V k l D tys R cc nL own w' cells slots (pc + 3) lv (rest)) : V k l D tys R cc nL own w cells slots (pc) lv (v :: .ref a :: rest) := by
  obtain ⟨⟨p, e, s, m, args⟩, ⟨below, meth, c⟩, ⟨A, H0⟩, Q⟩ := k
  intro C H locs ls hP hD hS hl
  obtain ⟨hx, hb, hml, hown, hts, hK, hA, hlk, hN, hfl⟩ := id C
  dsimp only at *
  subst hw
  exact va_put hx hb hts hin ty0 hty hnm hown hK hP hD hS q0 he hc k0 hk (hts _ hlink) (fun x h => by rw [← hsame]; exact h) hfin hd hn hfit hlt hdg (fun H1 locs1 hP1 hD1 hS1 => kk C H1 locs1 ls hP1 hD1 hS1 hl)
theorem j_putF {a ci index N k0 : Nat} {ref C0 : String} {T : u_T} {fs : List Value} {v : Value} (w' : va_W) (hin : ∀ w ∈ u_ws C0 T N, w ∈ aL) (ty0 : Nat → FieldType) (hty : ∀ k, k < N → parseFieldDescriptor (T k).2.2.1 = some (ty0 k)) (hnm : ∀ a, a < N → ∀ b, b < N → a ≠ b → (T a).2.1 ≠ (T b).2.1) (q0 : Nat) (he : w[q0]? = some (a, .inr (ci, fs))) (hc : vwCl[ci]? = some (C0, T, N)) (hk : k0 < N) (hlink : Cond.fieldLink own index ref (T k0).2.1 (T k0).2.2.1 ∈ aL) (hsame : (T k0).1 = ref) (hfin : (T k0).2.2.2 = true) (hin2 : VInit k) (hdecl : (T k0).1 = own) {ty : FieldType} (hd : parseFieldDescriptor (T k0).2.2.1 = some ty) (hn : narrow ty v = v) (hfit : fits ty v = true) (hlt : k0 < fs.length) (hw : w.set q0 (a, .inr (ci, fs.set k0 v)) = w') (hdg : decode cc pc = .ok (.putfield index, 3))
  (kk : V k l D tys R cc nL own w' cells slots (pc + 3) lv (rest)) : V k l D tys R cc nL own w cells slots (pc) lv (v :: .ref a :: rest) := by
  obtain ⟨⟨p, e, s, m, args⟩, ⟨below, meth, c⟩, ⟨A, H0⟩, Q⟩ := k
  intro C H locs ls hP hD hS hl
  obtain ⟨hx, hb, hml, hown, hts, hK, hA, hlk, hN, hfl⟩ := id C
  dsimp only at *
  subst hw
  exact va_putF hx hb hts hin ty0 hty hnm hown hK hP hD hS q0 he hc k0 hk (hts _ hlink) (fun x h => by rw [← hsame]; exact h) hfin hin2 hdecl hd hn hfit hlt hdg (fun H1 locs1 hP1 hD1 hS1 => kk C H1 locs1 ls hP1 hD1 hS1 hl)
theorem j_iald {a n : Nat} {cA : ClassId} {f : Nat → Int32} {i : Int32} {v : Int32} (q0 t0 : Nat) (ha : w[q0]? = some (a, .inl (cA, n, .inl f))) (ht : tys[t0]? = some (cA, .int)) (hin : vp_in i n) (hv : f i.toNatClampNeg = v) (hdg : decode cc pc = .ok (.iaload, 1)) (kk : V k l D tys R cc nL own w cells slots (pc + 1) lv (.int v :: rest)) : V k l D tys R cc nL own w cells slots (pc) lv (.int i :: .ref a :: rest) := by
  obtain ⟨⟨p, e, s, m, args⟩, ⟨below, meth, c⟩, ⟨A, H0⟩, Q⟩ := k
  intro C H locs ls hP hD hS hl
  obtain ⟨hx, hb, hml, hown, hts, hK, hA, hlk, hN, hfl⟩ := id C
  dsimp only at *
  subst hv
  exact va_iald hx hb hK hP q0 t0 ha ht hin hdg (kk C H locs ls hP hD hS hl)

theorem jn_iald {a n : Nat} {cA : ClassId} {f : Nat → Int32} {i : Nat} {v : Int32} (q0 t0 : Nat) (ha : w[q0]? = some (a, .inl (cA, n, .inl f))) (ht : tys[t0]? = some (cA, .int)) (hi : i < n) (hn : n < 2 ^ 31) (hv : f i = v) (hdg : decode cc pc = .ok (.iaload, 1)) (kk : V k l D tys R cc nL own w cells slots (pc + 1) lv (.int v :: rest)) : V k l D tys R cc nL own w cells slots (pc) lv (.int (nI i) :: .ref a :: rest) :=
  j_iald q0 t0 ha ht (vp_in_nI hi hn) (by rw [nI_clamp (Nat.lt_trans hi hn)]; exact hv) hdg kk
theorem j_zald {a n : Nat} {cA : ClassId} {f : Nat → Int32} {i : Int32} {v : Int32} (q0 t0 : Nat) (ha : w[q0]? = some (a, .inl (cA, n, .inl f))) (ht : tys[t0]? = some (cA, .boolean)) (hin : vp_in i n) (hv : f i.toNatClampNeg = v) (hdg : decode cc pc = .ok (.baload, 1)) (kk : V k l D tys R cc nL own w cells slots (pc + 1) lv (.int v :: rest)) : V k l D tys R cc nL own w cells slots (pc) lv (.int i :: .ref a :: rest) := by
  obtain ⟨⟨p, e, s, m, args⟩, ⟨below, meth, c⟩, ⟨A, H0⟩, Q⟩ := k
  intro C H locs ls hP hD hS hl
  obtain ⟨hx, hb, hml, hown, hts, hK, hA, hlk, hN, hfl⟩ := id C
  dsimp only at *
  subst hv
  exact va_zald hx hb hK hP q0 t0 ha ht hin hdg (kk C H locs ls hP hD hS hl)

theorem jn_zald {a n : Nat} {cA : ClassId} {f : Nat → Int32} {i : Nat} {v : Int32} (q0 t0 : Nat) (ha : w[q0]? = some (a, .inl (cA, n, .inl f))) (ht : tys[t0]? = some (cA, .boolean)) (hi : i < n) (hn : n < 2 ^ 31) (hv : f i = v) (hdg : decode cc pc = .ok (.baload, 1)) (kk : V k l D tys R cc nL own w cells slots (pc + 1) lv (.int v :: rest)) : V k l D tys R cc nL own w cells slots (pc) lv (.int (nI i) :: .ref a :: rest) :=
  j_zald q0 t0 ha ht (vp_in_nI hi hn) (by rw [nI_clamp (Nat.lt_trans hi hn)]; exact hv) hdg kk
theorem j_lald {a n : Nat} {cA : ClassId} {f : Nat → Int64} {i : Int32} {v : Int64} (q0 t0 : Nat) (ha : w[q0]? = some (a, .inl (cA, n, .inr (.inl f)))) (ht : tys[t0]? = some (cA, .long)) (hin : vp_in i n) (hv : f i.toNatClampNeg = v) (hdg : decode cc pc = .ok (.laload, 1)) (kk : V k l D tys R cc nL own w cells slots (pc + 1) lv (.long v :: rest)) : V k l D tys R cc nL own w cells slots (pc) lv (.int i :: .ref a :: rest) := by
  obtain ⟨⟨p, e, s, m, args⟩, ⟨below, meth, c⟩, ⟨A, H0⟩, Q⟩ := k
  intro C H locs ls hP hD hS hl
  obtain ⟨hx, hb, hml, hown, hts, hK, hA, hlk, hN, hfl⟩ := id C
  dsimp only at *
  subst hv
  exact va_lald hx hb hK hP q0 t0 ha ht hin hdg (kk C H locs ls hP hD hS hl)

theorem jn_lald {a n : Nat} {cA : ClassId} {f : Nat → Int64} {i : Nat} {v : Int64} (q0 t0 : Nat) (ha : w[q0]? = some (a, .inl (cA, n, .inr (.inl f)))) (ht : tys[t0]? = some (cA, .long)) (hi : i < n) (hn : n < 2 ^ 31) (hv : f i = v) (hdg : decode cc pc = .ok (.laload, 1)) (kk : V k l D tys R cc nL own w cells slots (pc + 1) lv (.long v :: rest)) : V k l D tys R cc nL own w cells slots (pc) lv (.int (nI i) :: .ref a :: rest) :=
  j_lald q0 t0 ha ht (vp_in_nI hi hn) (by rw [nI_clamp (Nat.lt_trans hi hn)]; exact hv) hdg kk
theorem j_iast {a n : Nat} {cA : ClassId} {f : Nat → Int32} {i : Int32} {x : Int32} (w' : va_W) (q0 t0 : Nat) (ha : w[q0]? = some (a, .inl (cA, n, .inl f))) (ht : tys[t0]? = some (cA, .int)) (hin : vp_in i n) (hw : w.set q0 (a, .inl (cA, n, .inl (upd f i.toNatClampNeg x))) = w') (hdg : decode cc pc = .ok (.iastore, 1)) (kk : V k l D tys R cc nL own w' cells slots (pc + 1) lv (rest)) : V k l D tys R cc nL own w cells slots (pc) lv (.int x :: .int i :: .ref a :: rest) := by
  obtain ⟨⟨p, e, s, m, args⟩, ⟨below, meth, c⟩, ⟨A, H0⟩, Q⟩ := k
  intro C H locs ls hP hD hS hl
  obtain ⟨hx, hb, hml, hown, hts, hK, hA, hlk, hN, hfl⟩ := id C
  dsimp only at *
  subst hw
  exact va_iast hx hb hK hP hD hS q0 t0 ha ht hin hdg (fun H1 locs1 hP1 hD1 hS1 => kk C H1 locs1 ls hP1 hD1 hS1 hl)
theorem jn_iast {a n : Nat} {cA : ClassId} {f : Nat → Int32} {i : Nat} {x : Int32} (w' : va_W) (q0 t0 : Nat) (ha : w[q0]? = some (a, .inl (cA, n, .inl f))) (ht : tys[t0]? = some (cA, .int)) (hi : i < n) (hn : n < 2 ^ 31) (hw : w.set q0 (a, .inl (cA, n, .inl (upd f i x))) = w') (hdg : decode cc pc = .ok (.iastore, 1)) (kk : V k l D tys R cc nL own w' cells slots (pc + 1) lv (rest)) : V k l D tys R cc nL own w cells slots (pc) lv (.int x :: .int (nI i) :: .ref a :: rest) :=
  j_iast w' q0 t0 ha ht (vp_in_nI hi hn) (by rw [nI_clamp (Nat.lt_trans hi hn)]; exact hw) hdg kk
theorem j_zast {a n : Nat} {cA : ClassId} {f : Nat → Int32} {i : Int32} {x : Int32} (w' : va_W) (q0 t0 : Nat) (ha : w[q0]? = some (a, .inl (cA, n, .inl f))) (ht : tys[t0]? = some (cA, .boolean)) (hin : vp_in i n) (hw : w.set q0 (a, .inl (cA, n, .inl (upd f i.toNatClampNeg (vp_nar .boolean x)))) = w') (hdg : decode cc pc = .ok (.bastore, 1)) (kk : V k l D tys R cc nL own w' cells slots (pc + 1) lv (rest)) : V k l D tys R cc nL own w cells slots (pc) lv (.int x :: .int i :: .ref a :: rest) := by
  obtain ⟨⟨p, e, s, m, args⟩, ⟨below, meth, c⟩, ⟨A, H0⟩, Q⟩ := k
  intro C H locs ls hP hD hS hl
  obtain ⟨hx, hb, hml, hown, hts, hK, hA, hlk, hN, hfl⟩ := id C
  dsimp only at *
  subst hw
  exact va_zast hx hb hK hP hD hS q0 t0 ha ht hin hdg (fun H1 locs1 hP1 hD1 hS1 => kk C H1 locs1 ls hP1 hD1 hS1 hl)
theorem jn_zast {a n : Nat} {cA : ClassId} {f : Nat → Int32} {i : Nat} {x : Int32} (w' : va_W) (q0 t0 : Nat) (ha : w[q0]? = some (a, .inl (cA, n, .inl f))) (ht : tys[t0]? = some (cA, .boolean)) (hi : i < n) (hn : n < 2 ^ 31) (hw : w.set q0 (a, .inl (cA, n, .inl (upd f i (vp_nar .boolean x)))) = w') (hdg : decode cc pc = .ok (.bastore, 1)) (kk : V k l D tys R cc nL own w' cells slots (pc + 1) lv (rest)) : V k l D tys R cc nL own w cells slots (pc) lv (.int x :: .int (nI i) :: .ref a :: rest) :=
  j_zast w' q0 t0 ha ht (vp_in_nI hi hn) (by rw [nI_clamp (Nat.lt_trans hi hn)]; exact hw) hdg kk
theorem j_last {a n : Nat} {cA : ClassId} {f : Nat → Int64} {i : Int32} {x : Int64} (w' : va_W) (q0 t0 : Nat) (ha : w[q0]? = some (a, .inl (cA, n, .inr (.inl f)))) (ht : tys[t0]? = some (cA, .long)) (hin : vp_in i n) (hw : w.set q0 (a, .inl (cA, n, .inr (.inl (vp_updL f i.toNatClampNeg x)))) = w') (hdg : decode cc pc = .ok (.lastore, 1)) (kk : V k l D tys R cc nL own w' cells slots (pc + 1) lv (rest)) : V k l D tys R cc nL own w cells slots (pc) lv (.long x :: .int i :: .ref a :: rest) := by
  obtain ⟨⟨p, e, s, m, args⟩, ⟨below, meth, c⟩, ⟨A, H0⟩, Q⟩ := k
  intro C H locs ls hP hD hS hl
  obtain ⟨hx, hb, hml, hown, hts, hK, hA, hlk, hN, hfl⟩ := id C
  dsimp only at *
  subst hw
  exact va_last hx hb hK hP hD hS q0 t0 ha ht hin hdg (fun H1 locs1 hP1 hD1 hS1 => kk C H1 locs1 ls hP1 hD1 hS1 hl)
theorem jn_last {a n : Nat} {cA : ClassId} {f : Nat → Int64} {i : Nat} {x : Int64} (w' : va_W) (q0 t0 : Nat) (ha : w[q0]? = some (a, .inl (cA, n, .inr (.inl f)))) (ht : tys[t0]? = some (cA, .long)) (hi : i < n) (hn : n < 2 ^ 31) (hw : w.set q0 (a, .inl (cA, n, .inr (.inl (vp_updL f i x)))) = w') (hdg : decode cc pc = .ok (.lastore, 1)) (kk : V k l D tys R cc nL own w' cells slots (pc + 1) lv (rest)) : V k l D tys R cc nL own w cells slots (pc) lv (.long x :: .int (nI i) :: .ref a :: rest) :=
  j_last w' q0 t0 ha ht (vp_in_nI hi hn) (by rw [nI_clamp (Nat.lt_trans hi hn)]; exact hw) hdg kk
theorem j_alen {a : Nat} {cA : ClassId} {x : vp_A} {ty : FieldType} {v : Int32} (q0 t0 : Nat) (ha : w[q0]? = some (a, .inl (cA, x))) (ht : tys[t0]? = some (cA, ty)) (hv : Int32.ofNat x.1 = v) (hdg : decode cc pc = .ok (.arraylength, 1)) (kk : V k l D tys R cc nL own w cells slots (pc + 1) lv (.int v :: rest)) : V k l D tys R cc nL own w cells slots (pc) lv (.ref a :: rest) := by
  obtain ⟨⟨p, e, s, m, args⟩, ⟨below, meth, c⟩, ⟨A, H0⟩, Q⟩ := k
  intro C H locs ls hP hD hS hl
  obtain ⟨hx, hb, hml, hown, hts, hK, hA, hlk, hN, hfl⟩ := id C
  dsimp only at *
  exact va_alen hx hb hK hP q0 t0 ha ht hv hdg (kk C H locs ls hP hD hS hl)

theorem j_iret {tys' : List (ClassId × FieldType)} {ret : Option FieldType} {Po : Option Value → va_W → Prop} {v : Int32} (hret : ret = some .int) (hR : VRet k D tys ret Po cells slots) (hdg : decode cc pc = .ok (.ireturn, 1)) (hpo : Po (some (.int v)) w) : V k l D tys R cc nL own w cells slots (pc) lv ([.int v]) := by
  obtain ⟨⟨p, e, s, m, args⟩, ⟨below, meth, c⟩, ⟨A, H0⟩, Q⟩ := k
  intro C H locs ls hP hD hS hl
  obtain ⟨hx, hb, hml, hown, hts, hK, hA, hlk, hN, hfl⟩ := id C
  dsimp only at *
  obtain ⟨h1, h2, h3⟩ := hR
  dsimp only at h1 h2 h3
  subst h2 h3
  subst hret
  exact W.iret hx hb h1 (fun t ht hW => ⟨⟨_, w, rfl, hpo, by rw [ht]; exact hP, va_K.moved hW.alike hK, hD⟩, hS.F ht⟩) hS.2.2 hdg
theorem j_zret {tys' : List (ClassId × FieldType)} {ret : Option FieldType} {Po : Option Value → va_W → Prop} {v : Int32} (hret : ret = some .boolean) (hnz : narrow .boolean (.int v) = .int v) (hR : VRet k D tys ret Po cells slots) (hdg : decode cc pc = .ok (.ireturn, 1)) (hpo : Po (some (.int v)) w) : V k l D tys R cc nL own w cells slots (pc) lv ([.int v]) := by
  obtain ⟨⟨p, e, s, m, args⟩, ⟨below, meth, c⟩, ⟨A, H0⟩, Q⟩ := k
  intro C H locs ls hP hD hS hl
  obtain ⟨hx, hb, hml, hown, hts, hK, hA, hlk, hN, hfl⟩ := id C
  dsimp only at *
  obtain ⟨h1, h2, h3⟩ := hR
  dsimp only at h1 h2 h3
  subst h2 h3
  subst hret
  exact W.zret hx hb h1 hnz (fun t ht hW => ⟨⟨_, w, rfl, hpo, by rw [ht]; exact hP, va_K.moved hW.alike hK, hD⟩, hS.F ht⟩) hS.2.2 hdg
theorem j_lret {tys' : List (ClassId × FieldType)} {ret : Option FieldType} {Po : Option Value → va_W → Prop} {v : Int64} (hret : ret = some .long) (hR : VRet k D tys ret Po cells slots) (hdg : decode cc pc = .ok (.lreturn, 1)) (hpo : Po (some (.long v)) w) : V k l D tys R cc nL own w cells slots (pc) lv ([.long v]) := by
  obtain ⟨⟨p, e, s, m, args⟩, ⟨below, meth, c⟩, ⟨A, H0⟩, Q⟩ := k
  intro C H locs ls hP hD hS hl
  obtain ⟨hx, hb, hml, hown, hts, hK, hA, hlk, hN, hfl⟩ := id C
  dsimp only at *
  obtain ⟨h1, h2, h3⟩ := hR
  dsimp only at h1 h2 h3
  subst h2 h3
  subst hret
  exact W.lret hx hb h1 (fun t ht hW => ⟨⟨_, w, rfl, hpo, by rw [ht]; exact hP, va_K.moved hW.alike hK, hD⟩, hS.F ht⟩) hS.2.2 hdg
theorem j_vret {tys' : List (ClassId × FieldType)} {ret : Option FieldType} {Po : Option Value → va_W → Prop} (hret : ret = none) (hR : VRet k D tys ret Po cells slots) (hdg : decode cc pc = .ok (.return_, 1)) (hpo : Po none w) : V k l D tys R cc nL own w cells slots (pc) lv ([]) := by
  obtain ⟨⟨p, e, s, m, args⟩, ⟨below, meth, c⟩, ⟨A, H0⟩, Q⟩ := k
  intro C H locs ls hP hD hS hl
  obtain ⟨hx, hb, hml, hown, hts, hK, hA, hlk, hN, hfl⟩ := id C
  dsimp only at *
  obtain ⟨h1, h2, h3⟩ := hR
  dsimp only at h1 h2 h3
  subst h2 h3
  subst hret
  exact W.vret hx hb h1 (fun t ht hW => ⟨⟨_, w, rfl, hpo, by rw [ht]; exact hP, va_K.moved hW.alike hK, hD⟩, hS.F ht⟩) hS.2.2 hdg
theorem nar_bI (b : Bool) : narrow .boolean (.int (bI b)) = .int (bI b) := by cases b <;> rfl
theorem j_zretB {b : Bool} {tys' : List (ClassId × FieldType)} {ret : Option FieldType} {Po : Option Value → va_W → Prop} (hret : ret = some .boolean) (hR : VRet k D tys ret Po cells slots) (hdg : decode cc pc = .ok (.ireturn, 1)) (hpo : Po (some (.int (bI b))) w) : V k l D tys R cc nL own w cells slots (pc) lv ([.int (bI b)]) := j_zret (tys' := tys') hret (nar_bI b) hR hdg hpo
end JR
