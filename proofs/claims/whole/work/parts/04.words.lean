/-- all words of the tables that a callee may lean on -/
def aL : List Cond := lw_tbl.filter goodWord
theorem aL_in {w : Cond} (h : w ∈ lw_tbl) (g : goodWord w = true) : w ∈ aL := List.mem_filter.mpr ⟨h, g⟩
theorem aL_tbl {w : Cond} (h : w ∈ aL) : w ∈ lw_tbl := (List.mem_filter.mp h).1
theorem aL_good {w : Cond} (h : w ∈ aL) : (w.onTables && w.keeps) = true ∨ ∃ ty, w = .arrayClass ty := good_of_word (List.mem_filter.mp h).2
theorem tb_1 {w : Cond} (h : w ∈ tables_1_1) : w ∈ lw_tbl := List.mem_append_right _ (List.mem_append_left _ h)
theorem tb_2 {w : Cond} (h : w ∈ tables_1_2) : w ∈ lw_tbl := List.mem_append_right _ (List.mem_append_right _ (List.mem_append_left _ h))
theorem tb_3 {w : Cond} (h : w ∈ tables_1_3) : w ∈ lw_tbl := List.mem_append_right _ (List.mem_append_right _ (List.mem_append_right _ (List.mem_append_left _ h)))
theorem tb_4 {w : Cond} (h : w ∈ tables_1_4) : w ∈ lw_tbl := List.mem_append_right _ (List.mem_append_right _ (List.mem_append_right _ (List.mem_append_right _ h)))
theorem mw1_0 : Cond.initialized RL ∈ aL := aL_in (tb_1 (List.mem_of_getElem? (i := 0) rfl)) rfl
theorem mw1_1 : Cond.initialized RX2 ∈ aL := aL_in (tb_1 (List.mem_of_getElem? (i := 1) rfl)) rfl
theorem mw1_2 : Cond.initialized RX1 ∈ aL := aL_in (tb_1 (List.mem_of_getElem? (i := 2) rfl)) rfl
theorem mw1_3 : Cond.initialized RX0 ∈ aL := aL_in (tb_1 (List.mem_of_getElem? (i := 3) rfl)) rfl
theorem mw1_4 : Cond.initialized RX3 ∈ aL := aL_in (tb_1 (List.mem_of_getElem? (i := 4) rfl)) rfl
theorem mw1_5 : Cond.initialized "java/lang/Throwable" ∈ aL := aL_in (tb_1 (List.mem_of_getElem? (i := 5) rfl)) rfl
theorem mw1_6 : Cond.initialized "java/lang/Exception" ∈ aL := aL_in (tb_1 (List.mem_of_getElem? (i := 6) rfl)) rfl
theorem mw1_7 : Cond.initialized "java/lang/RuntimeException" ∈ aL := aL_in (tb_1 (List.mem_of_getElem? (i := 7) rfl)) rfl
theorem mw1_8 : Cond.initialized "java/lang/IndexOutOfBoundsException" ∈ aL := aL_in (tb_1 (List.mem_of_getElem? (i := 8) rfl)) rfl
theorem mw1_9 : Cond.initialized "java/lang/IllegalArgumentException" ∈ aL := aL_in (tb_1 (List.mem_of_getElem? (i := 9) rfl)) rfl
theorem mw1_10 : Cond.initialized "java/util/NoSuchElementException" ∈ aL := aL_in (tb_1 (List.mem_of_getElem? (i := 10) rfl)) rfl
theorem mw1_11 : Cond.initialized RJ6 ∈ aL := aL_in (tb_1 (List.mem_of_getElem? (i := 11) rfl)) rfl
theorem mw1_12 : Cond.initialized "java/lang/IllegalStateException" ∈ aL := aL_in (tb_1 (List.mem_of_getElem? (i := 12) rfl)) rfl
theorem mw1_13 : Cond.classLink RL 8 RX2 ∈ aL := aL_in (tb_1 (List.mem_of_getElem? (i := 13) rfl)) rfl
theorem mw1_14 : Cond.instantiable RX2 4 ∈ aL := aL_in (tb_1 (List.mem_of_getElem? (i := 14) rfl)) rfl
theorem mw1_15 : Cond.methodLink RL 64 yX2_init ∈ aL := aL_in (tb_1 (List.mem_of_getElem? (i := 15) rfl)) rfl
theorem mw1_16 : Cond.instanceMethod yX2_init ∈ aL := aL_in (tb_1 (List.mem_of_getElem? (i := 16) rfl)) rfl
theorem mw1_17 : Cond.code yX2_init cX2_init 5 none ∈ aL := aL_in (tb_1 (List.mem_of_getElem? (i := 17) rfl)) rfl
theorem mw1_18 : Cond.methodLink RX2 1 (⟨"java/lang/Object", "<init>", "()V"⟩ : MethodName) ∈ aL := aL_in (tb_1 (List.mem_of_getElem? (i := 18) rfl)) rfl
theorem mw1_19 : Cond.instanceMethod (⟨"java/lang/Object", "<init>", "()V"⟩ : MethodName) ∈ aL := aL_in (tb_1 (List.mem_of_getElem? (i := 19) rfl)) rfl
theorem mw1_20 : Cond.code (⟨"java/lang/Object", "<init>", "()V"⟩ : MethodName) object_method_1_code 1 none ∈ aL := aL_in (tb_1 (List.mem_of_getElem? (i := 20) rfl)) rfl
theorem mw1_21 : Cond.classLink RX2 9 RX1 ∈ aL := aL_in (tb_1 (List.mem_of_getElem? (i := 21) rfl)) rfl
theorem mw1_22 : Cond.instantiable RX1 7 ∈ aL := aL_in (tb_1 (List.mem_of_getElem? (i := 22) rfl)) rfl
theorem mw1_23 : Cond.methodLink RX2 11 yX1_init ∈ aL := aL_in (tb_1 (List.mem_of_getElem? (i := 23) rfl)) rfl
theorem mw1_24 : Cond.instanceMethod yX1_init ∈ aL := aL_in (tb_1 (List.mem_of_getElem? (i := 24) rfl)) rfl
theorem mw1_25 : Cond.code yX1_init cX1_init 6 none ∈ aL := aL_in (tb_1 (List.mem_of_getElem? (i := 25) rfl)) rfl
theorem mw1_26 : Cond.methodLink RX1 5 (⟨"java/lang/Object", "<init>", "()V"⟩ : MethodName) ∈ aL := aL_in (tb_1 (List.mem_of_getElem? (i := 26) rfl)) rfl
theorem mw1_27 : Cond.fieldLink RX1 11 "LoopDiagram$Grid" "rows" "I" ∈ aL := aL_in (tb_1 (List.mem_of_getElem? (i := 27) rfl)) rfl
theorem mw1_28 : Cond.fieldLink RX2 119 "LoopDiagram$Grid" "rows" "I" ∈ aL := aL_in (tb_1 (List.mem_of_getElem? (i := 28) rfl)) rfl
theorem mw1_29 : Cond.fieldLink RX1 15 "LoopDiagram$Grid" "columns" "I" ∈ aL := aL_in (tb_1 (List.mem_of_getElem? (i := 29) rfl)) rfl
theorem mw1_30 : Cond.fieldLink RX2 49 "LoopDiagram$Grid" "columns" "I" ∈ aL := aL_in (tb_1 (List.mem_of_getElem? (i := 30) rfl)) rfl
theorem mw1_31 : Cond.fieldLink RX0 15 "LoopDiagram$Grid" "edges" "I" ∈ aL := aL_in (tb_1 (List.mem_of_getElem? (i := 31) rfl)) rfl
theorem mw1_32 : Cond.fieldLink RX1 18 "LoopDiagram$Grid" "edges" "I" ∈ aL := aL_in (tb_1 (List.mem_of_getElem? (i := 32) rfl)) rfl
theorem mw1_33 : Cond.fieldLink RX2 35 "LoopDiagram$Grid" "edges" "I" ∈ aL := aL_in (tb_1 (List.mem_of_getElem? (i := 33) rfl)) rfl
theorem mw1_34 : Cond.fieldLink RX1 21 "LoopDiagram$Grid" "row" "[I" ∈ aL := aL_in (tb_1 (List.mem_of_getElem? (i := 34) rfl)) rfl
theorem mw1_35 : Cond.fieldLink RX2 45 "LoopDiagram$Grid" "row" "[I" ∈ aL := aL_in (tb_1 (List.mem_of_getElem? (i := 35) rfl)) rfl
theorem mw1_36 : Cond.fieldLink RX1 25 "LoopDiagram$Grid" "column" "[I" ∈ aL := aL_in (tb_1 (List.mem_of_getElem? (i := 36) rfl)) rfl
theorem mw1_37 : Cond.fieldLink RX2 52 "LoopDiagram$Grid" "column" "[I" ∈ aL := aL_in (tb_1 (List.mem_of_getElem? (i := 37) rfl)) rfl
theorem mw1_38 : Cond.fieldLink RX1 28 "LoopDiagram$Grid" "goesDown" "[Z" ∈ aL := aL_in (tb_1 (List.mem_of_getElem? (i := 38) rfl)) rfl
theorem mw1_39 : Cond.fieldLink RX2 55 "LoopDiagram$Grid" "goesDown" "[Z" ∈ aL := aL_in (tb_1 (List.mem_of_getElem? (i := 39) rfl)) rfl
theorem mw1_40 : Cond.fieldLink RX1 32 "LoopDiagram$Grid" "clues" "[I" ∈ aL := aL_in (tb_1 (List.mem_of_getElem? (i := 40) rfl)) rfl
theorem mw1_41 : Cond.fieldLink RX2 116 "LoopDiagram$Grid" "clues" "[I" ∈ aL := aL_in (tb_1 (List.mem_of_getElem? (i := 41) rfl)) rfl
theorem mw1_42 : Cond.laysFinal RX1 RX1 "rows" "I" ∈ aL := aL_in (tb_1 (List.mem_of_getElem? (i := 42) rfl)) rfl
theorem mw1_43 : Cond.soleField RX1 "rows" ∈ aL := aL_in (tb_1 (List.mem_of_getElem? (i := 43) rfl)) rfl
theorem mw1_44 : Cond.laysFinal RX1 RX1 "columns" "I" ∈ aL := aL_in (tb_1 (List.mem_of_getElem? (i := 44) rfl)) rfl
theorem mw1_45 : Cond.soleField RX1 "columns" ∈ aL := aL_in (tb_1 (List.mem_of_getElem? (i := 45) rfl)) rfl
theorem mw1_46 : Cond.laysFinal RX1 RX1 "edges" "I" ∈ aL := aL_in (tb_1 (List.mem_of_getElem? (i := 46) rfl)) rfl
theorem mw1_47 : Cond.soleField RX1 "edges" ∈ aL := aL_in (tb_1 (List.mem_of_getElem? (i := 47) rfl)) rfl
theorem mw1_48 : Cond.laysFinal RX1 RX1 "row" "[I" ∈ aL := aL_in (tb_1 (List.mem_of_getElem? (i := 48) rfl)) rfl
theorem mw1_49 : Cond.soleField RX1 "row" ∈ aL := aL_in (tb_1 (List.mem_of_getElem? (i := 49) rfl)) rfl
theorem mw1_50 : Cond.laysFinal RX1 RX1 "column" "[I" ∈ aL := aL_in (tb_1 (List.mem_of_getElem? (i := 50) rfl)) rfl
theorem mw1_51 : Cond.soleField RX1 "column" ∈ aL := aL_in (tb_1 (List.mem_of_getElem? (i := 51) rfl)) rfl
theorem mw1_52 : Cond.laysFinal RX1 RX1 "goesDown" "[Z" ∈ aL := aL_in (tb_1 (List.mem_of_getElem? (i := 52) rfl)) rfl
theorem mw1_53 : Cond.soleField RX1 "goesDown" ∈ aL := aL_in (tb_1 (List.mem_of_getElem? (i := 53) rfl)) rfl
theorem mw1_54 : Cond.laysFinal RX1 RX1 "clues" "[I" ∈ aL := aL_in (tb_1 (List.mem_of_getElem? (i := 54) rfl)) rfl
theorem mw1_55 : Cond.soleField RX1 "clues" ∈ aL := aL_in (tb_1 (List.mem_of_getElem? (i := 55) rfl)) rfl
theorem mw1_57 : Cond.arrayClass FieldType.int ∈ aL := aL_in (tb_1 (List.mem_of_getElem? (i := 57) rfl)) rfl
theorem mw1_58 : Cond.arrayClass FieldType.boolean ∈ aL := aL_in (tb_1 (List.mem_of_getElem? (i := 58) rfl)) rfl
theorem mw1_59 : Cond.classLink RX2 18 RX0 ∈ aL := aL_in (tb_1 (List.mem_of_getElem? (i := 59) rfl)) rfl
theorem mw1_60 : Cond.instantiable RX0 8 ∈ aL := aL_in (tb_1 (List.mem_of_getElem? (i := 60) rfl)) rfl
theorem mw1_61 : Cond.methodLink RX2 20 yX0_init ∈ aL := aL_in (tb_1 (List.mem_of_getElem? (i := 61) rfl)) rfl
theorem mw1_62 : Cond.instanceMethod yX0_init ∈ aL := aL_in (tb_1 (List.mem_of_getElem? (i := 62) rfl)) rfl
theorem mw1_63 : Cond.code yX0_init cX0_init 2 none ∈ aL := aL_in (tb_1 (List.mem_of_getElem? (i := 63) rfl)) rfl
theorem mw1_64 : Cond.methodLink RX0 3 (⟨"java/lang/Object", "<init>", "()V"⟩ : MethodName) ∈ aL := aL_in (tb_1 (List.mem_of_getElem? (i := 64) rfl)) rfl
theorem mw1_65 : Cond.fieldLink RX0 9 "LoopDiagram$Diagram" "grid" "LLoopDiagram$Grid;" ∈ aL := aL_in (tb_1 (List.mem_of_getElem? (i := 65) rfl)) rfl
theorem mw1_66 : Cond.fieldLink RX0 21 "LoopDiagram$Diagram" "first" "[I" ∈ aL := aL_in (tb_1 (List.mem_of_getElem? (i := 66) rfl)) rfl
theorem mw1_67 : Cond.fieldLink RX2 80 "LoopDiagram$Diagram" "first" "[I" ∈ aL := aL_in (tb_1 (List.mem_of_getElem? (i := 67) rfl)) rfl
theorem mw1_68 : Cond.fieldLink RX0 25 "LoopDiagram$Diagram" "size" "I" ∈ aL := aL_in (tb_1 (List.mem_of_getElem? (i := 68) rfl)) rfl
theorem mw1_69 : Cond.fieldLink RX2 83 "LoopDiagram$Diagram" "size" "I" ∈ aL := aL_in (tb_1 (List.mem_of_getElem? (i := 69) rfl)) rfl
theorem mw1_70 : Cond.fieldLink RX0 28 "LoopDiagram$Diagram" "states" "[I" ∈ aL := aL_in (tb_1 (List.mem_of_getElem? (i := 70) rfl)) rfl
theorem mw1_71 : Cond.fieldLink RX0 31 "LoopDiagram$Diagram" "low" "[I" ∈ aL := aL_in (tb_1 (List.mem_of_getElem? (i := 71) rfl)) rfl
theorem mw1_72 : Cond.fieldLink RX0 34 "LoopDiagram$Diagram" "high" "[I" ∈ aL := aL_in (tb_1 (List.mem_of_getElem? (i := 72) rfl)) rfl
theorem mw1_73 : Cond.fieldLink RX0 37 "LoopDiagram$Diagram" "ways" "[I" ∈ aL := aL_in (tb_1 (List.mem_of_getElem? (i := 73) rfl)) rfl
theorem mw1_74 : Cond.fieldLink RX2 73 "LoopDiagram$Diagram" "ways" "[I" ∈ aL := aL_in (tb_1 (List.mem_of_getElem? (i := 74) rfl)) rfl
theorem mw1_75 : Cond.fieldLink RX0 40 "LoopDiagram$Diagram" "someWays" "[I" ∈ aL := aL_in (tb_1 (List.mem_of_getElem? (i := 75) rfl)) rfl
theorem mw1_76 : Cond.laysFinal RX0 RX0 "grid" "LLoopDiagram$Grid;" ∈ aL := aL_in (tb_1 (List.mem_of_getElem? (i := 76) rfl)) rfl
theorem mw1_77 : Cond.soleField RX0 "grid" ∈ aL := aL_in (tb_1 (List.mem_of_getElem? (i := 77) rfl)) rfl
theorem mw1_78 : Cond.laysFinal RX0 RX0 "first" "[I" ∈ aL := aL_in (tb_1 (List.mem_of_getElem? (i := 78) rfl)) rfl
theorem mw1_79 : Cond.soleField RX0 "first" ∈ aL := aL_in (tb_1 (List.mem_of_getElem? (i := 79) rfl)) rfl
theorem mw1_80 : Cond.lays RX0 RX0 "size" "I" ∈ aL := aL_in (tb_1 (List.mem_of_getElem? (i := 80) rfl)) rfl
theorem mw1_81 : Cond.soleField RX0 "size" ∈ aL := aL_in (tb_1 (List.mem_of_getElem? (i := 81) rfl)) rfl
theorem mw1_82 : Cond.laysFinal RX0 RX0 "states" "[I" ∈ aL := aL_in (tb_1 (List.mem_of_getElem? (i := 82) rfl)) rfl
theorem mw1_83 : Cond.soleField RX0 "states" ∈ aL := aL_in (tb_1 (List.mem_of_getElem? (i := 83) rfl)) rfl
theorem mw1_84 : Cond.laysFinal RX0 RX0 "low" "[I" ∈ aL := aL_in (tb_1 (List.mem_of_getElem? (i := 84) rfl)) rfl
theorem mw1_85 : Cond.soleField RX0 "low" ∈ aL := aL_in (tb_1 (List.mem_of_getElem? (i := 85) rfl)) rfl
theorem mw1_86 : Cond.laysFinal RX0 RX0 "high" "[I" ∈ aL := aL_in (tb_1 (List.mem_of_getElem? (i := 86) rfl)) rfl
theorem mw1_87 : Cond.soleField RX0 "high" ∈ aL := aL_in (tb_1 (List.mem_of_getElem? (i := 87) rfl)) rfl
theorem mw1_88 : Cond.laysFinal RX0 RX0 "ways" "[I" ∈ aL := aL_in (tb_1 (List.mem_of_getElem? (i := 88) rfl)) rfl
theorem mw1_89 : Cond.soleField RX0 "ways" ∈ aL := aL_in (tb_1 (List.mem_of_getElem? (i := 89) rfl)) rfl
theorem mw1_90 : Cond.laysFinal RX0 RX0 "someWays" "[I" ∈ aL := aL_in (tb_1 (List.mem_of_getElem? (i := 90) rfl)) rfl
theorem mw1_91 : Cond.soleField RX0 "someWays" ∈ aL := aL_in (tb_1 (List.mem_of_getElem? (i := 91) rfl)) rfl
theorem mw1_93 : Cond.fieldLink RX2 14 "LoopDiagram" "grid" "LLoopDiagram$Grid;" ∈ aL := aL_in (tb_1 (List.mem_of_getElem? (i := 93) rfl)) rfl
theorem mw1_94 : Cond.fieldLink RX2 23 "LoopDiagram" "diagram" "LLoopDiagram$Diagram;" ∈ aL := aL_in (tb_1 (List.mem_of_getElem? (i := 94) rfl)) rfl
theorem mw1_95 : Cond.fieldLink RX2 27 "LoopDiagram" "drawing" "I" ∈ aL := aL_in (tb_1 (List.mem_of_getElem? (i := 95) rfl)) rfl
theorem mw1_96 : Cond.fieldLink RX2 31 "LoopDiagram" "stale" "Z" ∈ aL := aL_in (tb_1 (List.mem_of_getElem? (i := 96) rfl)) rfl
theorem mw1_97 : Cond.laysFinal RX2 RX2 "grid" "LLoopDiagram$Grid;" ∈ aL := aL_in (tb_1 (List.mem_of_getElem? (i := 97) rfl)) rfl
theorem mw1_98 : Cond.soleField RX2 "grid" ∈ aL := aL_in (tb_1 (List.mem_of_getElem? (i := 98) rfl)) rfl
theorem mw1_99 : Cond.laysFinal RX2 RX2 "diagram" "LLoopDiagram$Diagram;" ∈ aL := aL_in (tb_1 (List.mem_of_getElem? (i := 99) rfl)) rfl
theorem mw1_100 : Cond.soleField RX2 "diagram" ∈ aL := aL_in (tb_1 (List.mem_of_getElem? (i := 100) rfl)) rfl
theorem mw1_101 : Cond.lays RX2 RX2 "drawing" "I" ∈ aL := aL_in (tb_1 (List.mem_of_getElem? (i := 101) rfl)) rfl
theorem mw1_102 : Cond.soleField RX2 "drawing" ∈ aL := aL_in (tb_1 (List.mem_of_getElem? (i := 102) rfl)) rfl
theorem mw1_103 : Cond.lays RX2 RX2 "stale" "Z" ∈ aL := aL_in (tb_1 (List.mem_of_getElem? (i := 103) rfl)) rfl
theorem mw1_104 : Cond.soleField RX2 "stale" ∈ aL := aL_in (tb_1 (List.mem_of_getElem? (i := 104) rfl)) rfl
theorem mw1_106 : Cond.methodLink RL 70 yX2_edges ∈ aL := aL_in (tb_1 (List.mem_of_getElem? (i := 106) rfl)) rfl
theorem mw1_107 : Cond.instanceMethod yX2_edges ∈ aL := aL_in (tb_1 (List.mem_of_getElem? (i := 107) rfl)) rfl
theorem mw1_108 : Cond.selects RX2 yX2_edges yX2_edges ∈ aL := aL_in (tb_1 (List.mem_of_getElem? (i := 108) rfl)) rfl
theorem mw1_109 : Cond.code yX2_edges cX2_edges 1 (Option.some FieldType.int) ∈ aL := aL_in (tb_1 (List.mem_of_getElem? (i := 109) rfl)) rfl
theorem mw1_110 : Cond.methodLink RL 85 yX2_count ∈ aL := aL_in (tb_1 (List.mem_of_getElem? (i := 110) rfl)) rfl
theorem mw1_111 : Cond.instanceMethod yX2_count ∈ aL := aL_in (tb_1 (List.mem_of_getElem? (i := 111) rfl)) rfl
theorem mw1_112 : Cond.selects RX2 yX2_count yX2_count ∈ aL := aL_in (tb_1 (List.mem_of_getElem? (i := 112) rfl)) rfl
theorem mw1_113 : Cond.code yX2_count cX2_count 1 (Option.some FieldType.int) ∈ aL := aL_in (tb_1 (List.mem_of_getElem? (i := 113) rfl)) rfl
theorem mw1_114 : Cond.methodLink RX2 69 yX2_fresh ∈ aL := aL_in (tb_1 (List.mem_of_getElem? (i := 114) rfl)) rfl
theorem mw1_116 : Cond.instanceMethod yX2_fresh ∈ aL := aL_in (tb_1 (List.mem_of_getElem? (i := 116) rfl)) rfl
theorem mw1_117 : Cond.code yX2_fresh cX2_fresh 1 (Option.some (FieldType.object RX0)) ∈ aL := aL_in (tb_1 (List.mem_of_getElem? (i := 117) rfl)) rfl
theorem mw1_118 : Cond.methodLink RX2 122 yX0_grow ∈ aL := aL_in (tb_1 (List.mem_of_getElem? (i := 118) rfl)) rfl
theorem mw1_119 : Cond.instanceMethod yX0_grow ∈ aL := aL_in (tb_1 (List.mem_of_getElem? (i := 119) rfl)) rfl
theorem mw1_120 : Cond.selects RX0 yX0_grow yX0_grow ∈ aL := aL_in (tb_1 (List.mem_of_getElem? (i := 120) rfl)) rfl
theorem mw1_121 : Cond.code yX0_grow cX0_grow 3 none ∈ aL := aL_in (tb_1 (List.mem_of_getElem? (i := 121) rfl)) rfl
theorem mw1_122 : Cond.methodLink RX0 43 yX0_nodeAfter ∈ aL := aL_in (tb_1 (List.mem_of_getElem? (i := 122) rfl)) rfl
theorem mw1_124 : Cond.instanceMethod yX0_nodeAfter ∈ aL := aL_in (tb_1 (List.mem_of_getElem? (i := 124) rfl)) rfl
theorem mw1_125 : Cond.code yX0_nodeAfter cX0_nodeAfter 6 (Option.some FieldType.int) ∈ aL := aL_in (tb_1 (List.mem_of_getElem? (i := 125) rfl)) rfl
theorem mw1_126 : Cond.methodLink RX0 59 yX1_pointsAfter ∈ aL := aL_in (tb_1 (List.mem_of_getElem? (i := 126) rfl)) rfl
theorem mw1_127 : Cond.instanceMethod yX1_pointsAfter ∈ aL := aL_in (tb_1 (List.mem_of_getElem? (i := 127) rfl)) rfl
theorem mw1_128 : Cond.selects RX1 yX1_pointsAfter yX1_pointsAfter ∈ aL := aL_in (tb_1 (List.mem_of_getElem? (i := 128) rfl)) rfl
theorem mw1_129 : Cond.code yX1_pointsAfter cX1_pointsAfter 7 (Option.some FieldType.int) ∈ aL := aL_in (tb_1 (List.mem_of_getElem? (i := 129) rfl)) rfl
theorem mw1_130 : Cond.methodLink RX1 35 yX1_downAfter ∈ aL := aL_in (tb_1 (List.mem_of_getElem? (i := 130) rfl)) rfl
theorem mw1_131 : Cond.static yX1_downAfter ∈ aL := aL_in (tb_1 (List.mem_of_getElem? (i := 131) rfl)) rfl
theorem mw1_132 : Cond.code yX1_downAfter cX1_downAfter 3 (Option.some FieldType.int) ∈ aL := aL_in (tb_1 (List.mem_of_getElem? (i := 132) rfl)) rfl
theorem mw1_133 : Cond.methodLink RX1 46 yX1_slot ∈ aL := aL_in (tb_1 (List.mem_of_getElem? (i := 133) rfl)) rfl
theorem mw1_134 : Cond.static yX1_slot ∈ aL := aL_in (tb_1 (List.mem_of_getElem? (i := 134) rfl)) rfl
theorem mw1_135 : Cond.code yX1_slot cX1_slot 2 (Option.some FieldType.int) ∈ aL := aL_in (tb_1 (List.mem_of_getElem? (i := 135) rfl)) rfl
theorem mw1_136 : Cond.methodLink RX1 53 yX1_isPathEnd ∈ aL := aL_in (tb_1 (List.mem_of_getElem? (i := 136) rfl)) rfl
theorem mw1_137 : Cond.static yX1_isPathEnd ∈ aL := aL_in (tb_1 (List.mem_of_getElem? (i := 137) rfl)) rfl
theorem mw1_138 : Cond.code yX1_isPathEnd cX1_isPathEnd 2 (Option.some FieldType.boolean) ∈ aL := aL_in (tb_1 (List.mem_of_getElem? (i := 138) rfl)) rfl
theorem mw1_139 : Cond.methodLink RX1 57 yX1_put ∈ aL := aL_in (tb_1 (List.mem_of_getElem? (i := 139) rfl)) rfl
theorem mw1_140 : Cond.static yX1_put ∈ aL := aL_in (tb_1 (List.mem_of_getElem? (i := 140) rfl)) rfl
theorem mw1_141 : Cond.code yX1_put cX1_put 3 (Option.some FieldType.int) ∈ aL := aL_in (tb_1 (List.mem_of_getElem? (i := 141) rfl)) rfl
theorem mw1_142 : Cond.methodLink RX1 39 yX1_joined ∈ aL := aL_in (tb_1 (List.mem_of_getElem? (i := 142) rfl)) rfl
theorem mw1_143 : Cond.static yX1_joined ∈ aL := aL_in (tb_1 (List.mem_of_getElem? (i := 143) rfl)) rfl
theorem mw1_144 : Cond.code yX1_joined cX1_joined 7 (Option.some FieldType.int) ∈ aL := aL_in (tb_1 (List.mem_of_getElem? (i := 144) rfl)) rfl
theorem mw1_145 : Cond.methodLink RX1 43 yX1_ended ∈ aL := aL_in (tb_1 (List.mem_of_getElem? (i := 145) rfl)) rfl
theorem mw1_146 : Cond.static yX1_ended ∈ aL := aL_in (tb_1 (List.mem_of_getElem? (i := 146) rfl)) rfl
theorem mw1_147 : Cond.code yX1_ended cX1_ended 2 (Option.some FieldType.int) ∈ aL := aL_in (tb_1 (List.mem_of_getElem? (i := 147) rfl)) rfl
theorem mw1_148 : Cond.methodLink RX0 62 yX1_cluesAfter ∈ aL := aL_in (tb_1 (List.mem_of_getElem? (i := 148) rfl)) rfl
theorem mw1_149 : Cond.instanceMethod yX1_cluesAfter ∈ aL := aL_in (tb_1 (List.mem_of_getElem? (i := 149) rfl)) rfl
theorem mw1_150 : Cond.selects RX1 yX1_cluesAfter yX1_cluesAfter ∈ aL := aL_in (tb_1 (List.mem_of_getElem? (i := 150) rfl)) rfl
theorem mw1_151 : Cond.code yX1_cluesAfter cX1_cluesAfter 6 (Option.some FieldType.int) ∈ aL := aL_in (tb_1 (List.mem_of_getElem? (i := 151) rfl)) rfl
theorem mw1_152 : Cond.methodLink RX1 49 yX1_sideAfter ∈ aL := aL_in (tb_1 (List.mem_of_getElem? (i := 152) rfl)) rfl
theorem mw1_154 : Cond.instanceMethod yX1_sideAfter ∈ aL := aL_in (tb_1 (List.mem_of_getElem? (i := 154) rfl)) rfl
theorem mw1_155 : Cond.code yX1_sideAfter cX1_sideAfter 8 (Option.some FieldType.int) ∈ aL := aL_in (tb_1 (List.mem_of_getElem? (i := 155) rfl)) rfl
theorem mw1_156 : Cond.methodLink RX0 47 yX0_fillWays ∈ aL := aL_in (tb_1 (List.mem_of_getElem? (i := 156) rfl)) rfl
theorem mw1_158 : Cond.instanceMethod yX0_fillWays ∈ aL := aL_in (tb_1 (List.mem_of_getElem? (i := 158) rfl)) rfl
theorem mw1_159 : Cond.code yX0_fillWays cX0_fillWays 6 none ∈ aL := aL_in (tb_1 (List.mem_of_getElem? (i := 159) rfl)) rfl
theorem mw1_160 : Cond.methodLinkNest RX0 55 yX2_hasBit RX2 ∈ lw_tbl := tb_1 (List.mem_of_getElem? (i := 160) rfl)
theorem mw1_161 : Cond.static yX2_hasBit ∈ aL := aL_in (tb_1 (List.mem_of_getElem? (i := 161) rfl)) rfl
theorem mw1_162 : Cond.code yX2_hasBit cX2_hasBit 2 (Option.some FieldType.boolean) ∈ aL := aL_in (tb_1 (List.mem_of_getElem? (i := 162) rfl)) rfl
theorem mw1_163 : Cond.methodLink RX0 51 yX0_waysOf ∈ aL := aL_in (tb_1 (List.mem_of_getElem? (i := 163) rfl)) rfl
theorem mw1_164 : Cond.static yX0_waysOf ∈ aL := aL_in (tb_1 (List.mem_of_getElem? (i := 164) rfl)) rfl
theorem mw1_165 : Cond.code yX0_waysOf cX0_waysOf 2 (Option.some FieldType.int) ∈ aL := aL_in (tb_1 (List.mem_of_getElem? (i := 165) rfl)) rfl
theorem mw1_166 : Cond.methodLink RL 92 yX2_nodes ∈ aL := aL_in (tb_1 (List.mem_of_getElem? (i := 166) rfl)) rfl
theorem mw1_167 : Cond.instanceMethod yX2_nodes ∈ aL := aL_in (tb_1 (List.mem_of_getElem? (i := 167) rfl)) rfl
theorem mw1_168 : Cond.selects RX2 yX2_nodes yX2_nodes ∈ aL := aL_in (tb_1 (List.mem_of_getElem? (i := 168) rfl)) rfl
theorem mw1_169 : Cond.code yX2_nodes cX2_nodes 1 (Option.some FieldType.int) ∈ aL := aL_in (tb_1 (List.mem_of_getElem? (i := 169) rfl)) rfl
theorem mw1_170 : Cond.methodLink RL 114 yX2_drawn ∈ aL := aL_in (tb_1 (List.mem_of_getElem? (i := 170) rfl)) rfl
theorem mw1_171 : Cond.instanceMethod yX2_drawn ∈ aL := aL_in (tb_1 (List.mem_of_getElem? (i := 171) rfl)) rfl
theorem mw1_172 : Cond.selects RX2 yX2_drawn yX2_drawn ∈ aL := aL_in (tb_1 (List.mem_of_getElem? (i := 172) rfl)) rfl
theorem mw1_173 : Cond.code yX2_drawn cX2_drawn 1 (Option.some FieldType.int) ∈ aL := aL_in (tb_1 (List.mem_of_getElem? (i := 173) rfl)) rfl
theorem mw1_174 : Cond.methodLink RX2 95 yJ6_bitCount_0f7a4 ∈ aL := aL_in (tb_1 (List.mem_of_getElem? (i := 174) rfl)) rfl
theorem mw1_175 : Cond.static yJ6_bitCount_0f7a4 ∈ aL := aL_in (tb_1 (List.mem_of_getElem? (i := 175) rfl)) rfl
theorem mw1_176 : Cond.code yJ6_bitCount_0f7a4 cJ6_bitCount_0f7a4 1 (Option.some FieldType.int) ∈ aL := aL_in (tb_1 (List.mem_of_getElem? (i := 176) rfl)) rfl
theorem mw1_177 : Cond.constant RJ6 265 (1431655765 : Int32) ∈ aL := aL_in (tb_1 (List.mem_of_getElem? (i := 177) rfl)) rfl
theorem mw1_178 : Cond.constant RJ6 266 (858993459 : Int32) ∈ aL := aL_in (tb_1 (List.mem_of_getElem? (i := 178) rfl)) rfl
theorem mw1_179 : Cond.constant RJ6 267 (252645135 : Int32) ∈ aL := aL_in (tb_1 (List.mem_of_getElem? (i := 179) rfl)) rfl
theorem mw1_180 : Cond.methodLink RL 118 yX2_isLoop ∈ aL := aL_in (tb_1 (List.mem_of_getElem? (i := 180) rfl)) rfl
theorem mw1_181 : Cond.instanceMethod yX2_isLoop ∈ aL := aL_in (tb_1 (List.mem_of_getElem? (i := 181) rfl)) rfl
theorem mw1_182 : Cond.selects RX2 yX2_isLoop yX2_isLoop ∈ aL := aL_in (tb_1 (List.mem_of_getElem? (i := 182) rfl)) rfl
theorem mw1_183 : Cond.code yX2_isLoop cX2_isLoop 3 (Option.some FieldType.boolean) ∈ aL := aL_in (tb_1 (List.mem_of_getElem? (i := 183) rfl)) rfl
theorem mw1_184 : Cond.methodLink RX2 92 yX2_hasBit ∈ aL := aL_in (tb_1 (List.mem_of_getElem? (i := 184) rfl)) rfl
theorem mw1_185 : Cond.methodLink RX2 103 yX1_pointsAfter ∈ aL := aL_in (tb_1 (List.mem_of_getElem? (i := 185) rfl)) rfl
theorem mw1_186 : Cond.methodLink RL 127 yX2_above ∈ aL := aL_in (tb_1 (List.mem_of_getElem? (i := 186) rfl)) rfl
theorem mw1_187 : Cond.instanceMethod yX2_above ∈ aL := aL_in (tb_1 (List.mem_of_getElem? (i := 187) rfl)) rfl
theorem mw1_188 : Cond.selects RX2 yX2_above yX2_above ∈ aL := aL_in (tb_1 (List.mem_of_getElem? (i := 188) rfl)) rfl
theorem mw1_189 : Cond.code yX2_above cX2_above 1 (Option.some FieldType.int) ∈ aL := aL_in (tb_1 (List.mem_of_getElem? (i := 189) rfl)) rfl
theorem mw1_190 : Cond.methodLink RX2 100 yX0_solutionsWith ∈ aL := aL_in (tb_1 (List.mem_of_getElem? (i := 190) rfl)) rfl
theorem mw1_191 : Cond.instanceMethod yX0_solutionsWith ∈ aL := aL_in (tb_1 (List.mem_of_getElem? (i := 191) rfl)) rfl
theorem mw1_192 : Cond.selects RX0 yX0_solutionsWith yX0_solutionsWith ∈ aL := aL_in (tb_1 (List.mem_of_getElem? (i := 192) rfl)) rfl
theorem mw1_193 : Cond.code yX0_solutionsWith cX0_solutionsWith 2 (Option.some FieldType.int) ∈ aL := aL_in (tb_1 (List.mem_of_getElem? (i := 193) rfl)) rfl
theorem mw1_194 : Cond.methodLink RL 131 yX2_alive ∈ aL := aL_in (tb_1 (List.mem_of_getElem? (i := 194) rfl)) rfl
theorem mw1_195 : Cond.instanceMethod yX2_alive ∈ aL := aL_in (tb_1 (List.mem_of_getElem? (i := 195) rfl)) rfl
theorem mw1_196 : Cond.selects RX2 yX2_alive yX2_alive ∈ aL := aL_in (tb_1 (List.mem_of_getElem? (i := 196) rfl)) rfl
theorem mw1_197 : Cond.code yX2_alive cX2_alive 1 (Option.some FieldType.int) ∈ aL := aL_in (tb_1 (List.mem_of_getElem? (i := 197) rfl)) rfl
theorem mw1_198 : Cond.methodLink RX2 110 yX0_aliveEdges ∈ aL := aL_in (tb_1 (List.mem_of_getElem? (i := 198) rfl)) rfl
theorem mw1_199 : Cond.instanceMethod yX0_aliveEdges ∈ aL := aL_in (tb_1 (List.mem_of_getElem? (i := 199) rfl)) rfl
theorem mw1_200 : Cond.selects RX0 yX0_aliveEdges yX0_aliveEdges ∈ aL := aL_in (tb_1 (List.mem_of_getElem? (i := 200) rfl)) rfl
theorem mw1_201 : Cond.code yX0_aliveEdges cX0_aliveEdges 4 (Option.some FieldType.int) ∈ aL := aL_in (tb_1 (List.mem_of_getElem? (i := 201) rfl)) rfl
theorem mw1_202 : Cond.methodLink RL 58 yL_cell ∈ aL := aL_in (tb_1 (List.mem_of_getElem? (i := 202) rfl)) rfl
theorem mw1_203 : Cond.static yL_cell ∈ aL := aL_in (tb_1 (List.mem_of_getElem? (i := 203) rfl)) rfl
theorem mw1_204 : Cond.code yL_cell method_2_code 2 (Option.some FieldType.int) ∈ aL := aL_in (tb_1 (List.mem_of_getElem? (i := 204) rfl)) rfl
theorem mw1_205 : Cond.methodLink RL 74 yL_point ∈ aL := aL_in (tb_1 (List.mem_of_getElem? (i := 205) rfl)) rfl
theorem mw1_206 : Cond.static yL_point ∈ aL := aL_in (tb_1 (List.mem_of_getElem? (i := 206) rfl)) rfl
theorem mw1_207 : Cond.codeWith yL_point method_3_code 5 (Option.some FieldType.int) [(0, 10, 13, 13)] ∈ aL := aL_in (tb_1 (List.mem_of_getElem? (i := 207) rfl)) rfl
theorem mw1_208 : Cond.classLink RL 13 "java/lang/IndexOutOfBoundsException" ∈ aL := aL_in (tb_1 (List.mem_of_getElem? (i := 208) rfl)) rfl
theorem mw1_209 : Cond.methodLink RL 7 yX2_point ∈ aL := aL_in (tb_1 (List.mem_of_getElem? (i := 209) rfl)) rfl
theorem mw1_210 : Cond.instanceMethod yX2_point ∈ aL := aL_in (tb_1 (List.mem_of_getElem? (i := 210) rfl)) rfl
theorem mw1_211 : Cond.selects RX2 yX2_point yX2_point ∈ aL := aL_in (tb_1 (List.mem_of_getElem? (i := 211) rfl)) rfl
theorem mw1_212 : Cond.code yX2_point cX2_point 4 (Option.some FieldType.int) ∈ aL := aL_in (tb_1 (List.mem_of_getElem? (i := 212) rfl)) rfl
theorem mw1_213 : Cond.methodLink RX2 38 yX2_isNoEdge ∈ aL := aL_in (tb_1 (List.mem_of_getElem? (i := 213) rfl)) rfl
theorem mw1_215 : Cond.instanceMethod yX2_isNoEdge ∈ aL := aL_in (tb_1 (List.mem_of_getElem? (i := 215) rfl)) rfl
theorem mw1_216 : Cond.code yX2_isNoEdge cX2_isNoEdge 2 (Option.some FieldType.boolean) ∈ aL := aL_in (tb_1 (List.mem_of_getElem? (i := 216) rfl)) rfl
theorem mw1_217 : Cond.classLink RX2 42 "java/lang/IndexOutOfBoundsException" ∈ aL := aL_in (tb_1 (List.mem_of_getElem? (i := 217) rfl)) rfl
theorem mw1_218 : Cond.instantiable "java/lang/IndexOutOfBoundsException" 6 ∈ aL := aL_in (tb_1 (List.mem_of_getElem? (i := 218) rfl)) rfl
theorem mw1_226 : Cond.selects "java/lang/IndexOutOfBoundsException" (⟨"java/lang/Throwable", "fillInStackTrace", "(I)Ljava/lang/Throwable;"⟩ : MethodName) (⟨"java/lang/Throwable", "fillInStackTrace", "(I)Ljava/lang/Throwable;"⟩ : MethodName) ∈ aL := aL_in (tb_1 (List.mem_of_getElem? (i := 226) rfl)) rfl
theorem mw1_227 : Cond.selects "java/lang/IndexOutOfBoundsException" (⟨"java/lang/Throwable", "fillInStackTrace", "()Ljava/lang/Throwable;"⟩ : MethodName) (⟨"java/lang/Throwable", "fillInStackTrace", "()Ljava/lang/Throwable;"⟩ : MethodName) ∈ aL := aL_in (tb_1 (List.mem_of_getElem? (i := 227) rfl)) rfl
theorem mw1_228 : Cond.lays "java/lang/IndexOutOfBoundsException" "java/lang/Throwable" "cause" "Ljava/lang/Throwable;" ∈ aL := aL_in (tb_1 (List.mem_of_getElem? (i := 228) rfl)) rfl
theorem mw1_229 : Cond.lays "java/lang/Throwable" "java/lang/Throwable" "cause" "Ljava/lang/Throwable;" ∈ aL := aL_in (tb_1 (List.mem_of_getElem? (i := 229) rfl)) rfl
theorem mw1_230 : Cond.lays "java/lang/IndexOutOfBoundsException" "java/lang/Throwable" "stackTrace" "[Ljava/lang/StackTraceElement;" ∈ aL := aL_in (tb_1 (List.mem_of_getElem? (i := 230) rfl)) rfl
theorem mw1_231 : Cond.lays "java/lang/Throwable" "java/lang/Throwable" "stackTrace" "[Ljava/lang/StackTraceElement;" ∈ aL := aL_in (tb_1 (List.mem_of_getElem? (i := 231) rfl)) rfl
theorem mw1_232 : Cond.lays "java/lang/IndexOutOfBoundsException" "java/lang/Throwable" "suppressedExceptions" "Ljava/util/List;" ∈ aL := aL_in (tb_1 (List.mem_of_getElem? (i := 232) rfl)) rfl
theorem mw1_233 : Cond.lays "java/lang/Throwable" "java/lang/Throwable" "suppressedExceptions" "Ljava/util/List;" ∈ aL := aL_in (tb_1 (List.mem_of_getElem? (i := 233) rfl)) rfl
theorem mw1_234 : Cond.lays "java/lang/IndexOutOfBoundsException" "java/lang/Throwable" "detailMessage" "Ljava/lang/String;" ∈ aL := aL_in (tb_1 (List.mem_of_getElem? (i := 234) rfl)) rfl
theorem mw1_235 : Cond.lays "java/lang/Throwable" "java/lang/Throwable" "detailMessage" "Ljava/lang/String;" ∈ aL := aL_in (tb_1 (List.mem_of_getElem? (i := 235) rfl)) rfl
theorem mw1_236 : Cond.lays "java/lang/IndexOutOfBoundsException" "java/lang/Throwable" "backtrace" "Ljava/lang/Object;" ∈ aL := aL_in (tb_1 (List.mem_of_getElem? (i := 236) rfl)) rfl
theorem mw1_237 : Cond.lays "java/lang/Throwable" "java/lang/Throwable" "backtrace" "Ljava/lang/Object;" ∈ aL := aL_in (tb_1 (List.mem_of_getElem? (i := 237) rfl)) rfl
theorem mw1_238 : Cond.fieldLink "java/lang/Throwable" 198 "java/lang/Throwable" "backtrace" "Ljava/lang/Object;" ∈ aL := aL_in (tb_1 (List.mem_of_getElem? (i := 238) rfl)) rfl
theorem mw2_0 : Cond.instanceMethod (⟨"java/lang/Throwable", "<init>", "()V"⟩ : MethodName) ∈ aL := aL_in (tb_2 (List.mem_of_getElem? (i := 0) rfl)) rfl
theorem mw2_1 : Cond.code (⟨"java/lang/Throwable", "<init>", "()V"⟩ : MethodName) prog_13_method_1_code 1 none ∈ aL := aL_in (tb_2 (List.mem_of_getElem? (i := 1) rfl)) rfl
theorem mw2_2 : Cond.methodLink "java/lang/Throwable" 1 (⟨"java/lang/Object", "<init>", "()V"⟩ : MethodName) ∈ aL := aL_in (tb_2 (List.mem_of_getElem? (i := 2) rfl)) rfl
theorem mw2_3 : Cond.fieldLink "java/lang/Throwable" 13 "java/lang/Throwable" "UNASSIGNED_STACK" "[Ljava/lang/StackTraceElement;" ∈ aL := aL_in (tb_2 (List.mem_of_getElem? (i := 3) rfl)) rfl
theorem mw2_5 : Cond.fieldLink "java/lang/Throwable" 20 "java/lang/Throwable" "SUPPRESSED_SENTINEL" "Ljava/util/List;" ∈ aL := aL_in (tb_2 (List.mem_of_getElem? (i := 5) rfl)) rfl
theorem mw2_7 : Cond.methodLink "java/lang/Throwable" 27 (⟨"java/lang/Throwable", "fillInStackTrace", "()Ljava/lang/Throwable;"⟩ : MethodName) ∈ aL := aL_in (tb_2 (List.mem_of_getElem? (i := 7) rfl)) rfl
theorem mw2_8 : Cond.instanceMethod (⟨"java/lang/Throwable", "fillInStackTrace", "()Ljava/lang/Throwable;"⟩ : MethodName) ∈ aL := aL_in (tb_2 (List.mem_of_getElem? (i := 8) rfl)) rfl
theorem mw2_10 : Cond.selects "java/lang/IllegalArgumentException" (⟨"java/lang/Throwable", "fillInStackTrace", "()Ljava/lang/Throwable;"⟩ : MethodName) (⟨"java/lang/Throwable", "fillInStackTrace", "()Ljava/lang/Throwable;"⟩ : MethodName) ∈ aL := aL_in (tb_2 (List.mem_of_getElem? (i := 10) rfl)) rfl
theorem mw2_11 : Cond.selects "java/lang/IllegalStateException" (⟨"java/lang/Throwable", "fillInStackTrace", "()Ljava/lang/Throwable;"⟩ : MethodName) (⟨"java/lang/Throwable", "fillInStackTrace", "()Ljava/lang/Throwable;"⟩ : MethodName) ∈ aL := aL_in (tb_2 (List.mem_of_getElem? (i := 11) rfl)) rfl
theorem mw2_12 : Cond.selects "java/util/NoSuchElementException" (⟨"java/lang/Throwable", "fillInStackTrace", "()Ljava/lang/Throwable;"⟩ : MethodName) (⟨"java/lang/Throwable", "fillInStackTrace", "()Ljava/lang/Throwable;"⟩ : MethodName) ∈ aL := aL_in (tb_2 (List.mem_of_getElem? (i := 12) rfl)) rfl
theorem mw2_14 : Cond.methodLink "java/lang/Throwable" 202 (⟨"java/lang/Throwable", "fillInStackTrace", "(I)Ljava/lang/Throwable;"⟩ : MethodName) ∈ aL := aL_in (tb_2 (List.mem_of_getElem? (i := 14) rfl)) rfl
theorem mw2_16 : Cond.instanceMethod (⟨"java/lang/Throwable", "fillInStackTrace", "(I)Ljava/lang/Throwable;"⟩ : MethodName) ∈ aL := aL_in (tb_2 (List.mem_of_getElem? (i := 16) rfl)) rfl
theorem mw2_17 : Cond.instantiable "java/lang/Throwable" 6 ∈ aL := aL_in (tb_2 (List.mem_of_getElem? (i := 17) rfl)) rfl
theorem mw2_19 : Cond.methodLink RX2 44 (⟨"java/lang/IndexOutOfBoundsException", "<init>", "()V"⟩ : MethodName) ∈ aL := aL_in (tb_2 (List.mem_of_getElem? (i := 19) rfl)) rfl
theorem mw2_20 : Cond.instanceMethod (⟨"java/lang/IndexOutOfBoundsException", "<init>", "()V"⟩ : MethodName) ∈ aL := aL_in (tb_2 (List.mem_of_getElem? (i := 20) rfl)) rfl
theorem mw2_21 : Cond.code (⟨"java/lang/IndexOutOfBoundsException", "<init>", "()V"⟩ : MethodName) prog_10_method_1_code 1 none ∈ aL := aL_in (tb_2 (List.mem_of_getElem? (i := 21) rfl)) rfl
theorem mw2_22 : Cond.methodLink "java/lang/IndexOutOfBoundsException" 1 (⟨"java/lang/RuntimeException", "<init>", "()V"⟩ : MethodName) ∈ aL := aL_in (tb_2 (List.mem_of_getElem? (i := 22) rfl)) rfl
theorem mw2_23 : Cond.instanceMethod (⟨"java/lang/RuntimeException", "<init>", "()V"⟩ : MethodName) ∈ aL := aL_in (tb_2 (List.mem_of_getElem? (i := 23) rfl)) rfl
theorem mw2_24 : Cond.code (⟨"java/lang/RuntimeException", "<init>", "()V"⟩ : MethodName) prog_12_method_1_code 1 none ∈ aL := aL_in (tb_2 (List.mem_of_getElem? (i := 24) rfl)) rfl
theorem mw2_25 : Cond.methodLink "java/lang/RuntimeException" 1 (⟨"java/lang/Exception", "<init>", "()V"⟩ : MethodName) ∈ aL := aL_in (tb_2 (List.mem_of_getElem? (i := 25) rfl)) rfl
theorem mw2_26 : Cond.instanceMethod (⟨"java/lang/Exception", "<init>", "()V"⟩ : MethodName) ∈ aL := aL_in (tb_2 (List.mem_of_getElem? (i := 26) rfl)) rfl
theorem mw2_27 : Cond.code (⟨"java/lang/Exception", "<init>", "()V"⟩ : MethodName) prog_7_method_1_code 1 none ∈ aL := aL_in (tb_2 (List.mem_of_getElem? (i := 27) rfl)) rfl
theorem mw2_28 : Cond.methodLink "java/lang/Exception" 1 (⟨"java/lang/Throwable", "<init>", "()V"⟩ : MethodName) ∈ aL := aL_in (tb_2 (List.mem_of_getElem? (i := 28) rfl)) rfl
theorem mw2_29 : Cond.fieldLink "java/lang/Throwable" 198 "java/lang/Throwable" "backtrace" "Ljava/lang/Object;" ∈ aL := aL_in (tb_2 (List.mem_of_getElem? (i := 29) rfl)) rfl
theorem mw2_30 : Cond.fieldLink "java/lang/Throwable" 7 "java/lang/Throwable" "cause" "Ljava/lang/Throwable;" ∈ aL := aL_in (tb_2 (List.mem_of_getElem? (i := 30) rfl)) rfl
theorem mw2_31 : Cond.fieldLink "java/lang/Throwable" 17 "java/lang/Throwable" "stackTrace" "[Ljava/lang/StackTraceElement;" ∈ aL := aL_in (tb_2 (List.mem_of_getElem? (i := 31) rfl)) rfl
theorem mw2_32 : Cond.fieldLink "java/lang/Throwable" 24 "java/lang/Throwable" "suppressedExceptions" "Ljava/util/List;" ∈ aL := aL_in (tb_2 (List.mem_of_getElem? (i := 32) rfl)) rfl
theorem mw2_33 : Cond.soleField "java/lang/Throwable" "backtrace" ∈ aL := aL_in (tb_2 (List.mem_of_getElem? (i := 33) rfl)) rfl
theorem mw2_34 : Cond.soleField "java/lang/Throwable" "detailMessage" ∈ aL := aL_in (tb_2 (List.mem_of_getElem? (i := 34) rfl)) rfl
theorem mw2_35 : Cond.soleField "java/lang/Throwable" "cause" ∈ aL := aL_in (tb_2 (List.mem_of_getElem? (i := 35) rfl)) rfl
theorem mw2_36 : Cond.soleField "java/lang/Throwable" "stackTrace" ∈ aL := aL_in (tb_2 (List.mem_of_getElem? (i := 36) rfl)) rfl
theorem mw2_37 : Cond.lays "java/lang/IndexOutOfBoundsException" "java/lang/Throwable" "depth" "I" ∈ aL := aL_in (tb_2 (List.mem_of_getElem? (i := 37) rfl)) rfl
theorem mw2_38 : Cond.soleField "java/lang/Throwable" "depth" ∈ aL := aL_in (tb_2 (List.mem_of_getElem? (i := 38) rfl)) rfl
theorem mw2_39 : Cond.soleField "java/lang/Throwable" "suppressedExceptions" ∈ aL := aL_in (tb_2 (List.mem_of_getElem? (i := 39) rfl)) rfl
theorem mw2_41 : Cond.methodLink RL 81 yL_clue ∈ aL := aL_in (tb_2 (List.mem_of_getElem? (i := 41) rfl)) rfl
theorem mw2_42 : Cond.static yL_clue ∈ aL := aL_in (tb_2 (List.mem_of_getElem? (i := 42) rfl)) rfl
theorem mw2_43 : Cond.codeWith yL_clue method_4_code 5 (Option.some FieldType.int) [(0, 7, 10, 13), (0, 7, 14, 19)] ∈ aL := aL_in (tb_2 (List.mem_of_getElem? (i := 43) rfl)) rfl
theorem mw2_44 : Cond.classLink RL 19 "java/lang/IllegalArgumentException" ∈ aL := aL_in (tb_2 (List.mem_of_getElem? (i := 44) rfl)) rfl
theorem mw2_45 : Cond.methodLink RL 15 yX2_clue ∈ aL := aL_in (tb_2 (List.mem_of_getElem? (i := 45) rfl)) rfl
theorem mw2_46 : Cond.instanceMethod yX2_clue ∈ aL := aL_in (tb_2 (List.mem_of_getElem? (i := 46) rfl)) rfl
theorem mw2_47 : Cond.selects RX2 yX2_clue yX2_clue ∈ aL := aL_in (tb_2 (List.mem_of_getElem? (i := 47) rfl)) rfl
theorem mw2_48 : Cond.code yX2_clue cX2_clue 4 none ∈ aL := aL_in (tb_2 (List.mem_of_getElem? (i := 48) rfl)) rfl
theorem mw2_49 : Cond.methodLink RX2 59 yX2_isNoCell ∈ aL := aL_in (tb_2 (List.mem_of_getElem? (i := 49) rfl)) rfl
theorem mw2_51 : Cond.instanceMethod yX2_isNoCell ∈ aL := aL_in (tb_2 (List.mem_of_getElem? (i := 51) rfl)) rfl
theorem mw2_52 : Cond.code yX2_isNoCell cX2_isNoCell 3 (Option.some FieldType.boolean) ∈ aL := aL_in (tb_2 (List.mem_of_getElem? (i := 52) rfl)) rfl
theorem mw2_53 : Cond.classLink RX2 63 "java/lang/IllegalArgumentException" ∈ aL := aL_in (tb_2 (List.mem_of_getElem? (i := 53) rfl)) rfl
theorem mw2_54 : Cond.instantiable "java/lang/IllegalArgumentException" 6 ∈ aL := aL_in (tb_2 (List.mem_of_getElem? (i := 54) rfl)) rfl
theorem mw2_56 : Cond.selects "java/lang/IllegalArgumentException" (⟨"java/lang/Throwable", "fillInStackTrace", "(I)Ljava/lang/Throwable;"⟩ : MethodName) (⟨"java/lang/Throwable", "fillInStackTrace", "(I)Ljava/lang/Throwable;"⟩ : MethodName) ∈ aL := aL_in (tb_2 (List.mem_of_getElem? (i := 56) rfl)) rfl
theorem mw2_57 : Cond.lays "java/lang/IllegalArgumentException" "java/lang/Throwable" "cause" "Ljava/lang/Throwable;" ∈ aL := aL_in (tb_2 (List.mem_of_getElem? (i := 57) rfl)) rfl
theorem mw2_58 : Cond.lays "java/lang/IllegalArgumentException" "java/lang/Throwable" "stackTrace" "[Ljava/lang/StackTraceElement;" ∈ aL := aL_in (tb_2 (List.mem_of_getElem? (i := 58) rfl)) rfl
theorem mw2_59 : Cond.lays "java/lang/IllegalArgumentException" "java/lang/Throwable" "suppressedExceptions" "Ljava/util/List;" ∈ aL := aL_in (tb_2 (List.mem_of_getElem? (i := 59) rfl)) rfl
theorem mw2_60 : Cond.lays "java/lang/IllegalArgumentException" "java/lang/Throwable" "detailMessage" "Ljava/lang/String;" ∈ aL := aL_in (tb_2 (List.mem_of_getElem? (i := 60) rfl)) rfl
theorem mw2_61 : Cond.lays "java/lang/IllegalArgumentException" "java/lang/Throwable" "backtrace" "Ljava/lang/Object;" ∈ aL := aL_in (tb_2 (List.mem_of_getElem? (i := 61) rfl)) rfl
theorem mw2_62 : Cond.methodLink RX2 65 (⟨"java/lang/IllegalArgumentException", "<init>", "()V"⟩ : MethodName) ∈ aL := aL_in (tb_2 (List.mem_of_getElem? (i := 62) rfl)) rfl
theorem mw2_63 : Cond.instanceMethod (⟨"java/lang/IllegalArgumentException", "<init>", "()V"⟩ : MethodName) ∈ aL := aL_in (tb_2 (List.mem_of_getElem? (i := 63) rfl)) rfl
theorem mw2_64 : Cond.code (⟨"java/lang/IllegalArgumentException", "<init>", "()V"⟩ : MethodName) prog_8_method_1_code 1 none ∈ aL := aL_in (tb_2 (List.mem_of_getElem? (i := 64) rfl)) rfl
theorem mw2_65 : Cond.methodLink "java/lang/IllegalArgumentException" 1 (⟨"java/lang/RuntimeException", "<init>", "()V"⟩ : MethodName) ∈ aL := aL_in (tb_2 (List.mem_of_getElem? (i := 65) rfl)) rfl
theorem mw2_66 : Cond.lays "java/lang/IllegalArgumentException" "java/lang/Throwable" "depth" "I" ∈ aL := aL_in (tb_2 (List.mem_of_getElem? (i := 66) rfl)) rfl
theorem mw2_68 : Cond.methodLink RX2 66 yX2_setClue ∈ aL := aL_in (tb_2 (List.mem_of_getElem? (i := 68) rfl)) rfl
theorem mw2_70 : Cond.instanceMethod yX2_setClue ∈ aL := aL_in (tb_2 (List.mem_of_getElem? (i := 70) rfl)) rfl
theorem mw2_71 : Cond.code yX2_setClue cX2_setClue 3 none ∈ aL := aL_in (tb_2 (List.mem_of_getElem? (i := 71) rfl)) rfl
theorem mw2_72 : Cond.methodLink RL 89 yL_width ∈ aL := aL_in (tb_2 (List.mem_of_getElem? (i := 72) rfl)) rfl
theorem mw2_73 : Cond.static yL_width ∈ aL := aL_in (tb_2 (List.mem_of_getElem? (i := 73) rfl)) rfl
theorem mw2_74 : Cond.codeWith yL_width method_5_code 5 (Option.some FieldType.int) [(0, 10, 13, 13)] ∈ aL := aL_in (tb_2 (List.mem_of_getElem? (i := 74) rfl)) rfl
theorem mw2_75 : Cond.methodLink RL 21 yX2_width ∈ aL := aL_in (tb_2 (List.mem_of_getElem? (i := 75) rfl)) rfl
theorem mw2_76 : Cond.instanceMethod yX2_width ∈ aL := aL_in (tb_2 (List.mem_of_getElem? (i := 76) rfl)) rfl
theorem mw2_77 : Cond.selects RX2 yX2_width yX2_width ∈ aL := aL_in (tb_2 (List.mem_of_getElem? (i := 77) rfl)) rfl
theorem mw2_78 : Cond.code yX2_width cX2_width 4 (Option.some FieldType.int) ∈ aL := aL_in (tb_2 (List.mem_of_getElem? (i := 78) rfl)) rfl
theorem mw2_79 : Cond.methodLink RX2 76 yX0_usefulAt ∈ aL := aL_in (tb_2 (List.mem_of_getElem? (i := 79) rfl)) rfl
theorem mw2_80 : Cond.instanceMethod yX0_usefulAt ∈ aL := aL_in (tb_2 (List.mem_of_getElem? (i := 80) rfl)) rfl
theorem mw2_81 : Cond.selects RX0 yX0_usefulAt yX0_usefulAt ∈ aL := aL_in (tb_2 (List.mem_of_getElem? (i := 81) rfl)) rfl
theorem mw2_82 : Cond.code yX0_usefulAt cX0_usefulAt 4 (Option.some FieldType.int) ∈ aL := aL_in (tb_2 (List.mem_of_getElem? (i := 82) rfl)) rfl
theorem mw2_83 : Cond.methodLink RL 96 yL_has ∈ aL := aL_in (tb_2 (List.mem_of_getElem? (i := 83) rfl)) rfl
theorem mw2_84 : Cond.static yL_has ∈ aL := aL_in (tb_2 (List.mem_of_getElem? (i := 84) rfl)) rfl
theorem mw2_85 : Cond.codeWith yL_has method_6_code 5 (Option.some FieldType.int) [(0, 17, 20, 28), (0, 17, 24, 13)] ∈ aL := aL_in (tb_2 (List.mem_of_getElem? (i := 85) rfl)) rfl
theorem mw2_86 : Cond.classLink RL 28 "java/util/NoSuchElementException" ∈ aL := aL_in (tb_2 (List.mem_of_getElem? (i := 86) rfl)) rfl
theorem mw2_87 : Cond.methodLink RL 24 yX2_has ∈ aL := aL_in (tb_2 (List.mem_of_getElem? (i := 87) rfl)) rfl
theorem mw2_88 : Cond.instanceMethod yX2_has ∈ aL := aL_in (tb_2 (List.mem_of_getElem? (i := 88) rfl)) rfl
theorem mw2_89 : Cond.selects RX2 yX2_has yX2_has ∈ aL := aL_in (tb_2 (List.mem_of_getElem? (i := 89) rfl)) rfl
theorem mw2_90 : Cond.code yX2_has cX2_has 4 (Option.some FieldType.boolean) ∈ aL := aL_in (tb_2 (List.mem_of_getElem? (i := 90) rfl)) rfl
theorem mw2_91 : Cond.methodLink RX2 86 yX0_solution ∈ aL := aL_in (tb_2 (List.mem_of_getElem? (i := 91) rfl)) rfl
theorem mw2_92 : Cond.instanceMethod yX0_solution ∈ aL := aL_in (tb_2 (List.mem_of_getElem? (i := 92) rfl)) rfl
theorem mw2_93 : Cond.selects RX0 yX0_solution yX0_solution ∈ aL := aL_in (tb_2 (List.mem_of_getElem? (i := 93) rfl)) rfl
theorem mw2_94 : Cond.code yX0_solution cX0_solution 7 (Option.some FieldType.int) ∈ aL := aL_in (tb_2 (List.mem_of_getElem? (i := 94) rfl)) rfl
theorem mw2_95 : Cond.classLink RX2 89 "java/util/NoSuchElementException" ∈ aL := aL_in (tb_2 (List.mem_of_getElem? (i := 95) rfl)) rfl
theorem mw2_96 : Cond.instantiable "java/util/NoSuchElementException" 6 ∈ aL := aL_in (tb_2 (List.mem_of_getElem? (i := 96) rfl)) rfl
theorem mw2_98 : Cond.selects "java/util/NoSuchElementException" (⟨"java/lang/Throwable", "fillInStackTrace", "(I)Ljava/lang/Throwable;"⟩ : MethodName) (⟨"java/lang/Throwable", "fillInStackTrace", "(I)Ljava/lang/Throwable;"⟩ : MethodName) ∈ aL := aL_in (tb_2 (List.mem_of_getElem? (i := 98) rfl)) rfl
theorem mw2_99 : Cond.lays "java/util/NoSuchElementException" "java/lang/Throwable" "cause" "Ljava/lang/Throwable;" ∈ aL := aL_in (tb_2 (List.mem_of_getElem? (i := 99) rfl)) rfl
theorem mw2_100 : Cond.lays "java/util/NoSuchElementException" "java/lang/Throwable" "stackTrace" "[Ljava/lang/StackTraceElement;" ∈ aL := aL_in (tb_2 (List.mem_of_getElem? (i := 100) rfl)) rfl
theorem mw2_101 : Cond.lays "java/util/NoSuchElementException" "java/lang/Throwable" "suppressedExceptions" "Ljava/util/List;" ∈ aL := aL_in (tb_2 (List.mem_of_getElem? (i := 101) rfl)) rfl
theorem mw2_102 : Cond.lays "java/util/NoSuchElementException" "java/lang/Throwable" "detailMessage" "Ljava/lang/String;" ∈ aL := aL_in (tb_2 (List.mem_of_getElem? (i := 102) rfl)) rfl
theorem mw2_103 : Cond.lays "java/util/NoSuchElementException" "java/lang/Throwable" "backtrace" "Ljava/lang/Object;" ∈ aL := aL_in (tb_2 (List.mem_of_getElem? (i := 103) rfl)) rfl
theorem mw2_104 : Cond.methodLink RX2 91 (⟨"java/util/NoSuchElementException", "<init>", "()V"⟩ : MethodName) ∈ aL := aL_in (tb_2 (List.mem_of_getElem? (i := 104) rfl)) rfl
theorem mw2_105 : Cond.instanceMethod (⟨"java/util/NoSuchElementException", "<init>", "()V"⟩ : MethodName) ∈ aL := aL_in (tb_2 (List.mem_of_getElem? (i := 105) rfl)) rfl
theorem mw2_106 : Cond.code (⟨"java/util/NoSuchElementException", "<init>", "()V"⟩ : MethodName) prog_14_method_1_code 1 none ∈ aL := aL_in (tb_2 (List.mem_of_getElem? (i := 106) rfl)) rfl
theorem mw2_107 : Cond.methodLink "java/util/NoSuchElementException" 1 (⟨"java/lang/RuntimeException", "<init>", "()V"⟩ : MethodName) ∈ aL := aL_in (tb_2 (List.mem_of_getElem? (i := 107) rfl)) rfl
theorem mw2_108 : Cond.lays "java/util/NoSuchElementException" "java/lang/Throwable" "depth" "I" ∈ aL := aL_in (tb_2 (List.mem_of_getElem? (i := 108) rfl)) rfl
theorem mw2_110 : Cond.methodLink RL 100 yL_length ∈ aL := aL_in (tb_2 (List.mem_of_getElem? (i := 110) rfl)) rfl
theorem mw2_111 : Cond.static yL_length ∈ aL := aL_in (tb_2 (List.mem_of_getElem? (i := 111) rfl)) rfl
theorem mw2_112 : Cond.codeWith yL_length method_7_code 4 (Option.some FieldType.int) [(0, 9, 12, 28)] ∈ aL := aL_in (tb_2 (List.mem_of_getElem? (i := 112) rfl)) rfl
theorem mw2_113 : Cond.methodLink RL 30 yX2_length ∈ aL := aL_in (tb_2 (List.mem_of_getElem? (i := 113) rfl)) rfl
theorem mw2_114 : Cond.instanceMethod yX2_length ∈ aL := aL_in (tb_2 (List.mem_of_getElem? (i := 114) rfl)) rfl
theorem mw2_115 : Cond.selects RX2 yX2_length yX2_length ∈ aL := aL_in (tb_2 (List.mem_of_getElem? (i := 115) rfl)) rfl
theorem mw2_116 : Cond.code yX2_length cX2_length 3 (Option.some FieldType.int) ∈ aL := aL_in (tb_2 (List.mem_of_getElem? (i := 116) rfl)) rfl
theorem mw2_117 : Cond.methodLink RL 104 yL_often ∈ aL := aL_in (tb_2 (List.mem_of_getElem? (i := 117) rfl)) rfl
theorem mw2_118 : Cond.static yL_often ∈ aL := aL_in (tb_2 (List.mem_of_getElem? (i := 118) rfl)) rfl
theorem mw2_119 : Cond.codeWith yL_often method_8_code 4 (Option.some FieldType.int) [(0, 9, 12, 13)] ∈ aL := aL_in (tb_2 (List.mem_of_getElem? (i := 119) rfl)) rfl
theorem mw2_120 : Cond.methodLink RL 34 yX2_often ∈ aL := aL_in (tb_2 (List.mem_of_getElem? (i := 120) rfl)) rfl
theorem mw2_121 : Cond.instanceMethod yX2_often ∈ aL := aL_in (tb_2 (List.mem_of_getElem? (i := 121) rfl)) rfl
theorem mw2_122 : Cond.selects RX2 yX2_often yX2_often ∈ aL := aL_in (tb_2 (List.mem_of_getElem? (i := 122) rfl)) rfl
theorem mw2_123 : Cond.code yX2_often cX2_often 2 (Option.some FieldType.int) ∈ aL := aL_in (tb_2 (List.mem_of_getElem? (i := 123) rfl)) rfl
theorem mw2_124 : Cond.methodLink RL 107 yL_draw ∈ aL := aL_in (tb_2 (List.mem_of_getElem? (i := 124) rfl)) rfl
theorem mw2_125 : Cond.static yL_draw ∈ aL := aL_in (tb_2 (List.mem_of_getElem? (i := 125) rfl)) rfl
theorem mw2_126 : Cond.codeWith yL_draw method_9_code 4 (Option.some FieldType.int) [(0, 16, 19, 13)] ∈ aL := aL_in (tb_2 (List.mem_of_getElem? (i := 126) rfl)) rfl
theorem mw2_127 : Cond.methodLink RL 37 yX2_draw ∈ aL := aL_in (tb_2 (List.mem_of_getElem? (i := 127) rfl)) rfl
theorem mw2_128 : Cond.instanceMethod yX2_draw ∈ aL := aL_in (tb_2 (List.mem_of_getElem? (i := 128) rfl)) rfl
theorem mw2_129 : Cond.selects RX2 yX2_draw yX2_draw ∈ aL := aL_in (tb_2 (List.mem_of_getElem? (i := 129) rfl)) rfl
theorem mw2_130 : Cond.code yX2_draw cX2_draw 2 (Option.some FieldType.boolean) ∈ aL := aL_in (tb_2 (List.mem_of_getElem? (i := 130) rfl)) rfl
theorem mw2_131 : Cond.methodLink RL 110 yL_copy ∈ aL := aL_in (tb_2 (List.mem_of_getElem? (i := 131) rfl)) rfl
theorem mw2_132 : Cond.static yL_copy ∈ aL := aL_in (tb_2 (List.mem_of_getElem? (i := 132) rfl)) rfl
theorem mw2_133 : Cond.codeWith yL_copy method_10_code 3 (Option.some FieldType.int) [(0, 5, 8, 28)] ∈ aL := aL_in (tb_2 (List.mem_of_getElem? (i := 133) rfl)) rfl
theorem mw2_134 : Cond.methodLink RL 41 yX2_copy ∈ aL := aL_in (tb_2 (List.mem_of_getElem? (i := 134) rfl)) rfl
theorem mw2_135 : Cond.instanceMethod yX2_copy ∈ aL := aL_in (tb_2 (List.mem_of_getElem? (i := 135) rfl)) rfl
theorem mw2_136 : Cond.selects RX2 yX2_copy yX2_copy ∈ aL := aL_in (tb_2 (List.mem_of_getElem? (i := 136) rfl)) rfl
theorem mw2_137 : Cond.code yX2_copy cX2_copy 3 none ∈ aL := aL_in (tb_2 (List.mem_of_getElem? (i := 137) rfl)) rfl
theorem mw2_138 : Cond.methodLink RL 123 yL_rank ∈ aL := aL_in (tb_2 (List.mem_of_getElem? (i := 138) rfl)) rfl
theorem mw2_139 : Cond.static yL_rank ∈ aL := aL_in (tb_2 (List.mem_of_getElem? (i := 139) rfl)) rfl
theorem mw2_140 : Cond.codeWith yL_rank method_11_code 3 (Option.some FieldType.int) [(0, 8, 11, 28)] ∈ aL := aL_in (tb_2 (List.mem_of_getElem? (i := 140) rfl)) rfl
theorem mw2_141 : Cond.methodLink RL 45 yX2_rank ∈ aL := aL_in (tb_2 (List.mem_of_getElem? (i := 141) rfl)) rfl
theorem mw2_142 : Cond.instanceMethod yX2_rank ∈ aL := aL_in (tb_2 (List.mem_of_getElem? (i := 142) rfl)) rfl
theorem mw2_143 : Cond.selects RX2 yX2_rank yX2_rank ∈ aL := aL_in (tb_2 (List.mem_of_getElem? (i := 143) rfl)) rfl
theorem mw2_144 : Cond.code yX2_rank cX2_rank 2 (Option.some FieldType.int) ∈ aL := aL_in (tb_2 (List.mem_of_getElem? (i := 144) rfl)) rfl
theorem mw2_145 : Cond.methodLink RX2 107 yX0_rankOf ∈ aL := aL_in (tb_2 (List.mem_of_getElem? (i := 145) rfl)) rfl
theorem mw2_146 : Cond.instanceMethod yX0_rankOf ∈ aL := aL_in (tb_2 (List.mem_of_getElem? (i := 146) rfl)) rfl
theorem mw2_147 : Cond.selects RX0 yX0_rankOf yX0_rankOf ∈ aL := aL_in (tb_2 (List.mem_of_getElem? (i := 147) rfl)) rfl
theorem mw2_148 : Cond.code yX0_rankOf cX0_rankOf 5 (Option.some FieldType.int) ∈ aL := aL_in (tb_2 (List.mem_of_getElem? (i := 148) rfl)) rfl
theorem mw2_149 : Cond.methodLink RL 135 yL_spare ∈ aL := aL_in (tb_2 (List.mem_of_getElem? (i := 149) rfl)) rfl
theorem mw2_150 : Cond.static yL_spare ∈ aL := aL_in (tb_2 (List.mem_of_getElem? (i := 150) rfl)) rfl
theorem mw2_151 : Cond.codeWith yL_spare method_12_code 3 (Option.some FieldType.int) [(0, 8, 11, 52)] ∈ aL := aL_in (tb_2 (List.mem_of_getElem? (i := 151) rfl)) rfl
theorem mw2_152 : Cond.classLink RL 52 "java/lang/IllegalStateException" ∈ aL := aL_in (tb_2 (List.mem_of_getElem? (i := 152) rfl)) rfl
theorem mw2_153 : Cond.methodLink RL 49 yX2_spare ∈ aL := aL_in (tb_2 (List.mem_of_getElem? (i := 153) rfl)) rfl
theorem mw2_154 : Cond.instanceMethod yX2_spare ∈ aL := aL_in (tb_2 (List.mem_of_getElem? (i := 154) rfl)) rfl
theorem mw2_155 : Cond.selects RX2 yX2_spare yX2_spare ∈ aL := aL_in (tb_2 (List.mem_of_getElem? (i := 155) rfl)) rfl
theorem mw2_156 : Cond.code yX2_spare cX2_spare 4 (Option.some FieldType.int) ∈ aL := aL_in (tb_2 (List.mem_of_getElem? (i := 156) rfl)) rfl
theorem mw2_157 : Cond.classLink RX2 113 "java/lang/IllegalStateException" ∈ aL := aL_in (tb_2 (List.mem_of_getElem? (i := 157) rfl)) rfl
theorem mw2_158 : Cond.instantiable "java/lang/IllegalStateException" 6 ∈ aL := aL_in (tb_2 (List.mem_of_getElem? (i := 158) rfl)) rfl
theorem mw2_160 : Cond.selects "java/lang/IllegalStateException" (⟨"java/lang/Throwable", "fillInStackTrace", "(I)Ljava/lang/Throwable;"⟩ : MethodName) (⟨"java/lang/Throwable", "fillInStackTrace", "(I)Ljava/lang/Throwable;"⟩ : MethodName) ∈ aL := aL_in (tb_2 (List.mem_of_getElem? (i := 160) rfl)) rfl
theorem mw2_161 : Cond.lays "java/lang/IllegalStateException" "java/lang/Throwable" "cause" "Ljava/lang/Throwable;" ∈ aL := aL_in (tb_2 (List.mem_of_getElem? (i := 161) rfl)) rfl
theorem mw2_162 : Cond.lays "java/lang/IllegalStateException" "java/lang/Throwable" "stackTrace" "[Ljava/lang/StackTraceElement;" ∈ aL := aL_in (tb_2 (List.mem_of_getElem? (i := 162) rfl)) rfl
theorem mw2_163 : Cond.lays "java/lang/IllegalStateException" "java/lang/Throwable" "suppressedExceptions" "Ljava/util/List;" ∈ aL := aL_in (tb_2 (List.mem_of_getElem? (i := 163) rfl)) rfl
theorem mw2_164 : Cond.lays "java/lang/IllegalStateException" "java/lang/Throwable" "detailMessage" "Ljava/lang/String;" ∈ aL := aL_in (tb_2 (List.mem_of_getElem? (i := 164) rfl)) rfl
theorem mw2_165 : Cond.lays "java/lang/IllegalStateException" "java/lang/Throwable" "backtrace" "Ljava/lang/Object;" ∈ aL := aL_in (tb_2 (List.mem_of_getElem? (i := 165) rfl)) rfl
theorem mw2_166 : Cond.methodLink RX2 115 (⟨"java/lang/IllegalStateException", "<init>", "()V"⟩ : MethodName) ∈ aL := aL_in (tb_2 (List.mem_of_getElem? (i := 166) rfl)) rfl
theorem mw2_167 : Cond.instanceMethod (⟨"java/lang/IllegalStateException", "<init>", "()V"⟩ : MethodName) ∈ aL := aL_in (tb_2 (List.mem_of_getElem? (i := 167) rfl)) rfl
theorem mw2_168 : Cond.code (⟨"java/lang/IllegalStateException", "<init>", "()V"⟩ : MethodName) prog_9_method_1_code 1 none ∈ aL := aL_in (tb_2 (List.mem_of_getElem? (i := 168) rfl)) rfl
theorem mw2_169 : Cond.methodLink "java/lang/IllegalStateException" 1 (⟨"java/lang/RuntimeException", "<init>", "()V"⟩ : MethodName) ∈ aL := aL_in (tb_2 (List.mem_of_getElem? (i := 169) rfl)) rfl
theorem mw2_170 : Cond.lays "java/lang/IllegalStateException" "java/lang/Throwable" "depth" "I" ∈ aL := aL_in (tb_2 (List.mem_of_getElem? (i := 170) rfl)) rfl
theorem mw2_172 : Cond.methodLink RL 138 yL_clueOf ∈ aL := aL_in (tb_2 (List.mem_of_getElem? (i := 172) rfl)) rfl
theorem mw2_173 : Cond.static yL_clueOf ∈ aL := aL_in (tb_2 (List.mem_of_getElem? (i := 173) rfl)) rfl
theorem mw2_174 : Cond.codeWith yL_clueOf method_13_code 5 (Option.some FieldType.int) [(0, 10, 13, 13)] ∈ aL := aL_in (tb_2 (List.mem_of_getElem? (i := 174) rfl)) rfl
theorem mw2_175 : Cond.methodLink RL 54 yX2_clueOf ∈ aL := aL_in (tb_2 (List.mem_of_getElem? (i := 175) rfl)) rfl
theorem mw2_176 : Cond.instanceMethod yX2_clueOf ∈ aL := aL_in (tb_2 (List.mem_of_getElem? (i := 176) rfl)) rfl
theorem mw2_177 : Cond.selects RX2 yX2_clueOf yX2_clueOf ∈ aL := aL_in (tb_2 (List.mem_of_getElem? (i := 177) rfl)) rfl
theorem mw2_178 : Cond.code yX2_clueOf cX2_clueOf 3 (Option.some FieldType.int) ∈ aL := aL_in (tb_2 (List.mem_of_getElem? (i := 178) rfl)) rfl
theorem mw2_179 : Cond.classLink RL 67 RX3 ∈ aL := aL_in (tb_2 (List.mem_of_getElem? (i := 179) rfl)) rfl
theorem mw2_180 : Cond.instantiable RX3 32 ∈ aL := aL_in (tb_2 (List.mem_of_getElem? (i := 180) rfl)) rfl
theorem mw2_181 : Cond.methodLink RL 69 yX3_init ∈ aL := aL_in (tb_2 (List.mem_of_getElem? (i := 181) rfl)) rfl
theorem mw2_182 : Cond.instanceMethod yX3_init ∈ aL := aL_in (tb_2 (List.mem_of_getElem? (i := 182) rfl)) rfl
theorem mw2_183 : Cond.code yX3_init cX3_init 6 none ∈ aL := aL_in (tb_2 (List.mem_of_getElem? (i := 183) rfl)) rfl
theorem mw2_184 : Cond.methodLink RX3 1 (⟨"java/lang/Object", "<init>", "()V"⟩ : MethodName) ∈ aL := aL_in (tb_2 (List.mem_of_getElem? (i := 184) rfl)) rfl
theorem mw2_185 : Cond.methodLink RX3 82 yX3_cell ∈ aL := aL_in (tb_2 (List.mem_of_getElem? (i := 185) rfl)) rfl
theorem mw2_187 : Cond.instanceMethod yX3_cell ∈ aL := aL_in (tb_2 (List.mem_of_getElem? (i := 187) rfl)) rfl
theorem mw2_188 : Cond.code yX3_cell cX3_cell 3 (Option.some FieldType.int) ∈ aL := aL_in (tb_2 (List.mem_of_getElem? (i := 188) rfl)) rfl
theorem mw2_189 : Cond.methodLink RX3 86 yX3_join ∈ aL := aL_in (tb_2 (List.mem_of_getElem? (i := 189) rfl)) rfl
theorem mw2_191 : Cond.instanceMethod yX3_join ∈ aL := aL_in (tb_2 (List.mem_of_getElem? (i := 191) rfl)) rfl
theorem mw2_192 : Cond.code yX3_join cX3_join 5 none ∈ aL := aL_in (tb_2 (List.mem_of_getElem? (i := 192) rfl)) rfl
theorem mw2_193 : Cond.methodLink RX3 96 yX3_meet ∈ aL := aL_in (tb_2 (List.mem_of_getElem? (i := 193) rfl)) rfl
theorem mw2_195 : Cond.instanceMethod yX3_meet ∈ aL := aL_in (tb_2 (List.mem_of_getElem? (i := 195) rfl)) rfl
theorem mw2_196 : Cond.code yX3_meet cX3_meet 4 none ∈ aL := aL_in (tb_2 (List.mem_of_getElem? (i := 196) rfl)) rfl
theorem mw2_197 : Cond.methodLink RX3 100 yX3_border ∈ aL := aL_in (tb_2 (List.mem_of_getElem? (i := 197) rfl)) rfl
theorem mw2_199 : Cond.instanceMethod yX3_border ∈ aL := aL_in (tb_2 (List.mem_of_getElem? (i := 199) rfl)) rfl
theorem mw2_200 : Cond.code yX3_border cX3_border 3 none ∈ aL := aL_in (tb_2 (List.mem_of_getElem? (i := 200) rfl)) rfl
theorem mw2_201 : Cond.methodLink RX3 90 yX3_findLoops ∈ aL := aL_in (tb_2 (List.mem_of_getElem? (i := 201) rfl)) rfl
theorem mw2_203 : Cond.instanceMethod yX3_findLoops ∈ aL := aL_in (tb_2 (List.mem_of_getElem? (i := 203) rfl)) rfl
theorem mw2_204 : Cond.code yX3_findLoops cX3_findLoops 5 none ∈ aL := aL_in (tb_2 (List.mem_of_getElem? (i := 204) rfl)) rfl
theorem mw2_205 : Cond.methodLink RX3 140 yX3_borderOf ∈ aL := aL_in (tb_2 (List.mem_of_getElem? (i := 205) rfl)) rfl
theorem mw2_207 : Cond.instanceMethod yX3_borderOf ∈ aL := aL_in (tb_2 (List.mem_of_getElem? (i := 207) rfl)) rfl
theorem mw2_208 : Cond.code yX3_borderOf cX3_borderOf 6 (Option.some FieldType.int) ∈ aL := aL_in (tb_2 (List.mem_of_getElem? (i := 208) rfl)) rfl
theorem mw2_209 : Cond.methodLink RX3 136 yX3_bit ∈ aL := aL_in (tb_2 (List.mem_of_getElem? (i := 209) rfl)) rfl
theorem mw2_210 : Cond.static yX3_bit ∈ aL := aL_in (tb_2 (List.mem_of_getElem? (i := 210) rfl)) rfl
theorem mw2_211 : Cond.code yX3_bit cX3_bit 1 (Option.some FieldType.int) ∈ aL := aL_in (tb_2 (List.mem_of_getElem? (i := 211) rfl)) rfl
theorem mw2_212 : Cond.methodLink RX3 143 yX3_isLoopSet ∈ aL := aL_in (tb_2 (List.mem_of_getElem? (i := 212) rfl)) rfl
theorem mw2_214 : Cond.instanceMethod yX3_isLoopSet ∈ aL := aL_in (tb_2 (List.mem_of_getElem? (i := 214) rfl)) rfl
theorem mw2_215 : Cond.code yX3_isLoopSet cX3_isLoopSet 2 (Option.some FieldType.boolean) ∈ aL := aL_in (tb_2 (List.mem_of_getElem? (i := 215) rfl)) rfl
theorem mw2_216 : Cond.methodLink RX3 128 yX3_measure ∈ aL := aL_in (tb_2 (List.mem_of_getElem? (i := 216) rfl)) rfl
theorem mw2_218 : Cond.instanceMethod yX3_measure ∈ aL := aL_in (tb_2 (List.mem_of_getElem? (i := 218) rfl)) rfl
theorem mw2_219 : Cond.code yX3_measure cX3_measure 3 none ∈ aL := aL_in (tb_2 (List.mem_of_getElem? (i := 219) rfl)) rfl
theorem mw2_220 : Cond.methodLink RX3 106 yX3_isIn ∈ aL := aL_in (tb_2 (List.mem_of_getElem? (i := 220) rfl)) rfl
theorem mw2_221 : Cond.static yX3_isIn ∈ aL := aL_in (tb_2 (List.mem_of_getElem? (i := 221) rfl)) rfl
theorem mw2_222 : Cond.code yX3_isIn cX3_isIn 2 (Option.some FieldType.boolean) ∈ aL := aL_in (tb_2 (List.mem_of_getElem? (i := 222) rfl)) rfl
theorem mw2_223 : Cond.methodLink RX3 132 yX3_isRing ∈ aL := aL_in (tb_2 (List.mem_of_getElem? (i := 223) rfl)) rfl
theorem mw2_225 : Cond.instanceMethod yX3_isRing ∈ aL := aL_in (tb_2 (List.mem_of_getElem? (i := 225) rfl)) rfl
theorem mw2_226 : Cond.code yX3_isRing cX3_isRing 3 (Option.some FieldType.boolean) ∈ aL := aL_in (tb_2 (List.mem_of_getElem? (i := 226) rfl)) rfl
theorem mw2_227 : Cond.methodLink RX3 114 yX3_unseen ∈ aL := aL_in (tb_2 (List.mem_of_getElem? (i := 227) rfl)) rfl
theorem mw2_229 : Cond.instanceMethod yX3_unseen ∈ aL := aL_in (tb_2 (List.mem_of_getElem? (i := 229) rfl)) rfl
theorem mw2_230 : Cond.code yX3_unseen cX3_unseen 2 (Option.some FieldType.int) ∈ aL := aL_in (tb_2 (List.mem_of_getElem? (i := 230) rfl)) rfl
theorem mw2_231 : Cond.methodLink RX3 118 yX3_isThin ∈ aL := aL_in (tb_2 (List.mem_of_getElem? (i := 231) rfl)) rfl
theorem mw2_233 : Cond.instanceMethod yX3_isThin ∈ aL := aL_in (tb_2 (List.mem_of_getElem? (i := 233) rfl)) rfl
theorem mw2_234 : Cond.code yX3_isThin cX3_isThin 3 (Option.some FieldType.boolean) ∈ aL := aL_in (tb_2 (List.mem_of_getElem? (i := 234) rfl)) rfl
theorem mw2_235 : Cond.methodLink RX3 122 yX3_hasEnds ∈ aL := aL_in (tb_2 (List.mem_of_getElem? (i := 235) rfl)) rfl
theorem mw2_237 : Cond.instanceMethod yX3_hasEnds ∈ aL := aL_in (tb_2 (List.mem_of_getElem? (i := 237) rfl)) rfl
theorem mw2_238 : Cond.code yX3_hasEnds cX3_hasEnds 3 (Option.some FieldType.boolean) ∈ aL := aL_in (tb_2 (List.mem_of_getElem? (i := 238) rfl)) rfl
theorem mw2_239 : Cond.methodLink RX3 125 yX3_walk ∈ aL := aL_in (tb_2 (List.mem_of_getElem? (i := 239) rfl)) rfl
theorem mw3_1 : Cond.instanceMethod yX3_walk ∈ aL := aL_in (tb_3 (List.mem_of_getElem? (i := 1) rfl)) rfl
theorem mw3_2 : Cond.code yX3_walk cX3_walk 6 (Option.some FieldType.int) ∈ aL := aL_in (tb_3 (List.mem_of_getElem? (i := 2) rfl)) rfl
theorem mw3_3 : Cond.methodLink RX3 110 yX3_onward ∈ aL := aL_in (tb_3 (List.mem_of_getElem? (i := 3) rfl)) rfl
theorem mw3_5 : Cond.instanceMethod yX3_onward ∈ aL := aL_in (tb_3 (List.mem_of_getElem? (i := 5) rfl)) rfl
theorem mw3_6 : Cond.code yX3_onward cX3_onward 5 (Option.some FieldType.int) ∈ aL := aL_in (tb_3 (List.mem_of_getElem? (i := 6) rfl)) rfl
theorem mw3_7 : Cond.fieldLink RX3 103 "LoopDiagramModel" "thrown" "I" ∈ aL := aL_in (tb_3 (List.mem_of_getElem? (i := 7) rfl)) rfl
theorem mw3_8 : Cond.fieldLink RX3 72 "LoopDiagramModel" "rows" "I" ∈ aL := aL_in (tb_3 (List.mem_of_getElem? (i := 8) rfl)) rfl
theorem mw3_9 : Cond.fieldLink RX3 76 "LoopDiagramModel" "columns" "I" ∈ aL := aL_in (tb_3 (List.mem_of_getElem? (i := 9) rfl)) rfl
theorem mw3_10 : Cond.fieldLink RX3 79 "LoopDiagramModel" "points" "I" ∈ aL := aL_in (tb_3 (List.mem_of_getElem? (i := 10) rfl)) rfl
theorem mw3_11 : Cond.fieldLink RX3 93 "LoopDiagramModel" "count" "I" ∈ aL := aL_in (tb_3 (List.mem_of_getElem? (i := 11) rfl)) rfl
theorem mw3_12 : Cond.fieldLink RX3 7 "LoopDiagramModel" "low" "[I" ∈ aL := aL_in (tb_3 (List.mem_of_getElem? (i := 12) rfl)) rfl
theorem mw3_13 : Cond.fieldLink RX3 13 "LoopDiagramModel" "high" "[I" ∈ aL := aL_in (tb_3 (List.mem_of_getElem? (i := 13) rfl)) rfl
theorem mw3_14 : Cond.fieldLink RX3 16 "LoopDiagramModel" "one" "[I" ∈ aL := aL_in (tb_3 (List.mem_of_getElem? (i := 14) rfl)) rfl
theorem mw3_15 : Cond.fieldLink RX3 19 "LoopDiagramModel" "other" "[I" ∈ aL := aL_in (tb_3 (List.mem_of_getElem? (i := 15) rfl)) rfl
theorem mw3_16 : Cond.fieldLink RX3 22 "LoopDiagramModel" "ends" "[I" ∈ aL := aL_in (tb_3 (List.mem_of_getElem? (i := 16) rfl)) rfl
theorem mw3_17 : Cond.fieldLink RX3 25 "LoopDiagramModel" "first" "[I" ∈ aL := aL_in (tb_3 (List.mem_of_getElem? (i := 17) rfl)) rfl
theorem mw3_18 : Cond.fieldLink RX3 28 "LoopDiagramModel" "last" "[I" ∈ aL := aL_in (tb_3 (List.mem_of_getElem? (i := 18) rfl)) rfl
theorem mw3_19 : Cond.fieldLink RX3 31 "LoopDiagramModel" "cellFirst" "[I" ∈ aL := aL_in (tb_3 (List.mem_of_getElem? (i := 19) rfl)) rfl
theorem mw3_20 : Cond.fieldLink RX3 34 "LoopDiagramModel" "cellLast" "[I" ∈ aL := aL_in (tb_3 (List.mem_of_getElem? (i := 20) rfl)) rfl
theorem mw3_21 : Cond.fieldLink RX3 146 "LoopDiagramModel" "loops" "I" ∈ aL := aL_in (tb_3 (List.mem_of_getElem? (i := 21) rfl)) rfl
theorem mw3_22 : Cond.fieldLink RX3 37 "LoopDiagramModel" "loop" "[I" ∈ aL := aL_in (tb_3 (List.mem_of_getElem? (i := 22) rfl)) rfl
theorem mw3_23 : Cond.fieldLink RX3 40 "LoopDiagramModel" "clues" "[I" ∈ aL := aL_in (tb_3 (List.mem_of_getElem? (i := 23) rfl)) rfl
theorem mw3_24 : Cond.fieldLink RX3 152 "LoopDiagramModel" "known" "Z" ∈ aL := aL_in (tb_3 (List.mem_of_getElem? (i := 24) rfl)) rfl
theorem mw3_25 : Cond.fieldLink RX3 159 "LoopDiagramModel" "solutions" "I" ∈ aL := aL_in (tb_3 (List.mem_of_getElem? (i := 25) rfl)) rfl
theorem mw3_26 : Cond.fieldLink RX3 43 "LoopDiagramModel" "solution" "[I" ∈ aL := aL_in (tb_3 (List.mem_of_getElem? (i := 26) rfl)) rfl
theorem mw3_27 : Cond.fieldLink RX3 156 "LoopDiagramModel" "measured" "Z" ∈ aL := aL_in (tb_3 (List.mem_of_getElem? (i := 27) rfl)) rfl
theorem mw3_28 : Cond.fieldLink RX3 46 "LoopDiagramModel" "wide" "[I" ∈ aL := aL_in (tb_3 (List.mem_of_getElem? (i := 28) rfl)) rfl
theorem mw3_29 : Cond.fieldLink RX3 49 "LoopDiagramModel" "useful" "[I" ∈ aL := aL_in (tb_3 (List.mem_of_getElem? (i := 29) rfl)) rfl
theorem mw3_30 : Cond.fieldLink RX3 184 "LoopDiagramModel" "held" "I" ∈ aL := aL_in (tb_3 (List.mem_of_getElem? (i := 30) rfl)) rfl
theorem mw3_31 : Cond.fieldLink RX3 52 "LoopDiagramModel" "hold" "[I" ∈ aL := aL_in (tb_3 (List.mem_of_getElem? (i := 31) rfl)) rfl
theorem mw3_32 : Cond.fieldLink RX3 178 "LoopDiagramModel" "next" "I" ∈ aL := aL_in (tb_3 (List.mem_of_getElem? (i := 32) rfl)) rfl
theorem mw3_33 : Cond.fieldLink RX3 55 "LoopDiagramModel" "nextHold" "[I" ∈ aL := aL_in (tb_3 (List.mem_of_getElem? (i := 33) rfl)) rfl
theorem mw3_34 : Cond.fieldLink RX3 58 "LoopDiagramModel" "keys" "[J" ∈ aL := aL_in (tb_3 (List.mem_of_getElem? (i := 34) rfl)) rfl
theorem mw3_35 : Cond.fieldLink RX3 62 "LoopDiagramModel" "table" "[I" ∈ aL := aL_in (tb_3 (List.mem_of_getElem? (i := 35) rfl)) rfl
theorem mw3_36 : Cond.fieldLink RX3 211 "LoopDiagramModel" "drawing" "I" ∈ aL := aL_in (tb_3 (List.mem_of_getElem? (i := 36) rfl)) rfl
theorem mw3_37 : Cond.fieldLink RX3 65 "LoopDiagramModel" "degree" "[I" ∈ aL := aL_in (tb_3 (List.mem_of_getElem? (i := 37) rfl)) rfl
theorem mw3_38 : Cond.fieldLink RX3 68 "LoopDiagramModel" "seen" "[Z" ∈ aL := aL_in (tb_3 (List.mem_of_getElem? (i := 38) rfl)) rfl
theorem mw3_39 : Cond.lays RX3 RX3 "thrown" "I" ∈ aL := aL_in (tb_3 (List.mem_of_getElem? (i := 39) rfl)) rfl
theorem mw3_40 : Cond.soleField RX3 "thrown" ∈ aL := aL_in (tb_3 (List.mem_of_getElem? (i := 40) rfl)) rfl
theorem mw3_41 : Cond.lays RX3 RX3 "rows" "I" ∈ aL := aL_in (tb_3 (List.mem_of_getElem? (i := 41) rfl)) rfl
theorem mw3_42 : Cond.soleField RX3 "rows" ∈ aL := aL_in (tb_3 (List.mem_of_getElem? (i := 42) rfl)) rfl
theorem mw3_43 : Cond.lays RX3 RX3 "columns" "I" ∈ aL := aL_in (tb_3 (List.mem_of_getElem? (i := 43) rfl)) rfl
theorem mw3_44 : Cond.soleField RX3 "columns" ∈ aL := aL_in (tb_3 (List.mem_of_getElem? (i := 44) rfl)) rfl
theorem mw3_45 : Cond.lays RX3 RX3 "points" "I" ∈ aL := aL_in (tb_3 (List.mem_of_getElem? (i := 45) rfl)) rfl
theorem mw3_46 : Cond.soleField RX3 "points" ∈ aL := aL_in (tb_3 (List.mem_of_getElem? (i := 46) rfl)) rfl
theorem mw3_47 : Cond.lays RX3 RX3 "count" "I" ∈ aL := aL_in (tb_3 (List.mem_of_getElem? (i := 47) rfl)) rfl
theorem mw3_48 : Cond.soleField RX3 "count" ∈ aL := aL_in (tb_3 (List.mem_of_getElem? (i := 48) rfl)) rfl
theorem mw3_49 : Cond.laysFinal RX3 RX3 "low" "[I" ∈ aL := aL_in (tb_3 (List.mem_of_getElem? (i := 49) rfl)) rfl
theorem mw3_50 : Cond.soleField RX3 "low" ∈ aL := aL_in (tb_3 (List.mem_of_getElem? (i := 50) rfl)) rfl
theorem mw3_51 : Cond.laysFinal RX3 RX3 "high" "[I" ∈ aL := aL_in (tb_3 (List.mem_of_getElem? (i := 51) rfl)) rfl
theorem mw3_52 : Cond.soleField RX3 "high" ∈ aL := aL_in (tb_3 (List.mem_of_getElem? (i := 52) rfl)) rfl
theorem mw3_53 : Cond.laysFinal RX3 RX3 "one" "[I" ∈ aL := aL_in (tb_3 (List.mem_of_getElem? (i := 53) rfl)) rfl
theorem mw3_54 : Cond.soleField RX3 "one" ∈ aL := aL_in (tb_3 (List.mem_of_getElem? (i := 54) rfl)) rfl
theorem mw3_55 : Cond.laysFinal RX3 RX3 "other" "[I" ∈ aL := aL_in (tb_3 (List.mem_of_getElem? (i := 55) rfl)) rfl
theorem mw3_56 : Cond.soleField RX3 "other" ∈ aL := aL_in (tb_3 (List.mem_of_getElem? (i := 56) rfl)) rfl
theorem mw3_57 : Cond.laysFinal RX3 RX3 "ends" "[I" ∈ aL := aL_in (tb_3 (List.mem_of_getElem? (i := 57) rfl)) rfl
theorem mw3_58 : Cond.soleField RX3 "ends" ∈ aL := aL_in (tb_3 (List.mem_of_getElem? (i := 58) rfl)) rfl
theorem mw3_59 : Cond.laysFinal RX3 RX3 "first" "[I" ∈ aL := aL_in (tb_3 (List.mem_of_getElem? (i := 59) rfl)) rfl
theorem mw3_60 : Cond.soleField RX3 "first" ∈ aL := aL_in (tb_3 (List.mem_of_getElem? (i := 60) rfl)) rfl
theorem mw3_61 : Cond.laysFinal RX3 RX3 "last" "[I" ∈ aL := aL_in (tb_3 (List.mem_of_getElem? (i := 61) rfl)) rfl
theorem mw3_62 : Cond.soleField RX3 "last" ∈ aL := aL_in (tb_3 (List.mem_of_getElem? (i := 62) rfl)) rfl
theorem mw3_63 : Cond.laysFinal RX3 RX3 "cellFirst" "[I" ∈ aL := aL_in (tb_3 (List.mem_of_getElem? (i := 63) rfl)) rfl
theorem mw3_64 : Cond.soleField RX3 "cellFirst" ∈ aL := aL_in (tb_3 (List.mem_of_getElem? (i := 64) rfl)) rfl
theorem mw3_65 : Cond.laysFinal RX3 RX3 "cellLast" "[I" ∈ aL := aL_in (tb_3 (List.mem_of_getElem? (i := 65) rfl)) rfl
theorem mw3_66 : Cond.soleField RX3 "cellLast" ∈ aL := aL_in (tb_3 (List.mem_of_getElem? (i := 66) rfl)) rfl
theorem mw3_67 : Cond.lays RX3 RX3 "loops" "I" ∈ aL := aL_in (tb_3 (List.mem_of_getElem? (i := 67) rfl)) rfl
theorem mw3_68 : Cond.soleField RX3 "loops" ∈ aL := aL_in (tb_3 (List.mem_of_getElem? (i := 68) rfl)) rfl
theorem mw3_69 : Cond.laysFinal RX3 RX3 "loop" "[I" ∈ aL := aL_in (tb_3 (List.mem_of_getElem? (i := 69) rfl)) rfl
theorem mw3_70 : Cond.soleField RX3 "loop" ∈ aL := aL_in (tb_3 (List.mem_of_getElem? (i := 70) rfl)) rfl
theorem mw3_71 : Cond.laysFinal RX3 RX3 "clues" "[I" ∈ aL := aL_in (tb_3 (List.mem_of_getElem? (i := 71) rfl)) rfl
theorem mw3_72 : Cond.soleField RX3 "clues" ∈ aL := aL_in (tb_3 (List.mem_of_getElem? (i := 72) rfl)) rfl
theorem mw3_73 : Cond.lays RX3 RX3 "known" "Z" ∈ aL := aL_in (tb_3 (List.mem_of_getElem? (i := 73) rfl)) rfl
theorem mw3_74 : Cond.soleField RX3 "known" ∈ aL := aL_in (tb_3 (List.mem_of_getElem? (i := 74) rfl)) rfl
theorem mw3_75 : Cond.lays RX3 RX3 "solutions" "I" ∈ aL := aL_in (tb_3 (List.mem_of_getElem? (i := 75) rfl)) rfl
theorem mw3_76 : Cond.soleField RX3 "solutions" ∈ aL := aL_in (tb_3 (List.mem_of_getElem? (i := 76) rfl)) rfl
theorem mw3_77 : Cond.laysFinal RX3 RX3 "solution" "[I" ∈ aL := aL_in (tb_3 (List.mem_of_getElem? (i := 77) rfl)) rfl
theorem mw3_78 : Cond.soleField RX3 "solution" ∈ aL := aL_in (tb_3 (List.mem_of_getElem? (i := 78) rfl)) rfl
theorem mw3_79 : Cond.lays RX3 RX3 "measured" "Z" ∈ aL := aL_in (tb_3 (List.mem_of_getElem? (i := 79) rfl)) rfl
theorem mw3_80 : Cond.soleField RX3 "measured" ∈ aL := aL_in (tb_3 (List.mem_of_getElem? (i := 80) rfl)) rfl
theorem mw3_81 : Cond.laysFinal RX3 RX3 "wide" "[I" ∈ aL := aL_in (tb_3 (List.mem_of_getElem? (i := 81) rfl)) rfl
theorem mw3_82 : Cond.soleField RX3 "wide" ∈ aL := aL_in (tb_3 (List.mem_of_getElem? (i := 82) rfl)) rfl
theorem mw3_83 : Cond.laysFinal RX3 RX3 "useful" "[I" ∈ aL := aL_in (tb_3 (List.mem_of_getElem? (i := 83) rfl)) rfl
theorem mw3_84 : Cond.soleField RX3 "useful" ∈ aL := aL_in (tb_3 (List.mem_of_getElem? (i := 84) rfl)) rfl
theorem mw3_85 : Cond.lays RX3 RX3 "held" "I" ∈ aL := aL_in (tb_3 (List.mem_of_getElem? (i := 85) rfl)) rfl
theorem mw3_86 : Cond.soleField RX3 "held" ∈ aL := aL_in (tb_3 (List.mem_of_getElem? (i := 86) rfl)) rfl
theorem mw3_87 : Cond.laysFinal RX3 RX3 "hold" "[I" ∈ aL := aL_in (tb_3 (List.mem_of_getElem? (i := 87) rfl)) rfl
theorem mw3_88 : Cond.soleField RX3 "hold" ∈ aL := aL_in (tb_3 (List.mem_of_getElem? (i := 88) rfl)) rfl
theorem mw3_89 : Cond.lays RX3 RX3 "next" "I" ∈ aL := aL_in (tb_3 (List.mem_of_getElem? (i := 89) rfl)) rfl
theorem mw3_90 : Cond.soleField RX3 "next" ∈ aL := aL_in (tb_3 (List.mem_of_getElem? (i := 90) rfl)) rfl
theorem mw3_91 : Cond.laysFinal RX3 RX3 "nextHold" "[I" ∈ aL := aL_in (tb_3 (List.mem_of_getElem? (i := 91) rfl)) rfl
theorem mw3_92 : Cond.soleField RX3 "nextHold" ∈ aL := aL_in (tb_3 (List.mem_of_getElem? (i := 92) rfl)) rfl
theorem mw3_93 : Cond.laysFinal RX3 RX3 "keys" "[J" ∈ aL := aL_in (tb_3 (List.mem_of_getElem? (i := 93) rfl)) rfl
theorem mw3_94 : Cond.soleField RX3 "keys" ∈ aL := aL_in (tb_3 (List.mem_of_getElem? (i := 94) rfl)) rfl
theorem mw3_95 : Cond.laysFinal RX3 RX3 "table" "[I" ∈ aL := aL_in (tb_3 (List.mem_of_getElem? (i := 95) rfl)) rfl
theorem mw3_96 : Cond.soleField RX3 "table" ∈ aL := aL_in (tb_3 (List.mem_of_getElem? (i := 96) rfl)) rfl
theorem mw3_97 : Cond.lays RX3 RX3 "drawing" "I" ∈ aL := aL_in (tb_3 (List.mem_of_getElem? (i := 97) rfl)) rfl
theorem mw3_98 : Cond.soleField RX3 "drawing" ∈ aL := aL_in (tb_3 (List.mem_of_getElem? (i := 98) rfl)) rfl
theorem mw3_99 : Cond.laysFinal RX3 RX3 "degree" "[I" ∈ aL := aL_in (tb_3 (List.mem_of_getElem? (i := 99) rfl)) rfl
theorem mw3_100 : Cond.soleField RX3 "degree" ∈ aL := aL_in (tb_3 (List.mem_of_getElem? (i := 100) rfl)) rfl
theorem mw3_101 : Cond.laysFinal RX3 RX3 "seen" "[Z" ∈ aL := aL_in (tb_3 (List.mem_of_getElem? (i := 101) rfl)) rfl
theorem mw3_102 : Cond.soleField RX3 "seen" ∈ aL := aL_in (tb_3 (List.mem_of_getElem? (i := 102) rfl)) rfl
theorem mw3_104 : Cond.arrayClass FieldType.long ∈ aL := aL_in (tb_3 (List.mem_of_getElem? (i := 104) rfl)) rfl
theorem mw3_105 : Cond.methodLink RL 78 yX3_thrown ∈ aL := aL_in (tb_3 (List.mem_of_getElem? (i := 105) rfl)) rfl
theorem mw3_106 : Cond.instanceMethod yX3_thrown ∈ aL := aL_in (tb_3 (List.mem_of_getElem? (i := 106) rfl)) rfl
theorem mw3_107 : Cond.selects RX3 yX3_thrown yX3_thrown ∈ aL := aL_in (tb_3 (List.mem_of_getElem? (i := 107) rfl)) rfl
theorem mw3_108 : Cond.code yX3_thrown cX3_thrown 1 (Option.some FieldType.int) ∈ aL := aL_in (tb_3 (List.mem_of_getElem? (i := 108) rfl)) rfl
theorem mw3_109 : Cond.methodLink RL 73 yX3_edges ∈ aL := aL_in (tb_3 (List.mem_of_getElem? (i := 109) rfl)) rfl
theorem mw3_110 : Cond.instanceMethod yX3_edges ∈ aL := aL_in (tb_3 (List.mem_of_getElem? (i := 110) rfl)) rfl
theorem mw3_111 : Cond.selects RX3 yX3_edges yX3_edges ∈ aL := aL_in (tb_3 (List.mem_of_getElem? (i := 111) rfl)) rfl
theorem mw3_112 : Cond.code yX3_edges cX3_edges 1 (Option.some FieldType.int) ∈ aL := aL_in (tb_3 (List.mem_of_getElem? (i := 112) rfl)) rfl
theorem mw3_113 : Cond.methodLink RL 77 yX3_point ∈ aL := aL_in (tb_3 (List.mem_of_getElem? (i := 113) rfl)) rfl
theorem mw3_114 : Cond.instanceMethod yX3_point ∈ aL := aL_in (tb_3 (List.mem_of_getElem? (i := 114) rfl)) rfl
theorem mw3_115 : Cond.selects RX3 yX3_point yX3_point ∈ aL := aL_in (tb_3 (List.mem_of_getElem? (i := 115) rfl)) rfl
theorem mw3_116 : Cond.code yX3_point cX3_point 3 (Option.some FieldType.int) ∈ aL := aL_in (tb_3 (List.mem_of_getElem? (i := 116) rfl)) rfl
theorem mw3_117 : Cond.methodLink RX3 196 yX3_isEdge ∈ aL := aL_in (tb_3 (List.mem_of_getElem? (i := 117) rfl)) rfl
theorem mw3_119 : Cond.instanceMethod yX3_isEdge ∈ aL := aL_in (tb_3 (List.mem_of_getElem? (i := 119) rfl)) rfl
theorem mw3_120 : Cond.code yX3_isEdge cX3_isEdge 2 (Option.some FieldType.boolean) ∈ aL := aL_in (tb_3 (List.mem_of_getElem? (i := 120) rfl)) rfl
theorem mw3_121 : Cond.methodLink RL 84 yX3_clue ∈ aL := aL_in (tb_3 (List.mem_of_getElem? (i := 121) rfl)) rfl
theorem mw3_122 : Cond.instanceMethod yX3_clue ∈ aL := aL_in (tb_3 (List.mem_of_getElem? (i := 122) rfl)) rfl
theorem mw3_123 : Cond.selects RX3 yX3_clue yX3_clue ∈ aL := aL_in (tb_3 (List.mem_of_getElem? (i := 123) rfl)) rfl
theorem mw3_124 : Cond.code yX3_clue cX3_clue 5 none ∈ aL := aL_in (tb_3 (List.mem_of_getElem? (i := 124) rfl)) rfl
theorem mw3_125 : Cond.methodLink RL 140 yX3_clueOf ∈ aL := aL_in (tb_3 (List.mem_of_getElem? (i := 125) rfl)) rfl
theorem mw3_126 : Cond.instanceMethod yX3_clueOf ∈ aL := aL_in (tb_3 (List.mem_of_getElem? (i := 126) rfl)) rfl
theorem mw3_127 : Cond.selects RX3 yX3_clueOf yX3_clueOf ∈ aL := aL_in (tb_3 (List.mem_of_getElem? (i := 127) rfl)) rfl
theorem mw3_128 : Cond.code yX3_clueOf cX3_clueOf 4 (Option.some FieldType.int) ∈ aL := aL_in (tb_3 (List.mem_of_getElem? (i := 128) rfl)) rfl
theorem mw3_129 : Cond.methodLink RL 88 yX3_count ∈ aL := aL_in (tb_3 (List.mem_of_getElem? (i := 129) rfl)) rfl
theorem mw3_130 : Cond.instanceMethod yX3_count ∈ aL := aL_in (tb_3 (List.mem_of_getElem? (i := 130) rfl)) rfl
theorem mw3_131 : Cond.selects RX3 yX3_count yX3_count ∈ aL := aL_in (tb_3 (List.mem_of_getElem? (i := 131) rfl)) rfl
theorem mw3_132 : Cond.code yX3_count cX3_count 1 (Option.some FieldType.int) ∈ aL := aL_in (tb_3 (List.mem_of_getElem? (i := 132) rfl)) rfl
theorem mw3_133 : Cond.methodLink RX3 181 yX3_find ∈ aL := aL_in (tb_3 (List.mem_of_getElem? (i := 133) rfl)) rfl
theorem mw3_135 : Cond.instanceMethod yX3_find ∈ aL := aL_in (tb_3 (List.mem_of_getElem? (i := 135) rfl)) rfl
theorem mw3_136 : Cond.code yX3_find cX3_find 2 none ∈ aL := aL_in (tb_3 (List.mem_of_getElem? (i := 136) rfl)) rfl
theorem mw3_137 : Cond.methodLink RX3 162 yX3_keepsClues ∈ aL := aL_in (tb_3 (List.mem_of_getElem? (i := 137) rfl)) rfl
theorem mw3_139 : Cond.instanceMethod yX3_keepsClues ∈ aL := aL_in (tb_3 (List.mem_of_getElem? (i := 139) rfl)) rfl
theorem mw3_140 : Cond.code yX3_keepsClues cX3_keepsClues 3 (Option.some FieldType.boolean) ∈ aL := aL_in (tb_3 (List.mem_of_getElem? (i := 140) rfl)) rfl
theorem mw3_141 : Cond.methodLink RX3 149 yX3_sides ∈ aL := aL_in (tb_3 (List.mem_of_getElem? (i := 141) rfl)) rfl
theorem mw3_143 : Cond.instanceMethod yX3_sides ∈ aL := aL_in (tb_3 (List.mem_of_getElem? (i := 143) rfl)) rfl
theorem mw3_144 : Cond.code yX3_sides cX3_sides 5 (Option.some FieldType.int) ∈ aL := aL_in (tb_3 (List.mem_of_getElem? (i := 144) rfl)) rfl
theorem mw3_145 : Cond.methodLink RL 91 yX3_width ∈ aL := aL_in (tb_3 (List.mem_of_getElem? (i := 145) rfl)) rfl
theorem mw3_146 : Cond.instanceMethod yX3_width ∈ aL := aL_in (tb_3 (List.mem_of_getElem? (i := 146) rfl)) rfl
theorem mw3_147 : Cond.selects RX3 yX3_width yX3_width ∈ aL := aL_in (tb_3 (List.mem_of_getElem? (i := 147) rfl)) rfl
theorem mw3_148 : Cond.code yX3_width cX3_width 3 (Option.some FieldType.int) ∈ aL := aL_in (tb_3 (List.mem_of_getElem? (i := 148) rfl)) rfl
theorem mw3_149 : Cond.methodLink RX3 199 yX3_measureLevels ∈ aL := aL_in (tb_3 (List.mem_of_getElem? (i := 149) rfl)) rfl
theorem mw3_151 : Cond.instanceMethod yX3_measureLevels ∈ aL := aL_in (tb_3 (List.mem_of_getElem? (i := 151) rfl)) rfl
theorem mw3_152 : Cond.code yX3_measureLevels cX3_measureLevels 3 none ∈ aL := aL_in (tb_3 (List.mem_of_getElem? (i := 152) rfl)) rfl
theorem mw3_153 : Cond.methodLink RX3 187 yX3_wipe ∈ aL := aL_in (tb_3 (List.mem_of_getElem? (i := 153) rfl)) rfl
theorem mw3_155 : Cond.instanceMethod yX3_wipe ∈ aL := aL_in (tb_3 (List.mem_of_getElem? (i := 155) rfl)) rfl
theorem mw3_156 : Cond.code yX3_wipe cX3_wipe 2 none ∈ aL := aL_in (tb_3 (List.mem_of_getElem? (i := 156) rfl)) rfl
theorem mw3_157 : Cond.methodLink RX3 190 yX3_isUseful ∈ aL := aL_in (tb_3 (List.mem_of_getElem? (i := 157) rfl)) rfl
theorem mw3_159 : Cond.instanceMethod yX3_isUseful ∈ aL := aL_in (tb_3 (List.mem_of_getElem? (i := 159) rfl)) rfl
theorem mw3_160 : Cond.code yX3_isUseful cX3_isUseful 6 (Option.some FieldType.boolean) ∈ aL := aL_in (tb_3 (List.mem_of_getElem? (i := 160) rfl)) rfl
theorem mw3_161 : Cond.methodLink RX3 193 yX3_offer ∈ aL := aL_in (tb_3 (List.mem_of_getElem? (i := 161) rfl)) rfl
theorem mw3_163 : Cond.instanceMethod yX3_offer ∈ aL := aL_in (tb_3 (List.mem_of_getElem? (i := 163) rfl)) rfl
theorem mw3_164 : Cond.code yX3_offer cX3_offer 6 none ∈ aL := aL_in (tb_3 (List.mem_of_getElem? (i := 164) rfl)) rfl
theorem mw3_165 : Cond.methodLink RX3 169 yX3_isAlive ∈ aL := aL_in (tb_3 (List.mem_of_getElem? (i := 165) rfl)) rfl
theorem mw3_167 : Cond.instanceMethod yX3_isAlive ∈ aL := aL_in (tb_3 (List.mem_of_getElem? (i := 167) rfl)) rfl
theorem mw3_168 : Cond.code yX3_isAlive cX3_isAlive 6 (Option.some FieldType.boolean) ∈ aL := aL_in (tb_3 (List.mem_of_getElem? (i := 168) rfl)) rfl
theorem mw3_169 : Cond.methodLink RX3 165 yX3_isCellAlive ∈ aL := aL_in (tb_3 (List.mem_of_getElem? (i := 169) rfl)) rfl
theorem mw3_171 : Cond.instanceMethod yX3_isCellAlive ∈ aL := aL_in (tb_3 (List.mem_of_getElem? (i := 171) rfl)) rfl
theorem mw3_172 : Cond.code yX3_isCellAlive cX3_isCellAlive 5 (Option.some FieldType.boolean) ∈ aL := aL_in (tb_3 (List.mem_of_getElem? (i := 172) rfl)) rfl
theorem mw3_173 : Cond.methodLink RX3 172 yX3_trace ∈ aL := aL_in (tb_3 (List.mem_of_getElem? (i := 173) rfl)) rfl
theorem mw3_175 : Cond.instanceMethod yX3_trace ∈ aL := aL_in (tb_3 (List.mem_of_getElem? (i := 175) rfl)) rfl
theorem mw3_176 : Cond.code yX3_trace cX3_trace 7 (Option.some FieldType.long) ∈ aL := aL_in (tb_3 (List.mem_of_getElem? (i := 176) rfl)) rfl
theorem mw3_177 : Cond.constantLong RX3 176 (-7046029254386353131 : Int64) ∈ aL := aL_in (tb_3 (List.mem_of_getElem? (i := 177) rfl)) rfl
theorem mw3_178 : Cond.methodLink RL 95 yX3_nodes ∈ aL := aL_in (tb_3 (List.mem_of_getElem? (i := 178) rfl)) rfl
theorem mw3_179 : Cond.instanceMethod yX3_nodes ∈ aL := aL_in (tb_3 (List.mem_of_getElem? (i := 179) rfl)) rfl
theorem mw3_180 : Cond.selects RX3 yX3_nodes yX3_nodes ∈ aL := aL_in (tb_3 (List.mem_of_getElem? (i := 180) rfl)) rfl
theorem mw3_181 : Cond.code yX3_nodes cX3_nodes 3 (Option.some FieldType.int) ∈ aL := aL_in (tb_3 (List.mem_of_getElem? (i := 181) rfl)) rfl
theorem mw3_182 : Cond.methodLink RL 99 yX3_has ∈ aL := aL_in (tb_3 (List.mem_of_getElem? (i := 182) rfl)) rfl
theorem mw3_183 : Cond.instanceMethod yX3_has ∈ aL := aL_in (tb_3 (List.mem_of_getElem? (i := 183) rfl)) rfl
theorem mw3_184 : Cond.selects RX3 yX3_has yX3_has ∈ aL := aL_in (tb_3 (List.mem_of_getElem? (i := 184) rfl)) rfl
theorem mw3_185 : Cond.code yX3_has cX3_has 3 (Option.some FieldType.boolean) ∈ aL := aL_in (tb_3 (List.mem_of_getElem? (i := 185) rfl)) rfl
theorem mw3_186 : Cond.methodLink RX3 202 yX3_isSolution ∈ aL := aL_in (tb_3 (List.mem_of_getElem? (i := 186) rfl)) rfl
theorem mw3_188 : Cond.instanceMethod yX3_isSolution ∈ aL := aL_in (tb_3 (List.mem_of_getElem? (i := 188) rfl)) rfl
theorem mw3_189 : Cond.code yX3_isSolution cX3_isSolution 2 (Option.some FieldType.boolean) ∈ aL := aL_in (tb_3 (List.mem_of_getElem? (i := 189) rfl)) rfl
theorem mw3_190 : Cond.methodLink RL 103 yX3_length ∈ aL := aL_in (tb_3 (List.mem_of_getElem? (i := 190) rfl)) rfl
theorem mw3_191 : Cond.instanceMethod yX3_length ∈ aL := aL_in (tb_3 (List.mem_of_getElem? (i := 191) rfl)) rfl
theorem mw3_192 : Cond.selects RX3 yX3_length yX3_length ∈ aL := aL_in (tb_3 (List.mem_of_getElem? (i := 192) rfl)) rfl
theorem mw3_193 : Cond.code yX3_length cX3_length 2 (Option.some FieldType.int) ∈ aL := aL_in (tb_3 (List.mem_of_getElem? (i := 193) rfl)) rfl
theorem mw3_194 : Cond.methodLink RX3 205 yX3_size ∈ aL := aL_in (tb_3 (List.mem_of_getElem? (i := 194) rfl)) rfl
theorem mw3_196 : Cond.instanceMethod yX3_size ∈ aL := aL_in (tb_3 (List.mem_of_getElem? (i := 196) rfl)) rfl
theorem mw3_197 : Cond.code yX3_size cX3_size 4 (Option.some FieldType.int) ∈ aL := aL_in (tb_3 (List.mem_of_getElem? (i := 197) rfl)) rfl
theorem mw3_198 : Cond.methodLink RL 106 yX3_often ∈ aL := aL_in (tb_3 (List.mem_of_getElem? (i := 198) rfl)) rfl
theorem mw3_199 : Cond.instanceMethod yX3_often ∈ aL := aL_in (tb_3 (List.mem_of_getElem? (i := 199) rfl)) rfl
theorem mw3_200 : Cond.selects RX3 yX3_often yX3_often ∈ aL := aL_in (tb_3 (List.mem_of_getElem? (i := 200) rfl)) rfl
theorem mw3_201 : Cond.code yX3_often cX3_often 2 (Option.some FieldType.int) ∈ aL := aL_in (tb_3 (List.mem_of_getElem? (i := 201) rfl)) rfl
theorem mw3_202 : Cond.methodLink RX3 208 yX3_withAll ∈ aL := aL_in (tb_3 (List.mem_of_getElem? (i := 202) rfl)) rfl
theorem mw3_204 : Cond.instanceMethod yX3_withAll ∈ aL := aL_in (tb_3 (List.mem_of_getElem? (i := 204) rfl)) rfl
theorem mw3_205 : Cond.code yX3_withAll cX3_withAll 4 (Option.some FieldType.int) ∈ aL := aL_in (tb_3 (List.mem_of_getElem? (i := 205) rfl)) rfl
theorem mw3_206 : Cond.methodLink RL 109 yX3_draw ∈ aL := aL_in (tb_3 (List.mem_of_getElem? (i := 206) rfl)) rfl
theorem mw3_207 : Cond.instanceMethod yX3_draw ∈ aL := aL_in (tb_3 (List.mem_of_getElem? (i := 207) rfl)) rfl
theorem mw3_208 : Cond.selects RX3 yX3_draw yX3_draw ∈ aL := aL_in (tb_3 (List.mem_of_getElem? (i := 208) rfl)) rfl
theorem mw3_209 : Cond.code yX3_draw cX3_draw 2 (Option.some FieldType.boolean) ∈ aL := aL_in (tb_3 (List.mem_of_getElem? (i := 209) rfl)) rfl
theorem mw3_210 : Cond.methodLink RL 113 yX3_copy ∈ aL := aL_in (tb_3 (List.mem_of_getElem? (i := 210) rfl)) rfl
theorem mw3_211 : Cond.instanceMethod yX3_copy ∈ aL := aL_in (tb_3 (List.mem_of_getElem? (i := 211) rfl)) rfl
theorem mw3_212 : Cond.selects RX3 yX3_copy yX3_copy ∈ aL := aL_in (tb_3 (List.mem_of_getElem? (i := 212) rfl)) rfl
theorem mw3_213 : Cond.code yX3_copy cX3_copy 2 none ∈ aL := aL_in (tb_3 (List.mem_of_getElem? (i := 213) rfl)) rfl
theorem mw3_214 : Cond.methodLink RL 117 yX3_drawn ∈ aL := aL_in (tb_3 (List.mem_of_getElem? (i := 214) rfl)) rfl
theorem mw3_215 : Cond.instanceMethod yX3_drawn ∈ aL := aL_in (tb_3 (List.mem_of_getElem? (i := 215) rfl)) rfl
theorem mw3_216 : Cond.selects RX3 yX3_drawn yX3_drawn ∈ aL := aL_in (tb_3 (List.mem_of_getElem? (i := 216) rfl)) rfl
theorem mw3_217 : Cond.code yX3_drawn cX3_drawn 1 (Option.some FieldType.int) ∈ aL := aL_in (tb_3 (List.mem_of_getElem? (i := 217) rfl)) rfl
theorem mw3_218 : Cond.methodLink RL 122 yX3_isLoop ∈ aL := aL_in (tb_3 (List.mem_of_getElem? (i := 218) rfl)) rfl
theorem mw3_219 : Cond.instanceMethod yX3_isLoop ∈ aL := aL_in (tb_3 (List.mem_of_getElem? (i := 219) rfl)) rfl
theorem mw3_220 : Cond.selects RX3 yX3_isLoop yX3_isLoop ∈ aL := aL_in (tb_3 (List.mem_of_getElem? (i := 220) rfl)) rfl
theorem mw3_221 : Cond.code yX3_isLoop cX3_isLoop 1 (Option.some FieldType.boolean) ∈ aL := aL_in (tb_3 (List.mem_of_getElem? (i := 221) rfl)) rfl
theorem mw3_222 : Cond.methodLink RL 126 yX3_rank ∈ aL := aL_in (tb_3 (List.mem_of_getElem? (i := 222) rfl)) rfl
theorem mw3_223 : Cond.instanceMethod yX3_rank ∈ aL := aL_in (tb_3 (List.mem_of_getElem? (i := 223) rfl)) rfl
theorem mw3_224 : Cond.selects RX3 yX3_rank yX3_rank ∈ aL := aL_in (tb_3 (List.mem_of_getElem? (i := 224) rfl)) rfl
theorem mw3_225 : Cond.code yX3_rank cX3_rank 2 (Option.some FieldType.int) ∈ aL := aL_in (tb_3 (List.mem_of_getElem? (i := 225) rfl)) rfl
theorem mw3_226 : Cond.methodLink RL 130 yX3_above ∈ aL := aL_in (tb_3 (List.mem_of_getElem? (i := 226) rfl)) rfl
theorem mw3_227 : Cond.instanceMethod yX3_above ∈ aL := aL_in (tb_3 (List.mem_of_getElem? (i := 227) rfl)) rfl
theorem mw3_228 : Cond.selects RX3 yX3_above yX3_above ∈ aL := aL_in (tb_3 (List.mem_of_getElem? (i := 228) rfl)) rfl
theorem mw3_229 : Cond.code yX3_above cX3_above 1 (Option.some FieldType.int) ∈ aL := aL_in (tb_3 (List.mem_of_getElem? (i := 229) rfl)) rfl
theorem mw3_230 : Cond.methodLink RL 134 yX3_alive ∈ aL := aL_in (tb_3 (List.mem_of_getElem? (i := 230) rfl)) rfl
theorem mw3_231 : Cond.instanceMethod yX3_alive ∈ aL := aL_in (tb_3 (List.mem_of_getElem? (i := 231) rfl)) rfl
theorem mw3_232 : Cond.selects RX3 yX3_alive yX3_alive ∈ aL := aL_in (tb_3 (List.mem_of_getElem? (i := 232) rfl)) rfl
theorem mw3_233 : Cond.code yX3_alive cX3_alive 4 (Option.some FieldType.int) ∈ aL := aL_in (tb_3 (List.mem_of_getElem? (i := 233) rfl)) rfl
theorem mw3_234 : Cond.methodLink RL 137 yX3_spare ∈ aL := aL_in (tb_3 (List.mem_of_getElem? (i := 234) rfl)) rfl
theorem mw3_235 : Cond.instanceMethod yX3_spare ∈ aL := aL_in (tb_3 (List.mem_of_getElem? (i := 235) rfl)) rfl
theorem mw3_236 : Cond.selects RX3 yX3_spare yX3_spare ∈ aL := aL_in (tb_3 (List.mem_of_getElem? (i := 236) rfl)) rfl
theorem mw3_237 : Cond.code yX3_spare cX3_spare 4 (Option.some FieldType.int) ∈ aL := aL_in (tb_3 (List.mem_of_getElem? (i := 237) rfl)) rfl
theorem mw3_238 : Cond.methodLink RX3 214 yX3_fail ∈ aL := aL_in (tb_3 (List.mem_of_getElem? (i := 238) rfl)) rfl
theorem mw4_0 : Cond.instanceMethod yX3_fail ∈ aL := aL_in (tb_4 (List.mem_of_getElem? (i := 0) rfl)) rfl
theorem mw4_1 : Cond.code yX3_fail cX3_fail 2 (Option.some FieldType.int) ∈ aL := aL_in (tb_4 (List.mem_of_getElem? (i := 1) rfl)) rfl
theorem msel0 : Cond.selects RX2 yX2_fresh yX2_fresh ∈ aL := aL_in (List.mem_append_left _ (List.mem_of_getElem? (i := 0) rfl)) rfl
theorem msel1 : Cond.selects RX0 yX0_nodeAfter yX0_nodeAfter ∈ aL := aL_in (List.mem_append_left _ (List.mem_of_getElem? (i := 1) rfl)) rfl
theorem msel2 : Cond.selects RX1 yX1_sideAfter yX1_sideAfter ∈ aL := aL_in (List.mem_append_left _ (List.mem_of_getElem? (i := 2) rfl)) rfl
theorem msel3 : Cond.selects RX0 yX0_fillWays yX0_fillWays ∈ aL := aL_in (List.mem_append_left _ (List.mem_of_getElem? (i := 3) rfl)) rfl
theorem msel4 : Cond.selects RX2 yX2_isNoEdge yX2_isNoEdge ∈ aL := aL_in (List.mem_append_left _ (List.mem_of_getElem? (i := 4) rfl)) rfl
theorem msel6 : Cond.selects RX2 yX2_isNoCell yX2_isNoCell ∈ aL := aL_in (List.mem_append_left _ (List.mem_of_getElem? (i := 6) rfl)) rfl
theorem msel7 : Cond.selects RX2 yX2_setClue yX2_setClue ∈ aL := aL_in (List.mem_append_left _ (List.mem_of_getElem? (i := 7) rfl)) rfl
theorem msel8 : Cond.selects RX3 yX3_cell yX3_cell ∈ aL := aL_in (List.mem_append_left _ (List.mem_of_getElem? (i := 8) rfl)) rfl
theorem msel9 : Cond.selects RX3 yX3_join yX3_join ∈ aL := aL_in (List.mem_append_left _ (List.mem_of_getElem? (i := 9) rfl)) rfl
theorem msel10 : Cond.selects RX3 yX3_meet yX3_meet ∈ aL := aL_in (List.mem_append_left _ (List.mem_of_getElem? (i := 10) rfl)) rfl
theorem msel11 : Cond.selects RX3 yX3_border yX3_border ∈ aL := aL_in (List.mem_append_left _ (List.mem_of_getElem? (i := 11) rfl)) rfl
theorem msel12 : Cond.selects RX3 yX3_findLoops yX3_findLoops ∈ aL := aL_in (List.mem_append_left _ (List.mem_of_getElem? (i := 12) rfl)) rfl
theorem msel13 : Cond.selects RX3 yX3_borderOf yX3_borderOf ∈ aL := aL_in (List.mem_append_left _ (List.mem_of_getElem? (i := 13) rfl)) rfl
theorem msel14 : Cond.selects RX3 yX3_isLoopSet yX3_isLoopSet ∈ aL := aL_in (List.mem_append_left _ (List.mem_of_getElem? (i := 14) rfl)) rfl
theorem msel15 : Cond.selects RX3 yX3_measure yX3_measure ∈ aL := aL_in (List.mem_append_left _ (List.mem_of_getElem? (i := 15) rfl)) rfl
theorem msel16 : Cond.selects RX3 yX3_isRing yX3_isRing ∈ aL := aL_in (List.mem_append_left _ (List.mem_of_getElem? (i := 16) rfl)) rfl
theorem msel17 : Cond.selects RX3 yX3_unseen yX3_unseen ∈ aL := aL_in (List.mem_append_left _ (List.mem_of_getElem? (i := 17) rfl)) rfl
theorem msel18 : Cond.selects RX3 yX3_isThin yX3_isThin ∈ aL := aL_in (List.mem_append_left _ (List.mem_of_getElem? (i := 18) rfl)) rfl
theorem msel19 : Cond.selects RX3 yX3_hasEnds yX3_hasEnds ∈ aL := aL_in (List.mem_append_left _ (List.mem_of_getElem? (i := 19) rfl)) rfl
theorem msel20 : Cond.selects RX3 yX3_walk yX3_walk ∈ aL := aL_in (List.mem_append_left _ (List.mem_of_getElem? (i := 20) rfl)) rfl
theorem msel21 : Cond.selects RX3 yX3_onward yX3_onward ∈ aL := aL_in (List.mem_append_left _ (List.mem_of_getElem? (i := 21) rfl)) rfl
theorem msel22 : Cond.selects RX3 yX3_isEdge yX3_isEdge ∈ aL := aL_in (List.mem_append_left _ (List.mem_of_getElem? (i := 22) rfl)) rfl
theorem msel23 : Cond.selects RX3 yX3_find yX3_find ∈ aL := aL_in (List.mem_append_left _ (List.mem_of_getElem? (i := 23) rfl)) rfl
theorem msel24 : Cond.selects RX3 yX3_keepsClues yX3_keepsClues ∈ aL := aL_in (List.mem_append_left _ (List.mem_of_getElem? (i := 24) rfl)) rfl
theorem msel25 : Cond.selects RX3 yX3_sides yX3_sides ∈ aL := aL_in (List.mem_append_left _ (List.mem_of_getElem? (i := 25) rfl)) rfl
theorem msel26 : Cond.selects RX3 yX3_measureLevels yX3_measureLevels ∈ aL := aL_in (List.mem_append_left _ (List.mem_of_getElem? (i := 26) rfl)) rfl
theorem msel27 : Cond.selects RX3 yX3_wipe yX3_wipe ∈ aL := aL_in (List.mem_append_left _ (List.mem_of_getElem? (i := 27) rfl)) rfl
theorem msel28 : Cond.selects RX3 yX3_isUseful yX3_isUseful ∈ aL := aL_in (List.mem_append_left _ (List.mem_of_getElem? (i := 28) rfl)) rfl
theorem msel29 : Cond.selects RX3 yX3_offer yX3_offer ∈ aL := aL_in (List.mem_append_left _ (List.mem_of_getElem? (i := 29) rfl)) rfl
theorem msel30 : Cond.selects RX3 yX3_isAlive yX3_isAlive ∈ aL := aL_in (List.mem_append_left _ (List.mem_of_getElem? (i := 30) rfl)) rfl
theorem msel31 : Cond.selects RX3 yX3_isCellAlive yX3_isCellAlive ∈ aL := aL_in (List.mem_append_left _ (List.mem_of_getElem? (i := 31) rfl)) rfl
theorem msel32 : Cond.selects RX3 yX3_trace yX3_trace ∈ aL := aL_in (List.mem_append_left _ (List.mem_of_getElem? (i := 32) rfl)) rfl
theorem msel33 : Cond.selects RX3 yX3_isSolution yX3_isSolution ∈ aL := aL_in (List.mem_append_left _ (List.mem_of_getElem? (i := 33) rfl)) rfl
theorem msel34 : Cond.selects RX3 yX3_size yX3_size ∈ aL := aL_in (List.mem_append_left _ (List.mem_of_getElem? (i := 34) rfl)) rfl
theorem msel35 : Cond.selects RX3 yX3_withAll yX3_withAll ∈ aL := aL_in (List.mem_append_left _ (List.mem_of_getElem? (i := 35) rfl)) rfl
theorem msel36 : Cond.selects RX3 yX3_fail yX3_fail ∈ aL := aL_in (List.mem_append_left _ (List.mem_of_getElem? (i := 36) rfl)) rfl
