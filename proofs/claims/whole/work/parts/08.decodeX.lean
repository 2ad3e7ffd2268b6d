theorem dX0_init_0 : decode cX0_init 0 = .ok (.aload_n 0, 1) := by decide +kernel
theorem dX0_init_1 : decode cX0_init 1 = .ok (.invokespecial 3, 3) := by decide +kernel
theorem dX0_init_4 : decode cX0_init 4 = .ok (.aload_n 0, 1) := by decide +kernel
theorem dX0_init_5 : decode cX0_init 5 = .ok (.aload_n 1, 1) := by decide +kernel
theorem dX0_init_6 : decode cX0_init 6 = .ok (.putfield 9, 3) := by decide +kernel
theorem dX0_init_9 : decode cX0_init 9 = .ok (.aload_n 0, 1) := by decide +kernel
theorem dX0_init_10 : decode cX0_init 10 = .ok (.aload_n 1, 1) := by decide +kernel
theorem dX0_init_11 : decode cX0_init 11 = .ok (.getfield 15, 3) := by decide +kernel
theorem dX0_init_14 : decode cX0_init 14 = .ok (.iconst 2, 1) := by decide +kernel
theorem dX0_init_15 : decode cX0_init 15 = .ok (.iadd, 1) := by decide +kernel
theorem dX0_init_16 : decode cX0_init 16 = .ok (.newarray .int, 2) := by decide +kernel
theorem dX0_init_18 : decode cX0_init 18 = .ok (.putfield 21, 3) := by decide +kernel
theorem dX0_init_21 : decode cX0_init 21 = .ok (.aload_n 0, 1) := by decide +kernel
theorem dX0_init_22 : decode cX0_init 22 = .ok (.iconst 0, 1) := by decide +kernel
theorem dX0_init_23 : decode cX0_init 23 = .ok (.putfield 25, 3) := by decide +kernel
theorem dX0_init_26 : decode cX0_init 26 = .ok (.aload_n 0, 1) := by decide +kernel
theorem dX0_init_27 : decode cX0_init 27 = .ok (.sipush 1014, 3) := by decide +kernel
theorem dX0_init_30 : decode cX0_init 30 = .ok (.newarray .int, 2) := by decide +kernel
theorem dX0_init_32 : decode cX0_init 32 = .ok (.putfield 28, 3) := by decide +kernel
theorem dX0_init_35 : decode cX0_init 35 = .ok (.aload_n 0, 1) := by decide +kernel
theorem dX0_init_36 : decode cX0_init 36 = .ok (.sipush 1014, 3) := by decide +kernel
theorem dX0_init_39 : decode cX0_init 39 = .ok (.newarray .int, 2) := by decide +kernel
theorem dX0_init_41 : decode cX0_init 41 = .ok (.putfield 31, 3) := by decide +kernel
theorem dX0_init_44 : decode cX0_init 44 = .ok (.aload_n 0, 1) := by decide +kernel
theorem dX0_init_45 : decode cX0_init 45 = .ok (.sipush 1014, 3) := by decide +kernel
theorem dX0_init_48 : decode cX0_init 48 = .ok (.newarray .int, 2) := by decide +kernel
theorem dX0_init_50 : decode cX0_init 50 = .ok (.putfield 34, 3) := by decide +kernel
theorem dX0_init_53 : decode cX0_init 53 = .ok (.aload_n 0, 1) := by decide +kernel
theorem dX0_init_54 : decode cX0_init 54 = .ok (.sipush 1014, 3) := by decide +kernel
theorem dX0_init_57 : decode cX0_init 57 = .ok (.newarray .int, 2) := by decide +kernel
theorem dX0_init_59 : decode cX0_init 59 = .ok (.putfield 37, 3) := by decide +kernel
theorem dX0_init_62 : decode cX0_init 62 = .ok (.aload_n 0, 1) := by decide +kernel
theorem dX0_init_63 : decode cX0_init 63 = .ok (.sipush 1014, 3) := by decide +kernel
theorem dX0_init_66 : decode cX0_init 66 = .ok (.newarray .int, 2) := by decide +kernel
theorem dX0_init_68 : decode cX0_init 68 = .ok (.putfield 40, 3) := by decide +kernel
theorem dX0_init_71 : decode cX0_init 71 = .ok (.return_, 1) := by decide +kernel
theorem dX0_grow_0 : decode cX0_grow 0 = .ok (.aload_n 0, 1) := by decide +kernel
theorem dX0_grow_1 : decode cX0_grow 1 = .ok (.getfield 21, 3) := by decide +kernel
theorem dX0_grow_4 : decode cX0_grow 4 = .ok (.iconst 0, 1) := by decide +kernel
theorem dX0_grow_5 : decode cX0_grow 5 = .ok (.iconst 0, 1) := by decide +kernel
theorem dX0_grow_6 : decode cX0_grow 6 = .ok (.iastore, 1) := by decide +kernel
theorem dX0_grow_7 : decode cX0_grow 7 = .ok (.aload_n 0, 1) := by decide +kernel
theorem dX0_grow_8 : decode cX0_grow 8 = .ok (.getfield 28, 3) := by decide +kernel
theorem dX0_grow_11 : decode cX0_grow 11 = .ok (.iconst 0, 1) := by decide +kernel
theorem dX0_grow_12 : decode cX0_grow 12 = .ok (.sipush 1672, 3) := by decide +kernel
theorem dX0_grow_15 : decode cX0_grow 15 = .ok (.iastore, 1) := by decide +kernel
theorem dX0_grow_16 : decode cX0_grow 16 = .ok (.aload_n 0, 1) := by decide +kernel
theorem dX0_grow_17 : decode cX0_grow 17 = .ok (.iconst 1, 1) := by decide +kernel
theorem dX0_grow_18 : decode cX0_grow 18 = .ok (.putfield 25, 3) := by decide +kernel
theorem dX0_grow_21 : decode cX0_grow 21 = .ok (.iconst 0, 1) := by decide +kernel
theorem dX0_grow_22 : decode cX0_grow 22 = .ok (.istore_n 1, 1) := by decide +kernel
theorem dX0_grow_23 : decode cX0_grow 23 = .ok (.iload_n 1, 1) := by decide +kernel
theorem dX0_grow_24 : decode cX0_grow 24 = .ok (.aload_n 0, 1) := by decide +kernel
theorem dX0_grow_25 : decode cX0_grow 25 = .ok (.getfield 9, 3) := by decide +kernel
theorem dX0_grow_28 : decode cX0_grow 28 = .ok (.getfield 15, 3) := by decide +kernel
theorem dX0_grow_31 : decode cX0_grow 31 = .ok (.if_icmp .ge 72, 3) := by decide +kernel
theorem dX0_grow_34 : decode cX0_grow 34 = .ok (.aload_n 0, 1) := by decide +kernel
theorem dX0_grow_35 : decode cX0_grow 35 = .ok (.getfield 21, 3) := by decide +kernel
theorem dX0_grow_38 : decode cX0_grow 38 = .ok (.iload_n 1, 1) := by decide +kernel
theorem dX0_grow_39 : decode cX0_grow 39 = .ok (.iconst 1, 1) := by decide +kernel
theorem dX0_grow_40 : decode cX0_grow 40 = .ok (.iadd, 1) := by decide +kernel
theorem dX0_grow_41 : decode cX0_grow 41 = .ok (.aload_n 0, 1) := by decide +kernel
theorem dX0_grow_42 : decode cX0_grow 42 = .ok (.getfield 25, 3) := by decide +kernel
theorem dX0_grow_45 : decode cX0_grow 45 = .ok (.iastore, 1) := by decide +kernel
theorem dX0_grow_46 : decode cX0_grow 46 = .ok (.aload_n 0, 1) := by decide +kernel
theorem dX0_grow_47 : decode cX0_grow 47 = .ok (.getfield 21, 3) := by decide +kernel
theorem dX0_grow_50 : decode cX0_grow 50 = .ok (.iload_n 1, 1) := by decide +kernel
theorem dX0_grow_51 : decode cX0_grow 51 = .ok (.iaload, 1) := by decide +kernel
theorem dX0_grow_52 : decode cX0_grow 52 = .ok (.istore_n 2, 1) := by decide +kernel
theorem dX0_grow_53 : decode cX0_grow 53 = .ok (.iload_n 2, 1) := by decide +kernel
theorem dX0_grow_54 : decode cX0_grow 54 = .ok (.aload_n 0, 1) := by decide +kernel
theorem dX0_grow_55 : decode cX0_grow 55 = .ok (.getfield 21, 3) := by decide +kernel
theorem dX0_grow_58 : decode cX0_grow 58 = .ok (.iload_n 1, 1) := by decide +kernel
theorem dX0_grow_59 : decode cX0_grow 59 = .ok (.iconst 1, 1) := by decide +kernel
theorem dX0_grow_60 : decode cX0_grow 60 = .ok (.iadd, 1) := by decide +kernel
theorem dX0_grow_61 : decode cX0_grow 61 = .ok (.iaload, 1) := by decide +kernel
theorem dX0_grow_62 : decode cX0_grow 62 = .ok (.if_icmp .ge 35, 3) := by decide +kernel
theorem dX0_grow_65 : decode cX0_grow 65 = .ok (.aload_n 0, 1) := by decide +kernel
theorem dX0_grow_66 : decode cX0_grow 66 = .ok (.getfield 31, 3) := by decide +kernel
theorem dX0_grow_69 : decode cX0_grow 69 = .ok (.iload_n 2, 1) := by decide +kernel
theorem dX0_grow_70 : decode cX0_grow 70 = .ok (.aload_n 0, 1) := by decide +kernel
theorem dX0_grow_71 : decode cX0_grow 71 = .ok (.iload_n 2, 1) := by decide +kernel
theorem dX0_grow_72 : decode cX0_grow 72 = .ok (.iload_n 1, 1) := by decide +kernel
theorem dX0_grow_73 : decode cX0_grow 73 = .ok (.iconst 0, 1) := by decide +kernel
theorem dX0_grow_74 : decode cX0_grow 74 = .ok (.invokevirtual 43, 3) := by decide +kernel
theorem dX0_grow_77 : decode cX0_grow 77 = .ok (.iastore, 1) := by decide +kernel
theorem dX0_grow_78 : decode cX0_grow 78 = .ok (.aload_n 0, 1) := by decide +kernel
theorem dX0_grow_79 : decode cX0_grow 79 = .ok (.getfield 34, 3) := by decide +kernel
theorem dX0_grow_82 : decode cX0_grow 82 = .ok (.iload_n 2, 1) := by decide +kernel
theorem dX0_grow_83 : decode cX0_grow 83 = .ok (.aload_n 0, 1) := by decide +kernel
theorem dX0_grow_84 : decode cX0_grow 84 = .ok (.iload_n 2, 1) := by decide +kernel
theorem dX0_grow_85 : decode cX0_grow 85 = .ok (.iload_n 1, 1) := by decide +kernel
theorem dX0_grow_86 : decode cX0_grow 86 = .ok (.iconst 1, 1) := by decide +kernel
theorem dX0_grow_87 : decode cX0_grow 87 = .ok (.invokevirtual 43, 3) := by decide +kernel
theorem dX0_grow_90 : decode cX0_grow 90 = .ok (.iastore, 1) := by decide +kernel
theorem dX0_grow_91 : decode cX0_grow 91 = .ok (.iinc 2 1, 3) := by decide +kernel
theorem dX0_grow_94 : decode cX0_grow 94 = .ok (.goto (-41), 3) := by decide +kernel
theorem dX0_grow_97 : decode cX0_grow 97 = .ok (.iinc 1 1, 3) := by decide +kernel
theorem dX0_grow_100 : decode cX0_grow 100 = .ok (.goto (-77), 3) := by decide +kernel
theorem dX0_grow_103 : decode cX0_grow 103 = .ok (.aload_n 0, 1) := by decide +kernel
theorem dX0_grow_104 : decode cX0_grow 104 = .ok (.getfield 21, 3) := by decide +kernel
theorem dX0_grow_107 : decode cX0_grow 107 = .ok (.aload_n 0, 1) := by decide +kernel
theorem dX0_grow_108 : decode cX0_grow 108 = .ok (.getfield 9, 3) := by decide +kernel
theorem dX0_grow_111 : decode cX0_grow 111 = .ok (.getfield 15, 3) := by decide +kernel
theorem dX0_grow_114 : decode cX0_grow 114 = .ok (.iconst 1, 1) := by decide +kernel
theorem dX0_grow_115 : decode cX0_grow 115 = .ok (.iadd, 1) := by decide +kernel
theorem dX0_grow_116 : decode cX0_grow 116 = .ok (.aload_n 0, 1) := by decide +kernel
theorem dX0_grow_117 : decode cX0_grow 117 = .ok (.getfield 25, 3) := by decide +kernel
theorem dX0_grow_120 : decode cX0_grow 120 = .ok (.iastore, 1) := by decide +kernel
theorem dX0_grow_121 : decode cX0_grow 121 = .ok (.aload_n 0, 1) := by decide +kernel
theorem dX0_grow_122 : decode cX0_grow 122 = .ok (.aload_n 0, 1) := by decide +kernel
theorem dX0_grow_123 : decode cX0_grow 123 = .ok (.getfield 37, 3) := by decide +kernel
theorem dX0_grow_126 : decode cX0_grow 126 = .ok (.iconst 0, 1) := by decide +kernel
theorem dX0_grow_127 : decode cX0_grow 127 = .ok (.invokevirtual 47, 3) := by decide +kernel
theorem dX0_grow_130 : decode cX0_grow 130 = .ok (.return_, 1) := by decide +kernel
theorem dX0_usefulAt_0 : decode cX0_usefulAt 0 = .ok (.iconst 0, 1) := by decide +kernel
theorem dX0_usefulAt_1 : decode cX0_usefulAt 1 = .ok (.istore_n 2, 1) := by decide +kernel
theorem dX0_usefulAt_2 : decode cX0_usefulAt 2 = .ok (.aload_n 0, 1) := by decide +kernel
theorem dX0_usefulAt_3 : decode cX0_usefulAt 3 = .ok (.getfield 21, 3) := by decide +kernel
theorem dX0_usefulAt_6 : decode cX0_usefulAt 6 = .ok (.iload_n 1, 1) := by decide +kernel
theorem dX0_usefulAt_7 : decode cX0_usefulAt 7 = .ok (.iaload, 1) := by decide +kernel
theorem dX0_usefulAt_8 : decode cX0_usefulAt 8 = .ok (.istore_n 3, 1) := by decide +kernel
theorem dX0_usefulAt_9 : decode cX0_usefulAt 9 = .ok (.iload_n 3, 1) := by decide +kernel
theorem dX0_usefulAt_10 : decode cX0_usefulAt 10 = .ok (.aload_n 0, 1) := by decide +kernel
theorem dX0_usefulAt_11 : decode cX0_usefulAt 11 = .ok (.getfield 21, 3) := by decide +kernel
theorem dX0_usefulAt_14 : decode cX0_usefulAt 14 = .ok (.iload_n 1, 1) := by decide +kernel
theorem dX0_usefulAt_15 : decode cX0_usefulAt 15 = .ok (.iconst 1, 1) := by decide +kernel
theorem dX0_usefulAt_16 : decode cX0_usefulAt 16 = .ok (.iadd, 1) := by decide +kernel
theorem dX0_usefulAt_17 : decode cX0_usefulAt 17 = .ok (.iaload, 1) := by decide +kernel
theorem dX0_usefulAt_18 : decode cX0_usefulAt 18 = .ok (.if_icmp .ge 21, 3) := by decide +kernel
theorem dX0_usefulAt_21 : decode cX0_usefulAt 21 = .ok (.aload_n 0, 1) := by decide +kernel
theorem dX0_usefulAt_22 : decode cX0_usefulAt 22 = .ok (.getfield 37, 3) := by decide +kernel
theorem dX0_usefulAt_25 : decode cX0_usefulAt 25 = .ok (.iload_n 3, 1) := by decide +kernel
theorem dX0_usefulAt_26 : decode cX0_usefulAt 26 = .ok (.iaload, 1) := by decide +kernel
theorem dX0_usefulAt_27 : decode cX0_usefulAt 27 = .ok (.ifCond .le 6, 3) := by decide +kernel
theorem dX0_usefulAt_30 : decode cX0_usefulAt 30 = .ok (.iinc 2 1, 3) := by decide +kernel
theorem dX0_usefulAt_33 : decode cX0_usefulAt 33 = .ok (.iinc 3 1, 3) := by decide +kernel
theorem dX0_usefulAt_36 : decode cX0_usefulAt 36 = .ok (.goto (-27), 3) := by decide +kernel
theorem dX0_usefulAt_39 : decode cX0_usefulAt 39 = .ok (.iload_n 2, 1) := by decide +kernel
theorem dX0_usefulAt_40 : decode cX0_usefulAt 40 = .ok (.ireturn, 1) := by decide +kernel
theorem dX0_solutionsWith_0 : decode cX0_solutionsWith 0 = .ok (.aload_n 0, 1) := by decide +kernel
theorem dX0_solutionsWith_1 : decode cX0_solutionsWith 1 = .ok (.aload_n 0, 1) := by decide +kernel
theorem dX0_solutionsWith_2 : decode cX0_solutionsWith 2 = .ok (.getfield 40, 3) := by decide +kernel
theorem dX0_solutionsWith_5 : decode cX0_solutionsWith 5 = .ok (.iload_n 1, 1) := by decide +kernel
theorem dX0_solutionsWith_6 : decode cX0_solutionsWith 6 = .ok (.invokevirtual 47, 3) := by decide +kernel
theorem dX0_solutionsWith_9 : decode cX0_solutionsWith 9 = .ok (.aload_n 0, 1) := by decide +kernel
theorem dX0_solutionsWith_10 : decode cX0_solutionsWith 10 = .ok (.getfield 40, 3) := by decide +kernel
theorem dX0_solutionsWith_13 : decode cX0_solutionsWith 13 = .ok (.iconst 0, 1) := by decide +kernel
theorem dX0_solutionsWith_14 : decode cX0_solutionsWith 14 = .ok (.iaload, 1) := by decide +kernel
theorem dX0_solutionsWith_15 : decode cX0_solutionsWith 15 = .ok (.ireturn, 1) := by decide +kernel
theorem dX0_solution_0 : decode cX0_solution 0 = .ok (.iload_n 1, 1) := by decide +kernel
theorem dX0_solution_1 : decode cX0_solution 1 = .ok (.ifCond .lt 13, 3) := by decide +kernel
theorem dX0_solution_4 : decode cX0_solution 4 = .ok (.iload_n 1, 1) := by decide +kernel
theorem dX0_solution_5 : decode cX0_solution 5 = .ok (.aload_n 0, 1) := by decide +kernel
theorem dX0_solution_6 : decode cX0_solution 6 = .ok (.getfield 37, 3) := by decide +kernel
theorem dX0_solution_9 : decode cX0_solution 9 = .ok (.iconst 0, 1) := by decide +kernel
theorem dX0_solution_10 : decode cX0_solution 10 = .ok (.iaload, 1) := by decide +kernel
theorem dX0_solution_11 : decode cX0_solution 11 = .ok (.if_icmp .lt 5, 3) := by decide +kernel
theorem dX0_solution_14 : decode cX0_solution 14 = .ok (.iconst 0, 1) := by decide +kernel
theorem dX0_solution_15 : decode cX0_solution 15 = .ok (.ireturn, 1) := by decide +kernel
theorem dX0_solution_16 : decode cX0_solution 16 = .ok (.iconst 0, 1) := by decide +kernel
theorem dX0_solution_17 : decode cX0_solution 17 = .ok (.istore_n 2, 1) := by decide +kernel
theorem dX0_solution_18 : decode cX0_solution 18 = .ok (.iload_n 1, 1) := by decide +kernel
theorem dX0_solution_19 : decode cX0_solution 19 = .ok (.istore_n 3, 1) := by decide +kernel
theorem dX0_solution_20 : decode cX0_solution 20 = .ok (.iconst 0, 1) := by decide +kernel
theorem dX0_solution_21 : decode cX0_solution 21 = .ok (.istore 4, 2) := by decide +kernel
theorem dX0_solution_23 : decode cX0_solution 23 = .ok (.iconst 0, 1) := by decide +kernel
theorem dX0_solution_24 : decode cX0_solution 24 = .ok (.istore 5, 2) := by decide +kernel
theorem dX0_solution_26 : decode cX0_solution 26 = .ok (.iload 5, 2) := by decide +kernel
theorem dX0_solution_28 : decode cX0_solution 28 = .ok (.aload_n 0, 1) := by decide +kernel
theorem dX0_solution_29 : decode cX0_solution 29 = .ok (.getfield 9, 3) := by decide +kernel
theorem dX0_solution_32 : decode cX0_solution 32 = .ok (.getfield 15, 3) := by decide +kernel
theorem dX0_solution_35 : decode cX0_solution 35 = .ok (.if_icmp .ge 70, 3) := by decide +kernel
theorem dX0_solution_38 : decode cX0_solution 38 = .ok (.iload 4, 2) := by decide +kernel
theorem dX0_solution_40 : decode cX0_solution 40 = .ok (.iconst (-1), 1) := by decide +kernel
theorem dX0_solution_41 : decode cX0_solution 41 = .ok (.if_icmp .eq 64, 3) := by decide +kernel
theorem dX0_solution_44 : decode cX0_solution 44 = .ok (.aload_n 0, 1) := by decide +kernel
theorem dX0_solution_45 : decode cX0_solution 45 = .ok (.getfield 37, 3) := by decide +kernel
theorem dX0_solution_48 : decode cX0_solution 48 = .ok (.aload_n 0, 1) := by decide +kernel
theorem dX0_solution_49 : decode cX0_solution 49 = .ok (.getfield 31, 3) := by decide +kernel
theorem dX0_solution_52 : decode cX0_solution 52 = .ok (.iload 4, 2) := by decide +kernel
theorem dX0_solution_54 : decode cX0_solution 54 = .ok (.iaload, 1) := by decide +kernel
theorem dX0_solution_55 : decode cX0_solution 55 = .ok (.invokestatic 51, 3) := by decide +kernel
theorem dX0_solution_58 : decode cX0_solution 58 = .ok (.istore 6, 2) := by decide +kernel
theorem dX0_solution_60 : decode cX0_solution 60 = .ok (.iload_n 3, 1) := by decide +kernel
theorem dX0_solution_61 : decode cX0_solution 61 = .ok (.iload 6, 2) := by decide +kernel
theorem dX0_solution_63 : decode cX0_solution 63 = .ok (.if_icmp .ge 15, 3) := by decide +kernel
theorem dX0_solution_66 : decode cX0_solution 66 = .ok (.aload_n 0, 1) := by decide +kernel
theorem dX0_solution_67 : decode cX0_solution 67 = .ok (.getfield 31, 3) := by decide +kernel
theorem dX0_solution_70 : decode cX0_solution 70 = .ok (.iload 4, 2) := by decide +kernel
theorem dX0_solution_72 : decode cX0_solution 72 = .ok (.iaload, 1) := by decide +kernel
theorem dX0_solution_73 : decode cX0_solution 73 = .ok (.istore 4, 2) := by decide +kernel
theorem dX0_solution_75 : decode cX0_solution 75 = .ok (.goto 24, 3) := by decide +kernel
theorem dX0_solution_78 : decode cX0_solution 78 = .ok (.iload_n 3, 1) := by decide +kernel
theorem dX0_solution_79 : decode cX0_solution 79 = .ok (.iload 6, 2) := by decide +kernel
theorem dX0_solution_81 : decode cX0_solution 81 = .ok (.isub, 1) := by decide +kernel
theorem dX0_solution_82 : decode cX0_solution 82 = .ok (.istore_n 3, 1) := by decide +kernel
theorem dX0_solution_83 : decode cX0_solution 83 = .ok (.iload_n 2, 1) := by decide +kernel
theorem dX0_solution_84 : decode cX0_solution 84 = .ok (.iconst 1, 1) := by decide +kernel
theorem dX0_solution_85 : decode cX0_solution 85 = .ok (.iload 5, 2) := by decide +kernel
theorem dX0_solution_87 : decode cX0_solution 87 = .ok (.ishl, 1) := by decide +kernel
theorem dX0_solution_88 : decode cX0_solution 88 = .ok (.ior, 1) := by decide +kernel
theorem dX0_solution_89 : decode cX0_solution 89 = .ok (.istore_n 2, 1) := by decide +kernel
theorem dX0_solution_90 : decode cX0_solution 90 = .ok (.aload_n 0, 1) := by decide +kernel
theorem dX0_solution_91 : decode cX0_solution 91 = .ok (.getfield 34, 3) := by decide +kernel
theorem dX0_solution_94 : decode cX0_solution 94 = .ok (.iload 4, 2) := by decide +kernel
theorem dX0_solution_96 : decode cX0_solution 96 = .ok (.iaload, 1) := by decide +kernel
theorem dX0_solution_97 : decode cX0_solution 97 = .ok (.istore 4, 2) := by decide +kernel
theorem dX0_solution_99 : decode cX0_solution 99 = .ok (.iinc 5 1, 3) := by decide +kernel
theorem dX0_solution_102 : decode cX0_solution 102 = .ok (.goto (-76), 3) := by decide +kernel
theorem dX0_solution_105 : decode cX0_solution 105 = .ok (.iload_n 2, 1) := by decide +kernel
theorem dX0_solution_106 : decode cX0_solution 106 = .ok (.ireturn, 1) := by decide +kernel
theorem dX0_rankOf_0 : decode cX0_rankOf 0 = .ok (.iconst 0, 1) := by decide +kernel
theorem dX0_rankOf_1 : decode cX0_rankOf 1 = .ok (.istore_n 2, 1) := by decide +kernel
theorem dX0_rankOf_2 : decode cX0_rankOf 2 = .ok (.iconst 0, 1) := by decide +kernel
theorem dX0_rankOf_3 : decode cX0_rankOf 3 = .ok (.istore_n 3, 1) := by decide +kernel
theorem dX0_rankOf_4 : decode cX0_rankOf 4 = .ok (.iconst 0, 1) := by decide +kernel
theorem dX0_rankOf_5 : decode cX0_rankOf 5 = .ok (.istore 4, 2) := by decide +kernel
theorem dX0_rankOf_7 : decode cX0_rankOf 7 = .ok (.iload 4, 2) := by decide +kernel
theorem dX0_rankOf_9 : decode cX0_rankOf 9 = .ok (.aload_n 0, 1) := by decide +kernel
theorem dX0_rankOf_10 : decode cX0_rankOf 10 = .ok (.getfield 9, 3) := by decide +kernel
theorem dX0_rankOf_13 : decode cX0_rankOf 13 = .ok (.getfield 15, 3) := by decide +kernel
theorem dX0_rankOf_16 : decode cX0_rankOf 16 = .ok (.if_icmp .ge 56, 3) := by decide +kernel
theorem dX0_rankOf_19 : decode cX0_rankOf 19 = .ok (.iload_n 3, 1) := by decide +kernel
theorem dX0_rankOf_20 : decode cX0_rankOf 20 = .ok (.iconst (-1), 1) := by decide +kernel
theorem dX0_rankOf_21 : decode cX0_rankOf 21 = .ok (.if_icmp .eq 51, 3) := by decide +kernel
theorem dX0_rankOf_24 : decode cX0_rankOf 24 = .ok (.iload_n 1, 1) := by decide +kernel
theorem dX0_rankOf_25 : decode cX0_rankOf 25 = .ok (.iload 4, 2) := by decide +kernel
theorem dX0_rankOf_27 : decode cX0_rankOf 27 = .ok (.invokestatic 55, 3) := by decide +kernel
theorem dX0_rankOf_30 : decode cX0_rankOf 30 = .ok (.ifCond .eq 29, 3) := by decide +kernel
theorem dX0_rankOf_33 : decode cX0_rankOf 33 = .ok (.iload_n 2, 1) := by decide +kernel
theorem dX0_rankOf_34 : decode cX0_rankOf 34 = .ok (.aload_n 0, 1) := by decide +kernel
theorem dX0_rankOf_35 : decode cX0_rankOf 35 = .ok (.getfield 37, 3) := by decide +kernel
theorem dX0_rankOf_38 : decode cX0_rankOf 38 = .ok (.aload_n 0, 1) := by decide +kernel
theorem dX0_rankOf_39 : decode cX0_rankOf 39 = .ok (.getfield 31, 3) := by decide +kernel
theorem dX0_rankOf_42 : decode cX0_rankOf 42 = .ok (.iload_n 3, 1) := by decide +kernel
theorem dX0_rankOf_43 : decode cX0_rankOf 43 = .ok (.iaload, 1) := by decide +kernel
theorem dX0_rankOf_44 : decode cX0_rankOf 44 = .ok (.invokestatic 51, 3) := by decide +kernel
theorem dX0_rankOf_47 : decode cX0_rankOf 47 = .ok (.iadd, 1) := by decide +kernel
theorem dX0_rankOf_48 : decode cX0_rankOf 48 = .ok (.istore_n 2, 1) := by decide +kernel
theorem dX0_rankOf_49 : decode cX0_rankOf 49 = .ok (.aload_n 0, 1) := by decide +kernel
theorem dX0_rankOf_50 : decode cX0_rankOf 50 = .ok (.getfield 34, 3) := by decide +kernel
theorem dX0_rankOf_53 : decode cX0_rankOf 53 = .ok (.iload_n 3, 1) := by decide +kernel
theorem dX0_rankOf_54 : decode cX0_rankOf 54 = .ok (.iaload, 1) := by decide +kernel
theorem dX0_rankOf_55 : decode cX0_rankOf 55 = .ok (.istore_n 3, 1) := by decide +kernel
theorem dX0_rankOf_56 : decode cX0_rankOf 56 = .ok (.goto 10, 3) := by decide +kernel
theorem dX0_rankOf_59 : decode cX0_rankOf 59 = .ok (.aload_n 0, 1) := by decide +kernel
theorem dX0_rankOf_60 : decode cX0_rankOf 60 = .ok (.getfield 31, 3) := by decide +kernel
theorem dX0_rankOf_63 : decode cX0_rankOf 63 = .ok (.iload_n 3, 1) := by decide +kernel
theorem dX0_rankOf_64 : decode cX0_rankOf 64 = .ok (.iaload, 1) := by decide +kernel
theorem dX0_rankOf_65 : decode cX0_rankOf 65 = .ok (.istore_n 3, 1) := by decide +kernel
theorem dX0_rankOf_66 : decode cX0_rankOf 66 = .ok (.iinc 4 1, 3) := by decide +kernel
theorem dX0_rankOf_69 : decode cX0_rankOf 69 = .ok (.goto (-62), 3) := by decide +kernel
theorem dX0_rankOf_72 : decode cX0_rankOf 72 = .ok (.iload_n 3, 1) := by decide +kernel
theorem dX0_rankOf_73 : decode cX0_rankOf 73 = .ok (.iconst (-1), 1) := by decide +kernel
theorem dX0_rankOf_74 : decode cX0_rankOf 74 = .ok (.if_icmp .ne 7, 3) := by decide +kernel
theorem dX0_rankOf_77 : decode cX0_rankOf 77 = .ok (.iconst (-1), 1) := by decide +kernel
theorem dX0_rankOf_78 : decode cX0_rankOf 78 = .ok (.goto 4, 3) := by decide +kernel
theorem dX0_rankOf_81 : decode cX0_rankOf 81 = .ok (.iload_n 2, 1) := by decide +kernel
theorem dX0_rankOf_82 : decode cX0_rankOf 82 = .ok (.ireturn, 1) := by decide +kernel
theorem dX0_aliveEdges_0 : decode cX0_aliveEdges 0 = .ok (.iconst 0, 1) := by decide +kernel
theorem dX0_aliveEdges_1 : decode cX0_aliveEdges 1 = .ok (.istore_n 2, 1) := by decide +kernel
theorem dX0_aliveEdges_2 : decode cX0_aliveEdges 2 = .ok (.iconst 0, 1) := by decide +kernel
theorem dX0_aliveEdges_3 : decode cX0_aliveEdges 3 = .ok (.istore_n 3, 1) := by decide +kernel
theorem dX0_aliveEdges_4 : decode cX0_aliveEdges 4 = .ok (.iload_n 3, 1) := by decide +kernel
theorem dX0_aliveEdges_5 : decode cX0_aliveEdges 5 = .ok (.aload_n 0, 1) := by decide +kernel
theorem dX0_aliveEdges_6 : decode cX0_aliveEdges 6 = .ok (.getfield 9, 3) := by decide +kernel
theorem dX0_aliveEdges_9 : decode cX0_aliveEdges 9 = .ok (.getfield 15, 3) := by decide +kernel
theorem dX0_aliveEdges_12 : decode cX0_aliveEdges 12 = .ok (.if_icmp .ge 40, 3) := by decide +kernel
theorem dX0_aliveEdges_15 : decode cX0_aliveEdges 15 = .ok (.iload_n 1, 1) := by decide +kernel
theorem dX0_aliveEdges_16 : decode cX0_aliveEdges 16 = .ok (.iload_n 3, 1) := by decide +kernel
theorem dX0_aliveEdges_17 : decode cX0_aliveEdges 17 = .ok (.invokestatic 55, 3) := by decide +kernel
theorem dX0_aliveEdges_20 : decode cX0_aliveEdges 20 = .ok (.ifCond .eq 12, 3) := by decide +kernel
theorem dX0_aliveEdges_23 : decode cX0_aliveEdges 23 = .ok (.aload_n 0, 1) := by decide +kernel
theorem dX0_aliveEdges_24 : decode cX0_aliveEdges 24 = .ok (.getfield 34, 3) := by decide +kernel
theorem dX0_aliveEdges_27 : decode cX0_aliveEdges 27 = .ok (.iload_n 2, 1) := by decide +kernel
theorem dX0_aliveEdges_28 : decode cX0_aliveEdges 28 = .ok (.iaload, 1) := by decide +kernel
theorem dX0_aliveEdges_29 : decode cX0_aliveEdges 29 = .ok (.goto 9, 3) := by decide +kernel
theorem dX0_aliveEdges_32 : decode cX0_aliveEdges 32 = .ok (.aload_n 0, 1) := by decide +kernel
theorem dX0_aliveEdges_33 : decode cX0_aliveEdges 33 = .ok (.getfield 31, 3) := by decide +kernel
theorem dX0_aliveEdges_36 : decode cX0_aliveEdges 36 = .ok (.iload_n 2, 1) := by decide +kernel
theorem dX0_aliveEdges_37 : decode cX0_aliveEdges 37 = .ok (.iaload, 1) := by decide +kernel
theorem dX0_aliveEdges_38 : decode cX0_aliveEdges 38 = .ok (.istore_n 2, 1) := by decide +kernel
theorem dX0_aliveEdges_39 : decode cX0_aliveEdges 39 = .ok (.iload_n 2, 1) := by decide +kernel
theorem dX0_aliveEdges_40 : decode cX0_aliveEdges 40 = .ok (.iconst (-1), 1) := by decide +kernel
theorem dX0_aliveEdges_41 : decode cX0_aliveEdges 41 = .ok (.if_icmp .ne 5, 3) := by decide +kernel
theorem dX0_aliveEdges_44 : decode cX0_aliveEdges 44 = .ok (.iload_n 3, 1) := by decide +kernel
theorem dX0_aliveEdges_45 : decode cX0_aliveEdges 45 = .ok (.ireturn, 1) := by decide +kernel
theorem dX0_aliveEdges_46 : decode cX0_aliveEdges 46 = .ok (.iinc 3 1, 3) := by decide +kernel
theorem dX0_aliveEdges_49 : decode cX0_aliveEdges 49 = .ok (.goto (-45), 3) := by decide +kernel
theorem dX0_aliveEdges_52 : decode cX0_aliveEdges 52 = .ok (.aload_n 0, 1) := by decide +kernel
theorem dX0_aliveEdges_53 : decode cX0_aliveEdges 53 = .ok (.getfield 9, 3) := by decide +kernel
theorem dX0_aliveEdges_56 : decode cX0_aliveEdges 56 = .ok (.getfield 15, 3) := by decide +kernel
theorem dX0_aliveEdges_59 : decode cX0_aliveEdges 59 = .ok (.ireturn, 1) := by decide +kernel
theorem dX0_nodeAfter_0 : decode cX0_nodeAfter 0 = .ok (.aload_n 0, 1) := by decide +kernel
theorem dX0_nodeAfter_1 : decode cX0_nodeAfter 1 = .ok (.getfield 9, 3) := by decide +kernel
theorem dX0_nodeAfter_4 : decode cX0_nodeAfter 4 = .ok (.aload_n 0, 1) := by decide +kernel
theorem dX0_nodeAfter_5 : decode cX0_nodeAfter 5 = .ok (.getfield 28, 3) := by decide +kernel
theorem dX0_nodeAfter_8 : decode cX0_nodeAfter 8 = .ok (.iload_n 1, 1) := by decide +kernel
theorem dX0_nodeAfter_9 : decode cX0_nodeAfter 9 = .ok (.iaload, 1) := by decide +kernel
theorem dX0_nodeAfter_10 : decode cX0_nodeAfter 10 = .ok (.iload_n 2, 1) := by decide +kernel
theorem dX0_nodeAfter_11 : decode cX0_nodeAfter 11 = .ok (.iload_n 3, 1) := by decide +kernel
theorem dX0_nodeAfter_12 : decode cX0_nodeAfter 12 = .ok (.invokevirtual 59, 3) := by decide +kernel
theorem dX0_nodeAfter_15 : decode cX0_nodeAfter 15 = .ok (.istore 4, 2) := by decide +kernel
theorem dX0_nodeAfter_17 : decode cX0_nodeAfter 17 = .ok (.iload 4, 2) := by decide +kernel
theorem dX0_nodeAfter_19 : decode cX0_nodeAfter 19 = .ok (.iconst (-1), 1) := by decide +kernel
theorem dX0_nodeAfter_20 : decode cX0_nodeAfter 20 = .ok (.if_icmp .eq 16, 3) := by decide +kernel
theorem dX0_nodeAfter_23 : decode cX0_nodeAfter 23 = .ok (.aload_n 0, 1) := by decide +kernel
theorem dX0_nodeAfter_24 : decode cX0_nodeAfter 24 = .ok (.getfield 9, 3) := by decide +kernel
theorem dX0_nodeAfter_27 : decode cX0_nodeAfter 27 = .ok (.iload 4, 2) := by decide +kernel
theorem dX0_nodeAfter_29 : decode cX0_nodeAfter 29 = .ok (.iload_n 2, 1) := by decide +kernel
theorem dX0_nodeAfter_30 : decode cX0_nodeAfter 30 = .ok (.iload_n 3, 1) := by decide +kernel
theorem dX0_nodeAfter_31 : decode cX0_nodeAfter 31 = .ok (.invokevirtual 62, 3) := by decide +kernel
theorem dX0_nodeAfter_34 : decode cX0_nodeAfter 34 = .ok (.istore 4, 2) := by decide +kernel
theorem dX0_nodeAfter_36 : decode cX0_nodeAfter 36 = .ok (.iload 4, 2) := by decide +kernel
theorem dX0_nodeAfter_38 : decode cX0_nodeAfter 38 = .ok (.iconst (-1), 1) := by decide +kernel
theorem dX0_nodeAfter_39 : decode cX0_nodeAfter 39 = .ok (.if_icmp .ne 5, 3) := by decide +kernel
theorem dX0_nodeAfter_42 : decode cX0_nodeAfter 42 = .ok (.iconst (-1), 1) := by decide +kernel
theorem dX0_nodeAfter_43 : decode cX0_nodeAfter 43 = .ok (.ireturn, 1) := by decide +kernel
theorem dX0_nodeAfter_44 : decode cX0_nodeAfter 44 = .ok (.aload_n 0, 1) := by decide +kernel
theorem dX0_nodeAfter_45 : decode cX0_nodeAfter 45 = .ok (.getfield 21, 3) := by decide +kernel
theorem dX0_nodeAfter_48 : decode cX0_nodeAfter 48 = .ok (.iload_n 2, 1) := by decide +kernel
theorem dX0_nodeAfter_49 : decode cX0_nodeAfter 49 = .ok (.iconst 1, 1) := by decide +kernel
theorem dX0_nodeAfter_50 : decode cX0_nodeAfter 50 = .ok (.iadd, 1) := by decide +kernel
theorem dX0_nodeAfter_51 : decode cX0_nodeAfter 51 = .ok (.iaload, 1) := by decide +kernel
theorem dX0_nodeAfter_52 : decode cX0_nodeAfter 52 = .ok (.istore 5, 2) := by decide +kernel
theorem dX0_nodeAfter_54 : decode cX0_nodeAfter 54 = .ok (.iload 5, 2) := by decide +kernel
theorem dX0_nodeAfter_56 : decode cX0_nodeAfter 56 = .ok (.aload_n 0, 1) := by decide +kernel
theorem dX0_nodeAfter_57 : decode cX0_nodeAfter 57 = .ok (.getfield 25, 3) := by decide +kernel
theorem dX0_nodeAfter_60 : decode cX0_nodeAfter 60 = .ok (.if_icmp .ge 24, 3) := by decide +kernel
theorem dX0_nodeAfter_63 : decode cX0_nodeAfter 63 = .ok (.aload_n 0, 1) := by decide +kernel
theorem dX0_nodeAfter_64 : decode cX0_nodeAfter 64 = .ok (.getfield 28, 3) := by decide +kernel
theorem dX0_nodeAfter_67 : decode cX0_nodeAfter 67 = .ok (.iload 5, 2) := by decide +kernel
theorem dX0_nodeAfter_69 : decode cX0_nodeAfter 69 = .ok (.iaload, 1) := by decide +kernel
theorem dX0_nodeAfter_70 : decode cX0_nodeAfter 70 = .ok (.iload 4, 2) := by decide +kernel
theorem dX0_nodeAfter_72 : decode cX0_nodeAfter 72 = .ok (.if_icmp .ne 6, 3) := by decide +kernel
theorem dX0_nodeAfter_75 : decode cX0_nodeAfter 75 = .ok (.iload 5, 2) := by decide +kernel
theorem dX0_nodeAfter_77 : decode cX0_nodeAfter 77 = .ok (.ireturn, 1) := by decide +kernel
theorem dX0_nodeAfter_78 : decode cX0_nodeAfter 78 = .ok (.iinc 5 1, 3) := by decide +kernel
theorem dX0_nodeAfter_81 : decode cX0_nodeAfter 81 = .ok (.goto (-27), 3) := by decide +kernel
theorem dX0_nodeAfter_84 : decode cX0_nodeAfter 84 = .ok (.aload_n 0, 1) := by decide +kernel
theorem dX0_nodeAfter_85 : decode cX0_nodeAfter 85 = .ok (.getfield 25, 3) := by decide +kernel
theorem dX0_nodeAfter_88 : decode cX0_nodeAfter 88 = .ok (.sipush 1014, 3) := by decide +kernel
theorem dX0_nodeAfter_91 : decode cX0_nodeAfter 91 = .ok (.if_icmp .lt 5, 3) := by decide +kernel
theorem dX0_nodeAfter_94 : decode cX0_nodeAfter 94 = .ok (.iconst (-1), 1) := by decide +kernel
theorem dX0_nodeAfter_95 : decode cX0_nodeAfter 95 = .ok (.ireturn, 1) := by decide +kernel
theorem dX0_nodeAfter_96 : decode cX0_nodeAfter 96 = .ok (.aload_n 0, 1) := by decide +kernel
theorem dX0_nodeAfter_97 : decode cX0_nodeAfter 97 = .ok (.getfield 28, 3) := by decide +kernel
theorem dX0_nodeAfter_100 : decode cX0_nodeAfter 100 = .ok (.aload_n 0, 1) := by decide +kernel
theorem dX0_nodeAfter_101 : decode cX0_nodeAfter 101 = .ok (.getfield 25, 3) := by decide +kernel
theorem dX0_nodeAfter_104 : decode cX0_nodeAfter 104 = .ok (.iload 4, 2) := by decide +kernel
theorem dX0_nodeAfter_106 : decode cX0_nodeAfter 106 = .ok (.iastore, 1) := by decide +kernel
theorem dX0_nodeAfter_107 : decode cX0_nodeAfter 107 = .ok (.aload_n 0, 1) := by decide +kernel
theorem dX0_nodeAfter_108 : decode cX0_nodeAfter 108 = .ok (.dup, 1) := by decide +kernel
theorem dX0_nodeAfter_109 : decode cX0_nodeAfter 109 = .ok (.getfield 25, 3) := by decide +kernel
theorem dX0_nodeAfter_112 : decode cX0_nodeAfter 112 = .ok (.iconst 1, 1) := by decide +kernel
theorem dX0_nodeAfter_113 : decode cX0_nodeAfter 113 = .ok (.iadd, 1) := by decide +kernel
theorem dX0_nodeAfter_114 : decode cX0_nodeAfter 114 = .ok (.putfield 25, 3) := by decide +kernel
theorem dX0_nodeAfter_117 : decode cX0_nodeAfter 117 = .ok (.aload_n 0, 1) := by decide +kernel
theorem dX0_nodeAfter_118 : decode cX0_nodeAfter 118 = .ok (.getfield 25, 3) := by decide +kernel
theorem dX0_nodeAfter_121 : decode cX0_nodeAfter 121 = .ok (.iconst 1, 1) := by decide +kernel
theorem dX0_nodeAfter_122 : decode cX0_nodeAfter 122 = .ok (.isub, 1) := by decide +kernel
theorem dX0_nodeAfter_123 : decode cX0_nodeAfter 123 = .ok (.ireturn, 1) := by decide +kernel
theorem dX0_fillWays_0 : decode cX0_fillWays 0 = .ok (.aload_n 0, 1) := by decide +kernel
theorem dX0_fillWays_1 : decode cX0_fillWays 1 = .ok (.getfield 21, 3) := by decide +kernel
theorem dX0_fillWays_4 : decode cX0_fillWays 4 = .ok (.aload_n 0, 1) := by decide +kernel
theorem dX0_fillWays_5 : decode cX0_fillWays 5 = .ok (.getfield 9, 3) := by decide +kernel
theorem dX0_fillWays_8 : decode cX0_fillWays 8 = .ok (.getfield 15, 3) := by decide +kernel
theorem dX0_fillWays_11 : decode cX0_fillWays 11 = .ok (.iaload, 1) := by decide +kernel
theorem dX0_fillWays_12 : decode cX0_fillWays 12 = .ok (.istore_n 3, 1) := by decide +kernel
theorem dX0_fillWays_13 : decode cX0_fillWays 13 = .ok (.iload_n 3, 1) := by decide +kernel
theorem dX0_fillWays_14 : decode cX0_fillWays 14 = .ok (.aload_n 0, 1) := by decide +kernel
theorem dX0_fillWays_15 : decode cX0_fillWays 15 = .ok (.getfield 25, 3) := by decide +kernel
theorem dX0_fillWays_18 : decode cX0_fillWays 18 = .ok (.if_icmp .ge 13, 3) := by decide +kernel
theorem dX0_fillWays_21 : decode cX0_fillWays 21 = .ok (.aload_n 1, 1) := by decide +kernel
theorem dX0_fillWays_22 : decode cX0_fillWays 22 = .ok (.iload_n 3, 1) := by decide +kernel
theorem dX0_fillWays_23 : decode cX0_fillWays 23 = .ok (.iconst 1, 1) := by decide +kernel
theorem dX0_fillWays_24 : decode cX0_fillWays 24 = .ok (.iastore, 1) := by decide +kernel
theorem dX0_fillWays_25 : decode cX0_fillWays 25 = .ok (.iinc 3 1, 3) := by decide +kernel
theorem dX0_fillWays_28 : decode cX0_fillWays 28 = .ok (.goto (-15), 3) := by decide +kernel
theorem dX0_fillWays_31 : decode cX0_fillWays 31 = .ok (.aload_n 0, 1) := by decide +kernel
theorem dX0_fillWays_32 : decode cX0_fillWays 32 = .ok (.getfield 9, 3) := by decide +kernel
theorem dX0_fillWays_35 : decode cX0_fillWays 35 = .ok (.getfield 15, 3) := by decide +kernel
theorem dX0_fillWays_38 : decode cX0_fillWays 38 = .ok (.iconst 1, 1) := by decide +kernel
theorem dX0_fillWays_39 : decode cX0_fillWays 39 = .ok (.isub, 1) := by decide +kernel
theorem dX0_fillWays_40 : decode cX0_fillWays 40 = .ok (.istore_n 3, 1) := by decide +kernel
theorem dX0_fillWays_41 : decode cX0_fillWays 41 = .ok (.iload_n 3, 1) := by decide +kernel
theorem dX0_fillWays_42 : decode cX0_fillWays 42 = .ok (.ifCond .lt 79, 3) := by decide +kernel
theorem dX0_fillWays_45 : decode cX0_fillWays 45 = .ok (.aload_n 0, 1) := by decide +kernel
theorem dX0_fillWays_46 : decode cX0_fillWays 46 = .ok (.getfield 21, 3) := by decide +kernel
theorem dX0_fillWays_49 : decode cX0_fillWays 49 = .ok (.iload_n 3, 1) := by decide +kernel
theorem dX0_fillWays_50 : decode cX0_fillWays 50 = .ok (.iaload, 1) := by decide +kernel
theorem dX0_fillWays_51 : decode cX0_fillWays 51 = .ok (.istore 4, 2) := by decide +kernel
theorem dX0_fillWays_53 : decode cX0_fillWays 53 = .ok (.iload 4, 2) := by decide +kernel
theorem dX0_fillWays_55 : decode cX0_fillWays 55 = .ok (.aload_n 0, 1) := by decide +kernel
theorem dX0_fillWays_56 : decode cX0_fillWays 56 = .ok (.getfield 21, 3) := by decide +kernel
theorem dX0_fillWays_59 : decode cX0_fillWays 59 = .ok (.iload_n 3, 1) := by decide +kernel
theorem dX0_fillWays_60 : decode cX0_fillWays 60 = .ok (.iconst 1, 1) := by decide +kernel
theorem dX0_fillWays_61 : decode cX0_fillWays 61 = .ok (.iadd, 1) := by decide +kernel
theorem dX0_fillWays_62 : decode cX0_fillWays 62 = .ok (.iaload, 1) := by decide +kernel
theorem dX0_fillWays_63 : decode cX0_fillWays 63 = .ok (.if_icmp .ge 52, 3) := by decide +kernel
theorem dX0_fillWays_66 : decode cX0_fillWays 66 = .ok (.iload_n 2, 1) := by decide +kernel
theorem dX0_fillWays_67 : decode cX0_fillWays 67 = .ok (.iload_n 3, 1) := by decide +kernel
theorem dX0_fillWays_68 : decode cX0_fillWays 68 = .ok (.invokestatic 55, 3) := by decide +kernel
theorem dX0_fillWays_71 : decode cX0_fillWays 71 = .ok (.ifCond .eq 7, 3) := by decide +kernel
theorem dX0_fillWays_74 : decode cX0_fillWays 74 = .ok (.iconst 0, 1) := by decide +kernel
theorem dX0_fillWays_75 : decode cX0_fillWays 75 = .ok (.goto 14, 3) := by decide +kernel
theorem dX0_fillWays_78 : decode cX0_fillWays 78 = .ok (.aload_n 1, 1) := by decide +kernel
theorem dX0_fillWays_79 : decode cX0_fillWays 79 = .ok (.aload_n 0, 1) := by decide +kernel
theorem dX0_fillWays_80 : decode cX0_fillWays 80 = .ok (.getfield 31, 3) := by decide +kernel
theorem dX0_fillWays_83 : decode cX0_fillWays 83 = .ok (.iload 4, 2) := by decide +kernel
theorem dX0_fillWays_85 : decode cX0_fillWays 85 = .ok (.iaload, 1) := by decide +kernel
theorem dX0_fillWays_86 : decode cX0_fillWays 86 = .ok (.invokestatic 51, 3) := by decide +kernel
theorem dX0_fillWays_89 : decode cX0_fillWays 89 = .ok (.istore 5, 2) := by decide +kernel
theorem dX0_fillWays_91 : decode cX0_fillWays 91 = .ok (.aload_n 1, 1) := by decide +kernel
theorem dX0_fillWays_92 : decode cX0_fillWays 92 = .ok (.iload 4, 2) := by decide +kernel
theorem dX0_fillWays_94 : decode cX0_fillWays 94 = .ok (.iload 5, 2) := by decide +kernel
theorem dX0_fillWays_96 : decode cX0_fillWays 96 = .ok (.aload_n 1, 1) := by decide +kernel
theorem dX0_fillWays_97 : decode cX0_fillWays 97 = .ok (.aload_n 0, 1) := by decide +kernel
theorem dX0_fillWays_98 : decode cX0_fillWays 98 = .ok (.getfield 34, 3) := by decide +kernel
theorem dX0_fillWays_101 : decode cX0_fillWays 101 = .ok (.iload 4, 2) := by decide +kernel
theorem dX0_fillWays_103 : decode cX0_fillWays 103 = .ok (.iaload, 1) := by decide +kernel
theorem dX0_fillWays_104 : decode cX0_fillWays 104 = .ok (.invokestatic 51, 3) := by decide +kernel
theorem dX0_fillWays_107 : decode cX0_fillWays 107 = .ok (.iadd, 1) := by decide +kernel
theorem dX0_fillWays_108 : decode cX0_fillWays 108 = .ok (.iastore, 1) := by decide +kernel
theorem dX0_fillWays_109 : decode cX0_fillWays 109 = .ok (.iinc 4 1, 3) := by decide +kernel
theorem dX0_fillWays_112 : decode cX0_fillWays 112 = .ok (.goto (-59), 3) := by decide +kernel
theorem dX0_fillWays_115 : decode cX0_fillWays 115 = .ok (.iinc 3 (-1), 3) := by decide +kernel
theorem dX0_fillWays_118 : decode cX0_fillWays 118 = .ok (.goto (-77), 3) := by decide +kernel
theorem dX0_fillWays_121 : decode cX0_fillWays 121 = .ok (.return_, 1) := by decide +kernel
theorem dX0_waysOf_0 : decode cX0_waysOf 0 = .ok (.iload_n 1, 1) := by decide +kernel
theorem dX0_waysOf_1 : decode cX0_waysOf 1 = .ok (.iconst (-1), 1) := by decide +kernel
theorem dX0_waysOf_2 : decode cX0_waysOf 2 = .ok (.if_icmp .ne 7, 3) := by decide +kernel
theorem dX0_waysOf_5 : decode cX0_waysOf 5 = .ok (.iconst 0, 1) := by decide +kernel
theorem dX0_waysOf_6 : decode cX0_waysOf 6 = .ok (.goto 6, 3) := by decide +kernel
theorem dX0_waysOf_9 : decode cX0_waysOf 9 = .ok (.aload_n 0, 1) := by decide +kernel
theorem dX0_waysOf_10 : decode cX0_waysOf 10 = .ok (.iload_n 1, 1) := by decide +kernel
theorem dX0_waysOf_11 : decode cX0_waysOf 11 = .ok (.iaload, 1) := by decide +kernel
theorem dX0_waysOf_12 : decode cX0_waysOf 12 = .ok (.ireturn, 1) := by decide +kernel
theorem dX1_init_0 : decode cX1_init 0 = .ok (.aload_n 0, 1) := by decide +kernel
theorem dX1_init_1 : decode cX1_init 1 = .ok (.invokespecial 5, 3) := by decide +kernel
theorem dX1_init_4 : decode cX1_init 4 = .ok (.aload_n 0, 1) := by decide +kernel
theorem dX1_init_5 : decode cX1_init 5 = .ok (.iload_n 1, 1) := by decide +kernel
theorem dX1_init_6 : decode cX1_init 6 = .ok (.putfield 11, 3) := by decide +kernel
theorem dX1_init_9 : decode cX1_init 9 = .ok (.aload_n 0, 1) := by decide +kernel
theorem dX1_init_10 : decode cX1_init 10 = .ok (.iload_n 2, 1) := by decide +kernel
theorem dX1_init_11 : decode cX1_init 11 = .ok (.putfield 15, 3) := by decide +kernel
theorem dX1_init_14 : decode cX1_init 14 = .ok (.aload_n 0, 1) := by decide +kernel
theorem dX1_init_15 : decode cX1_init 15 = .ok (.iload_n 1, 1) := by decide +kernel
theorem dX1_init_16 : decode cX1_init 16 = .ok (.iconst 1, 1) := by decide +kernel
theorem dX1_init_17 : decode cX1_init 17 = .ok (.iadd, 1) := by decide +kernel
theorem dX1_init_18 : decode cX1_init 18 = .ok (.iload_n 2, 1) := by decide +kernel
theorem dX1_init_19 : decode cX1_init 19 = .ok (.imul, 1) := by decide +kernel
theorem dX1_init_20 : decode cX1_init 20 = .ok (.iload_n 1, 1) := by decide +kernel
theorem dX1_init_21 : decode cX1_init 21 = .ok (.iload_n 2, 1) := by decide +kernel
theorem dX1_init_22 : decode cX1_init 22 = .ok (.iconst 1, 1) := by decide +kernel
theorem dX1_init_23 : decode cX1_init 23 = .ok (.iadd, 1) := by decide +kernel
theorem dX1_init_24 : decode cX1_init 24 = .ok (.imul, 1) := by decide +kernel
theorem dX1_init_25 : decode cX1_init 25 = .ok (.iadd, 1) := by decide +kernel
theorem dX1_init_26 : decode cX1_init 26 = .ok (.putfield 18, 3) := by decide +kernel
theorem dX1_init_29 : decode cX1_init 29 = .ok (.aload_n 0, 1) := by decide +kernel
theorem dX1_init_30 : decode cX1_init 30 = .ok (.aload_n 0, 1) := by decide +kernel
theorem dX1_init_31 : decode cX1_init 31 = .ok (.getfield 18, 3) := by decide +kernel
theorem dX1_init_34 : decode cX1_init 34 = .ok (.newarray .int, 2) := by decide +kernel
theorem dX1_init_36 : decode cX1_init 36 = .ok (.putfield 21, 3) := by decide +kernel
theorem dX1_init_39 : decode cX1_init 39 = .ok (.aload_n 0, 1) := by decide +kernel
theorem dX1_init_40 : decode cX1_init 40 = .ok (.aload_n 0, 1) := by decide +kernel
theorem dX1_init_41 : decode cX1_init 41 = .ok (.getfield 18, 3) := by decide +kernel
theorem dX1_init_44 : decode cX1_init 44 = .ok (.newarray .int, 2) := by decide +kernel
theorem dX1_init_46 : decode cX1_init 46 = .ok (.putfield 25, 3) := by decide +kernel
theorem dX1_init_49 : decode cX1_init 49 = .ok (.aload_n 0, 1) := by decide +kernel
theorem dX1_init_50 : decode cX1_init 50 = .ok (.aload_n 0, 1) := by decide +kernel
theorem dX1_init_51 : decode cX1_init 51 = .ok (.getfield 18, 3) := by decide +kernel
theorem dX1_init_54 : decode cX1_init 54 = .ok (.newarray .boolean, 2) := by decide +kernel
theorem dX1_init_56 : decode cX1_init 56 = .ok (.putfield 28, 3) := by decide +kernel
theorem dX1_init_59 : decode cX1_init 59 = .ok (.aload_n 0, 1) := by decide +kernel
theorem dX1_init_60 : decode cX1_init 60 = .ok (.iload_n 1, 1) := by decide +kernel
theorem dX1_init_61 : decode cX1_init 61 = .ok (.iload_n 2, 1) := by decide +kernel
theorem dX1_init_62 : decode cX1_init 62 = .ok (.imul, 1) := by decide +kernel
theorem dX1_init_63 : decode cX1_init 63 = .ok (.newarray .int, 2) := by decide +kernel
theorem dX1_init_65 : decode cX1_init 65 = .ok (.putfield 32, 3) := by decide +kernel
theorem dX1_init_68 : decode cX1_init 68 = .ok (.iconst 0, 1) := by decide +kernel
theorem dX1_init_69 : decode cX1_init 69 = .ok (.istore_n 3, 1) := by decide +kernel
theorem dX1_init_70 : decode cX1_init 70 = .ok (.iload_n 3, 1) := by decide +kernel
theorem dX1_init_71 : decode cX1_init 71 = .ok (.aload_n 0, 1) := by decide +kernel
theorem dX1_init_72 : decode cX1_init 72 = .ok (.getfield 32, 3) := by decide +kernel
theorem dX1_init_75 : decode cX1_init 75 = .ok (.arraylength, 1) := by decide +kernel
theorem dX1_init_76 : decode cX1_init 76 = .ok (.if_icmp .ge 16, 3) := by decide +kernel
theorem dX1_init_79 : decode cX1_init 79 = .ok (.aload_n 0, 1) := by decide +kernel
theorem dX1_init_80 : decode cX1_init 80 = .ok (.getfield 32, 3) := by decide +kernel
theorem dX1_init_83 : decode cX1_init 83 = .ok (.iload_n 3, 1) := by decide +kernel
theorem dX1_init_84 : decode cX1_init 84 = .ok (.iconst (-1), 1) := by decide +kernel
theorem dX1_init_85 : decode cX1_init 85 = .ok (.iastore, 1) := by decide +kernel
theorem dX1_init_86 : decode cX1_init 86 = .ok (.iinc 3 1, 3) := by decide +kernel
theorem dX1_init_89 : decode cX1_init 89 = .ok (.goto (-19), 3) := by decide +kernel
theorem dX1_init_92 : decode cX1_init 92 = .ok (.iconst 0, 1) := by decide +kernel
theorem dX1_init_93 : decode cX1_init 93 = .ok (.istore_n 3, 1) := by decide +kernel
theorem dX1_init_94 : decode cX1_init 94 = .ok (.iconst 0, 1) := by decide +kernel
theorem dX1_init_95 : decode cX1_init 95 = .ok (.istore 4, 2) := by decide +kernel
theorem dX1_init_97 : decode cX1_init 97 = .ok (.iload 4, 2) := by decide +kernel
theorem dX1_init_99 : decode cX1_init 99 = .ok (.iload_n 1, 1) := by decide +kernel
theorem dX1_init_100 : decode cX1_init 100 = .ok (.if_icmp .gt 81, 3) := by decide +kernel
theorem dX1_init_103 : decode cX1_init 103 = .ok (.iconst 0, 1) := by decide +kernel
theorem dX1_init_104 : decode cX1_init 104 = .ok (.istore 5, 2) := by decide +kernel
theorem dX1_init_106 : decode cX1_init 106 = .ok (.iload 5, 2) := by decide +kernel
theorem dX1_init_108 : decode cX1_init 108 = .ok (.iload_n 2, 1) := by decide +kernel
theorem dX1_init_109 : decode cX1_init 109 = .ok (.if_icmp .gt 66, 3) := by decide +kernel
theorem dX1_init_112 : decode cX1_init 112 = .ok (.iload 5, 2) := by decide +kernel
theorem dX1_init_114 : decode cX1_init 114 = .ok (.iload_n 2, 1) := by decide +kernel
theorem dX1_init_115 : decode cX1_init 115 = .ok (.if_icmp .ge 22, 3) := by decide +kernel
theorem dX1_init_118 : decode cX1_init 118 = .ok (.aload_n 0, 1) := by decide +kernel
theorem dX1_init_119 : decode cX1_init 119 = .ok (.getfield 21, 3) := by decide +kernel
theorem dX1_init_122 : decode cX1_init 122 = .ok (.iload_n 3, 1) := by decide +kernel
theorem dX1_init_123 : decode cX1_init 123 = .ok (.iload 4, 2) := by decide +kernel
theorem dX1_init_125 : decode cX1_init 125 = .ok (.iastore, 1) := by decide +kernel
theorem dX1_init_126 : decode cX1_init 126 = .ok (.aload_n 0, 1) := by decide +kernel
theorem dX1_init_127 : decode cX1_init 127 = .ok (.getfield 25, 3) := by decide +kernel
theorem dX1_init_130 : decode cX1_init 130 = .ok (.iload_n 3, 1) := by decide +kernel
theorem dX1_init_131 : decode cX1_init 131 = .ok (.iload 5, 2) := by decide +kernel
theorem dX1_init_133 : decode cX1_init 133 = .ok (.iastore, 1) := by decide +kernel
theorem dX1_init_134 : decode cX1_init 134 = .ok (.iinc 3 1, 3) := by decide +kernel
theorem dX1_init_137 : decode cX1_init 137 = .ok (.iload 4, 2) := by decide +kernel
theorem dX1_init_139 : decode cX1_init 139 = .ok (.iload_n 1, 1) := by decide +kernel
theorem dX1_init_140 : decode cX1_init 140 = .ok (.if_icmp .ge 29, 3) := by decide +kernel
theorem dX1_init_143 : decode cX1_init 143 = .ok (.aload_n 0, 1) := by decide +kernel
theorem dX1_init_144 : decode cX1_init 144 = .ok (.getfield 21, 3) := by decide +kernel
theorem dX1_init_147 : decode cX1_init 147 = .ok (.iload_n 3, 1) := by decide +kernel
theorem dX1_init_148 : decode cX1_init 148 = .ok (.iload 4, 2) := by decide +kernel
theorem dX1_init_150 : decode cX1_init 150 = .ok (.iastore, 1) := by decide +kernel
theorem dX1_init_151 : decode cX1_init 151 = .ok (.aload_n 0, 1) := by decide +kernel
theorem dX1_init_152 : decode cX1_init 152 = .ok (.getfield 25, 3) := by decide +kernel
theorem dX1_init_155 : decode cX1_init 155 = .ok (.iload_n 3, 1) := by decide +kernel
theorem dX1_init_156 : decode cX1_init 156 = .ok (.iload 5, 2) := by decide +kernel
theorem dX1_init_158 : decode cX1_init 158 = .ok (.iastore, 1) := by decide +kernel
theorem dX1_init_159 : decode cX1_init 159 = .ok (.aload_n 0, 1) := by decide +kernel
theorem dX1_init_160 : decode cX1_init 160 = .ok (.getfield 28, 3) := by decide +kernel
theorem dX1_init_163 : decode cX1_init 163 = .ok (.iload_n 3, 1) := by decide +kernel
theorem dX1_init_164 : decode cX1_init 164 = .ok (.iconst 1, 1) := by decide +kernel
theorem dX1_init_165 : decode cX1_init 165 = .ok (.bastore, 1) := by decide +kernel
theorem dX1_init_166 : decode cX1_init 166 = .ok (.iinc 3 1, 3) := by decide +kernel
theorem dX1_init_169 : decode cX1_init 169 = .ok (.iinc 5 1, 3) := by decide +kernel
theorem dX1_init_172 : decode cX1_init 172 = .ok (.goto (-66), 3) := by decide +kernel
theorem dX1_init_175 : decode cX1_init 175 = .ok (.iinc 4 1, 3) := by decide +kernel
theorem dX1_init_178 : decode cX1_init 178 = .ok (.goto (-81), 3) := by decide +kernel
theorem dX1_init_181 : decode cX1_init 181 = .ok (.return_, 1) := by decide +kernel
theorem dX1_pointsAfter_0 : decode cX1_pointsAfter 0 = .ok (.aload_n 0, 1) := by decide +kernel
theorem dX1_pointsAfter_1 : decode cX1_pointsAfter 1 = .ok (.getfield 25, 3) := by decide +kernel
theorem dX1_pointsAfter_4 : decode cX1_pointsAfter 4 = .ok (.iload_n 2, 1) := by decide +kernel
theorem dX1_pointsAfter_5 : decode cX1_pointsAfter 5 = .ok (.iaload, 1) := by decide +kernel
theorem dX1_pointsAfter_6 : decode cX1_pointsAfter 6 = .ok (.istore 4, 2) := by decide +kernel
theorem dX1_pointsAfter_8 : decode cX1_pointsAfter 8 = .ok (.aload_n 0, 1) := by decide +kernel
theorem dX1_pointsAfter_9 : decode cX1_pointsAfter 9 = .ok (.getfield 28, 3) := by decide +kernel
theorem dX1_pointsAfter_12 : decode cX1_pointsAfter 12 = .ok (.iload_n 2, 1) := by decide +kernel
theorem dX1_pointsAfter_13 : decode cX1_pointsAfter 13 = .ok (.baload, 1) := by decide +kernel
theorem dX1_pointsAfter_14 : decode cX1_pointsAfter 14 = .ok (.ifCond .eq 11, 3) := by decide +kernel
theorem dX1_pointsAfter_17 : decode cX1_pointsAfter 17 = .ok (.iload_n 1, 1) := by decide +kernel
theorem dX1_pointsAfter_18 : decode cX1_pointsAfter 18 = .ok (.iload 4, 2) := by decide +kernel
theorem dX1_pointsAfter_20 : decode cX1_pointsAfter 20 = .ok (.iload_n 3, 1) := by decide +kernel
theorem dX1_pointsAfter_21 : decode cX1_pointsAfter 21 = .ok (.invokestatic 35, 3) := by decide +kernel
theorem dX1_pointsAfter_24 : decode cX1_pointsAfter 24 = .ok (.ireturn, 1) := by decide +kernel
theorem dX1_pointsAfter_25 : decode cX1_pointsAfter 25 = .ok (.iload_n 3, 1) := by decide +kernel
theorem dX1_pointsAfter_26 : decode cX1_pointsAfter 26 = .ok (.ifCond .eq 12, 3) := by decide +kernel
theorem dX1_pointsAfter_29 : decode cX1_pointsAfter 29 = .ok (.iload_n 1, 1) := by decide +kernel
theorem dX1_pointsAfter_30 : decode cX1_pointsAfter 30 = .ok (.iload 4, 2) := by decide +kernel
theorem dX1_pointsAfter_32 : decode cX1_pointsAfter 32 = .ok (.invokestatic 39, 3) := by decide +kernel
theorem dX1_pointsAfter_35 : decode cX1_pointsAfter 35 = .ok (.goto 4, 3) := by decide +kernel
theorem dX1_pointsAfter_38 : decode cX1_pointsAfter 38 = .ok (.iload_n 1, 1) := by decide +kernel
theorem dX1_pointsAfter_39 : decode cX1_pointsAfter 39 = .ok (.istore 5, 2) := by decide +kernel
theorem dX1_pointsAfter_41 : decode cX1_pointsAfter 41 = .ok (.aload_n 0, 1) := by decide +kernel
theorem dX1_pointsAfter_42 : decode cX1_pointsAfter 42 = .ok (.getfield 21, 3) := by decide +kernel
theorem dX1_pointsAfter_45 : decode cX1_pointsAfter 45 = .ok (.iload_n 2, 1) := by decide +kernel
theorem dX1_pointsAfter_46 : decode cX1_pointsAfter 46 = .ok (.iaload, 1) := by decide +kernel
theorem dX1_pointsAfter_47 : decode cX1_pointsAfter 47 = .ok (.aload_n 0, 1) := by decide +kernel
theorem dX1_pointsAfter_48 : decode cX1_pointsAfter 48 = .ok (.getfield 11, 3) := by decide +kernel
theorem dX1_pointsAfter_51 : decode cX1_pointsAfter 51 = .ok (.if_icmp .ne 12, 3) := by decide +kernel
theorem dX1_pointsAfter_54 : decode cX1_pointsAfter 54 = .ok (.iload 5, 2) := by decide +kernel
theorem dX1_pointsAfter_56 : decode cX1_pointsAfter 56 = .ok (.iload 4, 2) := by decide +kernel
theorem dX1_pointsAfter_58 : decode cX1_pointsAfter 58 = .ok (.invokestatic 43, 3) := by decide +kernel
theorem dX1_pointsAfter_61 : decode cX1_pointsAfter 61 = .ok (.istore 5, 2) := by decide +kernel
theorem dX1_pointsAfter_63 : decode cX1_pointsAfter 63 = .ok (.iload_n 2, 1) := by decide +kernel
theorem dX1_pointsAfter_64 : decode cX1_pointsAfter 64 = .ok (.aload_n 0, 1) := by decide +kernel
theorem dX1_pointsAfter_65 : decode cX1_pointsAfter 65 = .ok (.getfield 18, 3) := by decide +kernel
theorem dX1_pointsAfter_68 : decode cX1_pointsAfter 68 = .ok (.iconst 1, 1) := by decide +kernel
theorem dX1_pointsAfter_69 : decode cX1_pointsAfter 69 = .ok (.isub, 1) := by decide +kernel
theorem dX1_pointsAfter_70 : decode cX1_pointsAfter 70 = .ok (.if_icmp .ne 50, 3) := by decide +kernel
theorem dX1_pointsAfter_73 : decode cX1_pointsAfter 73 = .ok (.iload 5, 2) := by decide +kernel
theorem dX1_pointsAfter_75 : decode cX1_pointsAfter 75 = .ok (.iload 4, 2) := by decide +kernel
theorem dX1_pointsAfter_77 : decode cX1_pointsAfter 77 = .ok (.iconst 1, 1) := by decide +kernel
theorem dX1_pointsAfter_78 : decode cX1_pointsAfter 78 = .ok (.iadd, 1) := by decide +kernel
theorem dX1_pointsAfter_79 : decode cX1_pointsAfter 79 = .ok (.invokestatic 43, 3) := by decide +kernel
theorem dX1_pointsAfter_82 : decode cX1_pointsAfter 82 = .ok (.istore 5, 2) := by decide +kernel
theorem dX1_pointsAfter_84 : decode cX1_pointsAfter 84 = .ok (.iload 5, 2) := by decide +kernel
theorem dX1_pointsAfter_86 : decode cX1_pointsAfter 86 = .ok (.iconst (-1), 1) := by decide +kernel
theorem dX1_pointsAfter_87 : decode cX1_pointsAfter 87 = .ok (.if_icmp .eq 18, 3) := by decide +kernel
theorem dX1_pointsAfter_90 : decode cX1_pointsAfter 90 = .ok (.iload 5, 2) := by decide +kernel
theorem dX1_pointsAfter_92 : decode cX1_pointsAfter 92 = .ok (.bipush 7, 2) := by decide +kernel
theorem dX1_pointsAfter_94 : decode cX1_pointsAfter 94 = .ok (.invokestatic 46, 3) := by decide +kernel
theorem dX1_pointsAfter_97 : decode cX1_pointsAfter 97 = .ok (.iconst 1, 1) := by decide +kernel
theorem dX1_pointsAfter_98 : decode cX1_pointsAfter 98 = .ok (.if_icmp .ne 7, 3) := by decide +kernel
theorem dX1_pointsAfter_101 : decode cX1_pointsAfter 101 = .ok (.iconst 1, 1) := by decide +kernel
theorem dX1_pointsAfter_102 : decode cX1_pointsAfter 102 = .ok (.goto 4, 3) := by decide +kernel
theorem dX1_pointsAfter_105 : decode cX1_pointsAfter 105 = .ok (.iconst 0, 1) := by decide +kernel
theorem dX1_pointsAfter_106 : decode cX1_pointsAfter 106 = .ok (.istore 6, 2) := by decide +kernel
theorem dX1_pointsAfter_108 : decode cX1_pointsAfter 108 = .ok (.iload 6, 2) := by decide +kernel
theorem dX1_pointsAfter_110 : decode cX1_pointsAfter 110 = .ok (.ifCond .eq 8, 3) := by decide +kernel
theorem dX1_pointsAfter_113 : decode cX1_pointsAfter 113 = .ok (.iload 5, 2) := by decide +kernel
theorem dX1_pointsAfter_115 : decode cX1_pointsAfter 115 = .ok (.goto 4, 3) := by decide +kernel
theorem dX1_pointsAfter_118 : decode cX1_pointsAfter 118 = .ok (.iconst (-1), 1) := by decide +kernel
theorem dX1_pointsAfter_119 : decode cX1_pointsAfter 119 = .ok (.ireturn, 1) := by decide +kernel
theorem dX1_pointsAfter_120 : decode cX1_pointsAfter 120 = .ok (.iload 5, 2) := by decide +kernel
theorem dX1_pointsAfter_122 : decode cX1_pointsAfter 122 = .ok (.ireturn, 1) := by decide +kernel
theorem dX1_cluesAfter_0 : decode cX1_cluesAfter 0 = .ok (.aload_n 0, 1) := by decide +kernel
theorem dX1_cluesAfter_1 : decode cX1_cluesAfter 1 = .ok (.getfield 21, 3) := by decide +kernel
theorem dX1_cluesAfter_4 : decode cX1_cluesAfter 4 = .ok (.iload_n 2, 1) := by decide +kernel
theorem dX1_cluesAfter_5 : decode cX1_cluesAfter 5 = .ok (.iaload, 1) := by decide +kernel
theorem dX1_cluesAfter_6 : decode cX1_cluesAfter 6 = .ok (.istore 4, 2) := by decide +kernel
theorem dX1_cluesAfter_8 : decode cX1_cluesAfter 8 = .ok (.aload_n 0, 1) := by decide +kernel
theorem dX1_cluesAfter_9 : decode cX1_cluesAfter 9 = .ok (.getfield 25, 3) := by decide +kernel
theorem dX1_cluesAfter_12 : decode cX1_cluesAfter 12 = .ok (.iload_n 2, 1) := by decide +kernel
theorem dX1_cluesAfter_13 : decode cX1_cluesAfter 13 = .ok (.iaload, 1) := by decide +kernel
theorem dX1_cluesAfter_14 : decode cX1_cluesAfter 14 = .ok (.istore 5, 2) := by decide +kernel
theorem dX1_cluesAfter_16 : decode cX1_cluesAfter 16 = .ok (.aload_n 0, 1) := by decide +kernel
theorem dX1_cluesAfter_17 : decode cX1_cluesAfter 17 = .ok (.getfield 28, 3) := by decide +kernel
theorem dX1_cluesAfter_20 : decode cX1_cluesAfter 20 = .ok (.iload_n 2, 1) := by decide +kernel
theorem dX1_cluesAfter_21 : decode cX1_cluesAfter 21 = .ok (.baload, 1) := by decide +kernel
theorem dX1_cluesAfter_22 : decode cX1_cluesAfter 22 = .ok (.ifCond .eq 27, 3) := by decide +kernel
theorem dX1_cluesAfter_25 : decode cX1_cluesAfter 25 = .ok (.aload_n 0, 1) := by decide +kernel
theorem dX1_cluesAfter_26 : decode cX1_cluesAfter 26 = .ok (.aload_n 0, 1) := by decide +kernel
theorem dX1_cluesAfter_27 : decode cX1_cluesAfter 27 = .ok (.iload_n 1, 1) := by decide +kernel
theorem dX1_cluesAfter_28 : decode cX1_cluesAfter 28 = .ok (.iload 4, 2) := by decide +kernel
theorem dX1_cluesAfter_30 : decode cX1_cluesAfter 30 = .ok (.iload 5, 2) := by decide +kernel
theorem dX1_cluesAfter_32 : decode cX1_cluesAfter 32 = .ok (.iconst 1, 1) := by decide +kernel
theorem dX1_cluesAfter_33 : decode cX1_cluesAfter 33 = .ok (.isub, 1) := by decide +kernel
theorem dX1_cluesAfter_34 : decode cX1_cluesAfter 34 = .ok (.iload_n 3, 1) := by decide +kernel
theorem dX1_cluesAfter_35 : decode cX1_cluesAfter 35 = .ok (.iconst 0, 1) := by decide +kernel
theorem dX1_cluesAfter_36 : decode cX1_cluesAfter 36 = .ok (.invokevirtual 49, 3) := by decide +kernel
theorem dX1_cluesAfter_39 : decode cX1_cluesAfter 39 = .ok (.iload 4, 2) := by decide +kernel
theorem dX1_cluesAfter_41 : decode cX1_cluesAfter 41 = .ok (.iload 5, 2) := by decide +kernel
theorem dX1_cluesAfter_43 : decode cX1_cluesAfter 43 = .ok (.iload_n 3, 1) := by decide +kernel
theorem dX1_cluesAfter_44 : decode cX1_cluesAfter 44 = .ok (.iconst 0, 1) := by decide +kernel
theorem dX1_cluesAfter_45 : decode cX1_cluesAfter 45 = .ok (.invokevirtual 49, 3) := by decide +kernel
theorem dX1_cluesAfter_48 : decode cX1_cluesAfter 48 = .ok (.ireturn, 1) := by decide +kernel
theorem dX1_cluesAfter_49 : decode cX1_cluesAfter 49 = .ok (.aload_n 0, 1) := by decide +kernel
theorem dX1_cluesAfter_50 : decode cX1_cluesAfter 50 = .ok (.aload_n 0, 1) := by decide +kernel
theorem dX1_cluesAfter_51 : decode cX1_cluesAfter 51 = .ok (.iload_n 1, 1) := by decide +kernel
theorem dX1_cluesAfter_52 : decode cX1_cluesAfter 52 = .ok (.iload 4, 2) := by decide +kernel
theorem dX1_cluesAfter_54 : decode cX1_cluesAfter 54 = .ok (.iconst 1, 1) := by decide +kernel
theorem dX1_cluesAfter_55 : decode cX1_cluesAfter 55 = .ok (.isub, 1) := by decide +kernel
theorem dX1_cluesAfter_56 : decode cX1_cluesAfter 56 = .ok (.iload 5, 2) := by decide +kernel
theorem dX1_cluesAfter_58 : decode cX1_cluesAfter 58 = .ok (.iload_n 3, 1) := by decide +kernel
theorem dX1_cluesAfter_59 : decode cX1_cluesAfter 59 = .ok (.iconst 1, 1) := by decide +kernel
theorem dX1_cluesAfter_60 : decode cX1_cluesAfter 60 = .ok (.invokevirtual 49, 3) := by decide +kernel
theorem dX1_cluesAfter_63 : decode cX1_cluesAfter 63 = .ok (.iload 4, 2) := by decide +kernel
theorem dX1_cluesAfter_65 : decode cX1_cluesAfter 65 = .ok (.iload 5, 2) := by decide +kernel
theorem dX1_cluesAfter_67 : decode cX1_cluesAfter 67 = .ok (.iload_n 3, 1) := by decide +kernel
theorem dX1_cluesAfter_68 : decode cX1_cluesAfter 68 = .ok (.iconst 0, 1) := by decide +kernel
theorem dX1_cluesAfter_69 : decode cX1_cluesAfter 69 = .ok (.invokevirtual 49, 3) := by decide +kernel
theorem dX1_cluesAfter_72 : decode cX1_cluesAfter 72 = .ok (.ireturn, 1) := by decide +kernel
theorem dX1_downAfter_0 : decode cX1_downAfter 0 = .ok (.iload_n 0, 1) := by decide +kernel
theorem dX1_downAfter_1 : decode cX1_downAfter 1 = .ok (.iload_n 1, 1) := by decide +kernel
theorem dX1_downAfter_2 : decode cX1_downAfter 2 = .ok (.invokestatic 46, 3) := by decide +kernel
theorem dX1_downAfter_5 : decode cX1_downAfter 5 = .ok (.iload_n 1, 1) := by decide +kernel
theorem dX1_downAfter_6 : decode cX1_downAfter 6 = .ok (.invokestatic 53, 3) := by decide +kernel
theorem dX1_downAfter_9 : decode cX1_downAfter 9 = .ok (.iload_n 2, 1) := by decide +kernel
theorem dX1_downAfter_10 : decode cX1_downAfter 10 = .ok (.if_icmp .eq 5, 3) := by decide +kernel
theorem dX1_downAfter_13 : decode cX1_downAfter 13 = .ok (.iconst (-1), 1) := by decide +kernel
theorem dX1_downAfter_14 : decode cX1_downAfter 14 = .ok (.ireturn, 1) := by decide +kernel
theorem dX1_downAfter_15 : decode cX1_downAfter 15 = .ok (.iload_n 2, 1) := by decide +kernel
theorem dX1_downAfter_16 : decode cX1_downAfter 16 = .ok (.ifCond .eq 7, 3) := by decide +kernel
theorem dX1_downAfter_19 : decode cX1_downAfter 19 = .ok (.iload_n 0, 1) := by decide +kernel
theorem dX1_downAfter_20 : decode cX1_downAfter 20 = .ok (.goto 9, 3) := by decide +kernel
theorem dX1_downAfter_23 : decode cX1_downAfter 23 = .ok (.iload_n 0, 1) := by decide +kernel
theorem dX1_downAfter_24 : decode cX1_downAfter 24 = .ok (.iload_n 1, 1) := by decide +kernel
theorem dX1_downAfter_25 : decode cX1_downAfter 25 = .ok (.iload_n 1, 1) := by decide +kernel
theorem dX1_downAfter_26 : decode cX1_downAfter 26 = .ok (.invokestatic 57, 3) := by decide +kernel
theorem dX1_downAfter_29 : decode cX1_downAfter 29 = .ok (.ireturn, 1) := by decide +kernel
theorem dX1_joined_0 : decode cX1_joined 0 = .ok (.iload_n 1, 1) := by decide +kernel
theorem dX1_joined_1 : decode cX1_joined 1 = .ok (.iconst 1, 1) := by decide +kernel
theorem dX1_joined_2 : decode cX1_joined 2 = .ok (.iadd, 1) := by decide +kernel
theorem dX1_joined_3 : decode cX1_joined 3 = .ok (.istore_n 2, 1) := by decide +kernel
theorem dX1_joined_4 : decode cX1_joined 4 = .ok (.iload_n 0, 1) := by decide +kernel
theorem dX1_joined_5 : decode cX1_joined 5 = .ok (.iload_n 1, 1) := by decide +kernel
theorem dX1_joined_6 : decode cX1_joined 6 = .ok (.invokestatic 46, 3) := by decide +kernel
theorem dX1_joined_9 : decode cX1_joined 9 = .ok (.istore_n 3, 1) := by decide +kernel
theorem dX1_joined_10 : decode cX1_joined 10 = .ok (.iload_n 0, 1) := by decide +kernel
theorem dX1_joined_11 : decode cX1_joined 11 = .ok (.iload_n 2, 1) := by decide +kernel
theorem dX1_joined_12 : decode cX1_joined 12 = .ok (.invokestatic 46, 3) := by decide +kernel
theorem dX1_joined_15 : decode cX1_joined 15 = .ok (.istore 4, 2) := by decide +kernel
theorem dX1_joined_17 : decode cX1_joined 17 = .ok (.iload_n 3, 1) := by decide +kernel
theorem dX1_joined_18 : decode cX1_joined 18 = .ok (.bipush 7, 2) := by decide +kernel
theorem dX1_joined_20 : decode cX1_joined 20 = .ok (.if_icmp .eq 13, 3) := by decide +kernel
theorem dX1_joined_23 : decode cX1_joined 23 = .ok (.iload_n 0, 1) := by decide +kernel
theorem dX1_joined_24 : decode cX1_joined 24 = .ok (.bipush 7, 2) := by decide +kernel
theorem dX1_joined_26 : decode cX1_joined 26 = .ok (.invokestatic 46, 3) := by decide +kernel
theorem dX1_joined_29 : decode cX1_joined 29 = .ok (.iconst 1, 1) := by decide +kernel
theorem dX1_joined_30 : decode cX1_joined 30 = .ok (.if_icmp .ne 5, 3) := by decide +kernel
theorem dX1_joined_33 : decode cX1_joined 33 = .ok (.iconst (-1), 1) := by decide +kernel
theorem dX1_joined_34 : decode cX1_joined 34 = .ok (.ireturn, 1) := by decide +kernel
theorem dX1_joined_35 : decode cX1_joined 35 = .ok (.iload_n 0, 1) := by decide +kernel
theorem dX1_joined_36 : decode cX1_joined 36 = .ok (.iload_n 1, 1) := by decide +kernel
theorem dX1_joined_37 : decode cX1_joined 37 = .ok (.bipush 7, 2) := by decide +kernel
theorem dX1_joined_39 : decode cX1_joined 39 = .ok (.invokestatic 57, 3) := by decide +kernel
theorem dX1_joined_42 : decode cX1_joined 42 = .ok (.iload_n 2, 1) := by decide +kernel
theorem dX1_joined_43 : decode cX1_joined 43 = .ok (.bipush 7, 2) := by decide +kernel
theorem dX1_joined_45 : decode cX1_joined 45 = .ok (.invokestatic 57, 3) := by decide +kernel
theorem dX1_joined_48 : decode cX1_joined 48 = .ok (.istore 5, 2) := by decide +kernel
theorem dX1_joined_50 : decode cX1_joined 50 = .ok (.iload_n 3, 1) := by decide +kernel
theorem dX1_joined_51 : decode cX1_joined 51 = .ok (.iload_n 2, 1) := by decide +kernel
theorem dX1_joined_52 : decode cX1_joined 52 = .ok (.if_icmp .eq 18, 3) := by decide +kernel
theorem dX1_joined_55 : decode cX1_joined 55 = .ok (.iload 5, 2) := by decide +kernel
theorem dX1_joined_57 : decode cX1_joined 57 = .ok (.iload_n 3, 1) := by decide +kernel
theorem dX1_joined_58 : decode cX1_joined 58 = .ok (.iload 4, 2) := by decide +kernel
theorem dX1_joined_60 : decode cX1_joined 60 = .ok (.invokestatic 57, 3) := by decide +kernel
theorem dX1_joined_63 : decode cX1_joined 63 = .ok (.iload 4, 2) := by decide +kernel
theorem dX1_joined_65 : decode cX1_joined 65 = .ok (.iload_n 3, 1) := by decide +kernel
theorem dX1_joined_66 : decode cX1_joined 66 = .ok (.invokestatic 57, 3) := by decide +kernel
theorem dX1_joined_69 : decode cX1_joined 69 = .ok (.ireturn, 1) := by decide +kernel
theorem dX1_joined_70 : decode cX1_joined 70 = .ok (.iconst 0, 1) := by decide +kernel
theorem dX1_joined_71 : decode cX1_joined 71 = .ok (.istore 6, 2) := by decide +kernel
theorem dX1_joined_73 : decode cX1_joined 73 = .ok (.iload 6, 2) := by decide +kernel
theorem dX1_joined_75 : decode cX1_joined 75 = .ok (.iconst 4, 1) := by decide +kernel
theorem dX1_joined_76 : decode cX1_joined 76 = .ok (.if_icmp .ge 26, 3) := by decide +kernel
theorem dX1_joined_79 : decode cX1_joined 79 = .ok (.iload 5, 2) := by decide +kernel
theorem dX1_joined_81 : decode cX1_joined 81 = .ok (.iload 6, 2) := by decide +kernel
theorem dX1_joined_83 : decode cX1_joined 83 = .ok (.invokestatic 46, 3) := by decide +kernel
theorem dX1_joined_86 : decode cX1_joined 86 = .ok (.iload 6, 2) := by decide +kernel
theorem dX1_joined_88 : decode cX1_joined 88 = .ok (.invokestatic 53, 3) := by decide +kernel
theorem dX1_joined_91 : decode cX1_joined 91 = .ok (.ifCond .eq 5, 3) := by decide +kernel
theorem dX1_joined_94 : decode cX1_joined 94 = .ok (.iconst (-1), 1) := by decide +kernel
theorem dX1_joined_95 : decode cX1_joined 95 = .ok (.ireturn, 1) := by decide +kernel
theorem dX1_joined_96 : decode cX1_joined 96 = .ok (.iinc 6 1, 3) := by decide +kernel
theorem dX1_joined_99 : decode cX1_joined 99 = .ok (.goto (-26), 3) := by decide +kernel
theorem dX1_joined_102 : decode cX1_joined 102 = .ok (.iload 5, 2) := by decide +kernel
theorem dX1_joined_104 : decode cX1_joined 104 = .ok (.bipush 7, 2) := by decide +kernel
theorem dX1_joined_106 : decode cX1_joined 106 = .ok (.iconst 1, 1) := by decide +kernel
theorem dX1_joined_107 : decode cX1_joined 107 = .ok (.invokestatic 57, 3) := by decide +kernel
theorem dX1_joined_110 : decode cX1_joined 110 = .ok (.ireturn, 1) := by decide +kernel
theorem dX1_ended_0 : decode cX1_ended 0 = .ok (.iload_n 0, 1) := by decide +kernel
theorem dX1_ended_1 : decode cX1_ended 1 = .ok (.iconst (-1), 1) := by decide +kernel
theorem dX1_ended_2 : decode cX1_ended 2 = .ok (.if_icmp .eq 15, 3) := by decide +kernel
theorem dX1_ended_5 : decode cX1_ended 5 = .ok (.iload_n 0, 1) := by decide +kernel
theorem dX1_ended_6 : decode cX1_ended 6 = .ok (.iload_n 1, 1) := by decide +kernel
theorem dX1_ended_7 : decode cX1_ended 7 = .ok (.invokestatic 46, 3) := by decide +kernel
theorem dX1_ended_10 : decode cX1_ended 10 = .ok (.iload_n 1, 1) := by decide +kernel
theorem dX1_ended_11 : decode cX1_ended 11 = .ok (.invokestatic 53, 3) := by decide +kernel
theorem dX1_ended_14 : decode cX1_ended 14 = .ok (.ifCond .eq 5, 3) := by decide +kernel
theorem dX1_ended_17 : decode cX1_ended 17 = .ok (.iconst (-1), 1) := by decide +kernel
theorem dX1_ended_18 : decode cX1_ended 18 = .ok (.ireturn, 1) := by decide +kernel
theorem dX1_ended_19 : decode cX1_ended 19 = .ok (.iload_n 0, 1) := by decide +kernel
theorem dX1_ended_20 : decode cX1_ended 20 = .ok (.iload_n 1, 1) := by decide +kernel
theorem dX1_ended_21 : decode cX1_ended 21 = .ok (.iload_n 1, 1) := by decide +kernel
theorem dX1_ended_22 : decode cX1_ended 22 = .ok (.invokestatic 57, 3) := by decide +kernel
theorem dX1_ended_25 : decode cX1_ended 25 = .ok (.ireturn, 1) := by decide +kernel
theorem dX1_sideAfter_0 : decode cX1_sideAfter 0 = .ok (.iload_n 1, 1) := by decide +kernel
theorem dX1_sideAfter_1 : decode cX1_sideAfter 1 = .ok (.iconst (-1), 1) := by decide +kernel
theorem dX1_sideAfter_2 : decode cX1_sideAfter 2 = .ok (.if_icmp .eq 27, 3) := by decide +kernel
theorem dX1_sideAfter_5 : decode cX1_sideAfter 5 = .ok (.iload_n 2, 1) := by decide +kernel
theorem dX1_sideAfter_6 : decode cX1_sideAfter 6 = .ok (.ifCond .lt 23, 3) := by decide +kernel
theorem dX1_sideAfter_9 : decode cX1_sideAfter 9 = .ok (.iload_n 2, 1) := by decide +kernel
theorem dX1_sideAfter_10 : decode cX1_sideAfter 10 = .ok (.aload_n 0, 1) := by decide +kernel
theorem dX1_sideAfter_11 : decode cX1_sideAfter 11 = .ok (.getfield 11, 3) := by decide +kernel
theorem dX1_sideAfter_14 : decode cX1_sideAfter 14 = .ok (.if_icmp .ge 15, 3) := by decide +kernel
theorem dX1_sideAfter_17 : decode cX1_sideAfter 17 = .ok (.iload_n 3, 1) := by decide +kernel
theorem dX1_sideAfter_18 : decode cX1_sideAfter 18 = .ok (.ifCond .lt 11, 3) := by decide +kernel
theorem dX1_sideAfter_21 : decode cX1_sideAfter 21 = .ok (.iload_n 3, 1) := by decide +kernel
theorem dX1_sideAfter_22 : decode cX1_sideAfter 22 = .ok (.aload_n 0, 1) := by decide +kernel
theorem dX1_sideAfter_23 : decode cX1_sideAfter 23 = .ok (.getfield 15, 3) := by decide +kernel
theorem dX1_sideAfter_26 : decode cX1_sideAfter 26 = .ok (.if_icmp .lt 5, 3) := by decide +kernel
theorem dX1_sideAfter_29 : decode cX1_sideAfter 29 = .ok (.iload_n 1, 1) := by decide +kernel
theorem dX1_sideAfter_30 : decode cX1_sideAfter 30 = .ok (.ireturn, 1) := by decide +kernel
theorem dX1_sideAfter_31 : decode cX1_sideAfter 31 = .ok (.aload_n 0, 1) := by decide +kernel
theorem dX1_sideAfter_32 : decode cX1_sideAfter 32 = .ok (.getfield 32, 3) := by decide +kernel
theorem dX1_sideAfter_35 : decode cX1_sideAfter 35 = .ok (.iload_n 2, 1) := by decide +kernel
theorem dX1_sideAfter_36 : decode cX1_sideAfter 36 = .ok (.aload_n 0, 1) := by decide +kernel
theorem dX1_sideAfter_37 : decode cX1_sideAfter 37 = .ok (.getfield 15, 3) := by decide +kernel
theorem dX1_sideAfter_40 : decode cX1_sideAfter 40 = .ok (.imul, 1) := by decide +kernel
theorem dX1_sideAfter_41 : decode cX1_sideAfter 41 = .ok (.iload_n 3, 1) := by decide +kernel
theorem dX1_sideAfter_42 : decode cX1_sideAfter 42 = .ok (.iadd, 1) := by decide +kernel
theorem dX1_sideAfter_43 : decode cX1_sideAfter 43 = .ok (.iaload, 1) := by decide +kernel
theorem dX1_sideAfter_44 : decode cX1_sideAfter 44 = .ok (.istore 6, 2) := by decide +kernel
theorem dX1_sideAfter_46 : decode cX1_sideAfter 46 = .ok (.iload 6, 2) := by decide +kernel
theorem dX1_sideAfter_48 : decode cX1_sideAfter 48 = .ok (.iconst (-1), 1) := by decide +kernel
theorem dX1_sideAfter_49 : decode cX1_sideAfter 49 = .ok (.if_icmp .ne 5, 3) := by decide +kernel
theorem dX1_sideAfter_52 : decode cX1_sideAfter 52 = .ok (.iload_n 1, 1) := by decide +kernel
theorem dX1_sideAfter_53 : decode cX1_sideAfter 53 = .ok (.ireturn, 1) := by decide +kernel
theorem dX1_sideAfter_54 : decode cX1_sideAfter 54 = .ok (.iload_n 1, 1) := by decide +kernel
theorem dX1_sideAfter_55 : decode cX1_sideAfter 55 = .ok (.iconst 4, 1) := by decide +kernel
theorem dX1_sideAfter_56 : decode cX1_sideAfter 56 = .ok (.iload_n 3, 1) := by decide +kernel
theorem dX1_sideAfter_57 : decode cX1_sideAfter 57 = .ok (.iadd, 1) := by decide +kernel
theorem dX1_sideAfter_58 : decode cX1_sideAfter 58 = .ok (.invokestatic 46, 3) := by decide +kernel
theorem dX1_sideAfter_61 : decode cX1_sideAfter 61 = .ok (.iload 4, 2) := by decide +kernel
theorem dX1_sideAfter_63 : decode cX1_sideAfter 63 = .ok (.ifCond .eq 7, 3) := by decide +kernel
theorem dX1_sideAfter_66 : decode cX1_sideAfter 66 = .ok (.iconst 1, 1) := by decide +kernel
theorem dX1_sideAfter_67 : decode cX1_sideAfter 67 = .ok (.goto 4, 3) := by decide +kernel
theorem dX1_sideAfter_70 : decode cX1_sideAfter 70 = .ok (.iconst 0, 1) := by decide +kernel
theorem dX1_sideAfter_71 : decode cX1_sideAfter 71 = .ok (.iadd, 1) := by decide +kernel
theorem dX1_sideAfter_72 : decode cX1_sideAfter 72 = .ok (.istore 7, 2) := by decide +kernel
theorem dX1_sideAfter_74 : decode cX1_sideAfter 74 = .ok (.iload 7, 2) := by decide +kernel
theorem dX1_sideAfter_76 : decode cX1_sideAfter 76 = .ok (.iload 6, 2) := by decide +kernel
theorem dX1_sideAfter_78 : decode cX1_sideAfter 78 = .ok (.if_icmp .gt 15, 3) := by decide +kernel
theorem dX1_sideAfter_81 : decode cX1_sideAfter 81 = .ok (.iload 5, 2) := by decide +kernel
theorem dX1_sideAfter_83 : decode cX1_sideAfter 83 = .ok (.ifCond .eq 12, 3) := by decide +kernel
theorem dX1_sideAfter_86 : decode cX1_sideAfter 86 = .ok (.iload 7, 2) := by decide +kernel
theorem dX1_sideAfter_88 : decode cX1_sideAfter 88 = .ok (.iload 6, 2) := by decide +kernel
theorem dX1_sideAfter_90 : decode cX1_sideAfter 90 = .ok (.if_icmp .ge 5, 3) := by decide +kernel
theorem dX1_sideAfter_93 : decode cX1_sideAfter 93 = .ok (.iconst (-1), 1) := by decide +kernel
theorem dX1_sideAfter_94 : decode cX1_sideAfter 94 = .ok (.ireturn, 1) := by decide +kernel
theorem dX1_sideAfter_95 : decode cX1_sideAfter 95 = .ok (.iload_n 1, 1) := by decide +kernel
theorem dX1_sideAfter_96 : decode cX1_sideAfter 96 = .ok (.iconst 4, 1) := by decide +kernel
theorem dX1_sideAfter_97 : decode cX1_sideAfter 97 = .ok (.iload_n 3, 1) := by decide +kernel
theorem dX1_sideAfter_98 : decode cX1_sideAfter 98 = .ok (.iadd, 1) := by decide +kernel
theorem dX1_sideAfter_99 : decode cX1_sideAfter 99 = .ok (.iload 5, 2) := by decide +kernel
theorem dX1_sideAfter_101 : decode cX1_sideAfter 101 = .ok (.ifCond .eq 7, 3) := by decide +kernel
theorem dX1_sideAfter_104 : decode cX1_sideAfter 104 = .ok (.iconst 0, 1) := by decide +kernel
theorem dX1_sideAfter_105 : decode cX1_sideAfter 105 = .ok (.goto 5, 3) := by decide +kernel
theorem dX1_sideAfter_108 : decode cX1_sideAfter 108 = .ok (.iload 7, 2) := by decide +kernel
theorem dX1_sideAfter_110 : decode cX1_sideAfter 110 = .ok (.invokestatic 57, 3) := by decide +kernel
theorem dX1_sideAfter_113 : decode cX1_sideAfter 113 = .ok (.ireturn, 1) := by decide +kernel
theorem dX1_isPathEnd_0 : decode cX1_isPathEnd 0 = .ok (.iload_n 0, 1) := by decide +kernel
theorem dX1_isPathEnd_1 : decode cX1_isPathEnd 1 = .ok (.iload_n 1, 1) := by decide +kernel
theorem dX1_isPathEnd_2 : decode cX1_isPathEnd 2 = .ok (.if_icmp .eq 13, 3) := by decide +kernel
theorem dX1_isPathEnd_5 : decode cX1_isPathEnd 5 = .ok (.iload_n 0, 1) := by decide +kernel
theorem dX1_isPathEnd_6 : decode cX1_isPathEnd 6 = .ok (.bipush 7, 2) := by decide +kernel
theorem dX1_isPathEnd_8 : decode cX1_isPathEnd 8 = .ok (.if_icmp .eq 7, 3) := by decide +kernel
theorem dX1_isPathEnd_11 : decode cX1_isPathEnd 11 = .ok (.iconst 1, 1) := by decide +kernel
theorem dX1_isPathEnd_12 : decode cX1_isPathEnd 12 = .ok (.goto 4, 3) := by decide +kernel
theorem dX1_isPathEnd_15 : decode cX1_isPathEnd 15 = .ok (.iconst 0, 1) := by decide +kernel
theorem dX1_isPathEnd_16 : decode cX1_isPathEnd 16 = .ok (.ireturn, 1) := by decide +kernel
theorem dX1_slot_0 : decode cX1_slot 0 = .ok (.iload_n 0, 1) := by decide +kernel
theorem dX1_slot_1 : decode cX1_slot 1 = .ok (.iconst 3, 1) := by decide +kernel
theorem dX1_slot_2 : decode cX1_slot 2 = .ok (.iload_n 1, 1) := by decide +kernel
theorem dX1_slot_3 : decode cX1_slot 3 = .ok (.imul, 1) := by decide +kernel
theorem dX1_slot_4 : decode cX1_slot 4 = .ok (.ishr, 1) := by decide +kernel
theorem dX1_slot_5 : decode cX1_slot 5 = .ok (.bipush 7, 2) := by decide +kernel
theorem dX1_slot_7 : decode cX1_slot 7 = .ok (.iand, 1) := by decide +kernel
theorem dX1_slot_8 : decode cX1_slot 8 = .ok (.ireturn, 1) := by decide +kernel
theorem dX1_put_0 : decode cX1_put 0 = .ok (.iload_n 0, 1) := by decide +kernel
theorem dX1_put_1 : decode cX1_put 1 = .ok (.bipush 7, 2) := by decide +kernel
theorem dX1_put_3 : decode cX1_put 3 = .ok (.iconst 3, 1) := by decide +kernel
theorem dX1_put_4 : decode cX1_put 4 = .ok (.iload_n 1, 1) := by decide +kernel
theorem dX1_put_5 : decode cX1_put 5 = .ok (.imul, 1) := by decide +kernel
theorem dX1_put_6 : decode cX1_put 6 = .ok (.ishl, 1) := by decide +kernel
theorem dX1_put_7 : decode cX1_put 7 = .ok (.iconst (-1), 1) := by decide +kernel
theorem dX1_put_8 : decode cX1_put 8 = .ok (.ixor, 1) := by decide +kernel
theorem dX1_put_9 : decode cX1_put 9 = .ok (.iand, 1) := by decide +kernel
theorem dX1_put_10 : decode cX1_put 10 = .ok (.iload_n 2, 1) := by decide +kernel
theorem dX1_put_11 : decode cX1_put 11 = .ok (.iconst 3, 1) := by decide +kernel
theorem dX1_put_12 : decode cX1_put 12 = .ok (.iload_n 1, 1) := by decide +kernel
theorem dX1_put_13 : decode cX1_put 13 = .ok (.imul, 1) := by decide +kernel
theorem dX1_put_14 : decode cX1_put 14 = .ok (.ishl, 1) := by decide +kernel
theorem dX1_put_15 : decode cX1_put 15 = .ok (.ior, 1) := by decide +kernel
theorem dX1_put_16 : decode cX1_put 16 = .ok (.ireturn, 1) := by decide +kernel
theorem dX2_init_0 : decode cX2_init 0 = .ok (.aload_n 0, 1) := by decide +kernel
theorem dX2_init_1 : decode cX2_init 1 = .ok (.invokespecial 1, 3) := by decide +kernel
theorem dX2_init_4 : decode cX2_init 4 = .ok (.iload_n 1, 1) := by decide +kernel
theorem dX2_init_5 : decode cX2_init 5 = .ok (.iconst 1, 1) := by decide +kernel
theorem dX2_init_6 : decode cX2_init 6 = .ok (.if_icmp .lt 12, 3) := by decide +kernel
theorem dX2_init_9 : decode cX2_init 9 = .ok (.iload_n 1, 1) := by decide +kernel
theorem dX2_init_10 : decode cX2_init 10 = .ok (.iconst 4, 1) := by decide +kernel
theorem dX2_init_11 : decode cX2_init 11 = .ok (.if_icmp .gt 7, 3) := by decide +kernel
theorem dX2_init_14 : decode cX2_init 14 = .ok (.iconst 1, 1) := by decide +kernel
theorem dX2_init_15 : decode cX2_init 15 = .ok (.goto 4, 3) := by decide +kernel
theorem dX2_init_18 : decode cX2_init 18 = .ok (.iconst 0, 1) := by decide +kernel
theorem dX2_init_19 : decode cX2_init 19 = .ok (.istore_n 3, 1) := by decide +kernel
theorem dX2_init_20 : decode cX2_init 20 = .ok (.iload_n 2, 1) := by decide +kernel
theorem dX2_init_21 : decode cX2_init 21 = .ok (.iconst 1, 1) := by decide +kernel
theorem dX2_init_22 : decode cX2_init 22 = .ok (.if_icmp .lt 12, 3) := by decide +kernel
theorem dX2_init_25 : decode cX2_init 25 = .ok (.iload_n 2, 1) := by decide +kernel
theorem dX2_init_26 : decode cX2_init 26 = .ok (.iconst 3, 1) := by decide +kernel
theorem dX2_init_27 : decode cX2_init 27 = .ok (.if_icmp .gt 7, 3) := by decide +kernel
theorem dX2_init_30 : decode cX2_init 30 = .ok (.iconst 1, 1) := by decide +kernel
theorem dX2_init_31 : decode cX2_init 31 = .ok (.goto 4, 3) := by decide +kernel
theorem dX2_init_34 : decode cX2_init 34 = .ok (.iconst 0, 1) := by decide +kernel
theorem dX2_init_35 : decode cX2_init 35 = .ok (.istore 4, 2) := by decide +kernel
theorem dX2_init_37 : decode cX2_init 37 = .ok (.aload_n 0, 1) := by decide +kernel
theorem dX2_init_38 : decode cX2_init 38 = .ok (.new 9, 3) := by decide +kernel
theorem dX2_init_41 : decode cX2_init 41 = .ok (.dup, 1) := by decide +kernel
theorem dX2_init_42 : decode cX2_init 42 = .ok (.iload_n 3, 1) := by decide +kernel
theorem dX2_init_43 : decode cX2_init 43 = .ok (.ifCond .eq 7, 3) := by decide +kernel
theorem dX2_init_46 : decode cX2_init 46 = .ok (.iload_n 1, 1) := by decide +kernel
theorem dX2_init_47 : decode cX2_init 47 = .ok (.goto 4, 3) := by decide +kernel
theorem dX2_init_50 : decode cX2_init 50 = .ok (.iconst 2, 1) := by decide +kernel
theorem dX2_init_51 : decode cX2_init 51 = .ok (.iload 4, 2) := by decide +kernel
theorem dX2_init_53 : decode cX2_init 53 = .ok (.ifCond .eq 7, 3) := by decide +kernel
theorem dX2_init_56 : decode cX2_init 56 = .ok (.iload_n 2, 1) := by decide +kernel
theorem dX2_init_57 : decode cX2_init 57 = .ok (.goto 4, 3) := by decide +kernel
theorem dX2_init_60 : decode cX2_init 60 = .ok (.iconst 2, 1) := by decide +kernel
theorem dX2_init_61 : decode cX2_init 61 = .ok (.invokespecial 11, 3) := by decide +kernel
theorem dX2_init_64 : decode cX2_init 64 = .ok (.putfield 14, 3) := by decide +kernel
theorem dX2_init_67 : decode cX2_init 67 = .ok (.aload_n 0, 1) := by decide +kernel
theorem dX2_init_68 : decode cX2_init 68 = .ok (.new 18, 3) := by decide +kernel
theorem dX2_init_71 : decode cX2_init 71 = .ok (.dup, 1) := by decide +kernel
theorem dX2_init_72 : decode cX2_init 72 = .ok (.aload_n 0, 1) := by decide +kernel
theorem dX2_init_73 : decode cX2_init 73 = .ok (.getfield 14, 3) := by decide +kernel
theorem dX2_init_76 : decode cX2_init 76 = .ok (.invokespecial 20, 3) := by decide +kernel
theorem dX2_init_79 : decode cX2_init 79 = .ok (.putfield 23, 3) := by decide +kernel
theorem dX2_init_82 : decode cX2_init 82 = .ok (.aload_n 0, 1) := by decide +kernel
theorem dX2_init_83 : decode cX2_init 83 = .ok (.iconst 0, 1) := by decide +kernel
theorem dX2_init_84 : decode cX2_init 84 = .ok (.putfield 27, 3) := by decide +kernel
theorem dX2_init_87 : decode cX2_init 87 = .ok (.aload_n 0, 1) := by decide +kernel
theorem dX2_init_88 : decode cX2_init 88 = .ok (.iconst 1, 1) := by decide +kernel
theorem dX2_init_89 : decode cX2_init 89 = .ok (.putfield 31, 3) := by decide +kernel
theorem dX2_init_92 : decode cX2_init 92 = .ok (.return_, 1) := by decide +kernel
theorem dX2_edges_0 : decode cX2_edges 0 = .ok (.aload_n 0, 1) := by decide +kernel
theorem dX2_edges_1 : decode cX2_edges 1 = .ok (.getfield 14, 3) := by decide +kernel
theorem dX2_edges_4 : decode cX2_edges 4 = .ok (.getfield 35, 3) := by decide +kernel
theorem dX2_edges_7 : decode cX2_edges 7 = .ok (.ireturn, 1) := by decide +kernel
theorem dX2_point_0 : decode cX2_point 0 = .ok (.aload_n 0, 1) := by decide +kernel
theorem dX2_point_1 : decode cX2_point 1 = .ok (.iload_n 1, 1) := by decide +kernel
theorem dX2_point_2 : decode cX2_point 2 = .ok (.invokevirtual 38, 3) := by decide +kernel
theorem dX2_point_5 : decode cX2_point 5 = .ok (.ifCond .eq 11, 3) := by decide +kernel
theorem dX2_point_8 : decode cX2_point 8 = .ok (.new 42, 3) := by decide +kernel
theorem dX2_point_11 : decode cX2_point 11 = .ok (.dup, 1) := by decide +kernel
theorem dX2_point_12 : decode cX2_point 12 = .ok (.invokespecial 44, 3) := by decide +kernel
theorem dX2_point_15 : decode cX2_point 15 = .ok (.athrow, 1) := by decide +kernel
theorem dX2_point_16 : decode cX2_point 16 = .ok (.aload_n 0, 1) := by decide +kernel
theorem dX2_point_17 : decode cX2_point 17 = .ok (.getfield 14, 3) := by decide +kernel
theorem dX2_point_20 : decode cX2_point 20 = .ok (.getfield 45, 3) := by decide +kernel
theorem dX2_point_23 : decode cX2_point 23 = .ok (.iload_n 1, 1) := by decide +kernel
theorem dX2_point_24 : decode cX2_point 24 = .ok (.iaload, 1) := by decide +kernel
theorem dX2_point_25 : decode cX2_point 25 = .ok (.aload_n 0, 1) := by decide +kernel
theorem dX2_point_26 : decode cX2_point 26 = .ok (.getfield 14, 3) := by decide +kernel
theorem dX2_point_29 : decode cX2_point 29 = .ok (.getfield 49, 3) := by decide +kernel
theorem dX2_point_32 : decode cX2_point 32 = .ok (.iconst 1, 1) := by decide +kernel
theorem dX2_point_33 : decode cX2_point 33 = .ok (.iadd, 1) := by decide +kernel
theorem dX2_point_34 : decode cX2_point 34 = .ok (.imul, 1) := by decide +kernel
theorem dX2_point_35 : decode cX2_point 35 = .ok (.aload_n 0, 1) := by decide +kernel
theorem dX2_point_36 : decode cX2_point 36 = .ok (.getfield 14, 3) := by decide +kernel
theorem dX2_point_39 : decode cX2_point 39 = .ok (.getfield 52, 3) := by decide +kernel
theorem dX2_point_42 : decode cX2_point 42 = .ok (.iload_n 1, 1) := by decide +kernel
theorem dX2_point_43 : decode cX2_point 43 = .ok (.iaload, 1) := by decide +kernel
theorem dX2_point_44 : decode cX2_point 44 = .ok (.iadd, 1) := by decide +kernel
theorem dX2_point_45 : decode cX2_point 45 = .ok (.istore_n 3, 1) := by decide +kernel
theorem dX2_point_46 : decode cX2_point 46 = .ok (.iload_n 2, 1) := by decide +kernel
theorem dX2_point_47 : decode cX2_point 47 = .ok (.ifCond .ne 5, 3) := by decide +kernel
theorem dX2_point_50 : decode cX2_point 50 = .ok (.iload_n 3, 1) := by decide +kernel
theorem dX2_point_51 : decode cX2_point 51 = .ok (.ireturn, 1) := by decide +kernel
theorem dX2_point_52 : decode cX2_point 52 = .ok (.aload_n 0, 1) := by decide +kernel
theorem dX2_point_53 : decode cX2_point 53 = .ok (.getfield 14, 3) := by decide +kernel
theorem dX2_point_56 : decode cX2_point 56 = .ok (.getfield 55, 3) := by decide +kernel
theorem dX2_point_59 : decode cX2_point 59 = .ok (.iload_n 1, 1) := by decide +kernel
theorem dX2_point_60 : decode cX2_point 60 = .ok (.baload, 1) := by decide +kernel
theorem dX2_point_61 : decode cX2_point 61 = .ok (.ifCond .eq 17, 3) := by decide +kernel
theorem dX2_point_64 : decode cX2_point 64 = .ok (.iload_n 3, 1) := by decide +kernel
theorem dX2_point_65 : decode cX2_point 65 = .ok (.aload_n 0, 1) := by decide +kernel
theorem dX2_point_66 : decode cX2_point 66 = .ok (.getfield 14, 3) := by decide +kernel
theorem dX2_point_69 : decode cX2_point 69 = .ok (.getfield 49, 3) := by decide +kernel
theorem dX2_point_72 : decode cX2_point 72 = .ok (.iadd, 1) := by decide +kernel
theorem dX2_point_73 : decode cX2_point 73 = .ok (.iconst 1, 1) := by decide +kernel
theorem dX2_point_74 : decode cX2_point 74 = .ok (.iadd, 1) := by decide +kernel
theorem dX2_point_75 : decode cX2_point 75 = .ok (.goto 6, 3) := by decide +kernel
theorem dX2_point_78 : decode cX2_point 78 = .ok (.iload_n 3, 1) := by decide +kernel
theorem dX2_point_79 : decode cX2_point 79 = .ok (.iconst 1, 1) := by decide +kernel
theorem dX2_point_80 : decode cX2_point 80 = .ok (.iadd, 1) := by decide +kernel
theorem dX2_point_81 : decode cX2_point 81 = .ok (.ireturn, 1) := by decide +kernel
theorem dX2_clue_0 : decode cX2_clue 0 = .ok (.aload_n 0, 1) := by decide +kernel
theorem dX2_clue_1 : decode cX2_clue 1 = .ok (.iload_n 1, 1) := by decide +kernel
theorem dX2_clue_2 : decode cX2_clue 2 = .ok (.iload_n 2, 1) := by decide +kernel
theorem dX2_clue_3 : decode cX2_clue 3 = .ok (.invokevirtual 59, 3) := by decide +kernel
theorem dX2_clue_6 : decode cX2_clue 6 = .ok (.ifCond .eq 11, 3) := by decide +kernel
theorem dX2_clue_9 : decode cX2_clue 9 = .ok (.new 42, 3) := by decide +kernel
theorem dX2_clue_12 : decode cX2_clue 12 = .ok (.dup, 1) := by decide +kernel
theorem dX2_clue_13 : decode cX2_clue 13 = .ok (.invokespecial 44, 3) := by decide +kernel
theorem dX2_clue_16 : decode cX2_clue 16 = .ok (.athrow, 1) := by decide +kernel
theorem dX2_clue_17 : decode cX2_clue 17 = .ok (.iload_n 3, 1) := by decide +kernel
theorem dX2_clue_18 : decode cX2_clue 18 = .ok (.iconst (-1), 1) := by decide +kernel
theorem dX2_clue_19 : decode cX2_clue 19 = .ok (.if_icmp .lt 8, 3) := by decide +kernel
theorem dX2_clue_22 : decode cX2_clue 22 = .ok (.iload_n 3, 1) := by decide +kernel
theorem dX2_clue_23 : decode cX2_clue 23 = .ok (.iconst 4, 1) := by decide +kernel
theorem dX2_clue_24 : decode cX2_clue 24 = .ok (.if_icmp .le 11, 3) := by decide +kernel
theorem dX2_clue_27 : decode cX2_clue 27 = .ok (.new 63, 3) := by decide +kernel
theorem dX2_clue_30 : decode cX2_clue 30 = .ok (.dup, 1) := by decide +kernel
theorem dX2_clue_31 : decode cX2_clue 31 = .ok (.invokespecial 65, 3) := by decide +kernel
theorem dX2_clue_34 : decode cX2_clue 34 = .ok (.athrow, 1) := by decide +kernel
theorem dX2_clue_35 : decode cX2_clue 35 = .ok (.aload_n 0, 1) := by decide +kernel
theorem dX2_clue_36 : decode cX2_clue 36 = .ok (.iload_n 1, 1) := by decide +kernel
theorem dX2_clue_37 : decode cX2_clue 37 = .ok (.aload_n 0, 1) := by decide +kernel
theorem dX2_clue_38 : decode cX2_clue 38 = .ok (.getfield 14, 3) := by decide +kernel
theorem dX2_clue_41 : decode cX2_clue 41 = .ok (.getfield 49, 3) := by decide +kernel
theorem dX2_clue_44 : decode cX2_clue 44 = .ok (.imul, 1) := by decide +kernel
theorem dX2_clue_45 : decode cX2_clue 45 = .ok (.iload_n 2, 1) := by decide +kernel
theorem dX2_clue_46 : decode cX2_clue 46 = .ok (.iadd, 1) := by decide +kernel
theorem dX2_clue_47 : decode cX2_clue 47 = .ok (.iload_n 3, 1) := by decide +kernel
theorem dX2_clue_48 : decode cX2_clue 48 = .ok (.invokevirtual 66, 3) := by decide +kernel
theorem dX2_clue_51 : decode cX2_clue 51 = .ok (.return_, 1) := by decide +kernel
theorem dX2_count_0 : decode cX2_count 0 = .ok (.aload_n 0, 1) := by decide +kernel
theorem dX2_count_1 : decode cX2_count 1 = .ok (.invokevirtual 69, 3) := by decide +kernel
theorem dX2_count_4 : decode cX2_count 4 = .ok (.getfield 73, 3) := by decide +kernel
theorem dX2_count_7 : decode cX2_count 7 = .ok (.iconst 0, 1) := by decide +kernel
theorem dX2_count_8 : decode cX2_count 8 = .ok (.iaload, 1) := by decide +kernel
theorem dX2_count_9 : decode cX2_count 9 = .ok (.ireturn, 1) := by decide +kernel
theorem dX2_width_0 : decode cX2_width 0 = .ok (.iload_n 1, 1) := by decide +kernel
theorem dX2_width_1 : decode cX2_width 1 = .ok (.ifCond .lt 14, 3) := by decide +kernel
theorem dX2_width_4 : decode cX2_width 4 = .ok (.iload_n 1, 1) := by decide +kernel
theorem dX2_width_5 : decode cX2_width 5 = .ok (.aload_n 0, 1) := by decide +kernel
theorem dX2_width_6 : decode cX2_width 6 = .ok (.getfield 14, 3) := by decide +kernel
theorem dX2_width_9 : decode cX2_width 9 = .ok (.getfield 35, 3) := by decide +kernel
theorem dX2_width_12 : decode cX2_width 12 = .ok (.if_icmp .le 11, 3) := by decide +kernel
theorem dX2_width_15 : decode cX2_width 15 = .ok (.new 42, 3) := by decide +kernel
theorem dX2_width_18 : decode cX2_width 18 = .ok (.dup, 1) := by decide +kernel
theorem dX2_width_19 : decode cX2_width 19 = .ok (.invokespecial 44, 3) := by decide +kernel
theorem dX2_width_22 : decode cX2_width 22 = .ok (.athrow, 1) := by decide +kernel
theorem dX2_width_23 : decode cX2_width 23 = .ok (.aload_n 0, 1) := by decide +kernel
theorem dX2_width_24 : decode cX2_width 24 = .ok (.invokevirtual 69, 3) := by decide +kernel
theorem dX2_width_27 : decode cX2_width 27 = .ok (.astore_n 3, 1) := by decide +kernel
theorem dX2_width_28 : decode cX2_width 28 = .ok (.iload_n 2, 1) := by decide +kernel
theorem dX2_width_29 : decode cX2_width 29 = .ok (.ifCond .eq 11, 3) := by decide +kernel
theorem dX2_width_32 : decode cX2_width 32 = .ok (.aload_n 3, 1) := by decide +kernel
theorem dX2_width_33 : decode cX2_width 33 = .ok (.iload_n 1, 1) := by decide +kernel
theorem dX2_width_34 : decode cX2_width 34 = .ok (.invokevirtual 76, 3) := by decide +kernel
theorem dX2_width_37 : decode cX2_width 37 = .ok (.goto 18, 3) := by decide +kernel
theorem dX2_width_40 : decode cX2_width 40 = .ok (.aload_n 3, 1) := by decide +kernel
theorem dX2_width_41 : decode cX2_width 41 = .ok (.getfield 80, 3) := by decide +kernel
theorem dX2_width_44 : decode cX2_width 44 = .ok (.iload_n 1, 1) := by decide +kernel
theorem dX2_width_45 : decode cX2_width 45 = .ok (.iconst 1, 1) := by decide +kernel
theorem dX2_width_46 : decode cX2_width 46 = .ok (.iadd, 1) := by decide +kernel
theorem dX2_width_47 : decode cX2_width 47 = .ok (.iaload, 1) := by decide +kernel
theorem dX2_width_48 : decode cX2_width 48 = .ok (.aload_n 3, 1) := by decide +kernel
theorem dX2_width_49 : decode cX2_width 49 = .ok (.getfield 80, 3) := by decide +kernel
theorem dX2_width_52 : decode cX2_width 52 = .ok (.iload_n 1, 1) := by decide +kernel
theorem dX2_width_53 : decode cX2_width 53 = .ok (.iaload, 1) := by decide +kernel
theorem dX2_width_54 : decode cX2_width 54 = .ok (.isub, 1) := by decide +kernel
theorem dX2_width_55 : decode cX2_width 55 = .ok (.ireturn, 1) := by decide +kernel
theorem dX2_nodes_0 : decode cX2_nodes 0 = .ok (.aload_n 0, 1) := by decide +kernel
theorem dX2_nodes_1 : decode cX2_nodes 1 = .ok (.invokevirtual 69, 3) := by decide +kernel
theorem dX2_nodes_4 : decode cX2_nodes 4 = .ok (.getfield 83, 3) := by decide +kernel
theorem dX2_nodes_7 : decode cX2_nodes 7 = .ok (.ireturn, 1) := by decide +kernel
theorem dX2_has_0 : decode cX2_has 0 = .ok (.aload_n 0, 1) := by decide +kernel
theorem dX2_has_1 : decode cX2_has 1 = .ok (.invokevirtual 69, 3) := by decide +kernel
theorem dX2_has_4 : decode cX2_has 4 = .ok (.iload_n 1, 1) := by decide +kernel
theorem dX2_has_5 : decode cX2_has 5 = .ok (.invokevirtual 86, 3) := by decide +kernel
theorem dX2_has_8 : decode cX2_has 8 = .ok (.istore_n 3, 1) := by decide +kernel
theorem dX2_has_9 : decode cX2_has 9 = .ok (.iload_n 3, 1) := by decide +kernel
theorem dX2_has_10 : decode cX2_has 10 = .ok (.ifCond .ne 11, 3) := by decide +kernel
theorem dX2_has_13 : decode cX2_has 13 = .ok (.new 89, 3) := by decide +kernel
theorem dX2_has_16 : decode cX2_has 16 = .ok (.dup, 1) := by decide +kernel
theorem dX2_has_17 : decode cX2_has 17 = .ok (.invokespecial 91, 3) := by decide +kernel
theorem dX2_has_20 : decode cX2_has 20 = .ok (.athrow, 1) := by decide +kernel
theorem dX2_has_21 : decode cX2_has 21 = .ok (.aload_n 0, 1) := by decide +kernel
theorem dX2_has_22 : decode cX2_has 22 = .ok (.iload_n 2, 1) := by decide +kernel
theorem dX2_has_23 : decode cX2_has 23 = .ok (.invokevirtual 38, 3) := by decide +kernel
theorem dX2_has_26 : decode cX2_has 26 = .ok (.ifCond .eq 11, 3) := by decide +kernel
theorem dX2_has_29 : decode cX2_has 29 = .ok (.new 42, 3) := by decide +kernel
theorem dX2_has_32 : decode cX2_has 32 = .ok (.dup, 1) := by decide +kernel
theorem dX2_has_33 : decode cX2_has 33 = .ok (.invokespecial 44, 3) := by decide +kernel
theorem dX2_has_36 : decode cX2_has 36 = .ok (.athrow, 1) := by decide +kernel
theorem dX2_has_37 : decode cX2_has 37 = .ok (.iload_n 3, 1) := by decide +kernel
theorem dX2_has_38 : decode cX2_has 38 = .ok (.iload_n 2, 1) := by decide +kernel
theorem dX2_has_39 : decode cX2_has 39 = .ok (.invokestatic 92, 3) := by decide +kernel
theorem dX2_has_42 : decode cX2_has 42 = .ok (.ireturn, 1) := by decide +kernel
theorem dX2_length_0 : decode cX2_length 0 = .ok (.aload_n 0, 1) := by decide +kernel
theorem dX2_length_1 : decode cX2_length 1 = .ok (.invokevirtual 69, 3) := by decide +kernel
theorem dX2_length_4 : decode cX2_length 4 = .ok (.iload_n 1, 1) := by decide +kernel
theorem dX2_length_5 : decode cX2_length 5 = .ok (.invokevirtual 86, 3) := by decide +kernel
theorem dX2_length_8 : decode cX2_length 8 = .ok (.istore_n 2, 1) := by decide +kernel
theorem dX2_length_9 : decode cX2_length 9 = .ok (.iload_n 2, 1) := by decide +kernel
theorem dX2_length_10 : decode cX2_length 10 = .ok (.ifCond .ne 11, 3) := by decide +kernel
theorem dX2_length_13 : decode cX2_length 13 = .ok (.new 89, 3) := by decide +kernel
theorem dX2_length_16 : decode cX2_length 16 = .ok (.dup, 1) := by decide +kernel
theorem dX2_length_17 : decode cX2_length 17 = .ok (.invokespecial 91, 3) := by decide +kernel
theorem dX2_length_20 : decode cX2_length 20 = .ok (.athrow, 1) := by decide +kernel
theorem dX2_length_21 : decode cX2_length 21 = .ok (.iload_n 2, 1) := by decide +kernel
theorem dX2_length_22 : decode cX2_length 22 = .ok (.invokestatic 95, 3) := by decide +kernel
theorem dX2_length_25 : decode cX2_length 25 = .ok (.ireturn, 1) := by decide +kernel
theorem dX2_often_0 : decode cX2_often 0 = .ok (.aload_n 0, 1) := by decide +kernel
theorem dX2_often_1 : decode cX2_often 1 = .ok (.iload_n 1, 1) := by decide +kernel
theorem dX2_often_2 : decode cX2_often 2 = .ok (.invokevirtual 38, 3) := by decide +kernel
theorem dX2_often_5 : decode cX2_often 5 = .ok (.ifCond .eq 11, 3) := by decide +kernel
theorem dX2_often_8 : decode cX2_often 8 = .ok (.new 42, 3) := by decide +kernel
theorem dX2_often_11 : decode cX2_often 11 = .ok (.dup, 1) := by decide +kernel
theorem dX2_often_12 : decode cX2_often 12 = .ok (.invokespecial 44, 3) := by decide +kernel
theorem dX2_often_15 : decode cX2_often 15 = .ok (.athrow, 1) := by decide +kernel
theorem dX2_often_16 : decode cX2_often 16 = .ok (.aload_n 0, 1) := by decide +kernel
theorem dX2_often_17 : decode cX2_often 17 = .ok (.invokevirtual 69, 3) := by decide +kernel
theorem dX2_often_20 : decode cX2_often 20 = .ok (.iconst 1, 1) := by decide +kernel
theorem dX2_often_21 : decode cX2_often 21 = .ok (.iload_n 1, 1) := by decide +kernel
theorem dX2_often_22 : decode cX2_often 22 = .ok (.ishl, 1) := by decide +kernel
theorem dX2_often_23 : decode cX2_often 23 = .ok (.invokevirtual 100, 3) := by decide +kernel
theorem dX2_often_26 : decode cX2_often 26 = .ok (.ireturn, 1) := by decide +kernel
theorem dX2_draw_0 : decode cX2_draw 0 = .ok (.aload_n 0, 1) := by decide +kernel
theorem dX2_draw_1 : decode cX2_draw 1 = .ok (.iload_n 1, 1) := by decide +kernel
theorem dX2_draw_2 : decode cX2_draw 2 = .ok (.invokevirtual 38, 3) := by decide +kernel
theorem dX2_draw_5 : decode cX2_draw 5 = .ok (.ifCond .eq 11, 3) := by decide +kernel
theorem dX2_draw_8 : decode cX2_draw 8 = .ok (.new 42, 3) := by decide +kernel
theorem dX2_draw_11 : decode cX2_draw 11 = .ok (.dup, 1) := by decide +kernel
theorem dX2_draw_12 : decode cX2_draw 12 = .ok (.invokespecial 44, 3) := by decide +kernel
theorem dX2_draw_15 : decode cX2_draw 15 = .ok (.athrow, 1) := by decide +kernel
theorem dX2_draw_16 : decode cX2_draw 16 = .ok (.aload_n 0, 1) := by decide +kernel
theorem dX2_draw_17 : decode cX2_draw 17 = .ok (.dup, 1) := by decide +kernel
theorem dX2_draw_18 : decode cX2_draw 18 = .ok (.getfield 27, 3) := by decide +kernel
theorem dX2_draw_21 : decode cX2_draw 21 = .ok (.iconst 1, 1) := by decide +kernel
theorem dX2_draw_22 : decode cX2_draw 22 = .ok (.iload_n 1, 1) := by decide +kernel
theorem dX2_draw_23 : decode cX2_draw 23 = .ok (.ishl, 1) := by decide +kernel
theorem dX2_draw_24 : decode cX2_draw 24 = .ok (.ixor, 1) := by decide +kernel
theorem dX2_draw_25 : decode cX2_draw 25 = .ok (.putfield 27, 3) := by decide +kernel
theorem dX2_draw_28 : decode cX2_draw 28 = .ok (.aload_n 0, 1) := by decide +kernel
theorem dX2_draw_29 : decode cX2_draw 29 = .ok (.getfield 27, 3) := by decide +kernel
theorem dX2_draw_32 : decode cX2_draw 32 = .ok (.iload_n 1, 1) := by decide +kernel
theorem dX2_draw_33 : decode cX2_draw 33 = .ok (.invokestatic 92, 3) := by decide +kernel
theorem dX2_draw_36 : decode cX2_draw 36 = .ok (.ireturn, 1) := by decide +kernel
theorem dX2_copy_0 : decode cX2_copy 0 = .ok (.aload_n 0, 1) := by decide +kernel
theorem dX2_copy_1 : decode cX2_copy 1 = .ok (.invokevirtual 69, 3) := by decide +kernel
theorem dX2_copy_4 : decode cX2_copy 4 = .ok (.iload_n 1, 1) := by decide +kernel
theorem dX2_copy_5 : decode cX2_copy 5 = .ok (.invokevirtual 86, 3) := by decide +kernel
theorem dX2_copy_8 : decode cX2_copy 8 = .ok (.istore_n 2, 1) := by decide +kernel
theorem dX2_copy_9 : decode cX2_copy 9 = .ok (.iload_n 2, 1) := by decide +kernel
theorem dX2_copy_10 : decode cX2_copy 10 = .ok (.ifCond .ne 11, 3) := by decide +kernel
theorem dX2_copy_13 : decode cX2_copy 13 = .ok (.new 89, 3) := by decide +kernel
theorem dX2_copy_16 : decode cX2_copy 16 = .ok (.dup, 1) := by decide +kernel
theorem dX2_copy_17 : decode cX2_copy 17 = .ok (.invokespecial 91, 3) := by decide +kernel
theorem dX2_copy_20 : decode cX2_copy 20 = .ok (.athrow, 1) := by decide +kernel
theorem dX2_copy_21 : decode cX2_copy 21 = .ok (.aload_n 0, 1) := by decide +kernel
theorem dX2_copy_22 : decode cX2_copy 22 = .ok (.iload_n 2, 1) := by decide +kernel
theorem dX2_copy_23 : decode cX2_copy 23 = .ok (.putfield 27, 3) := by decide +kernel
theorem dX2_copy_26 : decode cX2_copy 26 = .ok (.return_, 1) := by decide +kernel
theorem dX2_drawn_0 : decode cX2_drawn 0 = .ok (.aload_n 0, 1) := by decide +kernel
theorem dX2_drawn_1 : decode cX2_drawn 1 = .ok (.getfield 27, 3) := by decide +kernel
theorem dX2_drawn_4 : decode cX2_drawn 4 = .ok (.invokestatic 95, 3) := by decide +kernel
theorem dX2_drawn_7 : decode cX2_drawn 7 = .ok (.ireturn, 1) := by decide +kernel
theorem dX2_isLoop_0 : decode cX2_isLoop 0 = .ok (.sipush 1672, 3) := by decide +kernel
theorem dX2_isLoop_3 : decode cX2_isLoop 3 = .ok (.istore_n 1, 1) := by decide +kernel
theorem dX2_isLoop_4 : decode cX2_isLoop 4 = .ok (.iconst 0, 1) := by decide +kernel
theorem dX2_isLoop_5 : decode cX2_isLoop 5 = .ok (.istore_n 2, 1) := by decide +kernel
theorem dX2_isLoop_6 : decode cX2_isLoop 6 = .ok (.iload_n 2, 1) := by decide +kernel
theorem dX2_isLoop_7 : decode cX2_isLoop 7 = .ok (.aload_n 0, 1) := by decide +kernel
theorem dX2_isLoop_8 : decode cX2_isLoop 8 = .ok (.getfield 14, 3) := by decide +kernel
theorem dX2_isLoop_11 : decode cX2_isLoop 11 = .ok (.getfield 35, 3) := by decide +kernel
theorem dX2_isLoop_14 : decode cX2_isLoop 14 = .ok (.if_icmp .ge 32, 3) := by decide +kernel
theorem dX2_isLoop_17 : decode cX2_isLoop 17 = .ok (.iload_n 1, 1) := by decide +kernel
theorem dX2_isLoop_18 : decode cX2_isLoop 18 = .ok (.iconst (-1), 1) := by decide +kernel
theorem dX2_isLoop_19 : decode cX2_isLoop 19 = .ok (.if_icmp .eq 27, 3) := by decide +kernel
theorem dX2_isLoop_22 : decode cX2_isLoop 22 = .ok (.aload_n 0, 1) := by decide +kernel
theorem dX2_isLoop_23 : decode cX2_isLoop 23 = .ok (.getfield 14, 3) := by decide +kernel
theorem dX2_isLoop_26 : decode cX2_isLoop 26 = .ok (.iload_n 1, 1) := by decide +kernel
theorem dX2_isLoop_27 : decode cX2_isLoop 27 = .ok (.iload_n 2, 1) := by decide +kernel
theorem dX2_isLoop_28 : decode cX2_isLoop 28 = .ok (.aload_n 0, 1) := by decide +kernel
theorem dX2_isLoop_29 : decode cX2_isLoop 29 = .ok (.getfield 27, 3) := by decide +kernel
theorem dX2_isLoop_32 : decode cX2_isLoop 32 = .ok (.iload_n 2, 1) := by decide +kernel
theorem dX2_isLoop_33 : decode cX2_isLoop 33 = .ok (.invokestatic 92, 3) := by decide +kernel
theorem dX2_isLoop_36 : decode cX2_isLoop 36 = .ok (.invokevirtual 103, 3) := by decide +kernel
theorem dX2_isLoop_39 : decode cX2_isLoop 39 = .ok (.istore_n 1, 1) := by decide +kernel
theorem dX2_isLoop_40 : decode cX2_isLoop 40 = .ok (.iinc 2 1, 3) := by decide +kernel
theorem dX2_isLoop_43 : decode cX2_isLoop 43 = .ok (.goto (-37), 3) := by decide +kernel
theorem dX2_isLoop_46 : decode cX2_isLoop 46 = .ok (.iload_n 1, 1) := by decide +kernel
theorem dX2_isLoop_47 : decode cX2_isLoop 47 = .ok (.iconst (-1), 1) := by decide +kernel
theorem dX2_isLoop_48 : decode cX2_isLoop 48 = .ok (.if_icmp .eq 7, 3) := by decide +kernel
theorem dX2_isLoop_51 : decode cX2_isLoop 51 = .ok (.iconst 1, 1) := by decide +kernel
theorem dX2_isLoop_52 : decode cX2_isLoop 52 = .ok (.goto 4, 3) := by decide +kernel
theorem dX2_isLoop_55 : decode cX2_isLoop 55 = .ok (.iconst 0, 1) := by decide +kernel
theorem dX2_isLoop_56 : decode cX2_isLoop 56 = .ok (.ireturn, 1) := by decide +kernel
theorem dX2_rank_0 : decode cX2_rank 0 = .ok (.aload_n 0, 1) := by decide +kernel
theorem dX2_rank_1 : decode cX2_rank 1 = .ok (.invokevirtual 69, 3) := by decide +kernel
theorem dX2_rank_4 : decode cX2_rank 4 = .ok (.aload_n 0, 1) := by decide +kernel
theorem dX2_rank_5 : decode cX2_rank 5 = .ok (.getfield 27, 3) := by decide +kernel
theorem dX2_rank_8 : decode cX2_rank 8 = .ok (.invokevirtual 107, 3) := by decide +kernel
theorem dX2_rank_11 : decode cX2_rank 11 = .ok (.istore_n 1, 1) := by decide +kernel
theorem dX2_rank_12 : decode cX2_rank 12 = .ok (.iload_n 1, 1) := by decide +kernel
theorem dX2_rank_13 : decode cX2_rank 13 = .ok (.iconst (-1), 1) := by decide +kernel
theorem dX2_rank_14 : decode cX2_rank 14 = .ok (.if_icmp .ne 11, 3) := by decide +kernel
theorem dX2_rank_17 : decode cX2_rank 17 = .ok (.new 89, 3) := by decide +kernel
theorem dX2_rank_20 : decode cX2_rank 20 = .ok (.dup, 1) := by decide +kernel
theorem dX2_rank_21 : decode cX2_rank 21 = .ok (.invokespecial 91, 3) := by decide +kernel
theorem dX2_rank_24 : decode cX2_rank 24 = .ok (.athrow, 1) := by decide +kernel
theorem dX2_rank_25 : decode cX2_rank 25 = .ok (.iload_n 1, 1) := by decide +kernel
theorem dX2_rank_26 : decode cX2_rank 26 = .ok (.ireturn, 1) := by decide +kernel
theorem dX2_above_0 : decode cX2_above 0 = .ok (.aload_n 0, 1) := by decide +kernel
theorem dX2_above_1 : decode cX2_above 1 = .ok (.invokevirtual 69, 3) := by decide +kernel
theorem dX2_above_4 : decode cX2_above 4 = .ok (.aload_n 0, 1) := by decide +kernel
theorem dX2_above_5 : decode cX2_above 5 = .ok (.getfield 27, 3) := by decide +kernel
theorem dX2_above_8 : decode cX2_above 8 = .ok (.invokevirtual 100, 3) := by decide +kernel
theorem dX2_above_11 : decode cX2_above 11 = .ok (.ireturn, 1) := by decide +kernel
theorem dX2_alive_0 : decode cX2_alive 0 = .ok (.aload_n 0, 1) := by decide +kernel
theorem dX2_alive_1 : decode cX2_alive 1 = .ok (.invokevirtual 69, 3) := by decide +kernel
theorem dX2_alive_4 : decode cX2_alive 4 = .ok (.aload_n 0, 1) := by decide +kernel
theorem dX2_alive_5 : decode cX2_alive 5 = .ok (.getfield 27, 3) := by decide +kernel
theorem dX2_alive_8 : decode cX2_alive 8 = .ok (.invokevirtual 110, 3) := by decide +kernel
theorem dX2_alive_11 : decode cX2_alive 11 = .ok (.ireturn, 1) := by decide +kernel
theorem dX2_spare_0 : decode cX2_spare 0 = .ok (.aload_n 0, 1) := by decide +kernel
theorem dX2_spare_1 : decode cX2_spare 1 = .ok (.invokevirtual 69, 3) := by decide +kernel
theorem dX2_spare_4 : decode cX2_spare 4 = .ok (.getfield 73, 3) := by decide +kernel
theorem dX2_spare_7 : decode cX2_spare 7 = .ok (.iconst 0, 1) := by decide +kernel
theorem dX2_spare_8 : decode cX2_spare 8 = .ok (.iaload, 1) := by decide +kernel
theorem dX2_spare_9 : decode cX2_spare 9 = .ok (.iconst 1, 1) := by decide +kernel
theorem dX2_spare_10 : decode cX2_spare 10 = .ok (.if_icmp .eq 11, 3) := by decide +kernel
theorem dX2_spare_13 : decode cX2_spare 13 = .ok (.new 113, 3) := by decide +kernel
theorem dX2_spare_16 : decode cX2_spare 16 = .ok (.dup, 1) := by decide +kernel
theorem dX2_spare_17 : decode cX2_spare 17 = .ok (.invokespecial 115, 3) := by decide +kernel
theorem dX2_spare_20 : decode cX2_spare 20 = .ok (.athrow, 1) := by decide +kernel
theorem dX2_spare_21 : decode cX2_spare 21 = .ok (.iconst 0, 1) := by decide +kernel
theorem dX2_spare_22 : decode cX2_spare 22 = .ok (.istore_n 1, 1) := by decide +kernel
theorem dX2_spare_23 : decode cX2_spare 23 = .ok (.iconst 0, 1) := by decide +kernel
theorem dX2_spare_24 : decode cX2_spare 24 = .ok (.istore_n 2, 1) := by decide +kernel
theorem dX2_spare_25 : decode cX2_spare 25 = .ok (.iload_n 2, 1) := by decide +kernel
theorem dX2_spare_26 : decode cX2_spare 26 = .ok (.aload_n 0, 1) := by decide +kernel
theorem dX2_spare_27 : decode cX2_spare 27 = .ok (.getfield 14, 3) := by decide +kernel
theorem dX2_spare_30 : decode cX2_spare 30 = .ok (.getfield 116, 3) := by decide +kernel
theorem dX2_spare_33 : decode cX2_spare 33 = .ok (.arraylength, 1) := by decide +kernel
theorem dX2_spare_34 : decode cX2_spare 34 = .ok (.if_icmp .ge 52, 3) := by decide +kernel
theorem dX2_spare_37 : decode cX2_spare 37 = .ok (.aload_n 0, 1) := by decide +kernel
theorem dX2_spare_38 : decode cX2_spare 38 = .ok (.getfield 14, 3) := by decide +kernel
theorem dX2_spare_41 : decode cX2_spare 41 = .ok (.getfield 116, 3) := by decide +kernel
theorem dX2_spare_44 : decode cX2_spare 44 = .ok (.iload_n 2, 1) := by decide +kernel
theorem dX2_spare_45 : decode cX2_spare 45 = .ok (.iaload, 1) := by decide +kernel
theorem dX2_spare_46 : decode cX2_spare 46 = .ok (.istore_n 3, 1) := by decide +kernel
theorem dX2_spare_47 : decode cX2_spare 47 = .ok (.iload_n 3, 1) := by decide +kernel
theorem dX2_spare_48 : decode cX2_spare 48 = .ok (.iconst (-1), 1) := by decide +kernel
theorem dX2_spare_49 : decode cX2_spare 49 = .ok (.if_icmp .eq 31, 3) := by decide +kernel
theorem dX2_spare_52 : decode cX2_spare 52 = .ok (.aload_n 0, 1) := by decide +kernel
theorem dX2_spare_53 : decode cX2_spare 53 = .ok (.iload_n 2, 1) := by decide +kernel
theorem dX2_spare_54 : decode cX2_spare 54 = .ok (.iconst (-1), 1) := by decide +kernel
theorem dX2_spare_55 : decode cX2_spare 55 = .ok (.invokevirtual 66, 3) := by decide +kernel
theorem dX2_spare_58 : decode cX2_spare 58 = .ok (.aload_n 0, 1) := by decide +kernel
theorem dX2_spare_59 : decode cX2_spare 59 = .ok (.invokevirtual 69, 3) := by decide +kernel
theorem dX2_spare_62 : decode cX2_spare 62 = .ok (.getfield 73, 3) := by decide +kernel
theorem dX2_spare_65 : decode cX2_spare 65 = .ok (.iconst 0, 1) := by decide +kernel
theorem dX2_spare_66 : decode cX2_spare 66 = .ok (.iaload, 1) := by decide +kernel
theorem dX2_spare_67 : decode cX2_spare 67 = .ok (.iconst 1, 1) := by decide +kernel
theorem dX2_spare_68 : decode cX2_spare 68 = .ok (.if_icmp .eq 12, 3) := by decide +kernel
theorem dX2_spare_71 : decode cX2_spare 71 = .ok (.aload_n 0, 1) := by decide +kernel
theorem dX2_spare_72 : decode cX2_spare 72 = .ok (.iload_n 2, 1) := by decide +kernel
theorem dX2_spare_73 : decode cX2_spare 73 = .ok (.iload_n 3, 1) := by decide +kernel
theorem dX2_spare_74 : decode cX2_spare 74 = .ok (.invokevirtual 66, 3) := by decide +kernel
theorem dX2_spare_77 : decode cX2_spare 77 = .ok (.iinc 1 1, 3) := by decide +kernel
theorem dX2_spare_80 : decode cX2_spare 80 = .ok (.iinc 2 1, 3) := by decide +kernel
theorem dX2_spare_83 : decode cX2_spare 83 = .ok (.goto (-58), 3) := by decide +kernel
theorem dX2_spare_86 : decode cX2_spare 86 = .ok (.iload_n 1, 1) := by decide +kernel
theorem dX2_spare_87 : decode cX2_spare 87 = .ok (.ireturn, 1) := by decide +kernel
theorem dX2_clueOf_0 : decode cX2_clueOf 0 = .ok (.aload_n 0, 1) := by decide +kernel
theorem dX2_clueOf_1 : decode cX2_clueOf 1 = .ok (.iload_n 1, 1) := by decide +kernel
theorem dX2_clueOf_2 : decode cX2_clueOf 2 = .ok (.iload_n 2, 1) := by decide +kernel
theorem dX2_clueOf_3 : decode cX2_clueOf 3 = .ok (.invokevirtual 59, 3) := by decide +kernel
theorem dX2_clueOf_6 : decode cX2_clueOf 6 = .ok (.ifCond .eq 11, 3) := by decide +kernel
theorem dX2_clueOf_9 : decode cX2_clueOf 9 = .ok (.new 42, 3) := by decide +kernel
theorem dX2_clueOf_12 : decode cX2_clueOf 12 = .ok (.dup, 1) := by decide +kernel
theorem dX2_clueOf_13 : decode cX2_clueOf 13 = .ok (.invokespecial 44, 3) := by decide +kernel
theorem dX2_clueOf_16 : decode cX2_clueOf 16 = .ok (.athrow, 1) := by decide +kernel
theorem dX2_clueOf_17 : decode cX2_clueOf 17 = .ok (.aload_n 0, 1) := by decide +kernel
theorem dX2_clueOf_18 : decode cX2_clueOf 18 = .ok (.getfield 14, 3) := by decide +kernel
theorem dX2_clueOf_21 : decode cX2_clueOf 21 = .ok (.getfield 116, 3) := by decide +kernel
theorem dX2_clueOf_24 : decode cX2_clueOf 24 = .ok (.iload_n 1, 1) := by decide +kernel
theorem dX2_clueOf_25 : decode cX2_clueOf 25 = .ok (.aload_n 0, 1) := by decide +kernel
theorem dX2_clueOf_26 : decode cX2_clueOf 26 = .ok (.getfield 14, 3) := by decide +kernel
theorem dX2_clueOf_29 : decode cX2_clueOf 29 = .ok (.getfield 49, 3) := by decide +kernel
theorem dX2_clueOf_32 : decode cX2_clueOf 32 = .ok (.imul, 1) := by decide +kernel
theorem dX2_clueOf_33 : decode cX2_clueOf 33 = .ok (.iload_n 2, 1) := by decide +kernel
theorem dX2_clueOf_34 : decode cX2_clueOf 34 = .ok (.iadd, 1) := by decide +kernel
theorem dX2_clueOf_35 : decode cX2_clueOf 35 = .ok (.iaload, 1) := by decide +kernel
theorem dX2_clueOf_36 : decode cX2_clueOf 36 = .ok (.ireturn, 1) := by decide +kernel
theorem dX2_isNoEdge_0 : decode cX2_isNoEdge 0 = .ok (.iload_n 1, 1) := by decide +kernel
theorem dX2_isNoEdge_1 : decode cX2_isNoEdge 1 = .ok (.ifCond .lt 14, 3) := by decide +kernel
theorem dX2_isNoEdge_4 : decode cX2_isNoEdge 4 = .ok (.iload_n 1, 1) := by decide +kernel
theorem dX2_isNoEdge_5 : decode cX2_isNoEdge 5 = .ok (.aload_n 0, 1) := by decide +kernel
theorem dX2_isNoEdge_6 : decode cX2_isNoEdge 6 = .ok (.getfield 14, 3) := by decide +kernel
theorem dX2_isNoEdge_9 : decode cX2_isNoEdge 9 = .ok (.getfield 35, 3) := by decide +kernel
theorem dX2_isNoEdge_12 : decode cX2_isNoEdge 12 = .ok (.if_icmp .lt 7, 3) := by decide +kernel
theorem dX2_isNoEdge_15 : decode cX2_isNoEdge 15 = .ok (.iconst 1, 1) := by decide +kernel
theorem dX2_isNoEdge_16 : decode cX2_isNoEdge 16 = .ok (.goto 4, 3) := by decide +kernel
theorem dX2_isNoEdge_19 : decode cX2_isNoEdge 19 = .ok (.iconst 0, 1) := by decide +kernel
theorem dX2_isNoEdge_20 : decode cX2_isNoEdge 20 = .ok (.ireturn, 1) := by decide +kernel
theorem dX2_isNoCell_0 : decode cX2_isNoCell 0 = .ok (.iload_n 1, 1) := by decide +kernel
theorem dX2_isNoCell_1 : decode cX2_isNoCell 1 = .ok (.ifCond .lt 29, 3) := by decide +kernel
theorem dX2_isNoCell_4 : decode cX2_isNoCell 4 = .ok (.iload_n 1, 1) := by decide +kernel
theorem dX2_isNoCell_5 : decode cX2_isNoCell 5 = .ok (.aload_n 0, 1) := by decide +kernel
theorem dX2_isNoCell_6 : decode cX2_isNoCell 6 = .ok (.getfield 14, 3) := by decide +kernel
theorem dX2_isNoCell_9 : decode cX2_isNoCell 9 = .ok (.getfield 119, 3) := by decide +kernel
theorem dX2_isNoCell_12 : decode cX2_isNoCell 12 = .ok (.if_icmp .ge 18, 3) := by decide +kernel
theorem dX2_isNoCell_15 : decode cX2_isNoCell 15 = .ok (.iload_n 2, 1) := by decide +kernel
theorem dX2_isNoCell_16 : decode cX2_isNoCell 16 = .ok (.ifCond .lt 14, 3) := by decide +kernel
theorem dX2_isNoCell_19 : decode cX2_isNoCell 19 = .ok (.iload_n 2, 1) := by decide +kernel
theorem dX2_isNoCell_20 : decode cX2_isNoCell 20 = .ok (.aload_n 0, 1) := by decide +kernel
theorem dX2_isNoCell_21 : decode cX2_isNoCell 21 = .ok (.getfield 14, 3) := by decide +kernel
theorem dX2_isNoCell_24 : decode cX2_isNoCell 24 = .ok (.getfield 49, 3) := by decide +kernel
theorem dX2_isNoCell_27 : decode cX2_isNoCell 27 = .ok (.if_icmp .lt 7, 3) := by decide +kernel
theorem dX2_isNoCell_30 : decode cX2_isNoCell 30 = .ok (.iconst 1, 1) := by decide +kernel
theorem dX2_isNoCell_31 : decode cX2_isNoCell 31 = .ok (.goto 4, 3) := by decide +kernel
theorem dX2_isNoCell_34 : decode cX2_isNoCell 34 = .ok (.iconst 0, 1) := by decide +kernel
theorem dX2_isNoCell_35 : decode cX2_isNoCell 35 = .ok (.ireturn, 1) := by decide +kernel
theorem dX2_setClue_0 : decode cX2_setClue 0 = .ok (.aload_n 0, 1) := by decide +kernel
theorem dX2_setClue_1 : decode cX2_setClue 1 = .ok (.getfield 14, 3) := by decide +kernel
theorem dX2_setClue_4 : decode cX2_setClue 4 = .ok (.getfield 116, 3) := by decide +kernel
theorem dX2_setClue_7 : decode cX2_setClue 7 = .ok (.iload_n 1, 1) := by decide +kernel
theorem dX2_setClue_8 : decode cX2_setClue 8 = .ok (.iaload, 1) := by decide +kernel
theorem dX2_setClue_9 : decode cX2_setClue 9 = .ok (.iload_n 2, 1) := by decide +kernel
theorem dX2_setClue_10 : decode cX2_setClue 10 = .ok (.if_icmp .eq 18, 3) := by decide +kernel
theorem dX2_setClue_13 : decode cX2_setClue 13 = .ok (.aload_n 0, 1) := by decide +kernel
theorem dX2_setClue_14 : decode cX2_setClue 14 = .ok (.getfield 14, 3) := by decide +kernel
theorem dX2_setClue_17 : decode cX2_setClue 17 = .ok (.getfield 116, 3) := by decide +kernel
theorem dX2_setClue_20 : decode cX2_setClue 20 = .ok (.iload_n 1, 1) := by decide +kernel
theorem dX2_setClue_21 : decode cX2_setClue 21 = .ok (.iload_n 2, 1) := by decide +kernel
theorem dX2_setClue_22 : decode cX2_setClue 22 = .ok (.iastore, 1) := by decide +kernel
theorem dX2_setClue_23 : decode cX2_setClue 23 = .ok (.aload_n 0, 1) := by decide +kernel
theorem dX2_setClue_24 : decode cX2_setClue 24 = .ok (.iconst 1, 1) := by decide +kernel
theorem dX2_setClue_25 : decode cX2_setClue 25 = .ok (.putfield 31, 3) := by decide +kernel
theorem dX2_setClue_28 : decode cX2_setClue 28 = .ok (.return_, 1) := by decide +kernel
theorem dX2_fresh_0 : decode cX2_fresh 0 = .ok (.aload_n 0, 1) := by decide +kernel
theorem dX2_fresh_1 : decode cX2_fresh 1 = .ok (.getfield 31, 3) := by decide +kernel
theorem dX2_fresh_4 : decode cX2_fresh 4 = .ok (.ifCond .eq 15, 3) := by decide +kernel
theorem dX2_fresh_7 : decode cX2_fresh 7 = .ok (.aload_n 0, 1) := by decide +kernel
theorem dX2_fresh_8 : decode cX2_fresh 8 = .ok (.getfield 23, 3) := by decide +kernel
theorem dX2_fresh_11 : decode cX2_fresh 11 = .ok (.invokevirtual 122, 3) := by decide +kernel
theorem dX2_fresh_14 : decode cX2_fresh 14 = .ok (.aload_n 0, 1) := by decide +kernel
theorem dX2_fresh_15 : decode cX2_fresh 15 = .ok (.iconst 0, 1) := by decide +kernel
theorem dX2_fresh_16 : decode cX2_fresh 16 = .ok (.putfield 31, 3) := by decide +kernel
theorem dX2_fresh_19 : decode cX2_fresh 19 = .ok (.aload_n 0, 1) := by decide +kernel
theorem dX2_fresh_20 : decode cX2_fresh 20 = .ok (.getfield 23, 3) := by decide +kernel
theorem dX2_fresh_23 : decode cX2_fresh 23 = .ok (.areturn, 1) := by decide +kernel
theorem dX2_hasBit_0 : decode cX2_hasBit 0 = .ok (.iload_n 0, 1) := by decide +kernel
theorem dX2_hasBit_1 : decode cX2_hasBit 1 = .ok (.iload_n 1, 1) := by decide +kernel
theorem dX2_hasBit_2 : decode cX2_hasBit 2 = .ok (.ishr, 1) := by decide +kernel
theorem dX2_hasBit_3 : decode cX2_hasBit 3 = .ok (.iconst 1, 1) := by decide +kernel
theorem dX2_hasBit_4 : decode cX2_hasBit 4 = .ok (.iand, 1) := by decide +kernel
theorem dX2_hasBit_5 : decode cX2_hasBit 5 = .ok (.iconst 1, 1) := by decide +kernel
theorem dX2_hasBit_6 : decode cX2_hasBit 6 = .ok (.if_icmp .ne 7, 3) := by decide +kernel
theorem dX2_hasBit_9 : decode cX2_hasBit 9 = .ok (.iconst 1, 1) := by decide +kernel
theorem dX2_hasBit_10 : decode cX2_hasBit 10 = .ok (.goto 4, 3) := by decide +kernel
theorem dX2_hasBit_13 : decode cX2_hasBit 13 = .ok (.iconst 0, 1) := by decide +kernel
theorem dX2_hasBit_14 : decode cX2_hasBit 14 = .ok (.ireturn, 1) := by decide +kernel
