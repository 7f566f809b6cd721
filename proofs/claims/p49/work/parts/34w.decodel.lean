/-! ===== decode rows of the law ===== -/
set_option maxRecDepth 100000 in
theorem bL_cell_0 : (decode cL_cell 0 = .ok (.iload_n 1, 1)) ∧ (decode cL_cell 1 = .ok (.aload_n 0, 1)) ∧ (decode cL_cell 2 = .ok (.arraylength, 1)) ∧ (decode cL_cell 3 = .ok (.if_icmp .ge 9, 3)) ∧ (decode cL_cell 6 = .ok (.aload_n 0, 1)) ∧ (decode cL_cell 7 = .ok (.iload_n 1, 1)) ∧ (decode cL_cell 8 = .ok (.iaload, 1)) ∧ (decode cL_cell 9 = .ok (.goto 9, 3)) ∧ (decode cL_cell 12 = .ok (.ldc 7, 2)) ∧ (decode cL_cell 14 = .ok (.iload_n 1, 1)) ∧ (decode cL_cell 15 = .ok (.iconst 3, 1)) ∧ (decode cL_cell 16 = .ok (.iadd, 1)) ∧ (decode cL_cell 17 = .ok (.imul, 1)) ∧ (decode cL_cell 18 = .ok (.ireturn, 1)) := by decide +kernel
theorem dL_cell_0 : decode cL_cell 0 = .ok (.iload_n 1, 1) := bL_cell_0.1
theorem dL_cell_1 : decode cL_cell 1 = .ok (.aload_n 0, 1) := bL_cell_0.2.1
theorem dL_cell_2 : decode cL_cell 2 = .ok (.arraylength, 1) := bL_cell_0.2.2.1
theorem dL_cell_3 : decode cL_cell 3 = .ok (.if_icmp .ge 9, 3) := bL_cell_0.2.2.2.1
theorem dL_cell_6 : decode cL_cell 6 = .ok (.aload_n 0, 1) := bL_cell_0.2.2.2.2.1
theorem dL_cell_7 : decode cL_cell 7 = .ok (.iload_n 1, 1) := bL_cell_0.2.2.2.2.2.1
theorem dL_cell_8 : decode cL_cell 8 = .ok (.iaload, 1) := bL_cell_0.2.2.2.2.2.2.1
theorem dL_cell_9 : decode cL_cell 9 = .ok (.goto 9, 3) := bL_cell_0.2.2.2.2.2.2.2.1
theorem dL_cell_12 : decode cL_cell 12 = .ok (.ldc 7, 2) := bL_cell_0.2.2.2.2.2.2.2.2.1
theorem dL_cell_14 : decode cL_cell 14 = .ok (.iload_n 1, 1) := bL_cell_0.2.2.2.2.2.2.2.2.2.1
theorem dL_cell_15 : decode cL_cell 15 = .ok (.iconst 3, 1) := bL_cell_0.2.2.2.2.2.2.2.2.2.2.1
theorem dL_cell_16 : decode cL_cell 16 = .ok (.iadd, 1) := bL_cell_0.2.2.2.2.2.2.2.2.2.2.2.1
theorem dL_cell_17 : decode cL_cell 17 = .ok (.imul, 1) := bL_cell_0.2.2.2.2.2.2.2.2.2.2.2.2.1
theorem dL_cell_18 : decode cL_cell 18 = .ok (.ireturn, 1) := bL_cell_0.2.2.2.2.2.2.2.2.2.2.2.2.2
set_option maxRecDepth 100000 in
theorem bL_pick_0 : (decode cL_pick 0 = .ok (.iload_n 0, 1)) ∧ (decode cL_pick 1 = .ok (.iload_n 1, 1)) ∧ (decode cL_pick 2 = .ok (.ldc 8, 2)) ∧ (decode cL_pick 4 = .ok (.imul, 1)) ∧ (decode cL_pick 5 = .ok (.ixor, 1)) ∧ (decode cL_pick 6 = .ok (.ldc 9, 2)) ∧ (decode cL_pick 8 = .ok (.imul, 1)) ∧ (decode cL_pick 9 = .ok (.bipush 9, 2)) ∧ (decode cL_pick 11 = .ok (.iushr, 1)) ∧ (decode cL_pick 12 = .ok (.iload_n 2, 1)) ∧ (decode cL_pick 13 = .ok (.irem, 1)) ∧ (decode cL_pick 14 = .ok (.ireturn, 1)) := by decide +kernel
theorem dL_pick_0 : decode cL_pick 0 = .ok (.iload_n 0, 1) := bL_pick_0.1
theorem dL_pick_1 : decode cL_pick 1 = .ok (.iload_n 1, 1) := bL_pick_0.2.1
theorem dL_pick_2 : decode cL_pick 2 = .ok (.ldc 8, 2) := bL_pick_0.2.2.1
theorem dL_pick_4 : decode cL_pick 4 = .ok (.imul, 1) := bL_pick_0.2.2.2.1
theorem dL_pick_5 : decode cL_pick 5 = .ok (.ixor, 1) := bL_pick_0.2.2.2.2.1
theorem dL_pick_6 : decode cL_pick 6 = .ok (.ldc 9, 2) := bL_pick_0.2.2.2.2.2.1
theorem dL_pick_8 : decode cL_pick 8 = .ok (.imul, 1) := bL_pick_0.2.2.2.2.2.2.1
theorem dL_pick_9 : decode cL_pick 9 = .ok (.bipush 9, 2) := bL_pick_0.2.2.2.2.2.2.2.1
theorem dL_pick_11 : decode cL_pick 11 = .ok (.iushr, 1) := bL_pick_0.2.2.2.2.2.2.2.2.1
theorem dL_pick_12 : decode cL_pick 12 = .ok (.iload_n 2, 1) := bL_pick_0.2.2.2.2.2.2.2.2.2.1
theorem dL_pick_13 : decode cL_pick 13 = .ok (.irem, 1) := bL_pick_0.2.2.2.2.2.2.2.2.2.2.1
theorem dL_pick_14 : decode cL_pick 14 = .ok (.ireturn, 1) := bL_pick_0.2.2.2.2.2.2.2.2.2.2.2
set_option maxRecDepth 100000 in
theorem bL_law_0 : (decode cL_law 0 = .ok (.new 10, 3)) ∧ (decode cL_law 3 = .ok (.dup, 1)) ∧ (decode cL_law 4 = .ok (.invokespecial 12, 3)) ∧ (decode cL_law 7 = .ok (.astore_n 1, 1)) ∧ (decode cL_law 8 = .ok (.iconst 0, 1)) ∧ (decode cL_law 9 = .ok (.istore_n 2, 1)) ∧ (decode cL_law 10 = .ok (.iload_n 2, 1)) ∧ (decode cL_law 11 = .ok (.bipush 24, 2)) ∧ (decode cL_law 13 = .ok (.if_icmp .ge 142, 3)) ∧ (decode cL_law 16 = .ok (.aload_n 0, 1)) ∧ (decode cL_law 17 = .ok (.iload_n 2, 1)) ∧ (decode cL_law 18 = .ok (.bipush 16, 2)) ∧ (decode cL_law 20 = .ok (.irem, 1)) ∧ (decode cL_law 21 = .ok (.invokestatic 13, 3)) ∧ (decode cL_law 24 = .ok (.ldc 19, 2)) ∧ (decode cL_law 26 = .ok (.iload_n 2, 1)) := by decide +kernel
theorem dL_law_0 : decode cL_law 0 = .ok (.new 10, 3) := bL_law_0.1
theorem dL_law_3 : decode cL_law 3 = .ok (.dup, 1) := bL_law_0.2.1
theorem dL_law_4 : decode cL_law 4 = .ok (.invokespecial 12, 3) := bL_law_0.2.2.1
theorem dL_law_7 : decode cL_law 7 = .ok (.astore_n 1, 1) := bL_law_0.2.2.2.1
theorem dL_law_8 : decode cL_law 8 = .ok (.iconst 0, 1) := bL_law_0.2.2.2.2.1
theorem dL_law_9 : decode cL_law 9 = .ok (.istore_n 2, 1) := bL_law_0.2.2.2.2.2.1
theorem dL_law_10 : decode cL_law 10 = .ok (.iload_n 2, 1) := bL_law_0.2.2.2.2.2.2.1
theorem dL_law_11 : decode cL_law 11 = .ok (.bipush 24, 2) := bL_law_0.2.2.2.2.2.2.2.1
theorem dL_law_13 : decode cL_law 13 = .ok (.if_icmp .ge 142, 3) := bL_law_0.2.2.2.2.2.2.2.2.1
theorem dL_law_16 : decode cL_law 16 = .ok (.aload_n 0, 1) := bL_law_0.2.2.2.2.2.2.2.2.2.1
theorem dL_law_17 : decode cL_law 17 = .ok (.iload_n 2, 1) := bL_law_0.2.2.2.2.2.2.2.2.2.2.1
theorem dL_law_18 : decode cL_law 18 = .ok (.bipush 16, 2) := bL_law_0.2.2.2.2.2.2.2.2.2.2.2.1
theorem dL_law_20 : decode cL_law 20 = .ok (.irem, 1) := bL_law_0.2.2.2.2.2.2.2.2.2.2.2.2.1
theorem dL_law_21 : decode cL_law 21 = .ok (.invokestatic 13, 3) := bL_law_0.2.2.2.2.2.2.2.2.2.2.2.2.2.1
theorem dL_law_24 : decode cL_law 24 = .ok (.ldc 19, 2) := bL_law_0.2.2.2.2.2.2.2.2.2.2.2.2.2.2.1
theorem dL_law_26 : decode cL_law 26 = .ok (.iload_n 2, 1) := bL_law_0.2.2.2.2.2.2.2.2.2.2.2.2.2.2.2
set_option maxRecDepth 100000 in
theorem bL_law_27 : (decode cL_law 27 = .ok (.imul, 1)) ∧ (decode cL_law 28 = .ok (.iadd, 1)) ∧ (decode cL_law 29 = .ok (.istore_n 3, 1)) ∧ (decode cL_law 30 = .ok (.aload_n 1, 1)) ∧ (decode cL_law 31 = .ok (.iload_n 3, 1)) ∧ (decode cL_law 32 = .ok (.iload_n 2, 1)) ∧ (decode cL_law 33 = .ok (.iconst 4, 1)) ∧ (decode cL_law 34 = .ok (.if_icmp .ge 7, 3)) ∧ (decode cL_law 37 = .ok (.iconst 0, 1)) ∧ (decode cL_law 38 = .ok (.goto 10, 3)) ∧ (decode cL_law 41 = .ok (.iload_n 3, 1)) ∧ (decode cL_law 42 = .ok (.iconst 0, 1)) ∧ (decode cL_law 43 = .ok (.bipush 14, 2)) ∧ (decode cL_law 45 = .ok (.invokestatic 20, 3)) ∧ (decode cL_law 48 = .ok (.iload_n 2, 1)) ∧ (decode cL_law 49 = .ok (.iconst 4, 1)) := by decide +kernel
theorem dL_law_27 : decode cL_law 27 = .ok (.imul, 1) := bL_law_27.1
theorem dL_law_28 : decode cL_law 28 = .ok (.iadd, 1) := bL_law_27.2.1
theorem dL_law_29 : decode cL_law 29 = .ok (.istore_n 3, 1) := bL_law_27.2.2.1
theorem dL_law_30 : decode cL_law 30 = .ok (.aload_n 1, 1) := bL_law_27.2.2.2.1
theorem dL_law_31 : decode cL_law 31 = .ok (.iload_n 3, 1) := bL_law_27.2.2.2.2.1
theorem dL_law_32 : decode cL_law 32 = .ok (.iload_n 2, 1) := bL_law_27.2.2.2.2.2.1
theorem dL_law_33 : decode cL_law 33 = .ok (.iconst 4, 1) := bL_law_27.2.2.2.2.2.2.1
theorem dL_law_34 : decode cL_law 34 = .ok (.if_icmp .ge 7, 3) := bL_law_27.2.2.2.2.2.2.2.1
theorem dL_law_37 : decode cL_law 37 = .ok (.iconst 0, 1) := bL_law_27.2.2.2.2.2.2.2.2.1
theorem dL_law_38 : decode cL_law 38 = .ok (.goto 10, 3) := bL_law_27.2.2.2.2.2.2.2.2.2.1
theorem dL_law_41 : decode cL_law 41 = .ok (.iload_n 3, 1) := bL_law_27.2.2.2.2.2.2.2.2.2.2.1
theorem dL_law_42 : decode cL_law 42 = .ok (.iconst 0, 1) := bL_law_27.2.2.2.2.2.2.2.2.2.2.2.1
theorem dL_law_43 : decode cL_law 43 = .ok (.bipush 14, 2) := bL_law_27.2.2.2.2.2.2.2.2.2.2.2.2.1
theorem dL_law_45 : decode cL_law 45 = .ok (.invokestatic 20, 3) := bL_law_27.2.2.2.2.2.2.2.2.2.2.2.2.2.1
theorem dL_law_48 : decode cL_law 48 = .ok (.iload_n 2, 1) := bL_law_27.2.2.2.2.2.2.2.2.2.2.2.2.2.2.1
theorem dL_law_49 : decode cL_law 49 = .ok (.iconst 4, 1) := bL_law_27.2.2.2.2.2.2.2.2.2.2.2.2.2.2.2
set_option maxRecDepth 100000 in
theorem bL_law_50 : (decode cL_law 50 = .ok (.if_icmp .ge 7, 3)) ∧ (decode cL_law 53 = .ok (.iload_n 2, 1)) ∧ (decode cL_law 54 = .ok (.goto 9, 3)) ∧ (decode cL_law 57 = .ok (.iload_n 3, 1)) ∧ (decode cL_law 58 = .ok (.iconst 1, 1)) ∧ (decode cL_law 59 = .ok (.iconst 4, 1)) ∧ (decode cL_law 60 = .ok (.invokestatic 20, 3)) ∧ (decode cL_law 63 = .ok (.invokestatic 24, 3)) ∧ (decode cL_law 66 = .ok (.iload_n 3, 1)) ∧ (decode cL_law 67 = .ok (.iconst 2, 1)) ∧ (decode cL_law 68 = .ok (.iconst 4, 1)) ∧ (decode cL_law 69 = .ok (.invokestatic 20, 3)) ∧ (decode cL_law 72 = .ok (.istore 4, 2)) ∧ (decode cL_law 74 = .ok (.iload_n 2, 1)) ∧ (decode cL_law 75 = .ok (.iconst 3, 1)) ∧ (decode cL_law 76 = .ok (.irem, 1)) := by decide +kernel
theorem dL_law_50 : decode cL_law 50 = .ok (.if_icmp .ge 7, 3) := bL_law_50.1
theorem dL_law_53 : decode cL_law 53 = .ok (.iload_n 2, 1) := bL_law_50.2.1
theorem dL_law_54 : decode cL_law 54 = .ok (.goto 9, 3) := bL_law_50.2.2.1
theorem dL_law_57 : decode cL_law 57 = .ok (.iload_n 3, 1) := bL_law_50.2.2.2.1
theorem dL_law_58 : decode cL_law 58 = .ok (.iconst 1, 1) := bL_law_50.2.2.2.2.1
theorem dL_law_59 : decode cL_law 59 = .ok (.iconst 4, 1) := bL_law_50.2.2.2.2.2.1
theorem dL_law_60 : decode cL_law 60 = .ok (.invokestatic 20, 3) := bL_law_50.2.2.2.2.2.2.1
theorem dL_law_63 : decode cL_law 63 = .ok (.invokestatic 24, 3) := bL_law_50.2.2.2.2.2.2.2.1
theorem dL_law_66 : decode cL_law 66 = .ok (.iload_n 3, 1) := bL_law_50.2.2.2.2.2.2.2.2.1
theorem dL_law_67 : decode cL_law 67 = .ok (.iconst 2, 1) := bL_law_50.2.2.2.2.2.2.2.2.2.1
theorem dL_law_68 : decode cL_law 68 = .ok (.iconst 4, 1) := bL_law_50.2.2.2.2.2.2.2.2.2.2.1
theorem dL_law_69 : decode cL_law 69 = .ok (.invokestatic 20, 3) := bL_law_50.2.2.2.2.2.2.2.2.2.2.2.1
theorem dL_law_72 : decode cL_law 72 = .ok (.istore 4, 2) := bL_law_50.2.2.2.2.2.2.2.2.2.2.2.2.1
theorem dL_law_74 : decode cL_law 74 = .ok (.iload_n 2, 1) := bL_law_50.2.2.2.2.2.2.2.2.2.2.2.2.2.1
theorem dL_law_75 : decode cL_law 75 = .ok (.iconst 3, 1) := bL_law_50.2.2.2.2.2.2.2.2.2.2.2.2.2.2.1
theorem dL_law_76 : decode cL_law 76 = .ok (.irem, 1) := bL_law_50.2.2.2.2.2.2.2.2.2.2.2.2.2.2.2
set_option maxRecDepth 100000 in
theorem bL_law_77 : (decode cL_law 77 = .ok (.iconst 2, 1)) ∧ (decode cL_law 78 = .ok (.if_icmp .ne 29, 3)) ∧ (decode cL_law 81 = .ok (.aload_n 1, 1)) ∧ (decode cL_law 82 = .ok (.iload 4, 2)) ∧ (decode cL_law 84 = .ok (.invokestatic 28, 3)) ∧ (decode cL_law 87 = .ok (.ifCond .eq 18, 3)) ∧ (decode cL_law 90 = .ok (.aload_n 1, 1)) ∧ (decode cL_law 91 = .ok (.iload 4, 2)) ∧ (decode cL_law 93 = .ok (.iload_n 3, 1)) ∧ (decode cL_law 94 = .ok (.iconst 3, 1)) ∧ (decode cL_law 95 = .ok (.iconst 4, 1)) ∧ (decode cL_law 96 = .ok (.invokestatic 20, 3)) ∧ (decode cL_law 99 = .ok (.invokestatic 32, 3)) ∧ (decode cL_law 102 = .ok (.ifCond .ne 5, 3)) ∧ (decode cL_law 105 = .ok (.iconst 0, 1)) ∧ (decode cL_law 106 = .ok (.ireturn, 1)) := by decide +kernel
theorem dL_law_77 : decode cL_law 77 = .ok (.iconst 2, 1) := bL_law_77.1
theorem dL_law_78 : decode cL_law 78 = .ok (.if_icmp .ne 29, 3) := bL_law_77.2.1
theorem dL_law_81 : decode cL_law 81 = .ok (.aload_n 1, 1) := bL_law_77.2.2.1
theorem dL_law_82 : decode cL_law 82 = .ok (.iload 4, 2) := bL_law_77.2.2.2.1
theorem dL_law_84 : decode cL_law 84 = .ok (.invokestatic 28, 3) := bL_law_77.2.2.2.2.1
theorem dL_law_87 : decode cL_law 87 = .ok (.ifCond .eq 18, 3) := bL_law_77.2.2.2.2.2.1
theorem dL_law_90 : decode cL_law 90 = .ok (.aload_n 1, 1) := bL_law_77.2.2.2.2.2.2.1
theorem dL_law_91 : decode cL_law 91 = .ok (.iload 4, 2) := bL_law_77.2.2.2.2.2.2.2.1
theorem dL_law_93 : decode cL_law 93 = .ok (.iload_n 3, 1) := bL_law_77.2.2.2.2.2.2.2.2.1
theorem dL_law_94 : decode cL_law 94 = .ok (.iconst 3, 1) := bL_law_77.2.2.2.2.2.2.2.2.2.1
theorem dL_law_95 : decode cL_law 95 = .ok (.iconst 4, 1) := bL_law_77.2.2.2.2.2.2.2.2.2.2.1
theorem dL_law_96 : decode cL_law 96 = .ok (.invokestatic 20, 3) := bL_law_77.2.2.2.2.2.2.2.2.2.2.2.1
theorem dL_law_99 : decode cL_law 99 = .ok (.invokestatic 32, 3) := bL_law_77.2.2.2.2.2.2.2.2.2.2.2.2.1
theorem dL_law_102 : decode cL_law 102 = .ok (.ifCond .ne 5, 3) := bL_law_77.2.2.2.2.2.2.2.2.2.2.2.2.2.1
theorem dL_law_105 : decode cL_law 105 = .ok (.iconst 0, 1) := bL_law_77.2.2.2.2.2.2.2.2.2.2.2.2.2.2.1
theorem dL_law_106 : decode cL_law 106 = .ok (.ireturn, 1) := bL_law_77.2.2.2.2.2.2.2.2.2.2.2.2.2.2.2
set_option maxRecDepth 100000 in
theorem bL_law_107 : (decode cL_law 107 = .ok (.iload_n 2, 1)) ∧ (decode cL_law 108 = .ok (.bipush 6, 2)) ∧ (decode cL_law 110 = .ok (.irem, 1)) ∧ (decode cL_law 111 = .ok (.iconst 5, 1)) ∧ (decode cL_law 112 = .ok (.if_icmp .ne 37, 3)) ∧ (decode cL_law 115 = .ok (.aload_n 1, 1)) ∧ (decode cL_law 116 = .ok (.iload 4, 2)) ∧ (decode cL_law 118 = .ok (.iload_n 3, 1)) ∧ (decode cL_law 119 = .ok (.invokestatic 36, 3)) ∧ (decode cL_law 122 = .ok (.ifCond .eq 25, 3)) ∧ (decode cL_law 125 = .ok (.aload_n 1, 1)) ∧ (decode cL_law 126 = .ok (.iload_n 3, 1)) ∧ (decode cL_law 127 = .ok (.iconst 4, 1)) ∧ (decode cL_law 128 = .ok (.iconst 2, 1)) ∧ (decode cL_law 129 = .ok (.invokestatic 20, 3)) ∧ (decode cL_law 132 = .ok (.invokestatic 39, 3)) := by decide +kernel
theorem dL_law_107 : decode cL_law 107 = .ok (.iload_n 2, 1) := bL_law_107.1
theorem dL_law_108 : decode cL_law 108 = .ok (.bipush 6, 2) := bL_law_107.2.1
theorem dL_law_110 : decode cL_law 110 = .ok (.irem, 1) := bL_law_107.2.2.1
theorem dL_law_111 : decode cL_law 111 = .ok (.iconst 5, 1) := bL_law_107.2.2.2.1
theorem dL_law_112 : decode cL_law 112 = .ok (.if_icmp .ne 37, 3) := bL_law_107.2.2.2.2.1
theorem dL_law_115 : decode cL_law 115 = .ok (.aload_n 1, 1) := bL_law_107.2.2.2.2.2.1
theorem dL_law_116 : decode cL_law 116 = .ok (.iload 4, 2) := bL_law_107.2.2.2.2.2.2.1
theorem dL_law_118 : decode cL_law 118 = .ok (.iload_n 3, 1) := bL_law_107.2.2.2.2.2.2.2.1
theorem dL_law_119 : decode cL_law 119 = .ok (.invokestatic 36, 3) := bL_law_107.2.2.2.2.2.2.2.2.1
theorem dL_law_122 : decode cL_law 122 = .ok (.ifCond .eq 25, 3) := bL_law_107.2.2.2.2.2.2.2.2.2.1
theorem dL_law_125 : decode cL_law 125 = .ok (.aload_n 1, 1) := bL_law_107.2.2.2.2.2.2.2.2.2.2.1
theorem dL_law_126 : decode cL_law 126 = .ok (.iload_n 3, 1) := bL_law_107.2.2.2.2.2.2.2.2.2.2.2.1
theorem dL_law_127 : decode cL_law 127 = .ok (.iconst 4, 1) := bL_law_107.2.2.2.2.2.2.2.2.2.2.2.2.1
theorem dL_law_128 : decode cL_law 128 = .ok (.iconst 2, 1) := bL_law_107.2.2.2.2.2.2.2.2.2.2.2.2.2.1
theorem dL_law_129 : decode cL_law 129 = .ok (.invokestatic 20, 3) := bL_law_107.2.2.2.2.2.2.2.2.2.2.2.2.2.2.1
theorem dL_law_132 : decode cL_law 132 = .ok (.invokestatic 39, 3) := bL_law_107.2.2.2.2.2.2.2.2.2.2.2.2.2.2.2
set_option maxRecDepth 100000 in
theorem bL_law_135 : (decode cL_law 135 = .ok (.ifCond .eq 12, 3)) ∧ (decode cL_law 138 = .ok (.aload_n 1, 1)) ∧ (decode cL_law 139 = .ok (.iload 4, 2)) ∧ (decode cL_law 141 = .ok (.invokestatic 42, 3)) ∧ (decode cL_law 144 = .ok (.ifCond .ne 5, 3)) ∧ (decode cL_law 147 = .ok (.iconst 0, 1)) ∧ (decode cL_law 148 = .ok (.ireturn, 1)) ∧ (decode cL_law 149 = .ok (.iinc 2 1, 3)) ∧ (decode cL_law 152 = .ok (.goto (-142), 3)) ∧ (decode cL_law 155 = .ok (.aload_n 1, 1)) ∧ (decode cL_law 156 = .ok (.invokevirtual 45, 3)) ∧ (decode cL_law 159 = .ok (.ireturn, 1)) := by decide +kernel
theorem dL_law_135 : decode cL_law 135 = .ok (.ifCond .eq 12, 3) := bL_law_135.1
theorem dL_law_138 : decode cL_law 138 = .ok (.aload_n 1, 1) := bL_law_135.2.1
theorem dL_law_139 : decode cL_law 139 = .ok (.iload 4, 2) := bL_law_135.2.2.1
theorem dL_law_141 : decode cL_law 141 = .ok (.invokestatic 42, 3) := bL_law_135.2.2.2.1
theorem dL_law_144 : decode cL_law 144 = .ok (.ifCond .ne 5, 3) := bL_law_135.2.2.2.2.1
theorem dL_law_147 : decode cL_law 147 = .ok (.iconst 0, 1) := bL_law_135.2.2.2.2.2.1
theorem dL_law_148 : decode cL_law 148 = .ok (.ireturn, 1) := bL_law_135.2.2.2.2.2.2.1
theorem dL_law_149 : decode cL_law 149 = .ok (.iinc 2 1, 3) := bL_law_135.2.2.2.2.2.2.2.1
theorem dL_law_152 : decode cL_law 152 = .ok (.goto (-142), 3) := bL_law_135.2.2.2.2.2.2.2.2.1
theorem dL_law_155 : decode cL_law 155 = .ok (.aload_n 1, 1) := bL_law_135.2.2.2.2.2.2.2.2.2.1
theorem dL_law_156 : decode cL_law 156 = .ok (.invokevirtual 45, 3) := bL_law_135.2.2.2.2.2.2.2.2.2.2.1
theorem dL_law_159 : decode cL_law 159 = .ok (.ireturn, 1) := bL_law_135.2.2.2.2.2.2.2.2.2.2.2
set_option maxRecDepth 100000 in
theorem bL_act_0 : (decode cL_act 0 = .ok (.iload_n 1, 1)) ∧ (decode cL_act 1 = .ok (.iconst 5, 1)) ∧ (decode cL_act 2 = .ok (.bipush 20, 2)) ∧ (decode cL_act 4 = .ok (.invokestatic 20, 3)) ∧ (decode cL_act 7 = .ok (.ifCond .ne 7, 3)) ∧ (decode cL_act 10 = .ok (.iconst 4, 1)) ∧ (decode cL_act 11 = .ok (.goto 10, 3)) ∧ (decode cL_act 14 = .ok (.iload_n 1, 1)) ∧ (decode cL_act 15 = .ok (.bipush 6, 2)) ∧ (decode cL_act 17 = .ok (.iconst 4, 1)) ∧ (decode cL_act 18 = .ok (.invokestatic 20, 3)) ∧ (decode cL_act 21 = .ok (.istore 4, 2)) ∧ (decode cL_act 23 = .ok (.aload_n 0, 1)) ∧ (decode cL_act 24 = .ok (.iload_n 3, 1)) ∧ (decode cL_act 25 = .ok (.invokevirtual 49, 3)) ∧ (decode cL_act 28 = .ok (.istore 5, 2)) := by decide +kernel
theorem dL_act_0 : decode cL_act 0 = .ok (.iload_n 1, 1) := bL_act_0.1
theorem dL_act_1 : decode cL_act 1 = .ok (.iconst 5, 1) := bL_act_0.2.1
theorem dL_act_2 : decode cL_act 2 = .ok (.bipush 20, 2) := bL_act_0.2.2.1
theorem dL_act_4 : decode cL_act 4 = .ok (.invokestatic 20, 3) := bL_act_0.2.2.2.1
theorem dL_act_7 : decode cL_act 7 = .ok (.ifCond .ne 7, 3) := bL_act_0.2.2.2.2.1
theorem dL_act_10 : decode cL_act 10 = .ok (.iconst 4, 1) := bL_act_0.2.2.2.2.2.1
theorem dL_act_11 : decode cL_act 11 = .ok (.goto 10, 3) := bL_act_0.2.2.2.2.2.2.1
theorem dL_act_14 : decode cL_act 14 = .ok (.iload_n 1, 1) := bL_act_0.2.2.2.2.2.2.2.1
theorem dL_act_15 : decode cL_act 15 = .ok (.bipush 6, 2) := bL_act_0.2.2.2.2.2.2.2.2.1
theorem dL_act_17 : decode cL_act 17 = .ok (.iconst 4, 1) := bL_act_0.2.2.2.2.2.2.2.2.2.1
theorem dL_act_18 : decode cL_act 18 = .ok (.invokestatic 20, 3) := bL_act_0.2.2.2.2.2.2.2.2.2.2.1
theorem dL_act_21 : decode cL_act 21 = .ok (.istore 4, 2) := bL_act_0.2.2.2.2.2.2.2.2.2.2.2.1
theorem dL_act_23 : decode cL_act 23 = .ok (.aload_n 0, 1) := bL_act_0.2.2.2.2.2.2.2.2.2.2.2.2.1
theorem dL_act_24 : decode cL_act 24 = .ok (.iload_n 3, 1) := bL_act_0.2.2.2.2.2.2.2.2.2.2.2.2.2.1
theorem dL_act_25 : decode cL_act 25 = .ok (.invokevirtual 49, 3) := bL_act_0.2.2.2.2.2.2.2.2.2.2.2.2.2.2.1
theorem dL_act_28 : decode cL_act 28 = .ok (.istore 5, 2) := bL_act_0.2.2.2.2.2.2.2.2.2.2.2.2.2.2.2
set_option maxRecDepth 100000 in
theorem bL_act_30 : (decode cL_act 30 = .ok (.iload_n 1, 1)) ∧ (decode cL_act 31 = .ok (.bipush 7, 2)) ∧ (decode cL_act 33 = .ok (.iload 5, 2)) ∧ (decode cL_act 35 = .ok (.iconst 2, 1)) ∧ (decode cL_act 36 = .ok (.iadd, 1)) ∧ (decode cL_act 37 = .ok (.invokestatic 20, 3)) ∧ (decode cL_act 40 = .ok (.iload_n 1, 1)) ∧ (decode cL_act 41 = .ok (.bipush 8, 2)) ∧ (decode cL_act 43 = .ok (.bipush 9, 2)) ∧ (decode cL_act 45 = .ok (.invokestatic 20, 3)) ∧ (decode cL_act 48 = .ok (.ifCond .ne 7, 3)) ∧ (decode cL_act 51 = .ok (.iconst 1, 1)) ∧ (decode cL_act 52 = .ok (.goto 4, 3)) ∧ (decode cL_act 55 = .ok (.iconst 0, 1)) ∧ (decode cL_act 56 = .ok (.isub, 1)) ∧ (decode cL_act 57 = .ok (.istore 6, 2)) := by decide +kernel
theorem dL_act_30 : decode cL_act 30 = .ok (.iload_n 1, 1) := bL_act_30.1
theorem dL_act_31 : decode cL_act 31 = .ok (.bipush 7, 2) := bL_act_30.2.1
theorem dL_act_33 : decode cL_act 33 = .ok (.iload 5, 2) := bL_act_30.2.2.1
theorem dL_act_35 : decode cL_act 35 = .ok (.iconst 2, 1) := bL_act_30.2.2.2.1
theorem dL_act_36 : decode cL_act 36 = .ok (.iadd, 1) := bL_act_30.2.2.2.2.1
theorem dL_act_37 : decode cL_act 37 = .ok (.invokestatic 20, 3) := bL_act_30.2.2.2.2.2.1
theorem dL_act_40 : decode cL_act 40 = .ok (.iload_n 1, 1) := bL_act_30.2.2.2.2.2.2.1
theorem dL_act_41 : decode cL_act 41 = .ok (.bipush 8, 2) := bL_act_30.2.2.2.2.2.2.2.1
theorem dL_act_43 : decode cL_act 43 = .ok (.bipush 9, 2) := bL_act_30.2.2.2.2.2.2.2.2.1
theorem dL_act_45 : decode cL_act 45 = .ok (.invokestatic 20, 3) := bL_act_30.2.2.2.2.2.2.2.2.2.1
theorem dL_act_48 : decode cL_act 48 = .ok (.ifCond .ne 7, 3) := bL_act_30.2.2.2.2.2.2.2.2.2.2.1
theorem dL_act_51 : decode cL_act 51 = .ok (.iconst 1, 1) := bL_act_30.2.2.2.2.2.2.2.2.2.2.2.1
theorem dL_act_52 : decode cL_act 52 = .ok (.goto 4, 3) := bL_act_30.2.2.2.2.2.2.2.2.2.2.2.2.1
theorem dL_act_55 : decode cL_act 55 = .ok (.iconst 0, 1) := bL_act_30.2.2.2.2.2.2.2.2.2.2.2.2.2.1
theorem dL_act_56 : decode cL_act 56 = .ok (.isub, 1) := bL_act_30.2.2.2.2.2.2.2.2.2.2.2.2.2.2.1
theorem dL_act_57 : decode cL_act 57 = .ok (.istore 6, 2) := bL_act_30.2.2.2.2.2.2.2.2.2.2.2.2.2.2.2
set_option maxRecDepth 100000 in
theorem bL_act_59 : (decode cL_act 59 = .ok (.iload_n 1, 1)) ∧ (decode cL_act 60 = .ok (.bipush 9, 2)) ∧ (decode cL_act 62 = .ok (.iload 5, 2)) ∧ (decode cL_act 64 = .ok (.iconst 1, 1)) ∧ (decode cL_act 65 = .ok (.iadd, 1)) ∧ (decode cL_act 66 = .ok (.invokestatic 20, 3)) ∧ (decode cL_act 69 = .ok (.istore 7, 2)) ∧ (decode cL_act 71 = .ok (.iload_n 2, 1)) ∧ (decode cL_act 72 = .ok (.tableswitch 304 0 12 #[68, 68, 134, 154, 176, 187, 198, 211, 220, 231, 271, 282, 293], 68)) ∧ (decode cL_act 140 = .ok (.aload_n 0, 1)) ∧ (decode cL_act 141 = .ok (.iload_n 3, 1)) ∧ (decode cL_act 142 = .ok (.iload_n 1, 1)) ∧ (decode cL_act 143 = .ok (.bipush 10, 2)) ∧ (decode cL_act 145 = .ok (.iconst 5, 1)) ∧ (decode cL_act 146 = .ok (.invokestatic 20, 3)) ∧ (decode cL_act 149 = .ok (.ifCond .ne 15, 3)) := by decide +kernel
theorem dL_act_59 : decode cL_act 59 = .ok (.iload_n 1, 1) := bL_act_59.1
theorem dL_act_60 : decode cL_act 60 = .ok (.bipush 9, 2) := bL_act_59.2.1
theorem dL_act_62 : decode cL_act 62 = .ok (.iload 5, 2) := bL_act_59.2.2.1
theorem dL_act_64 : decode cL_act 64 = .ok (.iconst 1, 1) := bL_act_59.2.2.2.1
theorem dL_act_65 : decode cL_act 65 = .ok (.iadd, 1) := bL_act_59.2.2.2.2.1
theorem dL_act_66 : decode cL_act 66 = .ok (.invokestatic 20, 3) := bL_act_59.2.2.2.2.2.1
theorem dL_act_69 : decode cL_act 69 = .ok (.istore 7, 2) := bL_act_59.2.2.2.2.2.2.1
theorem dL_act_71 : decode cL_act 71 = .ok (.iload_n 2, 1) := bL_act_59.2.2.2.2.2.2.2.1
theorem dL_act_72 : decode cL_act 72 = .ok (.tableswitch 304 0 12 #[68, 68, 134, 154, 176, 187, 198, 211, 220, 231, 271, 282, 293], 68) := bL_act_59.2.2.2.2.2.2.2.2.1
theorem dL_act_140 : decode cL_act 140 = .ok (.aload_n 0, 1) := bL_act_59.2.2.2.2.2.2.2.2.2.1
theorem dL_act_141 : decode cL_act 141 = .ok (.iload_n 3, 1) := bL_act_59.2.2.2.2.2.2.2.2.2.2.1
theorem dL_act_142 : decode cL_act 142 = .ok (.iload_n 1, 1) := bL_act_59.2.2.2.2.2.2.2.2.2.2.2.1
theorem dL_act_143 : decode cL_act 143 = .ok (.bipush 10, 2) := bL_act_59.2.2.2.2.2.2.2.2.2.2.2.2.1
theorem dL_act_145 : decode cL_act 145 = .ok (.iconst 5, 1) := bL_act_59.2.2.2.2.2.2.2.2.2.2.2.2.2.1
theorem dL_act_146 : decode cL_act 146 = .ok (.invokestatic 20, 3) := bL_act_59.2.2.2.2.2.2.2.2.2.2.2.2.2.2.1
theorem dL_act_149 : decode cL_act 149 = .ok (.ifCond .ne 15, 3) := bL_act_59.2.2.2.2.2.2.2.2.2.2.2.2.2.2.2
set_option maxRecDepth 100000 in
theorem bL_act_152 : (decode cL_act 152 = .ok (.iload_n 1, 1)) ∧ (decode cL_act 153 = .ok (.bipush 11, 2)) ∧ (decode cL_act 155 = .ok (.sipush 330, 3)) ∧ (decode cL_act 158 = .ok (.invokestatic 20, 3)) ∧ (decode cL_act 161 = .ok (.goto 11, 3)) ∧ (decode cL_act 164 = .ok (.iload_n 1, 1)) ∧ (decode cL_act 165 = .ok (.bipush 11, 2)) ∧ (decode cL_act 167 = .ok (.bipush 30, 2)) ∧ (decode cL_act 169 = .ok (.invokestatic 20, 3)) ∧ (decode cL_act 172 = .ok (.iload_n 1, 1)) ∧ (decode cL_act 173 = .ok (.bipush 12, 2)) ∧ (decode cL_act 175 = .ok (.bipush 8, 2)) ∧ (decode cL_act 177 = .ok (.invokestatic 20, 3)) ∧ (decode cL_act 180 = .ok (.iload_n 1, 1)) ∧ (decode cL_act 181 = .ok (.bipush 13, 2)) ∧ (decode cL_act 183 = .ok (.bipush 61, 2)) := by decide +kernel
theorem dL_act_152 : decode cL_act 152 = .ok (.iload_n 1, 1) := bL_act_152.1
theorem dL_act_153 : decode cL_act 153 = .ok (.bipush 11, 2) := bL_act_152.2.1
theorem dL_act_155 : decode cL_act 155 = .ok (.sipush 330, 3) := bL_act_152.2.2.1
theorem dL_act_158 : decode cL_act 158 = .ok (.invokestatic 20, 3) := bL_act_152.2.2.2.1
theorem dL_act_161 : decode cL_act 161 = .ok (.goto 11, 3) := bL_act_152.2.2.2.2.1
theorem dL_act_164 : decode cL_act 164 = .ok (.iload_n 1, 1) := bL_act_152.2.2.2.2.2.1
theorem dL_act_165 : decode cL_act 165 = .ok (.bipush 11, 2) := bL_act_152.2.2.2.2.2.2.1
theorem dL_act_167 : decode cL_act 167 = .ok (.bipush 30, 2) := bL_act_152.2.2.2.2.2.2.2.1
theorem dL_act_169 : decode cL_act 169 = .ok (.invokestatic 20, 3) := bL_act_152.2.2.2.2.2.2.2.2.1
theorem dL_act_172 : decode cL_act 172 = .ok (.iload_n 1, 1) := bL_act_152.2.2.2.2.2.2.2.2.2.1
theorem dL_act_173 : decode cL_act 173 = .ok (.bipush 12, 2) := bL_act_152.2.2.2.2.2.2.2.2.2.2.1
theorem dL_act_175 : decode cL_act 175 = .ok (.bipush 8, 2) := bL_act_152.2.2.2.2.2.2.2.2.2.2.2.1
theorem dL_act_177 : decode cL_act 177 = .ok (.invokestatic 20, 3) := bL_act_152.2.2.2.2.2.2.2.2.2.2.2.2.1
theorem dL_act_180 : decode cL_act 180 = .ok (.iload_n 1, 1) := bL_act_152.2.2.2.2.2.2.2.2.2.2.2.2.2.1
theorem dL_act_181 : decode cL_act 181 = .ok (.bipush 13, 2) := bL_act_152.2.2.2.2.2.2.2.2.2.2.2.2.2.2.1
theorem dL_act_183 : decode cL_act 183 = .ok (.bipush 61, 2) := bL_act_152.2.2.2.2.2.2.2.2.2.2.2.2.2.2.2
set_option maxRecDepth 100000 in
theorem bL_act_185 : (decode cL_act 185 = .ok (.invokestatic 20, 3)) ∧ (decode cL_act 188 = .ok (.bipush 30, 2)) ∧ (decode cL_act 190 = .ok (.isub, 1)) ∧ (decode cL_act 191 = .ok (.iload_n 1, 1)) ∧ (decode cL_act 192 = .ok (.bipush 14, 2)) ∧ (decode cL_act 194 = .ok (.bipush 20, 2)) ∧ (decode cL_act 196 = .ok (.invokestatic 20, 3)) ∧ (decode cL_act 199 = .ok (.invokevirtual 53, 3)) ∧ (decode cL_act 202 = .ok (.pop, 1)) ∧ (decode cL_act 203 = .ok (.goto 198, 3)) ∧ (decode cL_act 206 = .ok (.aload_n 0, 1)) ∧ (decode cL_act 207 = .ok (.iload_n 3, 1)) ∧ (decode cL_act 208 = .ok (.iload_n 1, 1)) ∧ (decode cL_act 209 = .ok (.bipush 10, 2)) ∧ (decode cL_act 211 = .ok (.bipush 30, 2)) ∧ (decode cL_act 213 = .ok (.invokestatic 20, 3)) := by decide +kernel
theorem dL_act_185 : decode cL_act 185 = .ok (.invokestatic 20, 3) := bL_act_185.1
theorem dL_act_188 : decode cL_act 188 = .ok (.bipush 30, 2) := bL_act_185.2.1
theorem dL_act_190 : decode cL_act 190 = .ok (.isub, 1) := bL_act_185.2.2.1
theorem dL_act_191 : decode cL_act 191 = .ok (.iload_n 1, 1) := bL_act_185.2.2.2.1
theorem dL_act_192 : decode cL_act 192 = .ok (.bipush 14, 2) := bL_act_185.2.2.2.2.1
theorem dL_act_194 : decode cL_act 194 = .ok (.bipush 20, 2) := bL_act_185.2.2.2.2.2.1
theorem dL_act_196 : decode cL_act 196 = .ok (.invokestatic 20, 3) := bL_act_185.2.2.2.2.2.2.1
theorem dL_act_199 : decode cL_act 199 = .ok (.invokevirtual 53, 3) := bL_act_185.2.2.2.2.2.2.2.1
theorem dL_act_202 : decode cL_act 202 = .ok (.pop, 1) := bL_act_185.2.2.2.2.2.2.2.2.1
theorem dL_act_203 : decode cL_act 203 = .ok (.goto 198, 3) := bL_act_185.2.2.2.2.2.2.2.2.2.1
theorem dL_act_206 : decode cL_act 206 = .ok (.aload_n 0, 1) := bL_act_185.2.2.2.2.2.2.2.2.2.2.1
theorem dL_act_207 : decode cL_act 207 = .ok (.iload_n 3, 1) := bL_act_185.2.2.2.2.2.2.2.2.2.2.2.1
theorem dL_act_208 : decode cL_act 208 = .ok (.iload_n 1, 1) := bL_act_185.2.2.2.2.2.2.2.2.2.2.2.2.1
theorem dL_act_209 : decode cL_act 209 = .ok (.bipush 10, 2) := bL_act_185.2.2.2.2.2.2.2.2.2.2.2.2.2.1
theorem dL_act_211 : decode cL_act 211 = .ok (.bipush 30, 2) := bL_act_185.2.2.2.2.2.2.2.2.2.2.2.2.2.2.1
theorem dL_act_213 : decode cL_act 213 = .ok (.invokestatic 20, 3) := bL_act_185.2.2.2.2.2.2.2.2.2.2.2.2.2.2.2
set_option maxRecDepth 100000 in
theorem bL_act_216 : (decode cL_act 216 = .ok (.bipush 15, 2)) ∧ (decode cL_act 218 = .ok (.isub, 1)) ∧ (decode cL_act 219 = .ok (.invokevirtual 57, 3)) ∧ (decode cL_act 222 = .ok (.pop, 1)) ∧ (decode cL_act 223 = .ok (.goto 178, 3)) ∧ (decode cL_act 226 = .ok (.aload_n 0, 1)) ∧ (decode cL_act 227 = .ok (.iload_n 3, 1)) ∧ (decode cL_act 228 = .ok (.iload 6, 2)) ∧ (decode cL_act 230 = .ok (.iload_n 1, 1)) ∧ (decode cL_act 231 = .ok (.bipush 10, 2)) ∧ (decode cL_act 233 = .ok (.bipush 30, 2)) ∧ (decode cL_act 235 = .ok (.invokestatic 20, 3)) ∧ (decode cL_act 238 = .ok (.bipush 15, 2)) ∧ (decode cL_act 240 = .ok (.isub, 1)) ∧ (decode cL_act 241 = .ok (.invokevirtual 61, 3)) ∧ (decode cL_act 244 = .ok (.pop, 1)) := by decide +kernel
theorem dL_act_216 : decode cL_act 216 = .ok (.bipush 15, 2) := bL_act_216.1
theorem dL_act_218 : decode cL_act 218 = .ok (.isub, 1) := bL_act_216.2.1
theorem dL_act_219 : decode cL_act 219 = .ok (.invokevirtual 57, 3) := bL_act_216.2.2.1
theorem dL_act_222 : decode cL_act 222 = .ok (.pop, 1) := bL_act_216.2.2.2.1
theorem dL_act_223 : decode cL_act 223 = .ok (.goto 178, 3) := bL_act_216.2.2.2.2.1
theorem dL_act_226 : decode cL_act 226 = .ok (.aload_n 0, 1) := bL_act_216.2.2.2.2.2.1
theorem dL_act_227 : decode cL_act 227 = .ok (.iload_n 3, 1) := bL_act_216.2.2.2.2.2.2.1
theorem dL_act_228 : decode cL_act 228 = .ok (.iload 6, 2) := bL_act_216.2.2.2.2.2.2.2.1
theorem dL_act_230 : decode cL_act 230 = .ok (.iload_n 1, 1) := bL_act_216.2.2.2.2.2.2.2.2.1
theorem dL_act_231 : decode cL_act 231 = .ok (.bipush 10, 2) := bL_act_216.2.2.2.2.2.2.2.2.2.1
theorem dL_act_233 : decode cL_act 233 = .ok (.bipush 30, 2) := bL_act_216.2.2.2.2.2.2.2.2.2.2.1
theorem dL_act_235 : decode cL_act 235 = .ok (.invokestatic 20, 3) := bL_act_216.2.2.2.2.2.2.2.2.2.2.2.1
theorem dL_act_238 : decode cL_act 238 = .ok (.bipush 15, 2) := bL_act_216.2.2.2.2.2.2.2.2.2.2.2.2.1
theorem dL_act_240 : decode cL_act 240 = .ok (.isub, 1) := bL_act_216.2.2.2.2.2.2.2.2.2.2.2.2.2.1
theorem dL_act_241 : decode cL_act 241 = .ok (.invokevirtual 61, 3) := bL_act_216.2.2.2.2.2.2.2.2.2.2.2.2.2.2.1
theorem dL_act_244 : decode cL_act 244 = .ok (.pop, 1) := bL_act_216.2.2.2.2.2.2.2.2.2.2.2.2.2.2.2
set_option maxRecDepth 100000 in
theorem bL_act_245 : (decode cL_act 245 = .ok (.goto 156, 3)) ∧ (decode cL_act 248 = .ok (.aload_n 0, 1)) ∧ (decode cL_act 249 = .ok (.iload_n 3, 1)) ∧ (decode cL_act 250 = .ok (.iload 6, 2)) ∧ (decode cL_act 252 = .ok (.invokevirtual 64, 3)) ∧ (decode cL_act 255 = .ok (.pop, 1)) ∧ (decode cL_act 256 = .ok (.goto 145, 3)) ∧ (decode cL_act 259 = .ok (.aload_n 0, 1)) ∧ (decode cL_act 260 = .ok (.iload_n 3, 1)) ∧ (decode cL_act 261 = .ok (.iload 6, 2)) ∧ (decode cL_act 263 = .ok (.invokevirtual 67, 3)) ∧ (decode cL_act 266 = .ok (.pop, 1)) ∧ (decode cL_act 267 = .ok (.goto 134, 3)) ∧ (decode cL_act 270 = .ok (.aload_n 0, 1)) ∧ (decode cL_act 271 = .ok (.iload_n 3, 1)) ∧ (decode cL_act 272 = .ok (.iload 6, 2)) := by decide +kernel
theorem dL_act_245 : decode cL_act 245 = .ok (.goto 156, 3) := bL_act_245.1
theorem dL_act_248 : decode cL_act 248 = .ok (.aload_n 0, 1) := bL_act_245.2.1
theorem dL_act_249 : decode cL_act 249 = .ok (.iload_n 3, 1) := bL_act_245.2.2.1
theorem dL_act_250 : decode cL_act 250 = .ok (.iload 6, 2) := bL_act_245.2.2.2.1
theorem dL_act_252 : decode cL_act 252 = .ok (.invokevirtual 64, 3) := bL_act_245.2.2.2.2.1
theorem dL_act_255 : decode cL_act 255 = .ok (.pop, 1) := bL_act_245.2.2.2.2.2.1
theorem dL_act_256 : decode cL_act 256 = .ok (.goto 145, 3) := bL_act_245.2.2.2.2.2.2.1
theorem dL_act_259 : decode cL_act 259 = .ok (.aload_n 0, 1) := bL_act_245.2.2.2.2.2.2.2.1
theorem dL_act_260 : decode cL_act 260 = .ok (.iload_n 3, 1) := bL_act_245.2.2.2.2.2.2.2.2.1
theorem dL_act_261 : decode cL_act 261 = .ok (.iload 6, 2) := bL_act_245.2.2.2.2.2.2.2.2.2.1
theorem dL_act_263 : decode cL_act 263 = .ok (.invokevirtual 67, 3) := bL_act_245.2.2.2.2.2.2.2.2.2.2.1
theorem dL_act_266 : decode cL_act 266 = .ok (.pop, 1) := bL_act_245.2.2.2.2.2.2.2.2.2.2.2.1
theorem dL_act_267 : decode cL_act 267 = .ok (.goto 134, 3) := bL_act_245.2.2.2.2.2.2.2.2.2.2.2.2.1
theorem dL_act_270 : decode cL_act 270 = .ok (.aload_n 0, 1) := bL_act_245.2.2.2.2.2.2.2.2.2.2.2.2.2.1
theorem dL_act_271 : decode cL_act 271 = .ok (.iload_n 3, 1) := bL_act_245.2.2.2.2.2.2.2.2.2.2.2.2.2.2.1
theorem dL_act_272 : decode cL_act 272 = .ok (.iload 6, 2) := bL_act_245.2.2.2.2.2.2.2.2.2.2.2.2.2.2.2
set_option maxRecDepth 100000 in
theorem bL_act_274 : (decode cL_act 274 = .ok (.iload 7, 2)) ∧ (decode cL_act 276 = .ok (.invokevirtual 70, 3)) ∧ (decode cL_act 279 = .ok (.pop, 1)) ∧ (decode cL_act 280 = .ok (.goto 121, 3)) ∧ (decode cL_act 283 = .ok (.aload_n 0, 1)) ∧ (decode cL_act 284 = .ok (.iload_n 3, 1)) ∧ (decode cL_act 285 = .ok (.invokevirtual 73, 3)) ∧ (decode cL_act 288 = .ok (.pop, 1)) ∧ (decode cL_act 289 = .ok (.goto 112, 3)) ∧ (decode cL_act 292 = .ok (.aload_n 0, 1)) ∧ (decode cL_act 293 = .ok (.iload_n 3, 1)) ∧ (decode cL_act 294 = .ok (.iload 6, 2)) ∧ (decode cL_act 296 = .ok (.invokevirtual 76, 3)) ∧ (decode cL_act 299 = .ok (.pop, 1)) ∧ (decode cL_act 300 = .ok (.goto 101, 3)) ∧ (decode cL_act 303 = .ok (.aload_n 0, 1)) := by decide +kernel
theorem dL_act_274 : decode cL_act 274 = .ok (.iload 7, 2) := bL_act_274.1
theorem dL_act_276 : decode cL_act 276 = .ok (.invokevirtual 70, 3) := bL_act_274.2.1
theorem dL_act_279 : decode cL_act 279 = .ok (.pop, 1) := bL_act_274.2.2.1
theorem dL_act_280 : decode cL_act 280 = .ok (.goto 121, 3) := bL_act_274.2.2.2.1
theorem dL_act_283 : decode cL_act 283 = .ok (.aload_n 0, 1) := bL_act_274.2.2.2.2.1
theorem dL_act_284 : decode cL_act 284 = .ok (.iload_n 3, 1) := bL_act_274.2.2.2.2.2.1
theorem dL_act_285 : decode cL_act 285 = .ok (.invokevirtual 73, 3) := bL_act_274.2.2.2.2.2.2.1
theorem dL_act_288 : decode cL_act 288 = .ok (.pop, 1) := bL_act_274.2.2.2.2.2.2.2.1
theorem dL_act_289 : decode cL_act 289 = .ok (.goto 112, 3) := bL_act_274.2.2.2.2.2.2.2.2.1
theorem dL_act_292 : decode cL_act 292 = .ok (.aload_n 0, 1) := bL_act_274.2.2.2.2.2.2.2.2.2.1
theorem dL_act_293 : decode cL_act 293 = .ok (.iload_n 3, 1) := bL_act_274.2.2.2.2.2.2.2.2.2.2.1
theorem dL_act_294 : decode cL_act 294 = .ok (.iload 6, 2) := bL_act_274.2.2.2.2.2.2.2.2.2.2.2.1
theorem dL_act_296 : decode cL_act 296 = .ok (.invokevirtual 76, 3) := bL_act_274.2.2.2.2.2.2.2.2.2.2.2.2.1
theorem dL_act_299 : decode cL_act 299 = .ok (.pop, 1) := bL_act_274.2.2.2.2.2.2.2.2.2.2.2.2.2.1
theorem dL_act_300 : decode cL_act 300 = .ok (.goto 101, 3) := bL_act_274.2.2.2.2.2.2.2.2.2.2.2.2.2.2.1
theorem dL_act_303 : decode cL_act 303 = .ok (.aload_n 0, 1) := bL_act_274.2.2.2.2.2.2.2.2.2.2.2.2.2.2.2
set_option maxRecDepth 100000 in
theorem bL_act_304 : (decode cL_act 304 = .ok (.iload_n 3, 1)) ∧ (decode cL_act 305 = .ok (.iload_n 1, 1)) ∧ (decode cL_act 306 = .ok (.bipush 10, 2)) ∧ (decode cL_act 308 = .ok (.iconst 4, 1)) ∧ (decode cL_act 309 = .ok (.invokestatic 20, 3)) ∧ (decode cL_act 312 = .ok (.ifCond .ne 7, 3)) ∧ (decode cL_act 315 = .ok (.iconst 0, 1)) ∧ (decode cL_act 316 = .ok (.goto 10, 3)) ∧ (decode cL_act 319 = .ok (.iload_n 1, 1)) ∧ (decode cL_act 320 = .ok (.bipush 10, 2)) ∧ (decode cL_act 322 = .ok (.iconst 3, 1)) ∧ (decode cL_act 323 = .ok (.invokestatic 20, 3)) ∧ (decode cL_act 326 = .ok (.iload 5, 2)) ∧ (decode cL_act 328 = .ok (.iload_n 1, 1)) ∧ (decode cL_act 329 = .ok (.bipush 11, 2)) ∧ (decode cL_act 331 = .ok (.iconst 4, 1)) := by decide +kernel
theorem dL_act_304 : decode cL_act 304 = .ok (.iload_n 3, 1) := bL_act_304.1
theorem dL_act_305 : decode cL_act 305 = .ok (.iload_n 1, 1) := bL_act_304.2.1
theorem dL_act_306 : decode cL_act 306 = .ok (.bipush 10, 2) := bL_act_304.2.2.1
theorem dL_act_308 : decode cL_act 308 = .ok (.iconst 4, 1) := bL_act_304.2.2.2.1
theorem dL_act_309 : decode cL_act 309 = .ok (.invokestatic 20, 3) := bL_act_304.2.2.2.2.1
theorem dL_act_312 : decode cL_act 312 = .ok (.ifCond .ne 7, 3) := bL_act_304.2.2.2.2.2.1
theorem dL_act_315 : decode cL_act 315 = .ok (.iconst 0, 1) := bL_act_304.2.2.2.2.2.2.1
theorem dL_act_316 : decode cL_act 316 = .ok (.goto 10, 3) := bL_act_304.2.2.2.2.2.2.2.1
theorem dL_act_319 : decode cL_act 319 = .ok (.iload_n 1, 1) := bL_act_304.2.2.2.2.2.2.2.2.1
theorem dL_act_320 : decode cL_act 320 = .ok (.bipush 10, 2) := bL_act_304.2.2.2.2.2.2.2.2.2.1
theorem dL_act_322 : decode cL_act 322 = .ok (.iconst 3, 1) := bL_act_304.2.2.2.2.2.2.2.2.2.2.1
theorem dL_act_323 : decode cL_act 323 = .ok (.invokestatic 20, 3) := bL_act_304.2.2.2.2.2.2.2.2.2.2.2.1
theorem dL_act_326 : decode cL_act 326 = .ok (.iload 5, 2) := bL_act_304.2.2.2.2.2.2.2.2.2.2.2.2.1
theorem dL_act_328 : decode cL_act 328 = .ok (.iload_n 1, 1) := bL_act_304.2.2.2.2.2.2.2.2.2.2.2.2.2.1
theorem dL_act_329 : decode cL_act 329 = .ok (.bipush 11, 2) := bL_act_304.2.2.2.2.2.2.2.2.2.2.2.2.2.2.1
theorem dL_act_331 : decode cL_act 331 = .ok (.iconst 4, 1) := bL_act_304.2.2.2.2.2.2.2.2.2.2.2.2.2.2.2
set_option maxRecDepth 100000 in
theorem bL_act_332 : (decode cL_act 332 = .ok (.invokestatic 20, 3)) ∧ (decode cL_act 335 = .ok (.isub, 1)) ∧ (decode cL_act 336 = .ok (.invokevirtual 79, 3)) ∧ (decode cL_act 339 = .ok (.pop, 1)) ∧ (decode cL_act 340 = .ok (.goto 61, 3)) ∧ (decode cL_act 343 = .ok (.aload_n 0, 1)) ∧ (decode cL_act 344 = .ok (.iload_n 3, 1)) ∧ (decode cL_act 345 = .ok (.iload 4, 2)) ∧ (decode cL_act 347 = .ok (.invokevirtual 82, 3)) ∧ (decode cL_act 350 = .ok (.pop, 1)) ∧ (decode cL_act 351 = .ok (.goto 50, 3)) ∧ (decode cL_act 354 = .ok (.aload_n 0, 1)) ∧ (decode cL_act 355 = .ok (.iload_n 3, 1)) ∧ (decode cL_act 356 = .ok (.iload 4, 2)) ∧ (decode cL_act 358 = .ok (.invokevirtual 85, 3)) ∧ (decode cL_act 361 = .ok (.pop, 1)) := by decide +kernel
theorem dL_act_332 : decode cL_act 332 = .ok (.invokestatic 20, 3) := bL_act_332.1
theorem dL_act_335 : decode cL_act 335 = .ok (.isub, 1) := bL_act_332.2.1
theorem dL_act_336 : decode cL_act 336 = .ok (.invokevirtual 79, 3) := bL_act_332.2.2.1
theorem dL_act_339 : decode cL_act 339 = .ok (.pop, 1) := bL_act_332.2.2.2.1
theorem dL_act_340 : decode cL_act 340 = .ok (.goto 61, 3) := bL_act_332.2.2.2.2.1
theorem dL_act_343 : decode cL_act 343 = .ok (.aload_n 0, 1) := bL_act_332.2.2.2.2.2.1
theorem dL_act_344 : decode cL_act 344 = .ok (.iload_n 3, 1) := bL_act_332.2.2.2.2.2.2.1
theorem dL_act_345 : decode cL_act 345 = .ok (.iload 4, 2) := bL_act_332.2.2.2.2.2.2.2.1
theorem dL_act_347 : decode cL_act 347 = .ok (.invokevirtual 82, 3) := bL_act_332.2.2.2.2.2.2.2.2.1
theorem dL_act_350 : decode cL_act 350 = .ok (.pop, 1) := bL_act_332.2.2.2.2.2.2.2.2.2.1
theorem dL_act_351 : decode cL_act 351 = .ok (.goto 50, 3) := bL_act_332.2.2.2.2.2.2.2.2.2.2.1
theorem dL_act_354 : decode cL_act 354 = .ok (.aload_n 0, 1) := bL_act_332.2.2.2.2.2.2.2.2.2.2.2.1
theorem dL_act_355 : decode cL_act 355 = .ok (.iload_n 3, 1) := bL_act_332.2.2.2.2.2.2.2.2.2.2.2.2.1
theorem dL_act_356 : decode cL_act 356 = .ok (.iload 4, 2) := bL_act_332.2.2.2.2.2.2.2.2.2.2.2.2.2.1
theorem dL_act_358 : decode cL_act 358 = .ok (.invokevirtual 85, 3) := bL_act_332.2.2.2.2.2.2.2.2.2.2.2.2.2.2.1
theorem dL_act_361 : decode cL_act 361 = .ok (.pop, 1) := bL_act_332.2.2.2.2.2.2.2.2.2.2.2.2.2.2.2
set_option maxRecDepth 100000 in
theorem bL_act_362 : (decode cL_act 362 = .ok (.goto 39, 3)) ∧ (decode cL_act 365 = .ok (.aload_n 0, 1)) ∧ (decode cL_act 366 = .ok (.iload_n 3, 1)) ∧ (decode cL_act 367 = .ok (.iload 4, 2)) ∧ (decode cL_act 369 = .ok (.invokevirtual 88, 3)) ∧ (decode cL_act 372 = .ok (.pop, 1)) ∧ (decode cL_act 373 = .ok (.goto 28, 3)) ∧ (decode cL_act 376 = .ok (.iload_n 1, 1)) ∧ (decode cL_act 377 = .ok (.bipush 10, 2)) ∧ (decode cL_act 379 = .ok (.iconst 4, 1)) ∧ (decode cL_act 380 = .ok (.invokestatic 20, 3)) ∧ (decode cL_act 383 = .ok (.ifCond .ne 12, 3)) ∧ (decode cL_act 386 = .ok (.aload_n 0, 1)) ∧ (decode cL_act 387 = .ok (.iload_n 3, 1)) ∧ (decode cL_act 388 = .ok (.invokevirtual 91, 3)) ∧ (decode cL_act 391 = .ok (.pop, 1)) := by decide +kernel
theorem dL_act_362 : decode cL_act 362 = .ok (.goto 39, 3) := bL_act_362.1
theorem dL_act_365 : decode cL_act 365 = .ok (.aload_n 0, 1) := bL_act_362.2.1
theorem dL_act_366 : decode cL_act 366 = .ok (.iload_n 3, 1) := bL_act_362.2.2.1
theorem dL_act_367 : decode cL_act 367 = .ok (.iload 4, 2) := bL_act_362.2.2.2.1
theorem dL_act_369 : decode cL_act 369 = .ok (.invokevirtual 88, 3) := bL_act_362.2.2.2.2.1
theorem dL_act_372 : decode cL_act 372 = .ok (.pop, 1) := bL_act_362.2.2.2.2.2.1
theorem dL_act_373 : decode cL_act 373 = .ok (.goto 28, 3) := bL_act_362.2.2.2.2.2.2.1
theorem dL_act_376 : decode cL_act 376 = .ok (.iload_n 1, 1) := bL_act_362.2.2.2.2.2.2.2.1
theorem dL_act_377 : decode cL_act 377 = .ok (.bipush 10, 2) := bL_act_362.2.2.2.2.2.2.2.2.1
theorem dL_act_379 : decode cL_act 379 = .ok (.iconst 4, 1) := bL_act_362.2.2.2.2.2.2.2.2.2.1
theorem dL_act_380 : decode cL_act 380 = .ok (.invokestatic 20, 3) := bL_act_362.2.2.2.2.2.2.2.2.2.2.1
theorem dL_act_383 : decode cL_act 383 = .ok (.ifCond .ne 12, 3) := bL_act_362.2.2.2.2.2.2.2.2.2.2.2.1
theorem dL_act_386 : decode cL_act 386 = .ok (.aload_n 0, 1) := bL_act_362.2.2.2.2.2.2.2.2.2.2.2.2.1
theorem dL_act_387 : decode cL_act 387 = .ok (.iload_n 3, 1) := bL_act_362.2.2.2.2.2.2.2.2.2.2.2.2.2.1
theorem dL_act_388 : decode cL_act 388 = .ok (.invokevirtual 91, 3) := bL_act_362.2.2.2.2.2.2.2.2.2.2.2.2.2.2.1
theorem dL_act_391 : decode cL_act 391 = .ok (.pop, 1) := bL_act_362.2.2.2.2.2.2.2.2.2.2.2.2.2.2.2
set_option maxRecDepth 100000 in
theorem bL_act_392 : (decode cL_act 392 = .ok (.goto 9, 3)) ∧ (decode cL_act 395 = .ok (.aload_n 0, 1)) ∧ (decode cL_act 396 = .ok (.iload_n 3, 1)) ∧ (decode cL_act 397 = .ok (.invokevirtual 94, 3)) ∧ (decode cL_act 400 = .ok (.pop, 1)) ∧ (decode cL_act 401 = .ok (.goto 9, 3)) ∧ (decode cL_act 404 = .ok (.astore 8, 2)) ∧ (decode cL_act 406 = .ok (.return_, 1)) ∧ (decode cL_act 407 = .ok (.astore 8, 2)) ∧ (decode cL_act 409 = .ok (.return_, 1)) ∧ (decode cL_act 410 = .ok (.return_, 1)) := by decide +kernel
theorem dL_act_392 : decode cL_act 392 = .ok (.goto 9, 3) := bL_act_392.1
theorem dL_act_395 : decode cL_act 395 = .ok (.aload_n 0, 1) := bL_act_392.2.1
theorem dL_act_396 : decode cL_act 396 = .ok (.iload_n 3, 1) := bL_act_392.2.2.1
theorem dL_act_397 : decode cL_act 397 = .ok (.invokevirtual 94, 3) := bL_act_392.2.2.2.1
theorem dL_act_400 : decode cL_act 400 = .ok (.pop, 1) := bL_act_392.2.2.2.2.1
theorem dL_act_401 : decode cL_act 401 = .ok (.goto 9, 3) := bL_act_392.2.2.2.2.2.1
theorem dL_act_404 : decode cL_act 404 = .ok (.astore 8, 2) := bL_act_392.2.2.2.2.2.2.1
theorem dL_act_406 : decode cL_act 406 = .ok (.return_, 1) := bL_act_392.2.2.2.2.2.2.2.1
theorem dL_act_407 : decode cL_act 407 = .ok (.astore 8, 2) := bL_act_392.2.2.2.2.2.2.2.2.1
theorem dL_act_409 : decode cL_act 409 = .ok (.return_, 1) := bL_act_392.2.2.2.2.2.2.2.2.2.1
theorem dL_act_410 : decode cL_act 410 = .ok (.return_, 1) := bL_act_392.2.2.2.2.2.2.2.2.2.2
set_option maxRecDepth 100000 in
theorem bL_arePairs_0 : (decode cL_arePairs 0 = .ok (.aload_n 0, 1)) ∧ (decode cL_arePairs 1 = .ok (.iload_n 1, 1)) ∧ (decode cL_arePairs 2 = .ok (.invokevirtual 49, 3)) ∧ (decode cL_arePairs 5 = .ok (.istore_n 2, 1)) ∧ (decode cL_arePairs 6 = .ok (.aload_n 0, 1)) ∧ (decode cL_arePairs 7 = .ok (.iload_n 1, 1)) ∧ (decode cL_arePairs 8 = .ok (.iconst 0, 1)) ∧ (decode cL_arePairs 9 = .ok (.invokevirtual 101, 3)) ∧ (decode cL_arePairs 12 = .ok (.istore_n 3, 1)) ∧ (decode cL_arePairs 13 = .ok (.aload_n 0, 1)) ∧ (decode cL_arePairs 14 = .ok (.iload_n 1, 1)) ∧ (decode cL_arePairs 15 = .ok (.iconst 1, 1)) ∧ (decode cL_arePairs 16 = .ok (.invokevirtual 101, 3)) ∧ (decode cL_arePairs 19 = .ok (.iload_n 3, 1)) ∧ (decode cL_arePairs 20 = .ok (.if_icmp .ne 67, 3)) ∧ (decode cL_arePairs 23 = .ok (.iload_n 3, 1)) := by decide +kernel
theorem dL_arePairs_0 : decode cL_arePairs 0 = .ok (.aload_n 0, 1) := bL_arePairs_0.1
theorem dL_arePairs_1 : decode cL_arePairs 1 = .ok (.iload_n 1, 1) := bL_arePairs_0.2.1
theorem dL_arePairs_2 : decode cL_arePairs 2 = .ok (.invokevirtual 49, 3) := bL_arePairs_0.2.2.1
theorem dL_arePairs_5 : decode cL_arePairs 5 = .ok (.istore_n 2, 1) := bL_arePairs_0.2.2.2.1
theorem dL_arePairs_6 : decode cL_arePairs 6 = .ok (.aload_n 0, 1) := bL_arePairs_0.2.2.2.2.1
theorem dL_arePairs_7 : decode cL_arePairs 7 = .ok (.iload_n 1, 1) := bL_arePairs_0.2.2.2.2.2.1
theorem dL_arePairs_8 : decode cL_arePairs 8 = .ok (.iconst 0, 1) := bL_arePairs_0.2.2.2.2.2.2.1
theorem dL_arePairs_9 : decode cL_arePairs 9 = .ok (.invokevirtual 101, 3) := bL_arePairs_0.2.2.2.2.2.2.2.1
theorem dL_arePairs_12 : decode cL_arePairs 12 = .ok (.istore_n 3, 1) := bL_arePairs_0.2.2.2.2.2.2.2.2.1
theorem dL_arePairs_13 : decode cL_arePairs 13 = .ok (.aload_n 0, 1) := bL_arePairs_0.2.2.2.2.2.2.2.2.2.1
theorem dL_arePairs_14 : decode cL_arePairs 14 = .ok (.iload_n 1, 1) := bL_arePairs_0.2.2.2.2.2.2.2.2.2.2.1
theorem dL_arePairs_15 : decode cL_arePairs 15 = .ok (.iconst 1, 1) := bL_arePairs_0.2.2.2.2.2.2.2.2.2.2.2.1
theorem dL_arePairs_16 : decode cL_arePairs 16 = .ok (.invokevirtual 101, 3) := bL_arePairs_0.2.2.2.2.2.2.2.2.2.2.2.2.1
theorem dL_arePairs_19 : decode cL_arePairs 19 = .ok (.iload_n 3, 1) := bL_arePairs_0.2.2.2.2.2.2.2.2.2.2.2.2.2.1
theorem dL_arePairs_20 : decode cL_arePairs 20 = .ok (.if_icmp .ne 67, 3) := bL_arePairs_0.2.2.2.2.2.2.2.2.2.2.2.2.2.2.1
theorem dL_arePairs_23 : decode cL_arePairs 23 = .ok (.iload_n 3, 1) := bL_arePairs_0.2.2.2.2.2.2.2.2.2.2.2.2.2.2.2
set_option maxRecDepth 100000 in
theorem bL_arePairs_24 : (decode cL_arePairs 24 = .ok (.aload_n 0, 1)) ∧ (decode cL_arePairs 25 = .ok (.iload_n 1, 1)) ∧ (decode cL_arePairs 26 = .ok (.invokevirtual 104, 3)) ∧ (decode cL_arePairs 29 = .ok (.iadd, 1)) ∧ (decode cL_arePairs 30 = .ok (.aload_n 0, 1)) ∧ (decode cL_arePairs 31 = .ok (.iload_n 1, 1)) ∧ (decode cL_arePairs 32 = .ok (.invokevirtual 107, 3)) ∧ (decode cL_arePairs 35 = .ok (.iadd, 1)) ∧ (decode cL_arePairs 36 = .ok (.iload_n 2, 1)) ∧ (decode cL_arePairs 37 = .ok (.iload_n 2, 1)) ∧ (decode cL_arePairs 38 = .ok (.iconst 1, 1)) ∧ (decode cL_arePairs 39 = .ok (.isub, 1)) ∧ (decode cL_arePairs 40 = .ok (.imul, 1)) ∧ (decode cL_arePairs 41 = .ok (.iconst 2, 1)) ∧ (decode cL_arePairs 42 = .ok (.idiv, 1)) ∧ (decode cL_arePairs 43 = .ok (.if_icmp .ne 44, 3)) := by decide +kernel
theorem dL_arePairs_24 : decode cL_arePairs 24 = .ok (.aload_n 0, 1) := bL_arePairs_24.1
theorem dL_arePairs_25 : decode cL_arePairs 25 = .ok (.iload_n 1, 1) := bL_arePairs_24.2.1
theorem dL_arePairs_26 : decode cL_arePairs 26 = .ok (.invokevirtual 104, 3) := bL_arePairs_24.2.2.1
theorem dL_arePairs_29 : decode cL_arePairs 29 = .ok (.iadd, 1) := bL_arePairs_24.2.2.2.1
theorem dL_arePairs_30 : decode cL_arePairs 30 = .ok (.aload_n 0, 1) := bL_arePairs_24.2.2.2.2.1
theorem dL_arePairs_31 : decode cL_arePairs 31 = .ok (.iload_n 1, 1) := bL_arePairs_24.2.2.2.2.2.1
theorem dL_arePairs_32 : decode cL_arePairs 32 = .ok (.invokevirtual 107, 3) := bL_arePairs_24.2.2.2.2.2.2.1
theorem dL_arePairs_35 : decode cL_arePairs 35 = .ok (.iadd, 1) := bL_arePairs_24.2.2.2.2.2.2.2.1
theorem dL_arePairs_36 : decode cL_arePairs 36 = .ok (.iload_n 2, 1) := bL_arePairs_24.2.2.2.2.2.2.2.2.1
theorem dL_arePairs_37 : decode cL_arePairs 37 = .ok (.iload_n 2, 1) := bL_arePairs_24.2.2.2.2.2.2.2.2.2.1
theorem dL_arePairs_38 : decode cL_arePairs 38 = .ok (.iconst 1, 1) := bL_arePairs_24.2.2.2.2.2.2.2.2.2.2.1
theorem dL_arePairs_39 : decode cL_arePairs 39 = .ok (.isub, 1) := bL_arePairs_24.2.2.2.2.2.2.2.2.2.2.2.1
theorem dL_arePairs_40 : decode cL_arePairs 40 = .ok (.imul, 1) := bL_arePairs_24.2.2.2.2.2.2.2.2.2.2.2.2.1
theorem dL_arePairs_41 : decode cL_arePairs 41 = .ok (.iconst 2, 1) := bL_arePairs_24.2.2.2.2.2.2.2.2.2.2.2.2.2.1
theorem dL_arePairs_42 : decode cL_arePairs 42 = .ok (.idiv, 1) := bL_arePairs_24.2.2.2.2.2.2.2.2.2.2.2.2.2.2.1
theorem dL_arePairs_43 : decode cL_arePairs 43 = .ok (.if_icmp .ne 44, 3) := bL_arePairs_24.2.2.2.2.2.2.2.2.2.2.2.2.2.2.2
set_option maxRecDepth 100000 in
theorem bL_arePairs_46 : (decode cL_arePairs 46 = .ok (.aload_n 0, 1)) ∧ (decode cL_arePairs 47 = .ok (.iload_n 1, 1)) ∧ (decode cL_arePairs 48 = .ok (.invokevirtual 110, 3)) ∧ (decode cL_arePairs 51 = .ok (.iload_n 3, 1)) ∧ (decode cL_arePairs 52 = .ok (.ifCond .ne 7, 3)) ∧ (decode cL_arePairs 55 = .ok (.iconst 1, 1)) ∧ (decode cL_arePairs 56 = .ok (.goto 4, 3)) ∧ (decode cL_arePairs 59 = .ok (.iconst 0, 1)) ∧ (decode cL_arePairs 60 = .ok (.if_icmp .ne 27, 3)) ∧ (decode cL_arePairs 63 = .ok (.aload_n 0, 1)) ∧ (decode cL_arePairs 64 = .ok (.iload_n 1, 1)) ∧ (decode cL_arePairs 65 = .ok (.invokevirtual 113, 3)) ∧ (decode cL_arePairs 68 = .ok (.iload_n 3, 1)) ∧ (decode cL_arePairs 69 = .ok (.iload_n 2, 1)) ∧ (decode cL_arePairs 70 = .ok (.iload_n 2, 1)) ∧ (decode cL_arePairs 71 = .ok (.iconst 1, 1)) := by decide +kernel
theorem dL_arePairs_46 : decode cL_arePairs 46 = .ok (.aload_n 0, 1) := bL_arePairs_46.1
theorem dL_arePairs_47 : decode cL_arePairs 47 = .ok (.iload_n 1, 1) := bL_arePairs_46.2.1
theorem dL_arePairs_48 : decode cL_arePairs 48 = .ok (.invokevirtual 110, 3) := bL_arePairs_46.2.2.1
theorem dL_arePairs_51 : decode cL_arePairs 51 = .ok (.iload_n 3, 1) := bL_arePairs_46.2.2.2.1
theorem dL_arePairs_52 : decode cL_arePairs 52 = .ok (.ifCond .ne 7, 3) := bL_arePairs_46.2.2.2.2.1
theorem dL_arePairs_55 : decode cL_arePairs 55 = .ok (.iconst 1, 1) := bL_arePairs_46.2.2.2.2.2.1
theorem dL_arePairs_56 : decode cL_arePairs 56 = .ok (.goto 4, 3) := bL_arePairs_46.2.2.2.2.2.2.1
theorem dL_arePairs_59 : decode cL_arePairs 59 = .ok (.iconst 0, 1) := bL_arePairs_46.2.2.2.2.2.2.2.1
theorem dL_arePairs_60 : decode cL_arePairs 60 = .ok (.if_icmp .ne 27, 3) := bL_arePairs_46.2.2.2.2.2.2.2.2.1
theorem dL_arePairs_63 : decode cL_arePairs 63 = .ok (.aload_n 0, 1) := bL_arePairs_46.2.2.2.2.2.2.2.2.2.1
theorem dL_arePairs_64 : decode cL_arePairs 64 = .ok (.iload_n 1, 1) := bL_arePairs_46.2.2.2.2.2.2.2.2.2.2.1
theorem dL_arePairs_65 : decode cL_arePairs 65 = .ok (.invokevirtual 113, 3) := bL_arePairs_46.2.2.2.2.2.2.2.2.2.2.2.1
theorem dL_arePairs_68 : decode cL_arePairs 68 = .ok (.iload_n 3, 1) := bL_arePairs_46.2.2.2.2.2.2.2.2.2.2.2.2.1
theorem dL_arePairs_69 : decode cL_arePairs 69 = .ok (.iload_n 2, 1) := bL_arePairs_46.2.2.2.2.2.2.2.2.2.2.2.2.2.1
theorem dL_arePairs_70 : decode cL_arePairs 70 = .ok (.iload_n 2, 1) := bL_arePairs_46.2.2.2.2.2.2.2.2.2.2.2.2.2.2.1
theorem dL_arePairs_71 : decode cL_arePairs 71 = .ok (.iconst 1, 1) := bL_arePairs_46.2.2.2.2.2.2.2.2.2.2.2.2.2.2.2
set_option maxRecDepth 100000 in
theorem bL_arePairs_72 : (decode cL_arePairs 72 = .ok (.isub, 1)) ∧ (decode cL_arePairs 73 = .ok (.imul, 1)) ∧ (decode cL_arePairs 74 = .ok (.iconst 2, 1)) ∧ (decode cL_arePairs 75 = .ok (.idiv, 1)) ∧ (decode cL_arePairs 76 = .ok (.if_icmp .ne 7, 3)) ∧ (decode cL_arePairs 79 = .ok (.iconst 1, 1)) ∧ (decode cL_arePairs 80 = .ok (.goto 4, 3)) ∧ (decode cL_arePairs 83 = .ok (.iconst 0, 1)) ∧ (decode cL_arePairs 84 = .ok (.if_icmp .eq 5, 3)) ∧ (decode cL_arePairs 87 = .ok (.iconst 0, 1)) ∧ (decode cL_arePairs 88 = .ok (.ireturn, 1)) ∧ (decode cL_arePairs 89 = .ok (.iload_n 2, 1)) ∧ (decode cL_arePairs 90 = .ok (.ifCond .le 25, 3)) ∧ (decode cL_arePairs 93 = .ok (.aload_n 0, 1)) ∧ (decode cL_arePairs 94 = .ok (.iload_n 1, 1)) ∧ (decode cL_arePairs 95 = .ok (.invokevirtual 116, 3)) := by decide +kernel
theorem dL_arePairs_72 : decode cL_arePairs 72 = .ok (.isub, 1) := bL_arePairs_72.1
theorem dL_arePairs_73 : decode cL_arePairs 73 = .ok (.imul, 1) := bL_arePairs_72.2.1
theorem dL_arePairs_74 : decode cL_arePairs 74 = .ok (.iconst 2, 1) := bL_arePairs_72.2.2.1
theorem dL_arePairs_75 : decode cL_arePairs 75 = .ok (.idiv, 1) := bL_arePairs_72.2.2.2.1
theorem dL_arePairs_76 : decode cL_arePairs 76 = .ok (.if_icmp .ne 7, 3) := bL_arePairs_72.2.2.2.2.1
theorem dL_arePairs_79 : decode cL_arePairs 79 = .ok (.iconst 1, 1) := bL_arePairs_72.2.2.2.2.2.1
theorem dL_arePairs_80 : decode cL_arePairs 80 = .ok (.goto 4, 3) := bL_arePairs_72.2.2.2.2.2.2.1
theorem dL_arePairs_83 : decode cL_arePairs 83 = .ok (.iconst 0, 1) := bL_arePairs_72.2.2.2.2.2.2.2.1
theorem dL_arePairs_84 : decode cL_arePairs 84 = .ok (.if_icmp .eq 5, 3) := bL_arePairs_72.2.2.2.2.2.2.2.2.1
theorem dL_arePairs_87 : decode cL_arePairs 87 = .ok (.iconst 0, 1) := bL_arePairs_72.2.2.2.2.2.2.2.2.2.1
theorem dL_arePairs_88 : decode cL_arePairs 88 = .ok (.ireturn, 1) := bL_arePairs_72.2.2.2.2.2.2.2.2.2.2.1
theorem dL_arePairs_89 : decode cL_arePairs 89 = .ok (.iload_n 2, 1) := bL_arePairs_72.2.2.2.2.2.2.2.2.2.2.2.1
theorem dL_arePairs_90 : decode cL_arePairs 90 = .ok (.ifCond .le 25, 3) := bL_arePairs_72.2.2.2.2.2.2.2.2.2.2.2.2.1
theorem dL_arePairs_93 : decode cL_arePairs 93 = .ok (.aload_n 0, 1) := bL_arePairs_72.2.2.2.2.2.2.2.2.2.2.2.2.2.1
theorem dL_arePairs_94 : decode cL_arePairs 94 = .ok (.iload_n 1, 1) := bL_arePairs_72.2.2.2.2.2.2.2.2.2.2.2.2.2.2.1
theorem dL_arePairs_95 : decode cL_arePairs 95 = .ok (.invokevirtual 116, 3) := bL_arePairs_72.2.2.2.2.2.2.2.2.2.2.2.2.2.2.2
set_option maxRecDepth 100000 in
theorem bL_arePairs_98 : (decode cL_arePairs 98 = .ok (.iconst 1, 1)) ∧ (decode cL_arePairs 99 = .ok (.if_icmp .ne 7, 3)) ∧ (decode cL_arePairs 102 = .ok (.iconst 1, 1)) ∧ (decode cL_arePairs 103 = .ok (.goto 4, 3)) ∧ (decode cL_arePairs 106 = .ok (.iconst 0, 1)) ∧ (decode cL_arePairs 107 = .ok (.aload_n 0, 1)) ∧ (decode cL_arePairs 108 = .ok (.iload_n 1, 1)) ∧ (decode cL_arePairs 109 = .ok (.invokevirtual 110, 3)) ∧ (decode cL_arePairs 112 = .ok (.if_icmp .ne 20, 3)) ∧ (decode cL_arePairs 115 = .ok (.aload_n 0, 1)) ∧ (decode cL_arePairs 116 = .ok (.iload_n 1, 1)) ∧ (decode cL_arePairs 117 = .ok (.invokevirtual 113, 3)) ∧ (decode cL_arePairs 120 = .ok (.ifCond .eq 14, 3)) ∧ (decode cL_arePairs 123 = .ok (.aload_n 0, 1)) ∧ (decode cL_arePairs 124 = .ok (.iload_n 1, 1)) ∧ (decode cL_arePairs 125 = .ok (.invokevirtual 116, 3)) := by decide +kernel
theorem dL_arePairs_98 : decode cL_arePairs 98 = .ok (.iconst 1, 1) := bL_arePairs_98.1
theorem dL_arePairs_99 : decode cL_arePairs 99 = .ok (.if_icmp .ne 7, 3) := bL_arePairs_98.2.1
theorem dL_arePairs_102 : decode cL_arePairs 102 = .ok (.iconst 1, 1) := bL_arePairs_98.2.2.1
theorem dL_arePairs_103 : decode cL_arePairs 103 = .ok (.goto 4, 3) := bL_arePairs_98.2.2.2.1
theorem dL_arePairs_106 : decode cL_arePairs 106 = .ok (.iconst 0, 1) := bL_arePairs_98.2.2.2.2.1
theorem dL_arePairs_107 : decode cL_arePairs 107 = .ok (.aload_n 0, 1) := bL_arePairs_98.2.2.2.2.2.1
theorem dL_arePairs_108 : decode cL_arePairs 108 = .ok (.iload_n 1, 1) := bL_arePairs_98.2.2.2.2.2.2.1
theorem dL_arePairs_109 : decode cL_arePairs 109 = .ok (.invokevirtual 110, 3) := bL_arePairs_98.2.2.2.2.2.2.2.1
theorem dL_arePairs_112 : decode cL_arePairs 112 = .ok (.if_icmp .ne 20, 3) := bL_arePairs_98.2.2.2.2.2.2.2.2.1
theorem dL_arePairs_115 : decode cL_arePairs 115 = .ok (.aload_n 0, 1) := bL_arePairs_98.2.2.2.2.2.2.2.2.2.1
theorem dL_arePairs_116 : decode cL_arePairs 116 = .ok (.iload_n 1, 1) := bL_arePairs_98.2.2.2.2.2.2.2.2.2.2.1
theorem dL_arePairs_117 : decode cL_arePairs 117 = .ok (.invokevirtual 113, 3) := bL_arePairs_98.2.2.2.2.2.2.2.2.2.2.2.1
theorem dL_arePairs_120 : decode cL_arePairs 120 = .ok (.ifCond .eq 14, 3) := bL_arePairs_98.2.2.2.2.2.2.2.2.2.2.2.2.1
theorem dL_arePairs_123 : decode cL_arePairs 123 = .ok (.aload_n 0, 1) := bL_arePairs_98.2.2.2.2.2.2.2.2.2.2.2.2.2.1
theorem dL_arePairs_124 : decode cL_arePairs 124 = .ok (.iload_n 1, 1) := bL_arePairs_98.2.2.2.2.2.2.2.2.2.2.2.2.2.2.1
theorem dL_arePairs_125 : decode cL_arePairs 125 = .ok (.invokevirtual 116, 3) := bL_arePairs_98.2.2.2.2.2.2.2.2.2.2.2.2.2.2.2
set_option maxRecDepth 100000 in
theorem bL_arePairs_128 : (decode cL_arePairs 128 = .ok (.iload_n 2, 1)) ∧ (decode cL_arePairs 129 = .ok (.if_icmp .eq 5, 3)) ∧ (decode cL_arePairs 132 = .ok (.iconst 0, 1)) ∧ (decode cL_arePairs 133 = .ok (.ireturn, 1)) ∧ (decode cL_arePairs 134 = .ok (.iconst 0, 1)) ∧ (decode cL_arePairs 135 = .ok (.istore 4, 2)) ∧ (decode cL_arePairs 137 = .ok (.iload 4, 2)) ∧ (decode cL_arePairs 139 = .ok (.iconst 1, 1)) ∧ (decode cL_arePairs 140 = .ok (.iadd, 1)) ∧ (decode cL_arePairs 141 = .ok (.iload_n 2, 1)) ∧ (decode cL_arePairs 142 = .ok (.if_icmp .ge 105, 3)) ∧ (decode cL_arePairs 145 = .ok (.iload 4, 2)) ∧ (decode cL_arePairs 147 = .ok (.iconst 3, 1)) ∧ (decode cL_arePairs 148 = .ok (.if_icmp .ge 99, 3)) ∧ (decode cL_arePairs 151 = .ok (.aload_n 0, 1)) ∧ (decode cL_arePairs 152 = .ok (.iload_n 1, 1)) := by decide +kernel
theorem dL_arePairs_128 : decode cL_arePairs 128 = .ok (.iload_n 2, 1) := bL_arePairs_128.1
theorem dL_arePairs_129 : decode cL_arePairs 129 = .ok (.if_icmp .eq 5, 3) := bL_arePairs_128.2.1
theorem dL_arePairs_132 : decode cL_arePairs 132 = .ok (.iconst 0, 1) := bL_arePairs_128.2.2.1
theorem dL_arePairs_133 : decode cL_arePairs 133 = .ok (.ireturn, 1) := bL_arePairs_128.2.2.2.1
theorem dL_arePairs_134 : decode cL_arePairs 134 = .ok (.iconst 0, 1) := bL_arePairs_128.2.2.2.2.1
theorem dL_arePairs_135 : decode cL_arePairs 135 = .ok (.istore 4, 2) := bL_arePairs_128.2.2.2.2.2.1
theorem dL_arePairs_137 : decode cL_arePairs 137 = .ok (.iload 4, 2) := bL_arePairs_128.2.2.2.2.2.2.1
theorem dL_arePairs_139 : decode cL_arePairs 139 = .ok (.iconst 1, 1) := bL_arePairs_128.2.2.2.2.2.2.2.1
theorem dL_arePairs_140 : decode cL_arePairs 140 = .ok (.iadd, 1) := bL_arePairs_128.2.2.2.2.2.2.2.2.1
theorem dL_arePairs_141 : decode cL_arePairs 141 = .ok (.iload_n 2, 1) := bL_arePairs_128.2.2.2.2.2.2.2.2.2.1
theorem dL_arePairs_142 : decode cL_arePairs 142 = .ok (.if_icmp .ge 105, 3) := bL_arePairs_128.2.2.2.2.2.2.2.2.2.2.1
theorem dL_arePairs_145 : decode cL_arePairs 145 = .ok (.iload 4, 2) := bL_arePairs_128.2.2.2.2.2.2.2.2.2.2.2.1
theorem dL_arePairs_147 : decode cL_arePairs 147 = .ok (.iconst 3, 1) := bL_arePairs_128.2.2.2.2.2.2.2.2.2.2.2.2.1
theorem dL_arePairs_148 : decode cL_arePairs 148 = .ok (.if_icmp .ge 99, 3) := bL_arePairs_128.2.2.2.2.2.2.2.2.2.2.2.2.2.1
theorem dL_arePairs_151 : decode cL_arePairs 151 = .ok (.aload_n 0, 1) := bL_arePairs_128.2.2.2.2.2.2.2.2.2.2.2.2.2.2.1
theorem dL_arePairs_152 : decode cL_arePairs 152 = .ok (.iload_n 1, 1) := bL_arePairs_128.2.2.2.2.2.2.2.2.2.2.2.2.2.2.2
set_option maxRecDepth 100000 in
theorem bL_arePairs_153 : (decode cL_arePairs 153 = .ok (.iload 4, 2)) ∧ (decode cL_arePairs 155 = .ok (.invokevirtual 67, 3)) ∧ (decode cL_arePairs 158 = .ok (.istore 5, 2)) ∧ (decode cL_arePairs 160 = .ok (.aload_n 0, 1)) ∧ (decode cL_arePairs 161 = .ok (.iload_n 1, 1)) ∧ (decode cL_arePairs 162 = .ok (.iload 4, 2)) ∧ (decode cL_arePairs 164 = .ok (.invokevirtual 119, 3)) ∧ (decode cL_arePairs 167 = .ok (.aload_n 0, 1)) ∧ (decode cL_arePairs 168 = .ok (.iload_n 1, 1)) ∧ (decode cL_arePairs 169 = .ok (.iload 4, 2)) ∧ (decode cL_arePairs 171 = .ok (.iconst 1, 1)) ∧ (decode cL_arePairs 172 = .ok (.iadd, 1)) ∧ (decode cL_arePairs 173 = .ok (.invokevirtual 119, 3)) ∧ (decode cL_arePairs 176 = .ok (.if_icmp .ne 7, 3)) ∧ (decode cL_arePairs 179 = .ok (.iconst 1, 1)) ∧ (decode cL_arePairs 180 = .ok (.goto 4, 3)) := by decide +kernel
theorem dL_arePairs_153 : decode cL_arePairs 153 = .ok (.iload 4, 2) := bL_arePairs_153.1
theorem dL_arePairs_155 : decode cL_arePairs 155 = .ok (.invokevirtual 67, 3) := bL_arePairs_153.2.1
theorem dL_arePairs_158 : decode cL_arePairs 158 = .ok (.istore 5, 2) := bL_arePairs_153.2.2.1
theorem dL_arePairs_160 : decode cL_arePairs 160 = .ok (.aload_n 0, 1) := bL_arePairs_153.2.2.2.1
theorem dL_arePairs_161 : decode cL_arePairs 161 = .ok (.iload_n 1, 1) := bL_arePairs_153.2.2.2.2.1
theorem dL_arePairs_162 : decode cL_arePairs 162 = .ok (.iload 4, 2) := bL_arePairs_153.2.2.2.2.2.1
theorem dL_arePairs_164 : decode cL_arePairs 164 = .ok (.invokevirtual 119, 3) := bL_arePairs_153.2.2.2.2.2.2.1
theorem dL_arePairs_167 : decode cL_arePairs 167 = .ok (.aload_n 0, 1) := bL_arePairs_153.2.2.2.2.2.2.2.1
theorem dL_arePairs_168 : decode cL_arePairs 168 = .ok (.iload_n 1, 1) := bL_arePairs_153.2.2.2.2.2.2.2.2.1
theorem dL_arePairs_169 : decode cL_arePairs 169 = .ok (.iload 4, 2) := bL_arePairs_153.2.2.2.2.2.2.2.2.2.1
theorem dL_arePairs_171 : decode cL_arePairs 171 = .ok (.iconst 1, 1) := bL_arePairs_153.2.2.2.2.2.2.2.2.2.2.1
theorem dL_arePairs_172 : decode cL_arePairs 172 = .ok (.iadd, 1) := bL_arePairs_153.2.2.2.2.2.2.2.2.2.2.2.1
theorem dL_arePairs_173 : decode cL_arePairs 173 = .ok (.invokevirtual 119, 3) := bL_arePairs_153.2.2.2.2.2.2.2.2.2.2.2.2.1
theorem dL_arePairs_176 : decode cL_arePairs 176 = .ok (.if_icmp .ne 7, 3) := bL_arePairs_153.2.2.2.2.2.2.2.2.2.2.2.2.2.1
theorem dL_arePairs_179 : decode cL_arePairs 179 = .ok (.iconst 1, 1) := bL_arePairs_153.2.2.2.2.2.2.2.2.2.2.2.2.2.2.1
theorem dL_arePairs_180 : decode cL_arePairs 180 = .ok (.goto 4, 3) := bL_arePairs_153.2.2.2.2.2.2.2.2.2.2.2.2.2.2.2
set_option maxRecDepth 100000 in
theorem bL_arePairs_183 : (decode cL_arePairs 183 = .ok (.iconst 0, 1)) ∧ (decode cL_arePairs 184 = .ok (.istore 6, 2)) ∧ (decode cL_arePairs 186 = .ok (.iload 6, 2)) ∧ (decode cL_arePairs 188 = .ok (.iload 5, 2)) ∧ (decode cL_arePairs 190 = .ok (.ifCond .ne 7, 3)) ∧ (decode cL_arePairs 193 = .ok (.iconst 1, 1)) ∧ (decode cL_arePairs 194 = .ok (.goto 4, 3)) ∧ (decode cL_arePairs 197 = .ok (.iconst 0, 1)) ∧ (decode cL_arePairs 198 = .ok (.if_icmp .ne 41, 3)) ∧ (decode cL_arePairs 201 = .ok (.iload 5, 2)) ∧ (decode cL_arePairs 203 = .ok (.iconst (-1), 1)) ∧ (decode cL_arePairs 204 = .ok (.if_icmp .lt 35, 3)) ∧ (decode cL_arePairs 207 = .ok (.iload 5, 2)) ∧ (decode cL_arePairs 209 = .ok (.iconst 1, 1)) ∧ (decode cL_arePairs 210 = .ok (.if_icmp .gt 29, 3)) ∧ (decode cL_arePairs 213 = .ok (.aload_n 0, 1)) := by decide +kernel
theorem dL_arePairs_183 : decode cL_arePairs 183 = .ok (.iconst 0, 1) := bL_arePairs_183.1
theorem dL_arePairs_184 : decode cL_arePairs 184 = .ok (.istore 6, 2) := bL_arePairs_183.2.1
theorem dL_arePairs_186 : decode cL_arePairs 186 = .ok (.iload 6, 2) := bL_arePairs_183.2.2.1
theorem dL_arePairs_188 : decode cL_arePairs 188 = .ok (.iload 5, 2) := bL_arePairs_183.2.2.2.1
theorem dL_arePairs_190 : decode cL_arePairs 190 = .ok (.ifCond .ne 7, 3) := bL_arePairs_183.2.2.2.2.1
theorem dL_arePairs_193 : decode cL_arePairs 193 = .ok (.iconst 1, 1) := bL_arePairs_183.2.2.2.2.2.1
theorem dL_arePairs_194 : decode cL_arePairs 194 = .ok (.goto 4, 3) := bL_arePairs_183.2.2.2.2.2.2.1
theorem dL_arePairs_197 : decode cL_arePairs 197 = .ok (.iconst 0, 1) := bL_arePairs_183.2.2.2.2.2.2.2.1
theorem dL_arePairs_198 : decode cL_arePairs 198 = .ok (.if_icmp .ne 41, 3) := bL_arePairs_183.2.2.2.2.2.2.2.2.1
theorem dL_arePairs_201 : decode cL_arePairs 201 = .ok (.iload 5, 2) := bL_arePairs_183.2.2.2.2.2.2.2.2.2.1
theorem dL_arePairs_203 : decode cL_arePairs 203 = .ok (.iconst (-1), 1) := bL_arePairs_183.2.2.2.2.2.2.2.2.2.2.1
theorem dL_arePairs_204 : decode cL_arePairs 204 = .ok (.if_icmp .lt 35, 3) := bL_arePairs_183.2.2.2.2.2.2.2.2.2.2.2.1
theorem dL_arePairs_207 : decode cL_arePairs 207 = .ok (.iload 5, 2) := bL_arePairs_183.2.2.2.2.2.2.2.2.2.2.2.2.1
theorem dL_arePairs_209 : decode cL_arePairs 209 = .ok (.iconst 1, 1) := bL_arePairs_183.2.2.2.2.2.2.2.2.2.2.2.2.2.1
theorem dL_arePairs_210 : decode cL_arePairs 210 = .ok (.if_icmp .gt 29, 3) := bL_arePairs_183.2.2.2.2.2.2.2.2.2.2.2.2.2.2.1
theorem dL_arePairs_213 : decode cL_arePairs 213 = .ok (.aload_n 0, 1) := bL_arePairs_183.2.2.2.2.2.2.2.2.2.2.2.2.2.2.2
set_option maxRecDepth 100000 in
theorem bL_arePairs_214 : (decode cL_arePairs 214 = .ok (.iload_n 1, 1)) ∧ (decode cL_arePairs 215 = .ok (.iconst 0, 1)) ∧ (decode cL_arePairs 216 = .ok (.invokevirtual 101, 3)) ∧ (decode cL_arePairs 219 = .ok (.iload_n 3, 1)) ∧ (decode cL_arePairs 220 = .ok (.iload 5, 2)) ∧ (decode cL_arePairs 222 = .ok (.iadd, 1)) ∧ (decode cL_arePairs 223 = .ok (.if_icmp .ne 16, 3)) ∧ (decode cL_arePairs 226 = .ok (.aload_n 0, 1)) ∧ (decode cL_arePairs 227 = .ok (.iload_n 1, 1)) ∧ (decode cL_arePairs 228 = .ok (.iload 4, 2)) ∧ (decode cL_arePairs 230 = .ok (.invokevirtual 67, 3)) ∧ (decode cL_arePairs 233 = .ok (.iload 5, 2)) ∧ (decode cL_arePairs 235 = .ok (.ineg, 1)) ∧ (decode cL_arePairs 236 = .ok (.if_icmp .eq 5, 3)) ∧ (decode cL_arePairs 239 = .ok (.iconst 0, 1)) ∧ (decode cL_arePairs 240 = .ok (.ireturn, 1)) := by decide +kernel
theorem dL_arePairs_214 : decode cL_arePairs 214 = .ok (.iload_n 1, 1) := bL_arePairs_214.1
theorem dL_arePairs_215 : decode cL_arePairs 215 = .ok (.iconst 0, 1) := bL_arePairs_214.2.1
theorem dL_arePairs_216 : decode cL_arePairs 216 = .ok (.invokevirtual 101, 3) := bL_arePairs_214.2.2.1
theorem dL_arePairs_219 : decode cL_arePairs 219 = .ok (.iload_n 3, 1) := bL_arePairs_214.2.2.2.1
theorem dL_arePairs_220 : decode cL_arePairs 220 = .ok (.iload 5, 2) := bL_arePairs_214.2.2.2.2.1
theorem dL_arePairs_222 : decode cL_arePairs 222 = .ok (.iadd, 1) := bL_arePairs_214.2.2.2.2.2.1
theorem dL_arePairs_223 : decode cL_arePairs 223 = .ok (.if_icmp .ne 16, 3) := bL_arePairs_214.2.2.2.2.2.2.1
theorem dL_arePairs_226 : decode cL_arePairs 226 = .ok (.aload_n 0, 1) := bL_arePairs_214.2.2.2.2.2.2.2.1
theorem dL_arePairs_227 : decode cL_arePairs 227 = .ok (.iload_n 1, 1) := bL_arePairs_214.2.2.2.2.2.2.2.2.1
theorem dL_arePairs_228 : decode cL_arePairs 228 = .ok (.iload 4, 2) := bL_arePairs_214.2.2.2.2.2.2.2.2.2.1
theorem dL_arePairs_230 : decode cL_arePairs 230 = .ok (.invokevirtual 67, 3) := bL_arePairs_214.2.2.2.2.2.2.2.2.2.2.1
theorem dL_arePairs_233 : decode cL_arePairs 233 = .ok (.iload 5, 2) := bL_arePairs_214.2.2.2.2.2.2.2.2.2.2.2.1
theorem dL_arePairs_235 : decode cL_arePairs 235 = .ok (.ineg, 1) := bL_arePairs_214.2.2.2.2.2.2.2.2.2.2.2.2.1
theorem dL_arePairs_236 : decode cL_arePairs 236 = .ok (.if_icmp .eq 5, 3) := bL_arePairs_214.2.2.2.2.2.2.2.2.2.2.2.2.2.1
theorem dL_arePairs_239 : decode cL_arePairs 239 = .ok (.iconst 0, 1) := bL_arePairs_214.2.2.2.2.2.2.2.2.2.2.2.2.2.2.1
theorem dL_arePairs_240 : decode cL_arePairs 240 = .ok (.ireturn, 1) := bL_arePairs_214.2.2.2.2.2.2.2.2.2.2.2.2.2.2.2
set_option maxRecDepth 100000 in
theorem bL_arePairs_241 : (decode cL_arePairs 241 = .ok (.iinc 4 1, 3)) ∧ (decode cL_arePairs 244 = .ok (.goto (-107), 3)) ∧ (decode cL_arePairs 247 = .ok (.aload_n 0, 1)) ∧ (decode cL_arePairs 248 = .ok (.iload_n 1, 1)) ∧ (decode cL_arePairs 249 = .ok (.iconst 1, 1)) ∧ (decode cL_arePairs 250 = .ok (.invokevirtual 101, 3)) ∧ (decode cL_arePairs 253 = .ok (.iload_n 3, 1)) ∧ (decode cL_arePairs 254 = .ok (.if_icmp .ne 7, 3)) ∧ (decode cL_arePairs 257 = .ok (.iconst 1, 1)) ∧ (decode cL_arePairs 258 = .ok (.goto 4, 3)) ∧ (decode cL_arePairs 261 = .ok (.iconst 0, 1)) ∧ (decode cL_arePairs 262 = .ok (.ireturn, 1)) := by decide +kernel
theorem dL_arePairs_241 : decode cL_arePairs 241 = .ok (.iinc 4 1, 3) := bL_arePairs_241.1
theorem dL_arePairs_244 : decode cL_arePairs 244 = .ok (.goto (-107), 3) := bL_arePairs_241.2.1
theorem dL_arePairs_247 : decode cL_arePairs 247 = .ok (.aload_n 0, 1) := bL_arePairs_241.2.2.1
theorem dL_arePairs_248 : decode cL_arePairs 248 = .ok (.iload_n 1, 1) := bL_arePairs_241.2.2.2.1
theorem dL_arePairs_249 : decode cL_arePairs 249 = .ok (.iconst 1, 1) := bL_arePairs_241.2.2.2.2.1
theorem dL_arePairs_250 : decode cL_arePairs 250 = .ok (.invokevirtual 101, 3) := bL_arePairs_241.2.2.2.2.2.1
theorem dL_arePairs_253 : decode cL_arePairs 253 = .ok (.iload_n 3, 1) := bL_arePairs_241.2.2.2.2.2.2.1
theorem dL_arePairs_254 : decode cL_arePairs 254 = .ok (.if_icmp .ne 7, 3) := bL_arePairs_241.2.2.2.2.2.2.2.1
theorem dL_arePairs_257 : decode cL_arePairs 257 = .ok (.iconst 1, 1) := bL_arePairs_241.2.2.2.2.2.2.2.2.1
theorem dL_arePairs_258 : decode cL_arePairs 258 = .ok (.goto 4, 3) := bL_arePairs_241.2.2.2.2.2.2.2.2.2.1
theorem dL_arePairs_261 : decode cL_arePairs 261 = .ok (.iconst 0, 1) := bL_arePairs_241.2.2.2.2.2.2.2.2.2.2.1
theorem dL_arePairs_262 : decode cL_arePairs 262 = .ok (.ireturn, 1) := bL_arePairs_241.2.2.2.2.2.2.2.2.2.2.2
set_option maxRecDepth 100000 in
theorem bL_isSorted_0 : (decode cL_isSorted 0 = .ok (.aload_n 0, 1)) ∧ (decode cL_isSorted 1 = .ok (.iload_n 1, 1)) ∧ (decode cL_isSorted 2 = .ok (.invokevirtual 49, 3)) ∧ (decode cL_isSorted 5 = .ok (.istore_n 3, 1)) ∧ (decode cL_isSorted 6 = .ok (.iload_n 3, 1)) ∧ (decode cL_isSorted 7 = .ok (.newarray .int, 2)) ∧ (decode cL_isSorted 9 = .ok (.astore 4, 2)) ∧ (decode cL_isSorted 11 = .ok (.iload_n 3, 1)) ∧ (decode cL_isSorted 12 = .ok (.newarray .int, 2)) ∧ (decode cL_isSorted 14 = .ok (.astore 5, 2)) ∧ (decode cL_isSorted 16 = .ok (.iload_n 3, 1)) ∧ (decode cL_isSorted 17 = .ok (.newarray .int, 2)) ∧ (decode cL_isSorted 19 = .ok (.astore 6, 2)) ∧ (decode cL_isSorted 21 = .ok (.iload_n 3, 1)) ∧ (decode cL_isSorted 22 = .ok (.newarray .boolean, 2)) ∧ (decode cL_isSorted 24 = .ok (.astore 7, 2)) := by decide +kernel
theorem dL_isSorted_0 : decode cL_isSorted 0 = .ok (.aload_n 0, 1) := bL_isSorted_0.1
theorem dL_isSorted_1 : decode cL_isSorted 1 = .ok (.iload_n 1, 1) := bL_isSorted_0.2.1
theorem dL_isSorted_2 : decode cL_isSorted 2 = .ok (.invokevirtual 49, 3) := bL_isSorted_0.2.2.1
theorem dL_isSorted_5 : decode cL_isSorted 5 = .ok (.istore_n 3, 1) := bL_isSorted_0.2.2.2.1
theorem dL_isSorted_6 : decode cL_isSorted 6 = .ok (.iload_n 3, 1) := bL_isSorted_0.2.2.2.2.1
theorem dL_isSorted_7 : decode cL_isSorted 7 = .ok (.newarray .int, 2) := bL_isSorted_0.2.2.2.2.2.1
theorem dL_isSorted_9 : decode cL_isSorted 9 = .ok (.astore 4, 2) := bL_isSorted_0.2.2.2.2.2.2.1
theorem dL_isSorted_11 : decode cL_isSorted 11 = .ok (.iload_n 3, 1) := bL_isSorted_0.2.2.2.2.2.2.2.1
theorem dL_isSorted_12 : decode cL_isSorted 12 = .ok (.newarray .int, 2) := bL_isSorted_0.2.2.2.2.2.2.2.2.1
theorem dL_isSorted_14 : decode cL_isSorted 14 = .ok (.astore 5, 2) := bL_isSorted_0.2.2.2.2.2.2.2.2.2.1
theorem dL_isSorted_16 : decode cL_isSorted 16 = .ok (.iload_n 3, 1) := bL_isSorted_0.2.2.2.2.2.2.2.2.2.2.1
theorem dL_isSorted_17 : decode cL_isSorted 17 = .ok (.newarray .int, 2) := bL_isSorted_0.2.2.2.2.2.2.2.2.2.2.2.1
theorem dL_isSorted_19 : decode cL_isSorted 19 = .ok (.astore 6, 2) := bL_isSorted_0.2.2.2.2.2.2.2.2.2.2.2.2.1
theorem dL_isSorted_21 : decode cL_isSorted 21 = .ok (.iload_n 3, 1) := bL_isSorted_0.2.2.2.2.2.2.2.2.2.2.2.2.2.1
theorem dL_isSorted_22 : decode cL_isSorted 22 = .ok (.newarray .boolean, 2) := bL_isSorted_0.2.2.2.2.2.2.2.2.2.2.2.2.2.2.1
theorem dL_isSorted_24 : decode cL_isSorted 24 = .ok (.astore 7, 2) := bL_isSorted_0.2.2.2.2.2.2.2.2.2.2.2.2.2.2.2
set_option maxRecDepth 100000 in
theorem bL_isSorted_26 : (decode cL_isSorted 26 = .ok (.aload_n 0, 1)) ∧ (decode cL_isSorted 27 = .ok (.iload_n 1, 1)) ∧ (decode cL_isSorted 28 = .ok (.invokevirtual 113, 3)) ∧ (decode cL_isSorted 31 = .ok (.istore 8, 2)) ∧ (decode cL_isSorted 33 = .ok (.iconst 0, 1)) ∧ (decode cL_isSorted 34 = .ok (.istore 9, 2)) ∧ (decode cL_isSorted 36 = .ok (.iload 9, 2)) ∧ (decode cL_isSorted 38 = .ok (.iload_n 3, 1)) ∧ (decode cL_isSorted 39 = .ok (.if_icmp .ge 105, 3)) ∧ (decode cL_isSorted 42 = .ok (.aload 4, 2)) ∧ (decode cL_isSorted 44 = .ok (.iload 9, 2)) ∧ (decode cL_isSorted 46 = .ok (.aload_n 0, 1)) ∧ (decode cL_isSorted 47 = .ok (.iload_n 1, 1)) ∧ (decode cL_isSorted 48 = .ok (.iload 9, 2)) ∧ (decode cL_isSorted 50 = .ok (.invokevirtual 119, 3)) ∧ (decode cL_isSorted 53 = .ok (.iastore, 1)) := by decide +kernel
theorem dL_isSorted_26 : decode cL_isSorted 26 = .ok (.aload_n 0, 1) := bL_isSorted_26.1
theorem dL_isSorted_27 : decode cL_isSorted 27 = .ok (.iload_n 1, 1) := bL_isSorted_26.2.1
theorem dL_isSorted_28 : decode cL_isSorted 28 = .ok (.invokevirtual 113, 3) := bL_isSorted_26.2.2.1
theorem dL_isSorted_31 : decode cL_isSorted 31 = .ok (.istore 8, 2) := bL_isSorted_26.2.2.2.1
theorem dL_isSorted_33 : decode cL_isSorted 33 = .ok (.iconst 0, 1) := bL_isSorted_26.2.2.2.2.1
theorem dL_isSorted_34 : decode cL_isSorted 34 = .ok (.istore 9, 2) := bL_isSorted_26.2.2.2.2.2.1
theorem dL_isSorted_36 : decode cL_isSorted 36 = .ok (.iload 9, 2) := bL_isSorted_26.2.2.2.2.2.2.1
theorem dL_isSorted_38 : decode cL_isSorted 38 = .ok (.iload_n 3, 1) := bL_isSorted_26.2.2.2.2.2.2.2.1
theorem dL_isSorted_39 : decode cL_isSorted 39 = .ok (.if_icmp .ge 105, 3) := bL_isSorted_26.2.2.2.2.2.2.2.2.1
theorem dL_isSorted_42 : decode cL_isSorted 42 = .ok (.aload 4, 2) := bL_isSorted_26.2.2.2.2.2.2.2.2.2.1
theorem dL_isSorted_44 : decode cL_isSorted 44 = .ok (.iload 9, 2) := bL_isSorted_26.2.2.2.2.2.2.2.2.2.2.1
theorem dL_isSorted_46 : decode cL_isSorted 46 = .ok (.aload_n 0, 1) := bL_isSorted_26.2.2.2.2.2.2.2.2.2.2.2.1
theorem dL_isSorted_47 : decode cL_isSorted 47 = .ok (.iload_n 1, 1) := bL_isSorted_26.2.2.2.2.2.2.2.2.2.2.2.2.1
theorem dL_isSorted_48 : decode cL_isSorted 48 = .ok (.iload 9, 2) := bL_isSorted_26.2.2.2.2.2.2.2.2.2.2.2.2.2.1
theorem dL_isSorted_50 : decode cL_isSorted 50 = .ok (.invokevirtual 119, 3) := bL_isSorted_26.2.2.2.2.2.2.2.2.2.2.2.2.2.2.1
theorem dL_isSorted_53 : decode cL_isSorted 53 = .ok (.iastore, 1) := bL_isSorted_26.2.2.2.2.2.2.2.2.2.2.2.2.2.2.2
set_option maxRecDepth 100000 in
theorem bL_isSorted_54 : (decode cL_isSorted 54 = .ok (.aload 5, 2)) ∧ (decode cL_isSorted 56 = .ok (.iload 9, 2)) ∧ (decode cL_isSorted 58 = .ok (.aload_n 0, 1)) ∧ (decode cL_isSorted 59 = .ok (.iload_n 1, 1)) ∧ (decode cL_isSorted 60 = .ok (.iload 9, 2)) ∧ (decode cL_isSorted 62 = .ok (.invokevirtual 122, 3)) ∧ (decode cL_isSorted 65 = .ok (.iastore, 1)) ∧ (decode cL_isSorted 66 = .ok (.aload 6, 2)) ∧ (decode cL_isSorted 68 = .ok (.iload 9, 2)) ∧ (decode cL_isSorted 70 = .ok (.iload_n 3, 1)) ∧ (decode cL_isSorted 71 = .ok (.bipush 60, 2)) ∧ (decode cL_isSorted 73 = .ok (.if_icmp .lt 11, 3)) ∧ (decode cL_isSorted 76 = .ok (.iload 9, 2)) ∧ (decode cL_isSorted 78 = .ok (.bipush 7, 2)) ∧ (decode cL_isSorted 80 = .ok (.irem, 1)) ∧ (decode cL_isSorted 81 = .ok (.ifCond .ne 13, 3)) := by decide +kernel
theorem dL_isSorted_54 : decode cL_isSorted 54 = .ok (.aload 5, 2) := bL_isSorted_54.1
theorem dL_isSorted_56 : decode cL_isSorted 56 = .ok (.iload 9, 2) := bL_isSorted_54.2.1
theorem dL_isSorted_58 : decode cL_isSorted 58 = .ok (.aload_n 0, 1) := bL_isSorted_54.2.2.1
theorem dL_isSorted_59 : decode cL_isSorted 59 = .ok (.iload_n 1, 1) := bL_isSorted_54.2.2.2.1
theorem dL_isSorted_60 : decode cL_isSorted 60 = .ok (.iload 9, 2) := bL_isSorted_54.2.2.2.2.1
theorem dL_isSorted_62 : decode cL_isSorted 62 = .ok (.invokevirtual 122, 3) := bL_isSorted_54.2.2.2.2.2.1
theorem dL_isSorted_65 : decode cL_isSorted 65 = .ok (.iastore, 1) := bL_isSorted_54.2.2.2.2.2.2.1
theorem dL_isSorted_66 : decode cL_isSorted 66 = .ok (.aload 6, 2) := bL_isSorted_54.2.2.2.2.2.2.2.1
theorem dL_isSorted_68 : decode cL_isSorted 68 = .ok (.iload 9, 2) := bL_isSorted_54.2.2.2.2.2.2.2.2.1
theorem dL_isSorted_70 : decode cL_isSorted 70 = .ok (.iload_n 3, 1) := bL_isSorted_54.2.2.2.2.2.2.2.2.2.1
theorem dL_isSorted_71 : decode cL_isSorted 71 = .ok (.bipush 60, 2) := bL_isSorted_54.2.2.2.2.2.2.2.2.2.2.1
theorem dL_isSorted_73 : decode cL_isSorted 73 = .ok (.if_icmp .lt 11, 3) := bL_isSorted_54.2.2.2.2.2.2.2.2.2.2.2.1
theorem dL_isSorted_76 : decode cL_isSorted 76 = .ok (.iload 9, 2) := bL_isSorted_54.2.2.2.2.2.2.2.2.2.2.2.2.1
theorem dL_isSorted_78 : decode cL_isSorted 78 = .ok (.bipush 7, 2) := bL_isSorted_54.2.2.2.2.2.2.2.2.2.2.2.2.2.1
theorem dL_isSorted_80 : decode cL_isSorted 80 = .ok (.irem, 1) := bL_isSorted_54.2.2.2.2.2.2.2.2.2.2.2.2.2.2.1
theorem dL_isSorted_81 : decode cL_isSorted 81 = .ok (.ifCond .ne 13, 3) := bL_isSorted_54.2.2.2.2.2.2.2.2.2.2.2.2.2.2.2
set_option maxRecDepth 100000 in
theorem bL_isSorted_84 : (decode cL_isSorted 84 = .ok (.aload_n 0, 1)) ∧ (decode cL_isSorted 85 = .ok (.iload_n 1, 1)) ∧ (decode cL_isSorted 86 = .ok (.iload 9, 2)) ∧ (decode cL_isSorted 88 = .ok (.invokevirtual 125, 3)) ∧ (decode cL_isSorted 91 = .ok (.goto 4, 3)) ∧ (decode cL_isSorted 94 = .ok (.iconst (-1), 1)) ∧ (decode cL_isSorted 95 = .ok (.iastore, 1)) ∧ (decode cL_isSorted 96 = .ok (.aload 6, 2)) ∧ (decode cL_isSorted 98 = .ok (.iload 9, 2)) ∧ (decode cL_isSorted 100 = .ok (.iaload, 1)) ∧ (decode cL_isSorted 101 = .ok (.ifCond .ge 6, 3)) ∧ (decode cL_isSorted 104 = .ok (.goto 34, 3)) ∧ (decode cL_isSorted 107 = .ok (.aload 6, 2)) ∧ (decode cL_isSorted 109 = .ok (.iload 9, 2)) ∧ (decode cL_isSorted 111 = .ok (.iaload, 1)) ∧ (decode cL_isSorted 112 = .ok (.iload_n 3, 1)) := by decide +kernel
theorem dL_isSorted_84 : decode cL_isSorted 84 = .ok (.aload_n 0, 1) := bL_isSorted_84.1
theorem dL_isSorted_85 : decode cL_isSorted 85 = .ok (.iload_n 1, 1) := bL_isSorted_84.2.1
theorem dL_isSorted_86 : decode cL_isSorted 86 = .ok (.iload 9, 2) := bL_isSorted_84.2.2.1
theorem dL_isSorted_88 : decode cL_isSorted 88 = .ok (.invokevirtual 125, 3) := bL_isSorted_84.2.2.2.1
theorem dL_isSorted_91 : decode cL_isSorted 91 = .ok (.goto 4, 3) := bL_isSorted_84.2.2.2.2.1
theorem dL_isSorted_94 : decode cL_isSorted 94 = .ok (.iconst (-1), 1) := bL_isSorted_84.2.2.2.2.2.1
theorem dL_isSorted_95 : decode cL_isSorted 95 = .ok (.iastore, 1) := bL_isSorted_84.2.2.2.2.2.2.1
theorem dL_isSorted_96 : decode cL_isSorted 96 = .ok (.aload 6, 2) := bL_isSorted_84.2.2.2.2.2.2.2.1
theorem dL_isSorted_98 : decode cL_isSorted 98 = .ok (.iload 9, 2) := bL_isSorted_84.2.2.2.2.2.2.2.2.1
theorem dL_isSorted_100 : decode cL_isSorted 100 = .ok (.iaload, 1) := bL_isSorted_84.2.2.2.2.2.2.2.2.2.1
theorem dL_isSorted_101 : decode cL_isSorted 101 = .ok (.ifCond .ge 6, 3) := bL_isSorted_84.2.2.2.2.2.2.2.2.2.2.1
theorem dL_isSorted_104 : decode cL_isSorted 104 = .ok (.goto 34, 3) := bL_isSorted_84.2.2.2.2.2.2.2.2.2.2.2.1
theorem dL_isSorted_107 : decode cL_isSorted 107 = .ok (.aload 6, 2) := bL_isSorted_84.2.2.2.2.2.2.2.2.2.2.2.2.1
theorem dL_isSorted_109 : decode cL_isSorted 109 = .ok (.iload 9, 2) := bL_isSorted_84.2.2.2.2.2.2.2.2.2.2.2.2.2.1
theorem dL_isSorted_111 : decode cL_isSorted 111 = .ok (.iaload, 1) := bL_isSorted_84.2.2.2.2.2.2.2.2.2.2.2.2.2.2.1
theorem dL_isSorted_112 : decode cL_isSorted 112 = .ok (.iload_n 3, 1) := bL_isSorted_84.2.2.2.2.2.2.2.2.2.2.2.2.2.2.2
set_option maxRecDepth 100000 in
theorem bL_isSorted_113 : (decode cL_isSorted 113 = .ok (.if_icmp .ge 14, 3)) ∧ (decode cL_isSorted 116 = .ok (.aload 7, 2)) ∧ (decode cL_isSorted 118 = .ok (.aload 6, 2)) ∧ (decode cL_isSorted 120 = .ok (.iload 9, 2)) ∧ (decode cL_isSorted 122 = .ok (.iaload, 1)) ∧ (decode cL_isSorted 123 = .ok (.baload, 1)) ∧ (decode cL_isSorted 124 = .ok (.ifCond .eq 5, 3)) ∧ (decode cL_isSorted 127 = .ok (.iconst 0, 1)) ∧ (decode cL_isSorted 128 = .ok (.ireturn, 1)) ∧ (decode cL_isSorted 129 = .ok (.aload 7, 2)) ∧ (decode cL_isSorted 131 = .ok (.aload 6, 2)) ∧ (decode cL_isSorted 133 = .ok (.iload 9, 2)) ∧ (decode cL_isSorted 135 = .ok (.iaload, 1)) ∧ (decode cL_isSorted 136 = .ok (.iconst 1, 1)) ∧ (decode cL_isSorted 137 = .ok (.bastore, 1)) ∧ (decode cL_isSorted 138 = .ok (.iinc 9 1, 3)) := by decide +kernel
theorem dL_isSorted_113 : decode cL_isSorted 113 = .ok (.if_icmp .ge 14, 3) := bL_isSorted_113.1
theorem dL_isSorted_116 : decode cL_isSorted 116 = .ok (.aload 7, 2) := bL_isSorted_113.2.1
theorem dL_isSorted_118 : decode cL_isSorted 118 = .ok (.aload 6, 2) := bL_isSorted_113.2.2.1
theorem dL_isSorted_120 : decode cL_isSorted 120 = .ok (.iload 9, 2) := bL_isSorted_113.2.2.2.1
theorem dL_isSorted_122 : decode cL_isSorted 122 = .ok (.iaload, 1) := bL_isSorted_113.2.2.2.2.1
theorem dL_isSorted_123 : decode cL_isSorted 123 = .ok (.baload, 1) := bL_isSorted_113.2.2.2.2.2.1
theorem dL_isSorted_124 : decode cL_isSorted 124 = .ok (.ifCond .eq 5, 3) := bL_isSorted_113.2.2.2.2.2.2.1
theorem dL_isSorted_127 : decode cL_isSorted 127 = .ok (.iconst 0, 1) := bL_isSorted_113.2.2.2.2.2.2.2.1
theorem dL_isSorted_128 : decode cL_isSorted 128 = .ok (.ireturn, 1) := bL_isSorted_113.2.2.2.2.2.2.2.2.1
theorem dL_isSorted_129 : decode cL_isSorted 129 = .ok (.aload 7, 2) := bL_isSorted_113.2.2.2.2.2.2.2.2.2.1
theorem dL_isSorted_131 : decode cL_isSorted 131 = .ok (.aload 6, 2) := bL_isSorted_113.2.2.2.2.2.2.2.2.2.2.1
theorem dL_isSorted_133 : decode cL_isSorted 133 = .ok (.iload 9, 2) := bL_isSorted_113.2.2.2.2.2.2.2.2.2.2.2.1
theorem dL_isSorted_135 : decode cL_isSorted 135 = .ok (.iaload, 1) := bL_isSorted_113.2.2.2.2.2.2.2.2.2.2.2.2.1
theorem dL_isSorted_136 : decode cL_isSorted 136 = .ok (.iconst 1, 1) := bL_isSorted_113.2.2.2.2.2.2.2.2.2.2.2.2.2.1
theorem dL_isSorted_137 : decode cL_isSorted 137 = .ok (.bastore, 1) := bL_isSorted_113.2.2.2.2.2.2.2.2.2.2.2.2.2.2.1
theorem dL_isSorted_138 : decode cL_isSorted 138 = .ok (.iinc 9 1, 3) := bL_isSorted_113.2.2.2.2.2.2.2.2.2.2.2.2.2.2.2
set_option maxRecDepth 100000 in
theorem bL_isSorted_141 : (decode cL_isSorted 141 = .ok (.goto (-105), 3)) ∧ (decode cL_isSorted 144 = .ok (.iload_n 2, 1)) ∧ (decode cL_isSorted 145 = .ok (.iload_n 1, 1)) ∧ (decode cL_isSorted 146 = .ok (.if_icmp .eq 17, 3)) ∧ (decode cL_isSorted 149 = .ok (.aload_n 0, 1)) ∧ (decode cL_isSorted 150 = .ok (.iload_n 1, 1)) ∧ (decode cL_isSorted 151 = .ok (.iload_n 2, 1)) ∧ (decode cL_isSorted 152 = .ok (.invokevirtual 82, 3)) ∧ (decode cL_isSorted 155 = .ok (.iload_n 3, 1)) ∧ (decode cL_isSorted 156 = .ok (.if_icmp .ne 7, 3)) ∧ (decode cL_isSorted 159 = .ok (.iconst 1, 1)) ∧ (decode cL_isSorted 160 = .ok (.goto 4, 3)) ∧ (decode cL_isSorted 163 = .ok (.iconst 0, 1)) ∧ (decode cL_isSorted 164 = .ok (.istore 9, 2)) ∧ (decode cL_isSorted 166 = .ok (.aload_n 0, 1)) ∧ (decode cL_isSorted 167 = .ok (.iload_n 1, 1)) := by decide +kernel
theorem dL_isSorted_141 : decode cL_isSorted 141 = .ok (.goto (-105), 3) := bL_isSorted_141.1
theorem dL_isSorted_144 : decode cL_isSorted 144 = .ok (.iload_n 2, 1) := bL_isSorted_141.2.1
theorem dL_isSorted_145 : decode cL_isSorted 145 = .ok (.iload_n 1, 1) := bL_isSorted_141.2.2.1
theorem dL_isSorted_146 : decode cL_isSorted 146 = .ok (.if_icmp .eq 17, 3) := bL_isSorted_141.2.2.2.1
theorem dL_isSorted_149 : decode cL_isSorted 149 = .ok (.aload_n 0, 1) := bL_isSorted_141.2.2.2.2.1
theorem dL_isSorted_150 : decode cL_isSorted 150 = .ok (.iload_n 1, 1) := bL_isSorted_141.2.2.2.2.2.1
theorem dL_isSorted_151 : decode cL_isSorted 151 = .ok (.iload_n 2, 1) := bL_isSorted_141.2.2.2.2.2.2.1
theorem dL_isSorted_152 : decode cL_isSorted 152 = .ok (.invokevirtual 82, 3) := bL_isSorted_141.2.2.2.2.2.2.2.1
theorem dL_isSorted_155 : decode cL_isSorted 155 = .ok (.iload_n 3, 1) := bL_isSorted_141.2.2.2.2.2.2.2.2.1
theorem dL_isSorted_156 : decode cL_isSorted 156 = .ok (.if_icmp .ne 7, 3) := bL_isSorted_141.2.2.2.2.2.2.2.2.2.1
theorem dL_isSorted_159 : decode cL_isSorted 159 = .ok (.iconst 1, 1) := bL_isSorted_141.2.2.2.2.2.2.2.2.2.2.1
theorem dL_isSorted_160 : decode cL_isSorted 160 = .ok (.goto 4, 3) := bL_isSorted_141.2.2.2.2.2.2.2.2.2.2.2.1
theorem dL_isSorted_163 : decode cL_isSorted 163 = .ok (.iconst 0, 1) := bL_isSorted_141.2.2.2.2.2.2.2.2.2.2.2.2.1
theorem dL_isSorted_164 : decode cL_isSorted 164 = .ok (.istore 9, 2) := bL_isSorted_141.2.2.2.2.2.2.2.2.2.2.2.2.2.1
theorem dL_isSorted_166 : decode cL_isSorted 166 = .ok (.aload_n 0, 1) := bL_isSorted_141.2.2.2.2.2.2.2.2.2.2.2.2.2.2.1
theorem dL_isSorted_167 : decode cL_isSorted 167 = .ok (.iload_n 1, 1) := bL_isSorted_141.2.2.2.2.2.2.2.2.2.2.2.2.2.2.2
set_option maxRecDepth 100000 in
theorem bL_isSorted_168 : (decode cL_isSorted 168 = .ok (.iconst 0, 1)) ∧ (decode cL_isSorted 169 = .ok (.invokevirtual 128, 3)) ∧ (decode cL_isSorted 172 = .ok (.istore 10, 2)) ∧ (decode cL_isSorted 174 = .ok (.aload_n 0, 1)) ∧ (decode cL_isSorted 175 = .ok (.iload_n 1, 1)) ∧ (decode cL_isSorted 176 = .ok (.invokevirtual 94, 3)) ∧ (decode cL_isSorted 179 = .ok (.ifCond .lt 45, 3)) ∧ (decode cL_isSorted 182 = .ok (.aload_n 0, 1)) ∧ (decode cL_isSorted 183 = .ok (.iload_n 1, 1)) ∧ (decode cL_isSorted 184 = .ok (.invokevirtual 110, 3)) ∧ (decode cL_isSorted 187 = .ok (.ifCond .eq 37, 3)) ∧ (decode cL_isSorted 190 = .ok (.aload_n 0, 1)) ∧ (decode cL_isSorted 191 = .ok (.iload_n 1, 1)) ∧ (decode cL_isSorted 192 = .ok (.invokevirtual 49, 3)) ∧ (decode cL_isSorted 195 = .ok (.iload_n 3, 1)) ∧ (decode cL_isSorted 196 = .ok (.if_icmp .ne 28, 3)) := by decide +kernel
theorem dL_isSorted_168 : decode cL_isSorted 168 = .ok (.iconst 0, 1) := bL_isSorted_168.1
theorem dL_isSorted_169 : decode cL_isSorted 169 = .ok (.invokevirtual 128, 3) := bL_isSorted_168.2.1
theorem dL_isSorted_172 : decode cL_isSorted 172 = .ok (.istore 10, 2) := bL_isSorted_168.2.2.1
theorem dL_isSorted_174 : decode cL_isSorted 174 = .ok (.aload_n 0, 1) := bL_isSorted_168.2.2.2.1
theorem dL_isSorted_175 : decode cL_isSorted 175 = .ok (.iload_n 1, 1) := bL_isSorted_168.2.2.2.2.1
theorem dL_isSorted_176 : decode cL_isSorted 176 = .ok (.invokevirtual 94, 3) := bL_isSorted_168.2.2.2.2.2.1
theorem dL_isSorted_179 : decode cL_isSorted 179 = .ok (.ifCond .lt 45, 3) := bL_isSorted_168.2.2.2.2.2.2.1
theorem dL_isSorted_182 : decode cL_isSorted 182 = .ok (.aload_n 0, 1) := bL_isSorted_168.2.2.2.2.2.2.2.1
theorem dL_isSorted_183 : decode cL_isSorted 183 = .ok (.iload_n 1, 1) := bL_isSorted_168.2.2.2.2.2.2.2.2.1
theorem dL_isSorted_184 : decode cL_isSorted 184 = .ok (.invokevirtual 110, 3) := bL_isSorted_168.2.2.2.2.2.2.2.2.2.1
theorem dL_isSorted_187 : decode cL_isSorted 187 = .ok (.ifCond .eq 37, 3) := bL_isSorted_168.2.2.2.2.2.2.2.2.2.2.1
theorem dL_isSorted_190 : decode cL_isSorted 190 = .ok (.aload_n 0, 1) := bL_isSorted_168.2.2.2.2.2.2.2.2.2.2.2.1
theorem dL_isSorted_191 : decode cL_isSorted 191 = .ok (.iload_n 1, 1) := bL_isSorted_168.2.2.2.2.2.2.2.2.2.2.2.2.1
theorem dL_isSorted_192 : decode cL_isSorted 192 = .ok (.invokevirtual 49, 3) := bL_isSorted_168.2.2.2.2.2.2.2.2.2.2.2.2.2.1
theorem dL_isSorted_195 : decode cL_isSorted 195 = .ok (.iload_n 3, 1) := bL_isSorted_168.2.2.2.2.2.2.2.2.2.2.2.2.2.2.1
theorem dL_isSorted_196 : decode cL_isSorted 196 = .ok (.if_icmp .ne 28, 3) := bL_isSorted_168.2.2.2.2.2.2.2.2.2.2.2.2.2.2.2
set_option maxRecDepth 100000 in
theorem bL_isSorted_199 : (decode cL_isSorted 199 = .ok (.iload 9, 2)) ∧ (decode cL_isSorted 201 = .ok (.ifCond .eq 12, 3)) ∧ (decode cL_isSorted 204 = .ok (.aload_n 0, 1)) ∧ (decode cL_isSorted 205 = .ok (.iload_n 1, 1)) ∧ (decode cL_isSorted 206 = .ok (.iload_n 2, 1)) ∧ (decode cL_isSorted 207 = .ok (.invokevirtual 132, 3)) ∧ (decode cL_isSorted 210 = .ok (.ifCond .eq 14, 3)) ∧ (decode cL_isSorted 213 = .ok (.aload_n 0, 1)) ∧ (decode cL_isSorted 214 = .ok (.iload_n 1, 1)) ∧ (decode cL_isSorted 215 = .ok (.iconst 0, 1)) ∧ (decode cL_isSorted 216 = .ok (.invokevirtual 128, 3)) ∧ (decode cL_isSorted 219 = .ok (.iload 10, 2)) ∧ (decode cL_isSorted 221 = .ok (.if_icmp .eq 5, 3)) ∧ (decode cL_isSorted 224 = .ok (.iconst 0, 1)) ∧ (decode cL_isSorted 225 = .ok (.ireturn, 1)) ∧ (decode cL_isSorted 226 = .ok (.iconst 0, 1)) := by decide +kernel
theorem dL_isSorted_199 : decode cL_isSorted 199 = .ok (.iload 9, 2) := bL_isSorted_199.1
theorem dL_isSorted_201 : decode cL_isSorted 201 = .ok (.ifCond .eq 12, 3) := bL_isSorted_199.2.1
theorem dL_isSorted_204 : decode cL_isSorted 204 = .ok (.aload_n 0, 1) := bL_isSorted_199.2.2.1
theorem dL_isSorted_205 : decode cL_isSorted 205 = .ok (.iload_n 1, 1) := bL_isSorted_199.2.2.2.1
theorem dL_isSorted_206 : decode cL_isSorted 206 = .ok (.iload_n 2, 1) := bL_isSorted_199.2.2.2.2.1
theorem dL_isSorted_207 : decode cL_isSorted 207 = .ok (.invokevirtual 132, 3) := bL_isSorted_199.2.2.2.2.2.1
theorem dL_isSorted_210 : decode cL_isSorted 210 = .ok (.ifCond .eq 14, 3) := bL_isSorted_199.2.2.2.2.2.2.1
theorem dL_isSorted_213 : decode cL_isSorted 213 = .ok (.aload_n 0, 1) := bL_isSorted_199.2.2.2.2.2.2.2.1
theorem dL_isSorted_214 : decode cL_isSorted 214 = .ok (.iload_n 1, 1) := bL_isSorted_199.2.2.2.2.2.2.2.2.1
theorem dL_isSorted_215 : decode cL_isSorted 215 = .ok (.iconst 0, 1) := bL_isSorted_199.2.2.2.2.2.2.2.2.2.1
theorem dL_isSorted_216 : decode cL_isSorted 216 = .ok (.invokevirtual 128, 3) := bL_isSorted_199.2.2.2.2.2.2.2.2.2.2.1
theorem dL_isSorted_219 : decode cL_isSorted 219 = .ok (.iload 10, 2) := bL_isSorted_199.2.2.2.2.2.2.2.2.2.2.2.1
theorem dL_isSorted_221 : decode cL_isSorted 221 = .ok (.if_icmp .eq 5, 3) := bL_isSorted_199.2.2.2.2.2.2.2.2.2.2.2.2.1
theorem dL_isSorted_224 : decode cL_isSorted 224 = .ok (.iconst 0, 1) := bL_isSorted_199.2.2.2.2.2.2.2.2.2.2.2.2.2.1
theorem dL_isSorted_225 : decode cL_isSorted 225 = .ok (.ireturn, 1) := bL_isSorted_199.2.2.2.2.2.2.2.2.2.2.2.2.2.2.1
theorem dL_isSorted_226 : decode cL_isSorted 226 = .ok (.iconst 0, 1) := bL_isSorted_199.2.2.2.2.2.2.2.2.2.2.2.2.2.2.2
set_option maxRecDepth 100000 in
theorem bL_isSorted_227 : (decode cL_isSorted 227 = .ok (.istore 11, 2)) ∧ (decode cL_isSorted 229 = .ok (.iload 11, 2)) ∧ (decode cL_isSorted 231 = .ok (.iload_n 3, 1)) ∧ (decode cL_isSorted 232 = .ok (.if_icmp .ge 81, 3)) ∧ (decode cL_isSorted 235 = .ok (.aload 6, 2)) ∧ (decode cL_isSorted 237 = .ok (.iload 11, 2)) ∧ (decode cL_isSorted 239 = .ok (.iaload, 1)) ∧ (decode cL_isSorted 240 = .ok (.ifCond .lt 41, 3)) ∧ (decode cL_isSorted 243 = .ok (.aload_n 0, 1)) ∧ (decode cL_isSorted 244 = .ok (.iload_n 1, 1)) ∧ (decode cL_isSorted 245 = .ok (.aload 6, 2)) ∧ (decode cL_isSorted 247 = .ok (.iload 11, 2)) ∧ (decode cL_isSorted 249 = .ok (.iaload, 1)) ∧ (decode cL_isSorted 250 = .ok (.invokevirtual 119, 3)) ∧ (decode cL_isSorted 253 = .ok (.aload 4, 2)) ∧ (decode cL_isSorted 255 = .ok (.iload 11, 2)) := by decide +kernel
theorem dL_isSorted_227 : decode cL_isSorted 227 = .ok (.istore 11, 2) := bL_isSorted_227.1
theorem dL_isSorted_229 : decode cL_isSorted 229 = .ok (.iload 11, 2) := bL_isSorted_227.2.1
theorem dL_isSorted_231 : decode cL_isSorted 231 = .ok (.iload_n 3, 1) := bL_isSorted_227.2.2.1
theorem dL_isSorted_232 : decode cL_isSorted 232 = .ok (.if_icmp .ge 81, 3) := bL_isSorted_227.2.2.2.1
theorem dL_isSorted_235 : decode cL_isSorted 235 = .ok (.aload 6, 2) := bL_isSorted_227.2.2.2.2.1
theorem dL_isSorted_237 : decode cL_isSorted 237 = .ok (.iload 11, 2) := bL_isSorted_227.2.2.2.2.2.1
theorem dL_isSorted_239 : decode cL_isSorted 239 = .ok (.iaload, 1) := bL_isSorted_227.2.2.2.2.2.2.1
theorem dL_isSorted_240 : decode cL_isSorted 240 = .ok (.ifCond .lt 41, 3) := bL_isSorted_227.2.2.2.2.2.2.2.1
theorem dL_isSorted_243 : decode cL_isSorted 243 = .ok (.aload_n 0, 1) := bL_isSorted_227.2.2.2.2.2.2.2.2.1
theorem dL_isSorted_244 : decode cL_isSorted 244 = .ok (.iload_n 1, 1) := bL_isSorted_227.2.2.2.2.2.2.2.2.2.1
theorem dL_isSorted_245 : decode cL_isSorted 245 = .ok (.aload 6, 2) := bL_isSorted_227.2.2.2.2.2.2.2.2.2.2.1
theorem dL_isSorted_247 : decode cL_isSorted 247 = .ok (.iload 11, 2) := bL_isSorted_227.2.2.2.2.2.2.2.2.2.2.2.1
theorem dL_isSorted_249 : decode cL_isSorted 249 = .ok (.iaload, 1) := bL_isSorted_227.2.2.2.2.2.2.2.2.2.2.2.2.1
theorem dL_isSorted_250 : decode cL_isSorted 250 = .ok (.invokevirtual 119, 3) := bL_isSorted_227.2.2.2.2.2.2.2.2.2.2.2.2.2.1
theorem dL_isSorted_253 : decode cL_isSorted 253 = .ok (.aload 4, 2) := bL_isSorted_227.2.2.2.2.2.2.2.2.2.2.2.2.2.2.1
theorem dL_isSorted_255 : decode cL_isSorted 255 = .ok (.iload 11, 2) := bL_isSorted_227.2.2.2.2.2.2.2.2.2.2.2.2.2.2.2
set_option maxRecDepth 100000 in
theorem bL_isSorted_257 : (decode cL_isSorted 257 = .ok (.iaload, 1)) ∧ (decode cL_isSorted 258 = .ok (.if_icmp .ne 21, 3)) ∧ (decode cL_isSorted 261 = .ok (.aload_n 0, 1)) ∧ (decode cL_isSorted 262 = .ok (.iload_n 1, 1)) ∧ (decode cL_isSorted 263 = .ok (.aload 6, 2)) ∧ (decode cL_isSorted 265 = .ok (.iload 11, 2)) ∧ (decode cL_isSorted 267 = .ok (.iaload, 1)) ∧ (decode cL_isSorted 268 = .ok (.invokevirtual 122, 3)) ∧ (decode cL_isSorted 271 = .ok (.aload 5, 2)) ∧ (decode cL_isSorted 273 = .ok (.iload 11, 2)) ∧ (decode cL_isSorted 275 = .ok (.iaload, 1)) ∧ (decode cL_isSorted 276 = .ok (.if_icmp .eq 5, 3)) ∧ (decode cL_isSorted 279 = .ok (.iconst 0, 1)) ∧ (decode cL_isSorted 280 = .ok (.ireturn, 1)) ∧ (decode cL_isSorted 281 = .ok (.iload 8, 2)) ∧ (decode cL_isSorted 283 = .ok (.ifCond .eq 24, 3)) := by decide +kernel
theorem dL_isSorted_257 : decode cL_isSorted 257 = .ok (.iaload, 1) := bL_isSorted_257.1
theorem dL_isSorted_258 : decode cL_isSorted 258 = .ok (.if_icmp .ne 21, 3) := bL_isSorted_257.2.1
theorem dL_isSorted_261 : decode cL_isSorted 261 = .ok (.aload_n 0, 1) := bL_isSorted_257.2.2.1
theorem dL_isSorted_262 : decode cL_isSorted 262 = .ok (.iload_n 1, 1) := bL_isSorted_257.2.2.2.1
theorem dL_isSorted_263 : decode cL_isSorted 263 = .ok (.aload 6, 2) := bL_isSorted_257.2.2.2.2.1
theorem dL_isSorted_265 : decode cL_isSorted 265 = .ok (.iload 11, 2) := bL_isSorted_257.2.2.2.2.2.1
theorem dL_isSorted_267 : decode cL_isSorted 267 = .ok (.iaload, 1) := bL_isSorted_257.2.2.2.2.2.2.1
theorem dL_isSorted_268 : decode cL_isSorted 268 = .ok (.invokevirtual 122, 3) := bL_isSorted_257.2.2.2.2.2.2.2.1
theorem dL_isSorted_271 : decode cL_isSorted 271 = .ok (.aload 5, 2) := bL_isSorted_257.2.2.2.2.2.2.2.2.1
theorem dL_isSorted_273 : decode cL_isSorted 273 = .ok (.iload 11, 2) := bL_isSorted_257.2.2.2.2.2.2.2.2.2.1
theorem dL_isSorted_275 : decode cL_isSorted 275 = .ok (.iaload, 1) := bL_isSorted_257.2.2.2.2.2.2.2.2.2.2.1
theorem dL_isSorted_276 : decode cL_isSorted 276 = .ok (.if_icmp .eq 5, 3) := bL_isSorted_257.2.2.2.2.2.2.2.2.2.2.2.1
theorem dL_isSorted_279 : decode cL_isSorted 279 = .ok (.iconst 0, 1) := bL_isSorted_257.2.2.2.2.2.2.2.2.2.2.2.2.1
theorem dL_isSorted_280 : decode cL_isSorted 280 = .ok (.ireturn, 1) := bL_isSorted_257.2.2.2.2.2.2.2.2.2.2.2.2.2.1
theorem dL_isSorted_281 : decode cL_isSorted 281 = .ok (.iload 8, 2) := bL_isSorted_257.2.2.2.2.2.2.2.2.2.2.2.2.2.2.1
theorem dL_isSorted_283 : decode cL_isSorted 283 = .ok (.ifCond .eq 24, 3) := bL_isSorted_257.2.2.2.2.2.2.2.2.2.2.2.2.2.2.2
set_option maxRecDepth 100000 in
theorem bL_isSorted_286 : (decode cL_isSorted 286 = .ok (.aload_n 0, 1)) ∧ (decode cL_isSorted 287 = .ok (.iload_n 1, 1)) ∧ (decode cL_isSorted 288 = .ok (.iload_n 3, 1)) ∧ (decode cL_isSorted 289 = .ok (.iconst 1, 1)) ∧ (decode cL_isSorted 290 = .ok (.isub, 1)) ∧ (decode cL_isSorted 291 = .ok (.iload 11, 2)) ∧ (decode cL_isSorted 293 = .ok (.isub, 1)) ∧ (decode cL_isSorted 294 = .ok (.invokevirtual 119, 3)) ∧ (decode cL_isSorted 297 = .ok (.aload 4, 2)) ∧ (decode cL_isSorted 299 = .ok (.iload 11, 2)) ∧ (decode cL_isSorted 301 = .ok (.iaload, 1)) ∧ (decode cL_isSorted 302 = .ok (.if_icmp .eq 5, 3)) ∧ (decode cL_isSorted 305 = .ok (.iconst 0, 1)) ∧ (decode cL_isSorted 306 = .ok (.ireturn, 1)) ∧ (decode cL_isSorted 307 = .ok (.iinc 11 1, 3)) ∧ (decode cL_isSorted 310 = .ok (.goto (-81), 3)) := by decide +kernel
theorem dL_isSorted_286 : decode cL_isSorted 286 = .ok (.aload_n 0, 1) := bL_isSorted_286.1
theorem dL_isSorted_287 : decode cL_isSorted 287 = .ok (.iload_n 1, 1) := bL_isSorted_286.2.1
theorem dL_isSorted_288 : decode cL_isSorted 288 = .ok (.iload_n 3, 1) := bL_isSorted_286.2.2.1
theorem dL_isSorted_289 : decode cL_isSorted 289 = .ok (.iconst 1, 1) := bL_isSorted_286.2.2.2.1
theorem dL_isSorted_290 : decode cL_isSorted 290 = .ok (.isub, 1) := bL_isSorted_286.2.2.2.2.1
theorem dL_isSorted_291 : decode cL_isSorted 291 = .ok (.iload 11, 2) := bL_isSorted_286.2.2.2.2.2.1
theorem dL_isSorted_293 : decode cL_isSorted 293 = .ok (.isub, 1) := bL_isSorted_286.2.2.2.2.2.2.1
theorem dL_isSorted_294 : decode cL_isSorted 294 = .ok (.invokevirtual 119, 3) := bL_isSorted_286.2.2.2.2.2.2.2.1
theorem dL_isSorted_297 : decode cL_isSorted 297 = .ok (.aload 4, 2) := bL_isSorted_286.2.2.2.2.2.2.2.2.1
theorem dL_isSorted_299 : decode cL_isSorted 299 = .ok (.iload 11, 2) := bL_isSorted_286.2.2.2.2.2.2.2.2.2.1
theorem dL_isSorted_301 : decode cL_isSorted 301 = .ok (.iaload, 1) := bL_isSorted_286.2.2.2.2.2.2.2.2.2.2.1
theorem dL_isSorted_302 : decode cL_isSorted 302 = .ok (.if_icmp .eq 5, 3) := bL_isSorted_286.2.2.2.2.2.2.2.2.2.2.2.1
theorem dL_isSorted_305 : decode cL_isSorted 305 = .ok (.iconst 0, 1) := bL_isSorted_286.2.2.2.2.2.2.2.2.2.2.2.2.1
theorem dL_isSorted_306 : decode cL_isSorted 306 = .ok (.ireturn, 1) := bL_isSorted_286.2.2.2.2.2.2.2.2.2.2.2.2.2.1
theorem dL_isSorted_307 : decode cL_isSorted 307 = .ok (.iinc 11 1, 3) := bL_isSorted_286.2.2.2.2.2.2.2.2.2.2.2.2.2.2.1
theorem dL_isSorted_310 : decode cL_isSorted 310 = .ok (.goto (-81), 3) := bL_isSorted_286.2.2.2.2.2.2.2.2.2.2.2.2.2.2.2
set_option maxRecDepth 100000 in
theorem bL_isSorted_313 : (decode cL_isSorted 313 = .ok (.aload_n 0, 1)) ∧ (decode cL_isSorted 314 = .ok (.iload_n 1, 1)) ∧ (decode cL_isSorted 315 = .ok (.iconst 1, 1)) ∧ (decode cL_isSorted 316 = .ok (.invokevirtual 136, 3)) ∧ (decode cL_isSorted 319 = .ok (.istore 11, 2)) ∧ (decode cL_isSorted 321 = .ok (.aload_n 0, 1)) ∧ (decode cL_isSorted 322 = .ok (.iload_n 1, 1)) ∧ (decode cL_isSorted 323 = .ok (.invokevirtual 94, 3)) ∧ (decode cL_isSorted 326 = .ok (.ifCond .ne 40, 3)) ∧ (decode cL_isSorted 329 = .ok (.aload_n 0, 1)) ∧ (decode cL_isSorted 330 = .ok (.iload_n 1, 1)) ∧ (decode cL_isSorted 331 = .ok (.iconst 1, 1)) ∧ (decode cL_isSorted 332 = .ok (.invokevirtual 136, 3)) ∧ (decode cL_isSorted 335 = .ok (.iload 11, 2)) ∧ (decode cL_isSorted 337 = .ok (.if_icmp .ne 29, 3)) ∧ (decode cL_isSorted 340 = .ok (.iload 9, 2)) := by decide +kernel
theorem dL_isSorted_313 : decode cL_isSorted 313 = .ok (.aload_n 0, 1) := bL_isSorted_313.1
theorem dL_isSorted_314 : decode cL_isSorted 314 = .ok (.iload_n 1, 1) := bL_isSorted_313.2.1
theorem dL_isSorted_315 : decode cL_isSorted 315 = .ok (.iconst 1, 1) := bL_isSorted_313.2.2.1
theorem dL_isSorted_316 : decode cL_isSorted 316 = .ok (.invokevirtual 136, 3) := bL_isSorted_313.2.2.2.1
theorem dL_isSorted_319 : decode cL_isSorted 319 = .ok (.istore 11, 2) := bL_isSorted_313.2.2.2.2.1
theorem dL_isSorted_321 : decode cL_isSorted 321 = .ok (.aload_n 0, 1) := bL_isSorted_313.2.2.2.2.2.1
theorem dL_isSorted_322 : decode cL_isSorted 322 = .ok (.iload_n 1, 1) := bL_isSorted_313.2.2.2.2.2.2.1
theorem dL_isSorted_323 : decode cL_isSorted 323 = .ok (.invokevirtual 94, 3) := bL_isSorted_313.2.2.2.2.2.2.2.1
theorem dL_isSorted_326 : decode cL_isSorted 326 = .ok (.ifCond .ne 40, 3) := bL_isSorted_313.2.2.2.2.2.2.2.2.1
theorem dL_isSorted_329 : decode cL_isSorted 329 = .ok (.aload_n 0, 1) := bL_isSorted_313.2.2.2.2.2.2.2.2.2.1
theorem dL_isSorted_330 : decode cL_isSorted 330 = .ok (.iload_n 1, 1) := bL_isSorted_313.2.2.2.2.2.2.2.2.2.2.1
theorem dL_isSorted_331 : decode cL_isSorted 331 = .ok (.iconst 1, 1) := bL_isSorted_313.2.2.2.2.2.2.2.2.2.2.2.1
theorem dL_isSorted_332 : decode cL_isSorted 332 = .ok (.invokevirtual 136, 3) := bL_isSorted_313.2.2.2.2.2.2.2.2.2.2.2.2.1
theorem dL_isSorted_335 : decode cL_isSorted 335 = .ok (.iload 11, 2) := bL_isSorted_313.2.2.2.2.2.2.2.2.2.2.2.2.2.1
theorem dL_isSorted_337 : decode cL_isSorted 337 = .ok (.if_icmp .ne 29, 3) := bL_isSorted_313.2.2.2.2.2.2.2.2.2.2.2.2.2.2.1
theorem dL_isSorted_340 : decode cL_isSorted 340 = .ok (.iload 9, 2) := bL_isSorted_313.2.2.2.2.2.2.2.2.2.2.2.2.2.2.2
set_option maxRecDepth 100000 in
theorem bL_isSorted_342 : (decode cL_isSorted 342 = .ok (.ifCond .eq 20, 3)) ∧ (decode cL_isSorted 345 = .ok (.aload_n 0, 1)) ∧ (decode cL_isSorted 346 = .ok (.iload_n 2, 1)) ∧ (decode cL_isSorted 347 = .ok (.invokevirtual 94, 3)) ∧ (decode cL_isSorted 350 = .ok (.ifCond .lt 16, 3)) ∧ (decode cL_isSorted 353 = .ok (.aload_n 0, 1)) ∧ (decode cL_isSorted 354 = .ok (.iload_n 1, 1)) ∧ (decode cL_isSorted 355 = .ok (.iload_n 2, 1)) ∧ (decode cL_isSorted 356 = .ok (.invokevirtual 139, 3)) ∧ (decode cL_isSorted 359 = .ok (.ifCond .eq 7, 3)) ∧ (decode cL_isSorted 362 = .ok (.iconst 1, 1)) ∧ (decode cL_isSorted 363 = .ok (.goto 4, 3)) ∧ (decode cL_isSorted 366 = .ok (.iconst 0, 1)) ∧ (decode cL_isSorted 367 = .ok (.ireturn, 1)) := by decide +kernel
theorem dL_isSorted_342 : decode cL_isSorted 342 = .ok (.ifCond .eq 20, 3) := bL_isSorted_342.1
theorem dL_isSorted_345 : decode cL_isSorted 345 = .ok (.aload_n 0, 1) := bL_isSorted_342.2.1
theorem dL_isSorted_346 : decode cL_isSorted 346 = .ok (.iload_n 2, 1) := bL_isSorted_342.2.2.1
theorem dL_isSorted_347 : decode cL_isSorted 347 = .ok (.invokevirtual 94, 3) := bL_isSorted_342.2.2.2.1
theorem dL_isSorted_350 : decode cL_isSorted 350 = .ok (.ifCond .lt 16, 3) := bL_isSorted_342.2.2.2.2.1
theorem dL_isSorted_353 : decode cL_isSorted 353 = .ok (.aload_n 0, 1) := bL_isSorted_342.2.2.2.2.2.1
theorem dL_isSorted_354 : decode cL_isSorted 354 = .ok (.iload_n 1, 1) := bL_isSorted_342.2.2.2.2.2.2.1
theorem dL_isSorted_355 : decode cL_isSorted 355 = .ok (.iload_n 2, 1) := bL_isSorted_342.2.2.2.2.2.2.2.1
theorem dL_isSorted_356 : decode cL_isSorted 356 = .ok (.invokevirtual 139, 3) := bL_isSorted_342.2.2.2.2.2.2.2.2.1
theorem dL_isSorted_359 : decode cL_isSorted 359 = .ok (.ifCond .eq 7, 3) := bL_isSorted_342.2.2.2.2.2.2.2.2.2.1
theorem dL_isSorted_362 : decode cL_isSorted 362 = .ok (.iconst 1, 1) := bL_isSorted_342.2.2.2.2.2.2.2.2.2.2.1
theorem dL_isSorted_363 : decode cL_isSorted 363 = .ok (.goto 4, 3) := bL_isSorted_342.2.2.2.2.2.2.2.2.2.2.2.1
theorem dL_isSorted_366 : decode cL_isSorted 366 = .ok (.iconst 0, 1) := bL_isSorted_342.2.2.2.2.2.2.2.2.2.2.2.2.1
theorem dL_isSorted_367 : decode cL_isSorted 367 = .ok (.ireturn, 1) := bL_isSorted_342.2.2.2.2.2.2.2.2.2.2.2.2.2
set_option maxRecDepth 100000 in
theorem bL_isTurned_0 : (decode cL_isTurned 0 = .ok (.aload_n 0, 1)) ∧ (decode cL_isTurned 1 = .ok (.iload_n 1, 1)) ∧ (decode cL_isTurned 2 = .ok (.iload_n 2, 1)) ∧ (decode cL_isTurned 3 = .ok (.bipush 15, 2)) ∧ (decode cL_isTurned 5 = .ok (.bipush 40, 2)) ∧ (decode cL_isTurned 7 = .ok (.invokestatic 20, 3)) ∧ (decode cL_isTurned 10 = .ok (.iconst 2, 1)) ∧ (decode cL_isTurned 11 = .ok (.iload_n 2, 1)) ∧ (decode cL_isTurned 12 = .ok (.bipush 16, 2)) ∧ (decode cL_isTurned 14 = .ok (.bipush 99, 2)) ∧ (decode cL_isTurned 16 = .ok (.invokestatic 20, 3)) ∧ (decode cL_isTurned 19 = .ok (.iconst 1, 1)) ∧ (decode cL_isTurned 20 = .ok (.iload_n 2, 1)) ∧ (decode cL_isTurned 21 = .ok (.bipush 17, 2)) ∧ (decode cL_isTurned 23 = .ok (.bipush 9, 2)) ∧ (decode cL_isTurned 25 = .ok (.invokestatic 20, 3)) := by decide +kernel
theorem dL_isTurned_0 : decode cL_isTurned 0 = .ok (.aload_n 0, 1) := bL_isTurned_0.1
theorem dL_isTurned_1 : decode cL_isTurned 1 = .ok (.iload_n 1, 1) := bL_isTurned_0.2.1
theorem dL_isTurned_2 : decode cL_isTurned 2 = .ok (.iload_n 2, 1) := bL_isTurned_0.2.2.1
theorem dL_isTurned_3 : decode cL_isTurned 3 = .ok (.bipush 15, 2) := bL_isTurned_0.2.2.2.1
theorem dL_isTurned_5 : decode cL_isTurned 5 = .ok (.bipush 40, 2) := bL_isTurned_0.2.2.2.2.1
theorem dL_isTurned_7 : decode cL_isTurned 7 = .ok (.invokestatic 20, 3) := bL_isTurned_0.2.2.2.2.2.1
theorem dL_isTurned_10 : decode cL_isTurned 10 = .ok (.iconst 2, 1) := bL_isTurned_0.2.2.2.2.2.2.1
theorem dL_isTurned_11 : decode cL_isTurned 11 = .ok (.iload_n 2, 1) := bL_isTurned_0.2.2.2.2.2.2.2.1
theorem dL_isTurned_12 : decode cL_isTurned 12 = .ok (.bipush 16, 2) := bL_isTurned_0.2.2.2.2.2.2.2.2.1
theorem dL_isTurned_14 : decode cL_isTurned 14 = .ok (.bipush 99, 2) := bL_isTurned_0.2.2.2.2.2.2.2.2.2.1
theorem dL_isTurned_16 : decode cL_isTurned 16 = .ok (.invokestatic 20, 3) := bL_isTurned_0.2.2.2.2.2.2.2.2.2.2.1
theorem dL_isTurned_19 : decode cL_isTurned 19 = .ok (.iconst 1, 1) := bL_isTurned_0.2.2.2.2.2.2.2.2.2.2.2.1
theorem dL_isTurned_20 : decode cL_isTurned 20 = .ok (.iload_n 2, 1) := bL_isTurned_0.2.2.2.2.2.2.2.2.2.2.2.2.1
theorem dL_isTurned_21 : decode cL_isTurned 21 = .ok (.bipush 17, 2) := bL_isTurned_0.2.2.2.2.2.2.2.2.2.2.2.2.2.1
theorem dL_isTurned_23 : decode cL_isTurned 23 = .ok (.bipush 9, 2) := bL_isTurned_0.2.2.2.2.2.2.2.2.2.2.2.2.2.2.1
theorem dL_isTurned_25 : decode cL_isTurned 25 = .ok (.invokestatic 20, 3) := bL_isTurned_0.2.2.2.2.2.2.2.2.2.2.2.2.2.2.2
set_option maxRecDepth 100000 in
theorem bL_isTurned_28 : (decode cL_isTurned 28 = .ok (.iadd, 1)) ∧ (decode cL_isTurned 29 = .ok (.invokevirtual 53, 3)) ∧ (decode cL_isTurned 32 = .ok (.ifCond .lt 42, 3)) ∧ (decode cL_isTurned 35 = .ok (.aload_n 0, 1)) ∧ (decode cL_isTurned 36 = .ok (.iload_n 1, 1)) ∧ (decode cL_isTurned 37 = .ok (.iconst 3, 1)) ∧ (decode cL_isTurned 38 = .ok (.invokevirtual 82, 3)) ∧ (decode cL_isTurned 41 = .ok (.aload_n 0, 1)) ∧ (decode cL_isTurned 42 = .ok (.iload_n 1, 1)) ∧ (decode cL_isTurned 43 = .ok (.invokevirtual 49, 3)) ∧ (decode cL_isTurned 46 = .ok (.if_icmp .ne 28, 3)) ∧ (decode cL_isTurned 49 = .ok (.aload_n 0, 1)) ∧ (decode cL_isTurned 50 = .ok (.iload_n 1, 1)) ∧ (decode cL_isTurned 51 = .ok (.invokevirtual 94, 3)) ∧ (decode cL_isTurned 54 = .ok (.ifCond .lt 20, 3)) ∧ (decode cL_isTurned 57 = .ok (.aload_n 0, 1)) := by decide +kernel
theorem dL_isTurned_28 : decode cL_isTurned 28 = .ok (.iadd, 1) := bL_isTurned_28.1
theorem dL_isTurned_29 : decode cL_isTurned 29 = .ok (.invokevirtual 53, 3) := bL_isTurned_28.2.1
theorem dL_isTurned_32 : decode cL_isTurned 32 = .ok (.ifCond .lt 42, 3) := bL_isTurned_28.2.2.1
theorem dL_isTurned_35 : decode cL_isTurned 35 = .ok (.aload_n 0, 1) := bL_isTurned_28.2.2.2.1
theorem dL_isTurned_36 : decode cL_isTurned 36 = .ok (.iload_n 1, 1) := bL_isTurned_28.2.2.2.2.1
theorem dL_isTurned_37 : decode cL_isTurned 37 = .ok (.iconst 3, 1) := bL_isTurned_28.2.2.2.2.2.1
theorem dL_isTurned_38 : decode cL_isTurned 38 = .ok (.invokevirtual 82, 3) := bL_isTurned_28.2.2.2.2.2.2.1
theorem dL_isTurned_41 : decode cL_isTurned 41 = .ok (.aload_n 0, 1) := bL_isTurned_28.2.2.2.2.2.2.2.1
theorem dL_isTurned_42 : decode cL_isTurned 42 = .ok (.iload_n 1, 1) := bL_isTurned_28.2.2.2.2.2.2.2.2.1
theorem dL_isTurned_43 : decode cL_isTurned 43 = .ok (.invokevirtual 49, 3) := bL_isTurned_28.2.2.2.2.2.2.2.2.2.1
theorem dL_isTurned_46 : decode cL_isTurned 46 = .ok (.if_icmp .ne 28, 3) := bL_isTurned_28.2.2.2.2.2.2.2.2.2.2.1
theorem dL_isTurned_49 : decode cL_isTurned 49 = .ok (.aload_n 0, 1) := bL_isTurned_28.2.2.2.2.2.2.2.2.2.2.2.1
theorem dL_isTurned_50 : decode cL_isTurned 50 = .ok (.iload_n 1, 1) := bL_isTurned_28.2.2.2.2.2.2.2.2.2.2.2.2.1
theorem dL_isTurned_51 : decode cL_isTurned 51 = .ok (.invokevirtual 94, 3) := bL_isTurned_28.2.2.2.2.2.2.2.2.2.2.2.2.2.1
theorem dL_isTurned_54 : decode cL_isTurned 54 = .ok (.ifCond .lt 20, 3) := bL_isTurned_28.2.2.2.2.2.2.2.2.2.2.2.2.2.2.1
theorem dL_isTurned_57 : decode cL_isTurned 57 = .ok (.aload_n 0, 1) := bL_isTurned_28.2.2.2.2.2.2.2.2.2.2.2.2.2.2.2
set_option maxRecDepth 100000 in
theorem bL_isTurned_58 : (decode cL_isTurned 58 = .ok (.iconst 3, 1)) ∧ (decode cL_isTurned 59 = .ok (.invokevirtual 73, 3)) ∧ (decode cL_isTurned 62 = .ok (.ifCond .lt 12, 3)) ∧ (decode cL_isTurned 65 = .ok (.aload_n 0, 1)) ∧ (decode cL_isTurned 66 = .ok (.iload_n 1, 1)) ∧ (decode cL_isTurned 67 = .ok (.iconst 3, 1)) ∧ (decode cL_isTurned 68 = .ok (.invokevirtual 139, 3)) ∧ (decode cL_isTurned 71 = .ok (.ifCond .ne 5, 3)) ∧ (decode cL_isTurned 74 = .ok (.iconst 0, 1)) ∧ (decode cL_isTurned 75 = .ok (.ireturn, 1)) ∧ (decode cL_isTurned 76 = .ok (.aload_n 0, 1)) ∧ (decode cL_isTurned 77 = .ok (.iload_n 1, 1)) ∧ (decode cL_isTurned 78 = .ok (.iload_n 2, 1)) ∧ (decode cL_isTurned 79 = .ok (.bipush 18, 2)) ∧ (decode cL_isTurned 81 = .ok (.bipush 40, 2)) ∧ (decode cL_isTurned 83 = .ok (.invokestatic 20, 3)) := by decide +kernel
theorem dL_isTurned_58 : decode cL_isTurned 58 = .ok (.iconst 3, 1) := bL_isTurned_58.1
theorem dL_isTurned_59 : decode cL_isTurned 59 = .ok (.invokevirtual 73, 3) := bL_isTurned_58.2.1
theorem dL_isTurned_62 : decode cL_isTurned 62 = .ok (.ifCond .lt 12, 3) := bL_isTurned_58.2.2.1
theorem dL_isTurned_65 : decode cL_isTurned 65 = .ok (.aload_n 0, 1) := bL_isTurned_58.2.2.2.1
theorem dL_isTurned_66 : decode cL_isTurned 66 = .ok (.iload_n 1, 1) := bL_isTurned_58.2.2.2.2.1
theorem dL_isTurned_67 : decode cL_isTurned 67 = .ok (.iconst 3, 1) := bL_isTurned_58.2.2.2.2.2.1
theorem dL_isTurned_68 : decode cL_isTurned 68 = .ok (.invokevirtual 139, 3) := bL_isTurned_58.2.2.2.2.2.2.1
theorem dL_isTurned_71 : decode cL_isTurned 71 = .ok (.ifCond .ne 5, 3) := bL_isTurned_58.2.2.2.2.2.2.2.1
theorem dL_isTurned_74 : decode cL_isTurned 74 = .ok (.iconst 0, 1) := bL_isTurned_58.2.2.2.2.2.2.2.2.1
theorem dL_isTurned_75 : decode cL_isTurned 75 = .ok (.ireturn, 1) := bL_isTurned_58.2.2.2.2.2.2.2.2.2.1
theorem dL_isTurned_76 : decode cL_isTurned 76 = .ok (.aload_n 0, 1) := bL_isTurned_58.2.2.2.2.2.2.2.2.2.2.1
theorem dL_isTurned_77 : decode cL_isTurned 77 = .ok (.iload_n 1, 1) := bL_isTurned_58.2.2.2.2.2.2.2.2.2.2.2.1
theorem dL_isTurned_78 : decode cL_isTurned 78 = .ok (.iload_n 2, 1) := bL_isTurned_58.2.2.2.2.2.2.2.2.2.2.2.2.1
theorem dL_isTurned_79 : decode cL_isTurned 79 = .ok (.bipush 18, 2) := bL_isTurned_58.2.2.2.2.2.2.2.2.2.2.2.2.2.1
theorem dL_isTurned_81 : decode cL_isTurned 81 = .ok (.bipush 40, 2) := bL_isTurned_58.2.2.2.2.2.2.2.2.2.2.2.2.2.2.1
theorem dL_isTurned_83 : decode cL_isTurned 83 = .ok (.invokestatic 20, 3) := bL_isTurned_58.2.2.2.2.2.2.2.2.2.2.2.2.2.2.2
set_option maxRecDepth 100000 in
theorem bL_isTurned_86 : (decode cL_isTurned 86 = .ok (.iload_n 2, 1)) ∧ (decode cL_isTurned 87 = .ok (.bipush 19, 2)) ∧ (decode cL_isTurned 89 = .ok (.bipush 8, 2)) ∧ (decode cL_isTurned 91 = .ok (.invokestatic 20, 3)) ∧ (decode cL_isTurned 94 = .ok (.iconst 0, 1)) ∧ (decode cL_isTurned 95 = .ok (.iconst 1, 1)) ∧ (decode cL_isTurned 96 = .ok (.iload_n 2, 1)) ∧ (decode cL_isTurned 97 = .ok (.bipush 20, 2)) ∧ (decode cL_isTurned 99 = .ok (.bipush 12, 2)) ∧ (decode cL_isTurned 101 = .ok (.invokestatic 20, 3)) ∧ (decode cL_isTurned 104 = .ok (.iadd, 1)) ∧ (decode cL_isTurned 105 = .ok (.invokevirtual 53, 3)) ∧ (decode cL_isTurned 108 = .ok (.ifCond .ge 5, 3)) ∧ (decode cL_isTurned 111 = .ok (.iconst 0, 1)) ∧ (decode cL_isTurned 112 = .ok (.ireturn, 1)) ∧ (decode cL_isTurned 113 = .ok (.aload_n 0, 1)) := by decide +kernel
theorem dL_isTurned_86 : decode cL_isTurned 86 = .ok (.iload_n 2, 1) := bL_isTurned_86.1
theorem dL_isTurned_87 : decode cL_isTurned 87 = .ok (.bipush 19, 2) := bL_isTurned_86.2.1
theorem dL_isTurned_89 : decode cL_isTurned 89 = .ok (.bipush 8, 2) := bL_isTurned_86.2.2.1
theorem dL_isTurned_91 : decode cL_isTurned 91 = .ok (.invokestatic 20, 3) := bL_isTurned_86.2.2.2.1
theorem dL_isTurned_94 : decode cL_isTurned 94 = .ok (.iconst 0, 1) := bL_isTurned_86.2.2.2.2.1
theorem dL_isTurned_95 : decode cL_isTurned 95 = .ok (.iconst 1, 1) := bL_isTurned_86.2.2.2.2.2.1
theorem dL_isTurned_96 : decode cL_isTurned 96 = .ok (.iload_n 2, 1) := bL_isTurned_86.2.2.2.2.2.2.1
theorem dL_isTurned_97 : decode cL_isTurned 97 = .ok (.bipush 20, 2) := bL_isTurned_86.2.2.2.2.2.2.2.1
theorem dL_isTurned_99 : decode cL_isTurned 99 = .ok (.bipush 12, 2) := bL_isTurned_86.2.2.2.2.2.2.2.2.1
theorem dL_isTurned_101 : decode cL_isTurned 101 = .ok (.invokestatic 20, 3) := bL_isTurned_86.2.2.2.2.2.2.2.2.2.1
theorem dL_isTurned_104 : decode cL_isTurned 104 = .ok (.iadd, 1) := bL_isTurned_86.2.2.2.2.2.2.2.2.2.2.1
theorem dL_isTurned_105 : decode cL_isTurned 105 = .ok (.invokevirtual 53, 3) := bL_isTurned_86.2.2.2.2.2.2.2.2.2.2.2.1
theorem dL_isTurned_108 : decode cL_isTurned 108 = .ok (.ifCond .ge 5, 3) := bL_isTurned_86.2.2.2.2.2.2.2.2.2.2.2.2.1
theorem dL_isTurned_111 : decode cL_isTurned 111 = .ok (.iconst 0, 1) := bL_isTurned_86.2.2.2.2.2.2.2.2.2.2.2.2.2.1
theorem dL_isTurned_112 : decode cL_isTurned 112 = .ok (.ireturn, 1) := bL_isTurned_86.2.2.2.2.2.2.2.2.2.2.2.2.2.2.1
theorem dL_isTurned_113 : decode cL_isTurned 113 = .ok (.aload_n 0, 1) := bL_isTurned_86.2.2.2.2.2.2.2.2.2.2.2.2.2.2.2
set_option maxRecDepth 100000 in
theorem bL_isTurned_114 : (decode cL_isTurned 114 = .ok (.iload_n 1, 1)) ∧ (decode cL_isTurned 115 = .ok (.invokevirtual 104, 3)) ∧ (decode cL_isTurned 118 = .ok (.istore_n 3, 1)) ∧ (decode cL_isTurned 119 = .ok (.aload_n 0, 1)) ∧ (decode cL_isTurned 120 = .ok (.iload_n 1, 1)) ∧ (decode cL_isTurned 121 = .ok (.invokevirtual 107, 3)) ∧ (decode cL_isTurned 124 = .ok (.istore 4, 2)) ∧ (decode cL_isTurned 126 = .ok (.aload_n 0, 1)) ∧ (decode cL_isTurned 127 = .ok (.iload_n 1, 1)) ∧ (decode cL_isTurned 128 = .ok (.invokevirtual 73, 3)) ∧ (decode cL_isTurned 131 = .ok (.ifCond .lt 27, 3)) ∧ (decode cL_isTurned 134 = .ok (.aload_n 0, 1)) ∧ (decode cL_isTurned 135 = .ok (.iload_n 1, 1)) ∧ (decode cL_isTurned 136 = .ok (.iconst 0, 1)) ∧ (decode cL_isTurned 137 = .ok (.invokevirtual 101, 3)) ∧ (decode cL_isTurned 140 = .ok (.iload_n 3, 1)) := by decide +kernel
theorem dL_isTurned_114 : decode cL_isTurned 114 = .ok (.iload_n 1, 1) := bL_isTurned_114.1
theorem dL_isTurned_115 : decode cL_isTurned 115 = .ok (.invokevirtual 104, 3) := bL_isTurned_114.2.1
theorem dL_isTurned_118 : decode cL_isTurned 118 = .ok (.istore_n 3, 1) := bL_isTurned_114.2.2.1
theorem dL_isTurned_119 : decode cL_isTurned 119 = .ok (.aload_n 0, 1) := bL_isTurned_114.2.2.2.1
theorem dL_isTurned_120 : decode cL_isTurned 120 = .ok (.iload_n 1, 1) := bL_isTurned_114.2.2.2.2.1
theorem dL_isTurned_121 : decode cL_isTurned 121 = .ok (.invokevirtual 107, 3) := bL_isTurned_114.2.2.2.2.2.1
theorem dL_isTurned_124 : decode cL_isTurned 124 = .ok (.istore 4, 2) := bL_isTurned_114.2.2.2.2.2.2.1
theorem dL_isTurned_126 : decode cL_isTurned 126 = .ok (.aload_n 0, 1) := bL_isTurned_114.2.2.2.2.2.2.2.1
theorem dL_isTurned_127 : decode cL_isTurned 127 = .ok (.iload_n 1, 1) := bL_isTurned_114.2.2.2.2.2.2.2.2.1
theorem dL_isTurned_128 : decode cL_isTurned 128 = .ok (.invokevirtual 73, 3) := bL_isTurned_114.2.2.2.2.2.2.2.2.2.1
theorem dL_isTurned_131 : decode cL_isTurned 131 = .ok (.ifCond .lt 27, 3) := bL_isTurned_114.2.2.2.2.2.2.2.2.2.2.1
theorem dL_isTurned_134 : decode cL_isTurned 134 = .ok (.aload_n 0, 1) := bL_isTurned_114.2.2.2.2.2.2.2.2.2.2.2.1
theorem dL_isTurned_135 : decode cL_isTurned 135 = .ok (.iload_n 1, 1) := bL_isTurned_114.2.2.2.2.2.2.2.2.2.2.2.2.1
theorem dL_isTurned_136 : decode cL_isTurned 136 = .ok (.iconst 0, 1) := bL_isTurned_114.2.2.2.2.2.2.2.2.2.2.2.2.2.1
theorem dL_isTurned_137 : decode cL_isTurned 137 = .ok (.invokevirtual 101, 3) := bL_isTurned_114.2.2.2.2.2.2.2.2.2.2.2.2.2.2.1
theorem dL_isTurned_140 : decode cL_isTurned 140 = .ok (.iload_n 3, 1) := bL_isTurned_114.2.2.2.2.2.2.2.2.2.2.2.2.2.2.2
set_option maxRecDepth 100000 in
theorem bL_isTurned_141 : (decode cL_isTurned 141 = .ok (.if_icmp .ne 17, 3)) ∧ (decode cL_isTurned 144 = .ok (.aload_n 0, 1)) ∧ (decode cL_isTurned 145 = .ok (.iload_n 1, 1)) ∧ (decode cL_isTurned 146 = .ok (.invokevirtual 107, 3)) ∧ (decode cL_isTurned 149 = .ok (.iload 4, 2)) ∧ (decode cL_isTurned 151 = .ok (.if_icmp .ne 7, 3)) ∧ (decode cL_isTurned 154 = .ok (.iconst 1, 1)) ∧ (decode cL_isTurned 155 = .ok (.goto 4, 3)) ∧ (decode cL_isTurned 158 = .ok (.iconst 0, 1)) ∧ (decode cL_isTurned 159 = .ok (.ireturn, 1)) := by decide +kernel
theorem dL_isTurned_141 : decode cL_isTurned 141 = .ok (.if_icmp .ne 17, 3) := bL_isTurned_141.1
theorem dL_isTurned_144 : decode cL_isTurned 144 = .ok (.aload_n 0, 1) := bL_isTurned_141.2.1
theorem dL_isTurned_145 : decode cL_isTurned 145 = .ok (.iload_n 1, 1) := bL_isTurned_141.2.2.1
theorem dL_isTurned_146 : decode cL_isTurned 146 = .ok (.invokevirtual 107, 3) := bL_isTurned_141.2.2.2.1
theorem dL_isTurned_149 : decode cL_isTurned 149 = .ok (.iload 4, 2) := bL_isTurned_141.2.2.2.2.1
theorem dL_isTurned_151 : decode cL_isTurned 151 = .ok (.if_icmp .ne 7, 3) := bL_isTurned_141.2.2.2.2.2.1
theorem dL_isTurned_154 : decode cL_isTurned 154 = .ok (.iconst 1, 1) := bL_isTurned_141.2.2.2.2.2.2.1
theorem dL_isTurned_155 : decode cL_isTurned 155 = .ok (.goto 4, 3) := bL_isTurned_141.2.2.2.2.2.2.2.1
theorem dL_isTurned_158 : decode cL_isTurned 158 = .ok (.iconst 0, 1) := bL_isTurned_141.2.2.2.2.2.2.2.2.1
theorem dL_isTurned_159 : decode cL_isTurned 159 = .ok (.ireturn, 1) := bL_isTurned_141.2.2.2.2.2.2.2.2.2
set_option maxRecDepth 100000 in
theorem bL_areMerged_0 : (decode cL_areMerged 0 = .ok (.aload_n 0, 1)) ∧ (decode cL_areMerged 1 = .ok (.iload_n 1, 1)) ∧ (decode cL_areMerged 2 = .ok (.invokevirtual 49, 3)) ∧ (decode cL_areMerged 5 = .ok (.aload_n 0, 1)) ∧ (decode cL_areMerged 6 = .ok (.iconst 1, 1)) ∧ (decode cL_areMerged 7 = .ok (.iload_n 1, 1)) ∧ (decode cL_areMerged 8 = .ok (.isub, 1)) ∧ (decode cL_areMerged 9 = .ok (.invokevirtual 49, 3)) ∧ (decode cL_areMerged 12 = .ok (.iadd, 1)) ∧ (decode cL_areMerged 13 = .ok (.istore_n 2, 1)) ∧ (decode cL_areMerged 14 = .ok (.iload_n 2, 1)) ∧ (decode cL_areMerged 15 = .ok (.sipush 150, 3)) ∧ (decode cL_areMerged 18 = .ok (.if_icmp .gt 19, 3)) ∧ (decode cL_areMerged 21 = .ok (.aload_n 0, 1)) ∧ (decode cL_areMerged 22 = .ok (.iconst 0, 1)) ∧ (decode cL_areMerged 23 = .ok (.invokevirtual 94, 3)) := by decide +kernel
theorem dL_areMerged_0 : decode cL_areMerged 0 = .ok (.aload_n 0, 1) := bL_areMerged_0.1
theorem dL_areMerged_1 : decode cL_areMerged 1 = .ok (.iload_n 1, 1) := bL_areMerged_0.2.1
theorem dL_areMerged_2 : decode cL_areMerged 2 = .ok (.invokevirtual 49, 3) := bL_areMerged_0.2.2.1
theorem dL_areMerged_5 : decode cL_areMerged 5 = .ok (.aload_n 0, 1) := bL_areMerged_0.2.2.2.1
theorem dL_areMerged_6 : decode cL_areMerged 6 = .ok (.iconst 1, 1) := bL_areMerged_0.2.2.2.2.1
theorem dL_areMerged_7 : decode cL_areMerged 7 = .ok (.iload_n 1, 1) := bL_areMerged_0.2.2.2.2.2.1
theorem dL_areMerged_8 : decode cL_areMerged 8 = .ok (.isub, 1) := bL_areMerged_0.2.2.2.2.2.2.1
theorem dL_areMerged_9 : decode cL_areMerged 9 = .ok (.invokevirtual 49, 3) := bL_areMerged_0.2.2.2.2.2.2.2.1
theorem dL_areMerged_12 : decode cL_areMerged 12 = .ok (.iadd, 1) := bL_areMerged_0.2.2.2.2.2.2.2.2.1
theorem dL_areMerged_13 : decode cL_areMerged 13 = .ok (.istore_n 2, 1) := bL_areMerged_0.2.2.2.2.2.2.2.2.2.1
theorem dL_areMerged_14 : decode cL_areMerged 14 = .ok (.iload_n 2, 1) := bL_areMerged_0.2.2.2.2.2.2.2.2.2.2.1
theorem dL_areMerged_15 : decode cL_areMerged 15 = .ok (.sipush 150, 3) := bL_areMerged_0.2.2.2.2.2.2.2.2.2.2.2.1
theorem dL_areMerged_18 : decode cL_areMerged 18 = .ok (.if_icmp .gt 19, 3) := bL_areMerged_0.2.2.2.2.2.2.2.2.2.2.2.2.1
theorem dL_areMerged_21 : decode cL_areMerged 21 = .ok (.aload_n 0, 1) := bL_areMerged_0.2.2.2.2.2.2.2.2.2.2.2.2.2.1
theorem dL_areMerged_22 : decode cL_areMerged 22 = .ok (.iconst 0, 1) := bL_areMerged_0.2.2.2.2.2.2.2.2.2.2.2.2.2.2.1
theorem dL_areMerged_23 : decode cL_areMerged 23 = .ok (.invokevirtual 94, 3) := bL_areMerged_0.2.2.2.2.2.2.2.2.2.2.2.2.2.2.2
set_option maxRecDepth 100000 in
theorem bL_areMerged_26 : (decode cL_areMerged 26 = .ok (.ifCond .lt 11, 3)) ∧ (decode cL_areMerged 29 = .ok (.aload_n 0, 1)) ∧ (decode cL_areMerged 30 = .ok (.iconst 1, 1)) ∧ (decode cL_areMerged 31 = .ok (.invokevirtual 94, 3)) ∧ (decode cL_areMerged 34 = .ok (.ifCond .ge 16, 3)) ∧ (decode cL_areMerged 37 = .ok (.iload_n 2, 1)) ∧ (decode cL_areMerged 38 = .ok (.sipush 150, 3)) ∧ (decode cL_areMerged 41 = .ok (.if_icmp .le 7, 3)) ∧ (decode cL_areMerged 44 = .ok (.iconst 1, 1)) ∧ (decode cL_areMerged 45 = .ok (.goto 4, 3)) ∧ (decode cL_areMerged 48 = .ok (.iconst 0, 1)) ∧ (decode cL_areMerged 49 = .ok (.ireturn, 1)) ∧ (decode cL_areMerged 50 = .ok (.aload_n 0, 1)) ∧ (decode cL_areMerged 51 = .ok (.iconst 1, 1)) ∧ (decode cL_areMerged 52 = .ok (.iload_n 1, 1)) ∧ (decode cL_areMerged 53 = .ok (.isub, 1)) := by decide +kernel
theorem dL_areMerged_26 : decode cL_areMerged 26 = .ok (.ifCond .lt 11, 3) := bL_areMerged_26.1
theorem dL_areMerged_29 : decode cL_areMerged 29 = .ok (.aload_n 0, 1) := bL_areMerged_26.2.1
theorem dL_areMerged_30 : decode cL_areMerged 30 = .ok (.iconst 1, 1) := bL_areMerged_26.2.2.1
theorem dL_areMerged_31 : decode cL_areMerged 31 = .ok (.invokevirtual 94, 3) := bL_areMerged_26.2.2.2.1
theorem dL_areMerged_34 : decode cL_areMerged 34 = .ok (.ifCond .ge 16, 3) := bL_areMerged_26.2.2.2.2.1
theorem dL_areMerged_37 : decode cL_areMerged 37 = .ok (.iload_n 2, 1) := bL_areMerged_26.2.2.2.2.2.1
theorem dL_areMerged_38 : decode cL_areMerged 38 = .ok (.sipush 150, 3) := bL_areMerged_26.2.2.2.2.2.2.1
theorem dL_areMerged_41 : decode cL_areMerged 41 = .ok (.if_icmp .le 7, 3) := bL_areMerged_26.2.2.2.2.2.2.2.1
theorem dL_areMerged_44 : decode cL_areMerged 44 = .ok (.iconst 1, 1) := bL_areMerged_26.2.2.2.2.2.2.2.2.1
theorem dL_areMerged_45 : decode cL_areMerged 45 = .ok (.goto 4, 3) := bL_areMerged_26.2.2.2.2.2.2.2.2.2.1
theorem dL_areMerged_48 : decode cL_areMerged 48 = .ok (.iconst 0, 1) := bL_areMerged_26.2.2.2.2.2.2.2.2.2.2.1
theorem dL_areMerged_49 : decode cL_areMerged 49 = .ok (.ireturn, 1) := bL_areMerged_26.2.2.2.2.2.2.2.2.2.2.2.1
theorem dL_areMerged_50 : decode cL_areMerged 50 = .ok (.aload_n 0, 1) := bL_areMerged_26.2.2.2.2.2.2.2.2.2.2.2.2.1
theorem dL_areMerged_51 : decode cL_areMerged 51 = .ok (.iconst 1, 1) := bL_areMerged_26.2.2.2.2.2.2.2.2.2.2.2.2.2.1
theorem dL_areMerged_52 : decode cL_areMerged 52 = .ok (.iload_n 1, 1) := bL_areMerged_26.2.2.2.2.2.2.2.2.2.2.2.2.2.2.1
theorem dL_areMerged_53 : decode cL_areMerged 53 = .ok (.isub, 1) := bL_areMerged_26.2.2.2.2.2.2.2.2.2.2.2.2.2.2.2
set_option maxRecDepth 100000 in
theorem bL_areMerged_54 : (decode cL_areMerged 54 = .ok (.iconst 2, 1)) ∧ (decode cL_areMerged 55 = .ok (.invokevirtual 82, 3)) ∧ (decode cL_areMerged 58 = .ok (.ifCond .lt 30, 3)) ∧ (decode cL_areMerged 61 = .ok (.aload_n 0, 1)) ∧ (decode cL_areMerged 62 = .ok (.iload_n 1, 1)) ∧ (decode cL_areMerged 63 = .ok (.iconst 3, 1)) ∧ (decode cL_areMerged 64 = .ok (.invokevirtual 82, 3)) ∧ (decode cL_areMerged 67 = .ok (.ifCond .lt 21, 3)) ∧ (decode cL_areMerged 70 = .ok (.aload_n 0, 1)) ∧ (decode cL_areMerged 71 = .ok (.iconst 3, 1)) ∧ (decode cL_areMerged 72 = .ok (.iconst 2, 1)) ∧ (decode cL_areMerged 73 = .ok (.invokevirtual 85, 3)) ∧ (decode cL_areMerged 76 = .ok (.iload_n 2, 1)) ∧ (decode cL_areMerged 77 = .ok (.if_icmp .ne 11, 3)) ∧ (decode cL_areMerged 80 = .ok (.aload_n 0, 1)) ∧ (decode cL_areMerged 81 = .ok (.iconst 3, 1)) := by decide +kernel
theorem dL_areMerged_54 : decode cL_areMerged 54 = .ok (.iconst 2, 1) := bL_areMerged_54.1
theorem dL_areMerged_55 : decode cL_areMerged 55 = .ok (.invokevirtual 82, 3) := bL_areMerged_54.2.1
theorem dL_areMerged_58 : decode cL_areMerged 58 = .ok (.ifCond .lt 30, 3) := bL_areMerged_54.2.2.1
theorem dL_areMerged_61 : decode cL_areMerged 61 = .ok (.aload_n 0, 1) := bL_areMerged_54.2.2.2.1
theorem dL_areMerged_62 : decode cL_areMerged 62 = .ok (.iload_n 1, 1) := bL_areMerged_54.2.2.2.2.1
theorem dL_areMerged_63 : decode cL_areMerged 63 = .ok (.iconst 3, 1) := bL_areMerged_54.2.2.2.2.2.1
theorem dL_areMerged_64 : decode cL_areMerged 64 = .ok (.invokevirtual 82, 3) := bL_areMerged_54.2.2.2.2.2.2.1
theorem dL_areMerged_67 : decode cL_areMerged 67 = .ok (.ifCond .lt 21, 3) := bL_areMerged_54.2.2.2.2.2.2.2.1
theorem dL_areMerged_70 : decode cL_areMerged 70 = .ok (.aload_n 0, 1) := bL_areMerged_54.2.2.2.2.2.2.2.2.1
theorem dL_areMerged_71 : decode cL_areMerged 71 = .ok (.iconst 3, 1) := bL_areMerged_54.2.2.2.2.2.2.2.2.2.1
theorem dL_areMerged_72 : decode cL_areMerged 72 = .ok (.iconst 2, 1) := bL_areMerged_54.2.2.2.2.2.2.2.2.2.2.1
theorem dL_areMerged_73 : decode cL_areMerged 73 = .ok (.invokevirtual 85, 3) := bL_areMerged_54.2.2.2.2.2.2.2.2.2.2.2.1
theorem dL_areMerged_76 : decode cL_areMerged 76 = .ok (.iload_n 2, 1) := bL_areMerged_54.2.2.2.2.2.2.2.2.2.2.2.2.1
theorem dL_areMerged_77 : decode cL_areMerged 77 = .ok (.if_icmp .ne 11, 3) := bL_areMerged_54.2.2.2.2.2.2.2.2.2.2.2.2.2.1
theorem dL_areMerged_80 : decode cL_areMerged 80 = .ok (.aload_n 0, 1) := bL_areMerged_54.2.2.2.2.2.2.2.2.2.2.2.2.2.2.1
theorem dL_areMerged_81 : decode cL_areMerged 81 = .ok (.iconst 3, 1) := bL_areMerged_54.2.2.2.2.2.2.2.2.2.2.2.2.2.2.2
set_option maxRecDepth 100000 in
theorem bL_areMerged_82 : (decode cL_areMerged 82 = .ok (.invokevirtual 94, 3)) ∧ (decode cL_areMerged 85 = .ok (.ifCond .ge 5, 3)) ∧ (decode cL_areMerged 88 = .ok (.iconst 0, 1)) ∧ (decode cL_areMerged 89 = .ok (.ireturn, 1)) ∧ (decode cL_areMerged 90 = .ok (.iload_n 2, 1)) ∧ (decode cL_areMerged 91 = .ok (.newarray .int, 2)) ∧ (decode cL_areMerged 93 = .ok (.astore_n 3, 1)) ∧ (decode cL_areMerged 94 = .ok (.iconst 0, 1)) ∧ (decode cL_areMerged 95 = .ok (.istore 4, 2)) ∧ (decode cL_areMerged 97 = .ok (.iconst 0, 1)) ∧ (decode cL_areMerged 98 = .ok (.istore 5, 2)) ∧ (decode cL_areMerged 100 = .ok (.iload 4, 2)) ∧ (decode cL_areMerged 102 = .ok (.iload 5, 2)) ∧ (decode cL_areMerged 104 = .ok (.iadd, 1)) ∧ (decode cL_areMerged 105 = .ok (.iload_n 2, 1)) ∧ (decode cL_areMerged 106 = .ok (.if_icmp .ge 99, 3)) := by decide +kernel
theorem dL_areMerged_82 : decode cL_areMerged 82 = .ok (.invokevirtual 94, 3) := bL_areMerged_82.1
theorem dL_areMerged_85 : decode cL_areMerged 85 = .ok (.ifCond .ge 5, 3) := bL_areMerged_82.2.1
theorem dL_areMerged_88 : decode cL_areMerged 88 = .ok (.iconst 0, 1) := bL_areMerged_82.2.2.1
theorem dL_areMerged_89 : decode cL_areMerged 89 = .ok (.ireturn, 1) := bL_areMerged_82.2.2.2.1
theorem dL_areMerged_90 : decode cL_areMerged 90 = .ok (.iload_n 2, 1) := bL_areMerged_82.2.2.2.2.1
theorem dL_areMerged_91 : decode cL_areMerged 91 = .ok (.newarray .int, 2) := bL_areMerged_82.2.2.2.2.2.1
theorem dL_areMerged_93 : decode cL_areMerged 93 = .ok (.astore_n 3, 1) := bL_areMerged_82.2.2.2.2.2.2.1
theorem dL_areMerged_94 : decode cL_areMerged 94 = .ok (.iconst 0, 1) := bL_areMerged_82.2.2.2.2.2.2.2.1
theorem dL_areMerged_95 : decode cL_areMerged 95 = .ok (.istore 4, 2) := bL_areMerged_82.2.2.2.2.2.2.2.2.1
theorem dL_areMerged_97 : decode cL_areMerged 97 = .ok (.iconst 0, 1) := bL_areMerged_82.2.2.2.2.2.2.2.2.2.1
theorem dL_areMerged_98 : decode cL_areMerged 98 = .ok (.istore 5, 2) := bL_areMerged_82.2.2.2.2.2.2.2.2.2.2.1
theorem dL_areMerged_100 : decode cL_areMerged 100 = .ok (.iload 4, 2) := bL_areMerged_82.2.2.2.2.2.2.2.2.2.2.2.1
theorem dL_areMerged_102 : decode cL_areMerged 102 = .ok (.iload 5, 2) := bL_areMerged_82.2.2.2.2.2.2.2.2.2.2.2.2.1
theorem dL_areMerged_104 : decode cL_areMerged 104 = .ok (.iadd, 1) := bL_areMerged_82.2.2.2.2.2.2.2.2.2.2.2.2.2.1
theorem dL_areMerged_105 : decode cL_areMerged 105 = .ok (.iload_n 2, 1) := bL_areMerged_82.2.2.2.2.2.2.2.2.2.2.2.2.2.2.1
theorem dL_areMerged_106 : decode cL_areMerged 106 = .ok (.if_icmp .ge 99, 3) := bL_areMerged_82.2.2.2.2.2.2.2.2.2.2.2.2.2.2.2
set_option maxRecDepth 100000 in
theorem bL_areMerged_109 : (decode cL_areMerged 109 = .ok (.iload 5, 2)) ∧ (decode cL_areMerged 111 = .ok (.aload_n 0, 1)) ∧ (decode cL_areMerged 112 = .ok (.iconst 1, 1)) ∧ (decode cL_areMerged 113 = .ok (.iload_n 1, 1)) ∧ (decode cL_areMerged 114 = .ok (.isub, 1)) ∧ (decode cL_areMerged 115 = .ok (.invokevirtual 49, 3)) ∧ (decode cL_areMerged 118 = .ok (.if_icmp .eq 32, 3)) ∧ (decode cL_areMerged 121 = .ok (.iload 4, 2)) ∧ (decode cL_areMerged 123 = .ok (.aload_n 0, 1)) ∧ (decode cL_areMerged 124 = .ok (.iload_n 1, 1)) ∧ (decode cL_areMerged 125 = .ok (.invokevirtual 49, 3)) ∧ (decode cL_areMerged 128 = .ok (.if_icmp .ge 26, 3)) ∧ (decode cL_areMerged 131 = .ok (.aload_n 0, 1)) ∧ (decode cL_areMerged 132 = .ok (.iload_n 1, 1)) ∧ (decode cL_areMerged 133 = .ok (.iload 4, 2)) ∧ (decode cL_areMerged 135 = .ok (.invokevirtual 119, 3)) := by decide +kernel
theorem dL_areMerged_109 : decode cL_areMerged 109 = .ok (.iload 5, 2) := bL_areMerged_109.1
theorem dL_areMerged_111 : decode cL_areMerged 111 = .ok (.aload_n 0, 1) := bL_areMerged_109.2.1
theorem dL_areMerged_112 : decode cL_areMerged 112 = .ok (.iconst 1, 1) := bL_areMerged_109.2.2.1
theorem dL_areMerged_113 : decode cL_areMerged 113 = .ok (.iload_n 1, 1) := bL_areMerged_109.2.2.2.1
theorem dL_areMerged_114 : decode cL_areMerged 114 = .ok (.isub, 1) := bL_areMerged_109.2.2.2.2.1
theorem dL_areMerged_115 : decode cL_areMerged 115 = .ok (.invokevirtual 49, 3) := bL_areMerged_109.2.2.2.2.2.1
theorem dL_areMerged_118 : decode cL_areMerged 118 = .ok (.if_icmp .eq 32, 3) := bL_areMerged_109.2.2.2.2.2.2.1
theorem dL_areMerged_121 : decode cL_areMerged 121 = .ok (.iload 4, 2) := bL_areMerged_109.2.2.2.2.2.2.2.1
theorem dL_areMerged_123 : decode cL_areMerged 123 = .ok (.aload_n 0, 1) := bL_areMerged_109.2.2.2.2.2.2.2.2.1
theorem dL_areMerged_124 : decode cL_areMerged 124 = .ok (.iload_n 1, 1) := bL_areMerged_109.2.2.2.2.2.2.2.2.2.1
theorem dL_areMerged_125 : decode cL_areMerged 125 = .ok (.invokevirtual 49, 3) := bL_areMerged_109.2.2.2.2.2.2.2.2.2.2.1
theorem dL_areMerged_128 : decode cL_areMerged 128 = .ok (.if_icmp .ge 26, 3) := bL_areMerged_109.2.2.2.2.2.2.2.2.2.2.2.1
theorem dL_areMerged_131 : decode cL_areMerged 131 = .ok (.aload_n 0, 1) := bL_areMerged_109.2.2.2.2.2.2.2.2.2.2.2.2.1
theorem dL_areMerged_132 : decode cL_areMerged 132 = .ok (.iload_n 1, 1) := bL_areMerged_109.2.2.2.2.2.2.2.2.2.2.2.2.2.1
theorem dL_areMerged_133 : decode cL_areMerged 133 = .ok (.iload 4, 2) := bL_areMerged_109.2.2.2.2.2.2.2.2.2.2.2.2.2.2.1
theorem dL_areMerged_135 : decode cL_areMerged 135 = .ok (.invokevirtual 119, 3) := bL_areMerged_109.2.2.2.2.2.2.2.2.2.2.2.2.2.2.2
set_option maxRecDepth 100000 in
theorem bL_areMerged_138 : (decode cL_areMerged 138 = .ok (.aload_n 0, 1)) ∧ (decode cL_areMerged 139 = .ok (.iconst 1, 1)) ∧ (decode cL_areMerged 140 = .ok (.iload_n 1, 1)) ∧ (decode cL_areMerged 141 = .ok (.isub, 1)) ∧ (decode cL_areMerged 142 = .ok (.iload 5, 2)) ∧ (decode cL_areMerged 144 = .ok (.invokevirtual 119, 3)) ∧ (decode cL_areMerged 147 = .ok (.if_icmp .gt 7, 3)) ∧ (decode cL_areMerged 150 = .ok (.iconst 1, 1)) ∧ (decode cL_areMerged 151 = .ok (.goto 4, 3)) ∧ (decode cL_areMerged 154 = .ok (.iconst 0, 1)) ∧ (decode cL_areMerged 155 = .ok (.istore 6, 2)) ∧ (decode cL_areMerged 157 = .ok (.aload_n 3, 1)) ∧ (decode cL_areMerged 158 = .ok (.iload 4, 2)) ∧ (decode cL_areMerged 160 = .ok (.iload 5, 2)) ∧ (decode cL_areMerged 162 = .ok (.iadd, 1)) ∧ (decode cL_areMerged 163 = .ok (.iload 6, 2)) := by decide +kernel
theorem dL_areMerged_138 : decode cL_areMerged 138 = .ok (.aload_n 0, 1) := bL_areMerged_138.1
theorem dL_areMerged_139 : decode cL_areMerged 139 = .ok (.iconst 1, 1) := bL_areMerged_138.2.1
theorem dL_areMerged_140 : decode cL_areMerged 140 = .ok (.iload_n 1, 1) := bL_areMerged_138.2.2.1
theorem dL_areMerged_141 : decode cL_areMerged 141 = .ok (.isub, 1) := bL_areMerged_138.2.2.2.1
theorem dL_areMerged_142 : decode cL_areMerged 142 = .ok (.iload 5, 2) := bL_areMerged_138.2.2.2.2.1
theorem dL_areMerged_144 : decode cL_areMerged 144 = .ok (.invokevirtual 119, 3) := bL_areMerged_138.2.2.2.2.2.1
theorem dL_areMerged_147 : decode cL_areMerged 147 = .ok (.if_icmp .gt 7, 3) := bL_areMerged_138.2.2.2.2.2.2.1
theorem dL_areMerged_150 : decode cL_areMerged 150 = .ok (.iconst 1, 1) := bL_areMerged_138.2.2.2.2.2.2.2.1
theorem dL_areMerged_151 : decode cL_areMerged 151 = .ok (.goto 4, 3) := bL_areMerged_138.2.2.2.2.2.2.2.2.1
theorem dL_areMerged_154 : decode cL_areMerged 154 = .ok (.iconst 0, 1) := bL_areMerged_138.2.2.2.2.2.2.2.2.2.1
theorem dL_areMerged_155 : decode cL_areMerged 155 = .ok (.istore 6, 2) := bL_areMerged_138.2.2.2.2.2.2.2.2.2.2.1
theorem dL_areMerged_157 : decode cL_areMerged 157 = .ok (.aload_n 3, 1) := bL_areMerged_138.2.2.2.2.2.2.2.2.2.2.2.1
theorem dL_areMerged_158 : decode cL_areMerged 158 = .ok (.iload 4, 2) := bL_areMerged_138.2.2.2.2.2.2.2.2.2.2.2.2.1
theorem dL_areMerged_160 : decode cL_areMerged 160 = .ok (.iload 5, 2) := bL_areMerged_138.2.2.2.2.2.2.2.2.2.2.2.2.2.1
theorem dL_areMerged_162 : decode cL_areMerged 162 = .ok (.iadd, 1) := bL_areMerged_138.2.2.2.2.2.2.2.2.2.2.2.2.2.2.1
theorem dL_areMerged_163 : decode cL_areMerged 163 = .ok (.iload 6, 2) := bL_areMerged_138.2.2.2.2.2.2.2.2.2.2.2.2.2.2.2
set_option maxRecDepth 100000 in
theorem bL_areMerged_165 : (decode cL_areMerged 165 = .ok (.ifCond .eq 13, 3)) ∧ (decode cL_areMerged 168 = .ok (.aload_n 0, 1)) ∧ (decode cL_areMerged 169 = .ok (.iload_n 1, 1)) ∧ (decode cL_areMerged 170 = .ok (.iload 4, 2)) ∧ (decode cL_areMerged 172 = .ok (.invokevirtual 122, 3)) ∧ (decode cL_areMerged 175 = .ok (.goto 12, 3)) ∧ (decode cL_areMerged 178 = .ok (.aload_n 0, 1)) ∧ (decode cL_areMerged 179 = .ok (.iconst 1, 1)) ∧ (decode cL_areMerged 180 = .ok (.iload_n 1, 1)) ∧ (decode cL_areMerged 181 = .ok (.isub, 1)) ∧ (decode cL_areMerged 182 = .ok (.iload 5, 2)) ∧ (decode cL_areMerged 184 = .ok (.invokevirtual 122, 3)) ∧ (decode cL_areMerged 187 = .ok (.iastore, 1)) ∧ (decode cL_areMerged 188 = .ok (.iload 6, 2)) ∧ (decode cL_areMerged 190 = .ok (.ifCond .eq 9, 3)) ∧ (decode cL_areMerged 193 = .ok (.iinc 4 1, 3)) := by decide +kernel
theorem dL_areMerged_165 : decode cL_areMerged 165 = .ok (.ifCond .eq 13, 3) := bL_areMerged_165.1
theorem dL_areMerged_168 : decode cL_areMerged 168 = .ok (.aload_n 0, 1) := bL_areMerged_165.2.1
theorem dL_areMerged_169 : decode cL_areMerged 169 = .ok (.iload_n 1, 1) := bL_areMerged_165.2.2.1
theorem dL_areMerged_170 : decode cL_areMerged 170 = .ok (.iload 4, 2) := bL_areMerged_165.2.2.2.1
theorem dL_areMerged_172 : decode cL_areMerged 172 = .ok (.invokevirtual 122, 3) := bL_areMerged_165.2.2.2.2.1
theorem dL_areMerged_175 : decode cL_areMerged 175 = .ok (.goto 12, 3) := bL_areMerged_165.2.2.2.2.2.1
theorem dL_areMerged_178 : decode cL_areMerged 178 = .ok (.aload_n 0, 1) := bL_areMerged_165.2.2.2.2.2.2.1
theorem dL_areMerged_179 : decode cL_areMerged 179 = .ok (.iconst 1, 1) := bL_areMerged_165.2.2.2.2.2.2.2.1
theorem dL_areMerged_180 : decode cL_areMerged 180 = .ok (.iload_n 1, 1) := bL_areMerged_165.2.2.2.2.2.2.2.2.1
theorem dL_areMerged_181 : decode cL_areMerged 181 = .ok (.isub, 1) := bL_areMerged_165.2.2.2.2.2.2.2.2.2.1
theorem dL_areMerged_182 : decode cL_areMerged 182 = .ok (.iload 5, 2) := bL_areMerged_165.2.2.2.2.2.2.2.2.2.2.1
theorem dL_areMerged_184 : decode cL_areMerged 184 = .ok (.invokevirtual 122, 3) := bL_areMerged_165.2.2.2.2.2.2.2.2.2.2.2.1
theorem dL_areMerged_187 : decode cL_areMerged 187 = .ok (.iastore, 1) := bL_areMerged_165.2.2.2.2.2.2.2.2.2.2.2.2.1
theorem dL_areMerged_188 : decode cL_areMerged 188 = .ok (.iload 6, 2) := bL_areMerged_165.2.2.2.2.2.2.2.2.2.2.2.2.2.1
theorem dL_areMerged_190 : decode cL_areMerged 190 = .ok (.ifCond .eq 9, 3) := bL_areMerged_165.2.2.2.2.2.2.2.2.2.2.2.2.2.2.1
theorem dL_areMerged_193 : decode cL_areMerged 193 = .ok (.iinc 4 1, 3) := bL_areMerged_165.2.2.2.2.2.2.2.2.2.2.2.2.2.2.2
set_option maxRecDepth 100000 in
theorem bL_areMerged_196 : (decode cL_areMerged 196 = .ok (.goto 6, 3)) ∧ (decode cL_areMerged 199 = .ok (.iinc 5 1, 3)) ∧ (decode cL_areMerged 202 = .ok (.goto (-102), 3)) ∧ (decode cL_areMerged 205 = .ok (.aload_n 0, 1)) ∧ (decode cL_areMerged 206 = .ok (.iload_n 1, 1)) ∧ (decode cL_areMerged 207 = .ok (.iconst 1, 1)) ∧ (decode cL_areMerged 208 = .ok (.iload_n 1, 1)) ∧ (decode cL_areMerged 209 = .ok (.isub, 1)) ∧ (decode cL_areMerged 210 = .ok (.invokevirtual 88, 3)) ∧ (decode cL_areMerged 213 = .ok (.iload_n 2, 1)) ∧ (decode cL_areMerged 214 = .ok (.if_icmp .ne 20, 3)) ∧ (decode cL_areMerged 217 = .ok (.aload_n 0, 1)) ∧ (decode cL_areMerged 218 = .ok (.iload_n 1, 1)) ∧ (decode cL_areMerged 219 = .ok (.iconst 3, 1)) ∧ (decode cL_areMerged 220 = .ok (.invokevirtual 139, 3)) ∧ (decode cL_areMerged 223 = .ok (.ifCond .eq 11, 3)) := by decide +kernel
theorem dL_areMerged_196 : decode cL_areMerged 196 = .ok (.goto 6, 3) := bL_areMerged_196.1
theorem dL_areMerged_199 : decode cL_areMerged 199 = .ok (.iinc 5 1, 3) := bL_areMerged_196.2.1
theorem dL_areMerged_202 : decode cL_areMerged 202 = .ok (.goto (-102), 3) := bL_areMerged_196.2.2.1
theorem dL_areMerged_205 : decode cL_areMerged 205 = .ok (.aload_n 0, 1) := bL_areMerged_196.2.2.2.1
theorem dL_areMerged_206 : decode cL_areMerged 206 = .ok (.iload_n 1, 1) := bL_areMerged_196.2.2.2.2.1
theorem dL_areMerged_207 : decode cL_areMerged 207 = .ok (.iconst 1, 1) := bL_areMerged_196.2.2.2.2.2.1
theorem dL_areMerged_208 : decode cL_areMerged 208 = .ok (.iload_n 1, 1) := bL_areMerged_196.2.2.2.2.2.2.1
theorem dL_areMerged_209 : decode cL_areMerged 209 = .ok (.isub, 1) := bL_areMerged_196.2.2.2.2.2.2.2.1
theorem dL_areMerged_210 : decode cL_areMerged 210 = .ok (.invokevirtual 88, 3) := bL_areMerged_196.2.2.2.2.2.2.2.2.1
theorem dL_areMerged_213 : decode cL_areMerged 213 = .ok (.iload_n 2, 1) := bL_areMerged_196.2.2.2.2.2.2.2.2.2.1
theorem dL_areMerged_214 : decode cL_areMerged 214 = .ok (.if_icmp .ne 20, 3) := bL_areMerged_196.2.2.2.2.2.2.2.2.2.2.1
theorem dL_areMerged_217 : decode cL_areMerged 217 = .ok (.aload_n 0, 1) := bL_areMerged_196.2.2.2.2.2.2.2.2.2.2.2.1
theorem dL_areMerged_218 : decode cL_areMerged 218 = .ok (.iload_n 1, 1) := bL_areMerged_196.2.2.2.2.2.2.2.2.2.2.2.2.1
theorem dL_areMerged_219 : decode cL_areMerged 219 = .ok (.iconst 3, 1) := bL_areMerged_196.2.2.2.2.2.2.2.2.2.2.2.2.2.1
theorem dL_areMerged_220 : decode cL_areMerged 220 = .ok (.invokevirtual 139, 3) := bL_areMerged_196.2.2.2.2.2.2.2.2.2.2.2.2.2.2.1
theorem dL_areMerged_223 : decode cL_areMerged 223 = .ok (.ifCond .eq 11, 3) := bL_areMerged_196.2.2.2.2.2.2.2.2.2.2.2.2.2.2.2
set_option maxRecDepth 100000 in
theorem bL_areMerged_226 : (decode cL_areMerged 226 = .ok (.aload_n 0, 1)) ∧ (decode cL_areMerged 227 = .ok (.iload_n 1, 1)) ∧ (decode cL_areMerged 228 = .ok (.invokevirtual 110, 3)) ∧ (decode cL_areMerged 231 = .ok (.ifCond .ne 5, 3)) ∧ (decode cL_areMerged 234 = .ok (.iconst 0, 1)) ∧ (decode cL_areMerged 235 = .ok (.ireturn, 1)) ∧ (decode cL_areMerged 236 = .ok (.iconst 0, 1)) ∧ (decode cL_areMerged 237 = .ok (.istore 6, 2)) ∧ (decode cL_areMerged 239 = .ok (.iload 6, 2)) ∧ (decode cL_areMerged 241 = .ok (.iload_n 2, 1)) ∧ (decode cL_areMerged 242 = .ok (.if_icmp .ge 25, 3)) ∧ (decode cL_areMerged 245 = .ok (.aload_n 0, 1)) ∧ (decode cL_areMerged 246 = .ok (.iload_n 1, 1)) ∧ (decode cL_areMerged 247 = .ok (.iload 6, 2)) ∧ (decode cL_areMerged 249 = .ok (.invokevirtual 122, 3)) ∧ (decode cL_areMerged 252 = .ok (.aload_n 3, 1)) := by decide +kernel
theorem dL_areMerged_226 : decode cL_areMerged 226 = .ok (.aload_n 0, 1) := bL_areMerged_226.1
theorem dL_areMerged_227 : decode cL_areMerged 227 = .ok (.iload_n 1, 1) := bL_areMerged_226.2.1
theorem dL_areMerged_228 : decode cL_areMerged 228 = .ok (.invokevirtual 110, 3) := bL_areMerged_226.2.2.1
theorem dL_areMerged_231 : decode cL_areMerged 231 = .ok (.ifCond .ne 5, 3) := bL_areMerged_226.2.2.2.1
theorem dL_areMerged_234 : decode cL_areMerged 234 = .ok (.iconst 0, 1) := bL_areMerged_226.2.2.2.2.1
theorem dL_areMerged_235 : decode cL_areMerged 235 = .ok (.ireturn, 1) := bL_areMerged_226.2.2.2.2.2.1
theorem dL_areMerged_236 : decode cL_areMerged 236 = .ok (.iconst 0, 1) := bL_areMerged_226.2.2.2.2.2.2.1
theorem dL_areMerged_237 : decode cL_areMerged 237 = .ok (.istore 6, 2) := bL_areMerged_226.2.2.2.2.2.2.2.1
theorem dL_areMerged_239 : decode cL_areMerged 239 = .ok (.iload 6, 2) := bL_areMerged_226.2.2.2.2.2.2.2.2.1
theorem dL_areMerged_241 : decode cL_areMerged 241 = .ok (.iload_n 2, 1) := bL_areMerged_226.2.2.2.2.2.2.2.2.2.1
theorem dL_areMerged_242 : decode cL_areMerged 242 = .ok (.if_icmp .ge 25, 3) := bL_areMerged_226.2.2.2.2.2.2.2.2.2.2.1
theorem dL_areMerged_245 : decode cL_areMerged 245 = .ok (.aload_n 0, 1) := bL_areMerged_226.2.2.2.2.2.2.2.2.2.2.2.1
theorem dL_areMerged_246 : decode cL_areMerged 246 = .ok (.iload_n 1, 1) := bL_areMerged_226.2.2.2.2.2.2.2.2.2.2.2.2.1
theorem dL_areMerged_247 : decode cL_areMerged 247 = .ok (.iload 6, 2) := bL_areMerged_226.2.2.2.2.2.2.2.2.2.2.2.2.2.1
theorem dL_areMerged_249 : decode cL_areMerged 249 = .ok (.invokevirtual 122, 3) := bL_areMerged_226.2.2.2.2.2.2.2.2.2.2.2.2.2.2.1
theorem dL_areMerged_252 : decode cL_areMerged 252 = .ok (.aload_n 3, 1) := bL_areMerged_226.2.2.2.2.2.2.2.2.2.2.2.2.2.2.2
set_option maxRecDepth 100000 in
theorem bL_areMerged_253 : (decode cL_areMerged 253 = .ok (.iload 6, 2)) ∧ (decode cL_areMerged 255 = .ok (.iaload, 1)) ∧ (decode cL_areMerged 256 = .ok (.if_icmp .eq 5, 3)) ∧ (decode cL_areMerged 259 = .ok (.iconst 0, 1)) ∧ (decode cL_areMerged 260 = .ok (.ireturn, 1)) ∧ (decode cL_areMerged 261 = .ok (.iinc 6 1, 3)) ∧ (decode cL_areMerged 264 = .ok (.goto (-25), 3)) ∧ (decode cL_areMerged 267 = .ok (.aload_n 0, 1)) ∧ (decode cL_areMerged 268 = .ok (.iload_n 1, 1)) ∧ (decode cL_areMerged 269 = .ok (.iconst 1, 1)) ∧ (decode cL_areMerged 270 = .ok (.invokevirtual 136, 3)) ∧ (decode cL_areMerged 273 = .ok (.istore 6, 2)) ∧ (decode cL_areMerged 275 = .ok (.aload_n 0, 1)) ∧ (decode cL_areMerged 276 = .ok (.iload_n 1, 1)) ∧ (decode cL_areMerged 277 = .ok (.invokevirtual 94, 3)) ∧ (decode cL_areMerged 280 = .ok (.ifCond .ne 18, 3)) := by decide +kernel
theorem dL_areMerged_253 : decode cL_areMerged 253 = .ok (.iload 6, 2) := bL_areMerged_253.1
theorem dL_areMerged_255 : decode cL_areMerged 255 = .ok (.iaload, 1) := bL_areMerged_253.2.1
theorem dL_areMerged_256 : decode cL_areMerged 256 = .ok (.if_icmp .eq 5, 3) := bL_areMerged_253.2.2.1
theorem dL_areMerged_259 : decode cL_areMerged 259 = .ok (.iconst 0, 1) := bL_areMerged_253.2.2.2.1
theorem dL_areMerged_260 : decode cL_areMerged 260 = .ok (.ireturn, 1) := bL_areMerged_253.2.2.2.2.1
theorem dL_areMerged_261 : decode cL_areMerged 261 = .ok (.iinc 6 1, 3) := bL_areMerged_253.2.2.2.2.2.1
theorem dL_areMerged_264 : decode cL_areMerged 264 = .ok (.goto (-25), 3) := bL_areMerged_253.2.2.2.2.2.2.1
theorem dL_areMerged_267 : decode cL_areMerged 267 = .ok (.aload_n 0, 1) := bL_areMerged_253.2.2.2.2.2.2.2.1
theorem dL_areMerged_268 : decode cL_areMerged 268 = .ok (.iload_n 1, 1) := bL_areMerged_253.2.2.2.2.2.2.2.2.1
theorem dL_areMerged_269 : decode cL_areMerged 269 = .ok (.iconst 1, 1) := bL_areMerged_253.2.2.2.2.2.2.2.2.2.1
theorem dL_areMerged_270 : decode cL_areMerged 270 = .ok (.invokevirtual 136, 3) := bL_areMerged_253.2.2.2.2.2.2.2.2.2.2.1
theorem dL_areMerged_273 : decode cL_areMerged 273 = .ok (.istore 6, 2) := bL_areMerged_253.2.2.2.2.2.2.2.2.2.2.2.1
theorem dL_areMerged_275 : decode cL_areMerged 275 = .ok (.aload_n 0, 1) := bL_areMerged_253.2.2.2.2.2.2.2.2.2.2.2.2.1
theorem dL_areMerged_276 : decode cL_areMerged 276 = .ok (.iload_n 1, 1) := bL_areMerged_253.2.2.2.2.2.2.2.2.2.2.2.2.2.1
theorem dL_areMerged_277 : decode cL_areMerged 277 = .ok (.invokevirtual 94, 3) := bL_areMerged_253.2.2.2.2.2.2.2.2.2.2.2.2.2.2.1
theorem dL_areMerged_280 : decode cL_areMerged 280 = .ok (.ifCond .ne 18, 3) := bL_areMerged_253.2.2.2.2.2.2.2.2.2.2.2.2.2.2.2
set_option maxRecDepth 100000 in
theorem bL_areMerged_283 : (decode cL_areMerged 283 = .ok (.aload_n 0, 1)) ∧ (decode cL_areMerged 284 = .ok (.iload_n 1, 1)) ∧ (decode cL_areMerged 285 = .ok (.iconst 1, 1)) ∧ (decode cL_areMerged 286 = .ok (.invokevirtual 136, 3)) ∧ (decode cL_areMerged 289 = .ok (.iload 6, 2)) ∧ (decode cL_areMerged 291 = .ok (.if_icmp .ne 7, 3)) ∧ (decode cL_areMerged 294 = .ok (.iconst 1, 1)) ∧ (decode cL_areMerged 295 = .ok (.goto 4, 3)) ∧ (decode cL_areMerged 298 = .ok (.iconst 0, 1)) ∧ (decode cL_areMerged 299 = .ok (.ireturn, 1)) := by decide +kernel
theorem dL_areMerged_283 : decode cL_areMerged 283 = .ok (.aload_n 0, 1) := bL_areMerged_283.1
theorem dL_areMerged_284 : decode cL_areMerged 284 = .ok (.iload_n 1, 1) := bL_areMerged_283.2.1
theorem dL_areMerged_285 : decode cL_areMerged 285 = .ok (.iconst 1, 1) := bL_areMerged_283.2.2.1
theorem dL_areMerged_286 : decode cL_areMerged 286 = .ok (.invokevirtual 136, 3) := bL_areMerged_283.2.2.2.1
theorem dL_areMerged_289 : decode cL_areMerged 289 = .ok (.iload 6, 2) := bL_areMerged_283.2.2.2.2.1
theorem dL_areMerged_291 : decode cL_areMerged 291 = .ok (.if_icmp .ne 7, 3) := bL_areMerged_283.2.2.2.2.2.1
theorem dL_areMerged_294 : decode cL_areMerged 294 = .ok (.iconst 1, 1) := bL_areMerged_283.2.2.2.2.2.2.1
theorem dL_areMerged_295 : decode cL_areMerged 295 = .ok (.goto 4, 3) := bL_areMerged_283.2.2.2.2.2.2.2.1
theorem dL_areMerged_298 : decode cL_areMerged 298 = .ok (.iconst 0, 1) := bL_areMerged_283.2.2.2.2.2.2.2.2.1
theorem dL_areMerged_299 : decode cL_areMerged 299 = .ok (.ireturn, 1) := bL_areMerged_283.2.2.2.2.2.2.2.2.2
set_option maxRecDepth 100000 in
theorem bL_isAsked_0 : (decode cL_isAsked 0 = .ok (.aload_n 0, 1)) ∧ (decode cL_isAsked 1 = .ok (.invokevirtual 142, 3)) ∧ (decode cL_isAsked 4 = .ok (.lstore_n 2, 1)) ∧ (decode cL_isAsked 5 = .ok (.aload_n 0, 1)) ∧ (decode cL_isAsked 6 = .ok (.iload_n 1, 1)) ∧ (decode cL_isAsked 7 = .ok (.invokevirtual 49, 3)) ∧ (decode cL_isAsked 10 = .ok (.istore 4, 2)) ∧ (decode cL_isAsked 12 = .ok (.iconst 0, 1)) ∧ (decode cL_isAsked 13 = .ok (.istore 5, 2)) ∧ (decode cL_isAsked 15 = .ok (.iload 5, 2)) ∧ (decode cL_isAsked 17 = .ok (.iload 4, 2)) ∧ (decode cL_isAsked 19 = .ok (.if_icmp .ge 90, 3)) ∧ (decode cL_isAsked 22 = .ok (.iload 5, 2)) ∧ (decode cL_isAsked 24 = .ok (.iconst 5, 1)) ∧ (decode cL_isAsked 25 = .ok (.if_icmp .ge 84, 3)) ∧ (decode cL_isAsked 28 = .ok (.aload_n 0, 1)) := by decide +kernel
theorem dL_isAsked_0 : decode cL_isAsked 0 = .ok (.aload_n 0, 1) := bL_isAsked_0.1
theorem dL_isAsked_1 : decode cL_isAsked 1 = .ok (.invokevirtual 142, 3) := bL_isAsked_0.2.1
theorem dL_isAsked_4 : decode cL_isAsked 4 = .ok (.lstore_n 2, 1) := bL_isAsked_0.2.2.1
theorem dL_isAsked_5 : decode cL_isAsked 5 = .ok (.aload_n 0, 1) := bL_isAsked_0.2.2.2.1
theorem dL_isAsked_6 : decode cL_isAsked 6 = .ok (.iload_n 1, 1) := bL_isAsked_0.2.2.2.2.1
theorem dL_isAsked_7 : decode cL_isAsked 7 = .ok (.invokevirtual 49, 3) := bL_isAsked_0.2.2.2.2.2.1
theorem dL_isAsked_10 : decode cL_isAsked 10 = .ok (.istore 4, 2) := bL_isAsked_0.2.2.2.2.2.2.1
theorem dL_isAsked_12 : decode cL_isAsked 12 = .ok (.iconst 0, 1) := bL_isAsked_0.2.2.2.2.2.2.2.1
theorem dL_isAsked_13 : decode cL_isAsked 13 = .ok (.istore 5, 2) := bL_isAsked_0.2.2.2.2.2.2.2.2.1
theorem dL_isAsked_15 : decode cL_isAsked 15 = .ok (.iload 5, 2) := bL_isAsked_0.2.2.2.2.2.2.2.2.2.1
theorem dL_isAsked_17 : decode cL_isAsked 17 = .ok (.iload 4, 2) := bL_isAsked_0.2.2.2.2.2.2.2.2.2.2.1
theorem dL_isAsked_19 : decode cL_isAsked 19 = .ok (.if_icmp .ge 90, 3) := bL_isAsked_0.2.2.2.2.2.2.2.2.2.2.2.1
theorem dL_isAsked_22 : decode cL_isAsked 22 = .ok (.iload 5, 2) := bL_isAsked_0.2.2.2.2.2.2.2.2.2.2.2.2.1
theorem dL_isAsked_24 : decode cL_isAsked 24 = .ok (.iconst 5, 1) := bL_isAsked_0.2.2.2.2.2.2.2.2.2.2.2.2.2.1
theorem dL_isAsked_25 : decode cL_isAsked 25 = .ok (.if_icmp .ge 84, 3) := bL_isAsked_0.2.2.2.2.2.2.2.2.2.2.2.2.2.2.1
theorem dL_isAsked_28 : decode cL_isAsked 28 = .ok (.aload_n 0, 1) := bL_isAsked_0.2.2.2.2.2.2.2.2.2.2.2.2.2.2.2
set_option maxRecDepth 100000 in
theorem bL_isAsked_29 : (decode cL_isAsked 29 = .ok (.iload_n 1, 1)) ∧ (decode cL_isAsked 30 = .ok (.aload_n 0, 1)) ∧ (decode cL_isAsked 31 = .ok (.iload_n 1, 1)) ∧ (decode cL_isAsked 32 = .ok (.iload 5, 2)) ∧ (decode cL_isAsked 34 = .ok (.invokevirtual 125, 3)) ∧ (decode cL_isAsked 37 = .ok (.invokevirtual 146, 3)) ∧ (decode cL_isAsked 40 = .ok (.aload_n 0, 1)) ∧ (decode cL_isAsked 41 = .ok (.iload_n 1, 1)) ∧ (decode cL_isAsked 42 = .ok (.iload 5, 2)) ∧ (decode cL_isAsked 44 = .ok (.invokevirtual 119, 3)) ∧ (decode cL_isAsked 47 = .ok (.if_icmp .ne 54, 3)) ∧ (decode cL_isAsked 50 = .ok (.aload_n 0, 1)) ∧ (decode cL_isAsked 51 = .ok (.iload_n 1, 1)) ∧ (decode cL_isAsked 52 = .ok (.aload_n 0, 1)) ∧ (decode cL_isAsked 53 = .ok (.iload_n 1, 1)) ∧ (decode cL_isAsked 54 = .ok (.iload 5, 2)) := by decide +kernel
theorem dL_isAsked_29 : decode cL_isAsked 29 = .ok (.iload_n 1, 1) := bL_isAsked_29.1
theorem dL_isAsked_30 : decode cL_isAsked 30 = .ok (.aload_n 0, 1) := bL_isAsked_29.2.1
theorem dL_isAsked_31 : decode cL_isAsked 31 = .ok (.iload_n 1, 1) := bL_isAsked_29.2.2.1
theorem dL_isAsked_32 : decode cL_isAsked 32 = .ok (.iload 5, 2) := bL_isAsked_29.2.2.2.1
theorem dL_isAsked_34 : decode cL_isAsked 34 = .ok (.invokevirtual 125, 3) := bL_isAsked_29.2.2.2.2.1
theorem dL_isAsked_37 : decode cL_isAsked 37 = .ok (.invokevirtual 146, 3) := bL_isAsked_29.2.2.2.2.2.1
theorem dL_isAsked_40 : decode cL_isAsked 40 = .ok (.aload_n 0, 1) := bL_isAsked_29.2.2.2.2.2.2.1
theorem dL_isAsked_41 : decode cL_isAsked 41 = .ok (.iload_n 1, 1) := bL_isAsked_29.2.2.2.2.2.2.2.1
theorem dL_isAsked_42 : decode cL_isAsked 42 = .ok (.iload 5, 2) := bL_isAsked_29.2.2.2.2.2.2.2.2.1
theorem dL_isAsked_44 : decode cL_isAsked 44 = .ok (.invokevirtual 119, 3) := bL_isAsked_29.2.2.2.2.2.2.2.2.2.1
theorem dL_isAsked_47 : decode cL_isAsked 47 = .ok (.if_icmp .ne 54, 3) := bL_isAsked_29.2.2.2.2.2.2.2.2.2.2.1
theorem dL_isAsked_50 : decode cL_isAsked 50 = .ok (.aload_n 0, 1) := bL_isAsked_29.2.2.2.2.2.2.2.2.2.2.2.1
theorem dL_isAsked_51 : decode cL_isAsked 51 = .ok (.iload_n 1, 1) := bL_isAsked_29.2.2.2.2.2.2.2.2.2.2.2.2.1
theorem dL_isAsked_52 : decode cL_isAsked 52 = .ok (.aload_n 0, 1) := bL_isAsked_29.2.2.2.2.2.2.2.2.2.2.2.2.2.1
theorem dL_isAsked_53 : decode cL_isAsked 53 = .ok (.iload_n 1, 1) := bL_isAsked_29.2.2.2.2.2.2.2.2.2.2.2.2.2.2.1
theorem dL_isAsked_54 : decode cL_isAsked 54 = .ok (.iload 5, 2) := bL_isAsked_29.2.2.2.2.2.2.2.2.2.2.2.2.2.2.2
set_option maxRecDepth 100000 in
theorem bL_isAsked_56 : (decode cL_isAsked 56 = .ok (.invokevirtual 125, 3)) ∧ (decode cL_isAsked 59 = .ok (.invokevirtual 149, 3)) ∧ (decode cL_isAsked 62 = .ok (.aload_n 0, 1)) ∧ (decode cL_isAsked 63 = .ok (.iload_n 1, 1)) ∧ (decode cL_isAsked 64 = .ok (.iload 5, 2)) ∧ (decode cL_isAsked 66 = .ok (.invokevirtual 122, 3)) ∧ (decode cL_isAsked 69 = .ok (.if_icmp .ne 32, 3)) ∧ (decode cL_isAsked 72 = .ok (.aload_n 0, 1)) ∧ (decode cL_isAsked 73 = .ok (.iload_n 1, 1)) ∧ (decode cL_isAsked 74 = .ok (.iload 5, 2)) ∧ (decode cL_isAsked 76 = .ok (.invokevirtual 152, 3)) ∧ (decode cL_isAsked 79 = .ok (.iload 4, 2)) ∧ (decode cL_isAsked 81 = .ok (.iconst 1, 1)) ∧ (decode cL_isAsked 82 = .ok (.isub, 1)) ∧ (decode cL_isAsked 83 = .ok (.if_icmp .gt 18, 3)) ∧ (decode cL_isAsked 86 = .ok (.aload_n 0, 1)) := by decide +kernel
theorem dL_isAsked_56 : decode cL_isAsked 56 = .ok (.invokevirtual 125, 3) := bL_isAsked_56.1
theorem dL_isAsked_59 : decode cL_isAsked 59 = .ok (.invokevirtual 149, 3) := bL_isAsked_56.2.1
theorem dL_isAsked_62 : decode cL_isAsked 62 = .ok (.aload_n 0, 1) := bL_isAsked_56.2.2.1
theorem dL_isAsked_63 : decode cL_isAsked 63 = .ok (.iload_n 1, 1) := bL_isAsked_56.2.2.2.1
theorem dL_isAsked_64 : decode cL_isAsked 64 = .ok (.iload 5, 2) := bL_isAsked_56.2.2.2.2.1
theorem dL_isAsked_66 : decode cL_isAsked 66 = .ok (.invokevirtual 122, 3) := bL_isAsked_56.2.2.2.2.2.1
theorem dL_isAsked_69 : decode cL_isAsked 69 = .ok (.if_icmp .ne 32, 3) := bL_isAsked_56.2.2.2.2.2.2.1
theorem dL_isAsked_72 : decode cL_isAsked 72 = .ok (.aload_n 0, 1) := bL_isAsked_56.2.2.2.2.2.2.2.1
theorem dL_isAsked_73 : decode cL_isAsked 73 = .ok (.iload_n 1, 1) := bL_isAsked_56.2.2.2.2.2.2.2.2.1
theorem dL_isAsked_74 : decode cL_isAsked 74 = .ok (.iload 5, 2) := bL_isAsked_56.2.2.2.2.2.2.2.2.2.1
theorem dL_isAsked_76 : decode cL_isAsked 76 = .ok (.invokevirtual 152, 3) := bL_isAsked_56.2.2.2.2.2.2.2.2.2.2.1
theorem dL_isAsked_79 : decode cL_isAsked 79 = .ok (.iload 4, 2) := bL_isAsked_56.2.2.2.2.2.2.2.2.2.2.2.1
theorem dL_isAsked_81 : decode cL_isAsked 81 = .ok (.iconst 1, 1) := bL_isAsked_56.2.2.2.2.2.2.2.2.2.2.2.2.1
theorem dL_isAsked_82 : decode cL_isAsked 82 = .ok (.isub, 1) := bL_isAsked_56.2.2.2.2.2.2.2.2.2.2.2.2.2.1
theorem dL_isAsked_83 : decode cL_isAsked 83 = .ok (.if_icmp .gt 18, 3) := bL_isAsked_56.2.2.2.2.2.2.2.2.2.2.2.2.2.2.1
theorem dL_isAsked_86 : decode cL_isAsked 86 = .ok (.aload_n 0, 1) := bL_isAsked_56.2.2.2.2.2.2.2.2.2.2.2.2.2.2.2
set_option maxRecDepth 100000 in
theorem bL_isAsked_87 : (decode cL_isAsked 87 = .ok (.iload_n 1, 1)) ∧ (decode cL_isAsked 88 = .ok (.iload 5, 2)) ∧ (decode cL_isAsked 90 = .ok (.invokevirtual 155, 3)) ∧ (decode cL_isAsked 93 = .ok (.aload_n 0, 1)) ∧ (decode cL_isAsked 94 = .ok (.iload_n 1, 1)) ∧ (decode cL_isAsked 95 = .ok (.invokevirtual 158, 3)) ∧ (decode cL_isAsked 98 = .ok (.if_icmp .le 5, 3)) ∧ (decode cL_isAsked 101 = .ok (.iconst 0, 1)) ∧ (decode cL_isAsked 102 = .ok (.ireturn, 1)) ∧ (decode cL_isAsked 103 = .ok (.iinc 5 1, 3)) ∧ (decode cL_isAsked 106 = .ok (.goto (-91), 3)) ∧ (decode cL_isAsked 109 = .ok (.iconst 0, 1)) ∧ (decode cL_isAsked 110 = .ok (.istore 5, 2)) ∧ (decode cL_isAsked 112 = .ok (.iload 5, 2)) ∧ (decode cL_isAsked 114 = .ok (.iconst 1, 1)) ∧ (decode cL_isAsked 115 = .ok (.iadd, 1)) := by decide +kernel
theorem dL_isAsked_87 : decode cL_isAsked 87 = .ok (.iload_n 1, 1) := bL_isAsked_87.1
theorem dL_isAsked_88 : decode cL_isAsked 88 = .ok (.iload 5, 2) := bL_isAsked_87.2.1
theorem dL_isAsked_90 : decode cL_isAsked 90 = .ok (.invokevirtual 155, 3) := bL_isAsked_87.2.2.1
theorem dL_isAsked_93 : decode cL_isAsked 93 = .ok (.aload_n 0, 1) := bL_isAsked_87.2.2.2.1
theorem dL_isAsked_94 : decode cL_isAsked 94 = .ok (.iload_n 1, 1) := bL_isAsked_87.2.2.2.2.1
theorem dL_isAsked_95 : decode cL_isAsked 95 = .ok (.invokevirtual 158, 3) := bL_isAsked_87.2.2.2.2.2.1
theorem dL_isAsked_98 : decode cL_isAsked 98 = .ok (.if_icmp .le 5, 3) := bL_isAsked_87.2.2.2.2.2.2.1
theorem dL_isAsked_101 : decode cL_isAsked 101 = .ok (.iconst 0, 1) := bL_isAsked_87.2.2.2.2.2.2.2.1
theorem dL_isAsked_102 : decode cL_isAsked 102 = .ok (.ireturn, 1) := bL_isAsked_87.2.2.2.2.2.2.2.2.1
theorem dL_isAsked_103 : decode cL_isAsked 103 = .ok (.iinc 5 1, 3) := bL_isAsked_87.2.2.2.2.2.2.2.2.2.1
theorem dL_isAsked_106 : decode cL_isAsked 106 = .ok (.goto (-91), 3) := bL_isAsked_87.2.2.2.2.2.2.2.2.2.2.1
theorem dL_isAsked_109 : decode cL_isAsked 109 = .ok (.iconst 0, 1) := bL_isAsked_87.2.2.2.2.2.2.2.2.2.2.2.1
theorem dL_isAsked_110 : decode cL_isAsked 110 = .ok (.istore 5, 2) := bL_isAsked_87.2.2.2.2.2.2.2.2.2.2.2.2.1
theorem dL_isAsked_112 : decode cL_isAsked 112 = .ok (.iload 5, 2) := bL_isAsked_87.2.2.2.2.2.2.2.2.2.2.2.2.2.1
theorem dL_isAsked_114 : decode cL_isAsked 114 = .ok (.iconst 1, 1) := bL_isAsked_87.2.2.2.2.2.2.2.2.2.2.2.2.2.2.1
theorem dL_isAsked_115 : decode cL_isAsked 115 = .ok (.iadd, 1) := bL_isAsked_87.2.2.2.2.2.2.2.2.2.2.2.2.2.2.2
set_option maxRecDepth 100000 in
theorem bL_isAsked_116 : (decode cL_isAsked 116 = .ok (.iload 4, 2)) ∧ (decode cL_isAsked 118 = .ok (.if_icmp .ge 38, 3)) ∧ (decode cL_isAsked 121 = .ok (.iload 5, 2)) ∧ (decode cL_isAsked 123 = .ok (.iconst 5, 1)) ∧ (decode cL_isAsked 124 = .ok (.if_icmp .ge 32, 3)) ∧ (decode cL_isAsked 127 = .ok (.aload_n 0, 1)) ∧ (decode cL_isAsked 128 = .ok (.iload_n 1, 1)) ∧ (decode cL_isAsked 129 = .ok (.iload 5, 2)) ∧ (decode cL_isAsked 131 = .ok (.invokevirtual 161, 3)) ∧ (decode cL_isAsked 134 = .ok (.aload_n 0, 1)) ∧ (decode cL_isAsked 135 = .ok (.iload_n 1, 1)) ∧ (decode cL_isAsked 136 = .ok (.iconst 0, 1)) ∧ (decode cL_isAsked 137 = .ok (.invokevirtual 101, 3)) ∧ (decode cL_isAsked 140 = .ok (.isub, 1)) ∧ (decode cL_isAsked 141 = .ok (.invokestatic 164, 3)) ∧ (decode cL_isAsked 144 = .ok (.iconst 1, 1)) := by decide +kernel
theorem dL_isAsked_116 : decode cL_isAsked 116 = .ok (.iload 4, 2) := bL_isAsked_116.1
theorem dL_isAsked_118 : decode cL_isAsked 118 = .ok (.if_icmp .ge 38, 3) := bL_isAsked_116.2.1
theorem dL_isAsked_121 : decode cL_isAsked 121 = .ok (.iload 5, 2) := bL_isAsked_116.2.2.1
theorem dL_isAsked_123 : decode cL_isAsked 123 = .ok (.iconst 5, 1) := bL_isAsked_116.2.2.2.1
theorem dL_isAsked_124 : decode cL_isAsked 124 = .ok (.if_icmp .ge 32, 3) := bL_isAsked_116.2.2.2.2.1
theorem dL_isAsked_127 : decode cL_isAsked 127 = .ok (.aload_n 0, 1) := bL_isAsked_116.2.2.2.2.2.1
theorem dL_isAsked_128 : decode cL_isAsked 128 = .ok (.iload_n 1, 1) := bL_isAsked_116.2.2.2.2.2.2.1
theorem dL_isAsked_129 : decode cL_isAsked 129 = .ok (.iload 5, 2) := bL_isAsked_116.2.2.2.2.2.2.2.1
theorem dL_isAsked_131 : decode cL_isAsked 131 = .ok (.invokevirtual 161, 3) := bL_isAsked_116.2.2.2.2.2.2.2.2.1
theorem dL_isAsked_134 : decode cL_isAsked 134 = .ok (.aload_n 0, 1) := bL_isAsked_116.2.2.2.2.2.2.2.2.2.1
theorem dL_isAsked_135 : decode cL_isAsked 135 = .ok (.iload_n 1, 1) := bL_isAsked_116.2.2.2.2.2.2.2.2.2.2.1
theorem dL_isAsked_136 : decode cL_isAsked 136 = .ok (.iconst 0, 1) := bL_isAsked_116.2.2.2.2.2.2.2.2.2.2.2.1
theorem dL_isAsked_137 : decode cL_isAsked 137 = .ok (.invokevirtual 101, 3) := bL_isAsked_116.2.2.2.2.2.2.2.2.2.2.2.2.1
theorem dL_isAsked_140 : decode cL_isAsked 140 = .ok (.isub, 1) := bL_isAsked_116.2.2.2.2.2.2.2.2.2.2.2.2.2.1
theorem dL_isAsked_141 : decode cL_isAsked 141 = .ok (.invokestatic 164, 3) := bL_isAsked_116.2.2.2.2.2.2.2.2.2.2.2.2.2.2.1
theorem dL_isAsked_144 : decode cL_isAsked 144 = .ok (.iconst 1, 1) := bL_isAsked_116.2.2.2.2.2.2.2.2.2.2.2.2.2.2.2
set_option maxRecDepth 100000 in
theorem bL_isAsked_145 : (decode cL_isAsked 145 = .ok (.if_icmp .le 5, 3)) ∧ (decode cL_isAsked 148 = .ok (.iconst 0, 1)) ∧ (decode cL_isAsked 149 = .ok (.ireturn, 1)) ∧ (decode cL_isAsked 150 = .ok (.iinc 5 1, 3)) ∧ (decode cL_isAsked 153 = .ok (.goto (-41), 3)) ∧ (decode cL_isAsked 156 = .ok (.aload_n 0, 1)) ∧ (decode cL_isAsked 157 = .ok (.iload_n 1, 1)) ∧ (decode cL_isAsked 158 = .ok (.iconst 0, 1)) ∧ (decode cL_isAsked 159 = .ok (.iconst 0, 1)) ∧ (decode cL_isAsked 160 = .ok (.invokevirtual 169, 3)) ∧ (decode cL_isAsked 163 = .ok (.invokevirtual 173, 3)) ∧ (decode cL_isAsked 166 = .ok (.ifCond .eq 91, 3)) ∧ (decode cL_isAsked 169 = .ok (.aload_n 0, 1)) ∧ (decode cL_isAsked 170 = .ok (.iload_n 1, 1)) ∧ (decode cL_isAsked 171 = .ok (.invokevirtual 178, 3)) ∧ (decode cL_isAsked 174 = .ok (.iload 4, 2)) := by decide +kernel
theorem dL_isAsked_145 : decode cL_isAsked 145 = .ok (.if_icmp .le 5, 3) := bL_isAsked_145.1
theorem dL_isAsked_148 : decode cL_isAsked 148 = .ok (.iconst 0, 1) := bL_isAsked_145.2.1
theorem dL_isAsked_149 : decode cL_isAsked 149 = .ok (.ireturn, 1) := bL_isAsked_145.2.2.1
theorem dL_isAsked_150 : decode cL_isAsked 150 = .ok (.iinc 5 1, 3) := bL_isAsked_145.2.2.2.1
theorem dL_isAsked_153 : decode cL_isAsked 153 = .ok (.goto (-41), 3) := bL_isAsked_145.2.2.2.2.1
theorem dL_isAsked_156 : decode cL_isAsked 156 = .ok (.aload_n 0, 1) := bL_isAsked_145.2.2.2.2.2.1
theorem dL_isAsked_157 : decode cL_isAsked 157 = .ok (.iload_n 1, 1) := bL_isAsked_145.2.2.2.2.2.2.1
theorem dL_isAsked_158 : decode cL_isAsked 158 = .ok (.iconst 0, 1) := bL_isAsked_145.2.2.2.2.2.2.2.1
theorem dL_isAsked_159 : decode cL_isAsked 159 = .ok (.iconst 0, 1) := bL_isAsked_145.2.2.2.2.2.2.2.2.1
theorem dL_isAsked_160 : decode cL_isAsked 160 = .ok (.invokevirtual 169, 3) := bL_isAsked_145.2.2.2.2.2.2.2.2.2.1
theorem dL_isAsked_163 : decode cL_isAsked 163 = .ok (.invokevirtual 173, 3) := bL_isAsked_145.2.2.2.2.2.2.2.2.2.2.1
theorem dL_isAsked_166 : decode cL_isAsked 166 = .ok (.ifCond .eq 91, 3) := bL_isAsked_145.2.2.2.2.2.2.2.2.2.2.2.1
theorem dL_isAsked_169 : decode cL_isAsked 169 = .ok (.aload_n 0, 1) := bL_isAsked_145.2.2.2.2.2.2.2.2.2.2.2.2.1
theorem dL_isAsked_170 : decode cL_isAsked 170 = .ok (.iload_n 1, 1) := bL_isAsked_145.2.2.2.2.2.2.2.2.2.2.2.2.2.1
theorem dL_isAsked_171 : decode cL_isAsked 171 = .ok (.invokevirtual 178, 3) := bL_isAsked_145.2.2.2.2.2.2.2.2.2.2.2.2.2.2.1
theorem dL_isAsked_174 : decode cL_isAsked 174 = .ok (.iload 4, 2) := bL_isAsked_145.2.2.2.2.2.2.2.2.2.2.2.2.2.2.2
set_option maxRecDepth 100000 in
theorem bL_isAsked_176 : (decode cL_isAsked 176 = .ok (.if_icmp .gt 81, 3)) ∧ (decode cL_isAsked 179 = .ok (.aload_n 0, 1)) ∧ (decode cL_isAsked 180 = .ok (.iload_n 1, 1)) ∧ (decode cL_isAsked 181 = .ok (.iconst 0, 1)) ∧ (decode cL_isAsked 182 = .ok (.invokevirtual 181, 3)) ∧ (decode cL_isAsked 185 = .ok (.iload 4, 2)) ∧ (decode cL_isAsked 187 = .ok (.if_icmp .gt 70, 3)) ∧ (decode cL_isAsked 190 = .ok (.aload_n 0, 1)) ∧ (decode cL_isAsked 191 = .ok (.iload_n 1, 1)) ∧ (decode cL_isAsked 192 = .ok (.ldc 184, 2)) ∧ (decode cL_isAsked 194 = .ok (.invokevirtual 185, 3)) ∧ (decode cL_isAsked 197 = .ok (.iload 4, 2)) ∧ (decode cL_isAsked 199 = .ok (.if_icmp .gt 58, 3)) ∧ (decode cL_isAsked 202 = .ok (.aload_n 0, 1)) ∧ (decode cL_isAsked 203 = .ok (.iload_n 1, 1)) ∧ (decode cL_isAsked 204 = .ok (.iconst 0, 1)) := by decide +kernel
theorem dL_isAsked_176 : decode cL_isAsked 176 = .ok (.if_icmp .gt 81, 3) := bL_isAsked_176.1
theorem dL_isAsked_179 : decode cL_isAsked 179 = .ok (.aload_n 0, 1) := bL_isAsked_176.2.1
theorem dL_isAsked_180 : decode cL_isAsked 180 = .ok (.iload_n 1, 1) := bL_isAsked_176.2.2.1
theorem dL_isAsked_181 : decode cL_isAsked 181 = .ok (.iconst 0, 1) := bL_isAsked_176.2.2.2.1
theorem dL_isAsked_182 : decode cL_isAsked 182 = .ok (.invokevirtual 181, 3) := bL_isAsked_176.2.2.2.2.1
theorem dL_isAsked_185 : decode cL_isAsked 185 = .ok (.iload 4, 2) := bL_isAsked_176.2.2.2.2.2.1
theorem dL_isAsked_187 : decode cL_isAsked 187 = .ok (.if_icmp .gt 70, 3) := bL_isAsked_176.2.2.2.2.2.2.1
theorem dL_isAsked_190 : decode cL_isAsked 190 = .ok (.aload_n 0, 1) := bL_isAsked_176.2.2.2.2.2.2.2.1
theorem dL_isAsked_191 : decode cL_isAsked 191 = .ok (.iload_n 1, 1) := bL_isAsked_176.2.2.2.2.2.2.2.2.1
theorem dL_isAsked_192 : decode cL_isAsked 192 = .ok (.ldc 184, 2) := bL_isAsked_176.2.2.2.2.2.2.2.2.2.1
theorem dL_isAsked_194 : decode cL_isAsked 194 = .ok (.invokevirtual 185, 3) := bL_isAsked_176.2.2.2.2.2.2.2.2.2.2.1
theorem dL_isAsked_197 : decode cL_isAsked 197 = .ok (.iload 4, 2) := bL_isAsked_176.2.2.2.2.2.2.2.2.2.2.2.1
theorem dL_isAsked_199 : decode cL_isAsked 199 = .ok (.if_icmp .gt 58, 3) := bL_isAsked_176.2.2.2.2.2.2.2.2.2.2.2.2.1
theorem dL_isAsked_202 : decode cL_isAsked 202 = .ok (.aload_n 0, 1) := bL_isAsked_176.2.2.2.2.2.2.2.2.2.2.2.2.2.1
theorem dL_isAsked_203 : decode cL_isAsked 203 = .ok (.iload_n 1, 1) := bL_isAsked_176.2.2.2.2.2.2.2.2.2.2.2.2.2.2.1
theorem dL_isAsked_204 : decode cL_isAsked 204 = .ok (.iconst 0, 1) := bL_isAsked_176.2.2.2.2.2.2.2.2.2.2.2.2.2.2.2
set_option maxRecDepth 100000 in
theorem bL_isAsked_205 : (decode cL_isAsked 205 = .ok (.iconst 1, 1)) ∧ (decode cL_isAsked 206 = .ok (.invokevirtual 188, 3)) ∧ (decode cL_isAsked 209 = .ok (.aload_n 0, 1)) ∧ (decode cL_isAsked 210 = .ok (.iload_n 1, 1)) ∧ (decode cL_isAsked 211 = .ok (.iconst 0, 1)) ∧ (decode cL_isAsked 212 = .ok (.iconst 0, 1)) ∧ (decode cL_isAsked 213 = .ok (.invokevirtual 188, 3)) ∧ (decode cL_isAsked 216 = .ok (.if_icmp .lt 41, 3)) ∧ (decode cL_isAsked 219 = .ok (.aload_n 0, 1)) ∧ (decode cL_isAsked 220 = .ok (.iload_n 1, 1)) ∧ (decode cL_isAsked 221 = .ok (.iload_n 1, 1)) ∧ (decode cL_isAsked 222 = .ok (.invokevirtual 139, 3)) ∧ (decode cL_isAsked 225 = .ok (.ifCond .eq 32, 3)) ∧ (decode cL_isAsked 228 = .ok (.aload_n 0, 1)) ∧ (decode cL_isAsked 229 = .ok (.iload_n 1, 1)) ∧ (decode cL_isAsked 230 = .ok (.iload_n 1, 1)) := by decide +kernel
theorem dL_isAsked_205 : decode cL_isAsked 205 = .ok (.iconst 1, 1) := bL_isAsked_205.1
theorem dL_isAsked_206 : decode cL_isAsked 206 = .ok (.invokevirtual 188, 3) := bL_isAsked_205.2.1
theorem dL_isAsked_209 : decode cL_isAsked 209 = .ok (.aload_n 0, 1) := bL_isAsked_205.2.2.1
theorem dL_isAsked_210 : decode cL_isAsked 210 = .ok (.iload_n 1, 1) := bL_isAsked_205.2.2.2.1
theorem dL_isAsked_211 : decode cL_isAsked 211 = .ok (.iconst 0, 1) := bL_isAsked_205.2.2.2.2.1
theorem dL_isAsked_212 : decode cL_isAsked 212 = .ok (.iconst 0, 1) := bL_isAsked_205.2.2.2.2.2.1
theorem dL_isAsked_213 : decode cL_isAsked 213 = .ok (.invokevirtual 188, 3) := bL_isAsked_205.2.2.2.2.2.2.1
theorem dL_isAsked_216 : decode cL_isAsked 216 = .ok (.if_icmp .lt 41, 3) := bL_isAsked_205.2.2.2.2.2.2.2.1
theorem dL_isAsked_219 : decode cL_isAsked 219 = .ok (.aload_n 0, 1) := bL_isAsked_205.2.2.2.2.2.2.2.2.1
theorem dL_isAsked_220 : decode cL_isAsked 220 = .ok (.iload_n 1, 1) := bL_isAsked_205.2.2.2.2.2.2.2.2.2.1
theorem dL_isAsked_221 : decode cL_isAsked 221 = .ok (.iload_n 1, 1) := bL_isAsked_205.2.2.2.2.2.2.2.2.2.2.1
theorem dL_isAsked_222 : decode cL_isAsked 222 = .ok (.invokevirtual 139, 3) := bL_isAsked_205.2.2.2.2.2.2.2.2.2.2.2.1
theorem dL_isAsked_225 : decode cL_isAsked 225 = .ok (.ifCond .eq 32, 3) := bL_isAsked_205.2.2.2.2.2.2.2.2.2.2.2.2.1
theorem dL_isAsked_228 : decode cL_isAsked 228 = .ok (.aload_n 0, 1) := bL_isAsked_205.2.2.2.2.2.2.2.2.2.2.2.2.2.1
theorem dL_isAsked_229 : decode cL_isAsked 229 = .ok (.iload_n 1, 1) := bL_isAsked_205.2.2.2.2.2.2.2.2.2.2.2.2.2.2.1
theorem dL_isAsked_230 : decode cL_isAsked 230 = .ok (.iload_n 1, 1) := bL_isAsked_205.2.2.2.2.2.2.2.2.2.2.2.2.2.2.2
set_option maxRecDepth 100000 in
theorem bL_isAsked_231 : (decode cL_isAsked 231 = .ok (.invokevirtual 132, 3)) ∧ (decode cL_isAsked 234 = .ok (.ifCond .eq 23, 3)) ∧ (decode cL_isAsked 237 = .ok (.aload_n 0, 1)) ∧ (decode cL_isAsked 238 = .ok (.invokevirtual 45, 3)) ∧ (decode cL_isAsked 241 = .ok (.ifCond .eq 16, 3)) ∧ (decode cL_isAsked 244 = .ok (.aload_n 0, 1)) ∧ (decode cL_isAsked 245 = .ok (.invokevirtual 142, 3)) ∧ (decode cL_isAsked 248 = .ok (.lload_n 2, 1)) ∧ (decode cL_isAsked 249 = .ok (.lcmp, 1)) ∧ (decode cL_isAsked 250 = .ok (.ifCond .ne 7, 3)) ∧ (decode cL_isAsked 253 = .ok (.iconst 1, 1)) ∧ (decode cL_isAsked 254 = .ok (.goto 4, 3)) ∧ (decode cL_isAsked 257 = .ok (.iconst 0, 1)) ∧ (decode cL_isAsked 258 = .ok (.ireturn, 1)) := by decide +kernel
theorem dL_isAsked_231 : decode cL_isAsked 231 = .ok (.invokevirtual 132, 3) := bL_isAsked_231.1
theorem dL_isAsked_234 : decode cL_isAsked 234 = .ok (.ifCond .eq 23, 3) := bL_isAsked_231.2.1
theorem dL_isAsked_237 : decode cL_isAsked 237 = .ok (.aload_n 0, 1) := bL_isAsked_231.2.2.1
theorem dL_isAsked_238 : decode cL_isAsked 238 = .ok (.invokevirtual 45, 3) := bL_isAsked_231.2.2.2.1
theorem dL_isAsked_241 : decode cL_isAsked 241 = .ok (.ifCond .eq 16, 3) := bL_isAsked_231.2.2.2.2.1
theorem dL_isAsked_244 : decode cL_isAsked 244 = .ok (.aload_n 0, 1) := bL_isAsked_231.2.2.2.2.2.1
theorem dL_isAsked_245 : decode cL_isAsked 245 = .ok (.invokevirtual 142, 3) := bL_isAsked_231.2.2.2.2.2.2.1
theorem dL_isAsked_248 : decode cL_isAsked 248 = .ok (.lload_n 2, 1) := bL_isAsked_231.2.2.2.2.2.2.2.1
theorem dL_isAsked_249 : decode cL_isAsked 249 = .ok (.lcmp, 1) := bL_isAsked_231.2.2.2.2.2.2.2.2.1
theorem dL_isAsked_250 : decode cL_isAsked 250 = .ok (.ifCond .ne 7, 3) := bL_isAsked_231.2.2.2.2.2.2.2.2.2.1
theorem dL_isAsked_253 : decode cL_isAsked 253 = .ok (.iconst 1, 1) := bL_isAsked_231.2.2.2.2.2.2.2.2.2.2.1
theorem dL_isAsked_254 : decode cL_isAsked 254 = .ok (.goto 4, 3) := bL_isAsked_231.2.2.2.2.2.2.2.2.2.2.2.1
theorem dL_isAsked_257 : decode cL_isAsked 257 = .ok (.iconst 0, 1) := bL_isAsked_231.2.2.2.2.2.2.2.2.2.2.2.2.1
theorem dL_isAsked_258 : decode cL_isAsked 258 = .ok (.ireturn, 1) := bL_isAsked_231.2.2.2.2.2.2.2.2.2.2.2.2.2

