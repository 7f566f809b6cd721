set_option maxRecDepth 100000 in
theorem bX0_init_0 : (decode cX0_init 0 = .ok (.aload_n 0, 1)) ∧ (decode cX0_init 1 = .ok (.invokespecial 1, 3)) ∧ (decode cX0_init 4 = .ok (.aload_n 0, 1)) ∧ (decode cX0_init 5 = .ok (.new 7, 3)) ∧ (decode cX0_init 8 = .ok (.dup, 1)) ∧ (decode cX0_init 9 = .ok (.iload_n 1, 1)) ∧ (decode cX0_init 10 = .ok (.iconst 1, 1)) ∧ (decode cX0_init 11 = .ok (.invokespecial 9, 3)) ∧ (decode cX0_init 14 = .ok (.putfield 12, 3)) ∧ (decode cX0_init 17 = .ok (.aload_n 0, 1)) ∧ (decode cX0_init 18 = .ok (.new 7, 3)) ∧ (decode cX0_init 21 = .ok (.dup, 1)) ∧ (decode cX0_init 22 = .ok (.iload_n 1, 1)) ∧ (decode cX0_init 23 = .ok (.iconst 1, 1)) ∧ (decode cX0_init 24 = .ok (.invokespecial 9, 3)) ∧ (decode cX0_init 27 = .ok (.putfield 18, 3)) := by decide +kernel
theorem dX0_init_0 : decode cX0_init 0 = .ok (.aload_n 0, 1) := bX0_init_0.1
theorem dX0_init_1 : decode cX0_init 1 = .ok (.invokespecial 1, 3) := bX0_init_0.2.1
theorem dX0_init_4 : decode cX0_init 4 = .ok (.aload_n 0, 1) := bX0_init_0.2.2.1
theorem dX0_init_5 : decode cX0_init 5 = .ok (.new 7, 3) := bX0_init_0.2.2.2.1
theorem dX0_init_8 : decode cX0_init 8 = .ok (.dup, 1) := bX0_init_0.2.2.2.2.1
theorem dX0_init_9 : decode cX0_init 9 = .ok (.iload_n 1, 1) := bX0_init_0.2.2.2.2.2.1
theorem dX0_init_10 : decode cX0_init 10 = .ok (.iconst 1, 1) := bX0_init_0.2.2.2.2.2.2.1
theorem dX0_init_11 : decode cX0_init 11 = .ok (.invokespecial 9, 3) := bX0_init_0.2.2.2.2.2.2.2.1
theorem dX0_init_14 : decode cX0_init 14 = .ok (.putfield 12, 3) := bX0_init_0.2.2.2.2.2.2.2.2.1
theorem dX0_init_17 : decode cX0_init 17 = .ok (.aload_n 0, 1) := bX0_init_0.2.2.2.2.2.2.2.2.2.1
theorem dX0_init_18 : decode cX0_init 18 = .ok (.new 7, 3) := bX0_init_0.2.2.2.2.2.2.2.2.2.2.1
theorem dX0_init_21 : decode cX0_init 21 = .ok (.dup, 1) := bX0_init_0.2.2.2.2.2.2.2.2.2.2.2.1
theorem dX0_init_22 : decode cX0_init 22 = .ok (.iload_n 1, 1) := bX0_init_0.2.2.2.2.2.2.2.2.2.2.2.2.1
theorem dX0_init_23 : decode cX0_init 23 = .ok (.iconst 1, 1) := bX0_init_0.2.2.2.2.2.2.2.2.2.2.2.2.2.1
theorem dX0_init_24 : decode cX0_init 24 = .ok (.invokespecial 9, 3) := bX0_init_0.2.2.2.2.2.2.2.2.2.2.2.2.2.2.1
theorem dX0_init_27 : decode cX0_init 27 = .ok (.putfield 18, 3) := bX0_init_0.2.2.2.2.2.2.2.2.2.2.2.2.2.2.2
set_option maxRecDepth 100000 in
theorem bX0_init_30 : (decode cX0_init 30 = .ok (.aload_n 0, 1)) ∧ (decode cX0_init 31 = .ok (.new 7, 3)) ∧ (decode cX0_init 34 = .ok (.dup, 1)) ∧ (decode cX0_init 35 = .ok (.iload_n 1, 1)) ∧ (decode cX0_init 36 = .ok (.iconst 1, 1)) ∧ (decode cX0_init 37 = .ok (.invokespecial 9, 3)) ∧ (decode cX0_init 40 = .ok (.putfield 21, 3)) ∧ (decode cX0_init 43 = .ok (.aload_n 0, 1)) ∧ (decode cX0_init 44 = .ok (.new 7, 3)) ∧ (decode cX0_init 47 = .ok (.dup, 1)) ∧ (decode cX0_init 48 = .ok (.iload_n 1, 1)) ∧ (decode cX0_init 49 = .ok (.iconst 1, 1)) ∧ (decode cX0_init 50 = .ok (.invokespecial 9, 3)) ∧ (decode cX0_init 53 = .ok (.putfield 24, 3)) ∧ (decode cX0_init 56 = .ok (.return_, 1)) := by decide +kernel
theorem dX0_init_30 : decode cX0_init 30 = .ok (.aload_n 0, 1) := bX0_init_30.1
theorem dX0_init_31 : decode cX0_init 31 = .ok (.new 7, 3) := bX0_init_30.2.1
theorem dX0_init_34 : decode cX0_init 34 = .ok (.dup, 1) := bX0_init_30.2.2.1
theorem dX0_init_35 : decode cX0_init 35 = .ok (.iload_n 1, 1) := bX0_init_30.2.2.2.1
theorem dX0_init_36 : decode cX0_init 36 = .ok (.iconst 1, 1) := bX0_init_30.2.2.2.2.1
theorem dX0_init_37 : decode cX0_init 37 = .ok (.invokespecial 9, 3) := bX0_init_30.2.2.2.2.2.1
theorem dX0_init_40 : decode cX0_init 40 = .ok (.putfield 21, 3) := bX0_init_30.2.2.2.2.2.2.1
theorem dX0_init_43 : decode cX0_init 43 = .ok (.aload_n 0, 1) := bX0_init_30.2.2.2.2.2.2.2.1
theorem dX0_init_44 : decode cX0_init 44 = .ok (.new 7, 3) := bX0_init_30.2.2.2.2.2.2.2.2.1
theorem dX0_init_47 : decode cX0_init 47 = .ok (.dup, 1) := bX0_init_30.2.2.2.2.2.2.2.2.2.1
theorem dX0_init_48 : decode cX0_init 48 = .ok (.iload_n 1, 1) := bX0_init_30.2.2.2.2.2.2.2.2.2.2.1
theorem dX0_init_49 : decode cX0_init 49 = .ok (.iconst 1, 1) := bX0_init_30.2.2.2.2.2.2.2.2.2.2.2.1
theorem dX0_init_50 : decode cX0_init 50 = .ok (.invokespecial 9, 3) := bX0_init_30.2.2.2.2.2.2.2.2.2.2.2.2.1
theorem dX0_init_53 : decode cX0_init 53 = .ok (.putfield 24, 3) := bX0_init_30.2.2.2.2.2.2.2.2.2.2.2.2.2.1
theorem dX0_init_56 : decode cX0_init 56 = .ok (.return_, 1) := bX0_init_30.2.2.2.2.2.2.2.2.2.2.2.2.2.2
set_option maxRecDepth 100000 in
theorem bX0_sortUp_0 : (decode cX0_sortUp 0 = .ok (.aload_n 2, 1)) ∧ (decode cX0_sortUp 1 = .ok (.aload_n 1, 1)) ∧ (decode cX0_sortUp 2 = .ok (.invokevirtual 27, 3)) ∧ (decode cX0_sortUp 5 = .ok (.iconst 0, 1)) ∧ (decode cX0_sortUp 6 = .ok (.istore_n 3, 1)) ∧ (decode cX0_sortUp 7 = .ok (.iconst 1, 1)) ∧ (decode cX0_sortUp 8 = .ok (.istore 4, 2)) ∧ (decode cX0_sortUp 10 = .ok (.iload 4, 2)) ∧ (decode cX0_sortUp 12 = .ok (.aload_n 2, 1)) ∧ (decode cX0_sortUp 13 = .ok (.getfield 31, 3)) ∧ (decode cX0_sortUp 16 = .ok (.if_icmp .ge 30, 3)) ∧ (decode cX0_sortUp 19 = .ok (.iload_n 3, 1)) ∧ (decode cX0_sortUp 20 = .ok (.aload_n 0, 1)) ∧ (decode cX0_sortUp 21 = .ok (.aload_n 2, 1)) ∧ (decode cX0_sortUp 22 = .ok (.iload 4, 2)) ∧ (decode cX0_sortUp 24 = .ok (.invokevirtual 35, 3)) := by decide +kernel
theorem dX0_sortUp_0 : decode cX0_sortUp 0 = .ok (.aload_n 2, 1) := bX0_sortUp_0.1
theorem dX0_sortUp_1 : decode cX0_sortUp 1 = .ok (.aload_n 1, 1) := bX0_sortUp_0.2.1
theorem dX0_sortUp_2 : decode cX0_sortUp 2 = .ok (.invokevirtual 27, 3) := bX0_sortUp_0.2.2.1
theorem dX0_sortUp_5 : decode cX0_sortUp 5 = .ok (.iconst 0, 1) := bX0_sortUp_0.2.2.2.1
theorem dX0_sortUp_6 : decode cX0_sortUp 6 = .ok (.istore_n 3, 1) := bX0_sortUp_0.2.2.2.2.1
theorem dX0_sortUp_7 : decode cX0_sortUp 7 = .ok (.iconst 1, 1) := bX0_sortUp_0.2.2.2.2.2.1
theorem dX0_sortUp_8 : decode cX0_sortUp 8 = .ok (.istore 4, 2) := bX0_sortUp_0.2.2.2.2.2.2.1
theorem dX0_sortUp_10 : decode cX0_sortUp 10 = .ok (.iload 4, 2) := bX0_sortUp_0.2.2.2.2.2.2.2.1
theorem dX0_sortUp_12 : decode cX0_sortUp 12 = .ok (.aload_n 2, 1) := bX0_sortUp_0.2.2.2.2.2.2.2.2.1
theorem dX0_sortUp_13 : decode cX0_sortUp 13 = .ok (.getfield 31, 3) := bX0_sortUp_0.2.2.2.2.2.2.2.2.2.1
theorem dX0_sortUp_16 : decode cX0_sortUp 16 = .ok (.if_icmp .ge 30, 3) := bX0_sortUp_0.2.2.2.2.2.2.2.2.2.2.1
theorem dX0_sortUp_19 : decode cX0_sortUp 19 = .ok (.iload_n 3, 1) := bX0_sortUp_0.2.2.2.2.2.2.2.2.2.2.2.1
theorem dX0_sortUp_20 : decode cX0_sortUp 20 = .ok (.aload_n 0, 1) := bX0_sortUp_0.2.2.2.2.2.2.2.2.2.2.2.2.1
theorem dX0_sortUp_21 : decode cX0_sortUp 21 = .ok (.aload_n 2, 1) := bX0_sortUp_0.2.2.2.2.2.2.2.2.2.2.2.2.2.1
theorem dX0_sortUp_22 : decode cX0_sortUp 22 = .ok (.iload 4, 2) := bX0_sortUp_0.2.2.2.2.2.2.2.2.2.2.2.2.2.2.1
theorem dX0_sortUp_24 : decode cX0_sortUp 24 = .ok (.invokevirtual 35, 3) := bX0_sortUp_0.2.2.2.2.2.2.2.2.2.2.2.2.2.2.2
set_option maxRecDepth 100000 in
theorem bX0_sortUp_27 : (decode cX0_sortUp 27 = .ok (.iadd, 1)) ∧ (decode cX0_sortUp 28 = .ok (.istore_n 3, 1)) ∧ (decode cX0_sortUp 29 = .ok (.aload_n 2, 1)) ∧ (decode cX0_sortUp 30 = .ok (.aload_n 0, 1)) ∧ (decode cX0_sortUp 31 = .ok (.getfield 24, 3)) ∧ (decode cX0_sortUp 34 = .ok (.invokevirtual 27, 3)) ∧ (decode cX0_sortUp 37 = .ok (.iload 4, 2)) ∧ (decode cX0_sortUp 39 = .ok (.iconst 2, 1)) ∧ (decode cX0_sortUp 40 = .ok (.imul, 1)) ∧ (decode cX0_sortUp 41 = .ok (.istore 4, 2)) ∧ (decode cX0_sortUp 43 = .ok (.goto (-33), 3)) ∧ (decode cX0_sortUp 46 = .ok (.iload_n 3, 1)) ∧ (decode cX0_sortUp 47 = .ok (.ireturn, 1)) := by decide +kernel
theorem dX0_sortUp_27 : decode cX0_sortUp 27 = .ok (.iadd, 1) := bX0_sortUp_27.1
theorem dX0_sortUp_28 : decode cX0_sortUp 28 = .ok (.istore_n 3, 1) := bX0_sortUp_27.2.1
theorem dX0_sortUp_29 : decode cX0_sortUp 29 = .ok (.aload_n 2, 1) := bX0_sortUp_27.2.2.1
theorem dX0_sortUp_30 : decode cX0_sortUp 30 = .ok (.aload_n 0, 1) := bX0_sortUp_27.2.2.2.1
theorem dX0_sortUp_31 : decode cX0_sortUp 31 = .ok (.getfield 24, 3) := bX0_sortUp_27.2.2.2.2.1
theorem dX0_sortUp_34 : decode cX0_sortUp 34 = .ok (.invokevirtual 27, 3) := bX0_sortUp_27.2.2.2.2.2.1
theorem dX0_sortUp_37 : decode cX0_sortUp 37 = .ok (.iload 4, 2) := bX0_sortUp_27.2.2.2.2.2.2.1
theorem dX0_sortUp_39 : decode cX0_sortUp 39 = .ok (.iconst 2, 1) := bX0_sortUp_27.2.2.2.2.2.2.2.1
theorem dX0_sortUp_40 : decode cX0_sortUp 40 = .ok (.imul, 1) := bX0_sortUp_27.2.2.2.2.2.2.2.2.1
theorem dX0_sortUp_41 : decode cX0_sortUp 41 = .ok (.istore 4, 2) := bX0_sortUp_27.2.2.2.2.2.2.2.2.2.1
theorem dX0_sortUp_43 : decode cX0_sortUp 43 = .ok (.goto (-33), 3) := bX0_sortUp_27.2.2.2.2.2.2.2.2.2.2.1
theorem dX0_sortUp_46 : decode cX0_sortUp 46 = .ok (.iload_n 3, 1) := bX0_sortUp_27.2.2.2.2.2.2.2.2.2.2.2.1
theorem dX0_sortUp_47 : decode cX0_sortUp 47 = .ok (.ireturn, 1) := bX0_sortUp_27.2.2.2.2.2.2.2.2.2.2.2.2
set_option maxRecDepth 100000 in
theorem bX0_weaveJoined_0 : (decode cX0_weaveJoined 0 = .ok (.aload_n 0, 1)) ∧ (decode cX0_weaveJoined 1 = .ok (.getfield 21, 3)) ∧ (decode cX0_weaveJoined 4 = .ok (.invokevirtual 39, 3)) ∧ (decode cX0_weaveJoined 7 = .ok (.aload_n 0, 1)) ∧ (decode cX0_weaveJoined 8 = .ok (.getfield 18, 3)) ∧ (decode cX0_weaveJoined 11 = .ok (.iconst 0, 1)) ∧ (decode cX0_weaveJoined 12 = .ok (.iload_n 1, 1)) ∧ (decode cX0_weaveJoined 13 = .ok (.aload_n 0, 1)) ∧ (decode cX0_weaveJoined 14 = .ok (.getfield 18, 3)) ∧ (decode cX0_weaveJoined 17 = .ok (.getfield 31, 3)) ∧ (decode cX0_weaveJoined 20 = .ok (.aload_n 0, 1)) ∧ (decode cX0_weaveJoined 21 = .ok (.getfield 21, 3)) ∧ (decode cX0_weaveJoined 24 = .ok (.invokestatic 42, 3)) ∧ (decode cX0_weaveJoined 27 = .ok (.pop, 1)) ∧ (decode cX0_weaveJoined 28 = .ok (.return_, 1)) := by decide +kernel
theorem dX0_weaveJoined_0 : decode cX0_weaveJoined 0 = .ok (.aload_n 0, 1) := bX0_weaveJoined_0.1
theorem dX0_weaveJoined_1 : decode cX0_weaveJoined 1 = .ok (.getfield 21, 3) := bX0_weaveJoined_0.2.1
theorem dX0_weaveJoined_4 : decode cX0_weaveJoined 4 = .ok (.invokevirtual 39, 3) := bX0_weaveJoined_0.2.2.1
theorem dX0_weaveJoined_7 : decode cX0_weaveJoined 7 = .ok (.aload_n 0, 1) := bX0_weaveJoined_0.2.2.2.1
theorem dX0_weaveJoined_8 : decode cX0_weaveJoined 8 = .ok (.getfield 18, 3) := bX0_weaveJoined_0.2.2.2.2.1
theorem dX0_weaveJoined_11 : decode cX0_weaveJoined 11 = .ok (.iconst 0, 1) := bX0_weaveJoined_0.2.2.2.2.2.1
theorem dX0_weaveJoined_12 : decode cX0_weaveJoined 12 = .ok (.iload_n 1, 1) := bX0_weaveJoined_0.2.2.2.2.2.2.1
theorem dX0_weaveJoined_13 : decode cX0_weaveJoined 13 = .ok (.aload_n 0, 1) := bX0_weaveJoined_0.2.2.2.2.2.2.2.1
theorem dX0_weaveJoined_14 : decode cX0_weaveJoined 14 = .ok (.getfield 18, 3) := bX0_weaveJoined_0.2.2.2.2.2.2.2.2.1
theorem dX0_weaveJoined_17 : decode cX0_weaveJoined 17 = .ok (.getfield 31, 3) := bX0_weaveJoined_0.2.2.2.2.2.2.2.2.2.1
theorem dX0_weaveJoined_20 : decode cX0_weaveJoined 20 = .ok (.aload_n 0, 1) := bX0_weaveJoined_0.2.2.2.2.2.2.2.2.2.2.1
theorem dX0_weaveJoined_21 : decode cX0_weaveJoined 21 = .ok (.getfield 21, 3) := bX0_weaveJoined_0.2.2.2.2.2.2.2.2.2.2.2.1
theorem dX0_weaveJoined_24 : decode cX0_weaveJoined 24 = .ok (.invokestatic 42, 3) := bX0_weaveJoined_0.2.2.2.2.2.2.2.2.2.2.2.2.1
theorem dX0_weaveJoined_27 : decode cX0_weaveJoined 27 = .ok (.pop, 1) := bX0_weaveJoined_0.2.2.2.2.2.2.2.2.2.2.2.2.2.1
theorem dX0_weaveJoined_28 : decode cX0_weaveJoined 28 = .ok (.return_, 1) := bX0_weaveJoined_0.2.2.2.2.2.2.2.2.2.2.2.2.2.2
set_option maxRecDepth 100000 in
theorem bX0_mergeNeighbours_0 : (decode cX0_mergeNeighbours 0 = .ok (.iconst 0, 1)) ∧ (decode cX0_mergeNeighbours 1 = .ok (.istore_n 3, 1)) ∧ (decode cX0_mergeNeighbours 2 = .ok (.aload_n 0, 1)) ∧ (decode cX0_mergeNeighbours 3 = .ok (.getfield 24, 3)) ∧ (decode cX0_mergeNeighbours 6 = .ok (.invokevirtual 39, 3)) ∧ (decode cX0_mergeNeighbours 9 = .ok (.iconst 0, 1)) ∧ (decode cX0_mergeNeighbours 10 = .ok (.istore 4, 2)) ∧ (decode cX0_mergeNeighbours 12 = .ok (.iload 4, 2)) ∧ (decode cX0_mergeNeighbours 14 = .ok (.aload_n 1, 1)) ∧ (decode cX0_mergeNeighbours 15 = .ok (.getfield 31, 3)) ∧ (decode cX0_mergeNeighbours 18 = .ok (.if_icmp .ge 59, 3)) ∧ (decode cX0_mergeNeighbours 21 = .ok (.iload 4, 2)) ∧ (decode cX0_mergeNeighbours 23 = .ok (.iload_n 2, 1)) ∧ (decode cX0_mergeNeighbours 24 = .ok (.iadd, 1)) ∧ (decode cX0_mergeNeighbours 25 = .ok (.aload_n 1, 1)) ∧ (decode cX0_mergeNeighbours 26 = .ok (.getfield 31, 3)) := by decide +kernel
theorem dX0_mergeNeighbours_0 : decode cX0_mergeNeighbours 0 = .ok (.iconst 0, 1) := bX0_mergeNeighbours_0.1
theorem dX0_mergeNeighbours_1 : decode cX0_mergeNeighbours 1 = .ok (.istore_n 3, 1) := bX0_mergeNeighbours_0.2.1
theorem dX0_mergeNeighbours_2 : decode cX0_mergeNeighbours 2 = .ok (.aload_n 0, 1) := bX0_mergeNeighbours_0.2.2.1
theorem dX0_mergeNeighbours_3 : decode cX0_mergeNeighbours 3 = .ok (.getfield 24, 3) := bX0_mergeNeighbours_0.2.2.2.1
theorem dX0_mergeNeighbours_6 : decode cX0_mergeNeighbours 6 = .ok (.invokevirtual 39, 3) := bX0_mergeNeighbours_0.2.2.2.2.1
theorem dX0_mergeNeighbours_9 : decode cX0_mergeNeighbours 9 = .ok (.iconst 0, 1) := bX0_mergeNeighbours_0.2.2.2.2.2.1
theorem dX0_mergeNeighbours_10 : decode cX0_mergeNeighbours 10 = .ok (.istore 4, 2) := bX0_mergeNeighbours_0.2.2.2.2.2.2.1
theorem dX0_mergeNeighbours_12 : decode cX0_mergeNeighbours 12 = .ok (.iload 4, 2) := bX0_mergeNeighbours_0.2.2.2.2.2.2.2.1
theorem dX0_mergeNeighbours_14 : decode cX0_mergeNeighbours 14 = .ok (.aload_n 1, 1) := bX0_mergeNeighbours_0.2.2.2.2.2.2.2.2.1
theorem dX0_mergeNeighbours_15 : decode cX0_mergeNeighbours 15 = .ok (.getfield 31, 3) := bX0_mergeNeighbours_0.2.2.2.2.2.2.2.2.2.1
theorem dX0_mergeNeighbours_18 : decode cX0_mergeNeighbours 18 = .ok (.if_icmp .ge 59, 3) := bX0_mergeNeighbours_0.2.2.2.2.2.2.2.2.2.2.1
theorem dX0_mergeNeighbours_21 : decode cX0_mergeNeighbours 21 = .ok (.iload 4, 2) := bX0_mergeNeighbours_0.2.2.2.2.2.2.2.2.2.2.2.1
theorem dX0_mergeNeighbours_23 : decode cX0_mergeNeighbours 23 = .ok (.iload_n 2, 1) := bX0_mergeNeighbours_0.2.2.2.2.2.2.2.2.2.2.2.2.1
theorem dX0_mergeNeighbours_24 : decode cX0_mergeNeighbours 24 = .ok (.iadd, 1) := bX0_mergeNeighbours_0.2.2.2.2.2.2.2.2.2.2.2.2.2.1
theorem dX0_mergeNeighbours_25 : decode cX0_mergeNeighbours 25 = .ok (.aload_n 1, 1) := bX0_mergeNeighbours_0.2.2.2.2.2.2.2.2.2.2.2.2.2.2.1
theorem dX0_mergeNeighbours_26 : decode cX0_mergeNeighbours 26 = .ok (.getfield 31, 3) := bX0_mergeNeighbours_0.2.2.2.2.2.2.2.2.2.2.2.2.2.2.2
set_option maxRecDepth 100000 in
theorem bX0_mergeNeighbours_29 : (decode cX0_mergeNeighbours 29 = .ok (.invokestatic 46, 3)) ∧ (decode cX0_mergeNeighbours 32 = .ok (.istore 5, 2)) ∧ (decode cX0_mergeNeighbours 34 = .ok (.iload 4, 2)) ∧ (decode cX0_mergeNeighbours 36 = .ok (.iconst 2, 1)) ∧ (decode cX0_mergeNeighbours 37 = .ok (.iload_n 2, 1)) ∧ (decode cX0_mergeNeighbours 38 = .ok (.imul, 1)) ∧ (decode cX0_mergeNeighbours 39 = .ok (.iadd, 1)) ∧ (decode cX0_mergeNeighbours 40 = .ok (.aload_n 1, 1)) ∧ (decode cX0_mergeNeighbours 41 = .ok (.getfield 31, 3)) ∧ (decode cX0_mergeNeighbours 44 = .ok (.invokestatic 46, 3)) ∧ (decode cX0_mergeNeighbours 47 = .ok (.istore 6, 2)) ∧ (decode cX0_mergeNeighbours 49 = .ok (.iload_n 3, 1)) ∧ (decode cX0_mergeNeighbours 50 = .ok (.aload_n 1, 1)) ∧ (decode cX0_mergeNeighbours 51 = .ok (.iload 4, 2)) ∧ (decode cX0_mergeNeighbours 53 = .ok (.iload 5, 2)) ∧ (decode cX0_mergeNeighbours 55 = .ok (.iload 6, 2)) := by decide +kernel
theorem dX0_mergeNeighbours_29 : decode cX0_mergeNeighbours 29 = .ok (.invokestatic 46, 3) := bX0_mergeNeighbours_29.1
theorem dX0_mergeNeighbours_32 : decode cX0_mergeNeighbours 32 = .ok (.istore 5, 2) := bX0_mergeNeighbours_29.2.1
theorem dX0_mergeNeighbours_34 : decode cX0_mergeNeighbours 34 = .ok (.iload 4, 2) := bX0_mergeNeighbours_29.2.2.1
theorem dX0_mergeNeighbours_36 : decode cX0_mergeNeighbours 36 = .ok (.iconst 2, 1) := bX0_mergeNeighbours_29.2.2.2.1
theorem dX0_mergeNeighbours_37 : decode cX0_mergeNeighbours 37 = .ok (.iload_n 2, 1) := bX0_mergeNeighbours_29.2.2.2.2.1
theorem dX0_mergeNeighbours_38 : decode cX0_mergeNeighbours 38 = .ok (.imul, 1) := bX0_mergeNeighbours_29.2.2.2.2.2.1
theorem dX0_mergeNeighbours_39 : decode cX0_mergeNeighbours 39 = .ok (.iadd, 1) := bX0_mergeNeighbours_29.2.2.2.2.2.2.1
theorem dX0_mergeNeighbours_40 : decode cX0_mergeNeighbours 40 = .ok (.aload_n 1, 1) := bX0_mergeNeighbours_29.2.2.2.2.2.2.2.1
theorem dX0_mergeNeighbours_41 : decode cX0_mergeNeighbours 41 = .ok (.getfield 31, 3) := bX0_mergeNeighbours_29.2.2.2.2.2.2.2.2.1
theorem dX0_mergeNeighbours_44 : decode cX0_mergeNeighbours 44 = .ok (.invokestatic 46, 3) := bX0_mergeNeighbours_29.2.2.2.2.2.2.2.2.2.1
theorem dX0_mergeNeighbours_47 : decode cX0_mergeNeighbours 47 = .ok (.istore 6, 2) := bX0_mergeNeighbours_29.2.2.2.2.2.2.2.2.2.2.1
theorem dX0_mergeNeighbours_49 : decode cX0_mergeNeighbours 49 = .ok (.iload_n 3, 1) := bX0_mergeNeighbours_29.2.2.2.2.2.2.2.2.2.2.2.1
theorem dX0_mergeNeighbours_50 : decode cX0_mergeNeighbours 50 = .ok (.aload_n 1, 1) := bX0_mergeNeighbours_29.2.2.2.2.2.2.2.2.2.2.2.2.1
theorem dX0_mergeNeighbours_51 : decode cX0_mergeNeighbours 51 = .ok (.iload 4, 2) := bX0_mergeNeighbours_29.2.2.2.2.2.2.2.2.2.2.2.2.2.1
theorem dX0_mergeNeighbours_53 : decode cX0_mergeNeighbours 53 = .ok (.iload 5, 2) := bX0_mergeNeighbours_29.2.2.2.2.2.2.2.2.2.2.2.2.2.2.1
theorem dX0_mergeNeighbours_55 : decode cX0_mergeNeighbours 55 = .ok (.iload 6, 2) := bX0_mergeNeighbours_29.2.2.2.2.2.2.2.2.2.2.2.2.2.2.2
set_option maxRecDepth 100000 in
theorem bX0_mergeNeighbours_57 : (decode cX0_mergeNeighbours 57 = .ok (.aload_n 0, 1)) ∧ (decode cX0_mergeNeighbours 58 = .ok (.getfield 24, 3)) ∧ (decode cX0_mergeNeighbours 61 = .ok (.invokestatic 42, 3)) ∧ (decode cX0_mergeNeighbours 64 = .ok (.iadd, 1)) ∧ (decode cX0_mergeNeighbours 65 = .ok (.istore_n 3, 1)) ∧ (decode cX0_mergeNeighbours 66 = .ok (.iload 4, 2)) ∧ (decode cX0_mergeNeighbours 68 = .ok (.iconst 2, 1)) ∧ (decode cX0_mergeNeighbours 69 = .ok (.iload_n 2, 1)) ∧ (decode cX0_mergeNeighbours 70 = .ok (.imul, 1)) ∧ (decode cX0_mergeNeighbours 71 = .ok (.iadd, 1)) ∧ (decode cX0_mergeNeighbours 72 = .ok (.istore 4, 2)) ∧ (decode cX0_mergeNeighbours 74 = .ok (.goto (-62), 3)) ∧ (decode cX0_mergeNeighbours 77 = .ok (.iload_n 3, 1)) ∧ (decode cX0_mergeNeighbours 78 = .ok (.ireturn, 1)) := by decide +kernel
theorem dX0_mergeNeighbours_57 : decode cX0_mergeNeighbours 57 = .ok (.aload_n 0, 1) := bX0_mergeNeighbours_57.1
theorem dX0_mergeNeighbours_58 : decode cX0_mergeNeighbours 58 = .ok (.getfield 24, 3) := bX0_mergeNeighbours_57.2.1
theorem dX0_mergeNeighbours_61 : decode cX0_mergeNeighbours 61 = .ok (.invokestatic 42, 3) := bX0_mergeNeighbours_57.2.2.1
theorem dX0_mergeNeighbours_64 : decode cX0_mergeNeighbours 64 = .ok (.iadd, 1) := bX0_mergeNeighbours_57.2.2.2.1
theorem dX0_mergeNeighbours_65 : decode cX0_mergeNeighbours 65 = .ok (.istore_n 3, 1) := bX0_mergeNeighbours_57.2.2.2.2.1
theorem dX0_mergeNeighbours_66 : decode cX0_mergeNeighbours 66 = .ok (.iload 4, 2) := bX0_mergeNeighbours_57.2.2.2.2.2.1
theorem dX0_mergeNeighbours_68 : decode cX0_mergeNeighbours 68 = .ok (.iconst 2, 1) := bX0_mergeNeighbours_57.2.2.2.2.2.2.1
theorem dX0_mergeNeighbours_69 : decode cX0_mergeNeighbours 69 = .ok (.iload_n 2, 1) := bX0_mergeNeighbours_57.2.2.2.2.2.2.2.1
theorem dX0_mergeNeighbours_70 : decode cX0_mergeNeighbours 70 = .ok (.imul, 1) := bX0_mergeNeighbours_57.2.2.2.2.2.2.2.2.1
theorem dX0_mergeNeighbours_71 : decode cX0_mergeNeighbours 71 = .ok (.iadd, 1) := bX0_mergeNeighbours_57.2.2.2.2.2.2.2.2.2.1
theorem dX0_mergeNeighbours_72 : decode cX0_mergeNeighbours 72 = .ok (.istore 4, 2) := bX0_mergeNeighbours_57.2.2.2.2.2.2.2.2.2.2.1
theorem dX0_mergeNeighbours_74 : decode cX0_mergeNeighbours 74 = .ok (.goto (-62), 3) := bX0_mergeNeighbours_57.2.2.2.2.2.2.2.2.2.2.2.1
theorem dX0_mergeNeighbours_77 : decode cX0_mergeNeighbours 77 = .ok (.iload_n 3, 1) := bX0_mergeNeighbours_57.2.2.2.2.2.2.2.2.2.2.2.2.1
theorem dX0_mergeNeighbours_78 : decode cX0_mergeNeighbours 78 = .ok (.ireturn, 1) := bX0_mergeNeighbours_57.2.2.2.2.2.2.2.2.2.2.2.2.2
set_option maxRecDepth 100000 in
theorem bX0_mergeSpans_0 : (decode cX0_mergeSpans 0 = .ok (.iconst 0, 1)) ∧ (decode cX0_mergeSpans 1 = .ok (.istore 5, 2)) ∧ (decode cX0_mergeSpans 3 = .ok (.iload_n 1, 1)) ∧ (decode cX0_mergeSpans 4 = .ok (.istore 6, 2)) ∧ (decode cX0_mergeSpans 6 = .ok (.iload_n 2, 1)) ∧ (decode cX0_mergeSpans 7 = .ok (.istore 7, 2)) ∧ (decode cX0_mergeSpans 9 = .ok (.iload 6, 2)) ∧ (decode cX0_mergeSpans 11 = .ok (.iload_n 2, 1)) ∧ (decode cX0_mergeSpans 12 = .ok (.if_icmp .ge 85, 3)) ∧ (decode cX0_mergeSpans 15 = .ok (.iload 7, 2)) ∧ (decode cX0_mergeSpans 17 = .ok (.iload_n 3, 1)) ∧ (decode cX0_mergeSpans 18 = .ok (.if_icmp .ge 79, 3)) ∧ (decode cX0_mergeSpans 21 = .ok (.aload_n 0, 1)) ∧ (decode cX0_mergeSpans 22 = .ok (.getfield 52, 3)) ∧ (decode cX0_mergeSpans 25 = .ok (.iload 6, 2)) ∧ (decode cX0_mergeSpans 27 = .ok (.iaload, 1)) := by decide +kernel
theorem dX0_mergeSpans_0 : decode cX0_mergeSpans 0 = .ok (.iconst 0, 1) := bX0_mergeSpans_0.1
theorem dX0_mergeSpans_1 : decode cX0_mergeSpans 1 = .ok (.istore 5, 2) := bX0_mergeSpans_0.2.1
theorem dX0_mergeSpans_3 : decode cX0_mergeSpans 3 = .ok (.iload_n 1, 1) := bX0_mergeSpans_0.2.2.1
theorem dX0_mergeSpans_4 : decode cX0_mergeSpans 4 = .ok (.istore 6, 2) := bX0_mergeSpans_0.2.2.2.1
theorem dX0_mergeSpans_6 : decode cX0_mergeSpans 6 = .ok (.iload_n 2, 1) := bX0_mergeSpans_0.2.2.2.2.1
theorem dX0_mergeSpans_7 : decode cX0_mergeSpans 7 = .ok (.istore 7, 2) := bX0_mergeSpans_0.2.2.2.2.2.1
theorem dX0_mergeSpans_9 : decode cX0_mergeSpans 9 = .ok (.iload 6, 2) := bX0_mergeSpans_0.2.2.2.2.2.2.1
theorem dX0_mergeSpans_11 : decode cX0_mergeSpans 11 = .ok (.iload_n 2, 1) := bX0_mergeSpans_0.2.2.2.2.2.2.2.1
theorem dX0_mergeSpans_12 : decode cX0_mergeSpans 12 = .ok (.if_icmp .ge 85, 3) := bX0_mergeSpans_0.2.2.2.2.2.2.2.2.1
theorem dX0_mergeSpans_15 : decode cX0_mergeSpans 15 = .ok (.iload 7, 2) := bX0_mergeSpans_0.2.2.2.2.2.2.2.2.2.1
theorem dX0_mergeSpans_17 : decode cX0_mergeSpans 17 = .ok (.iload_n 3, 1) := bX0_mergeSpans_0.2.2.2.2.2.2.2.2.2.2.1
theorem dX0_mergeSpans_18 : decode cX0_mergeSpans 18 = .ok (.if_icmp .ge 79, 3) := bX0_mergeSpans_0.2.2.2.2.2.2.2.2.2.2.2.1
theorem dX0_mergeSpans_21 : decode cX0_mergeSpans 21 = .ok (.aload_n 0, 1) := bX0_mergeSpans_0.2.2.2.2.2.2.2.2.2.2.2.2.1
theorem dX0_mergeSpans_22 : decode cX0_mergeSpans 22 = .ok (.getfield 52, 3) := bX0_mergeSpans_0.2.2.2.2.2.2.2.2.2.2.2.2.2.1
theorem dX0_mergeSpans_25 : decode cX0_mergeSpans 25 = .ok (.iload 6, 2) := bX0_mergeSpans_0.2.2.2.2.2.2.2.2.2.2.2.2.2.2.1
theorem dX0_mergeSpans_27 : decode cX0_mergeSpans 27 = .ok (.iaload, 1) := bX0_mergeSpans_0.2.2.2.2.2.2.2.2.2.2.2.2.2.2.2
set_option maxRecDepth 100000 in
theorem bX0_mergeSpans_28 : (decode cX0_mergeSpans 28 = .ok (.aload_n 0, 1)) ∧ (decode cX0_mergeSpans 29 = .ok (.getfield 52, 3)) ∧ (decode cX0_mergeSpans 32 = .ok (.iload 7, 2)) ∧ (decode cX0_mergeSpans 34 = .ok (.iaload, 1)) ∧ (decode cX0_mergeSpans 35 = .ok (.if_icmp .gt 28, 3)) ∧ (decode cX0_mergeSpans 38 = .ok (.aload 4, 2)) ∧ (decode cX0_mergeSpans 40 = .ok (.aload_n 0, 1)) ∧ (decode cX0_mergeSpans 41 = .ok (.getfield 52, 3)) ∧ (decode cX0_mergeSpans 44 = .ok (.iload 6, 2)) ∧ (decode cX0_mergeSpans 46 = .ok (.iaload, 1)) ∧ (decode cX0_mergeSpans 47 = .ok (.aload_n 0, 1)) ∧ (decode cX0_mergeSpans 48 = .ok (.getfield 56, 3)) ∧ (decode cX0_mergeSpans 51 = .ok (.iload 6, 2)) ∧ (decode cX0_mergeSpans 53 = .ok (.iaload, 1)) ∧ (decode cX0_mergeSpans 54 = .ok (.invokevirtual 59, 3)) ∧ (decode cX0_mergeSpans 57 = .ok (.iinc 6 1, 3)) := by decide +kernel
theorem dX0_mergeSpans_28 : decode cX0_mergeSpans 28 = .ok (.aload_n 0, 1) := bX0_mergeSpans_28.1
theorem dX0_mergeSpans_29 : decode cX0_mergeSpans 29 = .ok (.getfield 52, 3) := bX0_mergeSpans_28.2.1
theorem dX0_mergeSpans_32 : decode cX0_mergeSpans 32 = .ok (.iload 7, 2) := bX0_mergeSpans_28.2.2.1
theorem dX0_mergeSpans_34 : decode cX0_mergeSpans 34 = .ok (.iaload, 1) := bX0_mergeSpans_28.2.2.2.1
theorem dX0_mergeSpans_35 : decode cX0_mergeSpans 35 = .ok (.if_icmp .gt 28, 3) := bX0_mergeSpans_28.2.2.2.2.1
theorem dX0_mergeSpans_38 : decode cX0_mergeSpans 38 = .ok (.aload 4, 2) := bX0_mergeSpans_28.2.2.2.2.2.1
theorem dX0_mergeSpans_40 : decode cX0_mergeSpans 40 = .ok (.aload_n 0, 1) := bX0_mergeSpans_28.2.2.2.2.2.2.1
theorem dX0_mergeSpans_41 : decode cX0_mergeSpans 41 = .ok (.getfield 52, 3) := bX0_mergeSpans_28.2.2.2.2.2.2.2.1
theorem dX0_mergeSpans_44 : decode cX0_mergeSpans 44 = .ok (.iload 6, 2) := bX0_mergeSpans_28.2.2.2.2.2.2.2.2.1
theorem dX0_mergeSpans_46 : decode cX0_mergeSpans 46 = .ok (.iaload, 1) := bX0_mergeSpans_28.2.2.2.2.2.2.2.2.2.1
theorem dX0_mergeSpans_47 : decode cX0_mergeSpans 47 = .ok (.aload_n 0, 1) := bX0_mergeSpans_28.2.2.2.2.2.2.2.2.2.2.1
theorem dX0_mergeSpans_48 : decode cX0_mergeSpans 48 = .ok (.getfield 56, 3) := bX0_mergeSpans_28.2.2.2.2.2.2.2.2.2.2.2.1
theorem dX0_mergeSpans_51 : decode cX0_mergeSpans 51 = .ok (.iload 6, 2) := bX0_mergeSpans_28.2.2.2.2.2.2.2.2.2.2.2.2.1
theorem dX0_mergeSpans_53 : decode cX0_mergeSpans 53 = .ok (.iaload, 1) := bX0_mergeSpans_28.2.2.2.2.2.2.2.2.2.2.2.2.2.1
theorem dX0_mergeSpans_54 : decode cX0_mergeSpans 54 = .ok (.invokevirtual 59, 3) := bX0_mergeSpans_28.2.2.2.2.2.2.2.2.2.2.2.2.2.2.1
theorem dX0_mergeSpans_57 : decode cX0_mergeSpans 57 = .ok (.iinc 6 1, 3) := bX0_mergeSpans_28.2.2.2.2.2.2.2.2.2.2.2.2.2.2.2
set_option maxRecDepth 100000 in
theorem bX0_mergeSpans_60 : (decode cX0_mergeSpans 60 = .ok (.goto (-51), 3)) ∧ (decode cX0_mergeSpans 63 = .ok (.iload 5, 2)) ∧ (decode cX0_mergeSpans 65 = .ok (.iload_n 2, 1)) ∧ (decode cX0_mergeSpans 66 = .ok (.iload 6, 2)) ∧ (decode cX0_mergeSpans 68 = .ok (.isub, 1)) ∧ (decode cX0_mergeSpans 69 = .ok (.iadd, 1)) ∧ (decode cX0_mergeSpans 70 = .ok (.istore 5, 2)) ∧ (decode cX0_mergeSpans 72 = .ok (.aload 4, 2)) ∧ (decode cX0_mergeSpans 74 = .ok (.aload_n 0, 1)) ∧ (decode cX0_mergeSpans 75 = .ok (.getfield 52, 3)) ∧ (decode cX0_mergeSpans 78 = .ok (.iload 7, 2)) ∧ (decode cX0_mergeSpans 80 = .ok (.iaload, 1)) ∧ (decode cX0_mergeSpans 81 = .ok (.aload_n 0, 1)) ∧ (decode cX0_mergeSpans 82 = .ok (.getfield 56, 3)) ∧ (decode cX0_mergeSpans 85 = .ok (.iload 7, 2)) ∧ (decode cX0_mergeSpans 87 = .ok (.iaload, 1)) := by decide +kernel
theorem dX0_mergeSpans_60 : decode cX0_mergeSpans 60 = .ok (.goto (-51), 3) := bX0_mergeSpans_60.1
theorem dX0_mergeSpans_63 : decode cX0_mergeSpans 63 = .ok (.iload 5, 2) := bX0_mergeSpans_60.2.1
theorem dX0_mergeSpans_65 : decode cX0_mergeSpans 65 = .ok (.iload_n 2, 1) := bX0_mergeSpans_60.2.2.1
theorem dX0_mergeSpans_66 : decode cX0_mergeSpans 66 = .ok (.iload 6, 2) := bX0_mergeSpans_60.2.2.2.1
theorem dX0_mergeSpans_68 : decode cX0_mergeSpans 68 = .ok (.isub, 1) := bX0_mergeSpans_60.2.2.2.2.1
theorem dX0_mergeSpans_69 : decode cX0_mergeSpans 69 = .ok (.iadd, 1) := bX0_mergeSpans_60.2.2.2.2.2.1
theorem dX0_mergeSpans_70 : decode cX0_mergeSpans 70 = .ok (.istore 5, 2) := bX0_mergeSpans_60.2.2.2.2.2.2.1
theorem dX0_mergeSpans_72 : decode cX0_mergeSpans 72 = .ok (.aload 4, 2) := bX0_mergeSpans_60.2.2.2.2.2.2.2.1
theorem dX0_mergeSpans_74 : decode cX0_mergeSpans 74 = .ok (.aload_n 0, 1) := bX0_mergeSpans_60.2.2.2.2.2.2.2.2.1
theorem dX0_mergeSpans_75 : decode cX0_mergeSpans 75 = .ok (.getfield 52, 3) := bX0_mergeSpans_60.2.2.2.2.2.2.2.2.2.1
theorem dX0_mergeSpans_78 : decode cX0_mergeSpans 78 = .ok (.iload 7, 2) := bX0_mergeSpans_60.2.2.2.2.2.2.2.2.2.2.1
theorem dX0_mergeSpans_80 : decode cX0_mergeSpans 80 = .ok (.iaload, 1) := bX0_mergeSpans_60.2.2.2.2.2.2.2.2.2.2.2.1
theorem dX0_mergeSpans_81 : decode cX0_mergeSpans 81 = .ok (.aload_n 0, 1) := bX0_mergeSpans_60.2.2.2.2.2.2.2.2.2.2.2.2.1
theorem dX0_mergeSpans_82 : decode cX0_mergeSpans 82 = .ok (.getfield 56, 3) := bX0_mergeSpans_60.2.2.2.2.2.2.2.2.2.2.2.2.2.1
theorem dX0_mergeSpans_85 : decode cX0_mergeSpans 85 = .ok (.iload 7, 2) := bX0_mergeSpans_60.2.2.2.2.2.2.2.2.2.2.2.2.2.2.1
theorem dX0_mergeSpans_87 : decode cX0_mergeSpans 87 = .ok (.iaload, 1) := bX0_mergeSpans_60.2.2.2.2.2.2.2.2.2.2.2.2.2.2.2
set_option maxRecDepth 100000 in
theorem bX0_mergeSpans_88 : (decode cX0_mergeSpans 88 = .ok (.invokevirtual 59, 3)) ∧ (decode cX0_mergeSpans 91 = .ok (.iinc 7 1, 3)) ∧ (decode cX0_mergeSpans 94 = .ok (.goto (-85), 3)) ∧ (decode cX0_mergeSpans 97 = .ok (.aload 4, 2)) ∧ (decode cX0_mergeSpans 99 = .ok (.aload_n 0, 1)) ∧ (decode cX0_mergeSpans 100 = .ok (.iload 6, 2)) ∧ (decode cX0_mergeSpans 102 = .ok (.iload_n 2, 1)) ∧ (decode cX0_mergeSpans 103 = .ok (.invokevirtual 63, 3)) ∧ (decode cX0_mergeSpans 106 = .ok (.aload 4, 2)) ∧ (decode cX0_mergeSpans 108 = .ok (.aload_n 0, 1)) ∧ (decode cX0_mergeSpans 109 = .ok (.iload 7, 2)) ∧ (decode cX0_mergeSpans 111 = .ok (.iload_n 3, 1)) ∧ (decode cX0_mergeSpans 112 = .ok (.invokevirtual 63, 3)) ∧ (decode cX0_mergeSpans 115 = .ok (.iload 5, 2)) ∧ (decode cX0_mergeSpans 117 = .ok (.ireturn, 1)) := by decide +kernel
theorem dX0_mergeSpans_88 : decode cX0_mergeSpans 88 = .ok (.invokevirtual 59, 3) := bX0_mergeSpans_88.1
theorem dX0_mergeSpans_91 : decode cX0_mergeSpans 91 = .ok (.iinc 7 1, 3) := bX0_mergeSpans_88.2.1
theorem dX0_mergeSpans_94 : decode cX0_mergeSpans 94 = .ok (.goto (-85), 3) := bX0_mergeSpans_88.2.2.1
theorem dX0_mergeSpans_97 : decode cX0_mergeSpans 97 = .ok (.aload 4, 2) := bX0_mergeSpans_88.2.2.2.1
theorem dX0_mergeSpans_99 : decode cX0_mergeSpans 99 = .ok (.aload_n 0, 1) := bX0_mergeSpans_88.2.2.2.2.1
theorem dX0_mergeSpans_100 : decode cX0_mergeSpans 100 = .ok (.iload 6, 2) := bX0_mergeSpans_88.2.2.2.2.2.1
theorem dX0_mergeSpans_102 : decode cX0_mergeSpans 102 = .ok (.iload_n 2, 1) := bX0_mergeSpans_88.2.2.2.2.2.2.1
theorem dX0_mergeSpans_103 : decode cX0_mergeSpans 103 = .ok (.invokevirtual 63, 3) := bX0_mergeSpans_88.2.2.2.2.2.2.2.1
theorem dX0_mergeSpans_106 : decode cX0_mergeSpans 106 = .ok (.aload 4, 2) := bX0_mergeSpans_88.2.2.2.2.2.2.2.2.1
theorem dX0_mergeSpans_108 : decode cX0_mergeSpans 108 = .ok (.aload_n 0, 1) := bX0_mergeSpans_88.2.2.2.2.2.2.2.2.2.1
theorem dX0_mergeSpans_109 : decode cX0_mergeSpans 109 = .ok (.iload 7, 2) := bX0_mergeSpans_88.2.2.2.2.2.2.2.2.2.2.1
theorem dX0_mergeSpans_111 : decode cX0_mergeSpans 111 = .ok (.iload_n 3, 1) := bX0_mergeSpans_88.2.2.2.2.2.2.2.2.2.2.2.1
theorem dX0_mergeSpans_112 : decode cX0_mergeSpans 112 = .ok (.invokevirtual 63, 3) := bX0_mergeSpans_88.2.2.2.2.2.2.2.2.2.2.2.2.1
theorem dX0_mergeSpans_115 : decode cX0_mergeSpans 115 = .ok (.iload 5, 2) := bX0_mergeSpans_88.2.2.2.2.2.2.2.2.2.2.2.2.2.1
theorem dX0_mergeSpans_117 : decode cX0_mergeSpans 117 = .ok (.ireturn, 1) := bX0_mergeSpans_88.2.2.2.2.2.2.2.2.2.2.2.2.2.2
set_option maxRecDepth 100000 in
theorem bX1_init_0 : (decode cX1_init 0 = .ok (.aload_n 0, 1)) ∧ (decode cX1_init 1 = .ok (.invokespecial 3, 3)) ∧ (decode cX1_init 4 = .ok (.aload_n 0, 1)) ∧ (decode cX1_init 5 = .ok (.iload_n 1, 1)) ∧ (decode cX1_init 6 = .ok (.newarray .int, 2)) ∧ (decode cX1_init 8 = .ok (.putfield 9, 3)) ∧ (decode cX1_init 11 = .ok (.aload_n 0, 1)) ∧ (decode cX1_init 12 = .ok (.iload_n 1, 1)) ∧ (decode cX1_init 13 = .ok (.newarray .int, 2)) ∧ (decode cX1_init 15 = .ok (.putfield 15, 3)) ∧ (decode cX1_init 18 = .ok (.aload_n 0, 1)) ∧ (decode cX1_init 19 = .ok (.iload_n 2, 1)) ∧ (decode cX1_init 20 = .ok (.putfield 18, 3)) ∧ (decode cX1_init 23 = .ok (.return_, 1)) := by decide +kernel
theorem dX1_init_0 : decode cX1_init 0 = .ok (.aload_n 0, 1) := bX1_init_0.1
theorem dX1_init_1 : decode cX1_init 1 = .ok (.invokespecial 3, 3) := bX1_init_0.2.1
theorem dX1_init_4 : decode cX1_init 4 = .ok (.aload_n 0, 1) := bX1_init_0.2.2.1
theorem dX1_init_5 : decode cX1_init 5 = .ok (.iload_n 1, 1) := bX1_init_0.2.2.2.1
theorem dX1_init_6 : decode cX1_init 6 = .ok (.newarray .int, 2) := bX1_init_0.2.2.2.2.1
theorem dX1_init_8 : decode cX1_init 8 = .ok (.putfield 9, 3) := bX1_init_0.2.2.2.2.2.1
theorem dX1_init_11 : decode cX1_init 11 = .ok (.aload_n 0, 1) := bX1_init_0.2.2.2.2.2.2.1
theorem dX1_init_12 : decode cX1_init 12 = .ok (.iload_n 1, 1) := bX1_init_0.2.2.2.2.2.2.2.1
theorem dX1_init_13 : decode cX1_init 13 = .ok (.newarray .int, 2) := bX1_init_0.2.2.2.2.2.2.2.2.1
theorem dX1_init_15 : decode cX1_init 15 = .ok (.putfield 15, 3) := bX1_init_0.2.2.2.2.2.2.2.2.2.1
theorem dX1_init_18 : decode cX1_init 18 = .ok (.aload_n 0, 1) := bX1_init_0.2.2.2.2.2.2.2.2.2.2.1
theorem dX1_init_19 : decode cX1_init 19 = .ok (.iload_n 2, 1) := bX1_init_0.2.2.2.2.2.2.2.2.2.2.2.1
theorem dX1_init_20 : decode cX1_init 20 = .ok (.putfield 18, 3) := bX1_init_0.2.2.2.2.2.2.2.2.2.2.2.2.1
theorem dX1_init_23 : decode cX1_init 23 = .ok (.return_, 1) := bX1_init_0.2.2.2.2.2.2.2.2.2.2.2.2.2
set_option maxRecDepth 100000 in
theorem bX1_room_0 : (decode cX1_room 0 = .ok (.aload_n 0, 1)) ∧ (decode cX1_room 1 = .ok (.getfield 9, 3)) ∧ (decode cX1_room 4 = .ok (.arraylength, 1)) ∧ (decode cX1_room 5 = .ok (.ireturn, 1)) := by decide +kernel
theorem dX1_room_0 : decode cX1_room 0 = .ok (.aload_n 0, 1) := bX1_room_0.1
theorem dX1_room_1 : decode cX1_room 1 = .ok (.getfield 9, 3) := bX1_room_0.2.1
theorem dX1_room_4 : decode cX1_room 4 = .ok (.arraylength, 1) := bX1_room_0.2.2.1
theorem dX1_room_5 : decode cX1_room 5 = .ok (.ireturn, 1) := bX1_room_0.2.2.2
set_option maxRecDepth 100000 in
theorem bX1_free_0 : (decode cX1_free 0 = .ok (.aload_n 0, 1)) ∧ (decode cX1_free 1 = .ok (.getfield 9, 3)) ∧ (decode cX1_free 4 = .ok (.arraylength, 1)) ∧ (decode cX1_free 5 = .ok (.aload_n 0, 1)) ∧ (decode cX1_free 6 = .ok (.getfield 22, 3)) ∧ (decode cX1_free 9 = .ok (.isub, 1)) ∧ (decode cX1_free 10 = .ok (.ireturn, 1)) := by decide +kernel
theorem dX1_free_0 : decode cX1_free 0 = .ok (.aload_n 0, 1) := bX1_free_0.1
theorem dX1_free_1 : decode cX1_free 1 = .ok (.getfield 9, 3) := bX1_free_0.2.1
theorem dX1_free_4 : decode cX1_free 4 = .ok (.arraylength, 1) := bX1_free_0.2.2.1
theorem dX1_free_5 : decode cX1_free 5 = .ok (.aload_n 0, 1) := bX1_free_0.2.2.2.1
theorem dX1_free_6 : decode cX1_free 6 = .ok (.getfield 22, 3) := bX1_free_0.2.2.2.2.1
theorem dX1_free_9 : decode cX1_free 9 = .ok (.isub, 1) := bX1_free_0.2.2.2.2.2.1
theorem dX1_free_10 : decode cX1_free 10 = .ok (.ireturn, 1) := bX1_free_0.2.2.2.2.2.2
set_option maxRecDepth 100000 in
theorem bX1_empty_0 : (decode cX1_empty 0 = .ok (.aload_n 0, 1)) ∧ (decode cX1_empty 1 = .ok (.iconst 0, 1)) ∧ (decode cX1_empty 2 = .ok (.putfield 22, 3)) ∧ (decode cX1_empty 5 = .ok (.return_, 1)) := by decide +kernel
theorem dX1_empty_0 : decode cX1_empty 0 = .ok (.aload_n 0, 1) := bX1_empty_0.1
theorem dX1_empty_1 : decode cX1_empty 1 = .ok (.iconst 0, 1) := bX1_empty_0.2.1
theorem dX1_empty_2 : decode cX1_empty 2 = .ok (.putfield 22, 3) := bX1_empty_0.2.2.1
theorem dX1_empty_5 : decode cX1_empty 5 = .ok (.return_, 1) := bX1_empty_0.2.2.2
set_option maxRecDepth 100000 in
theorem bX1_append_0 : (decode cX1_append 0 = .ok (.aload_n 0, 1)) ∧ (decode cX1_append 1 = .ok (.getfield 22, 3)) ∧ (decode cX1_append 4 = .ok (.aload_n 0, 1)) ∧ (decode cX1_append 5 = .ok (.getfield 9, 3)) ∧ (decode cX1_append 8 = .ok (.arraylength, 1)) ∧ (decode cX1_append 9 = .ok (.if_icmp .ge 33, 3)) ∧ (decode cX1_append 12 = .ok (.aload_n 0, 1)) ∧ (decode cX1_append 13 = .ok (.getfield 9, 3)) ∧ (decode cX1_append 16 = .ok (.aload_n 0, 1)) ∧ (decode cX1_append 17 = .ok (.getfield 22, 3)) ∧ (decode cX1_append 20 = .ok (.iload_n 1, 1)) ∧ (decode cX1_append 21 = .ok (.iastore, 1)) ∧ (decode cX1_append 22 = .ok (.aload_n 0, 1)) ∧ (decode cX1_append 23 = .ok (.getfield 15, 3)) ∧ (decode cX1_append 26 = .ok (.aload_n 0, 1)) ∧ (decode cX1_append 27 = .ok (.getfield 22, 3)) := by decide +kernel
theorem dX1_append_0 : decode cX1_append 0 = .ok (.aload_n 0, 1) := bX1_append_0.1
theorem dX1_append_1 : decode cX1_append 1 = .ok (.getfield 22, 3) := bX1_append_0.2.1
theorem dX1_append_4 : decode cX1_append 4 = .ok (.aload_n 0, 1) := bX1_append_0.2.2.1
theorem dX1_append_5 : decode cX1_append 5 = .ok (.getfield 9, 3) := bX1_append_0.2.2.2.1
theorem dX1_append_8 : decode cX1_append 8 = .ok (.arraylength, 1) := bX1_append_0.2.2.2.2.1
theorem dX1_append_9 : decode cX1_append 9 = .ok (.if_icmp .ge 33, 3) := bX1_append_0.2.2.2.2.2.1
theorem dX1_append_12 : decode cX1_append 12 = .ok (.aload_n 0, 1) := bX1_append_0.2.2.2.2.2.2.1
theorem dX1_append_13 : decode cX1_append 13 = .ok (.getfield 9, 3) := bX1_append_0.2.2.2.2.2.2.2.1
theorem dX1_append_16 : decode cX1_append 16 = .ok (.aload_n 0, 1) := bX1_append_0.2.2.2.2.2.2.2.2.1
theorem dX1_append_17 : decode cX1_append 17 = .ok (.getfield 22, 3) := bX1_append_0.2.2.2.2.2.2.2.2.2.1
theorem dX1_append_20 : decode cX1_append 20 = .ok (.iload_n 1, 1) := bX1_append_0.2.2.2.2.2.2.2.2.2.2.1
theorem dX1_append_21 : decode cX1_append 21 = .ok (.iastore, 1) := bX1_append_0.2.2.2.2.2.2.2.2.2.2.2.1
theorem dX1_append_22 : decode cX1_append 22 = .ok (.aload_n 0, 1) := bX1_append_0.2.2.2.2.2.2.2.2.2.2.2.2.1
theorem dX1_append_23 : decode cX1_append 23 = .ok (.getfield 15, 3) := bX1_append_0.2.2.2.2.2.2.2.2.2.2.2.2.2.1
theorem dX1_append_26 : decode cX1_append 26 = .ok (.aload_n 0, 1) := bX1_append_0.2.2.2.2.2.2.2.2.2.2.2.2.2.2.1
theorem dX1_append_27 : decode cX1_append 27 = .ok (.getfield 22, 3) := bX1_append_0.2.2.2.2.2.2.2.2.2.2.2.2.2.2.2
set_option maxRecDepth 100000 in
theorem bX1_append_30 : (decode cX1_append 30 = .ok (.iload_n 2, 1)) ∧ (decode cX1_append 31 = .ok (.iastore, 1)) ∧ (decode cX1_append 32 = .ok (.aload_n 0, 1)) ∧ (decode cX1_append 33 = .ok (.dup, 1)) ∧ (decode cX1_append 34 = .ok (.getfield 22, 3)) ∧ (decode cX1_append 37 = .ok (.iconst 1, 1)) ∧ (decode cX1_append 38 = .ok (.iadd, 1)) ∧ (decode cX1_append 39 = .ok (.putfield 22, 3)) ∧ (decode cX1_append 42 = .ok (.return_, 1)) := by decide +kernel
theorem dX1_append_30 : decode cX1_append 30 = .ok (.iload_n 2, 1) := bX1_append_30.1
theorem dX1_append_31 : decode cX1_append 31 = .ok (.iastore, 1) := bX1_append_30.2.1
theorem dX1_append_32 : decode cX1_append 32 = .ok (.aload_n 0, 1) := bX1_append_30.2.2.1
theorem dX1_append_33 : decode cX1_append 33 = .ok (.dup, 1) := bX1_append_30.2.2.2.1
theorem dX1_append_34 : decode cX1_append 34 = .ok (.getfield 22, 3) := bX1_append_30.2.2.2.2.1
theorem dX1_append_37 : decode cX1_append 37 = .ok (.iconst 1, 1) := bX1_append_30.2.2.2.2.2.1
theorem dX1_append_38 : decode cX1_append 38 = .ok (.iadd, 1) := bX1_append_30.2.2.2.2.2.2.1
theorem dX1_append_39 : decode cX1_append 39 = .ok (.putfield 22, 3) := bX1_append_30.2.2.2.2.2.2.2.1
theorem dX1_append_42 : decode cX1_append 42 = .ok (.return_, 1) := bX1_append_30.2.2.2.2.2.2.2.2
set_option maxRecDepth 100000 in
theorem bX1_appendSpan_0 : (decode cX1_appendSpan 0 = .ok (.iload_n 2, 1)) ∧ (decode cX1_appendSpan 1 = .ok (.istore 4, 2)) ∧ (decode cX1_appendSpan 3 = .ok (.iload 4, 2)) ∧ (decode cX1_appendSpan 5 = .ok (.iload_n 3, 1)) ∧ (decode cX1_appendSpan 6 = .ok (.if_icmp .ge 27, 3)) ∧ (decode cX1_appendSpan 9 = .ok (.aload_n 0, 1)) ∧ (decode cX1_appendSpan 10 = .ok (.aload_n 1, 1)) ∧ (decode cX1_appendSpan 11 = .ok (.getfield 9, 3)) ∧ (decode cX1_appendSpan 14 = .ok (.iload 4, 2)) ∧ (decode cX1_appendSpan 16 = .ok (.iaload, 1)) ∧ (decode cX1_appendSpan 17 = .ok (.aload_n 1, 1)) ∧ (decode cX1_appendSpan 18 = .ok (.getfield 15, 3)) ∧ (decode cX1_appendSpan 21 = .ok (.iload 4, 2)) ∧ (decode cX1_appendSpan 23 = .ok (.iaload, 1)) ∧ (decode cX1_appendSpan 24 = .ok (.invokevirtual 26, 3)) ∧ (decode cX1_appendSpan 27 = .ok (.iinc 4 1, 3)) := by decide +kernel
theorem dX1_appendSpan_0 : decode cX1_appendSpan 0 = .ok (.iload_n 2, 1) := bX1_appendSpan_0.1
theorem dX1_appendSpan_1 : decode cX1_appendSpan 1 = .ok (.istore 4, 2) := bX1_appendSpan_0.2.1
theorem dX1_appendSpan_3 : decode cX1_appendSpan 3 = .ok (.iload 4, 2) := bX1_appendSpan_0.2.2.1
theorem dX1_appendSpan_5 : decode cX1_appendSpan 5 = .ok (.iload_n 3, 1) := bX1_appendSpan_0.2.2.2.1
theorem dX1_appendSpan_6 : decode cX1_appendSpan 6 = .ok (.if_icmp .ge 27, 3) := bX1_appendSpan_0.2.2.2.2.1
theorem dX1_appendSpan_9 : decode cX1_appendSpan 9 = .ok (.aload_n 0, 1) := bX1_appendSpan_0.2.2.2.2.2.1
theorem dX1_appendSpan_10 : decode cX1_appendSpan 10 = .ok (.aload_n 1, 1) := bX1_appendSpan_0.2.2.2.2.2.2.1
theorem dX1_appendSpan_11 : decode cX1_appendSpan 11 = .ok (.getfield 9, 3) := bX1_appendSpan_0.2.2.2.2.2.2.2.1
theorem dX1_appendSpan_14 : decode cX1_appendSpan 14 = .ok (.iload 4, 2) := bX1_appendSpan_0.2.2.2.2.2.2.2.2.1
theorem dX1_appendSpan_16 : decode cX1_appendSpan 16 = .ok (.iaload, 1) := bX1_appendSpan_0.2.2.2.2.2.2.2.2.2.1
theorem dX1_appendSpan_17 : decode cX1_appendSpan 17 = .ok (.aload_n 1, 1) := bX1_appendSpan_0.2.2.2.2.2.2.2.2.2.2.1
theorem dX1_appendSpan_18 : decode cX1_appendSpan 18 = .ok (.getfield 15, 3) := bX1_appendSpan_0.2.2.2.2.2.2.2.2.2.2.2.1
theorem dX1_appendSpan_21 : decode cX1_appendSpan 21 = .ok (.iload 4, 2) := bX1_appendSpan_0.2.2.2.2.2.2.2.2.2.2.2.2.1
theorem dX1_appendSpan_23 : decode cX1_appendSpan 23 = .ok (.iaload, 1) := bX1_appendSpan_0.2.2.2.2.2.2.2.2.2.2.2.2.2.1
theorem dX1_appendSpan_24 : decode cX1_appendSpan 24 = .ok (.invokevirtual 26, 3) := bX1_appendSpan_0.2.2.2.2.2.2.2.2.2.2.2.2.2.2.1
theorem dX1_appendSpan_27 : decode cX1_appendSpan 27 = .ok (.iinc 4 1, 3) := bX1_appendSpan_0.2.2.2.2.2.2.2.2.2.2.2.2.2.2.2
set_option maxRecDepth 100000 in
theorem bX1_appendSpan_30 : (decode cX1_appendSpan 30 = .ok (.goto (-27), 3)) ∧ (decode cX1_appendSpan 33 = .ok (.return_, 1)) := by decide +kernel
theorem dX1_appendSpan_30 : decode cX1_appendSpan 30 = .ok (.goto (-27), 3) := bX1_appendSpan_30.1
theorem dX1_appendSpan_33 : decode cX1_appendSpan 33 = .ok (.return_, 1) := bX1_appendSpan_30.2
set_option maxRecDepth 100000 in
theorem bX1_become_0 : (decode cX1_become 0 = .ok (.aload_n 1, 1)) ∧ (decode cX1_become 1 = .ok (.getfield 22, 3)) ∧ (decode cX1_become 4 = .ok (.aload_n 0, 1)) ∧ (decode cX1_become 5 = .ok (.getfield 9, 3)) ∧ (decode cX1_become 8 = .ok (.arraylength, 1)) ∧ (decode cX1_become 9 = .ok (.invokestatic 30, 3)) ∧ (decode cX1_become 12 = .ok (.istore_n 2, 1)) ∧ (decode cX1_become 13 = .ok (.aload_n 1, 1)) ∧ (decode cX1_become 14 = .ok (.getfield 9, 3)) ∧ (decode cX1_become 17 = .ok (.iconst 0, 1)) ∧ (decode cX1_become 18 = .ok (.aload_n 0, 1)) ∧ (decode cX1_become 19 = .ok (.getfield 9, 3)) ∧ (decode cX1_become 22 = .ok (.iconst 0, 1)) ∧ (decode cX1_become 23 = .ok (.iload_n 2, 1)) ∧ (decode cX1_become 24 = .ok (.invokestatic 36, 3)) ∧ (decode cX1_become 27 = .ok (.aload_n 1, 1)) := by decide +kernel
theorem dX1_become_0 : decode cX1_become 0 = .ok (.aload_n 1, 1) := bX1_become_0.1
theorem dX1_become_1 : decode cX1_become 1 = .ok (.getfield 22, 3) := bX1_become_0.2.1
theorem dX1_become_4 : decode cX1_become 4 = .ok (.aload_n 0, 1) := bX1_become_0.2.2.1
theorem dX1_become_5 : decode cX1_become 5 = .ok (.getfield 9, 3) := bX1_become_0.2.2.2.1
theorem dX1_become_8 : decode cX1_become 8 = .ok (.arraylength, 1) := bX1_become_0.2.2.2.2.1
theorem dX1_become_9 : decode cX1_become 9 = .ok (.invokestatic 30, 3) := bX1_become_0.2.2.2.2.2.1
theorem dX1_become_12 : decode cX1_become 12 = .ok (.istore_n 2, 1) := bX1_become_0.2.2.2.2.2.2.1
theorem dX1_become_13 : decode cX1_become 13 = .ok (.aload_n 1, 1) := bX1_become_0.2.2.2.2.2.2.2.1
theorem dX1_become_14 : decode cX1_become 14 = .ok (.getfield 9, 3) := bX1_become_0.2.2.2.2.2.2.2.2.1
theorem dX1_become_17 : decode cX1_become 17 = .ok (.iconst 0, 1) := bX1_become_0.2.2.2.2.2.2.2.2.2.1
theorem dX1_become_18 : decode cX1_become 18 = .ok (.aload_n 0, 1) := bX1_become_0.2.2.2.2.2.2.2.2.2.2.1
theorem dX1_become_19 : decode cX1_become 19 = .ok (.getfield 9, 3) := bX1_become_0.2.2.2.2.2.2.2.2.2.2.2.1
theorem dX1_become_22 : decode cX1_become 22 = .ok (.iconst 0, 1) := bX1_become_0.2.2.2.2.2.2.2.2.2.2.2.2.1
theorem dX1_become_23 : decode cX1_become 23 = .ok (.iload_n 2, 1) := bX1_become_0.2.2.2.2.2.2.2.2.2.2.2.2.2.1
theorem dX1_become_24 : decode cX1_become 24 = .ok (.invokestatic 36, 3) := bX1_become_0.2.2.2.2.2.2.2.2.2.2.2.2.2.2.1
theorem dX1_become_27 : decode cX1_become 27 = .ok (.aload_n 1, 1) := bX1_become_0.2.2.2.2.2.2.2.2.2.2.2.2.2.2.2
set_option maxRecDepth 100000 in
theorem bX1_become_28 : (decode cX1_become 28 = .ok (.getfield 15, 3)) ∧ (decode cX1_become 31 = .ok (.iconst 0, 1)) ∧ (decode cX1_become 32 = .ok (.aload_n 0, 1)) ∧ (decode cX1_become 33 = .ok (.getfield 15, 3)) ∧ (decode cX1_become 36 = .ok (.iconst 0, 1)) ∧ (decode cX1_become 37 = .ok (.iload_n 2, 1)) ∧ (decode cX1_become 38 = .ok (.invokestatic 36, 3)) ∧ (decode cX1_become 41 = .ok (.aload_n 0, 1)) ∧ (decode cX1_become 42 = .ok (.iload_n 2, 1)) ∧ (decode cX1_become 43 = .ok (.putfield 22, 3)) ∧ (decode cX1_become 46 = .ok (.return_, 1)) := by decide +kernel
theorem dX1_become_28 : decode cX1_become 28 = .ok (.getfield 15, 3) := bX1_become_28.1
theorem dX1_become_31 : decode cX1_become 31 = .ok (.iconst 0, 1) := bX1_become_28.2.1
theorem dX1_become_32 : decode cX1_become 32 = .ok (.aload_n 0, 1) := bX1_become_28.2.2.1
theorem dX1_become_33 : decode cX1_become 33 = .ok (.getfield 15, 3) := bX1_become_28.2.2.2.1
theorem dX1_become_36 : decode cX1_become 36 = .ok (.iconst 0, 1) := bX1_become_28.2.2.2.2.1
theorem dX1_become_37 : decode cX1_become 37 = .ok (.iload_n 2, 1) := bX1_become_28.2.2.2.2.2.1
theorem dX1_become_38 : decode cX1_become 38 = .ok (.invokestatic 36, 3) := bX1_become_28.2.2.2.2.2.2.1
theorem dX1_become_41 : decode cX1_become 41 = .ok (.aload_n 0, 1) := bX1_become_28.2.2.2.2.2.2.2.1
theorem dX1_become_42 : decode cX1_become 42 = .ok (.iload_n 2, 1) := bX1_become_28.2.2.2.2.2.2.2.2.1
theorem dX1_become_43 : decode cX1_become 43 = .ok (.putfield 22, 3) := bX1_become_28.2.2.2.2.2.2.2.2.2.1
theorem dX1_become_46 : decode cX1_become 46 = .ok (.return_, 1) := bX1_become_28.2.2.2.2.2.2.2.2.2.2
set_option maxRecDepth 100000 in
theorem bX1_trade_0 : (decode cX1_trade 0 = .ok (.aload_n 0, 1)) ∧ (decode cX1_trade 1 = .ok (.getfield 9, 3)) ∧ (decode cX1_trade 4 = .ok (.iload_n 1, 1)) ∧ (decode cX1_trade 5 = .ok (.iaload, 1)) ∧ (decode cX1_trade 6 = .ok (.istore_n 3, 1)) ∧ (decode cX1_trade 7 = .ok (.aload_n 0, 1)) ∧ (decode cX1_trade 8 = .ok (.getfield 15, 3)) ∧ (decode cX1_trade 11 = .ok (.iload_n 1, 1)) ∧ (decode cX1_trade 12 = .ok (.iaload, 1)) ∧ (decode cX1_trade 13 = .ok (.istore 4, 2)) ∧ (decode cX1_trade 15 = .ok (.aload_n 0, 1)) ∧ (decode cX1_trade 16 = .ok (.getfield 9, 3)) ∧ (decode cX1_trade 19 = .ok (.iload_n 1, 1)) ∧ (decode cX1_trade 20 = .ok (.aload_n 0, 1)) ∧ (decode cX1_trade 21 = .ok (.getfield 9, 3)) ∧ (decode cX1_trade 24 = .ok (.iload_n 2, 1)) := by decide +kernel
theorem dX1_trade_0 : decode cX1_trade 0 = .ok (.aload_n 0, 1) := bX1_trade_0.1
theorem dX1_trade_1 : decode cX1_trade 1 = .ok (.getfield 9, 3) := bX1_trade_0.2.1
theorem dX1_trade_4 : decode cX1_trade 4 = .ok (.iload_n 1, 1) := bX1_trade_0.2.2.1
theorem dX1_trade_5 : decode cX1_trade 5 = .ok (.iaload, 1) := bX1_trade_0.2.2.2.1
theorem dX1_trade_6 : decode cX1_trade 6 = .ok (.istore_n 3, 1) := bX1_trade_0.2.2.2.2.1
theorem dX1_trade_7 : decode cX1_trade 7 = .ok (.aload_n 0, 1) := bX1_trade_0.2.2.2.2.2.1
theorem dX1_trade_8 : decode cX1_trade 8 = .ok (.getfield 15, 3) := bX1_trade_0.2.2.2.2.2.2.1
theorem dX1_trade_11 : decode cX1_trade 11 = .ok (.iload_n 1, 1) := bX1_trade_0.2.2.2.2.2.2.2.1
theorem dX1_trade_12 : decode cX1_trade 12 = .ok (.iaload, 1) := bX1_trade_0.2.2.2.2.2.2.2.2.1
theorem dX1_trade_13 : decode cX1_trade 13 = .ok (.istore 4, 2) := bX1_trade_0.2.2.2.2.2.2.2.2.2.1
theorem dX1_trade_15 : decode cX1_trade 15 = .ok (.aload_n 0, 1) := bX1_trade_0.2.2.2.2.2.2.2.2.2.2.1
theorem dX1_trade_16 : decode cX1_trade 16 = .ok (.getfield 9, 3) := bX1_trade_0.2.2.2.2.2.2.2.2.2.2.2.1
theorem dX1_trade_19 : decode cX1_trade 19 = .ok (.iload_n 1, 1) := bX1_trade_0.2.2.2.2.2.2.2.2.2.2.2.2.1
theorem dX1_trade_20 : decode cX1_trade 20 = .ok (.aload_n 0, 1) := bX1_trade_0.2.2.2.2.2.2.2.2.2.2.2.2.2.1
theorem dX1_trade_21 : decode cX1_trade 21 = .ok (.getfield 9, 3) := bX1_trade_0.2.2.2.2.2.2.2.2.2.2.2.2.2.2.1
theorem dX1_trade_24 : decode cX1_trade 24 = .ok (.iload_n 2, 1) := bX1_trade_0.2.2.2.2.2.2.2.2.2.2.2.2.2.2.2
set_option maxRecDepth 100000 in
theorem bX1_trade_25 : (decode cX1_trade 25 = .ok (.iaload, 1)) ∧ (decode cX1_trade 26 = .ok (.iastore, 1)) ∧ (decode cX1_trade 27 = .ok (.aload_n 0, 1)) ∧ (decode cX1_trade 28 = .ok (.getfield 15, 3)) ∧ (decode cX1_trade 31 = .ok (.iload_n 1, 1)) ∧ (decode cX1_trade 32 = .ok (.aload_n 0, 1)) ∧ (decode cX1_trade 33 = .ok (.getfield 15, 3)) ∧ (decode cX1_trade 36 = .ok (.iload_n 2, 1)) ∧ (decode cX1_trade 37 = .ok (.iaload, 1)) ∧ (decode cX1_trade 38 = .ok (.iastore, 1)) ∧ (decode cX1_trade 39 = .ok (.aload_n 0, 1)) ∧ (decode cX1_trade 40 = .ok (.getfield 9, 3)) ∧ (decode cX1_trade 43 = .ok (.iload_n 2, 1)) ∧ (decode cX1_trade 44 = .ok (.iload_n 3, 1)) ∧ (decode cX1_trade 45 = .ok (.iastore, 1)) ∧ (decode cX1_trade 46 = .ok (.aload_n 0, 1)) := by decide +kernel
theorem dX1_trade_25 : decode cX1_trade 25 = .ok (.iaload, 1) := bX1_trade_25.1
theorem dX1_trade_26 : decode cX1_trade 26 = .ok (.iastore, 1) := bX1_trade_25.2.1
theorem dX1_trade_27 : decode cX1_trade 27 = .ok (.aload_n 0, 1) := bX1_trade_25.2.2.1
theorem dX1_trade_28 : decode cX1_trade 28 = .ok (.getfield 15, 3) := bX1_trade_25.2.2.2.1
theorem dX1_trade_31 : decode cX1_trade 31 = .ok (.iload_n 1, 1) := bX1_trade_25.2.2.2.2.1
theorem dX1_trade_32 : decode cX1_trade 32 = .ok (.aload_n 0, 1) := bX1_trade_25.2.2.2.2.2.1
theorem dX1_trade_33 : decode cX1_trade 33 = .ok (.getfield 15, 3) := bX1_trade_25.2.2.2.2.2.2.1
theorem dX1_trade_36 : decode cX1_trade 36 = .ok (.iload_n 2, 1) := bX1_trade_25.2.2.2.2.2.2.2.1
theorem dX1_trade_37 : decode cX1_trade 37 = .ok (.iaload, 1) := bX1_trade_25.2.2.2.2.2.2.2.2.1
theorem dX1_trade_38 : decode cX1_trade 38 = .ok (.iastore, 1) := bX1_trade_25.2.2.2.2.2.2.2.2.2.1
theorem dX1_trade_39 : decode cX1_trade 39 = .ok (.aload_n 0, 1) := bX1_trade_25.2.2.2.2.2.2.2.2.2.2.1
theorem dX1_trade_40 : decode cX1_trade 40 = .ok (.getfield 9, 3) := bX1_trade_25.2.2.2.2.2.2.2.2.2.2.2.1
theorem dX1_trade_43 : decode cX1_trade 43 = .ok (.iload_n 2, 1) := bX1_trade_25.2.2.2.2.2.2.2.2.2.2.2.2.1
theorem dX1_trade_44 : decode cX1_trade 44 = .ok (.iload_n 3, 1) := bX1_trade_25.2.2.2.2.2.2.2.2.2.2.2.2.2.1
theorem dX1_trade_45 : decode cX1_trade 45 = .ok (.iastore, 1) := bX1_trade_25.2.2.2.2.2.2.2.2.2.2.2.2.2.2.1
theorem dX1_trade_46 : decode cX1_trade 46 = .ok (.aload_n 0, 1) := bX1_trade_25.2.2.2.2.2.2.2.2.2.2.2.2.2.2.2
set_option maxRecDepth 100000 in
theorem bX1_trade_47 : (decode cX1_trade 47 = .ok (.getfield 15, 3)) ∧ (decode cX1_trade 50 = .ok (.iload_n 2, 1)) ∧ (decode cX1_trade 51 = .ok (.iload 4, 2)) ∧ (decode cX1_trade 53 = .ok (.iastore, 1)) ∧ (decode cX1_trade 54 = .ok (.return_, 1)) := by decide +kernel
theorem dX1_trade_47 : decode cX1_trade 47 = .ok (.getfield 15, 3) := bX1_trade_47.1
theorem dX1_trade_50 : decode cX1_trade 50 = .ok (.iload_n 2, 1) := bX1_trade_47.2.1
theorem dX1_trade_51 : decode cX1_trade 51 = .ok (.iload 4, 2) := bX1_trade_47.2.2.1
theorem dX1_trade_53 : decode cX1_trade 53 = .ok (.iastore, 1) := bX1_trade_47.2.2.2.1
theorem dX1_trade_54 : decode cX1_trade 54 = .ok (.return_, 1) := bX1_trade_47.2.2.2.2
set_option maxRecDepth 100000 in
theorem bX1_wrongerByExchange_0 : (decode cX1_wrongerByExchange 0 = .ok (.aload_n 0, 1)) ∧ (decode cX1_wrongerByExchange 1 = .ok (.getfield 9, 3)) ∧ (decode cX1_wrongerByExchange 4 = .ok (.iload_n 1, 1)) ∧ (decode cX1_wrongerByExchange 5 = .ok (.iaload, 1)) ∧ (decode cX1_wrongerByExchange 6 = .ok (.aload_n 0, 1)) ∧ (decode cX1_wrongerByExchange 7 = .ok (.getfield 9, 3)) ∧ (decode cX1_wrongerByExchange 10 = .ok (.iload_n 1, 1)) ∧ (decode cX1_wrongerByExchange 11 = .ok (.iconst 1, 1)) ∧ (decode cX1_wrongerByExchange 12 = .ok (.iadd, 1)) ∧ (decode cX1_wrongerByExchange 13 = .ok (.iaload, 1)) ∧ (decode cX1_wrongerByExchange 14 = .ok (.if_icmp .ne 5, 3)) ∧ (decode cX1_wrongerByExchange 17 = .ok (.iconst 0, 1)) ∧ (decode cX1_wrongerByExchange 18 = .ok (.ireturn, 1)) ∧ (decode cX1_wrongerByExchange 19 = .ok (.aload_n 0, 1)) ∧ (decode cX1_wrongerByExchange 20 = .ok (.getfield 9, 3)) ∧ (decode cX1_wrongerByExchange 23 = .ok (.iload_n 1, 1)) := by decide +kernel
theorem dX1_wrongerByExchange_0 : decode cX1_wrongerByExchange 0 = .ok (.aload_n 0, 1) := bX1_wrongerByExchange_0.1
theorem dX1_wrongerByExchange_1 : decode cX1_wrongerByExchange 1 = .ok (.getfield 9, 3) := bX1_wrongerByExchange_0.2.1
theorem dX1_wrongerByExchange_4 : decode cX1_wrongerByExchange 4 = .ok (.iload_n 1, 1) := bX1_wrongerByExchange_0.2.2.1
theorem dX1_wrongerByExchange_5 : decode cX1_wrongerByExchange 5 = .ok (.iaload, 1) := bX1_wrongerByExchange_0.2.2.2.1
theorem dX1_wrongerByExchange_6 : decode cX1_wrongerByExchange 6 = .ok (.aload_n 0, 1) := bX1_wrongerByExchange_0.2.2.2.2.1
theorem dX1_wrongerByExchange_7 : decode cX1_wrongerByExchange 7 = .ok (.getfield 9, 3) := bX1_wrongerByExchange_0.2.2.2.2.2.1
theorem dX1_wrongerByExchange_10 : decode cX1_wrongerByExchange 10 = .ok (.iload_n 1, 1) := bX1_wrongerByExchange_0.2.2.2.2.2.2.1
theorem dX1_wrongerByExchange_11 : decode cX1_wrongerByExchange 11 = .ok (.iconst 1, 1) := bX1_wrongerByExchange_0.2.2.2.2.2.2.2.1
theorem dX1_wrongerByExchange_12 : decode cX1_wrongerByExchange 12 = .ok (.iadd, 1) := bX1_wrongerByExchange_0.2.2.2.2.2.2.2.2.1
theorem dX1_wrongerByExchange_13 : decode cX1_wrongerByExchange 13 = .ok (.iaload, 1) := bX1_wrongerByExchange_0.2.2.2.2.2.2.2.2.2.1
theorem dX1_wrongerByExchange_14 : decode cX1_wrongerByExchange 14 = .ok (.if_icmp .ne 5, 3) := bX1_wrongerByExchange_0.2.2.2.2.2.2.2.2.2.2.1
theorem dX1_wrongerByExchange_17 : decode cX1_wrongerByExchange 17 = .ok (.iconst 0, 1) := bX1_wrongerByExchange_0.2.2.2.2.2.2.2.2.2.2.2.1
theorem dX1_wrongerByExchange_18 : decode cX1_wrongerByExchange 18 = .ok (.ireturn, 1) := bX1_wrongerByExchange_0.2.2.2.2.2.2.2.2.2.2.2.2.1
theorem dX1_wrongerByExchange_19 : decode cX1_wrongerByExchange 19 = .ok (.aload_n 0, 1) := bX1_wrongerByExchange_0.2.2.2.2.2.2.2.2.2.2.2.2.2.1
theorem dX1_wrongerByExchange_20 : decode cX1_wrongerByExchange 20 = .ok (.getfield 9, 3) := bX1_wrongerByExchange_0.2.2.2.2.2.2.2.2.2.2.2.2.2.2.1
theorem dX1_wrongerByExchange_23 : decode cX1_wrongerByExchange 23 = .ok (.iload_n 1, 1) := bX1_wrongerByExchange_0.2.2.2.2.2.2.2.2.2.2.2.2.2.2.2
set_option maxRecDepth 100000 in
theorem bX1_wrongerByExchange_24 : (decode cX1_wrongerByExchange 24 = .ok (.iaload, 1)) ∧ (decode cX1_wrongerByExchange 25 = .ok (.aload_n 0, 1)) ∧ (decode cX1_wrongerByExchange 26 = .ok (.getfield 9, 3)) ∧ (decode cX1_wrongerByExchange 29 = .ok (.iload_n 1, 1)) ∧ (decode cX1_wrongerByExchange 30 = .ok (.iconst 1, 1)) ∧ (decode cX1_wrongerByExchange 31 = .ok (.iadd, 1)) ∧ (decode cX1_wrongerByExchange 32 = .ok (.iaload, 1)) ∧ (decode cX1_wrongerByExchange 33 = .ok (.if_icmp .ge 7, 3)) ∧ (decode cX1_wrongerByExchange 36 = .ok (.iconst 1, 1)) ∧ (decode cX1_wrongerByExchange 37 = .ok (.goto 4, 3)) ∧ (decode cX1_wrongerByExchange 40 = .ok (.iconst (-1), 1)) ∧ (decode cX1_wrongerByExchange 41 = .ok (.ireturn, 1)) := by decide +kernel
theorem dX1_wrongerByExchange_24 : decode cX1_wrongerByExchange 24 = .ok (.iaload, 1) := bX1_wrongerByExchange_24.1
theorem dX1_wrongerByExchange_25 : decode cX1_wrongerByExchange 25 = .ok (.aload_n 0, 1) := bX1_wrongerByExchange_24.2.1
theorem dX1_wrongerByExchange_26 : decode cX1_wrongerByExchange 26 = .ok (.getfield 9, 3) := bX1_wrongerByExchange_24.2.2.1
theorem dX1_wrongerByExchange_29 : decode cX1_wrongerByExchange 29 = .ok (.iload_n 1, 1) := bX1_wrongerByExchange_24.2.2.2.1
theorem dX1_wrongerByExchange_30 : decode cX1_wrongerByExchange 30 = .ok (.iconst 1, 1) := bX1_wrongerByExchange_24.2.2.2.2.1
theorem dX1_wrongerByExchange_31 : decode cX1_wrongerByExchange 31 = .ok (.iadd, 1) := bX1_wrongerByExchange_24.2.2.2.2.2.1
theorem dX1_wrongerByExchange_32 : decode cX1_wrongerByExchange 32 = .ok (.iaload, 1) := bX1_wrongerByExchange_24.2.2.2.2.2.2.1
theorem dX1_wrongerByExchange_33 : decode cX1_wrongerByExchange 33 = .ok (.if_icmp .ge 7, 3) := bX1_wrongerByExchange_24.2.2.2.2.2.2.2.1
theorem dX1_wrongerByExchange_36 : decode cX1_wrongerByExchange 36 = .ok (.iconst 1, 1) := bX1_wrongerByExchange_24.2.2.2.2.2.2.2.2.1
theorem dX1_wrongerByExchange_37 : decode cX1_wrongerByExchange 37 = .ok (.goto 4, 3) := bX1_wrongerByExchange_24.2.2.2.2.2.2.2.2.2.1
theorem dX1_wrongerByExchange_40 : decode cX1_wrongerByExchange 40 = .ok (.iconst (-1), 1) := bX1_wrongerByExchange_24.2.2.2.2.2.2.2.2.2.2.1
theorem dX1_wrongerByExchange_41 : decode cX1_wrongerByExchange 41 = .ok (.ireturn, 1) := bX1_wrongerByExchange_24.2.2.2.2.2.2.2.2.2.2.2
set_option maxRecDepth 100000 in
theorem bX1_otherKeys_0 : (decode cX1_otherKeys 0 = .ok (.aload_n 0, 1)) ∧ (decode cX1_otherKeys 1 = .ok (.getfield 22, 3)) ∧ (decode cX1_otherKeys 4 = .ok (.aload_n 1, 1)) ∧ (decode cX1_otherKeys 5 = .ok (.getfield 22, 3)) ∧ (decode cX1_otherKeys 8 = .ok (.invokestatic 30, 3)) ∧ (decode cX1_otherKeys 11 = .ok (.istore_n 2, 1)) ∧ (decode cX1_otherKeys 12 = .ok (.iconst 0, 1)) ∧ (decode cX1_otherKeys 13 = .ok (.istore_n 3, 1)) ∧ (decode cX1_otherKeys 14 = .ok (.iconst 0, 1)) ∧ (decode cX1_otherKeys 15 = .ok (.istore 4, 2)) ∧ (decode cX1_otherKeys 17 = .ok (.iload 4, 2)) ∧ (decode cX1_otherKeys 19 = .ok (.iload_n 2, 1)) ∧ (decode cX1_otherKeys 20 = .ok (.if_icmp .ge 29, 3)) ∧ (decode cX1_otherKeys 23 = .ok (.aload_n 0, 1)) ∧ (decode cX1_otherKeys 24 = .ok (.getfield 9, 3)) ∧ (decode cX1_otherKeys 27 = .ok (.iload 4, 2)) := by decide +kernel
theorem dX1_otherKeys_0 : decode cX1_otherKeys 0 = .ok (.aload_n 0, 1) := bX1_otherKeys_0.1
theorem dX1_otherKeys_1 : decode cX1_otherKeys 1 = .ok (.getfield 22, 3) := bX1_otherKeys_0.2.1
theorem dX1_otherKeys_4 : decode cX1_otherKeys 4 = .ok (.aload_n 1, 1) := bX1_otherKeys_0.2.2.1
theorem dX1_otherKeys_5 : decode cX1_otherKeys 5 = .ok (.getfield 22, 3) := bX1_otherKeys_0.2.2.2.1
theorem dX1_otherKeys_8 : decode cX1_otherKeys 8 = .ok (.invokestatic 30, 3) := bX1_otherKeys_0.2.2.2.2.1
theorem dX1_otherKeys_11 : decode cX1_otherKeys 11 = .ok (.istore_n 2, 1) := bX1_otherKeys_0.2.2.2.2.2.1
theorem dX1_otherKeys_12 : decode cX1_otherKeys 12 = .ok (.iconst 0, 1) := bX1_otherKeys_0.2.2.2.2.2.2.1
theorem dX1_otherKeys_13 : decode cX1_otherKeys 13 = .ok (.istore_n 3, 1) := bX1_otherKeys_0.2.2.2.2.2.2.2.1
theorem dX1_otherKeys_14 : decode cX1_otherKeys 14 = .ok (.iconst 0, 1) := bX1_otherKeys_0.2.2.2.2.2.2.2.2.1
theorem dX1_otherKeys_15 : decode cX1_otherKeys 15 = .ok (.istore 4, 2) := bX1_otherKeys_0.2.2.2.2.2.2.2.2.2.1
theorem dX1_otherKeys_17 : decode cX1_otherKeys 17 = .ok (.iload 4, 2) := bX1_otherKeys_0.2.2.2.2.2.2.2.2.2.2.1
theorem dX1_otherKeys_19 : decode cX1_otherKeys 19 = .ok (.iload_n 2, 1) := bX1_otherKeys_0.2.2.2.2.2.2.2.2.2.2.2.1
theorem dX1_otherKeys_20 : decode cX1_otherKeys 20 = .ok (.if_icmp .ge 29, 3) := bX1_otherKeys_0.2.2.2.2.2.2.2.2.2.2.2.2.1
theorem dX1_otherKeys_23 : decode cX1_otherKeys 23 = .ok (.aload_n 0, 1) := bX1_otherKeys_0.2.2.2.2.2.2.2.2.2.2.2.2.2.1
theorem dX1_otherKeys_24 : decode cX1_otherKeys 24 = .ok (.getfield 9, 3) := bX1_otherKeys_0.2.2.2.2.2.2.2.2.2.2.2.2.2.2.1
theorem dX1_otherKeys_27 : decode cX1_otherKeys 27 = .ok (.iload 4, 2) := bX1_otherKeys_0.2.2.2.2.2.2.2.2.2.2.2.2.2.2.2
set_option maxRecDepth 100000 in
theorem bX1_otherKeys_29 : (decode cX1_otherKeys 29 = .ok (.iaload, 1)) ∧ (decode cX1_otherKeys 30 = .ok (.aload_n 1, 1)) ∧ (decode cX1_otherKeys 31 = .ok (.getfield 9, 3)) ∧ (decode cX1_otherKeys 34 = .ok (.iload 4, 2)) ∧ (decode cX1_otherKeys 36 = .ok (.iaload, 1)) ∧ (decode cX1_otherKeys 37 = .ok (.if_icmp .eq 6, 3)) ∧ (decode cX1_otherKeys 40 = .ok (.iinc 3 1, 3)) ∧ (decode cX1_otherKeys 43 = .ok (.iinc 4 1, 3)) ∧ (decode cX1_otherKeys 46 = .ok (.goto (-29), 3)) ∧ (decode cX1_otherKeys 49 = .ok (.iload_n 3, 1)) ∧ (decode cX1_otherKeys 50 = .ok (.ireturn, 1)) := by decide +kernel
theorem dX1_otherKeys_29 : decode cX1_otherKeys 29 = .ok (.iaload, 1) := bX1_otherKeys_29.1
theorem dX1_otherKeys_30 : decode cX1_otherKeys 30 = .ok (.aload_n 1, 1) := bX1_otherKeys_29.2.1
theorem dX1_otherKeys_31 : decode cX1_otherKeys 31 = .ok (.getfield 9, 3) := bX1_otherKeys_29.2.2.1
theorem dX1_otherKeys_34 : decode cX1_otherKeys 34 = .ok (.iload 4, 2) := bX1_otherKeys_29.2.2.2.1
theorem dX1_otherKeys_36 : decode cX1_otherKeys 36 = .ok (.iaload, 1) := bX1_otherKeys_29.2.2.2.2.1
theorem dX1_otherKeys_37 : decode cX1_otherKeys 37 = .ok (.if_icmp .eq 6, 3) := bX1_otherKeys_29.2.2.2.2.2.1
theorem dX1_otherKeys_40 : decode cX1_otherKeys 40 = .ok (.iinc 3 1, 3) := bX1_otherKeys_29.2.2.2.2.2.2.1
theorem dX1_otherKeys_43 : decode cX1_otherKeys 43 = .ok (.iinc 4 1, 3) := bX1_otherKeys_29.2.2.2.2.2.2.2.1
theorem dX1_otherKeys_46 : decode cX1_otherKeys 46 = .ok (.goto (-29), 3) := bX1_otherKeys_29.2.2.2.2.2.2.2.2.1
theorem dX1_otherKeys_49 : decode cX1_otherKeys 49 = .ok (.iload_n 3, 1) := bX1_otherKeys_29.2.2.2.2.2.2.2.2.2.1
theorem dX1_otherKeys_50 : decode cX1_otherKeys 50 = .ok (.ireturn, 1) := bX1_otherKeys_29.2.2.2.2.2.2.2.2.2.2
set_option maxRecDepth 100000 in
theorem bX1_otherItems_0 : (decode cX1_otherItems 0 = .ok (.aload_n 0, 1)) ∧ (decode cX1_otherItems 1 = .ok (.getfield 22, 3)) ∧ (decode cX1_otherItems 4 = .ok (.aload_n 1, 1)) ∧ (decode cX1_otherItems 5 = .ok (.getfield 22, 3)) ∧ (decode cX1_otherItems 8 = .ok (.invokestatic 30, 3)) ∧ (decode cX1_otherItems 11 = .ok (.istore_n 2, 1)) ∧ (decode cX1_otherItems 12 = .ok (.iconst 0, 1)) ∧ (decode cX1_otherItems 13 = .ok (.istore_n 3, 1)) ∧ (decode cX1_otherItems 14 = .ok (.iconst 0, 1)) ∧ (decode cX1_otherItems 15 = .ok (.istore 4, 2)) ∧ (decode cX1_otherItems 17 = .ok (.iload 4, 2)) ∧ (decode cX1_otherItems 19 = .ok (.iload_n 2, 1)) ∧ (decode cX1_otherItems 20 = .ok (.if_icmp .ge 46, 3)) ∧ (decode cX1_otherItems 23 = .ok (.aload_n 0, 1)) ∧ (decode cX1_otherItems 24 = .ok (.getfield 9, 3)) ∧ (decode cX1_otherItems 27 = .ok (.iload 4, 2)) := by decide +kernel
theorem dX1_otherItems_0 : decode cX1_otherItems 0 = .ok (.aload_n 0, 1) := bX1_otherItems_0.1
theorem dX1_otherItems_1 : decode cX1_otherItems 1 = .ok (.getfield 22, 3) := bX1_otherItems_0.2.1
theorem dX1_otherItems_4 : decode cX1_otherItems 4 = .ok (.aload_n 1, 1) := bX1_otherItems_0.2.2.1
theorem dX1_otherItems_5 : decode cX1_otherItems 5 = .ok (.getfield 22, 3) := bX1_otherItems_0.2.2.2.1
theorem dX1_otherItems_8 : decode cX1_otherItems 8 = .ok (.invokestatic 30, 3) := bX1_otherItems_0.2.2.2.2.1
theorem dX1_otherItems_11 : decode cX1_otherItems 11 = .ok (.istore_n 2, 1) := bX1_otherItems_0.2.2.2.2.2.1
theorem dX1_otherItems_12 : decode cX1_otherItems 12 = .ok (.iconst 0, 1) := bX1_otherItems_0.2.2.2.2.2.2.1
theorem dX1_otherItems_13 : decode cX1_otherItems 13 = .ok (.istore_n 3, 1) := bX1_otherItems_0.2.2.2.2.2.2.2.1
theorem dX1_otherItems_14 : decode cX1_otherItems 14 = .ok (.iconst 0, 1) := bX1_otherItems_0.2.2.2.2.2.2.2.2.1
theorem dX1_otherItems_15 : decode cX1_otherItems 15 = .ok (.istore 4, 2) := bX1_otherItems_0.2.2.2.2.2.2.2.2.2.1
theorem dX1_otherItems_17 : decode cX1_otherItems 17 = .ok (.iload 4, 2) := bX1_otherItems_0.2.2.2.2.2.2.2.2.2.2.1
theorem dX1_otherItems_19 : decode cX1_otherItems 19 = .ok (.iload_n 2, 1) := bX1_otherItems_0.2.2.2.2.2.2.2.2.2.2.2.1
theorem dX1_otherItems_20 : decode cX1_otherItems 20 = .ok (.if_icmp .ge 46, 3) := bX1_otherItems_0.2.2.2.2.2.2.2.2.2.2.2.2.1
theorem dX1_otherItems_23 : decode cX1_otherItems 23 = .ok (.aload_n 0, 1) := bX1_otherItems_0.2.2.2.2.2.2.2.2.2.2.2.2.2.1
theorem dX1_otherItems_24 : decode cX1_otherItems 24 = .ok (.getfield 9, 3) := bX1_otherItems_0.2.2.2.2.2.2.2.2.2.2.2.2.2.2.1
theorem dX1_otherItems_27 : decode cX1_otherItems 27 = .ok (.iload 4, 2) := bX1_otherItems_0.2.2.2.2.2.2.2.2.2.2.2.2.2.2.2
set_option maxRecDepth 100000 in
theorem bX1_otherItems_29 : (decode cX1_otherItems 29 = .ok (.iaload, 1)) ∧ (decode cX1_otherItems 30 = .ok (.aload_n 1, 1)) ∧ (decode cX1_otherItems 31 = .ok (.getfield 9, 3)) ∧ (decode cX1_otherItems 34 = .ok (.iload 4, 2)) ∧ (decode cX1_otherItems 36 = .ok (.iaload, 1)) ∧ (decode cX1_otherItems 37 = .ok (.if_icmp .ne 20, 3)) ∧ (decode cX1_otherItems 40 = .ok (.aload_n 0, 1)) ∧ (decode cX1_otherItems 41 = .ok (.getfield 15, 3)) ∧ (decode cX1_otherItems 44 = .ok (.iload 4, 2)) ∧ (decode cX1_otherItems 46 = .ok (.iaload, 1)) ∧ (decode cX1_otherItems 47 = .ok (.aload_n 1, 1)) ∧ (decode cX1_otherItems 48 = .ok (.getfield 15, 3)) ∧ (decode cX1_otherItems 51 = .ok (.iload 4, 2)) ∧ (decode cX1_otherItems 53 = .ok (.iaload, 1)) ∧ (decode cX1_otherItems 54 = .ok (.if_icmp .eq 6, 3)) ∧ (decode cX1_otherItems 57 = .ok (.iinc 3 1, 3)) := by decide +kernel
theorem dX1_otherItems_29 : decode cX1_otherItems 29 = .ok (.iaload, 1) := bX1_otherItems_29.1
theorem dX1_otherItems_30 : decode cX1_otherItems 30 = .ok (.aload_n 1, 1) := bX1_otherItems_29.2.1
theorem dX1_otherItems_31 : decode cX1_otherItems 31 = .ok (.getfield 9, 3) := bX1_otherItems_29.2.2.1
theorem dX1_otherItems_34 : decode cX1_otherItems 34 = .ok (.iload 4, 2) := bX1_otherItems_29.2.2.2.1
theorem dX1_otherItems_36 : decode cX1_otherItems 36 = .ok (.iaload, 1) := bX1_otherItems_29.2.2.2.2.1
theorem dX1_otherItems_37 : decode cX1_otherItems 37 = .ok (.if_icmp .ne 20, 3) := bX1_otherItems_29.2.2.2.2.2.1
theorem dX1_otherItems_40 : decode cX1_otherItems 40 = .ok (.aload_n 0, 1) := bX1_otherItems_29.2.2.2.2.2.2.1
theorem dX1_otherItems_41 : decode cX1_otherItems 41 = .ok (.getfield 15, 3) := bX1_otherItems_29.2.2.2.2.2.2.2.1
theorem dX1_otherItems_44 : decode cX1_otherItems 44 = .ok (.iload 4, 2) := bX1_otherItems_29.2.2.2.2.2.2.2.2.1
theorem dX1_otherItems_46 : decode cX1_otherItems 46 = .ok (.iaload, 1) := bX1_otherItems_29.2.2.2.2.2.2.2.2.2.1
theorem dX1_otherItems_47 : decode cX1_otherItems 47 = .ok (.aload_n 1, 1) := bX1_otherItems_29.2.2.2.2.2.2.2.2.2.2.1
theorem dX1_otherItems_48 : decode cX1_otherItems 48 = .ok (.getfield 15, 3) := bX1_otherItems_29.2.2.2.2.2.2.2.2.2.2.2.1
theorem dX1_otherItems_51 : decode cX1_otherItems 51 = .ok (.iload 4, 2) := bX1_otherItems_29.2.2.2.2.2.2.2.2.2.2.2.2.1
theorem dX1_otherItems_53 : decode cX1_otherItems 53 = .ok (.iaload, 1) := bX1_otherItems_29.2.2.2.2.2.2.2.2.2.2.2.2.2.1
theorem dX1_otherItems_54 : decode cX1_otherItems 54 = .ok (.if_icmp .eq 6, 3) := bX1_otherItems_29.2.2.2.2.2.2.2.2.2.2.2.2.2.2.1
theorem dX1_otherItems_57 : decode cX1_otherItems 57 = .ok (.iinc 3 1, 3) := bX1_otherItems_29.2.2.2.2.2.2.2.2.2.2.2.2.2.2.2
set_option maxRecDepth 100000 in
theorem bX1_otherItems_60 : (decode cX1_otherItems 60 = .ok (.iinc 4 1, 3)) ∧ (decode cX1_otherItems 63 = .ok (.goto (-46), 3)) ∧ (decode cX1_otherItems 66 = .ok (.iload_n 3, 1)) ∧ (decode cX1_otherItems 67 = .ok (.ireturn, 1)) := by decide +kernel
theorem dX1_otherItems_60 : decode cX1_otherItems 60 = .ok (.iinc 4 1, 3) := bX1_otherItems_60.1
theorem dX1_otherItems_63 : decode cX1_otherItems 63 = .ok (.goto (-46), 3) := bX1_otherItems_60.2.1
theorem dX1_otherItems_66 : decode cX1_otherItems 66 = .ok (.iload_n 3, 1) := bX1_otherItems_60.2.2.1
theorem dX1_otherItems_67 : decode cX1_otherItems 67 = .ok (.ireturn, 1) := bX1_otherItems_60.2.2.2
set_option maxRecDepth 100000 in
theorem bX1_isRising_0 : (decode cX1_isRising 0 = .ok (.iconst 1, 1)) ∧ (decode cX1_isRising 1 = .ok (.istore_n 1, 1)) ∧ (decode cX1_isRising 2 = .ok (.iload_n 1, 1)) ∧ (decode cX1_isRising 3 = .ok (.aload_n 0, 1)) ∧ (decode cX1_isRising 4 = .ok (.getfield 22, 3)) ∧ (decode cX1_isRising 7 = .ok (.if_icmp .ge 28, 3)) ∧ (decode cX1_isRising 10 = .ok (.aload_n 0, 1)) ∧ (decode cX1_isRising 11 = .ok (.getfield 9, 3)) ∧ (decode cX1_isRising 14 = .ok (.iload_n 1, 1)) ∧ (decode cX1_isRising 15 = .ok (.iconst 1, 1)) ∧ (decode cX1_isRising 16 = .ok (.isub, 1)) ∧ (decode cX1_isRising 17 = .ok (.iaload, 1)) ∧ (decode cX1_isRising 18 = .ok (.aload_n 0, 1)) ∧ (decode cX1_isRising 19 = .ok (.getfield 9, 3)) ∧ (decode cX1_isRising 22 = .ok (.iload_n 1, 1)) ∧ (decode cX1_isRising 23 = .ok (.iaload, 1)) := by decide +kernel
theorem dX1_isRising_0 : decode cX1_isRising 0 = .ok (.iconst 1, 1) := bX1_isRising_0.1
theorem dX1_isRising_1 : decode cX1_isRising 1 = .ok (.istore_n 1, 1) := bX1_isRising_0.2.1
theorem dX1_isRising_2 : decode cX1_isRising 2 = .ok (.iload_n 1, 1) := bX1_isRising_0.2.2.1
theorem dX1_isRising_3 : decode cX1_isRising 3 = .ok (.aload_n 0, 1) := bX1_isRising_0.2.2.2.1
theorem dX1_isRising_4 : decode cX1_isRising 4 = .ok (.getfield 22, 3) := bX1_isRising_0.2.2.2.2.1
theorem dX1_isRising_7 : decode cX1_isRising 7 = .ok (.if_icmp .ge 28, 3) := bX1_isRising_0.2.2.2.2.2.1
theorem dX1_isRising_10 : decode cX1_isRising 10 = .ok (.aload_n 0, 1) := bX1_isRising_0.2.2.2.2.2.2.1
theorem dX1_isRising_11 : decode cX1_isRising 11 = .ok (.getfield 9, 3) := bX1_isRising_0.2.2.2.2.2.2.2.1
theorem dX1_isRising_14 : decode cX1_isRising 14 = .ok (.iload_n 1, 1) := bX1_isRising_0.2.2.2.2.2.2.2.2.1
theorem dX1_isRising_15 : decode cX1_isRising 15 = .ok (.iconst 1, 1) := bX1_isRising_0.2.2.2.2.2.2.2.2.2.1
theorem dX1_isRising_16 : decode cX1_isRising 16 = .ok (.isub, 1) := bX1_isRising_0.2.2.2.2.2.2.2.2.2.2.1
theorem dX1_isRising_17 : decode cX1_isRising 17 = .ok (.iaload, 1) := bX1_isRising_0.2.2.2.2.2.2.2.2.2.2.2.1
theorem dX1_isRising_18 : decode cX1_isRising 18 = .ok (.aload_n 0, 1) := bX1_isRising_0.2.2.2.2.2.2.2.2.2.2.2.2.1
theorem dX1_isRising_19 : decode cX1_isRising 19 = .ok (.getfield 9, 3) := bX1_isRising_0.2.2.2.2.2.2.2.2.2.2.2.2.2.1
theorem dX1_isRising_22 : decode cX1_isRising 22 = .ok (.iload_n 1, 1) := bX1_isRising_0.2.2.2.2.2.2.2.2.2.2.2.2.2.2.1
theorem dX1_isRising_23 : decode cX1_isRising 23 = .ok (.iaload, 1) := bX1_isRising_0.2.2.2.2.2.2.2.2.2.2.2.2.2.2.2
set_option maxRecDepth 100000 in
theorem bX1_isRising_24 : (decode cX1_isRising 24 = .ok (.if_icmp .le 5, 3)) ∧ (decode cX1_isRising 27 = .ok (.iconst 0, 1)) ∧ (decode cX1_isRising 28 = .ok (.ireturn, 1)) ∧ (decode cX1_isRising 29 = .ok (.iinc 1 1, 3)) ∧ (decode cX1_isRising 32 = .ok (.goto (-30), 3)) ∧ (decode cX1_isRising 35 = .ok (.iconst 1, 1)) ∧ (decode cX1_isRising 36 = .ok (.ireturn, 1)) := by decide +kernel
theorem dX1_isRising_24 : decode cX1_isRising 24 = .ok (.if_icmp .le 5, 3) := bX1_isRising_24.1
theorem dX1_isRising_27 : decode cX1_isRising 27 = .ok (.iconst 0, 1) := bX1_isRising_24.2.1
theorem dX1_isRising_28 : decode cX1_isRising 28 = .ok (.ireturn, 1) := bX1_isRising_24.2.2.1
theorem dX1_isRising_29 : decode cX1_isRising 29 = .ok (.iinc 1 1, 3) := bX1_isRising_24.2.2.2.1
theorem dX1_isRising_32 : decode cX1_isRising 32 = .ok (.goto (-30), 3) := bX1_isRising_24.2.2.2.2.1
theorem dX1_isRising_35 : decode cX1_isRising 35 = .ok (.iconst 1, 1) := bX1_isRising_24.2.2.2.2.2.1
theorem dX1_isRising_36 : decode cX1_isRising 36 = .ok (.ireturn, 1) := bX1_isRising_24.2.2.2.2.2.2
set_option maxRecDepth 100000 in
theorem bX1_fallsThroughout_0 : (decode cX1_fallsThroughout 0 = .ok (.iconst 1, 1)) ∧ (decode cX1_fallsThroughout 1 = .ok (.istore_n 1, 1)) ∧ (decode cX1_fallsThroughout 2 = .ok (.iload_n 1, 1)) ∧ (decode cX1_fallsThroughout 3 = .ok (.aload_n 0, 1)) ∧ (decode cX1_fallsThroughout 4 = .ok (.getfield 22, 3)) ∧ (decode cX1_fallsThroughout 7 = .ok (.if_icmp .ge 28, 3)) ∧ (decode cX1_fallsThroughout 10 = .ok (.aload_n 0, 1)) ∧ (decode cX1_fallsThroughout 11 = .ok (.getfield 9, 3)) ∧ (decode cX1_fallsThroughout 14 = .ok (.iload_n 1, 1)) ∧ (decode cX1_fallsThroughout 15 = .ok (.iconst 1, 1)) ∧ (decode cX1_fallsThroughout 16 = .ok (.isub, 1)) ∧ (decode cX1_fallsThroughout 17 = .ok (.iaload, 1)) ∧ (decode cX1_fallsThroughout 18 = .ok (.aload_n 0, 1)) ∧ (decode cX1_fallsThroughout 19 = .ok (.getfield 9, 3)) ∧ (decode cX1_fallsThroughout 22 = .ok (.iload_n 1, 1)) ∧ (decode cX1_fallsThroughout 23 = .ok (.iaload, 1)) := by decide +kernel
theorem dX1_fallsThroughout_0 : decode cX1_fallsThroughout 0 = .ok (.iconst 1, 1) := bX1_fallsThroughout_0.1
theorem dX1_fallsThroughout_1 : decode cX1_fallsThroughout 1 = .ok (.istore_n 1, 1) := bX1_fallsThroughout_0.2.1
theorem dX1_fallsThroughout_2 : decode cX1_fallsThroughout 2 = .ok (.iload_n 1, 1) := bX1_fallsThroughout_0.2.2.1
theorem dX1_fallsThroughout_3 : decode cX1_fallsThroughout 3 = .ok (.aload_n 0, 1) := bX1_fallsThroughout_0.2.2.2.1
theorem dX1_fallsThroughout_4 : decode cX1_fallsThroughout 4 = .ok (.getfield 22, 3) := bX1_fallsThroughout_0.2.2.2.2.1
theorem dX1_fallsThroughout_7 : decode cX1_fallsThroughout 7 = .ok (.if_icmp .ge 28, 3) := bX1_fallsThroughout_0.2.2.2.2.2.1
theorem dX1_fallsThroughout_10 : decode cX1_fallsThroughout 10 = .ok (.aload_n 0, 1) := bX1_fallsThroughout_0.2.2.2.2.2.2.1
theorem dX1_fallsThroughout_11 : decode cX1_fallsThroughout 11 = .ok (.getfield 9, 3) := bX1_fallsThroughout_0.2.2.2.2.2.2.2.1
theorem dX1_fallsThroughout_14 : decode cX1_fallsThroughout 14 = .ok (.iload_n 1, 1) := bX1_fallsThroughout_0.2.2.2.2.2.2.2.2.1
theorem dX1_fallsThroughout_15 : decode cX1_fallsThroughout 15 = .ok (.iconst 1, 1) := bX1_fallsThroughout_0.2.2.2.2.2.2.2.2.2.1
theorem dX1_fallsThroughout_16 : decode cX1_fallsThroughout 16 = .ok (.isub, 1) := bX1_fallsThroughout_0.2.2.2.2.2.2.2.2.2.2.1
theorem dX1_fallsThroughout_17 : decode cX1_fallsThroughout 17 = .ok (.iaload, 1) := bX1_fallsThroughout_0.2.2.2.2.2.2.2.2.2.2.2.1
theorem dX1_fallsThroughout_18 : decode cX1_fallsThroughout 18 = .ok (.aload_n 0, 1) := bX1_fallsThroughout_0.2.2.2.2.2.2.2.2.2.2.2.2.1
theorem dX1_fallsThroughout_19 : decode cX1_fallsThroughout 19 = .ok (.getfield 9, 3) := bX1_fallsThroughout_0.2.2.2.2.2.2.2.2.2.2.2.2.2.1
theorem dX1_fallsThroughout_22 : decode cX1_fallsThroughout 22 = .ok (.iload_n 1, 1) := bX1_fallsThroughout_0.2.2.2.2.2.2.2.2.2.2.2.2.2.2.1
theorem dX1_fallsThroughout_23 : decode cX1_fallsThroughout 23 = .ok (.iaload, 1) := bX1_fallsThroughout_0.2.2.2.2.2.2.2.2.2.2.2.2.2.2.2
set_option maxRecDepth 100000 in
theorem bX1_fallsThroughout_24 : (decode cX1_fallsThroughout 24 = .ok (.if_icmp .gt 5, 3)) ∧ (decode cX1_fallsThroughout 27 = .ok (.iconst 0, 1)) ∧ (decode cX1_fallsThroughout 28 = .ok (.ireturn, 1)) ∧ (decode cX1_fallsThroughout 29 = .ok (.iinc 1 1, 3)) ∧ (decode cX1_fallsThroughout 32 = .ok (.goto (-30), 3)) ∧ (decode cX1_fallsThroughout 35 = .ok (.iconst 1, 1)) ∧ (decode cX1_fallsThroughout 36 = .ok (.ireturn, 1)) := by decide +kernel
theorem dX1_fallsThroughout_24 : decode cX1_fallsThroughout 24 = .ok (.if_icmp .gt 5, 3) := bX1_fallsThroughout_24.1
theorem dX1_fallsThroughout_27 : decode cX1_fallsThroughout 27 = .ok (.iconst 0, 1) := bX1_fallsThroughout_24.2.1
theorem dX1_fallsThroughout_28 : decode cX1_fallsThroughout 28 = .ok (.ireturn, 1) := bX1_fallsThroughout_24.2.2.1
theorem dX1_fallsThroughout_29 : decode cX1_fallsThroughout 29 = .ok (.iinc 1 1, 3) := bX1_fallsThroughout_24.2.2.2.1
theorem dX1_fallsThroughout_32 : decode cX1_fallsThroughout 32 = .ok (.goto (-30), 3) := bX1_fallsThroughout_24.2.2.2.2.1
theorem dX1_fallsThroughout_35 : decode cX1_fallsThroughout 35 = .ok (.iconst 1, 1) := bX1_fallsThroughout_24.2.2.2.2.2.1
theorem dX1_fallsThroughout_36 : decode cX1_fallsThroughout 36 = .ok (.ireturn, 1) := bX1_fallsThroughout_24.2.2.2.2.2.2
set_option maxRecDepth 100000 in
theorem bX1_keepsStamps_0 : (decode cX1_keepsStamps 0 = .ok (.iconst 1, 1)) ∧ (decode cX1_keepsStamps 1 = .ok (.istore_n 1, 1)) ∧ (decode cX1_keepsStamps 2 = .ok (.iload_n 1, 1)) ∧ (decode cX1_keepsStamps 3 = .ok (.aload_n 0, 1)) ∧ (decode cX1_keepsStamps 4 = .ok (.getfield 22, 3)) ∧ (decode cX1_keepsStamps 7 = .ok (.if_icmp .ge 45, 3)) ∧ (decode cX1_keepsStamps 10 = .ok (.aload_n 0, 1)) ∧ (decode cX1_keepsStamps 11 = .ok (.getfield 9, 3)) ∧ (decode cX1_keepsStamps 14 = .ok (.iload_n 1, 1)) ∧ (decode cX1_keepsStamps 15 = .ok (.iconst 1, 1)) ∧ (decode cX1_keepsStamps 16 = .ok (.isub, 1)) ∧ (decode cX1_keepsStamps 17 = .ok (.iaload, 1)) ∧ (decode cX1_keepsStamps 18 = .ok (.aload_n 0, 1)) ∧ (decode cX1_keepsStamps 19 = .ok (.getfield 9, 3)) ∧ (decode cX1_keepsStamps 22 = .ok (.iload_n 1, 1)) ∧ (decode cX1_keepsStamps 23 = .ok (.iaload, 1)) := by decide +kernel
theorem dX1_keepsStamps_0 : decode cX1_keepsStamps 0 = .ok (.iconst 1, 1) := bX1_keepsStamps_0.1
theorem dX1_keepsStamps_1 : decode cX1_keepsStamps 1 = .ok (.istore_n 1, 1) := bX1_keepsStamps_0.2.1
theorem dX1_keepsStamps_2 : decode cX1_keepsStamps 2 = .ok (.iload_n 1, 1) := bX1_keepsStamps_0.2.2.1
theorem dX1_keepsStamps_3 : decode cX1_keepsStamps 3 = .ok (.aload_n 0, 1) := bX1_keepsStamps_0.2.2.2.1
theorem dX1_keepsStamps_4 : decode cX1_keepsStamps 4 = .ok (.getfield 22, 3) := bX1_keepsStamps_0.2.2.2.2.1
theorem dX1_keepsStamps_7 : decode cX1_keepsStamps 7 = .ok (.if_icmp .ge 45, 3) := bX1_keepsStamps_0.2.2.2.2.2.1
theorem dX1_keepsStamps_10 : decode cX1_keepsStamps 10 = .ok (.aload_n 0, 1) := bX1_keepsStamps_0.2.2.2.2.2.2.1
theorem dX1_keepsStamps_11 : decode cX1_keepsStamps 11 = .ok (.getfield 9, 3) := bX1_keepsStamps_0.2.2.2.2.2.2.2.1
theorem dX1_keepsStamps_14 : decode cX1_keepsStamps 14 = .ok (.iload_n 1, 1) := bX1_keepsStamps_0.2.2.2.2.2.2.2.2.1
theorem dX1_keepsStamps_15 : decode cX1_keepsStamps 15 = .ok (.iconst 1, 1) := bX1_keepsStamps_0.2.2.2.2.2.2.2.2.2.1
theorem dX1_keepsStamps_16 : decode cX1_keepsStamps 16 = .ok (.isub, 1) := bX1_keepsStamps_0.2.2.2.2.2.2.2.2.2.2.1
theorem dX1_keepsStamps_17 : decode cX1_keepsStamps 17 = .ok (.iaload, 1) := bX1_keepsStamps_0.2.2.2.2.2.2.2.2.2.2.2.1
theorem dX1_keepsStamps_18 : decode cX1_keepsStamps 18 = .ok (.aload_n 0, 1) := bX1_keepsStamps_0.2.2.2.2.2.2.2.2.2.2.2.2.1
theorem dX1_keepsStamps_19 : decode cX1_keepsStamps 19 = .ok (.getfield 9, 3) := bX1_keepsStamps_0.2.2.2.2.2.2.2.2.2.2.2.2.2.1
theorem dX1_keepsStamps_22 : decode cX1_keepsStamps 22 = .ok (.iload_n 1, 1) := bX1_keepsStamps_0.2.2.2.2.2.2.2.2.2.2.2.2.2.2.1
theorem dX1_keepsStamps_23 : decode cX1_keepsStamps 23 = .ok (.iaload, 1) := bX1_keepsStamps_0.2.2.2.2.2.2.2.2.2.2.2.2.2.2.2
set_option maxRecDepth 100000 in
theorem bX1_keepsStamps_24 : (decode cX1_keepsStamps 24 = .ok (.if_icmp .ne 22, 3)) ∧ (decode cX1_keepsStamps 27 = .ok (.aload_n 0, 1)) ∧ (decode cX1_keepsStamps 28 = .ok (.getfield 15, 3)) ∧ (decode cX1_keepsStamps 31 = .ok (.iload_n 1, 1)) ∧ (decode cX1_keepsStamps 32 = .ok (.iconst 1, 1)) ∧ (decode cX1_keepsStamps 33 = .ok (.isub, 1)) ∧ (decode cX1_keepsStamps 34 = .ok (.iaload, 1)) ∧ (decode cX1_keepsStamps 35 = .ok (.aload_n 0, 1)) ∧ (decode cX1_keepsStamps 36 = .ok (.getfield 15, 3)) ∧ (decode cX1_keepsStamps 39 = .ok (.iload_n 1, 1)) ∧ (decode cX1_keepsStamps 40 = .ok (.iaload, 1)) ∧ (decode cX1_keepsStamps 41 = .ok (.if_icmp .le 5, 3)) ∧ (decode cX1_keepsStamps 44 = .ok (.iconst 0, 1)) ∧ (decode cX1_keepsStamps 45 = .ok (.ireturn, 1)) ∧ (decode cX1_keepsStamps 46 = .ok (.iinc 1 1, 3)) ∧ (decode cX1_keepsStamps 49 = .ok (.goto (-47), 3)) := by decide +kernel
theorem dX1_keepsStamps_24 : decode cX1_keepsStamps 24 = .ok (.if_icmp .ne 22, 3) := bX1_keepsStamps_24.1
theorem dX1_keepsStamps_27 : decode cX1_keepsStamps 27 = .ok (.aload_n 0, 1) := bX1_keepsStamps_24.2.1
theorem dX1_keepsStamps_28 : decode cX1_keepsStamps 28 = .ok (.getfield 15, 3) := bX1_keepsStamps_24.2.2.1
theorem dX1_keepsStamps_31 : decode cX1_keepsStamps 31 = .ok (.iload_n 1, 1) := bX1_keepsStamps_24.2.2.2.1
theorem dX1_keepsStamps_32 : decode cX1_keepsStamps 32 = .ok (.iconst 1, 1) := bX1_keepsStamps_24.2.2.2.2.1
theorem dX1_keepsStamps_33 : decode cX1_keepsStamps 33 = .ok (.isub, 1) := bX1_keepsStamps_24.2.2.2.2.2.1
theorem dX1_keepsStamps_34 : decode cX1_keepsStamps 34 = .ok (.iaload, 1) := bX1_keepsStamps_24.2.2.2.2.2.2.1
theorem dX1_keepsStamps_35 : decode cX1_keepsStamps 35 = .ok (.aload_n 0, 1) := bX1_keepsStamps_24.2.2.2.2.2.2.2.1
theorem dX1_keepsStamps_36 : decode cX1_keepsStamps 36 = .ok (.getfield 15, 3) := bX1_keepsStamps_24.2.2.2.2.2.2.2.2.1
theorem dX1_keepsStamps_39 : decode cX1_keepsStamps 39 = .ok (.iload_n 1, 1) := bX1_keepsStamps_24.2.2.2.2.2.2.2.2.2.1
theorem dX1_keepsStamps_40 : decode cX1_keepsStamps 40 = .ok (.iaload, 1) := bX1_keepsStamps_24.2.2.2.2.2.2.2.2.2.2.1
theorem dX1_keepsStamps_41 : decode cX1_keepsStamps 41 = .ok (.if_icmp .le 5, 3) := bX1_keepsStamps_24.2.2.2.2.2.2.2.2.2.2.2.1
theorem dX1_keepsStamps_44 : decode cX1_keepsStamps 44 = .ok (.iconst 0, 1) := bX1_keepsStamps_24.2.2.2.2.2.2.2.2.2.2.2.2.1
theorem dX1_keepsStamps_45 : decode cX1_keepsStamps 45 = .ok (.ireturn, 1) := bX1_keepsStamps_24.2.2.2.2.2.2.2.2.2.2.2.2.2.1
theorem dX1_keepsStamps_46 : decode cX1_keepsStamps 46 = .ok (.iinc 1 1, 3) := bX1_keepsStamps_24.2.2.2.2.2.2.2.2.2.2.2.2.2.2.1
theorem dX1_keepsStamps_49 : decode cX1_keepsStamps 49 = .ok (.goto (-47), 3) := bX1_keepsStamps_24.2.2.2.2.2.2.2.2.2.2.2.2.2.2.2
set_option maxRecDepth 100000 in
theorem bX1_keepsStamps_52 : (decode cX1_keepsStamps 52 = .ok (.iconst 1, 1)) ∧ (decode cX1_keepsStamps 53 = .ok (.ireturn, 1)) := by decide +kernel
theorem dX1_keepsStamps_52 : decode cX1_keepsStamps 52 = .ok (.iconst 1, 1) := bX1_keepsStamps_52.1
theorem dX1_keepsStamps_53 : decode cX1_keepsStamps 53 = .ok (.ireturn, 1) := bX1_keepsStamps_52.2
set_option maxRecDepth 100000 in
theorem bX1_rankAt_0 : (decode cX1_rankAt 0 = .ok (.aload_n 0, 1)) ∧ (decode cX1_rankAt 1 = .ok (.getfield 9, 3)) ∧ (decode cX1_rankAt 4 = .ok (.iload_n 1, 1)) ∧ (decode cX1_rankAt 5 = .ok (.iaload, 1)) ∧ (decode cX1_rankAt 6 = .ok (.istore_n 2, 1)) ∧ (decode cX1_rankAt 7 = .ok (.iconst 0, 1)) ∧ (decode cX1_rankAt 8 = .ok (.istore_n 3, 1)) ∧ (decode cX1_rankAt 9 = .ok (.iconst 0, 1)) ∧ (decode cX1_rankAt 10 = .ok (.istore 4, 2)) ∧ (decode cX1_rankAt 12 = .ok (.iload 4, 2)) ∧ (decode cX1_rankAt 14 = .ok (.aload_n 0, 1)) ∧ (decode cX1_rankAt 15 = .ok (.getfield 22, 3)) ∧ (decode cX1_rankAt 18 = .ok (.if_icmp .ge 40, 3)) ∧ (decode cX1_rankAt 21 = .ok (.aload_n 0, 1)) ∧ (decode cX1_rankAt 22 = .ok (.getfield 9, 3)) ∧ (decode cX1_rankAt 25 = .ok (.iload 4, 2)) := by decide +kernel
theorem dX1_rankAt_0 : decode cX1_rankAt 0 = .ok (.aload_n 0, 1) := bX1_rankAt_0.1
theorem dX1_rankAt_1 : decode cX1_rankAt 1 = .ok (.getfield 9, 3) := bX1_rankAt_0.2.1
theorem dX1_rankAt_4 : decode cX1_rankAt 4 = .ok (.iload_n 1, 1) := bX1_rankAt_0.2.2.1
theorem dX1_rankAt_5 : decode cX1_rankAt 5 = .ok (.iaload, 1) := bX1_rankAt_0.2.2.2.1
theorem dX1_rankAt_6 : decode cX1_rankAt 6 = .ok (.istore_n 2, 1) := bX1_rankAt_0.2.2.2.2.1
theorem dX1_rankAt_7 : decode cX1_rankAt 7 = .ok (.iconst 0, 1) := bX1_rankAt_0.2.2.2.2.2.1
theorem dX1_rankAt_8 : decode cX1_rankAt 8 = .ok (.istore_n 3, 1) := bX1_rankAt_0.2.2.2.2.2.2.1
theorem dX1_rankAt_9 : decode cX1_rankAt 9 = .ok (.iconst 0, 1) := bX1_rankAt_0.2.2.2.2.2.2.2.1
theorem dX1_rankAt_10 : decode cX1_rankAt 10 = .ok (.istore 4, 2) := bX1_rankAt_0.2.2.2.2.2.2.2.2.1
theorem dX1_rankAt_12 : decode cX1_rankAt 12 = .ok (.iload 4, 2) := bX1_rankAt_0.2.2.2.2.2.2.2.2.2.1
theorem dX1_rankAt_14 : decode cX1_rankAt 14 = .ok (.aload_n 0, 1) := bX1_rankAt_0.2.2.2.2.2.2.2.2.2.2.1
theorem dX1_rankAt_15 : decode cX1_rankAt 15 = .ok (.getfield 22, 3) := bX1_rankAt_0.2.2.2.2.2.2.2.2.2.2.2.1
theorem dX1_rankAt_18 : decode cX1_rankAt 18 = .ok (.if_icmp .ge 40, 3) := bX1_rankAt_0.2.2.2.2.2.2.2.2.2.2.2.2.1
theorem dX1_rankAt_21 : decode cX1_rankAt 21 = .ok (.aload_n 0, 1) := bX1_rankAt_0.2.2.2.2.2.2.2.2.2.2.2.2.2.1
theorem dX1_rankAt_22 : decode cX1_rankAt 22 = .ok (.getfield 9, 3) := bX1_rankAt_0.2.2.2.2.2.2.2.2.2.2.2.2.2.2.1
theorem dX1_rankAt_25 : decode cX1_rankAt 25 = .ok (.iload 4, 2) := bX1_rankAt_0.2.2.2.2.2.2.2.2.2.2.2.2.2.2.2
set_option maxRecDepth 100000 in
theorem bX1_rankAt_27 : (decode cX1_rankAt 27 = .ok (.iaload, 1)) ∧ (decode cX1_rankAt 28 = .ok (.iload_n 2, 1)) ∧ (decode cX1_rankAt 29 = .ok (.if_icmp .lt 20, 3)) ∧ (decode cX1_rankAt 32 = .ok (.iload 4, 2)) ∧ (decode cX1_rankAt 34 = .ok (.iload_n 1, 1)) ∧ (decode cX1_rankAt 35 = .ok (.if_icmp .ge 17, 3)) ∧ (decode cX1_rankAt 38 = .ok (.aload_n 0, 1)) ∧ (decode cX1_rankAt 39 = .ok (.getfield 9, 3)) ∧ (decode cX1_rankAt 42 = .ok (.iload 4, 2)) ∧ (decode cX1_rankAt 44 = .ok (.iaload, 1)) ∧ (decode cX1_rankAt 45 = .ok (.iload_n 2, 1)) ∧ (decode cX1_rankAt 46 = .ok (.if_icmp .ne 6, 3)) ∧ (decode cX1_rankAt 49 = .ok (.iinc 3 1, 3)) ∧ (decode cX1_rankAt 52 = .ok (.iinc 4 1, 3)) ∧ (decode cX1_rankAt 55 = .ok (.goto (-43), 3)) ∧ (decode cX1_rankAt 58 = .ok (.iload_n 3, 1)) := by decide +kernel
theorem dX1_rankAt_27 : decode cX1_rankAt 27 = .ok (.iaload, 1) := bX1_rankAt_27.1
theorem dX1_rankAt_28 : decode cX1_rankAt 28 = .ok (.iload_n 2, 1) := bX1_rankAt_27.2.1
theorem dX1_rankAt_29 : decode cX1_rankAt 29 = .ok (.if_icmp .lt 20, 3) := bX1_rankAt_27.2.2.1
theorem dX1_rankAt_32 : decode cX1_rankAt 32 = .ok (.iload 4, 2) := bX1_rankAt_27.2.2.2.1
theorem dX1_rankAt_34 : decode cX1_rankAt 34 = .ok (.iload_n 1, 1) := bX1_rankAt_27.2.2.2.2.1
theorem dX1_rankAt_35 : decode cX1_rankAt 35 = .ok (.if_icmp .ge 17, 3) := bX1_rankAt_27.2.2.2.2.2.1
theorem dX1_rankAt_38 : decode cX1_rankAt 38 = .ok (.aload_n 0, 1) := bX1_rankAt_27.2.2.2.2.2.2.1
theorem dX1_rankAt_39 : decode cX1_rankAt 39 = .ok (.getfield 9, 3) := bX1_rankAt_27.2.2.2.2.2.2.2.1
theorem dX1_rankAt_42 : decode cX1_rankAt 42 = .ok (.iload 4, 2) := bX1_rankAt_27.2.2.2.2.2.2.2.2.1
theorem dX1_rankAt_44 : decode cX1_rankAt 44 = .ok (.iaload, 1) := bX1_rankAt_27.2.2.2.2.2.2.2.2.2.1
theorem dX1_rankAt_45 : decode cX1_rankAt 45 = .ok (.iload_n 2, 1) := bX1_rankAt_27.2.2.2.2.2.2.2.2.2.2.1
theorem dX1_rankAt_46 : decode cX1_rankAt 46 = .ok (.if_icmp .ne 6, 3) := bX1_rankAt_27.2.2.2.2.2.2.2.2.2.2.2.1
theorem dX1_rankAt_49 : decode cX1_rankAt 49 = .ok (.iinc 3 1, 3) := bX1_rankAt_27.2.2.2.2.2.2.2.2.2.2.2.2.1
theorem dX1_rankAt_52 : decode cX1_rankAt 52 = .ok (.iinc 4 1, 3) := bX1_rankAt_27.2.2.2.2.2.2.2.2.2.2.2.2.2.1
theorem dX1_rankAt_55 : decode cX1_rankAt 55 = .ok (.goto (-43), 3) := bX1_rankAt_27.2.2.2.2.2.2.2.2.2.2.2.2.2.2.1
theorem dX1_rankAt_58 : decode cX1_rankAt 58 = .ok (.iload_n 3, 1) := bX1_rankAt_27.2.2.2.2.2.2.2.2.2.2.2.2.2.2.2
theorem dX1_rankAt_59 : decode cX1_rankAt 59 = .ok (.ireturn, 1) := by decide +kernel
set_option maxRecDepth 100000 in
theorem bX1_standsByRanksIn_0 : (decode cX1_standsByRanksIn 0 = .ok (.iconst 0, 1)) ∧ (decode cX1_standsByRanksIn 1 = .ok (.istore_n 2, 1)) ∧ (decode cX1_standsByRanksIn 2 = .ok (.iload_n 2, 1)) ∧ (decode cX1_standsByRanksIn 3 = .ok (.aload_n 0, 1)) ∧ (decode cX1_standsByRanksIn 4 = .ok (.getfield 22, 3)) ∧ (decode cX1_standsByRanksIn 7 = .ok (.if_icmp .ge 55, 3)) ∧ (decode cX1_standsByRanksIn 10 = .ok (.aload_n 0, 1)) ∧ (decode cX1_standsByRanksIn 11 = .ok (.iload_n 2, 1)) ∧ (decode cX1_standsByRanksIn 12 = .ok (.invokevirtual 42, 3)) ∧ (decode cX1_standsByRanksIn 15 = .ok (.istore_n 3, 1)) ∧ (decode cX1_standsByRanksIn 16 = .ok (.iload_n 3, 1)) ∧ (decode cX1_standsByRanksIn 17 = .ok (.aload_n 1, 1)) ∧ (decode cX1_standsByRanksIn 18 = .ok (.getfield 22, 3)) ∧ (decode cX1_standsByRanksIn 21 = .ok (.if_icmp .ge 33, 3)) ∧ (decode cX1_standsByRanksIn 24 = .ok (.aload_n 1, 1)) ∧ (decode cX1_standsByRanksIn 25 = .ok (.getfield 9, 3)) := by decide +kernel
theorem dX1_standsByRanksIn_0 : decode cX1_standsByRanksIn 0 = .ok (.iconst 0, 1) := bX1_standsByRanksIn_0.1
theorem dX1_standsByRanksIn_1 : decode cX1_standsByRanksIn 1 = .ok (.istore_n 2, 1) := bX1_standsByRanksIn_0.2.1
theorem dX1_standsByRanksIn_2 : decode cX1_standsByRanksIn 2 = .ok (.iload_n 2, 1) := bX1_standsByRanksIn_0.2.2.1
theorem dX1_standsByRanksIn_3 : decode cX1_standsByRanksIn 3 = .ok (.aload_n 0, 1) := bX1_standsByRanksIn_0.2.2.2.1
theorem dX1_standsByRanksIn_4 : decode cX1_standsByRanksIn 4 = .ok (.getfield 22, 3) := bX1_standsByRanksIn_0.2.2.2.2.1
theorem dX1_standsByRanksIn_7 : decode cX1_standsByRanksIn 7 = .ok (.if_icmp .ge 55, 3) := bX1_standsByRanksIn_0.2.2.2.2.2.1
theorem dX1_standsByRanksIn_10 : decode cX1_standsByRanksIn 10 = .ok (.aload_n 0, 1) := bX1_standsByRanksIn_0.2.2.2.2.2.2.1
theorem dX1_standsByRanksIn_11 : decode cX1_standsByRanksIn 11 = .ok (.iload_n 2, 1) := bX1_standsByRanksIn_0.2.2.2.2.2.2.2.1
theorem dX1_standsByRanksIn_12 : decode cX1_standsByRanksIn 12 = .ok (.invokevirtual 42, 3) := bX1_standsByRanksIn_0.2.2.2.2.2.2.2.2.1
theorem dX1_standsByRanksIn_15 : decode cX1_standsByRanksIn 15 = .ok (.istore_n 3, 1) := bX1_standsByRanksIn_0.2.2.2.2.2.2.2.2.2.1
theorem dX1_standsByRanksIn_16 : decode cX1_standsByRanksIn 16 = .ok (.iload_n 3, 1) := bX1_standsByRanksIn_0.2.2.2.2.2.2.2.2.2.2.1
theorem dX1_standsByRanksIn_17 : decode cX1_standsByRanksIn 17 = .ok (.aload_n 1, 1) := bX1_standsByRanksIn_0.2.2.2.2.2.2.2.2.2.2.2.1
theorem dX1_standsByRanksIn_18 : decode cX1_standsByRanksIn 18 = .ok (.getfield 22, 3) := bX1_standsByRanksIn_0.2.2.2.2.2.2.2.2.2.2.2.2.1
theorem dX1_standsByRanksIn_21 : decode cX1_standsByRanksIn 21 = .ok (.if_icmp .ge 33, 3) := bX1_standsByRanksIn_0.2.2.2.2.2.2.2.2.2.2.2.2.2.1
theorem dX1_standsByRanksIn_24 : decode cX1_standsByRanksIn 24 = .ok (.aload_n 1, 1) := bX1_standsByRanksIn_0.2.2.2.2.2.2.2.2.2.2.2.2.2.2.1
theorem dX1_standsByRanksIn_25 : decode cX1_standsByRanksIn 25 = .ok (.getfield 9, 3) := bX1_standsByRanksIn_0.2.2.2.2.2.2.2.2.2.2.2.2.2.2.2
set_option maxRecDepth 100000 in
theorem bX1_standsByRanksIn_28 : (decode cX1_standsByRanksIn 28 = .ok (.iload_n 3, 1)) ∧ (decode cX1_standsByRanksIn 29 = .ok (.iaload, 1)) ∧ (decode cX1_standsByRanksIn 30 = .ok (.aload_n 0, 1)) ∧ (decode cX1_standsByRanksIn 31 = .ok (.getfield 9, 3)) ∧ (decode cX1_standsByRanksIn 34 = .ok (.iload_n 2, 1)) ∧ (decode cX1_standsByRanksIn 35 = .ok (.iaload, 1)) ∧ (decode cX1_standsByRanksIn 36 = .ok (.if_icmp .ne 18, 3)) ∧ (decode cX1_standsByRanksIn 39 = .ok (.aload_n 1, 1)) ∧ (decode cX1_standsByRanksIn 40 = .ok (.getfield 15, 3)) ∧ (decode cX1_standsByRanksIn 43 = .ok (.iload_n 3, 1)) ∧ (decode cX1_standsByRanksIn 44 = .ok (.iaload, 1)) ∧ (decode cX1_standsByRanksIn 45 = .ok (.aload_n 0, 1)) ∧ (decode cX1_standsByRanksIn 46 = .ok (.getfield 15, 3)) ∧ (decode cX1_standsByRanksIn 49 = .ok (.iload_n 2, 1)) ∧ (decode cX1_standsByRanksIn 50 = .ok (.iaload, 1)) ∧ (decode cX1_standsByRanksIn 51 = .ok (.if_icmp .eq 5, 3)) := by decide +kernel
theorem dX1_standsByRanksIn_28 : decode cX1_standsByRanksIn 28 = .ok (.iload_n 3, 1) := bX1_standsByRanksIn_28.1
theorem dX1_standsByRanksIn_29 : decode cX1_standsByRanksIn 29 = .ok (.iaload, 1) := bX1_standsByRanksIn_28.2.1
theorem dX1_standsByRanksIn_30 : decode cX1_standsByRanksIn 30 = .ok (.aload_n 0, 1) := bX1_standsByRanksIn_28.2.2.1
theorem dX1_standsByRanksIn_31 : decode cX1_standsByRanksIn 31 = .ok (.getfield 9, 3) := bX1_standsByRanksIn_28.2.2.2.1
theorem dX1_standsByRanksIn_34 : decode cX1_standsByRanksIn 34 = .ok (.iload_n 2, 1) := bX1_standsByRanksIn_28.2.2.2.2.1
theorem dX1_standsByRanksIn_35 : decode cX1_standsByRanksIn 35 = .ok (.iaload, 1) := bX1_standsByRanksIn_28.2.2.2.2.2.1
theorem dX1_standsByRanksIn_36 : decode cX1_standsByRanksIn 36 = .ok (.if_icmp .ne 18, 3) := bX1_standsByRanksIn_28.2.2.2.2.2.2.1
theorem dX1_standsByRanksIn_39 : decode cX1_standsByRanksIn 39 = .ok (.aload_n 1, 1) := bX1_standsByRanksIn_28.2.2.2.2.2.2.2.1
theorem dX1_standsByRanksIn_40 : decode cX1_standsByRanksIn 40 = .ok (.getfield 15, 3) := bX1_standsByRanksIn_28.2.2.2.2.2.2.2.2.1
theorem dX1_standsByRanksIn_43 : decode cX1_standsByRanksIn 43 = .ok (.iload_n 3, 1) := bX1_standsByRanksIn_28.2.2.2.2.2.2.2.2.2.1
theorem dX1_standsByRanksIn_44 : decode cX1_standsByRanksIn 44 = .ok (.iaload, 1) := bX1_standsByRanksIn_28.2.2.2.2.2.2.2.2.2.2.1
theorem dX1_standsByRanksIn_45 : decode cX1_standsByRanksIn 45 = .ok (.aload_n 0, 1) := bX1_standsByRanksIn_28.2.2.2.2.2.2.2.2.2.2.2.1
theorem dX1_standsByRanksIn_46 : decode cX1_standsByRanksIn 46 = .ok (.getfield 15, 3) := bX1_standsByRanksIn_28.2.2.2.2.2.2.2.2.2.2.2.2.1
theorem dX1_standsByRanksIn_49 : decode cX1_standsByRanksIn 49 = .ok (.iload_n 2, 1) := bX1_standsByRanksIn_28.2.2.2.2.2.2.2.2.2.2.2.2.2.1
theorem dX1_standsByRanksIn_50 : decode cX1_standsByRanksIn 50 = .ok (.iaload, 1) := bX1_standsByRanksIn_28.2.2.2.2.2.2.2.2.2.2.2.2.2.2.1
theorem dX1_standsByRanksIn_51 : decode cX1_standsByRanksIn 51 = .ok (.if_icmp .eq 5, 3) := bX1_standsByRanksIn_28.2.2.2.2.2.2.2.2.2.2.2.2.2.2.2
set_option maxRecDepth 100000 in
theorem bX1_standsByRanksIn_54 : (decode cX1_standsByRanksIn 54 = .ok (.iconst 0, 1)) ∧ (decode cX1_standsByRanksIn 55 = .ok (.ireturn, 1)) ∧ (decode cX1_standsByRanksIn 56 = .ok (.iinc 2 1, 3)) ∧ (decode cX1_standsByRanksIn 59 = .ok (.goto (-57), 3)) ∧ (decode cX1_standsByRanksIn 62 = .ok (.iconst 1, 1)) ∧ (decode cX1_standsByRanksIn 63 = .ok (.ireturn, 1)) := by decide +kernel
theorem dX1_standsByRanksIn_54 : decode cX1_standsByRanksIn 54 = .ok (.iconst 0, 1) := bX1_standsByRanksIn_54.1
theorem dX1_standsByRanksIn_55 : decode cX1_standsByRanksIn 55 = .ok (.ireturn, 1) := bX1_standsByRanksIn_54.2.1
theorem dX1_standsByRanksIn_56 : decode cX1_standsByRanksIn 56 = .ok (.iinc 2 1, 3) := bX1_standsByRanksIn_54.2.2.1
theorem dX1_standsByRanksIn_59 : decode cX1_standsByRanksIn 59 = .ok (.goto (-57), 3) := bX1_standsByRanksIn_54.2.2.2.1
theorem dX1_standsByRanksIn_62 : decode cX1_standsByRanksIn 62 = .ok (.iconst 1, 1) := bX1_standsByRanksIn_54.2.2.2.2.1
theorem dX1_standsByRanksIn_63 : decode cX1_standsByRanksIn 63 = .ok (.ireturn, 1) := bX1_standsByRanksIn_54.2.2.2.2.2
set_option maxRecDepth 100000 in
theorem bX1_wrongPairsWith_0 : (decode cX1_wrongPairsWith 0 = .ok (.aload_n 0, 1)) ∧ (decode cX1_wrongPairsWith 1 = .ok (.getfield 9, 3)) ∧ (decode cX1_wrongPairsWith 4 = .ok (.iload_n 1, 1)) ∧ (decode cX1_wrongPairsWith 5 = .ok (.iaload, 1)) ∧ (decode cX1_wrongPairsWith 6 = .ok (.istore_n 2, 1)) ∧ (decode cX1_wrongPairsWith 7 = .ok (.iconst 0, 1)) ∧ (decode cX1_wrongPairsWith 8 = .ok (.istore_n 3, 1)) ∧ (decode cX1_wrongPairsWith 9 = .ok (.iconst 0, 1)) ∧ (decode cX1_wrongPairsWith 10 = .ok (.istore 4, 2)) ∧ (decode cX1_wrongPairsWith 12 = .ok (.iload 4, 2)) ∧ (decode cX1_wrongPairsWith 14 = .ok (.iload_n 1, 1)) ∧ (decode cX1_wrongPairsWith 15 = .ok (.if_icmp .ge 23, 3)) ∧ (decode cX1_wrongPairsWith 18 = .ok (.aload_n 0, 1)) ∧ (decode cX1_wrongPairsWith 19 = .ok (.getfield 9, 3)) ∧ (decode cX1_wrongPairsWith 22 = .ok (.iload 4, 2)) ∧ (decode cX1_wrongPairsWith 24 = .ok (.iaload, 1)) := by decide +kernel
theorem dX1_wrongPairsWith_0 : decode cX1_wrongPairsWith 0 = .ok (.aload_n 0, 1) := bX1_wrongPairsWith_0.1
theorem dX1_wrongPairsWith_1 : decode cX1_wrongPairsWith 1 = .ok (.getfield 9, 3) := bX1_wrongPairsWith_0.2.1
theorem dX1_wrongPairsWith_4 : decode cX1_wrongPairsWith 4 = .ok (.iload_n 1, 1) := bX1_wrongPairsWith_0.2.2.1
theorem dX1_wrongPairsWith_5 : decode cX1_wrongPairsWith 5 = .ok (.iaload, 1) := bX1_wrongPairsWith_0.2.2.2.1
theorem dX1_wrongPairsWith_6 : decode cX1_wrongPairsWith 6 = .ok (.istore_n 2, 1) := bX1_wrongPairsWith_0.2.2.2.2.1
theorem dX1_wrongPairsWith_7 : decode cX1_wrongPairsWith 7 = .ok (.iconst 0, 1) := bX1_wrongPairsWith_0.2.2.2.2.2.1
theorem dX1_wrongPairsWith_8 : decode cX1_wrongPairsWith 8 = .ok (.istore_n 3, 1) := bX1_wrongPairsWith_0.2.2.2.2.2.2.1
theorem dX1_wrongPairsWith_9 : decode cX1_wrongPairsWith 9 = .ok (.iconst 0, 1) := bX1_wrongPairsWith_0.2.2.2.2.2.2.2.1
theorem dX1_wrongPairsWith_10 : decode cX1_wrongPairsWith 10 = .ok (.istore 4, 2) := bX1_wrongPairsWith_0.2.2.2.2.2.2.2.2.1
theorem dX1_wrongPairsWith_12 : decode cX1_wrongPairsWith 12 = .ok (.iload 4, 2) := bX1_wrongPairsWith_0.2.2.2.2.2.2.2.2.2.1
theorem dX1_wrongPairsWith_14 : decode cX1_wrongPairsWith 14 = .ok (.iload_n 1, 1) := bX1_wrongPairsWith_0.2.2.2.2.2.2.2.2.2.2.1
theorem dX1_wrongPairsWith_15 : decode cX1_wrongPairsWith 15 = .ok (.if_icmp .ge 23, 3) := bX1_wrongPairsWith_0.2.2.2.2.2.2.2.2.2.2.2.1
theorem dX1_wrongPairsWith_18 : decode cX1_wrongPairsWith 18 = .ok (.aload_n 0, 1) := bX1_wrongPairsWith_0.2.2.2.2.2.2.2.2.2.2.2.2.1
theorem dX1_wrongPairsWith_19 : decode cX1_wrongPairsWith 19 = .ok (.getfield 9, 3) := bX1_wrongPairsWith_0.2.2.2.2.2.2.2.2.2.2.2.2.2.1
theorem dX1_wrongPairsWith_22 : decode cX1_wrongPairsWith 22 = .ok (.iload 4, 2) := bX1_wrongPairsWith_0.2.2.2.2.2.2.2.2.2.2.2.2.2.2.1
theorem dX1_wrongPairsWith_24 : decode cX1_wrongPairsWith 24 = .ok (.iaload, 1) := bX1_wrongPairsWith_0.2.2.2.2.2.2.2.2.2.2.2.2.2.2.2
set_option maxRecDepth 100000 in
theorem bX1_wrongPairsWith_25 : (decode cX1_wrongPairsWith 25 = .ok (.iload_n 2, 1)) ∧ (decode cX1_wrongPairsWith 26 = .ok (.if_icmp .le 6, 3)) ∧ (decode cX1_wrongPairsWith 29 = .ok (.iinc 3 1, 3)) ∧ (decode cX1_wrongPairsWith 32 = .ok (.iinc 4 1, 3)) ∧ (decode cX1_wrongPairsWith 35 = .ok (.goto (-23), 3)) ∧ (decode cX1_wrongPairsWith 38 = .ok (.iload_n 1, 1)) ∧ (decode cX1_wrongPairsWith 39 = .ok (.iconst 1, 1)) ∧ (decode cX1_wrongPairsWith 40 = .ok (.iadd, 1)) ∧ (decode cX1_wrongPairsWith 41 = .ok (.istore 4, 2)) ∧ (decode cX1_wrongPairsWith 43 = .ok (.iload 4, 2)) ∧ (decode cX1_wrongPairsWith 45 = .ok (.aload_n 0, 1)) ∧ (decode cX1_wrongPairsWith 46 = .ok (.getfield 22, 3)) ∧ (decode cX1_wrongPairsWith 49 = .ok (.if_icmp .ge 23, 3)) ∧ (decode cX1_wrongPairsWith 52 = .ok (.aload_n 0, 1)) ∧ (decode cX1_wrongPairsWith 53 = .ok (.getfield 9, 3)) ∧ (decode cX1_wrongPairsWith 56 = .ok (.iload 4, 2)) := by decide +kernel
theorem dX1_wrongPairsWith_25 : decode cX1_wrongPairsWith 25 = .ok (.iload_n 2, 1) := bX1_wrongPairsWith_25.1
theorem dX1_wrongPairsWith_26 : decode cX1_wrongPairsWith 26 = .ok (.if_icmp .le 6, 3) := bX1_wrongPairsWith_25.2.1
theorem dX1_wrongPairsWith_29 : decode cX1_wrongPairsWith 29 = .ok (.iinc 3 1, 3) := bX1_wrongPairsWith_25.2.2.1
theorem dX1_wrongPairsWith_32 : decode cX1_wrongPairsWith 32 = .ok (.iinc 4 1, 3) := bX1_wrongPairsWith_25.2.2.2.1
theorem dX1_wrongPairsWith_35 : decode cX1_wrongPairsWith 35 = .ok (.goto (-23), 3) := bX1_wrongPairsWith_25.2.2.2.2.1
theorem dX1_wrongPairsWith_38 : decode cX1_wrongPairsWith 38 = .ok (.iload_n 1, 1) := bX1_wrongPairsWith_25.2.2.2.2.2.1
theorem dX1_wrongPairsWith_39 : decode cX1_wrongPairsWith 39 = .ok (.iconst 1, 1) := bX1_wrongPairsWith_25.2.2.2.2.2.2.1
theorem dX1_wrongPairsWith_40 : decode cX1_wrongPairsWith 40 = .ok (.iadd, 1) := bX1_wrongPairsWith_25.2.2.2.2.2.2.2.1
theorem dX1_wrongPairsWith_41 : decode cX1_wrongPairsWith 41 = .ok (.istore 4, 2) := bX1_wrongPairsWith_25.2.2.2.2.2.2.2.2.1
theorem dX1_wrongPairsWith_43 : decode cX1_wrongPairsWith 43 = .ok (.iload 4, 2) := bX1_wrongPairsWith_25.2.2.2.2.2.2.2.2.2.1
theorem dX1_wrongPairsWith_45 : decode cX1_wrongPairsWith 45 = .ok (.aload_n 0, 1) := bX1_wrongPairsWith_25.2.2.2.2.2.2.2.2.2.2.1
theorem dX1_wrongPairsWith_46 : decode cX1_wrongPairsWith 46 = .ok (.getfield 22, 3) := bX1_wrongPairsWith_25.2.2.2.2.2.2.2.2.2.2.2.1
theorem dX1_wrongPairsWith_49 : decode cX1_wrongPairsWith 49 = .ok (.if_icmp .ge 23, 3) := bX1_wrongPairsWith_25.2.2.2.2.2.2.2.2.2.2.2.2.1
theorem dX1_wrongPairsWith_52 : decode cX1_wrongPairsWith 52 = .ok (.aload_n 0, 1) := bX1_wrongPairsWith_25.2.2.2.2.2.2.2.2.2.2.2.2.2.1
theorem dX1_wrongPairsWith_53 : decode cX1_wrongPairsWith 53 = .ok (.getfield 9, 3) := bX1_wrongPairsWith_25.2.2.2.2.2.2.2.2.2.2.2.2.2.2.1
theorem dX1_wrongPairsWith_56 : decode cX1_wrongPairsWith 56 = .ok (.iload 4, 2) := bX1_wrongPairsWith_25.2.2.2.2.2.2.2.2.2.2.2.2.2.2.2
set_option maxRecDepth 100000 in
theorem bX1_wrongPairsWith_58 : (decode cX1_wrongPairsWith 58 = .ok (.iaload, 1)) ∧ (decode cX1_wrongPairsWith 59 = .ok (.iload_n 2, 1)) ∧ (decode cX1_wrongPairsWith 60 = .ok (.if_icmp .ge 6, 3)) ∧ (decode cX1_wrongPairsWith 63 = .ok (.iinc 3 1, 3)) ∧ (decode cX1_wrongPairsWith 66 = .ok (.iinc 4 1, 3)) ∧ (decode cX1_wrongPairsWith 69 = .ok (.goto (-26), 3)) ∧ (decode cX1_wrongPairsWith 72 = .ok (.iload_n 3, 1)) ∧ (decode cX1_wrongPairsWith 73 = .ok (.ireturn, 1)) := by decide +kernel
theorem dX1_wrongPairsWith_58 : decode cX1_wrongPairsWith 58 = .ok (.iaload, 1) := bX1_wrongPairsWith_58.1
theorem dX1_wrongPairsWith_59 : decode cX1_wrongPairsWith 59 = .ok (.iload_n 2, 1) := bX1_wrongPairsWith_58.2.1
theorem dX1_wrongPairsWith_60 : decode cX1_wrongPairsWith 60 = .ok (.if_icmp .ge 6, 3) := bX1_wrongPairsWith_58.2.2.1
theorem dX1_wrongPairsWith_63 : decode cX1_wrongPairsWith 63 = .ok (.iinc 3 1, 3) := bX1_wrongPairsWith_58.2.2.2.1
theorem dX1_wrongPairsWith_66 : decode cX1_wrongPairsWith 66 = .ok (.iinc 4 1, 3) := bX1_wrongPairsWith_58.2.2.2.2.1
theorem dX1_wrongPairsWith_69 : decode cX1_wrongPairsWith 69 = .ok (.goto (-26), 3) := bX1_wrongPairsWith_58.2.2.2.2.2.1
theorem dX1_wrongPairsWith_72 : decode cX1_wrongPairsWith 72 = .ok (.iload_n 3, 1) := bX1_wrongPairsWith_58.2.2.2.2.2.2.1
theorem dX1_wrongPairsWith_73 : decode cX1_wrongPairsWith 73 = .ok (.ireturn, 1) := bX1_wrongPairsWith_58.2.2.2.2.2.2.2
set_option maxRecDepth 100000 in
theorem bX1_wrongPairs_0 : (decode cX1_wrongPairs 0 = .ok (.iconst 0, 1)) ∧ (decode cX1_wrongPairs 1 = .ok (.istore_n 1, 1)) ∧ (decode cX1_wrongPairs 2 = .ok (.iconst 0, 1)) ∧ (decode cX1_wrongPairs 3 = .ok (.istore_n 2, 1)) ∧ (decode cX1_wrongPairs 4 = .ok (.iload_n 2, 1)) ∧ (decode cX1_wrongPairs 5 = .ok (.aload_n 0, 1)) ∧ (decode cX1_wrongPairs 6 = .ok (.getfield 22, 3)) ∧ (decode cX1_wrongPairs 9 = .ok (.if_icmp .ge 45, 3)) ∧ (decode cX1_wrongPairs 12 = .ok (.iload_n 2, 1)) ∧ (decode cX1_wrongPairs 13 = .ok (.iconst 1, 1)) ∧ (decode cX1_wrongPairs 14 = .ok (.iadd, 1)) ∧ (decode cX1_wrongPairs 15 = .ok (.istore_n 3, 1)) ∧ (decode cX1_wrongPairs 16 = .ok (.iload_n 3, 1)) ∧ (decode cX1_wrongPairs 17 = .ok (.aload_n 0, 1)) ∧ (decode cX1_wrongPairs 18 = .ok (.getfield 22, 3)) ∧ (decode cX1_wrongPairs 21 = .ok (.if_icmp .ge 27, 3)) := by decide +kernel
theorem dX1_wrongPairs_0 : decode cX1_wrongPairs 0 = .ok (.iconst 0, 1) := bX1_wrongPairs_0.1
theorem dX1_wrongPairs_1 : decode cX1_wrongPairs 1 = .ok (.istore_n 1, 1) := bX1_wrongPairs_0.2.1
theorem dX1_wrongPairs_2 : decode cX1_wrongPairs 2 = .ok (.iconst 0, 1) := bX1_wrongPairs_0.2.2.1
theorem dX1_wrongPairs_3 : decode cX1_wrongPairs 3 = .ok (.istore_n 2, 1) := bX1_wrongPairs_0.2.2.2.1
theorem dX1_wrongPairs_4 : decode cX1_wrongPairs 4 = .ok (.iload_n 2, 1) := bX1_wrongPairs_0.2.2.2.2.1
theorem dX1_wrongPairs_5 : decode cX1_wrongPairs 5 = .ok (.aload_n 0, 1) := bX1_wrongPairs_0.2.2.2.2.2.1
theorem dX1_wrongPairs_6 : decode cX1_wrongPairs 6 = .ok (.getfield 22, 3) := bX1_wrongPairs_0.2.2.2.2.2.2.1
theorem dX1_wrongPairs_9 : decode cX1_wrongPairs 9 = .ok (.if_icmp .ge 45, 3) := bX1_wrongPairs_0.2.2.2.2.2.2.2.1
theorem dX1_wrongPairs_12 : decode cX1_wrongPairs 12 = .ok (.iload_n 2, 1) := bX1_wrongPairs_0.2.2.2.2.2.2.2.2.1
theorem dX1_wrongPairs_13 : decode cX1_wrongPairs 13 = .ok (.iconst 1, 1) := bX1_wrongPairs_0.2.2.2.2.2.2.2.2.2.1
theorem dX1_wrongPairs_14 : decode cX1_wrongPairs 14 = .ok (.iadd, 1) := bX1_wrongPairs_0.2.2.2.2.2.2.2.2.2.2.1
theorem dX1_wrongPairs_15 : decode cX1_wrongPairs 15 = .ok (.istore_n 3, 1) := bX1_wrongPairs_0.2.2.2.2.2.2.2.2.2.2.2.1
theorem dX1_wrongPairs_16 : decode cX1_wrongPairs 16 = .ok (.iload_n 3, 1) := bX1_wrongPairs_0.2.2.2.2.2.2.2.2.2.2.2.2.1
theorem dX1_wrongPairs_17 : decode cX1_wrongPairs 17 = .ok (.aload_n 0, 1) := bX1_wrongPairs_0.2.2.2.2.2.2.2.2.2.2.2.2.2.1
theorem dX1_wrongPairs_18 : decode cX1_wrongPairs 18 = .ok (.getfield 22, 3) := bX1_wrongPairs_0.2.2.2.2.2.2.2.2.2.2.2.2.2.2.1
theorem dX1_wrongPairs_21 : decode cX1_wrongPairs 21 = .ok (.if_icmp .ge 27, 3) := bX1_wrongPairs_0.2.2.2.2.2.2.2.2.2.2.2.2.2.2.2
set_option maxRecDepth 100000 in
theorem bX1_wrongPairs_24 : (decode cX1_wrongPairs 24 = .ok (.aload_n 0, 1)) ∧ (decode cX1_wrongPairs 25 = .ok (.getfield 9, 3)) ∧ (decode cX1_wrongPairs 28 = .ok (.iload_n 2, 1)) ∧ (decode cX1_wrongPairs 29 = .ok (.iaload, 1)) ∧ (decode cX1_wrongPairs 30 = .ok (.aload_n 0, 1)) ∧ (decode cX1_wrongPairs 31 = .ok (.getfield 9, 3)) ∧ (decode cX1_wrongPairs 34 = .ok (.iload_n 3, 1)) ∧ (decode cX1_wrongPairs 35 = .ok (.iaload, 1)) ∧ (decode cX1_wrongPairs 36 = .ok (.if_icmp .le 6, 3)) ∧ (decode cX1_wrongPairs 39 = .ok (.iinc 1 1, 3)) ∧ (decode cX1_wrongPairs 42 = .ok (.iinc 3 1, 3)) ∧ (decode cX1_wrongPairs 45 = .ok (.goto (-29), 3)) ∧ (decode cX1_wrongPairs 48 = .ok (.iinc 2 1, 3)) ∧ (decode cX1_wrongPairs 51 = .ok (.goto (-47), 3)) ∧ (decode cX1_wrongPairs 54 = .ok (.iload_n 1, 1)) ∧ (decode cX1_wrongPairs 55 = .ok (.ireturn, 1)) := by decide +kernel
theorem dX1_wrongPairs_24 : decode cX1_wrongPairs 24 = .ok (.aload_n 0, 1) := bX1_wrongPairs_24.1
theorem dX1_wrongPairs_25 : decode cX1_wrongPairs 25 = .ok (.getfield 9, 3) := bX1_wrongPairs_24.2.1
theorem dX1_wrongPairs_28 : decode cX1_wrongPairs 28 = .ok (.iload_n 2, 1) := bX1_wrongPairs_24.2.2.1
theorem dX1_wrongPairs_29 : decode cX1_wrongPairs 29 = .ok (.iaload, 1) := bX1_wrongPairs_24.2.2.2.1
theorem dX1_wrongPairs_30 : decode cX1_wrongPairs 30 = .ok (.aload_n 0, 1) := bX1_wrongPairs_24.2.2.2.2.1
theorem dX1_wrongPairs_31 : decode cX1_wrongPairs 31 = .ok (.getfield 9, 3) := bX1_wrongPairs_24.2.2.2.2.2.1
theorem dX1_wrongPairs_34 : decode cX1_wrongPairs 34 = .ok (.iload_n 3, 1) := bX1_wrongPairs_24.2.2.2.2.2.2.1
theorem dX1_wrongPairs_35 : decode cX1_wrongPairs 35 = .ok (.iaload, 1) := bX1_wrongPairs_24.2.2.2.2.2.2.2.1
theorem dX1_wrongPairs_36 : decode cX1_wrongPairs 36 = .ok (.if_icmp .le 6, 3) := bX1_wrongPairs_24.2.2.2.2.2.2.2.2.1
theorem dX1_wrongPairs_39 : decode cX1_wrongPairs 39 = .ok (.iinc 1 1, 3) := bX1_wrongPairs_24.2.2.2.2.2.2.2.2.2.1
theorem dX1_wrongPairs_42 : decode cX1_wrongPairs 42 = .ok (.iinc 3 1, 3) := bX1_wrongPairs_24.2.2.2.2.2.2.2.2.2.2.1
theorem dX1_wrongPairs_45 : decode cX1_wrongPairs 45 = .ok (.goto (-29), 3) := bX1_wrongPairs_24.2.2.2.2.2.2.2.2.2.2.2.1
theorem dX1_wrongPairs_48 : decode cX1_wrongPairs 48 = .ok (.iinc 2 1, 3) := bX1_wrongPairs_24.2.2.2.2.2.2.2.2.2.2.2.2.1
theorem dX1_wrongPairs_51 : decode cX1_wrongPairs 51 = .ok (.goto (-47), 3) := bX1_wrongPairs_24.2.2.2.2.2.2.2.2.2.2.2.2.2.1
theorem dX1_wrongPairs_54 : decode cX1_wrongPairs 54 = .ok (.iload_n 1, 1) := bX1_wrongPairs_24.2.2.2.2.2.2.2.2.2.2.2.2.2.2.1
theorem dX1_wrongPairs_55 : decode cX1_wrongPairs 55 = .ok (.ireturn, 1) := bX1_wrongPairs_24.2.2.2.2.2.2.2.2.2.2.2.2.2.2.2
set_option maxRecDepth 100000 in
theorem bX1_rightPairs_0 : (decode cX1_rightPairs 0 = .ok (.iconst 0, 1)) ∧ (decode cX1_rightPairs 1 = .ok (.istore_n 1, 1)) ∧ (decode cX1_rightPairs 2 = .ok (.iconst 0, 1)) ∧ (decode cX1_rightPairs 3 = .ok (.istore_n 2, 1)) ∧ (decode cX1_rightPairs 4 = .ok (.iload_n 2, 1)) ∧ (decode cX1_rightPairs 5 = .ok (.aload_n 0, 1)) ∧ (decode cX1_rightPairs 6 = .ok (.getfield 22, 3)) ∧ (decode cX1_rightPairs 9 = .ok (.if_icmp .ge 45, 3)) ∧ (decode cX1_rightPairs 12 = .ok (.iload_n 2, 1)) ∧ (decode cX1_rightPairs 13 = .ok (.iconst 1, 1)) ∧ (decode cX1_rightPairs 14 = .ok (.iadd, 1)) ∧ (decode cX1_rightPairs 15 = .ok (.istore_n 3, 1)) ∧ (decode cX1_rightPairs 16 = .ok (.iload_n 3, 1)) ∧ (decode cX1_rightPairs 17 = .ok (.aload_n 0, 1)) ∧ (decode cX1_rightPairs 18 = .ok (.getfield 22, 3)) ∧ (decode cX1_rightPairs 21 = .ok (.if_icmp .ge 27, 3)) := by decide +kernel
theorem dX1_rightPairs_0 : decode cX1_rightPairs 0 = .ok (.iconst 0, 1) := bX1_rightPairs_0.1
theorem dX1_rightPairs_1 : decode cX1_rightPairs 1 = .ok (.istore_n 1, 1) := bX1_rightPairs_0.2.1
theorem dX1_rightPairs_2 : decode cX1_rightPairs 2 = .ok (.iconst 0, 1) := bX1_rightPairs_0.2.2.1
theorem dX1_rightPairs_3 : decode cX1_rightPairs 3 = .ok (.istore_n 2, 1) := bX1_rightPairs_0.2.2.2.1
theorem dX1_rightPairs_4 : decode cX1_rightPairs 4 = .ok (.iload_n 2, 1) := bX1_rightPairs_0.2.2.2.2.1
theorem dX1_rightPairs_5 : decode cX1_rightPairs 5 = .ok (.aload_n 0, 1) := bX1_rightPairs_0.2.2.2.2.2.1
theorem dX1_rightPairs_6 : decode cX1_rightPairs 6 = .ok (.getfield 22, 3) := bX1_rightPairs_0.2.2.2.2.2.2.1
theorem dX1_rightPairs_9 : decode cX1_rightPairs 9 = .ok (.if_icmp .ge 45, 3) := bX1_rightPairs_0.2.2.2.2.2.2.2.1
theorem dX1_rightPairs_12 : decode cX1_rightPairs 12 = .ok (.iload_n 2, 1) := bX1_rightPairs_0.2.2.2.2.2.2.2.2.1
theorem dX1_rightPairs_13 : decode cX1_rightPairs 13 = .ok (.iconst 1, 1) := bX1_rightPairs_0.2.2.2.2.2.2.2.2.2.1
theorem dX1_rightPairs_14 : decode cX1_rightPairs 14 = .ok (.iadd, 1) := bX1_rightPairs_0.2.2.2.2.2.2.2.2.2.2.1
theorem dX1_rightPairs_15 : decode cX1_rightPairs 15 = .ok (.istore_n 3, 1) := bX1_rightPairs_0.2.2.2.2.2.2.2.2.2.2.2.1
theorem dX1_rightPairs_16 : decode cX1_rightPairs 16 = .ok (.iload_n 3, 1) := bX1_rightPairs_0.2.2.2.2.2.2.2.2.2.2.2.2.1
theorem dX1_rightPairs_17 : decode cX1_rightPairs 17 = .ok (.aload_n 0, 1) := bX1_rightPairs_0.2.2.2.2.2.2.2.2.2.2.2.2.2.1
theorem dX1_rightPairs_18 : decode cX1_rightPairs 18 = .ok (.getfield 22, 3) := bX1_rightPairs_0.2.2.2.2.2.2.2.2.2.2.2.2.2.2.1
theorem dX1_rightPairs_21 : decode cX1_rightPairs 21 = .ok (.if_icmp .ge 27, 3) := bX1_rightPairs_0.2.2.2.2.2.2.2.2.2.2.2.2.2.2.2
set_option maxRecDepth 100000 in
theorem bX1_rightPairs_24 : (decode cX1_rightPairs 24 = .ok (.aload_n 0, 1)) ∧ (decode cX1_rightPairs 25 = .ok (.getfield 9, 3)) ∧ (decode cX1_rightPairs 28 = .ok (.iload_n 2, 1)) ∧ (decode cX1_rightPairs 29 = .ok (.iaload, 1)) ∧ (decode cX1_rightPairs 30 = .ok (.aload_n 0, 1)) ∧ (decode cX1_rightPairs 31 = .ok (.getfield 9, 3)) ∧ (decode cX1_rightPairs 34 = .ok (.iload_n 3, 1)) ∧ (decode cX1_rightPairs 35 = .ok (.iaload, 1)) ∧ (decode cX1_rightPairs 36 = .ok (.if_icmp .ge 6, 3)) ∧ (decode cX1_rightPairs 39 = .ok (.iinc 1 1, 3)) ∧ (decode cX1_rightPairs 42 = .ok (.iinc 3 1, 3)) ∧ (decode cX1_rightPairs 45 = .ok (.goto (-29), 3)) ∧ (decode cX1_rightPairs 48 = .ok (.iinc 2 1, 3)) ∧ (decode cX1_rightPairs 51 = .ok (.goto (-47), 3)) ∧ (decode cX1_rightPairs 54 = .ok (.iload_n 1, 1)) ∧ (decode cX1_rightPairs 55 = .ok (.ireturn, 1)) := by decide +kernel
theorem dX1_rightPairs_24 : decode cX1_rightPairs 24 = .ok (.aload_n 0, 1) := bX1_rightPairs_24.1
theorem dX1_rightPairs_25 : decode cX1_rightPairs 25 = .ok (.getfield 9, 3) := bX1_rightPairs_24.2.1
theorem dX1_rightPairs_28 : decode cX1_rightPairs 28 = .ok (.iload_n 2, 1) := bX1_rightPairs_24.2.2.1
theorem dX1_rightPairs_29 : decode cX1_rightPairs 29 = .ok (.iaload, 1) := bX1_rightPairs_24.2.2.2.1
theorem dX1_rightPairs_30 : decode cX1_rightPairs 30 = .ok (.aload_n 0, 1) := bX1_rightPairs_24.2.2.2.2.1
theorem dX1_rightPairs_31 : decode cX1_rightPairs 31 = .ok (.getfield 9, 3) := bX1_rightPairs_24.2.2.2.2.2.1
theorem dX1_rightPairs_34 : decode cX1_rightPairs 34 = .ok (.iload_n 3, 1) := bX1_rightPairs_24.2.2.2.2.2.2.1
theorem dX1_rightPairs_35 : decode cX1_rightPairs 35 = .ok (.iaload, 1) := bX1_rightPairs_24.2.2.2.2.2.2.2.1
theorem dX1_rightPairs_36 : decode cX1_rightPairs 36 = .ok (.if_icmp .ge 6, 3) := bX1_rightPairs_24.2.2.2.2.2.2.2.2.1
theorem dX1_rightPairs_39 : decode cX1_rightPairs 39 = .ok (.iinc 1 1, 3) := bX1_rightPairs_24.2.2.2.2.2.2.2.2.2.1
theorem dX1_rightPairs_42 : decode cX1_rightPairs 42 = .ok (.iinc 3 1, 3) := bX1_rightPairs_24.2.2.2.2.2.2.2.2.2.2.1
theorem dX1_rightPairs_45 : decode cX1_rightPairs 45 = .ok (.goto (-29), 3) := bX1_rightPairs_24.2.2.2.2.2.2.2.2.2.2.2.1
theorem dX1_rightPairs_48 : decode cX1_rightPairs 48 = .ok (.iinc 2 1, 3) := bX1_rightPairs_24.2.2.2.2.2.2.2.2.2.2.2.2.1
theorem dX1_rightPairs_51 : decode cX1_rightPairs 51 = .ok (.goto (-47), 3) := bX1_rightPairs_24.2.2.2.2.2.2.2.2.2.2.2.2.2.1
theorem dX1_rightPairs_54 : decode cX1_rightPairs 54 = .ok (.iload_n 1, 1) := bX1_rightPairs_24.2.2.2.2.2.2.2.2.2.2.2.2.2.2.1
theorem dX1_rightPairs_55 : decode cX1_rightPairs 55 = .ok (.ireturn, 1) := bX1_rightPairs_24.2.2.2.2.2.2.2.2.2.2.2.2.2.2.2
set_option maxRecDepth 100000 in
theorem bX1_endOfRun_0 : (decode cX1_endOfRun 0 = .ok (.iload_n 1, 1)) ∧ (decode cX1_endOfRun 1 = .ok (.iconst 1, 1)) ∧ (decode cX1_endOfRun 2 = .ok (.iadd, 1)) ∧ (decode cX1_endOfRun 3 = .ok (.istore_n 2, 1)) ∧ (decode cX1_endOfRun 4 = .ok (.iload_n 2, 1)) ∧ (decode cX1_endOfRun 5 = .ok (.aload_n 0, 1)) ∧ (decode cX1_endOfRun 6 = .ok (.getfield 22, 3)) ∧ (decode cX1_endOfRun 9 = .ok (.if_icmp .ge 26, 3)) ∧ (decode cX1_endOfRun 12 = .ok (.aload_n 0, 1)) ∧ (decode cX1_endOfRun 13 = .ok (.getfield 9, 3)) ∧ (decode cX1_endOfRun 16 = .ok (.iload_n 2, 1)) ∧ (decode cX1_endOfRun 17 = .ok (.iconst 1, 1)) ∧ (decode cX1_endOfRun 18 = .ok (.isub, 1)) ∧ (decode cX1_endOfRun 19 = .ok (.iaload, 1)) ∧ (decode cX1_endOfRun 20 = .ok (.aload_n 0, 1)) ∧ (decode cX1_endOfRun 21 = .ok (.getfield 9, 3)) := by decide +kernel
theorem dX1_endOfRun_0 : decode cX1_endOfRun 0 = .ok (.iload_n 1, 1) := bX1_endOfRun_0.1
theorem dX1_endOfRun_1 : decode cX1_endOfRun 1 = .ok (.iconst 1, 1) := bX1_endOfRun_0.2.1
theorem dX1_endOfRun_2 : decode cX1_endOfRun 2 = .ok (.iadd, 1) := bX1_endOfRun_0.2.2.1
theorem dX1_endOfRun_3 : decode cX1_endOfRun 3 = .ok (.istore_n 2, 1) := bX1_endOfRun_0.2.2.2.1
theorem dX1_endOfRun_4 : decode cX1_endOfRun 4 = .ok (.iload_n 2, 1) := bX1_endOfRun_0.2.2.2.2.1
theorem dX1_endOfRun_5 : decode cX1_endOfRun 5 = .ok (.aload_n 0, 1) := bX1_endOfRun_0.2.2.2.2.2.1
theorem dX1_endOfRun_6 : decode cX1_endOfRun 6 = .ok (.getfield 22, 3) := bX1_endOfRun_0.2.2.2.2.2.2.1
theorem dX1_endOfRun_9 : decode cX1_endOfRun 9 = .ok (.if_icmp .ge 26, 3) := bX1_endOfRun_0.2.2.2.2.2.2.2.1
theorem dX1_endOfRun_12 : decode cX1_endOfRun 12 = .ok (.aload_n 0, 1) := bX1_endOfRun_0.2.2.2.2.2.2.2.2.1
theorem dX1_endOfRun_13 : decode cX1_endOfRun 13 = .ok (.getfield 9, 3) := bX1_endOfRun_0.2.2.2.2.2.2.2.2.2.1
theorem dX1_endOfRun_16 : decode cX1_endOfRun 16 = .ok (.iload_n 2, 1) := bX1_endOfRun_0.2.2.2.2.2.2.2.2.2.2.1
theorem dX1_endOfRun_17 : decode cX1_endOfRun 17 = .ok (.iconst 1, 1) := bX1_endOfRun_0.2.2.2.2.2.2.2.2.2.2.2.1
theorem dX1_endOfRun_18 : decode cX1_endOfRun 18 = .ok (.isub, 1) := bX1_endOfRun_0.2.2.2.2.2.2.2.2.2.2.2.2.1
theorem dX1_endOfRun_19 : decode cX1_endOfRun 19 = .ok (.iaload, 1) := bX1_endOfRun_0.2.2.2.2.2.2.2.2.2.2.2.2.2.1
theorem dX1_endOfRun_20 : decode cX1_endOfRun 20 = .ok (.aload_n 0, 1) := bX1_endOfRun_0.2.2.2.2.2.2.2.2.2.2.2.2.2.2.1
theorem dX1_endOfRun_21 : decode cX1_endOfRun 21 = .ok (.getfield 9, 3) := bX1_endOfRun_0.2.2.2.2.2.2.2.2.2.2.2.2.2.2.2
set_option maxRecDepth 100000 in
theorem bX1_endOfRun_24 : (decode cX1_endOfRun 24 = .ok (.iload_n 2, 1)) ∧ (decode cX1_endOfRun 25 = .ok (.iaload, 1)) ∧ (decode cX1_endOfRun 26 = .ok (.if_icmp .gt 9, 3)) ∧ (decode cX1_endOfRun 29 = .ok (.iinc 2 1, 3)) ∧ (decode cX1_endOfRun 32 = .ok (.goto (-28), 3)) ∧ (decode cX1_endOfRun 35 = .ok (.iload_n 2, 1)) ∧ (decode cX1_endOfRun 36 = .ok (.ireturn, 1)) := by decide +kernel
theorem dX1_endOfRun_24 : decode cX1_endOfRun 24 = .ok (.iload_n 2, 1) := bX1_endOfRun_24.1
theorem dX1_endOfRun_25 : decode cX1_endOfRun 25 = .ok (.iaload, 1) := bX1_endOfRun_24.2.1
theorem dX1_endOfRun_26 : decode cX1_endOfRun 26 = .ok (.if_icmp .gt 9, 3) := bX1_endOfRun_24.2.2.1
theorem dX1_endOfRun_29 : decode cX1_endOfRun 29 = .ok (.iinc 2 1, 3) := bX1_endOfRun_24.2.2.2.1
theorem dX1_endOfRun_32 : decode cX1_endOfRun 32 = .ok (.goto (-28), 3) := bX1_endOfRun_24.2.2.2.2.1
theorem dX1_endOfRun_35 : decode cX1_endOfRun 35 = .ok (.iload_n 2, 1) := bX1_endOfRun_24.2.2.2.2.2.1
theorem dX1_endOfRun_36 : decode cX1_endOfRun 36 = .ok (.ireturn, 1) := bX1_endOfRun_24.2.2.2.2.2.2
set_option maxRecDepth 100000 in
theorem bX1_runsInAll_0 : (decode cX1_runsInAll 0 = .ok (.iconst 0, 1)) ∧ (decode cX1_runsInAll 1 = .ok (.istore_n 1, 1)) ∧ (decode cX1_runsInAll 2 = .ok (.iconst 0, 1)) ∧ (decode cX1_runsInAll 3 = .ok (.istore_n 2, 1)) ∧ (decode cX1_runsInAll 4 = .ok (.iload_n 2, 1)) ∧ (decode cX1_runsInAll 5 = .ok (.aload_n 0, 1)) ∧ (decode cX1_runsInAll 6 = .ok (.getfield 22, 3)) ∧ (decode cX1_runsInAll 9 = .ok (.if_icmp .ge 33, 3)) ∧ (decode cX1_runsInAll 12 = .ok (.iload_n 2, 1)) ∧ (decode cX1_runsInAll 13 = .ok (.ifCond .eq 20, 3)) ∧ (decode cX1_runsInAll 16 = .ok (.aload_n 0, 1)) ∧ (decode cX1_runsInAll 17 = .ok (.getfield 9, 3)) ∧ (decode cX1_runsInAll 20 = .ok (.iload_n 2, 1)) ∧ (decode cX1_runsInAll 21 = .ok (.iaload, 1)) ∧ (decode cX1_runsInAll 22 = .ok (.aload_n 0, 1)) ∧ (decode cX1_runsInAll 23 = .ok (.getfield 9, 3)) := by decide +kernel
theorem dX1_runsInAll_0 : decode cX1_runsInAll 0 = .ok (.iconst 0, 1) := bX1_runsInAll_0.1
theorem dX1_runsInAll_1 : decode cX1_runsInAll 1 = .ok (.istore_n 1, 1) := bX1_runsInAll_0.2.1
theorem dX1_runsInAll_2 : decode cX1_runsInAll 2 = .ok (.iconst 0, 1) := bX1_runsInAll_0.2.2.1
theorem dX1_runsInAll_3 : decode cX1_runsInAll 3 = .ok (.istore_n 2, 1) := bX1_runsInAll_0.2.2.2.1
theorem dX1_runsInAll_4 : decode cX1_runsInAll 4 = .ok (.iload_n 2, 1) := bX1_runsInAll_0.2.2.2.2.1
theorem dX1_runsInAll_5 : decode cX1_runsInAll 5 = .ok (.aload_n 0, 1) := bX1_runsInAll_0.2.2.2.2.2.1
theorem dX1_runsInAll_6 : decode cX1_runsInAll 6 = .ok (.getfield 22, 3) := bX1_runsInAll_0.2.2.2.2.2.2.1
theorem dX1_runsInAll_9 : decode cX1_runsInAll 9 = .ok (.if_icmp .ge 33, 3) := bX1_runsInAll_0.2.2.2.2.2.2.2.1
theorem dX1_runsInAll_12 : decode cX1_runsInAll 12 = .ok (.iload_n 2, 1) := bX1_runsInAll_0.2.2.2.2.2.2.2.2.1
theorem dX1_runsInAll_13 : decode cX1_runsInAll 13 = .ok (.ifCond .eq 20, 3) := bX1_runsInAll_0.2.2.2.2.2.2.2.2.2.1
theorem dX1_runsInAll_16 : decode cX1_runsInAll 16 = .ok (.aload_n 0, 1) := bX1_runsInAll_0.2.2.2.2.2.2.2.2.2.2.1
theorem dX1_runsInAll_17 : decode cX1_runsInAll 17 = .ok (.getfield 9, 3) := bX1_runsInAll_0.2.2.2.2.2.2.2.2.2.2.2.1
theorem dX1_runsInAll_20 : decode cX1_runsInAll 20 = .ok (.iload_n 2, 1) := bX1_runsInAll_0.2.2.2.2.2.2.2.2.2.2.2.2.1
theorem dX1_runsInAll_21 : decode cX1_runsInAll 21 = .ok (.iaload, 1) := bX1_runsInAll_0.2.2.2.2.2.2.2.2.2.2.2.2.2.1
theorem dX1_runsInAll_22 : decode cX1_runsInAll 22 = .ok (.aload_n 0, 1) := bX1_runsInAll_0.2.2.2.2.2.2.2.2.2.2.2.2.2.2.1
theorem dX1_runsInAll_23 : decode cX1_runsInAll 23 = .ok (.getfield 9, 3) := bX1_runsInAll_0.2.2.2.2.2.2.2.2.2.2.2.2.2.2.2
set_option maxRecDepth 100000 in
theorem bX1_runsInAll_26 : (decode cX1_runsInAll 26 = .ok (.iload_n 2, 1)) ∧ (decode cX1_runsInAll 27 = .ok (.iconst 1, 1)) ∧ (decode cX1_runsInAll 28 = .ok (.isub, 1)) ∧ (decode cX1_runsInAll 29 = .ok (.iaload, 1)) ∧ (decode cX1_runsInAll 30 = .ok (.if_icmp .ge 6, 3)) ∧ (decode cX1_runsInAll 33 = .ok (.iinc 1 1, 3)) ∧ (decode cX1_runsInAll 36 = .ok (.iinc 2 1, 3)) ∧ (decode cX1_runsInAll 39 = .ok (.goto (-35), 3)) ∧ (decode cX1_runsInAll 42 = .ok (.iload_n 1, 1)) ∧ (decode cX1_runsInAll 43 = .ok (.ireturn, 1)) := by decide +kernel
theorem dX1_runsInAll_26 : decode cX1_runsInAll 26 = .ok (.iload_n 2, 1) := bX1_runsInAll_26.1
theorem dX1_runsInAll_27 : decode cX1_runsInAll 27 = .ok (.iconst 1, 1) := bX1_runsInAll_26.2.1
theorem dX1_runsInAll_28 : decode cX1_runsInAll 28 = .ok (.isub, 1) := bX1_runsInAll_26.2.2.1
theorem dX1_runsInAll_29 : decode cX1_runsInAll 29 = .ok (.iaload, 1) := bX1_runsInAll_26.2.2.2.1
theorem dX1_runsInAll_30 : decode cX1_runsInAll 30 = .ok (.if_icmp .ge 6, 3) := bX1_runsInAll_26.2.2.2.2.1
theorem dX1_runsInAll_33 : decode cX1_runsInAll 33 = .ok (.iinc 1 1, 3) := bX1_runsInAll_26.2.2.2.2.2.1
theorem dX1_runsInAll_36 : decode cX1_runsInAll 36 = .ok (.iinc 2 1, 3) := bX1_runsInAll_26.2.2.2.2.2.2.1
theorem dX1_runsInAll_39 : decode cX1_runsInAll 39 = .ok (.goto (-35), 3) := bX1_runsInAll_26.2.2.2.2.2.2.2.1
theorem dX1_runsInAll_42 : decode cX1_runsInAll 42 = .ok (.iload_n 1, 1) := bX1_runsInAll_26.2.2.2.2.2.2.2.2.1
theorem dX1_runsInAll_43 : decode cX1_runsInAll 43 = .ok (.ireturn, 1) := bX1_runsInAll_26.2.2.2.2.2.2.2.2.2
set_option maxRecDepth 100000 in
theorem bX1_longestRun_0 : (decode cX1_longestRun 0 = .ok (.iconst 0, 1)) ∧ (decode cX1_longestRun 1 = .ok (.istore_n 1, 1)) ∧ (decode cX1_longestRun 2 = .ok (.iconst 0, 1)) ∧ (decode cX1_longestRun 3 = .ok (.istore_n 2, 1)) ∧ (decode cX1_longestRun 4 = .ok (.iconst 0, 1)) ∧ (decode cX1_longestRun 5 = .ok (.istore_n 3, 1)) ∧ (decode cX1_longestRun 6 = .ok (.iload_n 3, 1)) ∧ (decode cX1_longestRun 7 = .ok (.aload_n 0, 1)) ∧ (decode cX1_longestRun 8 = .ok (.getfield 22, 3)) ∧ (decode cX1_longestRun 11 = .ok (.if_icmp .ge 44, 3)) ∧ (decode cX1_longestRun 14 = .ok (.iload_n 3, 1)) ∧ (decode cX1_longestRun 15 = .ok (.ifCond .le 24, 3)) ∧ (decode cX1_longestRun 18 = .ok (.aload_n 0, 1)) ∧ (decode cX1_longestRun 19 = .ok (.getfield 9, 3)) ∧ (decode cX1_longestRun 22 = .ok (.iload_n 3, 1)) ∧ (decode cX1_longestRun 23 = .ok (.iaload, 1)) := by decide +kernel
theorem dX1_longestRun_0 : decode cX1_longestRun 0 = .ok (.iconst 0, 1) := bX1_longestRun_0.1
theorem dX1_longestRun_1 : decode cX1_longestRun 1 = .ok (.istore_n 1, 1) := bX1_longestRun_0.2.1
theorem dX1_longestRun_2 : decode cX1_longestRun 2 = .ok (.iconst 0, 1) := bX1_longestRun_0.2.2.1
theorem dX1_longestRun_3 : decode cX1_longestRun 3 = .ok (.istore_n 2, 1) := bX1_longestRun_0.2.2.2.1
theorem dX1_longestRun_4 : decode cX1_longestRun 4 = .ok (.iconst 0, 1) := bX1_longestRun_0.2.2.2.2.1
theorem dX1_longestRun_5 : decode cX1_longestRun 5 = .ok (.istore_n 3, 1) := bX1_longestRun_0.2.2.2.2.2.1
theorem dX1_longestRun_6 : decode cX1_longestRun 6 = .ok (.iload_n 3, 1) := bX1_longestRun_0.2.2.2.2.2.2.1
theorem dX1_longestRun_7 : decode cX1_longestRun 7 = .ok (.aload_n 0, 1) := bX1_longestRun_0.2.2.2.2.2.2.2.1
theorem dX1_longestRun_8 : decode cX1_longestRun 8 = .ok (.getfield 22, 3) := bX1_longestRun_0.2.2.2.2.2.2.2.2.1
theorem dX1_longestRun_11 : decode cX1_longestRun 11 = .ok (.if_icmp .ge 44, 3) := bX1_longestRun_0.2.2.2.2.2.2.2.2.2.1
theorem dX1_longestRun_14 : decode cX1_longestRun 14 = .ok (.iload_n 3, 1) := bX1_longestRun_0.2.2.2.2.2.2.2.2.2.2.1
theorem dX1_longestRun_15 : decode cX1_longestRun 15 = .ok (.ifCond .le 24, 3) := bX1_longestRun_0.2.2.2.2.2.2.2.2.2.2.2.1
theorem dX1_longestRun_18 : decode cX1_longestRun 18 = .ok (.aload_n 0, 1) := bX1_longestRun_0.2.2.2.2.2.2.2.2.2.2.2.2.1
theorem dX1_longestRun_19 : decode cX1_longestRun 19 = .ok (.getfield 9, 3) := bX1_longestRun_0.2.2.2.2.2.2.2.2.2.2.2.2.2.1
theorem dX1_longestRun_22 : decode cX1_longestRun 22 = .ok (.iload_n 3, 1) := bX1_longestRun_0.2.2.2.2.2.2.2.2.2.2.2.2.2.2.1
theorem dX1_longestRun_23 : decode cX1_longestRun 23 = .ok (.iaload, 1) := bX1_longestRun_0.2.2.2.2.2.2.2.2.2.2.2.2.2.2.2
set_option maxRecDepth 100000 in
theorem bX1_longestRun_24 : (decode cX1_longestRun 24 = .ok (.aload_n 0, 1)) ∧ (decode cX1_longestRun 25 = .ok (.getfield 9, 3)) ∧ (decode cX1_longestRun 28 = .ok (.iload_n 3, 1)) ∧ (decode cX1_longestRun 29 = .ok (.iconst 1, 1)) ∧ (decode cX1_longestRun 30 = .ok (.isub, 1)) ∧ (decode cX1_longestRun 31 = .ok (.iaload, 1)) ∧ (decode cX1_longestRun 32 = .ok (.if_icmp .ge 7, 3)) ∧ (decode cX1_longestRun 35 = .ok (.iconst 1, 1)) ∧ (decode cX1_longestRun 36 = .ok (.goto 6, 3)) ∧ (decode cX1_longestRun 39 = .ok (.iload_n 2, 1)) ∧ (decode cX1_longestRun 40 = .ok (.iconst 1, 1)) ∧ (decode cX1_longestRun 41 = .ok (.iadd, 1)) ∧ (decode cX1_longestRun 42 = .ok (.istore_n 2, 1)) ∧ (decode cX1_longestRun 43 = .ok (.iload_n 1, 1)) ∧ (decode cX1_longestRun 44 = .ok (.iload_n 2, 1)) ∧ (decode cX1_longestRun 45 = .ok (.invokestatic 46, 3)) := by decide +kernel
theorem dX1_longestRun_24 : decode cX1_longestRun 24 = .ok (.aload_n 0, 1) := bX1_longestRun_24.1
theorem dX1_longestRun_25 : decode cX1_longestRun 25 = .ok (.getfield 9, 3) := bX1_longestRun_24.2.1
theorem dX1_longestRun_28 : decode cX1_longestRun 28 = .ok (.iload_n 3, 1) := bX1_longestRun_24.2.2.1
theorem dX1_longestRun_29 : decode cX1_longestRun 29 = .ok (.iconst 1, 1) := bX1_longestRun_24.2.2.2.1
theorem dX1_longestRun_30 : decode cX1_longestRun 30 = .ok (.isub, 1) := bX1_longestRun_24.2.2.2.2.1
theorem dX1_longestRun_31 : decode cX1_longestRun 31 = .ok (.iaload, 1) := bX1_longestRun_24.2.2.2.2.2.1
theorem dX1_longestRun_32 : decode cX1_longestRun 32 = .ok (.if_icmp .ge 7, 3) := bX1_longestRun_24.2.2.2.2.2.2.1
theorem dX1_longestRun_35 : decode cX1_longestRun 35 = .ok (.iconst 1, 1) := bX1_longestRun_24.2.2.2.2.2.2.2.1
theorem dX1_longestRun_36 : decode cX1_longestRun 36 = .ok (.goto 6, 3) := bX1_longestRun_24.2.2.2.2.2.2.2.2.1
theorem dX1_longestRun_39 : decode cX1_longestRun 39 = .ok (.iload_n 2, 1) := bX1_longestRun_24.2.2.2.2.2.2.2.2.2.1
theorem dX1_longestRun_40 : decode cX1_longestRun 40 = .ok (.iconst 1, 1) := bX1_longestRun_24.2.2.2.2.2.2.2.2.2.2.1
theorem dX1_longestRun_41 : decode cX1_longestRun 41 = .ok (.iadd, 1) := bX1_longestRun_24.2.2.2.2.2.2.2.2.2.2.2.1
theorem dX1_longestRun_42 : decode cX1_longestRun 42 = .ok (.istore_n 2, 1) := bX1_longestRun_24.2.2.2.2.2.2.2.2.2.2.2.2.1
theorem dX1_longestRun_43 : decode cX1_longestRun 43 = .ok (.iload_n 1, 1) := bX1_longestRun_24.2.2.2.2.2.2.2.2.2.2.2.2.2.1
theorem dX1_longestRun_44 : decode cX1_longestRun 44 = .ok (.iload_n 2, 1) := bX1_longestRun_24.2.2.2.2.2.2.2.2.2.2.2.2.2.2.1
theorem dX1_longestRun_45 : decode cX1_longestRun 45 = .ok (.invokestatic 46, 3) := bX1_longestRun_24.2.2.2.2.2.2.2.2.2.2.2.2.2.2.2
set_option maxRecDepth 100000 in
theorem bX1_longestRun_48 : (decode cX1_longestRun 48 = .ok (.istore_n 1, 1)) ∧ (decode cX1_longestRun 49 = .ok (.iinc 3 1, 3)) ∧ (decode cX1_longestRun 52 = .ok (.goto (-46), 3)) ∧ (decode cX1_longestRun 55 = .ok (.iload_n 1, 1)) ∧ (decode cX1_longestRun 56 = .ok (.ireturn, 1)) := by decide +kernel
theorem dX1_longestRun_48 : decode cX1_longestRun 48 = .ok (.istore_n 1, 1) := bX1_longestRun_48.1
theorem dX1_longestRun_49 : decode cX1_longestRun 49 = .ok (.iinc 3 1, 3) := bX1_longestRun_48.2.1
theorem dX1_longestRun_52 : decode cX1_longestRun 52 = .ok (.goto (-46), 3) := bX1_longestRun_48.2.2.1
theorem dX1_longestRun_55 : decode cX1_longestRun 55 = .ok (.iload_n 1, 1) := bX1_longestRun_48.2.2.2.1
theorem dX1_longestRun_56 : decode cX1_longestRun 56 = .ok (.ireturn, 1) := bX1_longestRun_48.2.2.2.2
set_option maxRecDepth 100000 in
theorem bX1_itemsWith_0 : (decode cX1_itemsWith 0 = .ok (.iconst 0, 1)) ∧ (decode cX1_itemsWith 1 = .ok (.istore_n 2, 1)) ∧ (decode cX1_itemsWith 2 = .ok (.iconst 0, 1)) ∧ (decode cX1_itemsWith 3 = .ok (.istore_n 3, 1)) ∧ (decode cX1_itemsWith 4 = .ok (.iload_n 3, 1)) ∧ (decode cX1_itemsWith 5 = .ok (.aload_n 0, 1)) ∧ (decode cX1_itemsWith 6 = .ok (.getfield 22, 3)) ∧ (decode cX1_itemsWith 9 = .ok (.if_icmp .ge 22, 3)) ∧ (decode cX1_itemsWith 12 = .ok (.aload_n 0, 1)) ∧ (decode cX1_itemsWith 13 = .ok (.getfield 9, 3)) ∧ (decode cX1_itemsWith 16 = .ok (.iload_n 3, 1)) ∧ (decode cX1_itemsWith 17 = .ok (.iaload, 1)) ∧ (decode cX1_itemsWith 18 = .ok (.iload_n 1, 1)) ∧ (decode cX1_itemsWith 19 = .ok (.if_icmp .ne 6, 3)) ∧ (decode cX1_itemsWith 22 = .ok (.iinc 2 1, 3)) ∧ (decode cX1_itemsWith 25 = .ok (.iinc 3 1, 3)) := by decide +kernel
theorem dX1_itemsWith_0 : decode cX1_itemsWith 0 = .ok (.iconst 0, 1) := bX1_itemsWith_0.1
theorem dX1_itemsWith_1 : decode cX1_itemsWith 1 = .ok (.istore_n 2, 1) := bX1_itemsWith_0.2.1
theorem dX1_itemsWith_2 : decode cX1_itemsWith 2 = .ok (.iconst 0, 1) := bX1_itemsWith_0.2.2.1
theorem dX1_itemsWith_3 : decode cX1_itemsWith 3 = .ok (.istore_n 3, 1) := bX1_itemsWith_0.2.2.2.1
theorem dX1_itemsWith_4 : decode cX1_itemsWith 4 = .ok (.iload_n 3, 1) := bX1_itemsWith_0.2.2.2.2.1
theorem dX1_itemsWith_5 : decode cX1_itemsWith 5 = .ok (.aload_n 0, 1) := bX1_itemsWith_0.2.2.2.2.2.1
theorem dX1_itemsWith_6 : decode cX1_itemsWith 6 = .ok (.getfield 22, 3) := bX1_itemsWith_0.2.2.2.2.2.2.1
theorem dX1_itemsWith_9 : decode cX1_itemsWith 9 = .ok (.if_icmp .ge 22, 3) := bX1_itemsWith_0.2.2.2.2.2.2.2.1
theorem dX1_itemsWith_12 : decode cX1_itemsWith 12 = .ok (.aload_n 0, 1) := bX1_itemsWith_0.2.2.2.2.2.2.2.2.1
theorem dX1_itemsWith_13 : decode cX1_itemsWith 13 = .ok (.getfield 9, 3) := bX1_itemsWith_0.2.2.2.2.2.2.2.2.2.1
theorem dX1_itemsWith_16 : decode cX1_itemsWith 16 = .ok (.iload_n 3, 1) := bX1_itemsWith_0.2.2.2.2.2.2.2.2.2.2.1
theorem dX1_itemsWith_17 : decode cX1_itemsWith 17 = .ok (.iaload, 1) := bX1_itemsWith_0.2.2.2.2.2.2.2.2.2.2.2.1
theorem dX1_itemsWith_18 : decode cX1_itemsWith 18 = .ok (.iload_n 1, 1) := bX1_itemsWith_0.2.2.2.2.2.2.2.2.2.2.2.2.1
theorem dX1_itemsWith_19 : decode cX1_itemsWith 19 = .ok (.if_icmp .ne 6, 3) := bX1_itemsWith_0.2.2.2.2.2.2.2.2.2.2.2.2.2.1
theorem dX1_itemsWith_22 : decode cX1_itemsWith 22 = .ok (.iinc 2 1, 3) := bX1_itemsWith_0.2.2.2.2.2.2.2.2.2.2.2.2.2.2.1
theorem dX1_itemsWith_25 : decode cX1_itemsWith 25 = .ok (.iinc 3 1, 3) := bX1_itemsWith_0.2.2.2.2.2.2.2.2.2.2.2.2.2.2.2
set_option maxRecDepth 100000 in
theorem bX1_itemsWith_28 : (decode cX1_itemsWith 28 = .ok (.goto (-24), 3)) ∧ (decode cX1_itemsWith 31 = .ok (.iload_n 2, 1)) ∧ (decode cX1_itemsWith 32 = .ok (.ireturn, 1)) := by decide +kernel
theorem dX1_itemsWith_28 : decode cX1_itemsWith 28 = .ok (.goto (-24), 3) := bX1_itemsWith_28.1
theorem dX1_itemsWith_31 : decode cX1_itemsWith 31 = .ok (.iload_n 2, 1) := bX1_itemsWith_28.2.1
theorem dX1_itemsWith_32 : decode cX1_itemsWith 32 = .ok (.ireturn, 1) := bX1_itemsWith_28.2.2
set_option maxRecDepth 100000 in
theorem bX1_itemsBelow_0 : (decode cX1_itemsBelow 0 = .ok (.iconst 0, 1)) ∧ (decode cX1_itemsBelow 1 = .ok (.istore_n 2, 1)) ∧ (decode cX1_itemsBelow 2 = .ok (.iconst 0, 1)) ∧ (decode cX1_itemsBelow 3 = .ok (.istore_n 3, 1)) ∧ (decode cX1_itemsBelow 4 = .ok (.iload_n 3, 1)) ∧ (decode cX1_itemsBelow 5 = .ok (.aload_n 0, 1)) ∧ (decode cX1_itemsBelow 6 = .ok (.getfield 22, 3)) ∧ (decode cX1_itemsBelow 9 = .ok (.if_icmp .ge 22, 3)) ∧ (decode cX1_itemsBelow 12 = .ok (.aload_n 0, 1)) ∧ (decode cX1_itemsBelow 13 = .ok (.getfield 9, 3)) ∧ (decode cX1_itemsBelow 16 = .ok (.iload_n 3, 1)) ∧ (decode cX1_itemsBelow 17 = .ok (.iaload, 1)) ∧ (decode cX1_itemsBelow 18 = .ok (.iload_n 1, 1)) ∧ (decode cX1_itemsBelow 19 = .ok (.if_icmp .ge 6, 3)) ∧ (decode cX1_itemsBelow 22 = .ok (.iinc 2 1, 3)) ∧ (decode cX1_itemsBelow 25 = .ok (.iinc 3 1, 3)) := by decide +kernel
theorem dX1_itemsBelow_0 : decode cX1_itemsBelow 0 = .ok (.iconst 0, 1) := bX1_itemsBelow_0.1
theorem dX1_itemsBelow_1 : decode cX1_itemsBelow 1 = .ok (.istore_n 2, 1) := bX1_itemsBelow_0.2.1
theorem dX1_itemsBelow_2 : decode cX1_itemsBelow 2 = .ok (.iconst 0, 1) := bX1_itemsBelow_0.2.2.1
theorem dX1_itemsBelow_3 : decode cX1_itemsBelow 3 = .ok (.istore_n 3, 1) := bX1_itemsBelow_0.2.2.2.1
theorem dX1_itemsBelow_4 : decode cX1_itemsBelow 4 = .ok (.iload_n 3, 1) := bX1_itemsBelow_0.2.2.2.2.1
theorem dX1_itemsBelow_5 : decode cX1_itemsBelow 5 = .ok (.aload_n 0, 1) := bX1_itemsBelow_0.2.2.2.2.2.1
theorem dX1_itemsBelow_6 : decode cX1_itemsBelow 6 = .ok (.getfield 22, 3) := bX1_itemsBelow_0.2.2.2.2.2.2.1
theorem dX1_itemsBelow_9 : decode cX1_itemsBelow 9 = .ok (.if_icmp .ge 22, 3) := bX1_itemsBelow_0.2.2.2.2.2.2.2.1
theorem dX1_itemsBelow_12 : decode cX1_itemsBelow 12 = .ok (.aload_n 0, 1) := bX1_itemsBelow_0.2.2.2.2.2.2.2.2.1
theorem dX1_itemsBelow_13 : decode cX1_itemsBelow 13 = .ok (.getfield 9, 3) := bX1_itemsBelow_0.2.2.2.2.2.2.2.2.2.1
theorem dX1_itemsBelow_16 : decode cX1_itemsBelow 16 = .ok (.iload_n 3, 1) := bX1_itemsBelow_0.2.2.2.2.2.2.2.2.2.2.1
theorem dX1_itemsBelow_17 : decode cX1_itemsBelow 17 = .ok (.iaload, 1) := bX1_itemsBelow_0.2.2.2.2.2.2.2.2.2.2.2.1
theorem dX1_itemsBelow_18 : decode cX1_itemsBelow 18 = .ok (.iload_n 1, 1) := bX1_itemsBelow_0.2.2.2.2.2.2.2.2.2.2.2.2.1
theorem dX1_itemsBelow_19 : decode cX1_itemsBelow 19 = .ok (.if_icmp .ge 6, 3) := bX1_itemsBelow_0.2.2.2.2.2.2.2.2.2.2.2.2.2.1
theorem dX1_itemsBelow_22 : decode cX1_itemsBelow 22 = .ok (.iinc 2 1, 3) := bX1_itemsBelow_0.2.2.2.2.2.2.2.2.2.2.2.2.2.2.1
theorem dX1_itemsBelow_25 : decode cX1_itemsBelow 25 = .ok (.iinc 3 1, 3) := bX1_itemsBelow_0.2.2.2.2.2.2.2.2.2.2.2.2.2.2.2
set_option maxRecDepth 100000 in
theorem bX1_itemsBelow_28 : (decode cX1_itemsBelow 28 = .ok (.goto (-24), 3)) ∧ (decode cX1_itemsBelow 31 = .ok (.iload_n 2, 1)) ∧ (decode cX1_itemsBelow 32 = .ok (.ireturn, 1)) := by decide +kernel
theorem dX1_itemsBelow_28 : decode cX1_itemsBelow 28 = .ok (.goto (-24), 3) := bX1_itemsBelow_28.1
theorem dX1_itemsBelow_31 : decode cX1_itemsBelow 31 = .ok (.iload_n 2, 1) := bX1_itemsBelow_28.2.1
theorem dX1_itemsBelow_32 : decode cX1_itemsBelow 32 = .ok (.ireturn, 1) := bX1_itemsBelow_28.2.2
set_option maxRecDepth 100000 in
theorem bX1_firstPlaceOf_0 : (decode cX1_firstPlaceOf 0 = .ok (.iconst 0, 1)) ∧ (decode cX1_firstPlaceOf 1 = .ok (.istore_n 2, 1)) ∧ (decode cX1_firstPlaceOf 2 = .ok (.iload_n 2, 1)) ∧ (decode cX1_firstPlaceOf 3 = .ok (.aload_n 0, 1)) ∧ (decode cX1_firstPlaceOf 4 = .ok (.getfield 22, 3)) ∧ (decode cX1_firstPlaceOf 7 = .ok (.if_icmp .ge 21, 3)) ∧ (decode cX1_firstPlaceOf 10 = .ok (.aload_n 0, 1)) ∧ (decode cX1_firstPlaceOf 11 = .ok (.getfield 9, 3)) ∧ (decode cX1_firstPlaceOf 14 = .ok (.iload_n 2, 1)) ∧ (decode cX1_firstPlaceOf 15 = .ok (.iaload, 1)) ∧ (decode cX1_firstPlaceOf 16 = .ok (.iload_n 1, 1)) ∧ (decode cX1_firstPlaceOf 17 = .ok (.if_icmp .ne 5, 3)) ∧ (decode cX1_firstPlaceOf 20 = .ok (.iload_n 2, 1)) ∧ (decode cX1_firstPlaceOf 21 = .ok (.ireturn, 1)) ∧ (decode cX1_firstPlaceOf 22 = .ok (.iinc 2 1, 3)) ∧ (decode cX1_firstPlaceOf 25 = .ok (.goto (-23), 3)) := by decide +kernel
theorem dX1_firstPlaceOf_0 : decode cX1_firstPlaceOf 0 = .ok (.iconst 0, 1) := bX1_firstPlaceOf_0.1
theorem dX1_firstPlaceOf_1 : decode cX1_firstPlaceOf 1 = .ok (.istore_n 2, 1) := bX1_firstPlaceOf_0.2.1
theorem dX1_firstPlaceOf_2 : decode cX1_firstPlaceOf 2 = .ok (.iload_n 2, 1) := bX1_firstPlaceOf_0.2.2.1
theorem dX1_firstPlaceOf_3 : decode cX1_firstPlaceOf 3 = .ok (.aload_n 0, 1) := bX1_firstPlaceOf_0.2.2.2.1
theorem dX1_firstPlaceOf_4 : decode cX1_firstPlaceOf 4 = .ok (.getfield 22, 3) := bX1_firstPlaceOf_0.2.2.2.2.1
theorem dX1_firstPlaceOf_7 : decode cX1_firstPlaceOf 7 = .ok (.if_icmp .ge 21, 3) := bX1_firstPlaceOf_0.2.2.2.2.2.1
theorem dX1_firstPlaceOf_10 : decode cX1_firstPlaceOf 10 = .ok (.aload_n 0, 1) := bX1_firstPlaceOf_0.2.2.2.2.2.2.1
theorem dX1_firstPlaceOf_11 : decode cX1_firstPlaceOf 11 = .ok (.getfield 9, 3) := bX1_firstPlaceOf_0.2.2.2.2.2.2.2.1
theorem dX1_firstPlaceOf_14 : decode cX1_firstPlaceOf 14 = .ok (.iload_n 2, 1) := bX1_firstPlaceOf_0.2.2.2.2.2.2.2.2.1
theorem dX1_firstPlaceOf_15 : decode cX1_firstPlaceOf 15 = .ok (.iaload, 1) := bX1_firstPlaceOf_0.2.2.2.2.2.2.2.2.2.1
theorem dX1_firstPlaceOf_16 : decode cX1_firstPlaceOf 16 = .ok (.iload_n 1, 1) := bX1_firstPlaceOf_0.2.2.2.2.2.2.2.2.2.2.1
theorem dX1_firstPlaceOf_17 : decode cX1_firstPlaceOf 17 = .ok (.if_icmp .ne 5, 3) := bX1_firstPlaceOf_0.2.2.2.2.2.2.2.2.2.2.2.1
theorem dX1_firstPlaceOf_20 : decode cX1_firstPlaceOf 20 = .ok (.iload_n 2, 1) := bX1_firstPlaceOf_0.2.2.2.2.2.2.2.2.2.2.2.2.1
theorem dX1_firstPlaceOf_21 : decode cX1_firstPlaceOf 21 = .ok (.ireturn, 1) := bX1_firstPlaceOf_0.2.2.2.2.2.2.2.2.2.2.2.2.2.1
theorem dX1_firstPlaceOf_22 : decode cX1_firstPlaceOf 22 = .ok (.iinc 2 1, 3) := bX1_firstPlaceOf_0.2.2.2.2.2.2.2.2.2.2.2.2.2.2.1
theorem dX1_firstPlaceOf_25 : decode cX1_firstPlaceOf 25 = .ok (.goto (-23), 3) := bX1_firstPlaceOf_0.2.2.2.2.2.2.2.2.2.2.2.2.2.2.2
set_option maxRecDepth 100000 in
theorem bX1_firstPlaceOf_28 : (decode cX1_firstPlaceOf 28 = .ok (.iconst (-1), 1)) ∧ (decode cX1_firstPlaceOf 29 = .ok (.ireturn, 1)) := by decide +kernel
theorem dX1_firstPlaceOf_28 : decode cX1_firstPlaceOf 28 = .ok (.iconst (-1), 1) := bX1_firstPlaceOf_28.1
theorem dX1_firstPlaceOf_29 : decode cX1_firstPlaceOf 29 = .ok (.ireturn, 1) := bX1_firstPlaceOf_28.2
set_option maxRecDepth 100000 in
theorem bX1_lastPlaceOf_0 : (decode cX1_lastPlaceOf 0 = .ok (.aload_n 0, 1)) ∧ (decode cX1_lastPlaceOf 1 = .ok (.getfield 22, 3)) ∧ (decode cX1_lastPlaceOf 4 = .ok (.iconst 1, 1)) ∧ (decode cX1_lastPlaceOf 5 = .ok (.isub, 1)) ∧ (decode cX1_lastPlaceOf 6 = .ok (.istore_n 2, 1)) ∧ (decode cX1_lastPlaceOf 7 = .ok (.iload_n 2, 1)) ∧ (decode cX1_lastPlaceOf 8 = .ok (.ifCond .lt 21, 3)) ∧ (decode cX1_lastPlaceOf 11 = .ok (.aload_n 0, 1)) ∧ (decode cX1_lastPlaceOf 12 = .ok (.getfield 9, 3)) ∧ (decode cX1_lastPlaceOf 15 = .ok (.iload_n 2, 1)) ∧ (decode cX1_lastPlaceOf 16 = .ok (.iaload, 1)) ∧ (decode cX1_lastPlaceOf 17 = .ok (.iload_n 1, 1)) ∧ (decode cX1_lastPlaceOf 18 = .ok (.if_icmp .ne 5, 3)) ∧ (decode cX1_lastPlaceOf 21 = .ok (.iload_n 2, 1)) ∧ (decode cX1_lastPlaceOf 22 = .ok (.ireturn, 1)) ∧ (decode cX1_lastPlaceOf 23 = .ok (.iinc 2 (-1), 3)) := by decide +kernel
theorem dX1_lastPlaceOf_0 : decode cX1_lastPlaceOf 0 = .ok (.aload_n 0, 1) := bX1_lastPlaceOf_0.1
theorem dX1_lastPlaceOf_1 : decode cX1_lastPlaceOf 1 = .ok (.getfield 22, 3) := bX1_lastPlaceOf_0.2.1
theorem dX1_lastPlaceOf_4 : decode cX1_lastPlaceOf 4 = .ok (.iconst 1, 1) := bX1_lastPlaceOf_0.2.2.1
theorem dX1_lastPlaceOf_5 : decode cX1_lastPlaceOf 5 = .ok (.isub, 1) := bX1_lastPlaceOf_0.2.2.2.1
theorem dX1_lastPlaceOf_6 : decode cX1_lastPlaceOf 6 = .ok (.istore_n 2, 1) := bX1_lastPlaceOf_0.2.2.2.2.1
theorem dX1_lastPlaceOf_7 : decode cX1_lastPlaceOf 7 = .ok (.iload_n 2, 1) := bX1_lastPlaceOf_0.2.2.2.2.2.1
theorem dX1_lastPlaceOf_8 : decode cX1_lastPlaceOf 8 = .ok (.ifCond .lt 21, 3) := bX1_lastPlaceOf_0.2.2.2.2.2.2.1
theorem dX1_lastPlaceOf_11 : decode cX1_lastPlaceOf 11 = .ok (.aload_n 0, 1) := bX1_lastPlaceOf_0.2.2.2.2.2.2.2.1
theorem dX1_lastPlaceOf_12 : decode cX1_lastPlaceOf 12 = .ok (.getfield 9, 3) := bX1_lastPlaceOf_0.2.2.2.2.2.2.2.2.1
theorem dX1_lastPlaceOf_15 : decode cX1_lastPlaceOf 15 = .ok (.iload_n 2, 1) := bX1_lastPlaceOf_0.2.2.2.2.2.2.2.2.2.1
theorem dX1_lastPlaceOf_16 : decode cX1_lastPlaceOf 16 = .ok (.iaload, 1) := bX1_lastPlaceOf_0.2.2.2.2.2.2.2.2.2.2.1
theorem dX1_lastPlaceOf_17 : decode cX1_lastPlaceOf 17 = .ok (.iload_n 1, 1) := bX1_lastPlaceOf_0.2.2.2.2.2.2.2.2.2.2.2.1
theorem dX1_lastPlaceOf_18 : decode cX1_lastPlaceOf 18 = .ok (.if_icmp .ne 5, 3) := bX1_lastPlaceOf_0.2.2.2.2.2.2.2.2.2.2.2.2.1
theorem dX1_lastPlaceOf_21 : decode cX1_lastPlaceOf 21 = .ok (.iload_n 2, 1) := bX1_lastPlaceOf_0.2.2.2.2.2.2.2.2.2.2.2.2.2.1
theorem dX1_lastPlaceOf_22 : decode cX1_lastPlaceOf 22 = .ok (.ireturn, 1) := bX1_lastPlaceOf_0.2.2.2.2.2.2.2.2.2.2.2.2.2.2.1
theorem dX1_lastPlaceOf_23 : decode cX1_lastPlaceOf 23 = .ok (.iinc 2 (-1), 3) := bX1_lastPlaceOf_0.2.2.2.2.2.2.2.2.2.2.2.2.2.2.2
set_option maxRecDepth 100000 in
theorem bX1_lastPlaceOf_26 : (decode cX1_lastPlaceOf 26 = .ok (.goto (-19), 3)) ∧ (decode cX1_lastPlaceOf 29 = .ok (.iconst (-1), 1)) ∧ (decode cX1_lastPlaceOf 30 = .ok (.ireturn, 1)) := by decide +kernel
theorem dX1_lastPlaceOf_26 : decode cX1_lastPlaceOf 26 = .ok (.goto (-19), 3) := bX1_lastPlaceOf_26.1
theorem dX1_lastPlaceOf_29 : decode cX1_lastPlaceOf 29 = .ok (.iconst (-1), 1) := bX1_lastPlaceOf_26.2.1
theorem dX1_lastPlaceOf_30 : decode cX1_lastPlaceOf 30 = .ok (.ireturn, 1) := bX1_lastPlaceOf_26.2.2
set_option maxRecDepth 100000 in
theorem bX1_leastKey_0 : (decode cX1_leastKey 0 = .ok (.ldc 49, 2)) ∧ (decode cX1_leastKey 2 = .ok (.istore_n 1, 1)) ∧ (decode cX1_leastKey 3 = .ok (.iconst 0, 1)) ∧ (decode cX1_leastKey 4 = .ok (.istore_n 2, 1)) ∧ (decode cX1_leastKey 5 = .ok (.iload_n 2, 1)) ∧ (decode cX1_leastKey 6 = .ok (.aload_n 0, 1)) ∧ (decode cX1_leastKey 7 = .ok (.getfield 22, 3)) ∧ (decode cX1_leastKey 10 = .ok (.if_icmp .ge 30, 3)) ∧ (decode cX1_leastKey 13 = .ok (.iload_n 2, 1)) ∧ (decode cX1_leastKey 14 = .ok (.ifCond .eq 13, 3)) ∧ (decode cX1_leastKey 17 = .ok (.aload_n 0, 1)) ∧ (decode cX1_leastKey 18 = .ok (.getfield 9, 3)) ∧ (decode cX1_leastKey 21 = .ok (.iload_n 2, 1)) ∧ (decode cX1_leastKey 22 = .ok (.iaload, 1)) ∧ (decode cX1_leastKey 23 = .ok (.iload_n 1, 1)) ∧ (decode cX1_leastKey 24 = .ok (.if_icmp .ge 10, 3)) := by decide +kernel
theorem dX1_leastKey_0 : decode cX1_leastKey 0 = .ok (.ldc 49, 2) := bX1_leastKey_0.1
theorem dX1_leastKey_2 : decode cX1_leastKey 2 = .ok (.istore_n 1, 1) := bX1_leastKey_0.2.1
theorem dX1_leastKey_3 : decode cX1_leastKey 3 = .ok (.iconst 0, 1) := bX1_leastKey_0.2.2.1
theorem dX1_leastKey_4 : decode cX1_leastKey 4 = .ok (.istore_n 2, 1) := bX1_leastKey_0.2.2.2.1
theorem dX1_leastKey_5 : decode cX1_leastKey 5 = .ok (.iload_n 2, 1) := bX1_leastKey_0.2.2.2.2.1
theorem dX1_leastKey_6 : decode cX1_leastKey 6 = .ok (.aload_n 0, 1) := bX1_leastKey_0.2.2.2.2.2.1
theorem dX1_leastKey_7 : decode cX1_leastKey 7 = .ok (.getfield 22, 3) := bX1_leastKey_0.2.2.2.2.2.2.1
theorem dX1_leastKey_10 : decode cX1_leastKey 10 = .ok (.if_icmp .ge 30, 3) := bX1_leastKey_0.2.2.2.2.2.2.2.1
theorem dX1_leastKey_13 : decode cX1_leastKey 13 = .ok (.iload_n 2, 1) := bX1_leastKey_0.2.2.2.2.2.2.2.2.1
theorem dX1_leastKey_14 : decode cX1_leastKey 14 = .ok (.ifCond .eq 13, 3) := bX1_leastKey_0.2.2.2.2.2.2.2.2.2.1
theorem dX1_leastKey_17 : decode cX1_leastKey 17 = .ok (.aload_n 0, 1) := bX1_leastKey_0.2.2.2.2.2.2.2.2.2.2.1
theorem dX1_leastKey_18 : decode cX1_leastKey 18 = .ok (.getfield 9, 3) := bX1_leastKey_0.2.2.2.2.2.2.2.2.2.2.2.1
theorem dX1_leastKey_21 : decode cX1_leastKey 21 = .ok (.iload_n 2, 1) := bX1_leastKey_0.2.2.2.2.2.2.2.2.2.2.2.2.1
theorem dX1_leastKey_22 : decode cX1_leastKey 22 = .ok (.iaload, 1) := bX1_leastKey_0.2.2.2.2.2.2.2.2.2.2.2.2.2.1
theorem dX1_leastKey_23 : decode cX1_leastKey 23 = .ok (.iload_n 1, 1) := bX1_leastKey_0.2.2.2.2.2.2.2.2.2.2.2.2.2.2.1
theorem dX1_leastKey_24 : decode cX1_leastKey 24 = .ok (.if_icmp .ge 10, 3) := bX1_leastKey_0.2.2.2.2.2.2.2.2.2.2.2.2.2.2.2
set_option maxRecDepth 100000 in
theorem bX1_leastKey_27 : (decode cX1_leastKey 27 = .ok (.aload_n 0, 1)) ∧ (decode cX1_leastKey 28 = .ok (.getfield 9, 3)) ∧ (decode cX1_leastKey 31 = .ok (.iload_n 2, 1)) ∧ (decode cX1_leastKey 32 = .ok (.iaload, 1)) ∧ (decode cX1_leastKey 33 = .ok (.istore_n 1, 1)) ∧ (decode cX1_leastKey 34 = .ok (.iinc 2 1, 3)) ∧ (decode cX1_leastKey 37 = .ok (.goto (-32), 3)) ∧ (decode cX1_leastKey 40 = .ok (.iload_n 1, 1)) ∧ (decode cX1_leastKey 41 = .ok (.ireturn, 1)) := by decide +kernel
theorem dX1_leastKey_27 : decode cX1_leastKey 27 = .ok (.aload_n 0, 1) := bX1_leastKey_27.1
theorem dX1_leastKey_28 : decode cX1_leastKey 28 = .ok (.getfield 9, 3) := bX1_leastKey_27.2.1
theorem dX1_leastKey_31 : decode cX1_leastKey 31 = .ok (.iload_n 2, 1) := bX1_leastKey_27.2.2.1
theorem dX1_leastKey_32 : decode cX1_leastKey 32 = .ok (.iaload, 1) := bX1_leastKey_27.2.2.2.1
theorem dX1_leastKey_33 : decode cX1_leastKey 33 = .ok (.istore_n 1, 1) := bX1_leastKey_27.2.2.2.2.1
theorem dX1_leastKey_34 : decode cX1_leastKey 34 = .ok (.iinc 2 1, 3) := bX1_leastKey_27.2.2.2.2.2.1
theorem dX1_leastKey_37 : decode cX1_leastKey 37 = .ok (.goto (-32), 3) := bX1_leastKey_27.2.2.2.2.2.2.1
theorem dX1_leastKey_40 : decode cX1_leastKey 40 = .ok (.iload_n 1, 1) := bX1_leastKey_27.2.2.2.2.2.2.2.1
theorem dX1_leastKey_41 : decode cX1_leastKey 41 = .ok (.ireturn, 1) := bX1_leastKey_27.2.2.2.2.2.2.2.2
set_option maxRecDepth 100000 in
theorem bX1_greatestKey_0 : (decode cX1_greatestKey 0 = .ok (.ldc 49, 2)) ∧ (decode cX1_greatestKey 2 = .ok (.istore_n 1, 1)) ∧ (decode cX1_greatestKey 3 = .ok (.iconst 0, 1)) ∧ (decode cX1_greatestKey 4 = .ok (.istore_n 2, 1)) ∧ (decode cX1_greatestKey 5 = .ok (.iload_n 2, 1)) ∧ (decode cX1_greatestKey 6 = .ok (.aload_n 0, 1)) ∧ (decode cX1_greatestKey 7 = .ok (.getfield 22, 3)) ∧ (decode cX1_greatestKey 10 = .ok (.if_icmp .ge 20, 3)) ∧ (decode cX1_greatestKey 13 = .ok (.iload_n 1, 1)) ∧ (decode cX1_greatestKey 14 = .ok (.aload_n 0, 1)) ∧ (decode cX1_greatestKey 15 = .ok (.getfield 9, 3)) ∧ (decode cX1_greatestKey 18 = .ok (.iload_n 2, 1)) ∧ (decode cX1_greatestKey 19 = .ok (.iaload, 1)) ∧ (decode cX1_greatestKey 20 = .ok (.invokestatic 46, 3)) ∧ (decode cX1_greatestKey 23 = .ok (.istore_n 1, 1)) ∧ (decode cX1_greatestKey 24 = .ok (.iinc 2 1, 3)) := by decide +kernel
theorem dX1_greatestKey_0 : decode cX1_greatestKey 0 = .ok (.ldc 49, 2) := bX1_greatestKey_0.1
theorem dX1_greatestKey_2 : decode cX1_greatestKey 2 = .ok (.istore_n 1, 1) := bX1_greatestKey_0.2.1
theorem dX1_greatestKey_3 : decode cX1_greatestKey 3 = .ok (.iconst 0, 1) := bX1_greatestKey_0.2.2.1
theorem dX1_greatestKey_4 : decode cX1_greatestKey 4 = .ok (.istore_n 2, 1) := bX1_greatestKey_0.2.2.2.1
theorem dX1_greatestKey_5 : decode cX1_greatestKey 5 = .ok (.iload_n 2, 1) := bX1_greatestKey_0.2.2.2.2.1
theorem dX1_greatestKey_6 : decode cX1_greatestKey 6 = .ok (.aload_n 0, 1) := bX1_greatestKey_0.2.2.2.2.2.1
theorem dX1_greatestKey_7 : decode cX1_greatestKey 7 = .ok (.getfield 22, 3) := bX1_greatestKey_0.2.2.2.2.2.2.1
theorem dX1_greatestKey_10 : decode cX1_greatestKey 10 = .ok (.if_icmp .ge 20, 3) := bX1_greatestKey_0.2.2.2.2.2.2.2.1
theorem dX1_greatestKey_13 : decode cX1_greatestKey 13 = .ok (.iload_n 1, 1) := bX1_greatestKey_0.2.2.2.2.2.2.2.2.1
theorem dX1_greatestKey_14 : decode cX1_greatestKey 14 = .ok (.aload_n 0, 1) := bX1_greatestKey_0.2.2.2.2.2.2.2.2.2.1
theorem dX1_greatestKey_15 : decode cX1_greatestKey 15 = .ok (.getfield 9, 3) := bX1_greatestKey_0.2.2.2.2.2.2.2.2.2.2.1
theorem dX1_greatestKey_18 : decode cX1_greatestKey 18 = .ok (.iload_n 2, 1) := bX1_greatestKey_0.2.2.2.2.2.2.2.2.2.2.2.1
theorem dX1_greatestKey_19 : decode cX1_greatestKey 19 = .ok (.iaload, 1) := bX1_greatestKey_0.2.2.2.2.2.2.2.2.2.2.2.2.1
theorem dX1_greatestKey_20 : decode cX1_greatestKey 20 = .ok (.invokestatic 46, 3) := bX1_greatestKey_0.2.2.2.2.2.2.2.2.2.2.2.2.2.1
theorem dX1_greatestKey_23 : decode cX1_greatestKey 23 = .ok (.istore_n 1, 1) := bX1_greatestKey_0.2.2.2.2.2.2.2.2.2.2.2.2.2.2.1
theorem dX1_greatestKey_24 : decode cX1_greatestKey 24 = .ok (.iinc 2 1, 3) := bX1_greatestKey_0.2.2.2.2.2.2.2.2.2.2.2.2.2.2.2
set_option maxRecDepth 100000 in
theorem bX1_greatestKey_27 : (decode cX1_greatestKey 27 = .ok (.goto (-22), 3)) ∧ (decode cX1_greatestKey 30 = .ok (.iload_n 1, 1)) ∧ (decode cX1_greatestKey 31 = .ok (.ireturn, 1)) := by decide +kernel
theorem dX1_greatestKey_27 : decode cX1_greatestKey 27 = .ok (.goto (-22), 3) := bX1_greatestKey_27.1
theorem dX1_greatestKey_30 : decode cX1_greatestKey 30 = .ok (.iload_n 1, 1) := bX1_greatestKey_27.2.1
theorem dX1_greatestKey_31 : decode cX1_greatestKey 31 = .ok (.ireturn, 1) := bX1_greatestKey_27.2.2
set_option maxRecDepth 100000 in
theorem bX1_keysTogether_0 : (decode cX1_keysTogether 0 = .ok (.iconst 0, 1)) ∧ (decode cX1_keysTogether 1 = .ok (.istore_n 1, 1)) ∧ (decode cX1_keysTogether 2 = .ok (.iconst 0, 1)) ∧ (decode cX1_keysTogether 3 = .ok (.istore_n 2, 1)) ∧ (decode cX1_keysTogether 4 = .ok (.iload_n 2, 1)) ∧ (decode cX1_keysTogether 5 = .ok (.aload_n 0, 1)) ∧ (decode cX1_keysTogether 6 = .ok (.getfield 22, 3)) ∧ (decode cX1_keysTogether 9 = .ok (.if_icmp .ge 18, 3)) ∧ (decode cX1_keysTogether 12 = .ok (.iload_n 1, 1)) ∧ (decode cX1_keysTogether 13 = .ok (.aload_n 0, 1)) ∧ (decode cX1_keysTogether 14 = .ok (.getfield 9, 3)) ∧ (decode cX1_keysTogether 17 = .ok (.iload_n 2, 1)) ∧ (decode cX1_keysTogether 18 = .ok (.iaload, 1)) ∧ (decode cX1_keysTogether 19 = .ok (.iadd, 1)) ∧ (decode cX1_keysTogether 20 = .ok (.istore_n 1, 1)) ∧ (decode cX1_keysTogether 21 = .ok (.iinc 2 1, 3)) := by decide +kernel
theorem dX1_keysTogether_0 : decode cX1_keysTogether 0 = .ok (.iconst 0, 1) := bX1_keysTogether_0.1
theorem dX1_keysTogether_1 : decode cX1_keysTogether 1 = .ok (.istore_n 1, 1) := bX1_keysTogether_0.2.1
theorem dX1_keysTogether_2 : decode cX1_keysTogether 2 = .ok (.iconst 0, 1) := bX1_keysTogether_0.2.2.1
theorem dX1_keysTogether_3 : decode cX1_keysTogether 3 = .ok (.istore_n 2, 1) := bX1_keysTogether_0.2.2.2.1
theorem dX1_keysTogether_4 : decode cX1_keysTogether 4 = .ok (.iload_n 2, 1) := bX1_keysTogether_0.2.2.2.2.1
theorem dX1_keysTogether_5 : decode cX1_keysTogether 5 = .ok (.aload_n 0, 1) := bX1_keysTogether_0.2.2.2.2.2.1
theorem dX1_keysTogether_6 : decode cX1_keysTogether 6 = .ok (.getfield 22, 3) := bX1_keysTogether_0.2.2.2.2.2.2.1
theorem dX1_keysTogether_9 : decode cX1_keysTogether 9 = .ok (.if_icmp .ge 18, 3) := bX1_keysTogether_0.2.2.2.2.2.2.2.1
theorem dX1_keysTogether_12 : decode cX1_keysTogether 12 = .ok (.iload_n 1, 1) := bX1_keysTogether_0.2.2.2.2.2.2.2.2.1
theorem dX1_keysTogether_13 : decode cX1_keysTogether 13 = .ok (.aload_n 0, 1) := bX1_keysTogether_0.2.2.2.2.2.2.2.2.2.1
theorem dX1_keysTogether_14 : decode cX1_keysTogether 14 = .ok (.getfield 9, 3) := bX1_keysTogether_0.2.2.2.2.2.2.2.2.2.2.1
theorem dX1_keysTogether_17 : decode cX1_keysTogether 17 = .ok (.iload_n 2, 1) := bX1_keysTogether_0.2.2.2.2.2.2.2.2.2.2.2.1
theorem dX1_keysTogether_18 : decode cX1_keysTogether 18 = .ok (.iaload, 1) := bX1_keysTogether_0.2.2.2.2.2.2.2.2.2.2.2.2.1
theorem dX1_keysTogether_19 : decode cX1_keysTogether 19 = .ok (.iadd, 1) := bX1_keysTogether_0.2.2.2.2.2.2.2.2.2.2.2.2.2.1
theorem dX1_keysTogether_20 : decode cX1_keysTogether 20 = .ok (.istore_n 1, 1) := bX1_keysTogether_0.2.2.2.2.2.2.2.2.2.2.2.2.2.2.1
theorem dX1_keysTogether_21 : decode cX1_keysTogether 21 = .ok (.iinc 2 1, 3) := bX1_keysTogether_0.2.2.2.2.2.2.2.2.2.2.2.2.2.2.2
set_option maxRecDepth 100000 in
theorem bX1_keysTogether_24 : (decode cX1_keysTogether 24 = .ok (.goto (-20), 3)) ∧ (decode cX1_keysTogether 27 = .ok (.iload_n 1, 1)) ∧ (decode cX1_keysTogether 28 = .ok (.ireturn, 1)) := by decide +kernel
theorem dX1_keysTogether_24 : decode cX1_keysTogether 24 = .ok (.goto (-20), 3) := bX1_keysTogether_24.1
theorem dX1_keysTogether_27 : decode cX1_keysTogether 27 = .ok (.iload_n 1, 1) := bX1_keysTogether_24.2.1
theorem dX1_keysTogether_28 : decode cX1_keysTogether 28 = .ok (.ireturn, 1) := bX1_keysTogether_24.2.2
set_option maxRecDepth 100000 in
theorem bX1_tiedPairsOfSorted_0 : (decode cX1_tiedPairsOfSorted 0 = .ok (.iconst 0, 1)) ∧ (decode cX1_tiedPairsOfSorted 1 = .ok (.istore_n 1, 1)) ∧ (decode cX1_tiedPairsOfSorted 2 = .ok (.iconst 0, 1)) ∧ (decode cX1_tiedPairsOfSorted 3 = .ok (.istore_n 2, 1)) ∧ (decode cX1_tiedPairsOfSorted 4 = .ok (.iconst 1, 1)) ∧ (decode cX1_tiedPairsOfSorted 5 = .ok (.istore_n 3, 1)) ∧ (decode cX1_tiedPairsOfSorted 6 = .ok (.iload_n 3, 1)) ∧ (decode cX1_tiedPairsOfSorted 7 = .ok (.aload_n 0, 1)) ∧ (decode cX1_tiedPairsOfSorted 8 = .ok (.getfield 22, 3)) ∧ (decode cX1_tiedPairsOfSorted 11 = .ok (.if_icmp .ge 38, 3)) ∧ (decode cX1_tiedPairsOfSorted 14 = .ok (.aload_n 0, 1)) ∧ (decode cX1_tiedPairsOfSorted 15 = .ok (.getfield 9, 3)) ∧ (decode cX1_tiedPairsOfSorted 18 = .ok (.iload_n 3, 1)) ∧ (decode cX1_tiedPairsOfSorted 19 = .ok (.iaload, 1)) ∧ (decode cX1_tiedPairsOfSorted 20 = .ok (.aload_n 0, 1)) ∧ (decode cX1_tiedPairsOfSorted 21 = .ok (.getfield 9, 3)) := by decide +kernel
theorem dX1_tiedPairsOfSorted_0 : decode cX1_tiedPairsOfSorted 0 = .ok (.iconst 0, 1) := bX1_tiedPairsOfSorted_0.1
theorem dX1_tiedPairsOfSorted_1 : decode cX1_tiedPairsOfSorted 1 = .ok (.istore_n 1, 1) := bX1_tiedPairsOfSorted_0.2.1
theorem dX1_tiedPairsOfSorted_2 : decode cX1_tiedPairsOfSorted 2 = .ok (.iconst 0, 1) := bX1_tiedPairsOfSorted_0.2.2.1
theorem dX1_tiedPairsOfSorted_3 : decode cX1_tiedPairsOfSorted 3 = .ok (.istore_n 2, 1) := bX1_tiedPairsOfSorted_0.2.2.2.1
theorem dX1_tiedPairsOfSorted_4 : decode cX1_tiedPairsOfSorted 4 = .ok (.iconst 1, 1) := bX1_tiedPairsOfSorted_0.2.2.2.2.1
theorem dX1_tiedPairsOfSorted_5 : decode cX1_tiedPairsOfSorted 5 = .ok (.istore_n 3, 1) := bX1_tiedPairsOfSorted_0.2.2.2.2.2.1
theorem dX1_tiedPairsOfSorted_6 : decode cX1_tiedPairsOfSorted 6 = .ok (.iload_n 3, 1) := bX1_tiedPairsOfSorted_0.2.2.2.2.2.2.1
theorem dX1_tiedPairsOfSorted_7 : decode cX1_tiedPairsOfSorted 7 = .ok (.aload_n 0, 1) := bX1_tiedPairsOfSorted_0.2.2.2.2.2.2.2.1
theorem dX1_tiedPairsOfSorted_8 : decode cX1_tiedPairsOfSorted 8 = .ok (.getfield 22, 3) := bX1_tiedPairsOfSorted_0.2.2.2.2.2.2.2.2.1
theorem dX1_tiedPairsOfSorted_11 : decode cX1_tiedPairsOfSorted 11 = .ok (.if_icmp .ge 38, 3) := bX1_tiedPairsOfSorted_0.2.2.2.2.2.2.2.2.2.1
theorem dX1_tiedPairsOfSorted_14 : decode cX1_tiedPairsOfSorted 14 = .ok (.aload_n 0, 1) := bX1_tiedPairsOfSorted_0.2.2.2.2.2.2.2.2.2.2.1
theorem dX1_tiedPairsOfSorted_15 : decode cX1_tiedPairsOfSorted 15 = .ok (.getfield 9, 3) := bX1_tiedPairsOfSorted_0.2.2.2.2.2.2.2.2.2.2.2.1
theorem dX1_tiedPairsOfSorted_18 : decode cX1_tiedPairsOfSorted 18 = .ok (.iload_n 3, 1) := bX1_tiedPairsOfSorted_0.2.2.2.2.2.2.2.2.2.2.2.2.1
theorem dX1_tiedPairsOfSorted_19 : decode cX1_tiedPairsOfSorted 19 = .ok (.iaload, 1) := bX1_tiedPairsOfSorted_0.2.2.2.2.2.2.2.2.2.2.2.2.2.1
theorem dX1_tiedPairsOfSorted_20 : decode cX1_tiedPairsOfSorted 20 = .ok (.aload_n 0, 1) := bX1_tiedPairsOfSorted_0.2.2.2.2.2.2.2.2.2.2.2.2.2.2.1
theorem dX1_tiedPairsOfSorted_21 : decode cX1_tiedPairsOfSorted 21 = .ok (.getfield 9, 3) := bX1_tiedPairsOfSorted_0.2.2.2.2.2.2.2.2.2.2.2.2.2.2.2
set_option maxRecDepth 100000 in
theorem bX1_tiedPairsOfSorted_24 : (decode cX1_tiedPairsOfSorted 24 = .ok (.iload_n 3, 1)) ∧ (decode cX1_tiedPairsOfSorted 25 = .ok (.iconst 1, 1)) ∧ (decode cX1_tiedPairsOfSorted 26 = .ok (.isub, 1)) ∧ (decode cX1_tiedPairsOfSorted 27 = .ok (.iaload, 1)) ∧ (decode cX1_tiedPairsOfSorted 28 = .ok (.if_icmp .ne 9, 3)) ∧ (decode cX1_tiedPairsOfSorted 31 = .ok (.iload_n 2, 1)) ∧ (decode cX1_tiedPairsOfSorted 32 = .ok (.iconst 1, 1)) ∧ (decode cX1_tiedPairsOfSorted 33 = .ok (.iadd, 1)) ∧ (decode cX1_tiedPairsOfSorted 34 = .ok (.goto 4, 3)) ∧ (decode cX1_tiedPairsOfSorted 37 = .ok (.iconst 0, 1)) ∧ (decode cX1_tiedPairsOfSorted 38 = .ok (.istore_n 2, 1)) ∧ (decode cX1_tiedPairsOfSorted 39 = .ok (.iload_n 1, 1)) ∧ (decode cX1_tiedPairsOfSorted 40 = .ok (.iload_n 2, 1)) ∧ (decode cX1_tiedPairsOfSorted 41 = .ok (.iadd, 1)) ∧ (decode cX1_tiedPairsOfSorted 42 = .ok (.istore_n 1, 1)) ∧ (decode cX1_tiedPairsOfSorted 43 = .ok (.iinc 3 1, 3)) := by decide +kernel
theorem dX1_tiedPairsOfSorted_24 : decode cX1_tiedPairsOfSorted 24 = .ok (.iload_n 3, 1) := bX1_tiedPairsOfSorted_24.1
theorem dX1_tiedPairsOfSorted_25 : decode cX1_tiedPairsOfSorted 25 = .ok (.iconst 1, 1) := bX1_tiedPairsOfSorted_24.2.1
theorem dX1_tiedPairsOfSorted_26 : decode cX1_tiedPairsOfSorted 26 = .ok (.isub, 1) := bX1_tiedPairsOfSorted_24.2.2.1
theorem dX1_tiedPairsOfSorted_27 : decode cX1_tiedPairsOfSorted 27 = .ok (.iaload, 1) := bX1_tiedPairsOfSorted_24.2.2.2.1
theorem dX1_tiedPairsOfSorted_28 : decode cX1_tiedPairsOfSorted 28 = .ok (.if_icmp .ne 9, 3) := bX1_tiedPairsOfSorted_24.2.2.2.2.1
theorem dX1_tiedPairsOfSorted_31 : decode cX1_tiedPairsOfSorted 31 = .ok (.iload_n 2, 1) := bX1_tiedPairsOfSorted_24.2.2.2.2.2.1
theorem dX1_tiedPairsOfSorted_32 : decode cX1_tiedPairsOfSorted 32 = .ok (.iconst 1, 1) := bX1_tiedPairsOfSorted_24.2.2.2.2.2.2.1
theorem dX1_tiedPairsOfSorted_33 : decode cX1_tiedPairsOfSorted 33 = .ok (.iadd, 1) := bX1_tiedPairsOfSorted_24.2.2.2.2.2.2.2.1
theorem dX1_tiedPairsOfSorted_34 : decode cX1_tiedPairsOfSorted 34 = .ok (.goto 4, 3) := bX1_tiedPairsOfSorted_24.2.2.2.2.2.2.2.2.1
theorem dX1_tiedPairsOfSorted_37 : decode cX1_tiedPairsOfSorted 37 = .ok (.iconst 0, 1) := bX1_tiedPairsOfSorted_24.2.2.2.2.2.2.2.2.2.1
theorem dX1_tiedPairsOfSorted_38 : decode cX1_tiedPairsOfSorted 38 = .ok (.istore_n 2, 1) := bX1_tiedPairsOfSorted_24.2.2.2.2.2.2.2.2.2.2.1
theorem dX1_tiedPairsOfSorted_39 : decode cX1_tiedPairsOfSorted 39 = .ok (.iload_n 1, 1) := bX1_tiedPairsOfSorted_24.2.2.2.2.2.2.2.2.2.2.2.1
theorem dX1_tiedPairsOfSorted_40 : decode cX1_tiedPairsOfSorted 40 = .ok (.iload_n 2, 1) := bX1_tiedPairsOfSorted_24.2.2.2.2.2.2.2.2.2.2.2.2.1
theorem dX1_tiedPairsOfSorted_41 : decode cX1_tiedPairsOfSorted 41 = .ok (.iadd, 1) := bX1_tiedPairsOfSorted_24.2.2.2.2.2.2.2.2.2.2.2.2.2.1
theorem dX1_tiedPairsOfSorted_42 : decode cX1_tiedPairsOfSorted 42 = .ok (.istore_n 1, 1) := bX1_tiedPairsOfSorted_24.2.2.2.2.2.2.2.2.2.2.2.2.2.2.1
theorem dX1_tiedPairsOfSorted_43 : decode cX1_tiedPairsOfSorted 43 = .ok (.iinc 3 1, 3) := bX1_tiedPairsOfSorted_24.2.2.2.2.2.2.2.2.2.2.2.2.2.2.2
set_option maxRecDepth 100000 in
theorem bX1_tiedPairsOfSorted_46 : (decode cX1_tiedPairsOfSorted 46 = .ok (.goto (-40), 3)) ∧ (decode cX1_tiedPairsOfSorted 49 = .ok (.iload_n 1, 1)) ∧ (decode cX1_tiedPairsOfSorted 50 = .ok (.ireturn, 1)) := by decide +kernel
theorem dX1_tiedPairsOfSorted_46 : decode cX1_tiedPairsOfSorted 46 = .ok (.goto (-40), 3) := bX1_tiedPairsOfSorted_46.1
theorem dX1_tiedPairsOfSorted_49 : decode cX1_tiedPairsOfSorted 49 = .ok (.iload_n 1, 1) := bX1_tiedPairsOfSorted_46.2.1
theorem dX1_tiedPairsOfSorted_50 : decode cX1_tiedPairsOfSorted 50 = .ok (.ireturn, 1) := bX1_tiedPairsOfSorted_46.2.2
set_option maxRecDepth 100000 in
theorem bX1_unlikeKeysOfSorted_0 : (decode cX1_unlikeKeysOfSorted 0 = .ok (.iconst 0, 1)) ∧ (decode cX1_unlikeKeysOfSorted 1 = .ok (.istore_n 1, 1)) ∧ (decode cX1_unlikeKeysOfSorted 2 = .ok (.iconst 0, 1)) ∧ (decode cX1_unlikeKeysOfSorted 3 = .ok (.istore_n 2, 1)) ∧ (decode cX1_unlikeKeysOfSorted 4 = .ok (.iload_n 2, 1)) ∧ (decode cX1_unlikeKeysOfSorted 5 = .ok (.aload_n 0, 1)) ∧ (decode cX1_unlikeKeysOfSorted 6 = .ok (.getfield 22, 3)) ∧ (decode cX1_unlikeKeysOfSorted 9 = .ok (.if_icmp .ge 33, 3)) ∧ (decode cX1_unlikeKeysOfSorted 12 = .ok (.iload_n 2, 1)) ∧ (decode cX1_unlikeKeysOfSorted 13 = .ok (.ifCond .eq 20, 3)) ∧ (decode cX1_unlikeKeysOfSorted 16 = .ok (.aload_n 0, 1)) ∧ (decode cX1_unlikeKeysOfSorted 17 = .ok (.getfield 9, 3)) ∧ (decode cX1_unlikeKeysOfSorted 20 = .ok (.iload_n 2, 1)) ∧ (decode cX1_unlikeKeysOfSorted 21 = .ok (.iaload, 1)) ∧ (decode cX1_unlikeKeysOfSorted 22 = .ok (.aload_n 0, 1)) ∧ (decode cX1_unlikeKeysOfSorted 23 = .ok (.getfield 9, 3)) := by decide +kernel
theorem dX1_unlikeKeysOfSorted_0 : decode cX1_unlikeKeysOfSorted 0 = .ok (.iconst 0, 1) := bX1_unlikeKeysOfSorted_0.1
theorem dX1_unlikeKeysOfSorted_1 : decode cX1_unlikeKeysOfSorted 1 = .ok (.istore_n 1, 1) := bX1_unlikeKeysOfSorted_0.2.1
theorem dX1_unlikeKeysOfSorted_2 : decode cX1_unlikeKeysOfSorted 2 = .ok (.iconst 0, 1) := bX1_unlikeKeysOfSorted_0.2.2.1
theorem dX1_unlikeKeysOfSorted_3 : decode cX1_unlikeKeysOfSorted 3 = .ok (.istore_n 2, 1) := bX1_unlikeKeysOfSorted_0.2.2.2.1
theorem dX1_unlikeKeysOfSorted_4 : decode cX1_unlikeKeysOfSorted 4 = .ok (.iload_n 2, 1) := bX1_unlikeKeysOfSorted_0.2.2.2.2.1
theorem dX1_unlikeKeysOfSorted_5 : decode cX1_unlikeKeysOfSorted 5 = .ok (.aload_n 0, 1) := bX1_unlikeKeysOfSorted_0.2.2.2.2.2.1
theorem dX1_unlikeKeysOfSorted_6 : decode cX1_unlikeKeysOfSorted 6 = .ok (.getfield 22, 3) := bX1_unlikeKeysOfSorted_0.2.2.2.2.2.2.1
theorem dX1_unlikeKeysOfSorted_9 : decode cX1_unlikeKeysOfSorted 9 = .ok (.if_icmp .ge 33, 3) := bX1_unlikeKeysOfSorted_0.2.2.2.2.2.2.2.1
theorem dX1_unlikeKeysOfSorted_12 : decode cX1_unlikeKeysOfSorted 12 = .ok (.iload_n 2, 1) := bX1_unlikeKeysOfSorted_0.2.2.2.2.2.2.2.2.1
theorem dX1_unlikeKeysOfSorted_13 : decode cX1_unlikeKeysOfSorted 13 = .ok (.ifCond .eq 20, 3) := bX1_unlikeKeysOfSorted_0.2.2.2.2.2.2.2.2.2.1
theorem dX1_unlikeKeysOfSorted_16 : decode cX1_unlikeKeysOfSorted 16 = .ok (.aload_n 0, 1) := bX1_unlikeKeysOfSorted_0.2.2.2.2.2.2.2.2.2.2.1
theorem dX1_unlikeKeysOfSorted_17 : decode cX1_unlikeKeysOfSorted 17 = .ok (.getfield 9, 3) := bX1_unlikeKeysOfSorted_0.2.2.2.2.2.2.2.2.2.2.2.1
theorem dX1_unlikeKeysOfSorted_20 : decode cX1_unlikeKeysOfSorted 20 = .ok (.iload_n 2, 1) := bX1_unlikeKeysOfSorted_0.2.2.2.2.2.2.2.2.2.2.2.2.1
theorem dX1_unlikeKeysOfSorted_21 : decode cX1_unlikeKeysOfSorted 21 = .ok (.iaload, 1) := bX1_unlikeKeysOfSorted_0.2.2.2.2.2.2.2.2.2.2.2.2.2.1
theorem dX1_unlikeKeysOfSorted_22 : decode cX1_unlikeKeysOfSorted 22 = .ok (.aload_n 0, 1) := bX1_unlikeKeysOfSorted_0.2.2.2.2.2.2.2.2.2.2.2.2.2.2.1
theorem dX1_unlikeKeysOfSorted_23 : decode cX1_unlikeKeysOfSorted 23 = .ok (.getfield 9, 3) := bX1_unlikeKeysOfSorted_0.2.2.2.2.2.2.2.2.2.2.2.2.2.2.2
set_option maxRecDepth 100000 in
theorem bX1_unlikeKeysOfSorted_26 : (decode cX1_unlikeKeysOfSorted 26 = .ok (.iload_n 2, 1)) ∧ (decode cX1_unlikeKeysOfSorted 27 = .ok (.iconst 1, 1)) ∧ (decode cX1_unlikeKeysOfSorted 28 = .ok (.isub, 1)) ∧ (decode cX1_unlikeKeysOfSorted 29 = .ok (.iaload, 1)) ∧ (decode cX1_unlikeKeysOfSorted 30 = .ok (.if_icmp .eq 6, 3)) ∧ (decode cX1_unlikeKeysOfSorted 33 = .ok (.iinc 1 1, 3)) ∧ (decode cX1_unlikeKeysOfSorted 36 = .ok (.iinc 2 1, 3)) ∧ (decode cX1_unlikeKeysOfSorted 39 = .ok (.goto (-35), 3)) ∧ (decode cX1_unlikeKeysOfSorted 42 = .ok (.iload_n 1, 1)) ∧ (decode cX1_unlikeKeysOfSorted 43 = .ok (.ireturn, 1)) := by decide +kernel
theorem dX1_unlikeKeysOfSorted_26 : decode cX1_unlikeKeysOfSorted 26 = .ok (.iload_n 2, 1) := bX1_unlikeKeysOfSorted_26.1
theorem dX1_unlikeKeysOfSorted_27 : decode cX1_unlikeKeysOfSorted 27 = .ok (.iconst 1, 1) := bX1_unlikeKeysOfSorted_26.2.1
theorem dX1_unlikeKeysOfSorted_28 : decode cX1_unlikeKeysOfSorted 28 = .ok (.isub, 1) := bX1_unlikeKeysOfSorted_26.2.2.1
theorem dX1_unlikeKeysOfSorted_29 : decode cX1_unlikeKeysOfSorted 29 = .ok (.iaload, 1) := bX1_unlikeKeysOfSorted_26.2.2.2.1
theorem dX1_unlikeKeysOfSorted_30 : decode cX1_unlikeKeysOfSorted 30 = .ok (.if_icmp .eq 6, 3) := bX1_unlikeKeysOfSorted_26.2.2.2.2.1
theorem dX1_unlikeKeysOfSorted_33 : decode cX1_unlikeKeysOfSorted 33 = .ok (.iinc 1 1, 3) := bX1_unlikeKeysOfSorted_26.2.2.2.2.2.1
theorem dX1_unlikeKeysOfSorted_36 : decode cX1_unlikeKeysOfSorted 36 = .ok (.iinc 2 1, 3) := bX1_unlikeKeysOfSorted_26.2.2.2.2.2.2.1
theorem dX1_unlikeKeysOfSorted_39 : decode cX1_unlikeKeysOfSorted 39 = .ok (.goto (-35), 3) := bX1_unlikeKeysOfSorted_26.2.2.2.2.2.2.2.1
theorem dX1_unlikeKeysOfSorted_42 : decode cX1_unlikeKeysOfSorted 42 = .ok (.iload_n 1, 1) := bX1_unlikeKeysOfSorted_26.2.2.2.2.2.2.2.2.1
theorem dX1_unlikeKeysOfSorted_43 : decode cX1_unlikeKeysOfSorted 43 = .ok (.ireturn, 1) := bX1_unlikeKeysOfSorted_26.2.2.2.2.2.2.2.2.2
set_option maxRecDepth 100000 in
theorem bX1_commonestKeyOfSorted_0 : (decode cX1_commonestKeyOfSorted 0 = .ok (.ldc 49, 2)) ∧ (decode cX1_commonestKeyOfSorted 2 = .ok (.istore_n 1, 1)) ∧ (decode cX1_commonestKeyOfSorted 3 = .ok (.iconst 0, 1)) ∧ (decode cX1_commonestKeyOfSorted 4 = .ok (.istore_n 2, 1)) ∧ (decode cX1_commonestKeyOfSorted 5 = .ok (.iconst 0, 1)) ∧ (decode cX1_commonestKeyOfSorted 6 = .ok (.istore_n 3, 1)) ∧ (decode cX1_commonestKeyOfSorted 7 = .ok (.iconst 0, 1)) ∧ (decode cX1_commonestKeyOfSorted 8 = .ok (.istore 4, 2)) ∧ (decode cX1_commonestKeyOfSorted 10 = .ok (.iload 4, 2)) ∧ (decode cX1_commonestKeyOfSorted 12 = .ok (.aload_n 0, 1)) ∧ (decode cX1_commonestKeyOfSorted 13 = .ok (.getfield 22, 3)) ∧ (decode cX1_commonestKeyOfSorted 16 = .ok (.if_icmp .ge 56, 3)) ∧ (decode cX1_commonestKeyOfSorted 19 = .ok (.iload 4, 2)) ∧ (decode cX1_commonestKeyOfSorted 21 = .ok (.ifCond .le 28, 3)) ∧ (decode cX1_commonestKeyOfSorted 24 = .ok (.aload_n 0, 1)) ∧ (decode cX1_commonestKeyOfSorted 25 = .ok (.getfield 9, 3)) := by decide +kernel
theorem dX1_commonestKeyOfSorted_0 : decode cX1_commonestKeyOfSorted 0 = .ok (.ldc 49, 2) := bX1_commonestKeyOfSorted_0.1
theorem dX1_commonestKeyOfSorted_2 : decode cX1_commonestKeyOfSorted 2 = .ok (.istore_n 1, 1) := bX1_commonestKeyOfSorted_0.2.1
theorem dX1_commonestKeyOfSorted_3 : decode cX1_commonestKeyOfSorted 3 = .ok (.iconst 0, 1) := bX1_commonestKeyOfSorted_0.2.2.1
theorem dX1_commonestKeyOfSorted_4 : decode cX1_commonestKeyOfSorted 4 = .ok (.istore_n 2, 1) := bX1_commonestKeyOfSorted_0.2.2.2.1
theorem dX1_commonestKeyOfSorted_5 : decode cX1_commonestKeyOfSorted 5 = .ok (.iconst 0, 1) := bX1_commonestKeyOfSorted_0.2.2.2.2.1
theorem dX1_commonestKeyOfSorted_6 : decode cX1_commonestKeyOfSorted 6 = .ok (.istore_n 3, 1) := bX1_commonestKeyOfSorted_0.2.2.2.2.2.1
theorem dX1_commonestKeyOfSorted_7 : decode cX1_commonestKeyOfSorted 7 = .ok (.iconst 0, 1) := bX1_commonestKeyOfSorted_0.2.2.2.2.2.2.1
theorem dX1_commonestKeyOfSorted_8 : decode cX1_commonestKeyOfSorted 8 = .ok (.istore 4, 2) := bX1_commonestKeyOfSorted_0.2.2.2.2.2.2.2.1
theorem dX1_commonestKeyOfSorted_10 : decode cX1_commonestKeyOfSorted 10 = .ok (.iload 4, 2) := bX1_commonestKeyOfSorted_0.2.2.2.2.2.2.2.2.1
theorem dX1_commonestKeyOfSorted_12 : decode cX1_commonestKeyOfSorted 12 = .ok (.aload_n 0, 1) := bX1_commonestKeyOfSorted_0.2.2.2.2.2.2.2.2.2.1
theorem dX1_commonestKeyOfSorted_13 : decode cX1_commonestKeyOfSorted 13 = .ok (.getfield 22, 3) := bX1_commonestKeyOfSorted_0.2.2.2.2.2.2.2.2.2.2.1
theorem dX1_commonestKeyOfSorted_16 : decode cX1_commonestKeyOfSorted 16 = .ok (.if_icmp .ge 56, 3) := bX1_commonestKeyOfSorted_0.2.2.2.2.2.2.2.2.2.2.2.1
theorem dX1_commonestKeyOfSorted_19 : decode cX1_commonestKeyOfSorted 19 = .ok (.iload 4, 2) := bX1_commonestKeyOfSorted_0.2.2.2.2.2.2.2.2.2.2.2.2.1
theorem dX1_commonestKeyOfSorted_21 : decode cX1_commonestKeyOfSorted 21 = .ok (.ifCond .le 28, 3) := bX1_commonestKeyOfSorted_0.2.2.2.2.2.2.2.2.2.2.2.2.2.1
theorem dX1_commonestKeyOfSorted_24 : decode cX1_commonestKeyOfSorted 24 = .ok (.aload_n 0, 1) := bX1_commonestKeyOfSorted_0.2.2.2.2.2.2.2.2.2.2.2.2.2.2.1
theorem dX1_commonestKeyOfSorted_25 : decode cX1_commonestKeyOfSorted 25 = .ok (.getfield 9, 3) := bX1_commonestKeyOfSorted_0.2.2.2.2.2.2.2.2.2.2.2.2.2.2.2
set_option maxRecDepth 100000 in
theorem bX1_commonestKeyOfSorted_28 : (decode cX1_commonestKeyOfSorted 28 = .ok (.iload 4, 2)) ∧ (decode cX1_commonestKeyOfSorted 30 = .ok (.iaload, 1)) ∧ (decode cX1_commonestKeyOfSorted 31 = .ok (.aload_n 0, 1)) ∧ (decode cX1_commonestKeyOfSorted 32 = .ok (.getfield 9, 3)) ∧ (decode cX1_commonestKeyOfSorted 35 = .ok (.iload 4, 2)) ∧ (decode cX1_commonestKeyOfSorted 37 = .ok (.iconst 1, 1)) ∧ (decode cX1_commonestKeyOfSorted 38 = .ok (.isub, 1)) ∧ (decode cX1_commonestKeyOfSorted 39 = .ok (.iaload, 1)) ∧ (decode cX1_commonestKeyOfSorted 40 = .ok (.if_icmp .ne 9, 3)) ∧ (decode cX1_commonestKeyOfSorted 43 = .ok (.iload_n 3, 1)) ∧ (decode cX1_commonestKeyOfSorted 44 = .ok (.iconst 1, 1)) ∧ (decode cX1_commonestKeyOfSorted 45 = .ok (.iadd, 1)) ∧ (decode cX1_commonestKeyOfSorted 46 = .ok (.goto 4, 3)) ∧ (decode cX1_commonestKeyOfSorted 49 = .ok (.iconst 1, 1)) ∧ (decode cX1_commonestKeyOfSorted 50 = .ok (.istore_n 3, 1)) ∧ (decode cX1_commonestKeyOfSorted 51 = .ok (.iload_n 3, 1)) := by decide +kernel
theorem dX1_commonestKeyOfSorted_28 : decode cX1_commonestKeyOfSorted 28 = .ok (.iload 4, 2) := bX1_commonestKeyOfSorted_28.1
theorem dX1_commonestKeyOfSorted_30 : decode cX1_commonestKeyOfSorted 30 = .ok (.iaload, 1) := bX1_commonestKeyOfSorted_28.2.1
theorem dX1_commonestKeyOfSorted_31 : decode cX1_commonestKeyOfSorted 31 = .ok (.aload_n 0, 1) := bX1_commonestKeyOfSorted_28.2.2.1
theorem dX1_commonestKeyOfSorted_32 : decode cX1_commonestKeyOfSorted 32 = .ok (.getfield 9, 3) := bX1_commonestKeyOfSorted_28.2.2.2.1
theorem dX1_commonestKeyOfSorted_35 : decode cX1_commonestKeyOfSorted 35 = .ok (.iload 4, 2) := bX1_commonestKeyOfSorted_28.2.2.2.2.1
theorem dX1_commonestKeyOfSorted_37 : decode cX1_commonestKeyOfSorted 37 = .ok (.iconst 1, 1) := bX1_commonestKeyOfSorted_28.2.2.2.2.2.1
theorem dX1_commonestKeyOfSorted_38 : decode cX1_commonestKeyOfSorted 38 = .ok (.isub, 1) := bX1_commonestKeyOfSorted_28.2.2.2.2.2.2.1
theorem dX1_commonestKeyOfSorted_39 : decode cX1_commonestKeyOfSorted 39 = .ok (.iaload, 1) := bX1_commonestKeyOfSorted_28.2.2.2.2.2.2.2.1
theorem dX1_commonestKeyOfSorted_40 : decode cX1_commonestKeyOfSorted 40 = .ok (.if_icmp .ne 9, 3) := bX1_commonestKeyOfSorted_28.2.2.2.2.2.2.2.2.1
theorem dX1_commonestKeyOfSorted_43 : decode cX1_commonestKeyOfSorted 43 = .ok (.iload_n 3, 1) := bX1_commonestKeyOfSorted_28.2.2.2.2.2.2.2.2.2.1
theorem dX1_commonestKeyOfSorted_44 : decode cX1_commonestKeyOfSorted 44 = .ok (.iconst 1, 1) := bX1_commonestKeyOfSorted_28.2.2.2.2.2.2.2.2.2.2.1
theorem dX1_commonestKeyOfSorted_45 : decode cX1_commonestKeyOfSorted 45 = .ok (.iadd, 1) := bX1_commonestKeyOfSorted_28.2.2.2.2.2.2.2.2.2.2.2.1
theorem dX1_commonestKeyOfSorted_46 : decode cX1_commonestKeyOfSorted 46 = .ok (.goto 4, 3) := bX1_commonestKeyOfSorted_28.2.2.2.2.2.2.2.2.2.2.2.2.1
theorem dX1_commonestKeyOfSorted_49 : decode cX1_commonestKeyOfSorted 49 = .ok (.iconst 1, 1) := bX1_commonestKeyOfSorted_28.2.2.2.2.2.2.2.2.2.2.2.2.2.1
theorem dX1_commonestKeyOfSorted_50 : decode cX1_commonestKeyOfSorted 50 = .ok (.istore_n 3, 1) := bX1_commonestKeyOfSorted_28.2.2.2.2.2.2.2.2.2.2.2.2.2.2.1
theorem dX1_commonestKeyOfSorted_51 : decode cX1_commonestKeyOfSorted 51 = .ok (.iload_n 3, 1) := bX1_commonestKeyOfSorted_28.2.2.2.2.2.2.2.2.2.2.2.2.2.2.2
set_option maxRecDepth 100000 in
theorem bX1_commonestKeyOfSorted_52 : (decode cX1_commonestKeyOfSorted 52 = .ok (.iload_n 2, 1)) ∧ (decode cX1_commonestKeyOfSorted 53 = .ok (.if_icmp .le 13, 3)) ∧ (decode cX1_commonestKeyOfSorted 56 = .ok (.iload_n 3, 1)) ∧ (decode cX1_commonestKeyOfSorted 57 = .ok (.istore_n 2, 1)) ∧ (decode cX1_commonestKeyOfSorted 58 = .ok (.aload_n 0, 1)) ∧ (decode cX1_commonestKeyOfSorted 59 = .ok (.getfield 9, 3)) ∧ (decode cX1_commonestKeyOfSorted 62 = .ok (.iload 4, 2)) ∧ (decode cX1_commonestKeyOfSorted 64 = .ok (.iaload, 1)) ∧ (decode cX1_commonestKeyOfSorted 65 = .ok (.istore_n 1, 1)) ∧ (decode cX1_commonestKeyOfSorted 66 = .ok (.iinc 4 1, 3)) ∧ (decode cX1_commonestKeyOfSorted 69 = .ok (.goto (-59), 3)) ∧ (decode cX1_commonestKeyOfSorted 72 = .ok (.iload_n 1, 1)) ∧ (decode cX1_commonestKeyOfSorted 73 = .ok (.ireturn, 1)) := by decide +kernel
theorem dX1_commonestKeyOfSorted_52 : decode cX1_commonestKeyOfSorted 52 = .ok (.iload_n 2, 1) := bX1_commonestKeyOfSorted_52.1
theorem dX1_commonestKeyOfSorted_53 : decode cX1_commonestKeyOfSorted 53 = .ok (.if_icmp .le 13, 3) := bX1_commonestKeyOfSorted_52.2.1
theorem dX1_commonestKeyOfSorted_56 : decode cX1_commonestKeyOfSorted 56 = .ok (.iload_n 3, 1) := bX1_commonestKeyOfSorted_52.2.2.1
theorem dX1_commonestKeyOfSorted_57 : decode cX1_commonestKeyOfSorted 57 = .ok (.istore_n 2, 1) := bX1_commonestKeyOfSorted_52.2.2.2.1
theorem dX1_commonestKeyOfSorted_58 : decode cX1_commonestKeyOfSorted 58 = .ok (.aload_n 0, 1) := bX1_commonestKeyOfSorted_52.2.2.2.2.1
theorem dX1_commonestKeyOfSorted_59 : decode cX1_commonestKeyOfSorted 59 = .ok (.getfield 9, 3) := bX1_commonestKeyOfSorted_52.2.2.2.2.2.1
theorem dX1_commonestKeyOfSorted_62 : decode cX1_commonestKeyOfSorted 62 = .ok (.iload 4, 2) := bX1_commonestKeyOfSorted_52.2.2.2.2.2.2.1
theorem dX1_commonestKeyOfSorted_64 : decode cX1_commonestKeyOfSorted 64 = .ok (.iaload, 1) := bX1_commonestKeyOfSorted_52.2.2.2.2.2.2.2.1
theorem dX1_commonestKeyOfSorted_65 : decode cX1_commonestKeyOfSorted 65 = .ok (.istore_n 1, 1) := bX1_commonestKeyOfSorted_52.2.2.2.2.2.2.2.2.1
theorem dX1_commonestKeyOfSorted_66 : decode cX1_commonestKeyOfSorted 66 = .ok (.iinc 4 1, 3) := bX1_commonestKeyOfSorted_52.2.2.2.2.2.2.2.2.2.1
theorem dX1_commonestKeyOfSorted_69 : decode cX1_commonestKeyOfSorted 69 = .ok (.goto (-59), 3) := bX1_commonestKeyOfSorted_52.2.2.2.2.2.2.2.2.2.2.1
theorem dX1_commonestKeyOfSorted_72 : decode cX1_commonestKeyOfSorted 72 = .ok (.iload_n 1, 1) := bX1_commonestKeyOfSorted_52.2.2.2.2.2.2.2.2.2.2.2.1
theorem dX1_commonestKeyOfSorted_73 : decode cX1_commonestKeyOfSorted 73 = .ok (.ireturn, 1) := bX1_commonestKeyOfSorted_52.2.2.2.2.2.2.2.2.2.2.2.2
set_option maxRecDepth 100000 in
theorem bX2_init_0 : (decode cX2_init 0 = .ok (.aload_n 0, 1)) ∧ (decode cX2_init 1 = .ok (.invokespecial 1, 3)) ∧ (decode cX2_init 4 = .ok (.aload_n 0, 1)) ∧ (decode cX2_init 5 = .ok (.iconst 4, 1)) ∧ (decode cX2_init 6 = .ok (.anewarray 9, 3)) ∧ (decode cX2_init 9 = .ok (.putfield 11, 3)) ∧ (decode cX2_init 12 = .ok (.aload_n 0, 1)) ∧ (decode cX2_init 13 = .ok (.getfield 11, 3)) ∧ (decode cX2_init 16 = .ok (.iconst 0, 1)) ∧ (decode cX2_init 17 = .ok (.new 9, 3)) ∧ (decode cX2_init 20 = .ok (.dup, 1)) ∧ (decode cX2_init 21 = .ok (.sipush 150, 3)) ∧ (decode cX2_init 24 = .ok (.iconst 1, 1)) ∧ (decode cX2_init 25 = .ok (.invokespecial 15, 3)) ∧ (decode cX2_init 28 = .ok (.aastore, 1)) ∧ (decode cX2_init 29 = .ok (.aload_n 0, 1)) := by decide +kernel
theorem dX2_init_0 : decode cX2_init 0 = .ok (.aload_n 0, 1) := bX2_init_0.1
theorem dX2_init_1 : decode cX2_init 1 = .ok (.invokespecial 1, 3) := bX2_init_0.2.1
theorem dX2_init_4 : decode cX2_init 4 = .ok (.aload_n 0, 1) := bX2_init_0.2.2.1
theorem dX2_init_5 : decode cX2_init 5 = .ok (.iconst 4, 1) := bX2_init_0.2.2.2.1
theorem dX2_init_6 : decode cX2_init 6 = .ok (.anewarray 9, 3) := bX2_init_0.2.2.2.2.1
theorem dX2_init_9 : decode cX2_init 9 = .ok (.putfield 11, 3) := bX2_init_0.2.2.2.2.2.1
theorem dX2_init_12 : decode cX2_init 12 = .ok (.aload_n 0, 1) := bX2_init_0.2.2.2.2.2.2.1
theorem dX2_init_13 : decode cX2_init 13 = .ok (.getfield 11, 3) := bX2_init_0.2.2.2.2.2.2.2.1
theorem dX2_init_16 : decode cX2_init 16 = .ok (.iconst 0, 1) := bX2_init_0.2.2.2.2.2.2.2.2.1
theorem dX2_init_17 : decode cX2_init 17 = .ok (.new 9, 3) := bX2_init_0.2.2.2.2.2.2.2.2.2.1
theorem dX2_init_20 : decode cX2_init 20 = .ok (.dup, 1) := bX2_init_0.2.2.2.2.2.2.2.2.2.2.1
theorem dX2_init_21 : decode cX2_init 21 = .ok (.sipush 150, 3) := bX2_init_0.2.2.2.2.2.2.2.2.2.2.2.1
theorem dX2_init_24 : decode cX2_init 24 = .ok (.iconst 1, 1) := bX2_init_0.2.2.2.2.2.2.2.2.2.2.2.2.1
theorem dX2_init_25 : decode cX2_init 25 = .ok (.invokespecial 15, 3) := bX2_init_0.2.2.2.2.2.2.2.2.2.2.2.2.2.1
theorem dX2_init_28 : decode cX2_init 28 = .ok (.aastore, 1) := bX2_init_0.2.2.2.2.2.2.2.2.2.2.2.2.2.2.1
theorem dX2_init_29 : decode cX2_init 29 = .ok (.aload_n 0, 1) := bX2_init_0.2.2.2.2.2.2.2.2.2.2.2.2.2.2.2
set_option maxRecDepth 100000 in
theorem bX2_init_30 : (decode cX2_init 30 = .ok (.getfield 11, 3)) ∧ (decode cX2_init 33 = .ok (.iconst 1, 1)) ∧ (decode cX2_init 34 = .ok (.new 9, 3)) ∧ (decode cX2_init 37 = .ok (.dup, 1)) ∧ (decode cX2_init 38 = .ok (.sipush 150, 3)) ∧ (decode cX2_init 41 = .ok (.iconst 1, 1)) ∧ (decode cX2_init 42 = .ok (.invokespecial 15, 3)) ∧ (decode cX2_init 45 = .ok (.aastore, 1)) ∧ (decode cX2_init 46 = .ok (.aload_n 0, 1)) ∧ (decode cX2_init 47 = .ok (.getfield 11, 3)) ∧ (decode cX2_init 50 = .ok (.iconst 2, 1)) ∧ (decode cX2_init 51 = .ok (.new 9, 3)) ∧ (decode cX2_init 54 = .ok (.dup, 1)) ∧ (decode cX2_init 55 = .ok (.sipush 150, 3)) ∧ (decode cX2_init 58 = .ok (.iconst 0, 1)) ∧ (decode cX2_init 59 = .ok (.invokespecial 15, 3)) := by decide +kernel
theorem dX2_init_30 : decode cX2_init 30 = .ok (.getfield 11, 3) := bX2_init_30.1
theorem dX2_init_33 : decode cX2_init 33 = .ok (.iconst 1, 1) := bX2_init_30.2.1
theorem dX2_init_34 : decode cX2_init 34 = .ok (.new 9, 3) := bX2_init_30.2.2.1
theorem dX2_init_37 : decode cX2_init 37 = .ok (.dup, 1) := bX2_init_30.2.2.2.1
theorem dX2_init_38 : decode cX2_init 38 = .ok (.sipush 150, 3) := bX2_init_30.2.2.2.2.1
theorem dX2_init_41 : decode cX2_init 41 = .ok (.iconst 1, 1) := bX2_init_30.2.2.2.2.2.1
theorem dX2_init_42 : decode cX2_init 42 = .ok (.invokespecial 15, 3) := bX2_init_30.2.2.2.2.2.2.1
theorem dX2_init_45 : decode cX2_init 45 = .ok (.aastore, 1) := bX2_init_30.2.2.2.2.2.2.2.1
theorem dX2_init_46 : decode cX2_init 46 = .ok (.aload_n 0, 1) := bX2_init_30.2.2.2.2.2.2.2.2.1
theorem dX2_init_47 : decode cX2_init 47 = .ok (.getfield 11, 3) := bX2_init_30.2.2.2.2.2.2.2.2.2.1
theorem dX2_init_50 : decode cX2_init 50 = .ok (.iconst 2, 1) := bX2_init_30.2.2.2.2.2.2.2.2.2.2.1
theorem dX2_init_51 : decode cX2_init 51 = .ok (.new 9, 3) := bX2_init_30.2.2.2.2.2.2.2.2.2.2.2.1
theorem dX2_init_54 : decode cX2_init 54 = .ok (.dup, 1) := bX2_init_30.2.2.2.2.2.2.2.2.2.2.2.2.1
theorem dX2_init_55 : decode cX2_init 55 = .ok (.sipush 150, 3) := bX2_init_30.2.2.2.2.2.2.2.2.2.2.2.2.2.1
theorem dX2_init_58 : decode cX2_init 58 = .ok (.iconst 0, 1) := bX2_init_30.2.2.2.2.2.2.2.2.2.2.2.2.2.2.1
theorem dX2_init_59 : decode cX2_init 59 = .ok (.invokespecial 15, 3) := bX2_init_30.2.2.2.2.2.2.2.2.2.2.2.2.2.2.2
set_option maxRecDepth 100000 in
theorem bX2_init_62 : (decode cX2_init 62 = .ok (.aastore, 1)) ∧ (decode cX2_init 63 = .ok (.aload_n 0, 1)) ∧ (decode cX2_init 64 = .ok (.getfield 11, 3)) ∧ (decode cX2_init 67 = .ok (.iconst 3, 1)) ∧ (decode cX2_init 68 = .ok (.new 9, 3)) ∧ (decode cX2_init 71 = .ok (.dup, 1)) ∧ (decode cX2_init 72 = .ok (.sipush 320, 3)) ∧ (decode cX2_init 75 = .ok (.iconst 0, 1)) ∧ (decode cX2_init 76 = .ok (.invokespecial 15, 3)) ∧ (decode cX2_init 79 = .ok (.aastore, 1)) ∧ (decode cX2_init 80 = .ok (.aload_n 0, 1)) ∧ (decode cX2_init 81 = .ok (.new 18, 3)) ∧ (decode cX2_init 84 = .ok (.dup, 1)) ∧ (decode cX2_init 85 = .ok (.sipush 320, 3)) ∧ (decode cX2_init 88 = .ok (.invokespecial 20, 3)) ∧ (decode cX2_init 91 = .ok (.putfield 23, 3)) := by decide +kernel
theorem dX2_init_62 : decode cX2_init 62 = .ok (.aastore, 1) := bX2_init_62.1
theorem dX2_init_63 : decode cX2_init 63 = .ok (.aload_n 0, 1) := bX2_init_62.2.1
theorem dX2_init_64 : decode cX2_init 64 = .ok (.getfield 11, 3) := bX2_init_62.2.2.1
theorem dX2_init_67 : decode cX2_init 67 = .ok (.iconst 3, 1) := bX2_init_62.2.2.2.1
theorem dX2_init_68 : decode cX2_init 68 = .ok (.new 9, 3) := bX2_init_62.2.2.2.2.1
theorem dX2_init_71 : decode cX2_init 71 = .ok (.dup, 1) := bX2_init_62.2.2.2.2.2.1
theorem dX2_init_72 : decode cX2_init 72 = .ok (.sipush 320, 3) := bX2_init_62.2.2.2.2.2.2.1
theorem dX2_init_75 : decode cX2_init 75 = .ok (.iconst 0, 1) := bX2_init_62.2.2.2.2.2.2.2.1
theorem dX2_init_76 : decode cX2_init 76 = .ok (.invokespecial 15, 3) := bX2_init_62.2.2.2.2.2.2.2.2.1
theorem dX2_init_79 : decode cX2_init 79 = .ok (.aastore, 1) := bX2_init_62.2.2.2.2.2.2.2.2.2.1
theorem dX2_init_80 : decode cX2_init 80 = .ok (.aload_n 0, 1) := bX2_init_62.2.2.2.2.2.2.2.2.2.2.1
theorem dX2_init_81 : decode cX2_init 81 = .ok (.new 18, 3) := bX2_init_62.2.2.2.2.2.2.2.2.2.2.2.1
theorem dX2_init_84 : decode cX2_init 84 = .ok (.dup, 1) := bX2_init_62.2.2.2.2.2.2.2.2.2.2.2.2.1
theorem dX2_init_85 : decode cX2_init 85 = .ok (.sipush 320, 3) := bX2_init_62.2.2.2.2.2.2.2.2.2.2.2.2.2.1
theorem dX2_init_88 : decode cX2_init 88 = .ok (.invokespecial 20, 3) := bX2_init_62.2.2.2.2.2.2.2.2.2.2.2.2.2.2.1
theorem dX2_init_91 : decode cX2_init 91 = .ok (.putfield 23, 3) := bX2_init_62.2.2.2.2.2.2.2.2.2.2.2.2.2.2.2
theorem dX2_init_94 : decode cX2_init 94 = .ok (.return_, 1) := by decide +kernel
set_option maxRecDepth 100000 in
theorem bX2_fill_0 : (decode cX2_fill 0 = .ok (.aload_n 0, 1)) ∧ (decode cX2_fill 1 = .ok (.iload_n 1, 1)) ∧ (decode cX2_fill 2 = .ok (.invokevirtual 27, 3)) ∧ (decode cX2_fill 5 = .ok (.astore 6, 2)) ∧ (decode cX2_fill 7 = .ok (.iload_n 2, 1)) ∧ (decode cX2_fill 8 = .ok (.ifCond .lt 16, 3)) ∧ (decode cX2_fill 11 = .ok (.iload_n 2, 1)) ∧ (decode cX2_fill 12 = .ok (.aload 6, 2)) ∧ (decode cX2_fill 14 = .ok (.invokevirtual 31, 3)) ∧ (decode cX2_fill 17 = .ok (.if_icmp .gt 7, 3)) ∧ (decode cX2_fill 20 = .ok (.iconst 1, 1)) ∧ (decode cX2_fill 21 = .ok (.goto 4, 3)) ∧ (decode cX2_fill 24 = .ok (.iconst 0, 1)) ∧ (decode cX2_fill 25 = .ok (.invokestatic 35, 3)) ∧ (decode cX2_fill 28 = .ok (.iload_n 3, 1)) ∧ (decode cX2_fill 29 = .ok (.ifCond .lt 13, 3)) := by decide +kernel
theorem dX2_fill_0 : decode cX2_fill 0 = .ok (.aload_n 0, 1) := bX2_fill_0.1
theorem dX2_fill_1 : decode cX2_fill 1 = .ok (.iload_n 1, 1) := bX2_fill_0.2.1
theorem dX2_fill_2 : decode cX2_fill 2 = .ok (.invokevirtual 27, 3) := bX2_fill_0.2.2.1
theorem dX2_fill_5 : decode cX2_fill 5 = .ok (.astore 6, 2) := bX2_fill_0.2.2.2.1
theorem dX2_fill_7 : decode cX2_fill 7 = .ok (.iload_n 2, 1) := bX2_fill_0.2.2.2.2.1
theorem dX2_fill_8 : decode cX2_fill 8 = .ok (.ifCond .lt 16, 3) := bX2_fill_0.2.2.2.2.2.1
theorem dX2_fill_11 : decode cX2_fill 11 = .ok (.iload_n 2, 1) := bX2_fill_0.2.2.2.2.2.2.1
theorem dX2_fill_12 : decode cX2_fill 12 = .ok (.aload 6, 2) := bX2_fill_0.2.2.2.2.2.2.2.1
theorem dX2_fill_14 : decode cX2_fill 14 = .ok (.invokevirtual 31, 3) := bX2_fill_0.2.2.2.2.2.2.2.2.1
theorem dX2_fill_17 : decode cX2_fill 17 = .ok (.if_icmp .gt 7, 3) := bX2_fill_0.2.2.2.2.2.2.2.2.2.1
theorem dX2_fill_20 : decode cX2_fill 20 = .ok (.iconst 1, 1) := bX2_fill_0.2.2.2.2.2.2.2.2.2.2.1
theorem dX2_fill_21 : decode cX2_fill 21 = .ok (.goto 4, 3) := bX2_fill_0.2.2.2.2.2.2.2.2.2.2.2.1
theorem dX2_fill_24 : decode cX2_fill 24 = .ok (.iconst 0, 1) := bX2_fill_0.2.2.2.2.2.2.2.2.2.2.2.2.1
theorem dX2_fill_25 : decode cX2_fill 25 = .ok (.invokestatic 35, 3) := bX2_fill_0.2.2.2.2.2.2.2.2.2.2.2.2.2.1
theorem dX2_fill_28 : decode cX2_fill 28 = .ok (.iload_n 3, 1) := bX2_fill_0.2.2.2.2.2.2.2.2.2.2.2.2.2.2.1
theorem dX2_fill_29 : decode cX2_fill 29 = .ok (.ifCond .lt 13, 3) := bX2_fill_0.2.2.2.2.2.2.2.2.2.2.2.2.2.2.2
set_option maxRecDepth 100000 in
theorem bX2_fill_32 : (decode cX2_fill 32 = .ok (.iload_n 3, 1)) ∧ (decode cX2_fill 33 = .ok (.bipush 7, 2)) ∧ (decode cX2_fill 35 = .ok (.if_icmp .gt 7, 3)) ∧ (decode cX2_fill 38 = .ok (.iconst 1, 1)) ∧ (decode cX2_fill 39 = .ok (.goto 4, 3)) ∧ (decode cX2_fill 42 = .ok (.iconst 0, 1)) ∧ (decode cX2_fill 43 = .ok (.invokestatic 35, 3)) ∧ (decode cX2_fill 46 = .ok (.iload 4, 2)) ∧ (decode cX2_fill 48 = .ok (.sipush (-999), 3)) ∧ (decode cX2_fill 51 = .ok (.if_icmp .lt 15, 3)) ∧ (decode cX2_fill 54 = .ok (.iload 4, 2)) ∧ (decode cX2_fill 56 = .ok (.sipush 999, 3)) ∧ (decode cX2_fill 59 = .ok (.if_icmp .gt 7, 3)) ∧ (decode cX2_fill 62 = .ok (.iconst 1, 1)) ∧ (decode cX2_fill 63 = .ok (.goto 4, 3)) ∧ (decode cX2_fill 66 = .ok (.iconst 0, 1)) := by decide +kernel
theorem dX2_fill_32 : decode cX2_fill 32 = .ok (.iload_n 3, 1) := bX2_fill_32.1
theorem dX2_fill_33 : decode cX2_fill 33 = .ok (.bipush 7, 2) := bX2_fill_32.2.1
theorem dX2_fill_35 : decode cX2_fill 35 = .ok (.if_icmp .gt 7, 3) := bX2_fill_32.2.2.1
theorem dX2_fill_38 : decode cX2_fill 38 = .ok (.iconst 1, 1) := bX2_fill_32.2.2.2.1
theorem dX2_fill_39 : decode cX2_fill 39 = .ok (.goto 4, 3) := bX2_fill_32.2.2.2.2.1
theorem dX2_fill_42 : decode cX2_fill 42 = .ok (.iconst 0, 1) := bX2_fill_32.2.2.2.2.2.1
theorem dX2_fill_43 : decode cX2_fill 43 = .ok (.invokestatic 35, 3) := bX2_fill_32.2.2.2.2.2.2.1
theorem dX2_fill_46 : decode cX2_fill 46 = .ok (.iload 4, 2) := bX2_fill_32.2.2.2.2.2.2.2.1
theorem dX2_fill_48 : decode cX2_fill 48 = .ok (.sipush (-999), 3) := bX2_fill_32.2.2.2.2.2.2.2.2.1
theorem dX2_fill_51 : decode cX2_fill 51 = .ok (.if_icmp .lt 15, 3) := bX2_fill_32.2.2.2.2.2.2.2.2.2.1
theorem dX2_fill_54 : decode cX2_fill 54 = .ok (.iload 4, 2) := bX2_fill_32.2.2.2.2.2.2.2.2.2.2.1
theorem dX2_fill_56 : decode cX2_fill 56 = .ok (.sipush 999, 3) := bX2_fill_32.2.2.2.2.2.2.2.2.2.2.2.1
theorem dX2_fill_59 : decode cX2_fill 59 = .ok (.if_icmp .gt 7, 3) := bX2_fill_32.2.2.2.2.2.2.2.2.2.2.2.2.1
theorem dX2_fill_62 : decode cX2_fill 62 = .ok (.iconst 1, 1) := bX2_fill_32.2.2.2.2.2.2.2.2.2.2.2.2.2.1
theorem dX2_fill_63 : decode cX2_fill 63 = .ok (.goto 4, 3) := bX2_fill_32.2.2.2.2.2.2.2.2.2.2.2.2.2.2.1
theorem dX2_fill_66 : decode cX2_fill 66 = .ok (.iconst 0, 1) := bX2_fill_32.2.2.2.2.2.2.2.2.2.2.2.2.2.2.2
set_option maxRecDepth 100000 in
theorem bX2_fill_67 : (decode cX2_fill 67 = .ok (.invokestatic 35, 3)) ∧ (decode cX2_fill 70 = .ok (.iload 5, 2)) ∧ (decode cX2_fill 72 = .ok (.iconst 1, 1)) ∧ (decode cX2_fill 73 = .ok (.if_icmp .lt 14, 3)) ∧ (decode cX2_fill 76 = .ok (.iload 5, 2)) ∧ (decode cX2_fill 78 = .ok (.bipush 99, 2)) ∧ (decode cX2_fill 80 = .ok (.if_icmp .gt 7, 3)) ∧ (decode cX2_fill 83 = .ok (.iconst 1, 1)) ∧ (decode cX2_fill 84 = .ok (.goto 4, 3)) ∧ (decode cX2_fill 87 = .ok (.iconst 0, 1)) ∧ (decode cX2_fill 88 = .ok (.invokestatic 35, 3)) ∧ (decode cX2_fill 91 = .ok (.aload 6, 2)) ∧ (decode cX2_fill 93 = .ok (.getfield 39, 3)) ∧ (decode cX2_fill 96 = .ok (.istore 7, 2)) ∧ (decode cX2_fill 98 = .ok (.aload 6, 2)) ∧ (decode cX2_fill 100 = .ok (.invokevirtual 43, 3)) := by decide +kernel
theorem dX2_fill_67 : decode cX2_fill 67 = .ok (.invokestatic 35, 3) := bX2_fill_67.1
theorem dX2_fill_70 : decode cX2_fill 70 = .ok (.iload 5, 2) := bX2_fill_67.2.1
theorem dX2_fill_72 : decode cX2_fill 72 = .ok (.iconst 1, 1) := bX2_fill_67.2.2.1
theorem dX2_fill_73 : decode cX2_fill 73 = .ok (.if_icmp .lt 14, 3) := bX2_fill_67.2.2.2.1
theorem dX2_fill_76 : decode cX2_fill 76 = .ok (.iload 5, 2) := bX2_fill_67.2.2.2.2.1
theorem dX2_fill_78 : decode cX2_fill 78 = .ok (.bipush 99, 2) := bX2_fill_67.2.2.2.2.2.1
theorem dX2_fill_80 : decode cX2_fill 80 = .ok (.if_icmp .gt 7, 3) := bX2_fill_67.2.2.2.2.2.2.1
theorem dX2_fill_83 : decode cX2_fill 83 = .ok (.iconst 1, 1) := bX2_fill_67.2.2.2.2.2.2.2.1
theorem dX2_fill_84 : decode cX2_fill 84 = .ok (.goto 4, 3) := bX2_fill_67.2.2.2.2.2.2.2.2.1
theorem dX2_fill_87 : decode cX2_fill 87 = .ok (.iconst 0, 1) := bX2_fill_67.2.2.2.2.2.2.2.2.2.1
theorem dX2_fill_88 : decode cX2_fill 88 = .ok (.invokestatic 35, 3) := bX2_fill_67.2.2.2.2.2.2.2.2.2.2.1
theorem dX2_fill_91 : decode cX2_fill 91 = .ok (.aload 6, 2) := bX2_fill_67.2.2.2.2.2.2.2.2.2.2.2.1
theorem dX2_fill_93 : decode cX2_fill 93 = .ok (.getfield 39, 3) := bX2_fill_67.2.2.2.2.2.2.2.2.2.2.2.2.1
theorem dX2_fill_96 : decode cX2_fill 96 = .ok (.istore 7, 2) := bX2_fill_67.2.2.2.2.2.2.2.2.2.2.2.2.2.1
theorem dX2_fill_98 : decode cX2_fill 98 = .ok (.aload 6, 2) := bX2_fill_67.2.2.2.2.2.2.2.2.2.2.2.2.2.2.1
theorem dX2_fill_100 : decode cX2_fill 100 = .ok (.invokevirtual 43, 3) := bX2_fill_67.2.2.2.2.2.2.2.2.2.2.2.2.2.2.2
set_option maxRecDepth 100000 in
theorem bX2_fill_103 : (decode cX2_fill 103 = .ok (.iload_n 3, 1)) ∧ (decode cX2_fill 104 = .ok (.bipush 7, 2)) ∧ (decode cX2_fill 106 = .ok (.if_icmp .ne 17, 3)) ∧ (decode cX2_fill 109 = .ok (.aload_n 0, 1)) ∧ (decode cX2_fill 110 = .ok (.aload 6, 2)) ∧ (decode cX2_fill 112 = .ok (.iload_n 2, 1)) ∧ (decode cX2_fill 113 = .ok (.iload 4, 2)) ∧ (decode cX2_fill 115 = .ok (.iload 5, 2)) ∧ (decode cX2_fill 117 = .ok (.invokevirtual 46, 3)) ∧ (decode cX2_fill 120 = .ok (.goto 15, 3)) ∧ (decode cX2_fill 123 = .ok (.aload_n 0, 1)) ∧ (decode cX2_fill 124 = .ok (.aload 6, 2)) ∧ (decode cX2_fill 126 = .ok (.iload_n 2, 1)) ∧ (decode cX2_fill 127 = .ok (.iload_n 3, 1)) ∧ (decode cX2_fill 128 = .ok (.iload 4, 2)) ∧ (decode cX2_fill 130 = .ok (.iload 5, 2)) := by decide +kernel
theorem dX2_fill_103 : decode cX2_fill 103 = .ok (.iload_n 3, 1) := bX2_fill_103.1
theorem dX2_fill_104 : decode cX2_fill 104 = .ok (.bipush 7, 2) := bX2_fill_103.2.1
theorem dX2_fill_106 : decode cX2_fill 106 = .ok (.if_icmp .ne 17, 3) := bX2_fill_103.2.2.1
theorem dX2_fill_109 : decode cX2_fill 109 = .ok (.aload_n 0, 1) := bX2_fill_103.2.2.2.1
theorem dX2_fill_110 : decode cX2_fill 110 = .ok (.aload 6, 2) := bX2_fill_103.2.2.2.2.1
theorem dX2_fill_112 : decode cX2_fill 112 = .ok (.iload_n 2, 1) := bX2_fill_103.2.2.2.2.2.1
theorem dX2_fill_113 : decode cX2_fill 113 = .ok (.iload 4, 2) := bX2_fill_103.2.2.2.2.2.2.1
theorem dX2_fill_115 : decode cX2_fill 115 = .ok (.iload 5, 2) := bX2_fill_103.2.2.2.2.2.2.2.1
theorem dX2_fill_117 : decode cX2_fill 117 = .ok (.invokevirtual 46, 3) := bX2_fill_103.2.2.2.2.2.2.2.2.1
theorem dX2_fill_120 : decode cX2_fill 120 = .ok (.goto 15, 3) := bX2_fill_103.2.2.2.2.2.2.2.2.2.1
theorem dX2_fill_123 : decode cX2_fill 123 = .ok (.aload_n 0, 1) := bX2_fill_103.2.2.2.2.2.2.2.2.2.2.1
theorem dX2_fill_124 : decode cX2_fill 124 = .ok (.aload 6, 2) := bX2_fill_103.2.2.2.2.2.2.2.2.2.2.2.1
theorem dX2_fill_126 : decode cX2_fill 126 = .ok (.iload_n 2, 1) := bX2_fill_103.2.2.2.2.2.2.2.2.2.2.2.2.1
theorem dX2_fill_127 : decode cX2_fill 127 = .ok (.iload_n 3, 1) := bX2_fill_103.2.2.2.2.2.2.2.2.2.2.2.2.2.1
theorem dX2_fill_128 : decode cX2_fill 128 = .ok (.iload 4, 2) := bX2_fill_103.2.2.2.2.2.2.2.2.2.2.2.2.2.2.1
theorem dX2_fill_130 : decode cX2_fill 130 = .ok (.iload 5, 2) := bX2_fill_103.2.2.2.2.2.2.2.2.2.2.2.2.2.2.2
set_option maxRecDepth 100000 in
theorem bX2_fill_132 : (decode cX2_fill 132 = .ok (.invokevirtual 50, 3)) ∧ (decode cX2_fill 135 = .ok (.aload_n 0, 1)) ∧ (decode cX2_fill 136 = .ok (.iload 7, 2)) ∧ (decode cX2_fill 138 = .ok (.invokevirtual 54, 3)) ∧ (decode cX2_fill 141 = .ok (.ireturn, 1)) := by decide +kernel
theorem dX2_fill_132 : decode cX2_fill 132 = .ok (.invokevirtual 50, 3) := bX2_fill_132.1
theorem dX2_fill_135 : decode cX2_fill 135 = .ok (.aload_n 0, 1) := bX2_fill_132.2.1
theorem dX2_fill_136 : decode cX2_fill 136 = .ok (.iload 7, 2) := bX2_fill_132.2.2.1
theorem dX2_fill_138 : decode cX2_fill 138 = .ok (.invokevirtual 54, 3) := bX2_fill_132.2.2.2.1
theorem dX2_fill_141 : decode cX2_fill 141 = .ok (.ireturn, 1) := bX2_fill_132.2.2.2.2
set_option maxRecDepth 100000 in
theorem bX2_add_0 : (decode cX2_add 0 = .ok (.aload_n 0, 1)) ∧ (decode cX2_add 1 = .ok (.iload_n 1, 1)) ∧ (decode cX2_add 2 = .ok (.invokevirtual 27, 3)) ∧ (decode cX2_add 5 = .ok (.astore_n 3, 1)) ∧ (decode cX2_add 6 = .ok (.iload_n 2, 1)) ∧ (decode cX2_add 7 = .ok (.invokestatic 58, 3)) ∧ (decode cX2_add 10 = .ok (.aload_n 3, 1)) ∧ (decode cX2_add 11 = .ok (.invokevirtual 61, 3)) ∧ (decode cX2_add 14 = .ok (.iconst 1, 1)) ∧ (decode cX2_add 15 = .ok (.if_icmp .ge 8, 3)) ∧ (decode cX2_add 18 = .ok (.aload_n 0, 1)) ∧ (decode cX2_add 19 = .ok (.invokevirtual 64, 3)) ∧ (decode cX2_add 22 = .ok (.ireturn, 1)) ∧ (decode cX2_add 23 = .ok (.aload_n 3, 1)) ∧ (decode cX2_add 24 = .ok (.iload_n 2, 1)) ∧ (decode cX2_add 25 = .ok (.aload_n 0, 1)) := by decide +kernel
theorem dX2_add_0 : decode cX2_add 0 = .ok (.aload_n 0, 1) := bX2_add_0.1
theorem dX2_add_1 : decode cX2_add 1 = .ok (.iload_n 1, 1) := bX2_add_0.2.1
theorem dX2_add_2 : decode cX2_add 2 = .ok (.invokevirtual 27, 3) := bX2_add_0.2.2.1
theorem dX2_add_5 : decode cX2_add 5 = .ok (.astore_n 3, 1) := bX2_add_0.2.2.2.1
theorem dX2_add_6 : decode cX2_add 6 = .ok (.iload_n 2, 1) := bX2_add_0.2.2.2.2.1
theorem dX2_add_7 : decode cX2_add 7 = .ok (.invokestatic 58, 3) := bX2_add_0.2.2.2.2.2.1
theorem dX2_add_10 : decode cX2_add 10 = .ok (.aload_n 3, 1) := bX2_add_0.2.2.2.2.2.2.1
theorem dX2_add_11 : decode cX2_add 11 = .ok (.invokevirtual 61, 3) := bX2_add_0.2.2.2.2.2.2.2.1
theorem dX2_add_14 : decode cX2_add 14 = .ok (.iconst 1, 1) := bX2_add_0.2.2.2.2.2.2.2.2.1
theorem dX2_add_15 : decode cX2_add 15 = .ok (.if_icmp .ge 8, 3) := bX2_add_0.2.2.2.2.2.2.2.2.2.1
theorem dX2_add_18 : decode cX2_add 18 = .ok (.aload_n 0, 1) := bX2_add_0.2.2.2.2.2.2.2.2.2.2.1
theorem dX2_add_19 : decode cX2_add 19 = .ok (.invokevirtual 64, 3) := bX2_add_0.2.2.2.2.2.2.2.2.2.2.2.1
theorem dX2_add_22 : decode cX2_add 22 = .ok (.ireturn, 1) := bX2_add_0.2.2.2.2.2.2.2.2.2.2.2.2.1
theorem dX2_add_23 : decode cX2_add 23 = .ok (.aload_n 3, 1) := bX2_add_0.2.2.2.2.2.2.2.2.2.2.2.2.2.1
theorem dX2_add_24 : decode cX2_add 24 = .ok (.iload_n 2, 1) := bX2_add_0.2.2.2.2.2.2.2.2.2.2.2.2.2.2.1
theorem dX2_add_25 : decode cX2_add 25 = .ok (.aload_n 0, 1) := bX2_add_0.2.2.2.2.2.2.2.2.2.2.2.2.2.2.2
set_option maxRecDepth 100000 in
theorem bX2_add_26 : (decode cX2_add 26 = .ok (.aload_n 3, 1)) ∧ (decode cX2_add 27 = .ok (.invokevirtual 67, 3)) ∧ (decode cX2_add 30 = .ok (.invokevirtual 71, 3)) ∧ (decode cX2_add 33 = .ok (.aload_n 0, 1)) ∧ (decode cX2_add 34 = .ok (.aload_n 3, 1)) ∧ (decode cX2_add 35 = .ok (.getfield 39, 3)) ∧ (decode cX2_add 38 = .ok (.invokevirtual 54, 3)) ∧ (decode cX2_add 41 = .ok (.ireturn, 1)) := by decide +kernel
theorem dX2_add_26 : decode cX2_add 26 = .ok (.aload_n 3, 1) := bX2_add_26.1
theorem dX2_add_27 : decode cX2_add 27 = .ok (.invokevirtual 67, 3) := bX2_add_26.2.1
theorem dX2_add_30 : decode cX2_add 30 = .ok (.invokevirtual 71, 3) := bX2_add_26.2.2.1
theorem dX2_add_33 : decode cX2_add 33 = .ok (.aload_n 0, 1) := bX2_add_26.2.2.2.1
theorem dX2_add_34 : decode cX2_add 34 = .ok (.aload_n 3, 1) := bX2_add_26.2.2.2.2.1
theorem dX2_add_35 : decode cX2_add 35 = .ok (.getfield 39, 3) := bX2_add_26.2.2.2.2.2.1
theorem dX2_add_38 : decode cX2_add 38 = .ok (.invokevirtual 54, 3) := bX2_add_26.2.2.2.2.2.2.1
theorem dX2_add_41 : decode cX2_add 41 = .ok (.ireturn, 1) := bX2_add_26.2.2.2.2.2.2.2
set_option maxRecDepth 100000 in
theorem bX2_put_0 : (decode cX2_put 0 = .ok (.aload_n 0, 1)) ∧ (decode cX2_put 1 = .ok (.iload_n 1, 1)) ∧ (decode cX2_put 2 = .ok (.invokevirtual 27, 3)) ∧ (decode cX2_put 5 = .ok (.astore 4, 2)) ∧ (decode cX2_put 7 = .ok (.aload 4, 2)) ∧ (decode cX2_put 9 = .ok (.iload_n 2, 1)) ∧ (decode cX2_put 10 = .ok (.invokestatic 75, 3)) ∧ (decode cX2_put 13 = .ok (.iload_n 3, 1)) ∧ (decode cX2_put 14 = .ok (.invokestatic 58, 3)) ∧ (decode cX2_put 17 = .ok (.aload 4, 2)) ∧ (decode cX2_put 19 = .ok (.getfield 79, 3)) ∧ (decode cX2_put 22 = .ok (.iload_n 2, 1)) ∧ (decode cX2_put 23 = .ok (.iaload, 1)) ∧ (decode cX2_put 24 = .ok (.istore 5, 2)) ∧ (decode cX2_put 26 = .ok (.aload 4, 2)) ∧ (decode cX2_put 28 = .ok (.getfield 79, 3)) := by decide +kernel
theorem dX2_put_0 : decode cX2_put 0 = .ok (.aload_n 0, 1) := bX2_put_0.1
theorem dX2_put_1 : decode cX2_put 1 = .ok (.iload_n 1, 1) := bX2_put_0.2.1
theorem dX2_put_2 : decode cX2_put 2 = .ok (.invokevirtual 27, 3) := bX2_put_0.2.2.1
theorem dX2_put_5 : decode cX2_put 5 = .ok (.astore 4, 2) := bX2_put_0.2.2.2.1
theorem dX2_put_7 : decode cX2_put 7 = .ok (.aload 4, 2) := bX2_put_0.2.2.2.2.1
theorem dX2_put_9 : decode cX2_put 9 = .ok (.iload_n 2, 1) := bX2_put_0.2.2.2.2.2.1
theorem dX2_put_10 : decode cX2_put 10 = .ok (.invokestatic 75, 3) := bX2_put_0.2.2.2.2.2.2.1
theorem dX2_put_13 : decode cX2_put 13 = .ok (.iload_n 3, 1) := bX2_put_0.2.2.2.2.2.2.2.1
theorem dX2_put_14 : decode cX2_put 14 = .ok (.invokestatic 58, 3) := bX2_put_0.2.2.2.2.2.2.2.2.1
theorem dX2_put_17 : decode cX2_put 17 = .ok (.aload 4, 2) := bX2_put_0.2.2.2.2.2.2.2.2.2.1
theorem dX2_put_19 : decode cX2_put 19 = .ok (.getfield 79, 3) := bX2_put_0.2.2.2.2.2.2.2.2.2.2.1
theorem dX2_put_22 : decode cX2_put 22 = .ok (.iload_n 2, 1) := bX2_put_0.2.2.2.2.2.2.2.2.2.2.2.1
theorem dX2_put_23 : decode cX2_put 23 = .ok (.iaload, 1) := bX2_put_0.2.2.2.2.2.2.2.2.2.2.2.2.1
theorem dX2_put_24 : decode cX2_put 24 = .ok (.istore 5, 2) := bX2_put_0.2.2.2.2.2.2.2.2.2.2.2.2.2.1
theorem dX2_put_26 : decode cX2_put 26 = .ok (.aload 4, 2) := bX2_put_0.2.2.2.2.2.2.2.2.2.2.2.2.2.2.1
theorem dX2_put_28 : decode cX2_put 28 = .ok (.getfield 79, 3) := bX2_put_0.2.2.2.2.2.2.2.2.2.2.2.2.2.2.2
set_option maxRecDepth 100000 in
theorem bX2_put_31 : (decode cX2_put 31 = .ok (.iload_n 2, 1)) ∧ (decode cX2_put 32 = .ok (.iload_n 3, 1)) ∧ (decode cX2_put 33 = .ok (.iastore, 1)) ∧ (decode cX2_put 34 = .ok (.aload 4, 2)) ∧ (decode cX2_put 36 = .ok (.getfield 83, 3)) ∧ (decode cX2_put 39 = .ok (.iload_n 2, 1)) ∧ (decode cX2_put 40 = .ok (.aload_n 0, 1)) ∧ (decode cX2_put 41 = .ok (.aload 4, 2)) ∧ (decode cX2_put 43 = .ok (.invokevirtual 67, 3)) ∧ (decode cX2_put 46 = .ok (.iastore, 1)) ∧ (decode cX2_put 47 = .ok (.aload_n 0, 1)) ∧ (decode cX2_put 48 = .ok (.iload 5, 2)) ∧ (decode cX2_put 50 = .ok (.invokevirtual 54, 3)) ∧ (decode cX2_put 53 = .ok (.ireturn, 1)) := by decide +kernel
theorem dX2_put_31 : decode cX2_put 31 = .ok (.iload_n 2, 1) := bX2_put_31.1
theorem dX2_put_32 : decode cX2_put 32 = .ok (.iload_n 3, 1) := bX2_put_31.2.1
theorem dX2_put_33 : decode cX2_put 33 = .ok (.iastore, 1) := bX2_put_31.2.2.1
theorem dX2_put_34 : decode cX2_put 34 = .ok (.aload 4, 2) := bX2_put_31.2.2.2.1
theorem dX2_put_36 : decode cX2_put 36 = .ok (.getfield 83, 3) := bX2_put_31.2.2.2.2.1
theorem dX2_put_39 : decode cX2_put 39 = .ok (.iload_n 2, 1) := bX2_put_31.2.2.2.2.2.1
theorem dX2_put_40 : decode cX2_put 40 = .ok (.aload_n 0, 1) := bX2_put_31.2.2.2.2.2.2.1
theorem dX2_put_41 : decode cX2_put 41 = .ok (.aload 4, 2) := bX2_put_31.2.2.2.2.2.2.2.1
theorem dX2_put_43 : decode cX2_put 43 = .ok (.invokevirtual 67, 3) := bX2_put_31.2.2.2.2.2.2.2.2.1
theorem dX2_put_46 : decode cX2_put 46 = .ok (.iastore, 1) := bX2_put_31.2.2.2.2.2.2.2.2.2.1
theorem dX2_put_47 : decode cX2_put 47 = .ok (.aload_n 0, 1) := bX2_put_31.2.2.2.2.2.2.2.2.2.2.1
theorem dX2_put_48 : decode cX2_put 48 = .ok (.iload 5, 2) := bX2_put_31.2.2.2.2.2.2.2.2.2.2.2.1
theorem dX2_put_50 : decode cX2_put 50 = .ok (.invokevirtual 54, 3) := bX2_put_31.2.2.2.2.2.2.2.2.2.2.2.2.1
theorem dX2_put_53 : decode cX2_put 53 = .ok (.ireturn, 1) := bX2_put_31.2.2.2.2.2.2.2.2.2.2.2.2.2
set_option maxRecDepth 100000 in
theorem bX2_drop_0 : (decode cX2_drop 0 = .ok (.aload_n 0, 1)) ∧ (decode cX2_drop 1 = .ok (.iload_n 1, 1)) ∧ (decode cX2_drop 2 = .ok (.invokevirtual 27, 3)) ∧ (decode cX2_drop 5 = .ok (.astore_n 3, 1)) ∧ (decode cX2_drop 6 = .ok (.aload_n 3, 1)) ∧ (decode cX2_drop 7 = .ok (.iload_n 2, 1)) ∧ (decode cX2_drop 8 = .ok (.invokestatic 75, 3)) ∧ (decode cX2_drop 11 = .ok (.aload_n 3, 1)) ∧ (decode cX2_drop 12 = .ok (.getfield 79, 3)) ∧ (decode cX2_drop 15 = .ok (.iload_n 2, 1)) ∧ (decode cX2_drop 16 = .ok (.iaload, 1)) ∧ (decode cX2_drop 17 = .ok (.istore 4, 2)) ∧ (decode cX2_drop 19 = .ok (.aload_n 0, 1)) ∧ (decode cX2_drop 20 = .ok (.getfield 23, 3)) ∧ (decode cX2_drop 23 = .ok (.getfield 86, 3)) ∧ (decode cX2_drop 26 = .ok (.astore 5, 2)) := by decide +kernel
theorem dX2_drop_0 : decode cX2_drop 0 = .ok (.aload_n 0, 1) := bX2_drop_0.1
theorem dX2_drop_1 : decode cX2_drop 1 = .ok (.iload_n 1, 1) := bX2_drop_0.2.1
theorem dX2_drop_2 : decode cX2_drop 2 = .ok (.invokevirtual 27, 3) := bX2_drop_0.2.2.1
theorem dX2_drop_5 : decode cX2_drop 5 = .ok (.astore_n 3, 1) := bX2_drop_0.2.2.2.1
theorem dX2_drop_6 : decode cX2_drop 6 = .ok (.aload_n 3, 1) := bX2_drop_0.2.2.2.2.1
theorem dX2_drop_7 : decode cX2_drop 7 = .ok (.iload_n 2, 1) := bX2_drop_0.2.2.2.2.2.1
theorem dX2_drop_8 : decode cX2_drop 8 = .ok (.invokestatic 75, 3) := bX2_drop_0.2.2.2.2.2.2.1
theorem dX2_drop_11 : decode cX2_drop 11 = .ok (.aload_n 3, 1) := bX2_drop_0.2.2.2.2.2.2.2.1
theorem dX2_drop_12 : decode cX2_drop 12 = .ok (.getfield 79, 3) := bX2_drop_0.2.2.2.2.2.2.2.2.1
theorem dX2_drop_15 : decode cX2_drop 15 = .ok (.iload_n 2, 1) := bX2_drop_0.2.2.2.2.2.2.2.2.2.1
theorem dX2_drop_16 : decode cX2_drop 16 = .ok (.iaload, 1) := bX2_drop_0.2.2.2.2.2.2.2.2.2.2.1
theorem dX2_drop_17 : decode cX2_drop 17 = .ok (.istore 4, 2) := bX2_drop_0.2.2.2.2.2.2.2.2.2.2.2.1
theorem dX2_drop_19 : decode cX2_drop 19 = .ok (.aload_n 0, 1) := bX2_drop_0.2.2.2.2.2.2.2.2.2.2.2.2.1
theorem dX2_drop_20 : decode cX2_drop 20 = .ok (.getfield 23, 3) := bX2_drop_0.2.2.2.2.2.2.2.2.2.2.2.2.2.1
theorem dX2_drop_23 : decode cX2_drop 23 = .ok (.getfield 86, 3) := bX2_drop_0.2.2.2.2.2.2.2.2.2.2.2.2.2.2.1
theorem dX2_drop_26 : decode cX2_drop 26 = .ok (.astore 5, 2) := bX2_drop_0.2.2.2.2.2.2.2.2.2.2.2.2.2.2.2
set_option maxRecDepth 100000 in
theorem bX2_drop_28 : (decode cX2_drop 28 = .ok (.aload 5, 2)) ∧ (decode cX2_drop 30 = .ok (.invokevirtual 43, 3)) ∧ (decode cX2_drop 33 = .ok (.aload 5, 2)) ∧ (decode cX2_drop 35 = .ok (.aload_n 3, 1)) ∧ (decode cX2_drop 36 = .ok (.iconst 0, 1)) ∧ (decode cX2_drop 37 = .ok (.iload_n 2, 1)) ∧ (decode cX2_drop 38 = .ok (.invokevirtual 90, 3)) ∧ (decode cX2_drop 41 = .ok (.aload 5, 2)) ∧ (decode cX2_drop 43 = .ok (.aload_n 3, 1)) ∧ (decode cX2_drop 44 = .ok (.iload_n 2, 1)) ∧ (decode cX2_drop 45 = .ok (.iconst 1, 1)) ∧ (decode cX2_drop 46 = .ok (.iadd, 1)) ∧ (decode cX2_drop 47 = .ok (.aload_n 3, 1)) ∧ (decode cX2_drop 48 = .ok (.getfield 39, 3)) ∧ (decode cX2_drop 51 = .ok (.invokevirtual 90, 3)) ∧ (decode cX2_drop 54 = .ok (.aload_n 3, 1)) := by decide +kernel
theorem dX2_drop_28 : decode cX2_drop 28 = .ok (.aload 5, 2) := bX2_drop_28.1
theorem dX2_drop_30 : decode cX2_drop 30 = .ok (.invokevirtual 43, 3) := bX2_drop_28.2.1
theorem dX2_drop_33 : decode cX2_drop 33 = .ok (.aload 5, 2) := bX2_drop_28.2.2.1
theorem dX2_drop_35 : decode cX2_drop 35 = .ok (.aload_n 3, 1) := bX2_drop_28.2.2.2.1
theorem dX2_drop_36 : decode cX2_drop 36 = .ok (.iconst 0, 1) := bX2_drop_28.2.2.2.2.1
theorem dX2_drop_37 : decode cX2_drop 37 = .ok (.iload_n 2, 1) := bX2_drop_28.2.2.2.2.2.1
theorem dX2_drop_38 : decode cX2_drop 38 = .ok (.invokevirtual 90, 3) := bX2_drop_28.2.2.2.2.2.2.1
theorem dX2_drop_41 : decode cX2_drop 41 = .ok (.aload 5, 2) := bX2_drop_28.2.2.2.2.2.2.2.1
theorem dX2_drop_43 : decode cX2_drop 43 = .ok (.aload_n 3, 1) := bX2_drop_28.2.2.2.2.2.2.2.2.1
theorem dX2_drop_44 : decode cX2_drop 44 = .ok (.iload_n 2, 1) := bX2_drop_28.2.2.2.2.2.2.2.2.2.1
theorem dX2_drop_45 : decode cX2_drop 45 = .ok (.iconst 1, 1) := bX2_drop_28.2.2.2.2.2.2.2.2.2.2.1
theorem dX2_drop_46 : decode cX2_drop 46 = .ok (.iadd, 1) := bX2_drop_28.2.2.2.2.2.2.2.2.2.2.2.1
theorem dX2_drop_47 : decode cX2_drop 47 = .ok (.aload_n 3, 1) := bX2_drop_28.2.2.2.2.2.2.2.2.2.2.2.2.1
theorem dX2_drop_48 : decode cX2_drop 48 = .ok (.getfield 39, 3) := bX2_drop_28.2.2.2.2.2.2.2.2.2.2.2.2.2.1
theorem dX2_drop_51 : decode cX2_drop 51 = .ok (.invokevirtual 90, 3) := bX2_drop_28.2.2.2.2.2.2.2.2.2.2.2.2.2.2.1
theorem dX2_drop_54 : decode cX2_drop 54 = .ok (.aload_n 3, 1) := bX2_drop_28.2.2.2.2.2.2.2.2.2.2.2.2.2.2.2
set_option maxRecDepth 100000 in
theorem bX2_drop_55 : (decode cX2_drop 55 = .ok (.aload 5, 2)) ∧ (decode cX2_drop 57 = .ok (.invokevirtual 94, 3)) ∧ (decode cX2_drop 60 = .ok (.aload_n 0, 1)) ∧ (decode cX2_drop 61 = .ok (.iload 4, 2)) ∧ (decode cX2_drop 63 = .ok (.invokevirtual 54, 3)) ∧ (decode cX2_drop 66 = .ok (.ireturn, 1)) := by decide +kernel
theorem dX2_drop_55 : decode cX2_drop 55 = .ok (.aload 5, 2) := bX2_drop_55.1
theorem dX2_drop_57 : decode cX2_drop 57 = .ok (.invokevirtual 94, 3) := bX2_drop_55.2.1
theorem dX2_drop_60 : decode cX2_drop 60 = .ok (.aload_n 0, 1) := bX2_drop_55.2.2.1
theorem dX2_drop_61 : decode cX2_drop 61 = .ok (.iload 4, 2) := bX2_drop_55.2.2.2.1
theorem dX2_drop_63 : decode cX2_drop 63 = .ok (.invokevirtual 54, 3) := bX2_drop_55.2.2.2.2.1
theorem dX2_drop_66 : decode cX2_drop 66 = .ok (.ireturn, 1) := bX2_drop_55.2.2.2.2.2
set_option maxRecDepth 100000 in
theorem bX2_clear_0 : (decode cX2_clear 0 = .ok (.aload_n 0, 1)) ∧ (decode cX2_clear 1 = .ok (.iload_n 1, 1)) ∧ (decode cX2_clear 2 = .ok (.invokevirtual 27, 3)) ∧ (decode cX2_clear 5 = .ok (.astore_n 2, 1)) ∧ (decode cX2_clear 6 = .ok (.aload_n 2, 1)) ∧ (decode cX2_clear 7 = .ok (.getfield 39, 3)) ∧ (decode cX2_clear 10 = .ok (.istore_n 3, 1)) ∧ (decode cX2_clear 11 = .ok (.aload_n 2, 1)) ∧ (decode cX2_clear 12 = .ok (.invokevirtual 43, 3)) ∧ (decode cX2_clear 15 = .ok (.aload_n 0, 1)) ∧ (decode cX2_clear 16 = .ok (.iload_n 3, 1)) ∧ (decode cX2_clear 17 = .ok (.invokevirtual 54, 3)) ∧ (decode cX2_clear 20 = .ok (.ireturn, 1)) := by decide +kernel
theorem dX2_clear_0 : decode cX2_clear 0 = .ok (.aload_n 0, 1) := bX2_clear_0.1
theorem dX2_clear_1 : decode cX2_clear 1 = .ok (.iload_n 1, 1) := bX2_clear_0.2.1
theorem dX2_clear_2 : decode cX2_clear 2 = .ok (.invokevirtual 27, 3) := bX2_clear_0.2.2.1
theorem dX2_clear_5 : decode cX2_clear 5 = .ok (.astore_n 2, 1) := bX2_clear_0.2.2.2.1
theorem dX2_clear_6 : decode cX2_clear 6 = .ok (.aload_n 2, 1) := bX2_clear_0.2.2.2.2.1
theorem dX2_clear_7 : decode cX2_clear 7 = .ok (.getfield 39, 3) := bX2_clear_0.2.2.2.2.2.1
theorem dX2_clear_10 : decode cX2_clear 10 = .ok (.istore_n 3, 1) := bX2_clear_0.2.2.2.2.2.2.1
theorem dX2_clear_11 : decode cX2_clear 11 = .ok (.aload_n 2, 1) := bX2_clear_0.2.2.2.2.2.2.2.1
theorem dX2_clear_12 : decode cX2_clear 12 = .ok (.invokevirtual 43, 3) := bX2_clear_0.2.2.2.2.2.2.2.2.1
theorem dX2_clear_15 : decode cX2_clear 15 = .ok (.aload_n 0, 1) := bX2_clear_0.2.2.2.2.2.2.2.2.2.1
theorem dX2_clear_16 : decode cX2_clear 16 = .ok (.iload_n 3, 1) := bX2_clear_0.2.2.2.2.2.2.2.2.2.2.1
theorem dX2_clear_17 : decode cX2_clear 17 = .ok (.invokevirtual 54, 3) := bX2_clear_0.2.2.2.2.2.2.2.2.2.2.2.1
theorem dX2_clear_20 : decode cX2_clear 20 = .ok (.ireturn, 1) := bX2_clear_0.2.2.2.2.2.2.2.2.2.2.2.2
set_option maxRecDepth 100000 in
theorem bX2_exchange_0 : (decode cX2_exchange 0 = .ok (.aload_n 0, 1)) ∧ (decode cX2_exchange 1 = .ok (.iload_n 1, 1)) ∧ (decode cX2_exchange 2 = .ok (.invokevirtual 27, 3)) ∧ (decode cX2_exchange 5 = .ok (.astore_n 3, 1)) ∧ (decode cX2_exchange 6 = .ok (.aload_n 3, 1)) ∧ (decode cX2_exchange 7 = .ok (.iload_n 2, 1)) ∧ (decode cX2_exchange 8 = .ok (.invokestatic 98, 3)) ∧ (decode cX2_exchange 11 = .ok (.aload_n 3, 1)) ∧ (decode cX2_exchange 12 = .ok (.iload_n 2, 1)) ∧ (decode cX2_exchange 13 = .ok (.invokevirtual 101, 3)) ∧ (decode cX2_exchange 16 = .ok (.istore 4, 2)) ∧ (decode cX2_exchange 18 = .ok (.aload_n 3, 1)) ∧ (decode cX2_exchange 19 = .ok (.iload_n 2, 1)) ∧ (decode cX2_exchange 20 = .ok (.iload_n 2, 1)) ∧ (decode cX2_exchange 21 = .ok (.iconst 1, 1)) ∧ (decode cX2_exchange 22 = .ok (.iadd, 1)) := by decide +kernel
theorem dX2_exchange_0 : decode cX2_exchange 0 = .ok (.aload_n 0, 1) := bX2_exchange_0.1
theorem dX2_exchange_1 : decode cX2_exchange 1 = .ok (.iload_n 1, 1) := bX2_exchange_0.2.1
theorem dX2_exchange_2 : decode cX2_exchange 2 = .ok (.invokevirtual 27, 3) := bX2_exchange_0.2.2.1
theorem dX2_exchange_5 : decode cX2_exchange 5 = .ok (.astore_n 3, 1) := bX2_exchange_0.2.2.2.1
theorem dX2_exchange_6 : decode cX2_exchange 6 = .ok (.aload_n 3, 1) := bX2_exchange_0.2.2.2.2.1
theorem dX2_exchange_7 : decode cX2_exchange 7 = .ok (.iload_n 2, 1) := bX2_exchange_0.2.2.2.2.2.1
theorem dX2_exchange_8 : decode cX2_exchange 8 = .ok (.invokestatic 98, 3) := bX2_exchange_0.2.2.2.2.2.2.1
theorem dX2_exchange_11 : decode cX2_exchange 11 = .ok (.aload_n 3, 1) := bX2_exchange_0.2.2.2.2.2.2.2.1
theorem dX2_exchange_12 : decode cX2_exchange 12 = .ok (.iload_n 2, 1) := bX2_exchange_0.2.2.2.2.2.2.2.2.1
theorem dX2_exchange_13 : decode cX2_exchange 13 = .ok (.invokevirtual 101, 3) := bX2_exchange_0.2.2.2.2.2.2.2.2.2.1
theorem dX2_exchange_16 : decode cX2_exchange 16 = .ok (.istore 4, 2) := bX2_exchange_0.2.2.2.2.2.2.2.2.2.2.1
theorem dX2_exchange_18 : decode cX2_exchange 18 = .ok (.aload_n 3, 1) := bX2_exchange_0.2.2.2.2.2.2.2.2.2.2.2.1
theorem dX2_exchange_19 : decode cX2_exchange 19 = .ok (.iload_n 2, 1) := bX2_exchange_0.2.2.2.2.2.2.2.2.2.2.2.2.1
theorem dX2_exchange_20 : decode cX2_exchange 20 = .ok (.iload_n 2, 1) := bX2_exchange_0.2.2.2.2.2.2.2.2.2.2.2.2.2.1
theorem dX2_exchange_21 : decode cX2_exchange 21 = .ok (.iconst 1, 1) := bX2_exchange_0.2.2.2.2.2.2.2.2.2.2.2.2.2.2.1
theorem dX2_exchange_22 : decode cX2_exchange 22 = .ok (.iadd, 1) := bX2_exchange_0.2.2.2.2.2.2.2.2.2.2.2.2.2.2.2
set_option maxRecDepth 100000 in
theorem bX2_exchange_23 : (decode cX2_exchange 23 = .ok (.invokevirtual 104, 3)) ∧ (decode cX2_exchange 26 = .ok (.aload_n 0, 1)) ∧ (decode cX2_exchange 27 = .ok (.iload 4, 2)) ∧ (decode cX2_exchange 29 = .ok (.invokevirtual 54, 3)) ∧ (decode cX2_exchange 32 = .ok (.ireturn, 1)) := by decide +kernel
theorem dX2_exchange_23 : decode cX2_exchange 23 = .ok (.invokevirtual 104, 3) := bX2_exchange_23.1
theorem dX2_exchange_26 : decode cX2_exchange 26 = .ok (.aload_n 0, 1) := bX2_exchange_23.2.1
theorem dX2_exchange_27 : decode cX2_exchange 27 = .ok (.iload 4, 2) := bX2_exchange_23.2.2.1
theorem dX2_exchange_29 : decode cX2_exchange 29 = .ok (.invokevirtual 54, 3) := bX2_exchange_23.2.2.2.1
theorem dX2_exchange_32 : decode cX2_exchange 32 = .ok (.ireturn, 1) := bX2_exchange_23.2.2.2.2
set_option maxRecDepth 100000 in
theorem bX2_swap_0 : (decode cX2_swap 0 = .ok (.aload_n 0, 1)) ∧ (decode cX2_swap 1 = .ok (.iload_n 1, 1)) ∧ (decode cX2_swap 2 = .ok (.invokevirtual 27, 3)) ∧ (decode cX2_swap 5 = .ok (.astore 4, 2)) ∧ (decode cX2_swap 7 = .ok (.aload 4, 2)) ∧ (decode cX2_swap 9 = .ok (.iload_n 2, 1)) ∧ (decode cX2_swap 10 = .ok (.invokestatic 75, 3)) ∧ (decode cX2_swap 13 = .ok (.aload 4, 2)) ∧ (decode cX2_swap 15 = .ok (.iload_n 3, 1)) ∧ (decode cX2_swap 16 = .ok (.invokestatic 75, 3)) ∧ (decode cX2_swap 19 = .ok (.aload 4, 2)) ∧ (decode cX2_swap 21 = .ok (.getfield 79, 3)) ∧ (decode cX2_swap 24 = .ok (.iload_n 2, 1)) ∧ (decode cX2_swap 25 = .ok (.iaload, 1)) ∧ (decode cX2_swap 26 = .ok (.aload 4, 2)) ∧ (decode cX2_swap 28 = .ok (.getfield 79, 3)) := by decide +kernel
theorem dX2_swap_0 : decode cX2_swap 0 = .ok (.aload_n 0, 1) := bX2_swap_0.1
theorem dX2_swap_1 : decode cX2_swap 1 = .ok (.iload_n 1, 1) := bX2_swap_0.2.1
theorem dX2_swap_2 : decode cX2_swap 2 = .ok (.invokevirtual 27, 3) := bX2_swap_0.2.2.1
theorem dX2_swap_5 : decode cX2_swap 5 = .ok (.astore 4, 2) := bX2_swap_0.2.2.2.1
theorem dX2_swap_7 : decode cX2_swap 7 = .ok (.aload 4, 2) := bX2_swap_0.2.2.2.2.1
theorem dX2_swap_9 : decode cX2_swap 9 = .ok (.iload_n 2, 1) := bX2_swap_0.2.2.2.2.2.1
theorem dX2_swap_10 : decode cX2_swap 10 = .ok (.invokestatic 75, 3) := bX2_swap_0.2.2.2.2.2.2.1
theorem dX2_swap_13 : decode cX2_swap 13 = .ok (.aload 4, 2) := bX2_swap_0.2.2.2.2.2.2.2.1
theorem dX2_swap_15 : decode cX2_swap 15 = .ok (.iload_n 3, 1) := bX2_swap_0.2.2.2.2.2.2.2.2.1
theorem dX2_swap_16 : decode cX2_swap 16 = .ok (.invokestatic 75, 3) := bX2_swap_0.2.2.2.2.2.2.2.2.2.1
theorem dX2_swap_19 : decode cX2_swap 19 = .ok (.aload 4, 2) := bX2_swap_0.2.2.2.2.2.2.2.2.2.2.1
theorem dX2_swap_21 : decode cX2_swap 21 = .ok (.getfield 79, 3) := bX2_swap_0.2.2.2.2.2.2.2.2.2.2.2.1
theorem dX2_swap_24 : decode cX2_swap 24 = .ok (.iload_n 2, 1) := bX2_swap_0.2.2.2.2.2.2.2.2.2.2.2.2.1
theorem dX2_swap_25 : decode cX2_swap 25 = .ok (.iaload, 1) := bX2_swap_0.2.2.2.2.2.2.2.2.2.2.2.2.2.1
theorem dX2_swap_26 : decode cX2_swap 26 = .ok (.aload 4, 2) := bX2_swap_0.2.2.2.2.2.2.2.2.2.2.2.2.2.2.1
theorem dX2_swap_28 : decode cX2_swap 28 = .ok (.getfield 79, 3) := bX2_swap_0.2.2.2.2.2.2.2.2.2.2.2.2.2.2.2
set_option maxRecDepth 100000 in
theorem bX2_swap_31 : (decode cX2_swap 31 = .ok (.iload_n 3, 1)) ∧ (decode cX2_swap 32 = .ok (.iaload, 1)) ∧ (decode cX2_swap 33 = .ok (.if_icmp .eq 7, 3)) ∧ (decode cX2_swap 36 = .ok (.iconst 1, 1)) ∧ (decode cX2_swap 37 = .ok (.goto 4, 3)) ∧ (decode cX2_swap 40 = .ok (.iconst 0, 1)) ∧ (decode cX2_swap 41 = .ok (.istore 5, 2)) ∧ (decode cX2_swap 43 = .ok (.aload 4, 2)) ∧ (decode cX2_swap 45 = .ok (.iload_n 2, 1)) ∧ (decode cX2_swap 46 = .ok (.iload_n 3, 1)) ∧ (decode cX2_swap 47 = .ok (.invokevirtual 104, 3)) ∧ (decode cX2_swap 50 = .ok (.aload_n 0, 1)) ∧ (decode cX2_swap 51 = .ok (.iload 5, 2)) ∧ (decode cX2_swap 53 = .ok (.ifCond .eq 7, 3)) ∧ (decode cX2_swap 56 = .ok (.iconst 1, 1)) ∧ (decode cX2_swap 57 = .ok (.goto 4, 3)) := by decide +kernel
theorem dX2_swap_31 : decode cX2_swap 31 = .ok (.iload_n 3, 1) := bX2_swap_31.1
theorem dX2_swap_32 : decode cX2_swap 32 = .ok (.iaload, 1) := bX2_swap_31.2.1
theorem dX2_swap_33 : decode cX2_swap 33 = .ok (.if_icmp .eq 7, 3) := bX2_swap_31.2.2.1
theorem dX2_swap_36 : decode cX2_swap 36 = .ok (.iconst 1, 1) := bX2_swap_31.2.2.2.1
theorem dX2_swap_37 : decode cX2_swap 37 = .ok (.goto 4, 3) := bX2_swap_31.2.2.2.2.1
theorem dX2_swap_40 : decode cX2_swap 40 = .ok (.iconst 0, 1) := bX2_swap_31.2.2.2.2.2.1
theorem dX2_swap_41 : decode cX2_swap 41 = .ok (.istore 5, 2) := bX2_swap_31.2.2.2.2.2.2.1
theorem dX2_swap_43 : decode cX2_swap 43 = .ok (.aload 4, 2) := bX2_swap_31.2.2.2.2.2.2.2.1
theorem dX2_swap_45 : decode cX2_swap 45 = .ok (.iload_n 2, 1) := bX2_swap_31.2.2.2.2.2.2.2.2.1
theorem dX2_swap_46 : decode cX2_swap 46 = .ok (.iload_n 3, 1) := bX2_swap_31.2.2.2.2.2.2.2.2.2.1
theorem dX2_swap_47 : decode cX2_swap 47 = .ok (.invokevirtual 104, 3) := bX2_swap_31.2.2.2.2.2.2.2.2.2.2.1
theorem dX2_swap_50 : decode cX2_swap 50 = .ok (.aload_n 0, 1) := bX2_swap_31.2.2.2.2.2.2.2.2.2.2.2.1
theorem dX2_swap_51 : decode cX2_swap 51 = .ok (.iload 5, 2) := bX2_swap_31.2.2.2.2.2.2.2.2.2.2.2.2.1
theorem dX2_swap_53 : decode cX2_swap 53 = .ok (.ifCond .eq 7, 3) := bX2_swap_31.2.2.2.2.2.2.2.2.2.2.2.2.2.1
theorem dX2_swap_56 : decode cX2_swap 56 = .ok (.iconst 1, 1) := bX2_swap_31.2.2.2.2.2.2.2.2.2.2.2.2.2.2.1
theorem dX2_swap_57 : decode cX2_swap 57 = .ok (.goto 4, 3) := bX2_swap_31.2.2.2.2.2.2.2.2.2.2.2.2.2.2.2
set_option maxRecDepth 100000 in
theorem bX2_swap_60 : (decode cX2_swap 60 = .ok (.iconst 0, 1)) ∧ (decode cX2_swap 61 = .ok (.invokevirtual 54, 3)) ∧ (decode cX2_swap 64 = .ok (.ireturn, 1)) := by decide +kernel
theorem dX2_swap_60 : decode cX2_swap 60 = .ok (.iconst 0, 1) := bX2_swap_60.1
theorem dX2_swap_61 : decode cX2_swap 61 = .ok (.invokevirtual 54, 3) := bX2_swap_60.2.1
theorem dX2_swap_64 : decode cX2_swap 64 = .ok (.ireturn, 1) := bX2_swap_60.2.2
set_option maxRecDepth 100000 in
theorem bX2_turn_0 : (decode cX2_turn 0 = .ok (.aload_n 0, 1)) ∧ (decode cX2_turn 1 = .ok (.iload_n 1, 1)) ∧ (decode cX2_turn 2 = .ok (.invokevirtual 27, 3)) ∧ (decode cX2_turn 5 = .ok (.astore_n 2, 1)) ∧ (decode cX2_turn 6 = .ok (.aload_n 0, 1)) ∧ (decode cX2_turn 7 = .ok (.getfield 23, 3)) ∧ (decode cX2_turn 10 = .ok (.getfield 86, 3)) ∧ (decode cX2_turn 13 = .ok (.astore_n 3, 1)) ∧ (decode cX2_turn 14 = .ok (.aload_n 3, 1)) ∧ (decode cX2_turn 15 = .ok (.invokevirtual 43, 3)) ∧ (decode cX2_turn 18 = .ok (.aload_n 2, 1)) ∧ (decode cX2_turn 19 = .ok (.getfield 39, 3)) ∧ (decode cX2_turn 22 = .ok (.iconst 1, 1)) ∧ (decode cX2_turn 23 = .ok (.isub, 1)) ∧ (decode cX2_turn 24 = .ok (.istore 4, 2)) ∧ (decode cX2_turn 26 = .ok (.iload 4, 2)) := by decide +kernel
theorem dX2_turn_0 : decode cX2_turn 0 = .ok (.aload_n 0, 1) := bX2_turn_0.1
theorem dX2_turn_1 : decode cX2_turn 1 = .ok (.iload_n 1, 1) := bX2_turn_0.2.1
theorem dX2_turn_2 : decode cX2_turn 2 = .ok (.invokevirtual 27, 3) := bX2_turn_0.2.2.1
theorem dX2_turn_5 : decode cX2_turn 5 = .ok (.astore_n 2, 1) := bX2_turn_0.2.2.2.1
theorem dX2_turn_6 : decode cX2_turn 6 = .ok (.aload_n 0, 1) := bX2_turn_0.2.2.2.2.1
theorem dX2_turn_7 : decode cX2_turn 7 = .ok (.getfield 23, 3) := bX2_turn_0.2.2.2.2.2.1
theorem dX2_turn_10 : decode cX2_turn 10 = .ok (.getfield 86, 3) := bX2_turn_0.2.2.2.2.2.2.1
theorem dX2_turn_13 : decode cX2_turn 13 = .ok (.astore_n 3, 1) := bX2_turn_0.2.2.2.2.2.2.2.1
theorem dX2_turn_14 : decode cX2_turn 14 = .ok (.aload_n 3, 1) := bX2_turn_0.2.2.2.2.2.2.2.2.1
theorem dX2_turn_15 : decode cX2_turn 15 = .ok (.invokevirtual 43, 3) := bX2_turn_0.2.2.2.2.2.2.2.2.2.1
theorem dX2_turn_18 : decode cX2_turn 18 = .ok (.aload_n 2, 1) := bX2_turn_0.2.2.2.2.2.2.2.2.2.2.1
theorem dX2_turn_19 : decode cX2_turn 19 = .ok (.getfield 39, 3) := bX2_turn_0.2.2.2.2.2.2.2.2.2.2.2.1
theorem dX2_turn_22 : decode cX2_turn 22 = .ok (.iconst 1, 1) := bX2_turn_0.2.2.2.2.2.2.2.2.2.2.2.2.1
theorem dX2_turn_23 : decode cX2_turn 23 = .ok (.isub, 1) := bX2_turn_0.2.2.2.2.2.2.2.2.2.2.2.2.2.1
theorem dX2_turn_24 : decode cX2_turn 24 = .ok (.istore 4, 2) := bX2_turn_0.2.2.2.2.2.2.2.2.2.2.2.2.2.2.1
theorem dX2_turn_26 : decode cX2_turn 26 = .ok (.iload 4, 2) := bX2_turn_0.2.2.2.2.2.2.2.2.2.2.2.2.2.2.2
set_option maxRecDepth 100000 in
theorem bX2_turn_28 : (decode cX2_turn 28 = .ok (.ifCond .lt 27, 3)) ∧ (decode cX2_turn 31 = .ok (.aload_n 3, 1)) ∧ (decode cX2_turn 32 = .ok (.aload_n 2, 1)) ∧ (decode cX2_turn 33 = .ok (.getfield 79, 3)) ∧ (decode cX2_turn 36 = .ok (.iload 4, 2)) ∧ (decode cX2_turn 38 = .ok (.iaload, 1)) ∧ (decode cX2_turn 39 = .ok (.aload_n 2, 1)) ∧ (decode cX2_turn 40 = .ok (.getfield 83, 3)) ∧ (decode cX2_turn 43 = .ok (.iload 4, 2)) ∧ (decode cX2_turn 45 = .ok (.iaload, 1)) ∧ (decode cX2_turn 46 = .ok (.invokevirtual 71, 3)) ∧ (decode cX2_turn 49 = .ok (.iinc 4 (-1), 3)) ∧ (decode cX2_turn 52 = .ok (.goto (-26), 3)) ∧ (decode cX2_turn 55 = .ok (.aload_n 2, 1)) ∧ (decode cX2_turn 56 = .ok (.aload_n 3, 1)) ∧ (decode cX2_turn 57 = .ok (.invokevirtual 107, 3)) := by decide +kernel
theorem dX2_turn_28 : decode cX2_turn 28 = .ok (.ifCond .lt 27, 3) := bX2_turn_28.1
theorem dX2_turn_31 : decode cX2_turn 31 = .ok (.aload_n 3, 1) := bX2_turn_28.2.1
theorem dX2_turn_32 : decode cX2_turn 32 = .ok (.aload_n 2, 1) := bX2_turn_28.2.2.1
theorem dX2_turn_33 : decode cX2_turn 33 = .ok (.getfield 79, 3) := bX2_turn_28.2.2.2.1
theorem dX2_turn_36 : decode cX2_turn 36 = .ok (.iload 4, 2) := bX2_turn_28.2.2.2.2.1
theorem dX2_turn_38 : decode cX2_turn 38 = .ok (.iaload, 1) := bX2_turn_28.2.2.2.2.2.1
theorem dX2_turn_39 : decode cX2_turn 39 = .ok (.aload_n 2, 1) := bX2_turn_28.2.2.2.2.2.2.1
theorem dX2_turn_40 : decode cX2_turn 40 = .ok (.getfield 83, 3) := bX2_turn_28.2.2.2.2.2.2.2.1
theorem dX2_turn_43 : decode cX2_turn 43 = .ok (.iload 4, 2) := bX2_turn_28.2.2.2.2.2.2.2.2.1
theorem dX2_turn_45 : decode cX2_turn 45 = .ok (.iaload, 1) := bX2_turn_28.2.2.2.2.2.2.2.2.2.1
theorem dX2_turn_46 : decode cX2_turn 46 = .ok (.invokevirtual 71, 3) := bX2_turn_28.2.2.2.2.2.2.2.2.2.2.1
theorem dX2_turn_49 : decode cX2_turn 49 = .ok (.iinc 4 (-1), 3) := bX2_turn_28.2.2.2.2.2.2.2.2.2.2.2.1
theorem dX2_turn_52 : decode cX2_turn 52 = .ok (.goto (-26), 3) := bX2_turn_28.2.2.2.2.2.2.2.2.2.2.2.2.1
theorem dX2_turn_55 : decode cX2_turn 55 = .ok (.aload_n 2, 1) := bX2_turn_28.2.2.2.2.2.2.2.2.2.2.2.2.2.1
theorem dX2_turn_56 : decode cX2_turn 56 = .ok (.aload_n 3, 1) := bX2_turn_28.2.2.2.2.2.2.2.2.2.2.2.2.2.2.1
theorem dX2_turn_57 : decode cX2_turn 57 = .ok (.invokevirtual 107, 3) := bX2_turn_28.2.2.2.2.2.2.2.2.2.2.2.2.2.2.2
set_option maxRecDepth 100000 in
theorem bX2_turn_60 : (decode cX2_turn 60 = .ok (.istore 4, 2)) ∧ (decode cX2_turn 62 = .ok (.aload_n 2, 1)) ∧ (decode cX2_turn 63 = .ok (.aload_n 3, 1)) ∧ (decode cX2_turn 64 = .ok (.invokevirtual 94, 3)) ∧ (decode cX2_turn 67 = .ok (.aload_n 0, 1)) ∧ (decode cX2_turn 68 = .ok (.iload 4, 2)) ∧ (decode cX2_turn 70 = .ok (.invokevirtual 54, 3)) ∧ (decode cX2_turn 73 = .ok (.ireturn, 1)) := by decide +kernel
theorem dX2_turn_60 : decode cX2_turn 60 = .ok (.istore 4, 2) := bX2_turn_60.1
theorem dX2_turn_62 : decode cX2_turn 62 = .ok (.aload_n 2, 1) := bX2_turn_60.2.1
theorem dX2_turn_63 : decode cX2_turn 63 = .ok (.aload_n 3, 1) := bX2_turn_60.2.2.1
theorem dX2_turn_64 : decode cX2_turn 64 = .ok (.invokevirtual 94, 3) := bX2_turn_60.2.2.2.1
theorem dX2_turn_67 : decode cX2_turn 67 = .ok (.aload_n 0, 1) := bX2_turn_60.2.2.2.2.1
theorem dX2_turn_68 : decode cX2_turn 68 = .ok (.iload 4, 2) := bX2_turn_60.2.2.2.2.2.1
theorem dX2_turn_70 : decode cX2_turn 70 = .ok (.invokevirtual 54, 3) := bX2_turn_60.2.2.2.2.2.2.1
theorem dX2_turn_73 : decode cX2_turn 73 = .ok (.ireturn, 1) := bX2_turn_60.2.2.2.2.2.2.2
set_option maxRecDepth 100000 in
theorem bX2_roll_0 : (decode cX2_roll 0 = .ok (.aload_n 0, 1)) ∧ (decode cX2_roll 1 = .ok (.iload_n 1, 1)) ∧ (decode cX2_roll 2 = .ok (.invokevirtual 27, 3)) ∧ (decode cX2_roll 5 = .ok (.astore_n 3, 1)) ∧ (decode cX2_roll 6 = .ok (.iload_n 2, 1)) ∧ (decode cX2_roll 7 = .ok (.ifCond .lt 15, 3)) ∧ (decode cX2_roll 10 = .ok (.iload_n 2, 1)) ∧ (decode cX2_roll 11 = .ok (.aload_n 3, 1)) ∧ (decode cX2_roll 12 = .ok (.getfield 39, 3)) ∧ (decode cX2_roll 15 = .ok (.if_icmp .gt 7, 3)) ∧ (decode cX2_roll 18 = .ok (.iconst 1, 1)) ∧ (decode cX2_roll 19 = .ok (.goto 4, 3)) ∧ (decode cX2_roll 22 = .ok (.iconst 0, 1)) ∧ (decode cX2_roll 23 = .ok (.invokestatic 35, 3)) ∧ (decode cX2_roll 26 = .ok (.aload_n 0, 1)) ∧ (decode cX2_roll 27 = .ok (.getfield 23, 3)) := by decide +kernel
theorem dX2_roll_0 : decode cX2_roll 0 = .ok (.aload_n 0, 1) := bX2_roll_0.1
theorem dX2_roll_1 : decode cX2_roll 1 = .ok (.iload_n 1, 1) := bX2_roll_0.2.1
theorem dX2_roll_2 : decode cX2_roll 2 = .ok (.invokevirtual 27, 3) := bX2_roll_0.2.2.1
theorem dX2_roll_5 : decode cX2_roll 5 = .ok (.astore_n 3, 1) := bX2_roll_0.2.2.2.1
theorem dX2_roll_6 : decode cX2_roll 6 = .ok (.iload_n 2, 1) := bX2_roll_0.2.2.2.2.1
theorem dX2_roll_7 : decode cX2_roll 7 = .ok (.ifCond .lt 15, 3) := bX2_roll_0.2.2.2.2.2.1
theorem dX2_roll_10 : decode cX2_roll 10 = .ok (.iload_n 2, 1) := bX2_roll_0.2.2.2.2.2.2.1
theorem dX2_roll_11 : decode cX2_roll 11 = .ok (.aload_n 3, 1) := bX2_roll_0.2.2.2.2.2.2.2.1
theorem dX2_roll_12 : decode cX2_roll 12 = .ok (.getfield 39, 3) := bX2_roll_0.2.2.2.2.2.2.2.2.1
theorem dX2_roll_15 : decode cX2_roll 15 = .ok (.if_icmp .gt 7, 3) := bX2_roll_0.2.2.2.2.2.2.2.2.2.1
theorem dX2_roll_18 : decode cX2_roll 18 = .ok (.iconst 1, 1) := bX2_roll_0.2.2.2.2.2.2.2.2.2.2.1
theorem dX2_roll_19 : decode cX2_roll 19 = .ok (.goto 4, 3) := bX2_roll_0.2.2.2.2.2.2.2.2.2.2.2.1
theorem dX2_roll_22 : decode cX2_roll 22 = .ok (.iconst 0, 1) := bX2_roll_0.2.2.2.2.2.2.2.2.2.2.2.2.1
theorem dX2_roll_23 : decode cX2_roll 23 = .ok (.invokestatic 35, 3) := bX2_roll_0.2.2.2.2.2.2.2.2.2.2.2.2.2.1
theorem dX2_roll_26 : decode cX2_roll 26 = .ok (.aload_n 0, 1) := bX2_roll_0.2.2.2.2.2.2.2.2.2.2.2.2.2.2.1
theorem dX2_roll_27 : decode cX2_roll 27 = .ok (.getfield 23, 3) := bX2_roll_0.2.2.2.2.2.2.2.2.2.2.2.2.2.2.2
set_option maxRecDepth 100000 in
theorem bX2_roll_30 : (decode cX2_roll 30 = .ok (.getfield 86, 3)) ∧ (decode cX2_roll 33 = .ok (.astore 4, 2)) ∧ (decode cX2_roll 35 = .ok (.aload 4, 2)) ∧ (decode cX2_roll 37 = .ok (.invokevirtual 43, 3)) ∧ (decode cX2_roll 40 = .ok (.aload 4, 2)) ∧ (decode cX2_roll 42 = .ok (.aload_n 3, 1)) ∧ (decode cX2_roll 43 = .ok (.iload_n 2, 1)) ∧ (decode cX2_roll 44 = .ok (.aload_n 3, 1)) ∧ (decode cX2_roll 45 = .ok (.getfield 39, 3)) ∧ (decode cX2_roll 48 = .ok (.invokevirtual 90, 3)) ∧ (decode cX2_roll 51 = .ok (.aload 4, 2)) ∧ (decode cX2_roll 53 = .ok (.aload_n 3, 1)) ∧ (decode cX2_roll 54 = .ok (.iconst 0, 1)) ∧ (decode cX2_roll 55 = .ok (.iload_n 2, 1)) ∧ (decode cX2_roll 56 = .ok (.invokevirtual 90, 3)) ∧ (decode cX2_roll 59 = .ok (.aload_n 3, 1)) := by decide +kernel
theorem dX2_roll_30 : decode cX2_roll 30 = .ok (.getfield 86, 3) := bX2_roll_30.1
theorem dX2_roll_33 : decode cX2_roll 33 = .ok (.astore 4, 2) := bX2_roll_30.2.1
theorem dX2_roll_35 : decode cX2_roll 35 = .ok (.aload 4, 2) := bX2_roll_30.2.2.1
theorem dX2_roll_37 : decode cX2_roll 37 = .ok (.invokevirtual 43, 3) := bX2_roll_30.2.2.2.1
theorem dX2_roll_40 : decode cX2_roll 40 = .ok (.aload 4, 2) := bX2_roll_30.2.2.2.2.1
theorem dX2_roll_42 : decode cX2_roll 42 = .ok (.aload_n 3, 1) := bX2_roll_30.2.2.2.2.2.1
theorem dX2_roll_43 : decode cX2_roll 43 = .ok (.iload_n 2, 1) := bX2_roll_30.2.2.2.2.2.2.1
theorem dX2_roll_44 : decode cX2_roll 44 = .ok (.aload_n 3, 1) := bX2_roll_30.2.2.2.2.2.2.2.1
theorem dX2_roll_45 : decode cX2_roll 45 = .ok (.getfield 39, 3) := bX2_roll_30.2.2.2.2.2.2.2.2.1
theorem dX2_roll_48 : decode cX2_roll 48 = .ok (.invokevirtual 90, 3) := bX2_roll_30.2.2.2.2.2.2.2.2.2.1
theorem dX2_roll_51 : decode cX2_roll 51 = .ok (.aload 4, 2) := bX2_roll_30.2.2.2.2.2.2.2.2.2.2.1
theorem dX2_roll_53 : decode cX2_roll 53 = .ok (.aload_n 3, 1) := bX2_roll_30.2.2.2.2.2.2.2.2.2.2.2.1
theorem dX2_roll_54 : decode cX2_roll 54 = .ok (.iconst 0, 1) := bX2_roll_30.2.2.2.2.2.2.2.2.2.2.2.2.1
theorem dX2_roll_55 : decode cX2_roll 55 = .ok (.iload_n 2, 1) := bX2_roll_30.2.2.2.2.2.2.2.2.2.2.2.2.2.1
theorem dX2_roll_56 : decode cX2_roll 56 = .ok (.invokevirtual 90, 3) := bX2_roll_30.2.2.2.2.2.2.2.2.2.2.2.2.2.2.1
theorem dX2_roll_59 : decode cX2_roll 59 = .ok (.aload_n 3, 1) := bX2_roll_30.2.2.2.2.2.2.2.2.2.2.2.2.2.2.2
set_option maxRecDepth 100000 in
theorem bX2_roll_60 : (decode cX2_roll 60 = .ok (.aload 4, 2)) ∧ (decode cX2_roll 62 = .ok (.invokevirtual 107, 3)) ∧ (decode cX2_roll 65 = .ok (.istore 5, 2)) ∧ (decode cX2_roll 67 = .ok (.aload_n 3, 1)) ∧ (decode cX2_roll 68 = .ok (.aload 4, 2)) ∧ (decode cX2_roll 70 = .ok (.invokevirtual 94, 3)) ∧ (decode cX2_roll 73 = .ok (.aload_n 0, 1)) ∧ (decode cX2_roll 74 = .ok (.iload 5, 2)) ∧ (decode cX2_roll 76 = .ok (.invokevirtual 54, 3)) ∧ (decode cX2_roll 79 = .ok (.ireturn, 1)) := by decide +kernel
theorem dX2_roll_60 : decode cX2_roll 60 = .ok (.aload 4, 2) := bX2_roll_60.1
theorem dX2_roll_62 : decode cX2_roll 62 = .ok (.invokevirtual 107, 3) := bX2_roll_60.2.1
theorem dX2_roll_65 : decode cX2_roll 65 = .ok (.istore 5, 2) := bX2_roll_60.2.2.1
theorem dX2_roll_67 : decode cX2_roll 67 = .ok (.aload_n 3, 1) := bX2_roll_60.2.2.2.1
theorem dX2_roll_68 : decode cX2_roll 68 = .ok (.aload 4, 2) := bX2_roll_60.2.2.2.2.1
theorem dX2_roll_70 : decode cX2_roll 70 = .ok (.invokevirtual 94, 3) := bX2_roll_60.2.2.2.2.2.1
theorem dX2_roll_73 : decode cX2_roll 73 = .ok (.aload_n 0, 1) := bX2_roll_60.2.2.2.2.2.2.1
theorem dX2_roll_74 : decode cX2_roll 74 = .ok (.iload 5, 2) := bX2_roll_60.2.2.2.2.2.2.2.1
theorem dX2_roll_76 : decode cX2_roll 76 = .ok (.invokevirtual 54, 3) := bX2_roll_60.2.2.2.2.2.2.2.2.1
theorem dX2_roll_79 : decode cX2_roll 79 = .ok (.ireturn, 1) := bX2_roll_60.2.2.2.2.2.2.2.2.2
set_option maxRecDepth 100000 in
theorem bX2_keep_0 : (decode cX2_keep 0 = .ok (.aload_n 0, 1)) ∧ (decode cX2_keep 1 = .ok (.iload_n 1, 1)) ∧ (decode cX2_keep 2 = .ok (.invokevirtual 27, 3)) ∧ (decode cX2_keep 5 = .ok (.astore 4, 2)) ∧ (decode cX2_keep 7 = .ok (.iload_n 2, 1)) ∧ (decode cX2_keep 8 = .ok (.ifCond .lt 21, 3)) ∧ (decode cX2_keep 11 = .ok (.iload_n 2, 1)) ∧ (decode cX2_keep 12 = .ok (.iload_n 3, 1)) ∧ (decode cX2_keep 13 = .ok (.if_icmp .gt 16, 3)) ∧ (decode cX2_keep 16 = .ok (.iload_n 3, 1)) ∧ (decode cX2_keep 17 = .ok (.aload 4, 2)) ∧ (decode cX2_keep 19 = .ok (.getfield 39, 3)) ∧ (decode cX2_keep 22 = .ok (.if_icmp .gt 7, 3)) ∧ (decode cX2_keep 25 = .ok (.iconst 1, 1)) ∧ (decode cX2_keep 26 = .ok (.goto 4, 3)) ∧ (decode cX2_keep 29 = .ok (.iconst 0, 1)) := by decide +kernel
theorem dX2_keep_0 : decode cX2_keep 0 = .ok (.aload_n 0, 1) := bX2_keep_0.1
theorem dX2_keep_1 : decode cX2_keep 1 = .ok (.iload_n 1, 1) := bX2_keep_0.2.1
theorem dX2_keep_2 : decode cX2_keep 2 = .ok (.invokevirtual 27, 3) := bX2_keep_0.2.2.1
theorem dX2_keep_5 : decode cX2_keep 5 = .ok (.astore 4, 2) := bX2_keep_0.2.2.2.1
theorem dX2_keep_7 : decode cX2_keep 7 = .ok (.iload_n 2, 1) := bX2_keep_0.2.2.2.2.1
theorem dX2_keep_8 : decode cX2_keep 8 = .ok (.ifCond .lt 21, 3) := bX2_keep_0.2.2.2.2.2.1
theorem dX2_keep_11 : decode cX2_keep 11 = .ok (.iload_n 2, 1) := bX2_keep_0.2.2.2.2.2.2.1
theorem dX2_keep_12 : decode cX2_keep 12 = .ok (.iload_n 3, 1) := bX2_keep_0.2.2.2.2.2.2.2.1
theorem dX2_keep_13 : decode cX2_keep 13 = .ok (.if_icmp .gt 16, 3) := bX2_keep_0.2.2.2.2.2.2.2.2.1
theorem dX2_keep_16 : decode cX2_keep 16 = .ok (.iload_n 3, 1) := bX2_keep_0.2.2.2.2.2.2.2.2.2.1
theorem dX2_keep_17 : decode cX2_keep 17 = .ok (.aload 4, 2) := bX2_keep_0.2.2.2.2.2.2.2.2.2.2.1
theorem dX2_keep_19 : decode cX2_keep 19 = .ok (.getfield 39, 3) := bX2_keep_0.2.2.2.2.2.2.2.2.2.2.2.1
theorem dX2_keep_22 : decode cX2_keep 22 = .ok (.if_icmp .gt 7, 3) := bX2_keep_0.2.2.2.2.2.2.2.2.2.2.2.2.1
theorem dX2_keep_25 : decode cX2_keep 25 = .ok (.iconst 1, 1) := bX2_keep_0.2.2.2.2.2.2.2.2.2.2.2.2.2.1
theorem dX2_keep_26 : decode cX2_keep 26 = .ok (.goto 4, 3) := bX2_keep_0.2.2.2.2.2.2.2.2.2.2.2.2.2.2.1
theorem dX2_keep_29 : decode cX2_keep 29 = .ok (.iconst 0, 1) := bX2_keep_0.2.2.2.2.2.2.2.2.2.2.2.2.2.2.2
set_option maxRecDepth 100000 in
theorem bX2_keep_30 : (decode cX2_keep 30 = .ok (.invokestatic 110, 3)) ∧ (decode cX2_keep 33 = .ok (.aload_n 0, 1)) ∧ (decode cX2_keep 34 = .ok (.getfield 23, 3)) ∧ (decode cX2_keep 37 = .ok (.getfield 86, 3)) ∧ (decode cX2_keep 40 = .ok (.astore 5, 2)) ∧ (decode cX2_keep 42 = .ok (.aload 5, 2)) ∧ (decode cX2_keep 44 = .ok (.invokevirtual 43, 3)) ∧ (decode cX2_keep 47 = .ok (.aload 5, 2)) ∧ (decode cX2_keep 49 = .ok (.aload 4, 2)) ∧ (decode cX2_keep 51 = .ok (.iload_n 2, 1)) ∧ (decode cX2_keep 52 = .ok (.iload_n 3, 1)) ∧ (decode cX2_keep 53 = .ok (.invokevirtual 90, 3)) ∧ (decode cX2_keep 56 = .ok (.aload 4, 2)) ∧ (decode cX2_keep 58 = .ok (.aload 5, 2)) ∧ (decode cX2_keep 60 = .ok (.invokevirtual 94, 3)) ∧ (decode cX2_keep 63 = .ok (.aload_n 0, 1)) := by decide +kernel
theorem dX2_keep_30 : decode cX2_keep 30 = .ok (.invokestatic 110, 3) := bX2_keep_30.1
theorem dX2_keep_33 : decode cX2_keep 33 = .ok (.aload_n 0, 1) := bX2_keep_30.2.1
theorem dX2_keep_34 : decode cX2_keep 34 = .ok (.getfield 23, 3) := bX2_keep_30.2.2.1
theorem dX2_keep_37 : decode cX2_keep 37 = .ok (.getfield 86, 3) := bX2_keep_30.2.2.2.1
theorem dX2_keep_40 : decode cX2_keep 40 = .ok (.astore 5, 2) := bX2_keep_30.2.2.2.2.1
theorem dX2_keep_42 : decode cX2_keep 42 = .ok (.aload 5, 2) := bX2_keep_30.2.2.2.2.2.1
theorem dX2_keep_44 : decode cX2_keep 44 = .ok (.invokevirtual 43, 3) := bX2_keep_30.2.2.2.2.2.2.1
theorem dX2_keep_47 : decode cX2_keep 47 = .ok (.aload 5, 2) := bX2_keep_30.2.2.2.2.2.2.2.1
theorem dX2_keep_49 : decode cX2_keep 49 = .ok (.aload 4, 2) := bX2_keep_30.2.2.2.2.2.2.2.2.1
theorem dX2_keep_51 : decode cX2_keep 51 = .ok (.iload_n 2, 1) := bX2_keep_30.2.2.2.2.2.2.2.2.2.1
theorem dX2_keep_52 : decode cX2_keep 52 = .ok (.iload_n 3, 1) := bX2_keep_30.2.2.2.2.2.2.2.2.2.2.1
theorem dX2_keep_53 : decode cX2_keep 53 = .ok (.invokevirtual 90, 3) := bX2_keep_30.2.2.2.2.2.2.2.2.2.2.2.1
theorem dX2_keep_56 : decode cX2_keep 56 = .ok (.aload 4, 2) := bX2_keep_30.2.2.2.2.2.2.2.2.2.2.2.2.1
theorem dX2_keep_58 : decode cX2_keep 58 = .ok (.aload 5, 2) := bX2_keep_30.2.2.2.2.2.2.2.2.2.2.2.2.2.1
theorem dX2_keep_60 : decode cX2_keep 60 = .ok (.invokevirtual 94, 3) := bX2_keep_30.2.2.2.2.2.2.2.2.2.2.2.2.2.2.1
theorem dX2_keep_63 : decode cX2_keep 63 = .ok (.aload_n 0, 1) := bX2_keep_30.2.2.2.2.2.2.2.2.2.2.2.2.2.2.2
set_option maxRecDepth 100000 in
theorem bX2_keep_64 : (decode cX2_keep 64 = .ok (.aload 4, 2)) ∧ (decode cX2_keep 66 = .ok (.getfield 39, 3)) ∧ (decode cX2_keep 69 = .ok (.invokevirtual 54, 3)) ∧ (decode cX2_keep 72 = .ok (.ireturn, 1)) := by decide +kernel
theorem dX2_keep_64 : decode cX2_keep 64 = .ok (.aload 4, 2) := bX2_keep_64.1
theorem dX2_keep_66 : decode cX2_keep 66 = .ok (.getfield 39, 3) := bX2_keep_64.2.1
theorem dX2_keep_69 : decode cX2_keep 69 = .ok (.invokevirtual 54, 3) := bX2_keep_64.2.2.1
theorem dX2_keep_72 : decode cX2_keep 72 = .ok (.ireturn, 1) := bX2_keep_64.2.2.2
set_option maxRecDepth 100000 in
theorem bX2_sort_0 : (decode cX2_sort 0 = .ok (.aload_n 0, 1)) ∧ (decode cX2_sort 1 = .ok (.iload_n 1, 1)) ∧ (decode cX2_sort 2 = .ok (.invokevirtual 27, 3)) ∧ (decode cX2_sort 5 = .ok (.astore_n 2, 1)) ∧ (decode cX2_sort 6 = .ok (.aload_n 0, 1)) ∧ (decode cX2_sort 7 = .ok (.getfield 23, 3)) ∧ (decode cX2_sort 10 = .ok (.aload_n 2, 1)) ∧ (decode cX2_sort 11 = .ok (.aload_n 0, 1)) ∧ (decode cX2_sort 12 = .ok (.getfield 23, 3)) ∧ (decode cX2_sort 15 = .ok (.getfield 113, 3)) ∧ (decode cX2_sort 18 = .ok (.invokevirtual 116, 3)) ∧ (decode cX2_sort 21 = .ok (.pop, 1)) ∧ (decode cX2_sort 22 = .ok (.aload_n 2, 1)) ∧ (decode cX2_sort 23 = .ok (.aload_n 0, 1)) ∧ (decode cX2_sort 24 = .ok (.getfield 23, 3)) ∧ (decode cX2_sort 27 = .ok (.getfield 113, 3)) := by decide +kernel
theorem dX2_sort_0 : decode cX2_sort 0 = .ok (.aload_n 0, 1) := bX2_sort_0.1
theorem dX2_sort_1 : decode cX2_sort 1 = .ok (.iload_n 1, 1) := bX2_sort_0.2.1
theorem dX2_sort_2 : decode cX2_sort 2 = .ok (.invokevirtual 27, 3) := bX2_sort_0.2.2.1
theorem dX2_sort_5 : decode cX2_sort 5 = .ok (.astore_n 2, 1) := bX2_sort_0.2.2.2.1
theorem dX2_sort_6 : decode cX2_sort 6 = .ok (.aload_n 0, 1) := bX2_sort_0.2.2.2.2.1
theorem dX2_sort_7 : decode cX2_sort 7 = .ok (.getfield 23, 3) := bX2_sort_0.2.2.2.2.2.1
theorem dX2_sort_10 : decode cX2_sort 10 = .ok (.aload_n 2, 1) := bX2_sort_0.2.2.2.2.2.2.1
theorem dX2_sort_11 : decode cX2_sort 11 = .ok (.aload_n 0, 1) := bX2_sort_0.2.2.2.2.2.2.2.1
theorem dX2_sort_12 : decode cX2_sort 12 = .ok (.getfield 23, 3) := bX2_sort_0.2.2.2.2.2.2.2.2.1
theorem dX2_sort_15 : decode cX2_sort 15 = .ok (.getfield 113, 3) := bX2_sort_0.2.2.2.2.2.2.2.2.2.1
theorem dX2_sort_18 : decode cX2_sort 18 = .ok (.invokevirtual 116, 3) := bX2_sort_0.2.2.2.2.2.2.2.2.2.2.1
theorem dX2_sort_21 : decode cX2_sort 21 = .ok (.pop, 1) := bX2_sort_0.2.2.2.2.2.2.2.2.2.2.2.1
theorem dX2_sort_22 : decode cX2_sort 22 = .ok (.aload_n 2, 1) := bX2_sort_0.2.2.2.2.2.2.2.2.2.2.2.2.1
theorem dX2_sort_23 : decode cX2_sort 23 = .ok (.aload_n 0, 1) := bX2_sort_0.2.2.2.2.2.2.2.2.2.2.2.2.2.1
theorem dX2_sort_24 : decode cX2_sort 24 = .ok (.getfield 23, 3) := bX2_sort_0.2.2.2.2.2.2.2.2.2.2.2.2.2.2.1
theorem dX2_sort_27 : decode cX2_sort 27 = .ok (.getfield 113, 3) := bX2_sort_0.2.2.2.2.2.2.2.2.2.2.2.2.2.2.2
set_option maxRecDepth 100000 in
theorem bX2_sort_30 : (decode cX2_sort 30 = .ok (.invokevirtual 120, 3)) ∧ (decode cX2_sort 33 = .ok (.istore_n 3, 1)) ∧ (decode cX2_sort 34 = .ok (.aload_n 2, 1)) ∧ (decode cX2_sort 35 = .ok (.aload_n 0, 1)) ∧ (decode cX2_sort 36 = .ok (.getfield 23, 3)) ∧ (decode cX2_sort 39 = .ok (.getfield 113, 3)) ∧ (decode cX2_sort 42 = .ok (.invokevirtual 94, 3)) ∧ (decode cX2_sort 45 = .ok (.aload_n 0, 1)) ∧ (decode cX2_sort 46 = .ok (.iload_n 3, 1)) ∧ (decode cX2_sort 47 = .ok (.invokevirtual 54, 3)) ∧ (decode cX2_sort 50 = .ok (.ireturn, 1)) := by decide +kernel
theorem dX2_sort_30 : decode cX2_sort 30 = .ok (.invokevirtual 120, 3) := bX2_sort_30.1
theorem dX2_sort_33 : decode cX2_sort 33 = .ok (.istore_n 3, 1) := bX2_sort_30.2.1
theorem dX2_sort_34 : decode cX2_sort 34 = .ok (.aload_n 2, 1) := bX2_sort_30.2.2.1
theorem dX2_sort_35 : decode cX2_sort 35 = .ok (.aload_n 0, 1) := bX2_sort_30.2.2.2.1
theorem dX2_sort_36 : decode cX2_sort 36 = .ok (.getfield 23, 3) := bX2_sort_30.2.2.2.2.1
theorem dX2_sort_39 : decode cX2_sort 39 = .ok (.getfield 113, 3) := bX2_sort_30.2.2.2.2.2.1
theorem dX2_sort_42 : decode cX2_sort 42 = .ok (.invokevirtual 94, 3) := bX2_sort_30.2.2.2.2.2.2.1
theorem dX2_sort_45 : decode cX2_sort 45 = .ok (.aload_n 0, 1) := bX2_sort_30.2.2.2.2.2.2.2.1
theorem dX2_sort_46 : decode cX2_sort 46 = .ok (.iload_n 3, 1) := bX2_sort_30.2.2.2.2.2.2.2.2.1
theorem dX2_sort_47 : decode cX2_sort 47 = .ok (.invokevirtual 54, 3) := bX2_sort_30.2.2.2.2.2.2.2.2.2.1
theorem dX2_sort_50 : decode cX2_sort 50 = .ok (.ireturn, 1) := bX2_sort_30.2.2.2.2.2.2.2.2.2.2
set_option maxRecDepth 100000 in
theorem bX2_copy_0 : (decode cX2_copy 0 = .ok (.aload_n 0, 1)) ∧ (decode cX2_copy 1 = .ok (.iload_n 1, 1)) ∧ (decode cX2_copy 2 = .ok (.invokevirtual 27, 3)) ∧ (decode cX2_copy 5 = .ok (.astore_n 3, 1)) ∧ (decode cX2_copy 6 = .ok (.aload_n 0, 1)) ∧ (decode cX2_copy 7 = .ok (.iload_n 2, 1)) ∧ (decode cX2_copy 8 = .ok (.invokevirtual 27, 3)) ∧ (decode cX2_copy 11 = .ok (.astore 4, 2)) ∧ (decode cX2_copy 13 = .ok (.aload_n 3, 1)) ∧ (decode cX2_copy 14 = .ok (.aload 4, 2)) ∧ (decode cX2_copy 16 = .ok (.if_acmp .ne 13, 3)) ∧ (decode cX2_copy 19 = .ok (.aload_n 0, 1)) ∧ (decode cX2_copy 20 = .ok (.aload 4, 2)) ∧ (decode cX2_copy 22 = .ok (.getfield 39, 3)) ∧ (decode cX2_copy 25 = .ok (.invokevirtual 54, 3)) ∧ (decode cX2_copy 28 = .ok (.ireturn, 1)) := by decide +kernel
theorem dX2_copy_0 : decode cX2_copy 0 = .ok (.aload_n 0, 1) := bX2_copy_0.1
theorem dX2_copy_1 : decode cX2_copy 1 = .ok (.iload_n 1, 1) := bX2_copy_0.2.1
theorem dX2_copy_2 : decode cX2_copy 2 = .ok (.invokevirtual 27, 3) := bX2_copy_0.2.2.1
theorem dX2_copy_5 : decode cX2_copy 5 = .ok (.astore_n 3, 1) := bX2_copy_0.2.2.2.1
theorem dX2_copy_6 : decode cX2_copy 6 = .ok (.aload_n 0, 1) := bX2_copy_0.2.2.2.2.1
theorem dX2_copy_7 : decode cX2_copy 7 = .ok (.iload_n 2, 1) := bX2_copy_0.2.2.2.2.2.1
theorem dX2_copy_8 : decode cX2_copy 8 = .ok (.invokevirtual 27, 3) := bX2_copy_0.2.2.2.2.2.2.1
theorem dX2_copy_11 : decode cX2_copy 11 = .ok (.astore 4, 2) := bX2_copy_0.2.2.2.2.2.2.2.1
theorem dX2_copy_13 : decode cX2_copy 13 = .ok (.aload_n 3, 1) := bX2_copy_0.2.2.2.2.2.2.2.2.1
theorem dX2_copy_14 : decode cX2_copy 14 = .ok (.aload 4, 2) := bX2_copy_0.2.2.2.2.2.2.2.2.2.1
theorem dX2_copy_16 : decode cX2_copy 16 = .ok (.if_acmp .ne 13, 3) := bX2_copy_0.2.2.2.2.2.2.2.2.2.2.1
theorem dX2_copy_19 : decode cX2_copy 19 = .ok (.aload_n 0, 1) := bX2_copy_0.2.2.2.2.2.2.2.2.2.2.2.1
theorem dX2_copy_20 : decode cX2_copy 20 = .ok (.aload 4, 2) := bX2_copy_0.2.2.2.2.2.2.2.2.2.2.2.2.1
theorem dX2_copy_22 : decode cX2_copy 22 = .ok (.getfield 39, 3) := bX2_copy_0.2.2.2.2.2.2.2.2.2.2.2.2.2.1
theorem dX2_copy_25 : decode cX2_copy 25 = .ok (.invokevirtual 54, 3) := bX2_copy_0.2.2.2.2.2.2.2.2.2.2.2.2.2.2.1
theorem dX2_copy_28 : decode cX2_copy 28 = .ok (.ireturn, 1) := bX2_copy_0.2.2.2.2.2.2.2.2.2.2.2.2.2.2.2
set_option maxRecDepth 100000 in
theorem bX2_copy_29 : (decode cX2_copy 29 = .ok (.aload_n 3, 1)) ∧ (decode cX2_copy 30 = .ok (.getfield 39, 3)) ∧ (decode cX2_copy 33 = .ok (.aload 4, 2)) ∧ (decode cX2_copy 35 = .ok (.invokevirtual 31, 3)) ∧ (decode cX2_copy 38 = .ok (.if_icmp .le 8, 3)) ∧ (decode cX2_copy 41 = .ok (.aload_n 0, 1)) ∧ (decode cX2_copy 42 = .ok (.invokevirtual 64, 3)) ∧ (decode cX2_copy 45 = .ok (.ireturn, 1)) ∧ (decode cX2_copy 46 = .ok (.aload 4, 2)) ∧ (decode cX2_copy 48 = .ok (.invokevirtual 43, 3)) ∧ (decode cX2_copy 51 = .ok (.aload_n 0, 1)) ∧ (decode cX2_copy 52 = .ok (.aload_n 3, 1)) ∧ (decode cX2_copy 53 = .ok (.aload 4, 2)) ∧ (decode cX2_copy 55 = .ok (.aload 4, 2)) ∧ (decode cX2_copy 57 = .ok (.getfield 123, 3)) ∧ (decode cX2_copy 60 = .ok (.invokevirtual 127, 3)) := by decide +kernel
theorem dX2_copy_29 : decode cX2_copy 29 = .ok (.aload_n 3, 1) := bX2_copy_29.1
theorem dX2_copy_30 : decode cX2_copy 30 = .ok (.getfield 39, 3) := bX2_copy_29.2.1
theorem dX2_copy_33 : decode cX2_copy 33 = .ok (.aload 4, 2) := bX2_copy_29.2.2.1
theorem dX2_copy_35 : decode cX2_copy 35 = .ok (.invokevirtual 31, 3) := bX2_copy_29.2.2.2.1
theorem dX2_copy_38 : decode cX2_copy 38 = .ok (.if_icmp .le 8, 3) := bX2_copy_29.2.2.2.2.1
theorem dX2_copy_41 : decode cX2_copy 41 = .ok (.aload_n 0, 1) := bX2_copy_29.2.2.2.2.2.1
theorem dX2_copy_42 : decode cX2_copy 42 = .ok (.invokevirtual 64, 3) := bX2_copy_29.2.2.2.2.2.2.1
theorem dX2_copy_45 : decode cX2_copy 45 = .ok (.ireturn, 1) := bX2_copy_29.2.2.2.2.2.2.2.1
theorem dX2_copy_46 : decode cX2_copy 46 = .ok (.aload 4, 2) := bX2_copy_29.2.2.2.2.2.2.2.2.1
theorem dX2_copy_48 : decode cX2_copy 48 = .ok (.invokevirtual 43, 3) := bX2_copy_29.2.2.2.2.2.2.2.2.2.1
theorem dX2_copy_51 : decode cX2_copy 51 = .ok (.aload_n 0, 1) := bX2_copy_29.2.2.2.2.2.2.2.2.2.2.1
theorem dX2_copy_52 : decode cX2_copy 52 = .ok (.aload_n 3, 1) := bX2_copy_29.2.2.2.2.2.2.2.2.2.2.2.1
theorem dX2_copy_53 : decode cX2_copy 53 = .ok (.aload 4, 2) := bX2_copy_29.2.2.2.2.2.2.2.2.2.2.2.2.1
theorem dX2_copy_55 : decode cX2_copy 55 = .ok (.aload 4, 2) := bX2_copy_29.2.2.2.2.2.2.2.2.2.2.2.2.2.1
theorem dX2_copy_57 : decode cX2_copy 57 = .ok (.getfield 123, 3) := bX2_copy_29.2.2.2.2.2.2.2.2.2.2.2.2.2.2.1
theorem dX2_copy_60 : decode cX2_copy 60 = .ok (.invokevirtual 127, 3) := bX2_copy_29.2.2.2.2.2.2.2.2.2.2.2.2.2.2.2
set_option maxRecDepth 100000 in
theorem bX2_copy_63 : (decode cX2_copy 63 = .ok (.aload_n 0, 1)) ∧ (decode cX2_copy 64 = .ok (.aload 4, 2)) ∧ (decode cX2_copy 66 = .ok (.getfield 39, 3)) ∧ (decode cX2_copy 69 = .ok (.invokevirtual 54, 3)) ∧ (decode cX2_copy 72 = .ok (.ireturn, 1)) := by decide +kernel
theorem dX2_copy_63 : decode cX2_copy 63 = .ok (.aload_n 0, 1) := bX2_copy_63.1
theorem dX2_copy_64 : decode cX2_copy 64 = .ok (.aload 4, 2) := bX2_copy_63.2.1
theorem dX2_copy_66 : decode cX2_copy 66 = .ok (.getfield 39, 3) := bX2_copy_63.2.2.1
theorem dX2_copy_69 : decode cX2_copy 69 = .ok (.invokevirtual 54, 3) := bX2_copy_63.2.2.2.1
theorem dX2_copy_72 : decode cX2_copy 72 = .ok (.ireturn, 1) := bX2_copy_63.2.2.2.2
set_option maxRecDepth 100000 in
theorem bX2_join_0 : (decode cX2_join 0 = .ok (.aload_n 0, 1)) ∧ (decode cX2_join 1 = .ok (.iload_n 1, 1)) ∧ (decode cX2_join 2 = .ok (.invokevirtual 27, 3)) ∧ (decode cX2_join 5 = .ok (.astore_n 3, 1)) ∧ (decode cX2_join 6 = .ok (.aload_n 0, 1)) ∧ (decode cX2_join 7 = .ok (.iload_n 2, 1)) ∧ (decode cX2_join 8 = .ok (.invokevirtual 27, 3)) ∧ (decode cX2_join 11 = .ok (.astore 4, 2)) ∧ (decode cX2_join 13 = .ok (.aload 4, 2)) ∧ (decode cX2_join 15 = .ok (.getfield 39, 3)) ∧ (decode cX2_join 18 = .ok (.aload_n 3, 1)) ∧ (decode cX2_join 19 = .ok (.invokevirtual 61, 3)) ∧ (decode cX2_join 22 = .ok (.if_icmp .le 8, 3)) ∧ (decode cX2_join 25 = .ok (.aload_n 0, 1)) ∧ (decode cX2_join 26 = .ok (.invokevirtual 64, 3)) ∧ (decode cX2_join 29 = .ok (.ireturn, 1)) := by decide +kernel
theorem dX2_join_0 : decode cX2_join 0 = .ok (.aload_n 0, 1) := bX2_join_0.1
theorem dX2_join_1 : decode cX2_join 1 = .ok (.iload_n 1, 1) := bX2_join_0.2.1
theorem dX2_join_2 : decode cX2_join 2 = .ok (.invokevirtual 27, 3) := bX2_join_0.2.2.1
theorem dX2_join_5 : decode cX2_join 5 = .ok (.astore_n 3, 1) := bX2_join_0.2.2.2.1
theorem dX2_join_6 : decode cX2_join 6 = .ok (.aload_n 0, 1) := bX2_join_0.2.2.2.2.1
theorem dX2_join_7 : decode cX2_join 7 = .ok (.iload_n 2, 1) := bX2_join_0.2.2.2.2.2.1
theorem dX2_join_8 : decode cX2_join 8 = .ok (.invokevirtual 27, 3) := bX2_join_0.2.2.2.2.2.2.1
theorem dX2_join_11 : decode cX2_join 11 = .ok (.astore 4, 2) := bX2_join_0.2.2.2.2.2.2.2.1
theorem dX2_join_13 : decode cX2_join 13 = .ok (.aload 4, 2) := bX2_join_0.2.2.2.2.2.2.2.2.1
theorem dX2_join_15 : decode cX2_join 15 = .ok (.getfield 39, 3) := bX2_join_0.2.2.2.2.2.2.2.2.2.1
theorem dX2_join_18 : decode cX2_join 18 = .ok (.aload_n 3, 1) := bX2_join_0.2.2.2.2.2.2.2.2.2.2.1
theorem dX2_join_19 : decode cX2_join 19 = .ok (.invokevirtual 61, 3) := bX2_join_0.2.2.2.2.2.2.2.2.2.2.2.1
theorem dX2_join_22 : decode cX2_join 22 = .ok (.if_icmp .le 8, 3) := bX2_join_0.2.2.2.2.2.2.2.2.2.2.2.2.1
theorem dX2_join_25 : decode cX2_join 25 = .ok (.aload_n 0, 1) := bX2_join_0.2.2.2.2.2.2.2.2.2.2.2.2.2.1
theorem dX2_join_26 : decode cX2_join 26 = .ok (.invokevirtual 64, 3) := bX2_join_0.2.2.2.2.2.2.2.2.2.2.2.2.2.2.1
theorem dX2_join_29 : decode cX2_join 29 = .ok (.ireturn, 1) := bX2_join_0.2.2.2.2.2.2.2.2.2.2.2.2.2.2.2
set_option maxRecDepth 100000 in
theorem bX2_join_30 : (decode cX2_join 30 = .ok (.aload_n 0, 1)) ∧ (decode cX2_join 31 = .ok (.aload 4, 2)) ∧ (decode cX2_join 33 = .ok (.aload_n 3, 1)) ∧ (decode cX2_join 34 = .ok (.aload_n 3, 1)) ∧ (decode cX2_join 35 = .ok (.getfield 123, 3)) ∧ (decode cX2_join 38 = .ok (.invokevirtual 127, 3)) ∧ (decode cX2_join 41 = .ok (.aload_n 0, 1)) ∧ (decode cX2_join 42 = .ok (.aload_n 3, 1)) ∧ (decode cX2_join 43 = .ok (.getfield 39, 3)) ∧ (decode cX2_join 46 = .ok (.invokevirtual 54, 3)) ∧ (decode cX2_join 49 = .ok (.ireturn, 1)) := by decide +kernel
theorem dX2_join_30 : decode cX2_join 30 = .ok (.aload_n 0, 1) := bX2_join_30.1
theorem dX2_join_31 : decode cX2_join 31 = .ok (.aload 4, 2) := bX2_join_30.2.1
theorem dX2_join_33 : decode cX2_join 33 = .ok (.aload_n 3, 1) := bX2_join_30.2.2.1
theorem dX2_join_34 : decode cX2_join 34 = .ok (.aload_n 3, 1) := bX2_join_30.2.2.2.1
theorem dX2_join_35 : decode cX2_join 35 = .ok (.getfield 123, 3) := bX2_join_30.2.2.2.2.1
theorem dX2_join_38 : decode cX2_join 38 = .ok (.invokevirtual 127, 3) := bX2_join_30.2.2.2.2.2.1
theorem dX2_join_41 : decode cX2_join 41 = .ok (.aload_n 0, 1) := bX2_join_30.2.2.2.2.2.2.1
theorem dX2_join_42 : decode cX2_join 42 = .ok (.aload_n 3, 1) := bX2_join_30.2.2.2.2.2.2.2.1
theorem dX2_join_43 : decode cX2_join 43 = .ok (.getfield 39, 3) := bX2_join_30.2.2.2.2.2.2.2.2.1
theorem dX2_join_46 : decode cX2_join 46 = .ok (.invokevirtual 54, 3) := bX2_join_30.2.2.2.2.2.2.2.2.2.1
theorem dX2_join_49 : decode cX2_join 49 = .ok (.ireturn, 1) := bX2_join_30.2.2.2.2.2.2.2.2.2.2
set_option maxRecDepth 100000 in
theorem bX2_merge_0 : (decode cX2_merge 0 = .ok (.aload_n 0, 1)) ∧ (decode cX2_merge 1 = .ok (.iload_n 1, 1)) ∧ (decode cX2_merge 2 = .ok (.invokevirtual 27, 3)) ∧ (decode cX2_merge 5 = .ok (.astore_n 3, 1)) ∧ (decode cX2_merge 6 = .ok (.aload_n 0, 1)) ∧ (decode cX2_merge 7 = .ok (.iload_n 2, 1)) ∧ (decode cX2_merge 8 = .ok (.invokevirtual 27, 3)) ∧ (decode cX2_merge 11 = .ok (.astore 4, 2)) ∧ (decode cX2_merge 13 = .ok (.aload_n 3, 1)) ∧ (decode cX2_merge 14 = .ok (.invokevirtual 131, 3)) ∧ (decode cX2_merge 17 = .ok (.ifCond .eq 23, 3)) ∧ (decode cX2_merge 20 = .ok (.aload 4, 2)) ∧ (decode cX2_merge 22 = .ok (.invokevirtual 131, 3)) ∧ (decode cX2_merge 25 = .ok (.ifCond .eq 15, 3)) ∧ (decode cX2_merge 28 = .ok (.aload 4, 2)) ∧ (decode cX2_merge 30 = .ok (.getfield 39, 3)) := by decide +kernel
theorem dX2_merge_0 : decode cX2_merge 0 = .ok (.aload_n 0, 1) := bX2_merge_0.1
theorem dX2_merge_1 : decode cX2_merge 1 = .ok (.iload_n 1, 1) := bX2_merge_0.2.1
theorem dX2_merge_2 : decode cX2_merge 2 = .ok (.invokevirtual 27, 3) := bX2_merge_0.2.2.1
theorem dX2_merge_5 : decode cX2_merge 5 = .ok (.astore_n 3, 1) := bX2_merge_0.2.2.2.1
theorem dX2_merge_6 : decode cX2_merge 6 = .ok (.aload_n 0, 1) := bX2_merge_0.2.2.2.2.1
theorem dX2_merge_7 : decode cX2_merge 7 = .ok (.iload_n 2, 1) := bX2_merge_0.2.2.2.2.2.1
theorem dX2_merge_8 : decode cX2_merge 8 = .ok (.invokevirtual 27, 3) := bX2_merge_0.2.2.2.2.2.2.1
theorem dX2_merge_11 : decode cX2_merge 11 = .ok (.astore 4, 2) := bX2_merge_0.2.2.2.2.2.2.2.1
theorem dX2_merge_13 : decode cX2_merge 13 = .ok (.aload_n 3, 1) := bX2_merge_0.2.2.2.2.2.2.2.2.1
theorem dX2_merge_14 : decode cX2_merge 14 = .ok (.invokevirtual 131, 3) := bX2_merge_0.2.2.2.2.2.2.2.2.2.1
theorem dX2_merge_17 : decode cX2_merge 17 = .ok (.ifCond .eq 23, 3) := bX2_merge_0.2.2.2.2.2.2.2.2.2.2.1
theorem dX2_merge_20 : decode cX2_merge 20 = .ok (.aload 4, 2) := bX2_merge_0.2.2.2.2.2.2.2.2.2.2.2.1
theorem dX2_merge_22 : decode cX2_merge 22 = .ok (.invokevirtual 131, 3) := bX2_merge_0.2.2.2.2.2.2.2.2.2.2.2.2.1
theorem dX2_merge_25 : decode cX2_merge 25 = .ok (.ifCond .eq 15, 3) := bX2_merge_0.2.2.2.2.2.2.2.2.2.2.2.2.2.1
theorem dX2_merge_28 : decode cX2_merge 28 = .ok (.aload 4, 2) := bX2_merge_0.2.2.2.2.2.2.2.2.2.2.2.2.2.2.1
theorem dX2_merge_30 : decode cX2_merge 30 = .ok (.getfield 39, 3) := bX2_merge_0.2.2.2.2.2.2.2.2.2.2.2.2.2.2.2
set_option maxRecDepth 100000 in
theorem bX2_merge_33 : (decode cX2_merge 33 = .ok (.aload_n 3, 1)) ∧ (decode cX2_merge 34 = .ok (.invokevirtual 61, 3)) ∧ (decode cX2_merge 37 = .ok (.if_icmp .le 8, 3)) ∧ (decode cX2_merge 40 = .ok (.aload_n 0, 1)) ∧ (decode cX2_merge 41 = .ok (.invokevirtual 64, 3)) ∧ (decode cX2_merge 44 = .ok (.ireturn, 1)) ∧ (decode cX2_merge 45 = .ok (.aload_n 0, 1)) ∧ (decode cX2_merge 46 = .ok (.getfield 23, 3)) ∧ (decode cX2_merge 49 = .ok (.getfield 135, 3)) ∧ (decode cX2_merge 52 = .ok (.aload_n 3, 1)) ∧ (decode cX2_merge 53 = .ok (.invokevirtual 94, 3)) ∧ (decode cX2_merge 56 = .ok (.aload_n 0, 1)) ∧ (decode cX2_merge 57 = .ok (.aload 4, 2)) ∧ (decode cX2_merge 59 = .ok (.aload_n 0, 1)) ∧ (decode cX2_merge 60 = .ok (.getfield 23, 3)) ∧ (decode cX2_merge 63 = .ok (.getfield 135, 3)) := by decide +kernel
theorem dX2_merge_33 : decode cX2_merge 33 = .ok (.aload_n 3, 1) := bX2_merge_33.1
theorem dX2_merge_34 : decode cX2_merge 34 = .ok (.invokevirtual 61, 3) := bX2_merge_33.2.1
theorem dX2_merge_37 : decode cX2_merge 37 = .ok (.if_icmp .le 8, 3) := bX2_merge_33.2.2.1
theorem dX2_merge_40 : decode cX2_merge 40 = .ok (.aload_n 0, 1) := bX2_merge_33.2.2.2.1
theorem dX2_merge_41 : decode cX2_merge 41 = .ok (.invokevirtual 64, 3) := bX2_merge_33.2.2.2.2.1
theorem dX2_merge_44 : decode cX2_merge 44 = .ok (.ireturn, 1) := bX2_merge_33.2.2.2.2.2.1
theorem dX2_merge_45 : decode cX2_merge 45 = .ok (.aload_n 0, 1) := bX2_merge_33.2.2.2.2.2.2.1
theorem dX2_merge_46 : decode cX2_merge 46 = .ok (.getfield 23, 3) := bX2_merge_33.2.2.2.2.2.2.2.1
theorem dX2_merge_49 : decode cX2_merge 49 = .ok (.getfield 135, 3) := bX2_merge_33.2.2.2.2.2.2.2.2.1
theorem dX2_merge_52 : decode cX2_merge 52 = .ok (.aload_n 3, 1) := bX2_merge_33.2.2.2.2.2.2.2.2.2.1
theorem dX2_merge_53 : decode cX2_merge 53 = .ok (.invokevirtual 94, 3) := bX2_merge_33.2.2.2.2.2.2.2.2.2.2.1
theorem dX2_merge_56 : decode cX2_merge 56 = .ok (.aload_n 0, 1) := bX2_merge_33.2.2.2.2.2.2.2.2.2.2.2.1
theorem dX2_merge_57 : decode cX2_merge 57 = .ok (.aload 4, 2) := bX2_merge_33.2.2.2.2.2.2.2.2.2.2.2.2.1
theorem dX2_merge_59 : decode cX2_merge 59 = .ok (.aload_n 0, 1) := bX2_merge_33.2.2.2.2.2.2.2.2.2.2.2.2.2.1
theorem dX2_merge_60 : decode cX2_merge 60 = .ok (.getfield 23, 3) := bX2_merge_33.2.2.2.2.2.2.2.2.2.2.2.2.2.2.1
theorem dX2_merge_63 : decode cX2_merge 63 = .ok (.getfield 135, 3) := bX2_merge_33.2.2.2.2.2.2.2.2.2.2.2.2.2.2.2
set_option maxRecDepth 100000 in
theorem bX2_merge_66 : (decode cX2_merge 66 = .ok (.aload_n 3, 1)) ∧ (decode cX2_merge 67 = .ok (.getfield 123, 3)) ∧ (decode cX2_merge 70 = .ok (.invokevirtual 127, 3)) ∧ (decode cX2_merge 73 = .ok (.aload_n 0, 1)) ∧ (decode cX2_merge 74 = .ok (.getfield 23, 3)) ∧ (decode cX2_merge 77 = .ok (.aload_n 3, 1)) ∧ (decode cX2_merge 78 = .ok (.getfield 39, 3)) ∧ (decode cX2_merge 81 = .ok (.invokevirtual 138, 3)) ∧ (decode cX2_merge 84 = .ok (.aload_n 3, 1)) ∧ (decode cX2_merge 85 = .ok (.aload_n 0, 1)) ∧ (decode cX2_merge 86 = .ok (.getfield 23, 3)) ∧ (decode cX2_merge 89 = .ok (.getfield 86, 3)) ∧ (decode cX2_merge 92 = .ok (.invokevirtual 94, 3)) ∧ (decode cX2_merge 95 = .ok (.aload_n 0, 1)) ∧ (decode cX2_merge 96 = .ok (.aload_n 3, 1)) ∧ (decode cX2_merge 97 = .ok (.getfield 39, 3)) := by decide +kernel
theorem dX2_merge_66 : decode cX2_merge 66 = .ok (.aload_n 3, 1) := bX2_merge_66.1
theorem dX2_merge_67 : decode cX2_merge 67 = .ok (.getfield 123, 3) := bX2_merge_66.2.1
theorem dX2_merge_70 : decode cX2_merge 70 = .ok (.invokevirtual 127, 3) := bX2_merge_66.2.2.1
theorem dX2_merge_73 : decode cX2_merge 73 = .ok (.aload_n 0, 1) := bX2_merge_66.2.2.2.1
theorem dX2_merge_74 : decode cX2_merge 74 = .ok (.getfield 23, 3) := bX2_merge_66.2.2.2.2.1
theorem dX2_merge_77 : decode cX2_merge 77 = .ok (.aload_n 3, 1) := bX2_merge_66.2.2.2.2.2.1
theorem dX2_merge_78 : decode cX2_merge 78 = .ok (.getfield 39, 3) := bX2_merge_66.2.2.2.2.2.2.1
theorem dX2_merge_81 : decode cX2_merge 81 = .ok (.invokevirtual 138, 3) := bX2_merge_66.2.2.2.2.2.2.2.1
theorem dX2_merge_84 : decode cX2_merge 84 = .ok (.aload_n 3, 1) := bX2_merge_66.2.2.2.2.2.2.2.2.1
theorem dX2_merge_85 : decode cX2_merge 85 = .ok (.aload_n 0, 1) := bX2_merge_66.2.2.2.2.2.2.2.2.2.1
theorem dX2_merge_86 : decode cX2_merge 86 = .ok (.getfield 23, 3) := bX2_merge_66.2.2.2.2.2.2.2.2.2.2.1
theorem dX2_merge_89 : decode cX2_merge 89 = .ok (.getfield 86, 3) := bX2_merge_66.2.2.2.2.2.2.2.2.2.2.2.1
theorem dX2_merge_92 : decode cX2_merge 92 = .ok (.invokevirtual 94, 3) := bX2_merge_66.2.2.2.2.2.2.2.2.2.2.2.2.1
theorem dX2_merge_95 : decode cX2_merge 95 = .ok (.aload_n 0, 1) := bX2_merge_66.2.2.2.2.2.2.2.2.2.2.2.2.2.1
theorem dX2_merge_96 : decode cX2_merge 96 = .ok (.aload_n 3, 1) := bX2_merge_66.2.2.2.2.2.2.2.2.2.2.2.2.2.2.1
theorem dX2_merge_97 : decode cX2_merge 97 = .ok (.getfield 39, 3) := bX2_merge_66.2.2.2.2.2.2.2.2.2.2.2.2.2.2.2
set_option maxRecDepth 100000 in
theorem bX2_merge_100 : (decode cX2_merge 100 = .ok (.invokevirtual 54, 3)) ∧ (decode cX2_merge 103 = .ok (.ireturn, 1)) := by decide +kernel
theorem dX2_merge_100 : decode cX2_merge 100 = .ok (.invokevirtual 54, 3) := bX2_merge_100.1
theorem dX2_merge_103 : decode cX2_merge 103 = .ok (.ireturn, 1) := bX2_merge_100.2
set_option maxRecDepth 100000 in
theorem bX2_many_0 : (decode cX2_many 0 = .ok (.aload_n 0, 1)) ∧ (decode cX2_many 1 = .ok (.iload_n 1, 1)) ∧ (decode cX2_many 2 = .ok (.invokevirtual 27, 3)) ∧ (decode cX2_many 5 = .ok (.getfield 39, 3)) ∧ (decode cX2_many 8 = .ok (.ireturn, 1)) := by decide +kernel
theorem dX2_many_0 : decode cX2_many 0 = .ok (.aload_n 0, 1) := bX2_many_0.1
theorem dX2_many_1 : decode cX2_many 1 = .ok (.iload_n 1, 1) := bX2_many_0.2.1
theorem dX2_many_2 : decode cX2_many 2 = .ok (.invokevirtual 27, 3) := bX2_many_0.2.2.1
theorem dX2_many_5 : decode cX2_many 5 = .ok (.getfield 39, 3) := bX2_many_0.2.2.2.1
theorem dX2_many_8 : decode cX2_many 8 = .ok (.ireturn, 1) := bX2_many_0.2.2.2.2
set_option maxRecDepth 100000 in
theorem bX2_key_0 : (decode cX2_key 0 = .ok (.aload_n 0, 1)) ∧ (decode cX2_key 1 = .ok (.iload_n 1, 1)) ∧ (decode cX2_key 2 = .ok (.invokevirtual 27, 3)) ∧ (decode cX2_key 5 = .ok (.astore_n 3, 1)) ∧ (decode cX2_key 6 = .ok (.aload_n 3, 1)) ∧ (decode cX2_key 7 = .ok (.iload_n 2, 1)) ∧ (decode cX2_key 8 = .ok (.invokestatic 75, 3)) ∧ (decode cX2_key 11 = .ok (.aload_n 3, 1)) ∧ (decode cX2_key 12 = .ok (.getfield 79, 3)) ∧ (decode cX2_key 15 = .ok (.iload_n 2, 1)) ∧ (decode cX2_key 16 = .ok (.iaload, 1)) ∧ (decode cX2_key 17 = .ok (.ireturn, 1)) := by decide +kernel
theorem dX2_key_0 : decode cX2_key 0 = .ok (.aload_n 0, 1) := bX2_key_0.1
theorem dX2_key_1 : decode cX2_key 1 = .ok (.iload_n 1, 1) := bX2_key_0.2.1
theorem dX2_key_2 : decode cX2_key 2 = .ok (.invokevirtual 27, 3) := bX2_key_0.2.2.1
theorem dX2_key_5 : decode cX2_key 5 = .ok (.astore_n 3, 1) := bX2_key_0.2.2.2.1
theorem dX2_key_6 : decode cX2_key 6 = .ok (.aload_n 3, 1) := bX2_key_0.2.2.2.2.1
theorem dX2_key_7 : decode cX2_key 7 = .ok (.iload_n 2, 1) := bX2_key_0.2.2.2.2.2.1
theorem dX2_key_8 : decode cX2_key 8 = .ok (.invokestatic 75, 3) := bX2_key_0.2.2.2.2.2.2.1
theorem dX2_key_11 : decode cX2_key 11 = .ok (.aload_n 3, 1) := bX2_key_0.2.2.2.2.2.2.2.1
theorem dX2_key_12 : decode cX2_key 12 = .ok (.getfield 79, 3) := bX2_key_0.2.2.2.2.2.2.2.2.1
theorem dX2_key_15 : decode cX2_key 15 = .ok (.iload_n 2, 1) := bX2_key_0.2.2.2.2.2.2.2.2.2.1
theorem dX2_key_16 : decode cX2_key 16 = .ok (.iaload, 1) := bX2_key_0.2.2.2.2.2.2.2.2.2.2.1
theorem dX2_key_17 : decode cX2_key 17 = .ok (.ireturn, 1) := bX2_key_0.2.2.2.2.2.2.2.2.2.2.2
set_option maxRecDepth 100000 in
theorem bX2_stamp_0 : (decode cX2_stamp 0 = .ok (.aload_n 0, 1)) ∧ (decode cX2_stamp 1 = .ok (.iload_n 1, 1)) ∧ (decode cX2_stamp 2 = .ok (.invokevirtual 27, 3)) ∧ (decode cX2_stamp 5 = .ok (.astore_n 3, 1)) ∧ (decode cX2_stamp 6 = .ok (.aload_n 3, 1)) ∧ (decode cX2_stamp 7 = .ok (.iload_n 2, 1)) ∧ (decode cX2_stamp 8 = .ok (.invokestatic 75, 3)) ∧ (decode cX2_stamp 11 = .ok (.aload_n 3, 1)) ∧ (decode cX2_stamp 12 = .ok (.getfield 83, 3)) ∧ (decode cX2_stamp 15 = .ok (.iload_n 2, 1)) ∧ (decode cX2_stamp 16 = .ok (.iaload, 1)) ∧ (decode cX2_stamp 17 = .ok (.ireturn, 1)) := by decide +kernel
theorem dX2_stamp_0 : decode cX2_stamp 0 = .ok (.aload_n 0, 1) := bX2_stamp_0.1
theorem dX2_stamp_1 : decode cX2_stamp 1 = .ok (.iload_n 1, 1) := bX2_stamp_0.2.1
theorem dX2_stamp_2 : decode cX2_stamp 2 = .ok (.invokevirtual 27, 3) := bX2_stamp_0.2.2.1
theorem dX2_stamp_5 : decode cX2_stamp 5 = .ok (.astore_n 3, 1) := bX2_stamp_0.2.2.2.1
theorem dX2_stamp_6 : decode cX2_stamp 6 = .ok (.aload_n 3, 1) := bX2_stamp_0.2.2.2.2.1
theorem dX2_stamp_7 : decode cX2_stamp 7 = .ok (.iload_n 2, 1) := bX2_stamp_0.2.2.2.2.2.1
theorem dX2_stamp_8 : decode cX2_stamp 8 = .ok (.invokestatic 75, 3) := bX2_stamp_0.2.2.2.2.2.2.1
theorem dX2_stamp_11 : decode cX2_stamp 11 = .ok (.aload_n 3, 1) := bX2_stamp_0.2.2.2.2.2.2.2.1
theorem dX2_stamp_12 : decode cX2_stamp 12 = .ok (.getfield 83, 3) := bX2_stamp_0.2.2.2.2.2.2.2.2.1
theorem dX2_stamp_15 : decode cX2_stamp 15 = .ok (.iload_n 2, 1) := bX2_stamp_0.2.2.2.2.2.2.2.2.2.1
theorem dX2_stamp_16 : decode cX2_stamp 16 = .ok (.iaload, 1) := bX2_stamp_0.2.2.2.2.2.2.2.2.2.2.1
theorem dX2_stamp_17 : decode cX2_stamp 17 = .ok (.ireturn, 1) := bX2_stamp_0.2.2.2.2.2.2.2.2.2.2.2
set_option maxRecDepth 100000 in
theorem bX2_rank_0 : (decode cX2_rank 0 = .ok (.aload_n 0, 1)) ∧ (decode cX2_rank 1 = .ok (.iload_n 1, 1)) ∧ (decode cX2_rank 2 = .ok (.invokevirtual 27, 3)) ∧ (decode cX2_rank 5 = .ok (.astore_n 3, 1)) ∧ (decode cX2_rank 6 = .ok (.aload_n 3, 1)) ∧ (decode cX2_rank 7 = .ok (.iload_n 2, 1)) ∧ (decode cX2_rank 8 = .ok (.invokestatic 75, 3)) ∧ (decode cX2_rank 11 = .ok (.aload_n 3, 1)) ∧ (decode cX2_rank 12 = .ok (.iload_n 2, 1)) ∧ (decode cX2_rank 13 = .ok (.invokevirtual 141, 3)) ∧ (decode cX2_rank 16 = .ok (.ireturn, 1)) := by decide +kernel
theorem dX2_rank_0 : decode cX2_rank 0 = .ok (.aload_n 0, 1) := bX2_rank_0.1
theorem dX2_rank_1 : decode cX2_rank 1 = .ok (.iload_n 1, 1) := bX2_rank_0.2.1
theorem dX2_rank_2 : decode cX2_rank 2 = .ok (.invokevirtual 27, 3) := bX2_rank_0.2.2.1
theorem dX2_rank_5 : decode cX2_rank 5 = .ok (.astore_n 3, 1) := bX2_rank_0.2.2.2.1
theorem dX2_rank_6 : decode cX2_rank 6 = .ok (.aload_n 3, 1) := bX2_rank_0.2.2.2.2.1
theorem dX2_rank_7 : decode cX2_rank 7 = .ok (.iload_n 2, 1) := bX2_rank_0.2.2.2.2.2.1
theorem dX2_rank_8 : decode cX2_rank 8 = .ok (.invokestatic 75, 3) := bX2_rank_0.2.2.2.2.2.2.1
theorem dX2_rank_11 : decode cX2_rank 11 = .ok (.aload_n 3, 1) := bX2_rank_0.2.2.2.2.2.2.2.1
theorem dX2_rank_12 : decode cX2_rank 12 = .ok (.iload_n 2, 1) := bX2_rank_0.2.2.2.2.2.2.2.2.1
theorem dX2_rank_13 : decode cX2_rank 13 = .ok (.invokevirtual 141, 3) := bX2_rank_0.2.2.2.2.2.2.2.2.2.1
theorem dX2_rank_16 : decode cX2_rank 16 = .ok (.ireturn, 1) := bX2_rank_0.2.2.2.2.2.2.2.2.2.2
set_option maxRecDepth 100000 in
theorem bX2_would_0 : (decode cX2_would 0 = .ok (.aload_n 0, 1)) ∧ (decode cX2_would 1 = .ok (.iload_n 1, 1)) ∧ (decode cX2_would 2 = .ok (.invokevirtual 27, 3)) ∧ (decode cX2_would 5 = .ok (.astore_n 3, 1)) ∧ (decode cX2_would 6 = .ok (.aload_n 3, 1)) ∧ (decode cX2_would 7 = .ok (.iload_n 2, 1)) ∧ (decode cX2_would 8 = .ok (.invokestatic 75, 3)) ∧ (decode cX2_would 11 = .ok (.aload_n 0, 1)) ∧ (decode cX2_would 12 = .ok (.getfield 23, 3)) ∧ (decode cX2_would 15 = .ok (.aload_n 3, 1)) ∧ (decode cX2_would 16 = .ok (.aload_n 0, 1)) ∧ (decode cX2_would 17 = .ok (.getfield 23, 3)) ∧ (decode cX2_would 20 = .ok (.getfield 113, 3)) ∧ (decode cX2_would 23 = .ok (.invokevirtual 116, 3)) ∧ (decode cX2_would 26 = .ok (.pop, 1)) ∧ (decode cX2_would 27 = .ok (.aload_n 0, 1)) := by decide +kernel
theorem dX2_would_0 : decode cX2_would 0 = .ok (.aload_n 0, 1) := bX2_would_0.1
theorem dX2_would_1 : decode cX2_would 1 = .ok (.iload_n 1, 1) := bX2_would_0.2.1
theorem dX2_would_2 : decode cX2_would 2 = .ok (.invokevirtual 27, 3) := bX2_would_0.2.2.1
theorem dX2_would_5 : decode cX2_would 5 = .ok (.astore_n 3, 1) := bX2_would_0.2.2.2.1
theorem dX2_would_6 : decode cX2_would 6 = .ok (.aload_n 3, 1) := bX2_would_0.2.2.2.2.1
theorem dX2_would_7 : decode cX2_would 7 = .ok (.iload_n 2, 1) := bX2_would_0.2.2.2.2.2.1
theorem dX2_would_8 : decode cX2_would 8 = .ok (.invokestatic 75, 3) := bX2_would_0.2.2.2.2.2.2.1
theorem dX2_would_11 : decode cX2_would 11 = .ok (.aload_n 0, 1) := bX2_would_0.2.2.2.2.2.2.2.1
theorem dX2_would_12 : decode cX2_would 12 = .ok (.getfield 23, 3) := bX2_would_0.2.2.2.2.2.2.2.2.1
theorem dX2_would_15 : decode cX2_would 15 = .ok (.aload_n 3, 1) := bX2_would_0.2.2.2.2.2.2.2.2.2.1
theorem dX2_would_16 : decode cX2_would 16 = .ok (.aload_n 0, 1) := bX2_would_0.2.2.2.2.2.2.2.2.2.2.1
theorem dX2_would_17 : decode cX2_would 17 = .ok (.getfield 23, 3) := bX2_would_0.2.2.2.2.2.2.2.2.2.2.2.1
theorem dX2_would_20 : decode cX2_would 20 = .ok (.getfield 113, 3) := bX2_would_0.2.2.2.2.2.2.2.2.2.2.2.2.1
theorem dX2_would_23 : decode cX2_would 23 = .ok (.invokevirtual 116, 3) := bX2_would_0.2.2.2.2.2.2.2.2.2.2.2.2.2.1
theorem dX2_would_26 : decode cX2_would 26 = .ok (.pop, 1) := bX2_would_0.2.2.2.2.2.2.2.2.2.2.2.2.2.2.1
theorem dX2_would_27 : decode cX2_would 27 = .ok (.aload_n 0, 1) := bX2_would_0.2.2.2.2.2.2.2.2.2.2.2.2.2.2.2
set_option maxRecDepth 100000 in
theorem bX2_would_28 : (decode cX2_would 28 = .ok (.getfield 23, 3)) ∧ (decode cX2_would 31 = .ok (.getfield 113, 3)) ∧ (decode cX2_would 34 = .ok (.getfield 79, 3)) ∧ (decode cX2_would 37 = .ok (.iload_n 2, 1)) ∧ (decode cX2_would 38 = .ok (.iaload, 1)) ∧ (decode cX2_would 39 = .ok (.ireturn, 1)) := by decide +kernel
theorem dX2_would_28 : decode cX2_would 28 = .ok (.getfield 23, 3) := bX2_would_28.1
theorem dX2_would_31 : decode cX2_would 31 = .ok (.getfield 113, 3) := bX2_would_28.2.1
theorem dX2_would_34 : decode cX2_would 34 = .ok (.getfield 79, 3) := bX2_would_28.2.2.1
theorem dX2_would_37 : decode cX2_would 37 = .ok (.iload_n 2, 1) := bX2_would_28.2.2.2.1
theorem dX2_would_38 : decode cX2_would 38 = .ok (.iaload, 1) := bX2_would_28.2.2.2.2.1
theorem dX2_would_39 : decode cX2_would 39 = .ok (.ireturn, 1) := bX2_would_28.2.2.2.2.2
set_option maxRecDepth 100000 in
theorem bX2_wouldStamp_0 : (decode cX2_wouldStamp 0 = .ok (.aload_n 0, 1)) ∧ (decode cX2_wouldStamp 1 = .ok (.iload_n 1, 1)) ∧ (decode cX2_wouldStamp 2 = .ok (.invokevirtual 27, 3)) ∧ (decode cX2_wouldStamp 5 = .ok (.astore_n 3, 1)) ∧ (decode cX2_wouldStamp 6 = .ok (.aload_n 3, 1)) ∧ (decode cX2_wouldStamp 7 = .ok (.iload_n 2, 1)) ∧ (decode cX2_wouldStamp 8 = .ok (.invokestatic 75, 3)) ∧ (decode cX2_wouldStamp 11 = .ok (.aload_n 0, 1)) ∧ (decode cX2_wouldStamp 12 = .ok (.getfield 23, 3)) ∧ (decode cX2_wouldStamp 15 = .ok (.aload_n 3, 1)) ∧ (decode cX2_wouldStamp 16 = .ok (.aload_n 0, 1)) ∧ (decode cX2_wouldStamp 17 = .ok (.getfield 23, 3)) ∧ (decode cX2_wouldStamp 20 = .ok (.getfield 113, 3)) ∧ (decode cX2_wouldStamp 23 = .ok (.invokevirtual 116, 3)) ∧ (decode cX2_wouldStamp 26 = .ok (.pop, 1)) ∧ (decode cX2_wouldStamp 27 = .ok (.aload_n 0, 1)) := by decide +kernel
theorem dX2_wouldStamp_0 : decode cX2_wouldStamp 0 = .ok (.aload_n 0, 1) := bX2_wouldStamp_0.1
theorem dX2_wouldStamp_1 : decode cX2_wouldStamp 1 = .ok (.iload_n 1, 1) := bX2_wouldStamp_0.2.1
theorem dX2_wouldStamp_2 : decode cX2_wouldStamp 2 = .ok (.invokevirtual 27, 3) := bX2_wouldStamp_0.2.2.1
theorem dX2_wouldStamp_5 : decode cX2_wouldStamp 5 = .ok (.astore_n 3, 1) := bX2_wouldStamp_0.2.2.2.1
theorem dX2_wouldStamp_6 : decode cX2_wouldStamp 6 = .ok (.aload_n 3, 1) := bX2_wouldStamp_0.2.2.2.2.1
theorem dX2_wouldStamp_7 : decode cX2_wouldStamp 7 = .ok (.iload_n 2, 1) := bX2_wouldStamp_0.2.2.2.2.2.1
theorem dX2_wouldStamp_8 : decode cX2_wouldStamp 8 = .ok (.invokestatic 75, 3) := bX2_wouldStamp_0.2.2.2.2.2.2.1
theorem dX2_wouldStamp_11 : decode cX2_wouldStamp 11 = .ok (.aload_n 0, 1) := bX2_wouldStamp_0.2.2.2.2.2.2.2.1
theorem dX2_wouldStamp_12 : decode cX2_wouldStamp 12 = .ok (.getfield 23, 3) := bX2_wouldStamp_0.2.2.2.2.2.2.2.2.1
theorem dX2_wouldStamp_15 : decode cX2_wouldStamp 15 = .ok (.aload_n 3, 1) := bX2_wouldStamp_0.2.2.2.2.2.2.2.2.2.1
theorem dX2_wouldStamp_16 : decode cX2_wouldStamp 16 = .ok (.aload_n 0, 1) := bX2_wouldStamp_0.2.2.2.2.2.2.2.2.2.2.1
theorem dX2_wouldStamp_17 : decode cX2_wouldStamp 17 = .ok (.getfield 23, 3) := bX2_wouldStamp_0.2.2.2.2.2.2.2.2.2.2.2.1
theorem dX2_wouldStamp_20 : decode cX2_wouldStamp 20 = .ok (.getfield 113, 3) := bX2_wouldStamp_0.2.2.2.2.2.2.2.2.2.2.2.2.1
theorem dX2_wouldStamp_23 : decode cX2_wouldStamp 23 = .ok (.invokevirtual 116, 3) := bX2_wouldStamp_0.2.2.2.2.2.2.2.2.2.2.2.2.2.1
theorem dX2_wouldStamp_26 : decode cX2_wouldStamp 26 = .ok (.pop, 1) := bX2_wouldStamp_0.2.2.2.2.2.2.2.2.2.2.2.2.2.2.1
theorem dX2_wouldStamp_27 : decode cX2_wouldStamp 27 = .ok (.aload_n 0, 1) := bX2_wouldStamp_0.2.2.2.2.2.2.2.2.2.2.2.2.2.2.2
set_option maxRecDepth 100000 in
theorem bX2_wouldStamp_28 : (decode cX2_wouldStamp 28 = .ok (.getfield 23, 3)) ∧ (decode cX2_wouldStamp 31 = .ok (.getfield 113, 3)) ∧ (decode cX2_wouldStamp 34 = .ok (.getfield 83, 3)) ∧ (decode cX2_wouldStamp 37 = .ok (.iload_n 2, 1)) ∧ (decode cX2_wouldStamp 38 = .ok (.iaload, 1)) ∧ (decode cX2_wouldStamp 39 = .ok (.ireturn, 1)) := by decide +kernel
theorem dX2_wouldStamp_28 : decode cX2_wouldStamp 28 = .ok (.getfield 23, 3) := bX2_wouldStamp_28.1
theorem dX2_wouldStamp_31 : decode cX2_wouldStamp 31 = .ok (.getfield 113, 3) := bX2_wouldStamp_28.2.1
theorem dX2_wouldStamp_34 : decode cX2_wouldStamp 34 = .ok (.getfield 83, 3) := bX2_wouldStamp_28.2.2.1
theorem dX2_wouldStamp_37 : decode cX2_wouldStamp 37 = .ok (.iload_n 2, 1) := bX2_wouldStamp_28.2.2.2.1
theorem dX2_wouldStamp_38 : decode cX2_wouldStamp 38 = .ok (.iaload, 1) := bX2_wouldStamp_28.2.2.2.2.1
theorem dX2_wouldStamp_39 : decode cX2_wouldStamp 39 = .ok (.ireturn, 1) := bX2_wouldStamp_28.2.2.2.2.2
set_option maxRecDepth 100000 in
theorem bX2_wrongAt_0 : (decode cX2_wrongAt 0 = .ok (.aload_n 0, 1)) ∧ (decode cX2_wrongAt 1 = .ok (.iload_n 1, 1)) ∧ (decode cX2_wrongAt 2 = .ok (.invokevirtual 27, 3)) ∧ (decode cX2_wrongAt 5 = .ok (.astore_n 3, 1)) ∧ (decode cX2_wrongAt 6 = .ok (.aload_n 3, 1)) ∧ (decode cX2_wrongAt 7 = .ok (.iload_n 2, 1)) ∧ (decode cX2_wrongAt 8 = .ok (.invokestatic 75, 3)) ∧ (decode cX2_wrongAt 11 = .ok (.aload_n 3, 1)) ∧ (decode cX2_wrongAt 12 = .ok (.iload_n 2, 1)) ∧ (decode cX2_wrongAt 13 = .ok (.invokevirtual 144, 3)) ∧ (decode cX2_wrongAt 16 = .ok (.ireturn, 1)) := by decide +kernel
theorem dX2_wrongAt_0 : decode cX2_wrongAt 0 = .ok (.aload_n 0, 1) := bX2_wrongAt_0.1
theorem dX2_wrongAt_1 : decode cX2_wrongAt 1 = .ok (.iload_n 1, 1) := bX2_wrongAt_0.2.1
theorem dX2_wrongAt_2 : decode cX2_wrongAt 2 = .ok (.invokevirtual 27, 3) := bX2_wrongAt_0.2.2.1
theorem dX2_wrongAt_5 : decode cX2_wrongAt 5 = .ok (.astore_n 3, 1) := bX2_wrongAt_0.2.2.2.1
theorem dX2_wrongAt_6 : decode cX2_wrongAt 6 = .ok (.aload_n 3, 1) := bX2_wrongAt_0.2.2.2.2.1
theorem dX2_wrongAt_7 : decode cX2_wrongAt 7 = .ok (.iload_n 2, 1) := bX2_wrongAt_0.2.2.2.2.2.1
theorem dX2_wrongAt_8 : decode cX2_wrongAt 8 = .ok (.invokestatic 75, 3) := bX2_wrongAt_0.2.2.2.2.2.2.1
theorem dX2_wrongAt_11 : decode cX2_wrongAt 11 = .ok (.aload_n 3, 1) := bX2_wrongAt_0.2.2.2.2.2.2.2.1
theorem dX2_wrongAt_12 : decode cX2_wrongAt 12 = .ok (.iload_n 2, 1) := bX2_wrongAt_0.2.2.2.2.2.2.2.2.1
theorem dX2_wrongAt_13 : decode cX2_wrongAt 13 = .ok (.invokevirtual 144, 3) := bX2_wrongAt_0.2.2.2.2.2.2.2.2.2.1
theorem dX2_wrongAt_16 : decode cX2_wrongAt 16 = .ok (.ireturn, 1) := bX2_wrongAt_0.2.2.2.2.2.2.2.2.2.2
set_option maxRecDepth 100000 in
theorem bX2_after_0 : (decode cX2_after 0 = .ok (.aload_n 0, 1)) ∧ (decode cX2_after 1 = .ok (.iload_n 1, 1)) ∧ (decode cX2_after 2 = .ok (.invokevirtual 27, 3)) ∧ (decode cX2_after 5 = .ok (.astore_n 3, 1)) ∧ (decode cX2_after 6 = .ok (.aload_n 3, 1)) ∧ (decode cX2_after 7 = .ok (.iload_n 2, 1)) ∧ (decode cX2_after 8 = .ok (.invokestatic 98, 3)) ∧ (decode cX2_after 11 = .ok (.aload_n 0, 1)) ∧ (decode cX2_after 12 = .ok (.getfield 23, 3)) ∧ (decode cX2_after 15 = .ok (.aload_n 3, 1)) ∧ (decode cX2_after 16 = .ok (.aload_n 0, 1)) ∧ (decode cX2_after 17 = .ok (.getfield 23, 3)) ∧ (decode cX2_after 20 = .ok (.getfield 113, 3)) ∧ (decode cX2_after 23 = .ok (.invokevirtual 116, 3)) ∧ (decode cX2_after 26 = .ok (.aload_n 3, 1)) ∧ (decode cX2_after 27 = .ok (.iload_n 2, 1)) := by decide +kernel
theorem dX2_after_0 : decode cX2_after 0 = .ok (.aload_n 0, 1) := bX2_after_0.1
theorem dX2_after_1 : decode cX2_after 1 = .ok (.iload_n 1, 1) := bX2_after_0.2.1
theorem dX2_after_2 : decode cX2_after 2 = .ok (.invokevirtual 27, 3) := bX2_after_0.2.2.1
theorem dX2_after_5 : decode cX2_after 5 = .ok (.astore_n 3, 1) := bX2_after_0.2.2.2.1
theorem dX2_after_6 : decode cX2_after 6 = .ok (.aload_n 3, 1) := bX2_after_0.2.2.2.2.1
theorem dX2_after_7 : decode cX2_after 7 = .ok (.iload_n 2, 1) := bX2_after_0.2.2.2.2.2.1
theorem dX2_after_8 : decode cX2_after 8 = .ok (.invokestatic 98, 3) := bX2_after_0.2.2.2.2.2.2.1
theorem dX2_after_11 : decode cX2_after 11 = .ok (.aload_n 0, 1) := bX2_after_0.2.2.2.2.2.2.2.1
theorem dX2_after_12 : decode cX2_after 12 = .ok (.getfield 23, 3) := bX2_after_0.2.2.2.2.2.2.2.2.1
theorem dX2_after_15 : decode cX2_after 15 = .ok (.aload_n 3, 1) := bX2_after_0.2.2.2.2.2.2.2.2.2.1
theorem dX2_after_16 : decode cX2_after 16 = .ok (.aload_n 0, 1) := bX2_after_0.2.2.2.2.2.2.2.2.2.2.1
theorem dX2_after_17 : decode cX2_after 17 = .ok (.getfield 23, 3) := bX2_after_0.2.2.2.2.2.2.2.2.2.2.2.1
theorem dX2_after_20 : decode cX2_after 20 = .ok (.getfield 113, 3) := bX2_after_0.2.2.2.2.2.2.2.2.2.2.2.2.1
theorem dX2_after_23 : decode cX2_after 23 = .ok (.invokevirtual 116, 3) := bX2_after_0.2.2.2.2.2.2.2.2.2.2.2.2.2.1
theorem dX2_after_26 : decode cX2_after 26 = .ok (.aload_n 3, 1) := bX2_after_0.2.2.2.2.2.2.2.2.2.2.2.2.2.2.1
theorem dX2_after_27 : decode cX2_after 27 = .ok (.iload_n 2, 1) := bX2_after_0.2.2.2.2.2.2.2.2.2.2.2.2.2.2.2
set_option maxRecDepth 100000 in
theorem bX2_after_28 : (decode cX2_after 28 = .ok (.invokevirtual 101, 3)) ∧ (decode cX2_after 31 = .ok (.iadd, 1)) ∧ (decode cX2_after 32 = .ok (.ireturn, 1)) := by decide +kernel
theorem dX2_after_28 : decode cX2_after 28 = .ok (.invokevirtual 101, 3) := bX2_after_28.1
theorem dX2_after_31 : decode cX2_after 31 = .ok (.iadd, 1) := bX2_after_28.2.1
theorem dX2_after_32 : decode cX2_after 32 = .ok (.ireturn, 1) := bX2_after_28.2.2
set_option maxRecDepth 100000 in
theorem bX2_runAt_0 : (decode cX2_runAt 0 = .ok (.aload_n 0, 1)) ∧ (decode cX2_runAt 1 = .ok (.iload_n 1, 1)) ∧ (decode cX2_runAt 2 = .ok (.invokevirtual 27, 3)) ∧ (decode cX2_runAt 5 = .ok (.astore_n 3, 1)) ∧ (decode cX2_runAt 6 = .ok (.aload_n 3, 1)) ∧ (decode cX2_runAt 7 = .ok (.iload_n 2, 1)) ∧ (decode cX2_runAt 8 = .ok (.invokestatic 75, 3)) ∧ (decode cX2_runAt 11 = .ok (.aload_n 3, 1)) ∧ (decode cX2_runAt 12 = .ok (.iload_n 2, 1)) ∧ (decode cX2_runAt 13 = .ok (.invokevirtual 147, 3)) ∧ (decode cX2_runAt 16 = .ok (.iload_n 2, 1)) ∧ (decode cX2_runAt 17 = .ok (.isub, 1)) ∧ (decode cX2_runAt 18 = .ok (.ireturn, 1)) := by decide +kernel
theorem dX2_runAt_0 : decode cX2_runAt 0 = .ok (.aload_n 0, 1) := bX2_runAt_0.1
theorem dX2_runAt_1 : decode cX2_runAt 1 = .ok (.iload_n 1, 1) := bX2_runAt_0.2.1
theorem dX2_runAt_2 : decode cX2_runAt 2 = .ok (.invokevirtual 27, 3) := bX2_runAt_0.2.2.1
theorem dX2_runAt_5 : decode cX2_runAt 5 = .ok (.astore_n 3, 1) := bX2_runAt_0.2.2.2.1
theorem dX2_runAt_6 : decode cX2_runAt 6 = .ok (.aload_n 3, 1) := bX2_runAt_0.2.2.2.2.1
theorem dX2_runAt_7 : decode cX2_runAt 7 = .ok (.iload_n 2, 1) := bX2_runAt_0.2.2.2.2.2.1
theorem dX2_runAt_8 : decode cX2_runAt 8 = .ok (.invokestatic 75, 3) := bX2_runAt_0.2.2.2.2.2.2.1
theorem dX2_runAt_11 : decode cX2_runAt 11 = .ok (.aload_n 3, 1) := bX2_runAt_0.2.2.2.2.2.2.2.1
theorem dX2_runAt_12 : decode cX2_runAt 12 = .ok (.iload_n 2, 1) := bX2_runAt_0.2.2.2.2.2.2.2.2.1
theorem dX2_runAt_13 : decode cX2_runAt 13 = .ok (.invokevirtual 147, 3) := bX2_runAt_0.2.2.2.2.2.2.2.2.2.1
theorem dX2_runAt_16 : decode cX2_runAt 16 = .ok (.iload_n 2, 1) := bX2_runAt_0.2.2.2.2.2.2.2.2.2.2.1
theorem dX2_runAt_17 : decode cX2_runAt 17 = .ok (.isub, 1) := bX2_runAt_0.2.2.2.2.2.2.2.2.2.2.2.1
theorem dX2_runAt_18 : decode cX2_runAt 18 = .ok (.ireturn, 1) := bX2_runAt_0.2.2.2.2.2.2.2.2.2.2.2.2
set_option maxRecDepth 100000 in
theorem bX2_text_0 : (decode cX2_text 0 = .ok (.aload_n 0, 1)) ∧ (decode cX2_text 1 = .ok (.iload_n 1, 1)) ∧ (decode cX2_text 2 = .ok (.invokevirtual 27, 3)) ∧ (decode cX2_text 5 = .ok (.astore 4, 2)) ∧ (decode cX2_text 7 = .ok (.iload_n 2, 1)) ∧ (decode cX2_text 8 = .ok (.ifCond .lt 16, 3)) ∧ (decode cX2_text 11 = .ok (.iload_n 2, 1)) ∧ (decode cX2_text 12 = .ok (.aload 4, 2)) ∧ (decode cX2_text 14 = .ok (.getfield 39, 3)) ∧ (decode cX2_text 17 = .ok (.if_icmp .gt 7, 3)) ∧ (decode cX2_text 20 = .ok (.iconst 1, 1)) ∧ (decode cX2_text 21 = .ok (.goto 4, 3)) ∧ (decode cX2_text 24 = .ok (.iconst 0, 1)) ∧ (decode cX2_text 25 = .ok (.invokestatic 110, 3)) ∧ (decode cX2_text 28 = .ok (.iload_n 3, 1)) ∧ (decode cX2_text 29 = .ok (.ifCond .lt 13, 3)) := by decide +kernel
theorem dX2_text_0 : decode cX2_text 0 = .ok (.aload_n 0, 1) := bX2_text_0.1
theorem dX2_text_1 : decode cX2_text 1 = .ok (.iload_n 1, 1) := bX2_text_0.2.1
theorem dX2_text_2 : decode cX2_text 2 = .ok (.invokevirtual 27, 3) := bX2_text_0.2.2.1
theorem dX2_text_5 : decode cX2_text 5 = .ok (.astore 4, 2) := bX2_text_0.2.2.2.1
theorem dX2_text_7 : decode cX2_text 7 = .ok (.iload_n 2, 1) := bX2_text_0.2.2.2.2.1
theorem dX2_text_8 : decode cX2_text 8 = .ok (.ifCond .lt 16, 3) := bX2_text_0.2.2.2.2.2.1
theorem dX2_text_11 : decode cX2_text 11 = .ok (.iload_n 2, 1) := bX2_text_0.2.2.2.2.2.2.1
theorem dX2_text_12 : decode cX2_text 12 = .ok (.aload 4, 2) := bX2_text_0.2.2.2.2.2.2.2.1
theorem dX2_text_14 : decode cX2_text 14 = .ok (.getfield 39, 3) := bX2_text_0.2.2.2.2.2.2.2.2.1
theorem dX2_text_17 : decode cX2_text 17 = .ok (.if_icmp .gt 7, 3) := bX2_text_0.2.2.2.2.2.2.2.2.2.1
theorem dX2_text_20 : decode cX2_text 20 = .ok (.iconst 1, 1) := bX2_text_0.2.2.2.2.2.2.2.2.2.2.1
theorem dX2_text_21 : decode cX2_text 21 = .ok (.goto 4, 3) := bX2_text_0.2.2.2.2.2.2.2.2.2.2.2.1
theorem dX2_text_24 : decode cX2_text 24 = .ok (.iconst 0, 1) := bX2_text_0.2.2.2.2.2.2.2.2.2.2.2.2.1
theorem dX2_text_25 : decode cX2_text 25 = .ok (.invokestatic 110, 3) := bX2_text_0.2.2.2.2.2.2.2.2.2.2.2.2.2.1
theorem dX2_text_28 : decode cX2_text 28 = .ok (.iload_n 3, 1) := bX2_text_0.2.2.2.2.2.2.2.2.2.2.2.2.2.2.1
theorem dX2_text_29 : decode cX2_text 29 = .ok (.ifCond .lt 13, 3) := bX2_text_0.2.2.2.2.2.2.2.2.2.2.2.2.2.2.2
set_option maxRecDepth 100000 in
theorem bX2_text_32 : (decode cX2_text 32 = .ok (.iload_n 3, 1)) ∧ (decode cX2_text 33 = .ok (.bipush 20, 2)) ∧ (decode cX2_text 35 = .ok (.if_icmp .gt 7, 3)) ∧ (decode cX2_text 38 = .ok (.iconst 1, 1)) ∧ (decode cX2_text 39 = .ok (.goto 4, 3)) ∧ (decode cX2_text 42 = .ok (.iconst 0, 1)) ∧ (decode cX2_text 43 = .ok (.invokestatic 35, 3)) ∧ (decode cX2_text 46 = .ok (.iload_n 2, 1)) ∧ (decode cX2_text 47 = .ok (.iload_n 3, 1)) ∧ (decode cX2_text 48 = .ok (.iadd, 1)) ∧ (decode cX2_text 49 = .ok (.aload 4, 2)) ∧ (decode cX2_text 51 = .ok (.getfield 39, 3)) ∧ (decode cX2_text 54 = .ok (.invokestatic 150, 3)) ∧ (decode cX2_text 57 = .ok (.istore 5, 2)) ∧ (decode cX2_text 59 = .ok (.new 156, 3)) ∧ (decode cX2_text 62 = .ok (.dup, 1)) := by decide +kernel
theorem dX2_text_32 : decode cX2_text 32 = .ok (.iload_n 3, 1) := bX2_text_32.1
theorem dX2_text_33 : decode cX2_text 33 = .ok (.bipush 20, 2) := bX2_text_32.2.1
theorem dX2_text_35 : decode cX2_text 35 = .ok (.if_icmp .gt 7, 3) := bX2_text_32.2.2.1
theorem dX2_text_38 : decode cX2_text 38 = .ok (.iconst 1, 1) := bX2_text_32.2.2.2.1
theorem dX2_text_39 : decode cX2_text 39 = .ok (.goto 4, 3) := bX2_text_32.2.2.2.2.1
theorem dX2_text_42 : decode cX2_text 42 = .ok (.iconst 0, 1) := bX2_text_32.2.2.2.2.2.1
theorem dX2_text_43 : decode cX2_text 43 = .ok (.invokestatic 35, 3) := bX2_text_32.2.2.2.2.2.2.1
theorem dX2_text_46 : decode cX2_text 46 = .ok (.iload_n 2, 1) := bX2_text_32.2.2.2.2.2.2.2.1
theorem dX2_text_47 : decode cX2_text 47 = .ok (.iload_n 3, 1) := bX2_text_32.2.2.2.2.2.2.2.2.1
theorem dX2_text_48 : decode cX2_text 48 = .ok (.iadd, 1) := bX2_text_32.2.2.2.2.2.2.2.2.2.1
theorem dX2_text_49 : decode cX2_text 49 = .ok (.aload 4, 2) := bX2_text_32.2.2.2.2.2.2.2.2.2.2.1
theorem dX2_text_51 : decode cX2_text 51 = .ok (.getfield 39, 3) := bX2_text_32.2.2.2.2.2.2.2.2.2.2.2.1
theorem dX2_text_54 : decode cX2_text 54 = .ok (.invokestatic 150, 3) := bX2_text_32.2.2.2.2.2.2.2.2.2.2.2.2.1
theorem dX2_text_57 : decode cX2_text 57 = .ok (.istore 5, 2) := bX2_text_32.2.2.2.2.2.2.2.2.2.2.2.2.2.1
theorem dX2_text_59 : decode cX2_text 59 = .ok (.new 156, 3) := bX2_text_32.2.2.2.2.2.2.2.2.2.2.2.2.2.2.1
theorem dX2_text_62 : decode cX2_text 62 = .ok (.dup, 1) := bX2_text_32.2.2.2.2.2.2.2.2.2.2.2.2.2.2.2
set_option maxRecDepth 100000 in
theorem bX2_text_63 : (decode cX2_text 63 = .ok (.invokespecial 158, 3)) ∧ (decode cX2_text 66 = .ok (.astore 6, 2)) ∧ (decode cX2_text 68 = .ok (.iload_n 2, 1)) ∧ (decode cX2_text 69 = .ok (.istore 7, 2)) ∧ (decode cX2_text 71 = .ok (.iload 7, 2)) ∧ (decode cX2_text 73 = .ok (.iload 5, 2)) ∧ (decode cX2_text 75 = .ok (.if_icmp .ge 37, 3)) ∧ (decode cX2_text 78 = .ok (.iload 7, 2)) ∧ (decode cX2_text 80 = .ok (.iload_n 2, 1)) ∧ (decode cX2_text 81 = .ok (.if_icmp .le 11, 3)) ∧ (decode cX2_text 84 = .ok (.aload 6, 2)) ∧ (decode cX2_text 86 = .ok (.bipush 32, 2)) ∧ (decode cX2_text 88 = .ok (.invokevirtual 159, 3)) ∧ (decode cX2_text 91 = .ok (.pop, 1)) ∧ (decode cX2_text 92 = .ok (.aload 6, 2)) ∧ (decode cX2_text 94 = .ok (.aload 4, 2)) := by decide +kernel
theorem dX2_text_63 : decode cX2_text 63 = .ok (.invokespecial 158, 3) := bX2_text_63.1
theorem dX2_text_66 : decode cX2_text 66 = .ok (.astore 6, 2) := bX2_text_63.2.1
theorem dX2_text_68 : decode cX2_text 68 = .ok (.iload_n 2, 1) := bX2_text_63.2.2.1
theorem dX2_text_69 : decode cX2_text 69 = .ok (.istore 7, 2) := bX2_text_63.2.2.2.1
theorem dX2_text_71 : decode cX2_text 71 = .ok (.iload 7, 2) := bX2_text_63.2.2.2.2.1
theorem dX2_text_73 : decode cX2_text 73 = .ok (.iload 5, 2) := bX2_text_63.2.2.2.2.2.1
theorem dX2_text_75 : decode cX2_text 75 = .ok (.if_icmp .ge 37, 3) := bX2_text_63.2.2.2.2.2.2.1
theorem dX2_text_78 : decode cX2_text 78 = .ok (.iload 7, 2) := bX2_text_63.2.2.2.2.2.2.2.1
theorem dX2_text_80 : decode cX2_text 80 = .ok (.iload_n 2, 1) := bX2_text_63.2.2.2.2.2.2.2.2.1
theorem dX2_text_81 : decode cX2_text 81 = .ok (.if_icmp .le 11, 3) := bX2_text_63.2.2.2.2.2.2.2.2.2.1
theorem dX2_text_84 : decode cX2_text 84 = .ok (.aload 6, 2) := bX2_text_63.2.2.2.2.2.2.2.2.2.2.1
theorem dX2_text_86 : decode cX2_text 86 = .ok (.bipush 32, 2) := bX2_text_63.2.2.2.2.2.2.2.2.2.2.2.1
theorem dX2_text_88 : decode cX2_text 88 = .ok (.invokevirtual 159, 3) := bX2_text_63.2.2.2.2.2.2.2.2.2.2.2.2.1
theorem dX2_text_91 : decode cX2_text 91 = .ok (.pop, 1) := bX2_text_63.2.2.2.2.2.2.2.2.2.2.2.2.2.1
theorem dX2_text_92 : decode cX2_text 92 = .ok (.aload 6, 2) := bX2_text_63.2.2.2.2.2.2.2.2.2.2.2.2.2.2.1
theorem dX2_text_94 : decode cX2_text 94 = .ok (.aload 4, 2) := bX2_text_63.2.2.2.2.2.2.2.2.2.2.2.2.2.2.2
set_option maxRecDepth 100000 in
theorem bX2_text_96 : (decode cX2_text 96 = .ok (.getfield 79, 3)) ∧ (decode cX2_text 99 = .ok (.iload 7, 2)) ∧ (decode cX2_text 101 = .ok (.iaload, 1)) ∧ (decode cX2_text 102 = .ok (.invokevirtual 162, 3)) ∧ (decode cX2_text 105 = .ok (.pop, 1)) ∧ (decode cX2_text 106 = .ok (.iinc 7 1, 3)) ∧ (decode cX2_text 109 = .ok (.goto (-38), 3)) ∧ (decode cX2_text 112 = .ok (.aload 6, 2)) ∧ (decode cX2_text 114 = .ok (.invokevirtual 165, 3)) ∧ (decode cX2_text 117 = .ok (.areturn, 1)) := by decide +kernel
theorem dX2_text_96 : decode cX2_text 96 = .ok (.getfield 79, 3) := bX2_text_96.1
theorem dX2_text_99 : decode cX2_text 99 = .ok (.iload 7, 2) := bX2_text_96.2.1
theorem dX2_text_101 : decode cX2_text 101 = .ok (.iaload, 1) := bX2_text_96.2.2.1
theorem dX2_text_102 : decode cX2_text 102 = .ok (.invokevirtual 162, 3) := bX2_text_96.2.2.2.1
theorem dX2_text_105 : decode cX2_text 105 = .ok (.pop, 1) := bX2_text_96.2.2.2.2.1
theorem dX2_text_106 : decode cX2_text 106 = .ok (.iinc 7 1, 3) := bX2_text_96.2.2.2.2.2.1
theorem dX2_text_109 : decode cX2_text 109 = .ok (.goto (-38), 3) := bX2_text_96.2.2.2.2.2.2.1
theorem dX2_text_112 : decode cX2_text 112 = .ok (.aload 6, 2) := bX2_text_96.2.2.2.2.2.2.2.1
theorem dX2_text_114 : decode cX2_text 114 = .ok (.invokevirtual 165, 3) := bX2_text_96.2.2.2.2.2.2.2.2.1
theorem dX2_text_117 : decode cX2_text 117 = .ok (.areturn, 1) := bX2_text_96.2.2.2.2.2.2.2.2.2
set_option maxRecDepth 100000 in
theorem bX2_isSorted_0 : (decode cX2_isSorted 0 = .ok (.aload_n 0, 1)) ∧ (decode cX2_isSorted 1 = .ok (.iload_n 1, 1)) ∧ (decode cX2_isSorted 2 = .ok (.invokevirtual 27, 3)) ∧ (decode cX2_isSorted 5 = .ok (.invokevirtual 131, 3)) ∧ (decode cX2_isSorted 8 = .ok (.ireturn, 1)) := by decide +kernel
theorem dX2_isSorted_0 : decode cX2_isSorted 0 = .ok (.aload_n 0, 1) := bX2_isSorted_0.1
theorem dX2_isSorted_1 : decode cX2_isSorted 1 = .ok (.iload_n 1, 1) := bX2_isSorted_0.2.1
theorem dX2_isSorted_2 : decode cX2_isSorted 2 = .ok (.invokevirtual 27, 3) := bX2_isSorted_0.2.2.1
theorem dX2_isSorted_5 : decode cX2_isSorted 5 = .ok (.invokevirtual 131, 3) := bX2_isSorted_0.2.2.2.1
theorem dX2_isSorted_8 : decode cX2_isSorted 8 = .ok (.ireturn, 1) := bX2_isSorted_0.2.2.2.2
set_option maxRecDepth 100000 in
theorem bX2_isFalling_0 : (decode cX2_isFalling 0 = .ok (.aload_n 0, 1)) ∧ (decode cX2_isFalling 1 = .ok (.iload_n 1, 1)) ∧ (decode cX2_isFalling 2 = .ok (.invokevirtual 27, 3)) ∧ (decode cX2_isFalling 5 = .ok (.invokevirtual 169, 3)) ∧ (decode cX2_isFalling 8 = .ok (.ireturn, 1)) := by decide +kernel
theorem dX2_isFalling_0 : decode cX2_isFalling 0 = .ok (.aload_n 0, 1) := bX2_isFalling_0.1
theorem dX2_isFalling_1 : decode cX2_isFalling 1 = .ok (.iload_n 1, 1) := bX2_isFalling_0.2.1
theorem dX2_isFalling_2 : decode cX2_isFalling 2 = .ok (.invokevirtual 27, 3) := bX2_isFalling_0.2.2.1
theorem dX2_isFalling_5 : decode cX2_isFalling 5 = .ok (.invokevirtual 169, 3) := bX2_isFalling_0.2.2.2.1
theorem dX2_isFalling_8 : decode cX2_isFalling 8 = .ok (.ireturn, 1) := bX2_isFalling_0.2.2.2.2
set_option maxRecDepth 100000 in
theorem bX2_isKept_0 : (decode cX2_isKept 0 = .ok (.aload_n 0, 1)) ∧ (decode cX2_isKept 1 = .ok (.iload_n 1, 1)) ∧ (decode cX2_isKept 2 = .ok (.invokevirtual 27, 3)) ∧ (decode cX2_isKept 5 = .ok (.invokevirtual 172, 3)) ∧ (decode cX2_isKept 8 = .ok (.ireturn, 1)) := by decide +kernel
theorem dX2_isKept_0 : decode cX2_isKept 0 = .ok (.aload_n 0, 1) := bX2_isKept_0.1
theorem dX2_isKept_1 : decode cX2_isKept 1 = .ok (.iload_n 1, 1) := bX2_isKept_0.2.1
theorem dX2_isKept_2 : decode cX2_isKept 2 = .ok (.invokevirtual 27, 3) := bX2_isKept_0.2.2.1
theorem dX2_isKept_5 : decode cX2_isKept 5 = .ok (.invokevirtual 172, 3) := bX2_isKept_0.2.2.2.1
theorem dX2_isKept_8 : decode cX2_isKept 8 = .ok (.ireturn, 1) := bX2_isKept_0.2.2.2.2
set_option maxRecDepth 100000 in
theorem bX2_wrong_0 : (decode cX2_wrong 0 = .ok (.aload_n 0, 1)) ∧ (decode cX2_wrong 1 = .ok (.iload_n 1, 1)) ∧ (decode cX2_wrong 2 = .ok (.invokevirtual 27, 3)) ∧ (decode cX2_wrong 5 = .ok (.astore_n 3, 1)) ∧ (decode cX2_wrong 6 = .ok (.iload_n 2, 1)) ∧ (decode cX2_wrong 7 = .ok (.ifCond .eq 8, 3)) ∧ (decode cX2_wrong 10 = .ok (.iload_n 2, 1)) ∧ (decode cX2_wrong 11 = .ok (.iconst 1, 1)) ∧ (decode cX2_wrong 12 = .ok (.if_icmp .ne 7, 3)) ∧ (decode cX2_wrong 15 = .ok (.iconst 1, 1)) ∧ (decode cX2_wrong 16 = .ok (.goto 4, 3)) ∧ (decode cX2_wrong 19 = .ok (.iconst 0, 1)) ∧ (decode cX2_wrong 20 = .ok (.invokestatic 35, 3)) ∧ (decode cX2_wrong 23 = .ok (.iload_n 2, 1)) ∧ (decode cX2_wrong 24 = .ok (.ifCond .ne 21, 3)) ∧ (decode cX2_wrong 27 = .ok (.aload_n 0, 1)) := by decide +kernel
theorem dX2_wrong_0 : decode cX2_wrong 0 = .ok (.aload_n 0, 1) := bX2_wrong_0.1
theorem dX2_wrong_1 : decode cX2_wrong 1 = .ok (.iload_n 1, 1) := bX2_wrong_0.2.1
theorem dX2_wrong_2 : decode cX2_wrong 2 = .ok (.invokevirtual 27, 3) := bX2_wrong_0.2.2.1
theorem dX2_wrong_5 : decode cX2_wrong 5 = .ok (.astore_n 3, 1) := bX2_wrong_0.2.2.2.1
theorem dX2_wrong_6 : decode cX2_wrong 6 = .ok (.iload_n 2, 1) := bX2_wrong_0.2.2.2.2.1
theorem dX2_wrong_7 : decode cX2_wrong 7 = .ok (.ifCond .eq 8, 3) := bX2_wrong_0.2.2.2.2.2.1
theorem dX2_wrong_10 : decode cX2_wrong 10 = .ok (.iload_n 2, 1) := bX2_wrong_0.2.2.2.2.2.2.1
theorem dX2_wrong_11 : decode cX2_wrong 11 = .ok (.iconst 1, 1) := bX2_wrong_0.2.2.2.2.2.2.2.1
theorem dX2_wrong_12 : decode cX2_wrong 12 = .ok (.if_icmp .ne 7, 3) := bX2_wrong_0.2.2.2.2.2.2.2.2.1
theorem dX2_wrong_15 : decode cX2_wrong 15 = .ok (.iconst 1, 1) := bX2_wrong_0.2.2.2.2.2.2.2.2.2.1
theorem dX2_wrong_16 : decode cX2_wrong 16 = .ok (.goto 4, 3) := bX2_wrong_0.2.2.2.2.2.2.2.2.2.2.1
theorem dX2_wrong_19 : decode cX2_wrong 19 = .ok (.iconst 0, 1) := bX2_wrong_0.2.2.2.2.2.2.2.2.2.2.2.1
theorem dX2_wrong_20 : decode cX2_wrong 20 = .ok (.invokestatic 35, 3) := bX2_wrong_0.2.2.2.2.2.2.2.2.2.2.2.2.1
theorem dX2_wrong_23 : decode cX2_wrong 23 = .ok (.iload_n 2, 1) := bX2_wrong_0.2.2.2.2.2.2.2.2.2.2.2.2.2.1
theorem dX2_wrong_24 : decode cX2_wrong 24 = .ok (.ifCond .ne 21, 3) := bX2_wrong_0.2.2.2.2.2.2.2.2.2.2.2.2.2.2.1
theorem dX2_wrong_27 : decode cX2_wrong 27 = .ok (.aload_n 0, 1) := bX2_wrong_0.2.2.2.2.2.2.2.2.2.2.2.2.2.2.2
set_option maxRecDepth 100000 in
theorem bX2_wrong_28 : (decode cX2_wrong 28 = .ok (.getfield 23, 3)) ∧ (decode cX2_wrong 31 = .ok (.aload_n 3, 1)) ∧ (decode cX2_wrong 32 = .ok (.aload_n 0, 1)) ∧ (decode cX2_wrong 33 = .ok (.getfield 23, 3)) ∧ (decode cX2_wrong 36 = .ok (.getfield 113, 3)) ∧ (decode cX2_wrong 39 = .ok (.invokevirtual 116, 3)) ∧ (decode cX2_wrong 42 = .ok (.goto 7, 3)) ∧ (decode cX2_wrong 45 = .ok (.aload_n 3, 1)) ∧ (decode cX2_wrong 46 = .ok (.invokevirtual 175, 3)) ∧ (decode cX2_wrong 49 = .ok (.ireturn, 1)) := by decide +kernel
theorem dX2_wrong_28 : decode cX2_wrong 28 = .ok (.getfield 23, 3) := bX2_wrong_28.1
theorem dX2_wrong_31 : decode cX2_wrong 31 = .ok (.aload_n 3, 1) := bX2_wrong_28.2.1
theorem dX2_wrong_32 : decode cX2_wrong 32 = .ok (.aload_n 0, 1) := bX2_wrong_28.2.2.1
theorem dX2_wrong_33 : decode cX2_wrong 33 = .ok (.getfield 23, 3) := bX2_wrong_28.2.2.2.1
theorem dX2_wrong_36 : decode cX2_wrong 36 = .ok (.getfield 113, 3) := bX2_wrong_28.2.2.2.2.1
theorem dX2_wrong_39 : decode cX2_wrong 39 = .ok (.invokevirtual 116, 3) := bX2_wrong_28.2.2.2.2.2.1
theorem dX2_wrong_42 : decode cX2_wrong 42 = .ok (.goto 7, 3) := bX2_wrong_28.2.2.2.2.2.2.1
theorem dX2_wrong_45 : decode cX2_wrong 45 = .ok (.aload_n 3, 1) := bX2_wrong_28.2.2.2.2.2.2.2.1
theorem dX2_wrong_46 : decode cX2_wrong 46 = .ok (.invokevirtual 175, 3) := bX2_wrong_28.2.2.2.2.2.2.2.2.1
theorem dX2_wrong_49 : decode cX2_wrong 49 = .ok (.ireturn, 1) := bX2_wrong_28.2.2.2.2.2.2.2.2.2
set_option maxRecDepth 100000 in
theorem bX2_right_0 : (decode cX2_right 0 = .ok (.aload_n 0, 1)) ∧ (decode cX2_right 1 = .ok (.iload_n 1, 1)) ∧ (decode cX2_right 2 = .ok (.invokevirtual 27, 3)) ∧ (decode cX2_right 5 = .ok (.invokevirtual 178, 3)) ∧ (decode cX2_right 8 = .ok (.ireturn, 1)) := by decide +kernel
theorem dX2_right_0 : decode cX2_right 0 = .ok (.aload_n 0, 1) := bX2_right_0.1
theorem dX2_right_1 : decode cX2_right 1 = .ok (.iload_n 1, 1) := bX2_right_0.2.1
theorem dX2_right_2 : decode cX2_right 2 = .ok (.invokevirtual 27, 3) := bX2_right_0.2.2.1
theorem dX2_right_5 : decode cX2_right 5 = .ok (.invokevirtual 178, 3) := bX2_right_0.2.2.2.1
theorem dX2_right_8 : decode cX2_right 8 = .ok (.ireturn, 1) := bX2_right_0.2.2.2.2
set_option maxRecDepth 100000 in
theorem bX2_ties_0 : (decode cX2_ties 0 = .ok (.aload_n 0, 1)) ∧ (decode cX2_ties 1 = .ok (.getfield 23, 3)) ∧ (decode cX2_ties 4 = .ok (.aload_n 0, 1)) ∧ (decode cX2_ties 5 = .ok (.iload_n 1, 1)) ∧ (decode cX2_ties 6 = .ok (.invokevirtual 27, 3)) ∧ (decode cX2_ties 9 = .ok (.aload_n 0, 1)) ∧ (decode cX2_ties 10 = .ok (.getfield 23, 3)) ∧ (decode cX2_ties 13 = .ok (.getfield 113, 3)) ∧ (decode cX2_ties 16 = .ok (.invokevirtual 116, 3)) ∧ (decode cX2_ties 19 = .ok (.pop, 1)) ∧ (decode cX2_ties 20 = .ok (.aload_n 0, 1)) ∧ (decode cX2_ties 21 = .ok (.getfield 23, 3)) ∧ (decode cX2_ties 24 = .ok (.getfield 113, 3)) ∧ (decode cX2_ties 27 = .ok (.invokevirtual 181, 3)) ∧ (decode cX2_ties 30 = .ok (.ireturn, 1)) := by decide +kernel
theorem dX2_ties_0 : decode cX2_ties 0 = .ok (.aload_n 0, 1) := bX2_ties_0.1
theorem dX2_ties_1 : decode cX2_ties 1 = .ok (.getfield 23, 3) := bX2_ties_0.2.1
theorem dX2_ties_4 : decode cX2_ties 4 = .ok (.aload_n 0, 1) := bX2_ties_0.2.2.1
theorem dX2_ties_5 : decode cX2_ties 5 = .ok (.iload_n 1, 1) := bX2_ties_0.2.2.2.1
theorem dX2_ties_6 : decode cX2_ties 6 = .ok (.invokevirtual 27, 3) := bX2_ties_0.2.2.2.2.1
theorem dX2_ties_9 : decode cX2_ties 9 = .ok (.aload_n 0, 1) := bX2_ties_0.2.2.2.2.2.1
theorem dX2_ties_10 : decode cX2_ties 10 = .ok (.getfield 23, 3) := bX2_ties_0.2.2.2.2.2.2.1
theorem dX2_ties_13 : decode cX2_ties 13 = .ok (.getfield 113, 3) := bX2_ties_0.2.2.2.2.2.2.2.1
theorem dX2_ties_16 : decode cX2_ties 16 = .ok (.invokevirtual 116, 3) := bX2_ties_0.2.2.2.2.2.2.2.2.1
theorem dX2_ties_19 : decode cX2_ties 19 = .ok (.pop, 1) := bX2_ties_0.2.2.2.2.2.2.2.2.2.1
theorem dX2_ties_20 : decode cX2_ties 20 = .ok (.aload_n 0, 1) := bX2_ties_0.2.2.2.2.2.2.2.2.2.2.1
theorem dX2_ties_21 : decode cX2_ties 21 = .ok (.getfield 23, 3) := bX2_ties_0.2.2.2.2.2.2.2.2.2.2.2.1
theorem dX2_ties_24 : decode cX2_ties 24 = .ok (.getfield 113, 3) := bX2_ties_0.2.2.2.2.2.2.2.2.2.2.2.2.1
theorem dX2_ties_27 : decode cX2_ties 27 = .ok (.invokevirtual 181, 3) := bX2_ties_0.2.2.2.2.2.2.2.2.2.2.2.2.2.1
theorem dX2_ties_30 : decode cX2_ties 30 = .ok (.ireturn, 1) := bX2_ties_0.2.2.2.2.2.2.2.2.2.2.2.2.2.2
set_option maxRecDepth 100000 in
theorem bX2_runs_0 : (decode cX2_runs 0 = .ok (.aload_n 0, 1)) ∧ (decode cX2_runs 1 = .ok (.iload_n 1, 1)) ∧ (decode cX2_runs 2 = .ok (.invokevirtual 27, 3)) ∧ (decode cX2_runs 5 = .ok (.invokevirtual 184, 3)) ∧ (decode cX2_runs 8 = .ok (.ireturn, 1)) := by decide +kernel
theorem dX2_runs_0 : decode cX2_runs 0 = .ok (.aload_n 0, 1) := bX2_runs_0.1
theorem dX2_runs_1 : decode cX2_runs 1 = .ok (.iload_n 1, 1) := bX2_runs_0.2.1
theorem dX2_runs_2 : decode cX2_runs 2 = .ok (.invokevirtual 27, 3) := bX2_runs_0.2.2.1
theorem dX2_runs_5 : decode cX2_runs 5 = .ok (.invokevirtual 184, 3) := bX2_runs_0.2.2.2.1
theorem dX2_runs_8 : decode cX2_runs 8 = .ok (.ireturn, 1) := bX2_runs_0.2.2.2.2
set_option maxRecDepth 100000 in
theorem bX2_longest_0 : (decode cX2_longest 0 = .ok (.aload_n 0, 1)) ∧ (decode cX2_longest 1 = .ok (.iload_n 1, 1)) ∧ (decode cX2_longest 2 = .ok (.invokevirtual 27, 3)) ∧ (decode cX2_longest 5 = .ok (.invokevirtual 187, 3)) ∧ (decode cX2_longest 8 = .ok (.ireturn, 1)) := by decide +kernel
theorem dX2_longest_0 : decode cX2_longest 0 = .ok (.aload_n 0, 1) := bX2_longest_0.1
theorem dX2_longest_1 : decode cX2_longest 1 = .ok (.iload_n 1, 1) := bX2_longest_0.2.1
theorem dX2_longest_2 : decode cX2_longest 2 = .ok (.invokevirtual 27, 3) := bX2_longest_0.2.2.1
theorem dX2_longest_5 : decode cX2_longest 5 = .ok (.invokevirtual 187, 3) := bX2_longest_0.2.2.2.1
theorem dX2_longest_8 : decode cX2_longest 8 = .ok (.ireturn, 1) := bX2_longest_0.2.2.2.2
set_option maxRecDepth 100000 in
theorem bX2_count_0 : (decode cX2_count 0 = .ok (.aload_n 0, 1)) ∧ (decode cX2_count 1 = .ok (.iload_n 1, 1)) ∧ (decode cX2_count 2 = .ok (.invokevirtual 27, 3)) ∧ (decode cX2_count 5 = .ok (.astore_n 3, 1)) ∧ (decode cX2_count 6 = .ok (.iload_n 2, 1)) ∧ (decode cX2_count 7 = .ok (.invokestatic 58, 3)) ∧ (decode cX2_count 10 = .ok (.aload_n 3, 1)) ∧ (decode cX2_count 11 = .ok (.iload_n 2, 1)) ∧ (decode cX2_count 12 = .ok (.invokevirtual 190, 3)) ∧ (decode cX2_count 15 = .ok (.ireturn, 1)) := by decide +kernel
theorem dX2_count_0 : decode cX2_count 0 = .ok (.aload_n 0, 1) := bX2_count_0.1
theorem dX2_count_1 : decode cX2_count 1 = .ok (.iload_n 1, 1) := bX2_count_0.2.1
theorem dX2_count_2 : decode cX2_count 2 = .ok (.invokevirtual 27, 3) := bX2_count_0.2.2.1
theorem dX2_count_5 : decode cX2_count 5 = .ok (.astore_n 3, 1) := bX2_count_0.2.2.2.1
theorem dX2_count_6 : decode cX2_count 6 = .ok (.iload_n 2, 1) := bX2_count_0.2.2.2.2.1
theorem dX2_count_7 : decode cX2_count 7 = .ok (.invokestatic 58, 3) := bX2_count_0.2.2.2.2.2.1
theorem dX2_count_10 : decode cX2_count 10 = .ok (.aload_n 3, 1) := bX2_count_0.2.2.2.2.2.2.1
theorem dX2_count_11 : decode cX2_count 11 = .ok (.iload_n 2, 1) := bX2_count_0.2.2.2.2.2.2.2.1
theorem dX2_count_12 : decode cX2_count 12 = .ok (.invokevirtual 190, 3) := bX2_count_0.2.2.2.2.2.2.2.2.1
theorem dX2_count_15 : decode cX2_count 15 = .ok (.ireturn, 1) := bX2_count_0.2.2.2.2.2.2.2.2.2
set_option maxRecDepth 100000 in
theorem bX2_below_0 : (decode cX2_below 0 = .ok (.aload_n 0, 1)) ∧ (decode cX2_below 1 = .ok (.iload_n 1, 1)) ∧ (decode cX2_below 2 = .ok (.invokevirtual 27, 3)) ∧ (decode cX2_below 5 = .ok (.astore_n 3, 1)) ∧ (decode cX2_below 6 = .ok (.iload_n 2, 1)) ∧ (decode cX2_below 7 = .ok (.invokestatic 58, 3)) ∧ (decode cX2_below 10 = .ok (.aload_n 3, 1)) ∧ (decode cX2_below 11 = .ok (.iload_n 2, 1)) ∧ (decode cX2_below 12 = .ok (.invokevirtual 193, 3)) ∧ (decode cX2_below 15 = .ok (.ireturn, 1)) := by decide +kernel
theorem dX2_below_0 : decode cX2_below 0 = .ok (.aload_n 0, 1) := bX2_below_0.1
theorem dX2_below_1 : decode cX2_below 1 = .ok (.iload_n 1, 1) := bX2_below_0.2.1
theorem dX2_below_2 : decode cX2_below 2 = .ok (.invokevirtual 27, 3) := bX2_below_0.2.2.1
theorem dX2_below_5 : decode cX2_below 5 = .ok (.astore_n 3, 1) := bX2_below_0.2.2.2.1
theorem dX2_below_6 : decode cX2_below 6 = .ok (.iload_n 2, 1) := bX2_below_0.2.2.2.2.1
theorem dX2_below_7 : decode cX2_below 7 = .ok (.invokestatic 58, 3) := bX2_below_0.2.2.2.2.2.1
theorem dX2_below_10 : decode cX2_below 10 = .ok (.aload_n 3, 1) := bX2_below_0.2.2.2.2.2.2.1
theorem dX2_below_11 : decode cX2_below 11 = .ok (.iload_n 2, 1) := bX2_below_0.2.2.2.2.2.2.2.1
theorem dX2_below_12 : decode cX2_below 12 = .ok (.invokevirtual 193, 3) := bX2_below_0.2.2.2.2.2.2.2.2.1
theorem dX2_below_15 : decode cX2_below 15 = .ok (.ireturn, 1) := bX2_below_0.2.2.2.2.2.2.2.2.2
set_option maxRecDepth 100000 in
theorem bX2_first_0 : (decode cX2_first 0 = .ok (.aload_n 0, 1)) ∧ (decode cX2_first 1 = .ok (.iload_n 1, 1)) ∧ (decode cX2_first 2 = .ok (.invokevirtual 27, 3)) ∧ (decode cX2_first 5 = .ok (.astore 4, 2)) ∧ (decode cX2_first 7 = .ok (.iload_n 2, 1)) ∧ (decode cX2_first 8 = .ok (.invokestatic 58, 3)) ∧ (decode cX2_first 11 = .ok (.iload_n 3, 1)) ∧ (decode cX2_first 12 = .ok (.ifCond .eq 12, 3)) ∧ (decode cX2_first 15 = .ok (.aload 4, 2)) ∧ (decode cX2_first 17 = .ok (.iload_n 2, 1)) ∧ (decode cX2_first 18 = .ok (.invokevirtual 196, 3)) ∧ (decode cX2_first 21 = .ok (.goto 9, 3)) ∧ (decode cX2_first 24 = .ok (.aload 4, 2)) ∧ (decode cX2_first 26 = .ok (.iload_n 2, 1)) ∧ (decode cX2_first 27 = .ok (.invokevirtual 199, 3)) ∧ (decode cX2_first 30 = .ok (.ireturn, 1)) := by decide +kernel
theorem dX2_first_0 : decode cX2_first 0 = .ok (.aload_n 0, 1) := bX2_first_0.1
theorem dX2_first_1 : decode cX2_first 1 = .ok (.iload_n 1, 1) := bX2_first_0.2.1
theorem dX2_first_2 : decode cX2_first 2 = .ok (.invokevirtual 27, 3) := bX2_first_0.2.2.1
theorem dX2_first_5 : decode cX2_first 5 = .ok (.astore 4, 2) := bX2_first_0.2.2.2.1
theorem dX2_first_7 : decode cX2_first 7 = .ok (.iload_n 2, 1) := bX2_first_0.2.2.2.2.1
theorem dX2_first_8 : decode cX2_first 8 = .ok (.invokestatic 58, 3) := bX2_first_0.2.2.2.2.2.1
theorem dX2_first_11 : decode cX2_first 11 = .ok (.iload_n 3, 1) := bX2_first_0.2.2.2.2.2.2.1
theorem dX2_first_12 : decode cX2_first 12 = .ok (.ifCond .eq 12, 3) := bX2_first_0.2.2.2.2.2.2.2.1
theorem dX2_first_15 : decode cX2_first 15 = .ok (.aload 4, 2) := bX2_first_0.2.2.2.2.2.2.2.2.1
theorem dX2_first_17 : decode cX2_first 17 = .ok (.iload_n 2, 1) := bX2_first_0.2.2.2.2.2.2.2.2.2.1
theorem dX2_first_18 : decode cX2_first 18 = .ok (.invokevirtual 196, 3) := bX2_first_0.2.2.2.2.2.2.2.2.2.2.1
theorem dX2_first_21 : decode cX2_first 21 = .ok (.goto 9, 3) := bX2_first_0.2.2.2.2.2.2.2.2.2.2.2.1
theorem dX2_first_24 : decode cX2_first 24 = .ok (.aload 4, 2) := bX2_first_0.2.2.2.2.2.2.2.2.2.2.2.2.1
theorem dX2_first_26 : decode cX2_first 26 = .ok (.iload_n 2, 1) := bX2_first_0.2.2.2.2.2.2.2.2.2.2.2.2.2.1
theorem dX2_first_27 : decode cX2_first 27 = .ok (.invokevirtual 199, 3) := bX2_first_0.2.2.2.2.2.2.2.2.2.2.2.2.2.2.1
theorem dX2_first_30 : decode cX2_first 30 = .ok (.ireturn, 1) := bX2_first_0.2.2.2.2.2.2.2.2.2.2.2.2.2.2.2
set_option maxRecDepth 100000 in
theorem bX2_end_0 : (decode cX2_end 0 = .ok (.aload_n 0, 1)) ∧ (decode cX2_end 1 = .ok (.iload_n 1, 1)) ∧ (decode cX2_end 2 = .ok (.invokevirtual 27, 3)) ∧ (decode cX2_end 5 = .ok (.astore_n 3, 1)) ∧ (decode cX2_end 6 = .ok (.iload_n 2, 1)) ∧ (decode cX2_end 7 = .ok (.ifCond .eq 10, 3)) ∧ (decode cX2_end 10 = .ok (.aload_n 3, 1)) ∧ (decode cX2_end 11 = .ok (.invokevirtual 202, 3)) ∧ (decode cX2_end 14 = .ok (.goto 7, 3)) ∧ (decode cX2_end 17 = .ok (.aload_n 3, 1)) ∧ (decode cX2_end 18 = .ok (.invokevirtual 205, 3)) ∧ (decode cX2_end 21 = .ok (.ireturn, 1)) := by decide +kernel
theorem dX2_end_0 : decode cX2_end 0 = .ok (.aload_n 0, 1) := bX2_end_0.1
theorem dX2_end_1 : decode cX2_end 1 = .ok (.iload_n 1, 1) := bX2_end_0.2.1
theorem dX2_end_2 : decode cX2_end 2 = .ok (.invokevirtual 27, 3) := bX2_end_0.2.2.1
theorem dX2_end_5 : decode cX2_end 5 = .ok (.astore_n 3, 1) := bX2_end_0.2.2.2.1
theorem dX2_end_6 : decode cX2_end 6 = .ok (.iload_n 2, 1) := bX2_end_0.2.2.2.2.1
theorem dX2_end_7 : decode cX2_end 7 = .ok (.ifCond .eq 10, 3) := bX2_end_0.2.2.2.2.2.1
theorem dX2_end_10 : decode cX2_end 10 = .ok (.aload_n 3, 1) := bX2_end_0.2.2.2.2.2.2.1
theorem dX2_end_11 : decode cX2_end 11 = .ok (.invokevirtual 202, 3) := bX2_end_0.2.2.2.2.2.2.2.1
theorem dX2_end_14 : decode cX2_end 14 = .ok (.goto 7, 3) := bX2_end_0.2.2.2.2.2.2.2.2.1
theorem dX2_end_17 : decode cX2_end 17 = .ok (.aload_n 3, 1) := bX2_end_0.2.2.2.2.2.2.2.2.2.1
theorem dX2_end_18 : decode cX2_end 18 = .ok (.invokevirtual 205, 3) := bX2_end_0.2.2.2.2.2.2.2.2.2.2.1
theorem dX2_end_21 : decode cX2_end 21 = .ok (.ireturn, 1) := bX2_end_0.2.2.2.2.2.2.2.2.2.2.2
set_option maxRecDepth 100000 in
theorem bX2_unlike_0 : (decode cX2_unlike 0 = .ok (.aload_n 0, 1)) ∧ (decode cX2_unlike 1 = .ok (.getfield 23, 3)) ∧ (decode cX2_unlike 4 = .ok (.aload_n 0, 1)) ∧ (decode cX2_unlike 5 = .ok (.iload_n 1, 1)) ∧ (decode cX2_unlike 6 = .ok (.invokevirtual 27, 3)) ∧ (decode cX2_unlike 9 = .ok (.aload_n 0, 1)) ∧ (decode cX2_unlike 10 = .ok (.getfield 23, 3)) ∧ (decode cX2_unlike 13 = .ok (.getfield 113, 3)) ∧ (decode cX2_unlike 16 = .ok (.invokevirtual 116, 3)) ∧ (decode cX2_unlike 19 = .ok (.pop, 1)) ∧ (decode cX2_unlike 20 = .ok (.aload_n 0, 1)) ∧ (decode cX2_unlike 21 = .ok (.getfield 23, 3)) ∧ (decode cX2_unlike 24 = .ok (.getfield 113, 3)) ∧ (decode cX2_unlike 27 = .ok (.invokevirtual 208, 3)) ∧ (decode cX2_unlike 30 = .ok (.ireturn, 1)) := by decide +kernel
theorem dX2_unlike_0 : decode cX2_unlike 0 = .ok (.aload_n 0, 1) := bX2_unlike_0.1
theorem dX2_unlike_1 : decode cX2_unlike 1 = .ok (.getfield 23, 3) := bX2_unlike_0.2.1
theorem dX2_unlike_4 : decode cX2_unlike 4 = .ok (.aload_n 0, 1) := bX2_unlike_0.2.2.1
theorem dX2_unlike_5 : decode cX2_unlike 5 = .ok (.iload_n 1, 1) := bX2_unlike_0.2.2.2.1
theorem dX2_unlike_6 : decode cX2_unlike 6 = .ok (.invokevirtual 27, 3) := bX2_unlike_0.2.2.2.2.1
theorem dX2_unlike_9 : decode cX2_unlike 9 = .ok (.aload_n 0, 1) := bX2_unlike_0.2.2.2.2.2.1
theorem dX2_unlike_10 : decode cX2_unlike 10 = .ok (.getfield 23, 3) := bX2_unlike_0.2.2.2.2.2.2.1
theorem dX2_unlike_13 : decode cX2_unlike 13 = .ok (.getfield 113, 3) := bX2_unlike_0.2.2.2.2.2.2.2.1
theorem dX2_unlike_16 : decode cX2_unlike 16 = .ok (.invokevirtual 116, 3) := bX2_unlike_0.2.2.2.2.2.2.2.2.1
theorem dX2_unlike_19 : decode cX2_unlike 19 = .ok (.pop, 1) := bX2_unlike_0.2.2.2.2.2.2.2.2.2.1
theorem dX2_unlike_20 : decode cX2_unlike 20 = .ok (.aload_n 0, 1) := bX2_unlike_0.2.2.2.2.2.2.2.2.2.2.1
theorem dX2_unlike_21 : decode cX2_unlike 21 = .ok (.getfield 23, 3) := bX2_unlike_0.2.2.2.2.2.2.2.2.2.2.2.1
theorem dX2_unlike_24 : decode cX2_unlike 24 = .ok (.getfield 113, 3) := bX2_unlike_0.2.2.2.2.2.2.2.2.2.2.2.2.1
theorem dX2_unlike_27 : decode cX2_unlike 27 = .ok (.invokevirtual 208, 3) := bX2_unlike_0.2.2.2.2.2.2.2.2.2.2.2.2.2.1
theorem dX2_unlike_30 : decode cX2_unlike 30 = .ok (.ireturn, 1) := bX2_unlike_0.2.2.2.2.2.2.2.2.2.2.2.2.2.2
set_option maxRecDepth 100000 in
theorem bX2_most_0 : (decode cX2_most 0 = .ok (.aload_n 0, 1)) ∧ (decode cX2_most 1 = .ok (.getfield 23, 3)) ∧ (decode cX2_most 4 = .ok (.aload_n 0, 1)) ∧ (decode cX2_most 5 = .ok (.iload_n 1, 1)) ∧ (decode cX2_most 6 = .ok (.invokevirtual 27, 3)) ∧ (decode cX2_most 9 = .ok (.aload_n 0, 1)) ∧ (decode cX2_most 10 = .ok (.getfield 23, 3)) ∧ (decode cX2_most 13 = .ok (.getfield 113, 3)) ∧ (decode cX2_most 16 = .ok (.invokevirtual 116, 3)) ∧ (decode cX2_most 19 = .ok (.pop, 1)) ∧ (decode cX2_most 20 = .ok (.aload_n 0, 1)) ∧ (decode cX2_most 21 = .ok (.getfield 23, 3)) ∧ (decode cX2_most 24 = .ok (.getfield 113, 3)) ∧ (decode cX2_most 27 = .ok (.invokevirtual 211, 3)) ∧ (decode cX2_most 30 = .ok (.ireturn, 1)) := by decide +kernel
theorem dX2_most_0 : decode cX2_most 0 = .ok (.aload_n 0, 1) := bX2_most_0.1
theorem dX2_most_1 : decode cX2_most 1 = .ok (.getfield 23, 3) := bX2_most_0.2.1
theorem dX2_most_4 : decode cX2_most 4 = .ok (.aload_n 0, 1) := bX2_most_0.2.2.1
theorem dX2_most_5 : decode cX2_most 5 = .ok (.iload_n 1, 1) := bX2_most_0.2.2.2.1
theorem dX2_most_6 : decode cX2_most 6 = .ok (.invokevirtual 27, 3) := bX2_most_0.2.2.2.2.1
theorem dX2_most_9 : decode cX2_most 9 = .ok (.aload_n 0, 1) := bX2_most_0.2.2.2.2.2.1
theorem dX2_most_10 : decode cX2_most 10 = .ok (.getfield 23, 3) := bX2_most_0.2.2.2.2.2.2.1
theorem dX2_most_13 : decode cX2_most 13 = .ok (.getfield 113, 3) := bX2_most_0.2.2.2.2.2.2.2.1
theorem dX2_most_16 : decode cX2_most 16 = .ok (.invokevirtual 116, 3) := bX2_most_0.2.2.2.2.2.2.2.2.1
theorem dX2_most_19 : decode cX2_most 19 = .ok (.pop, 1) := bX2_most_0.2.2.2.2.2.2.2.2.2.1
theorem dX2_most_20 : decode cX2_most 20 = .ok (.aload_n 0, 1) := bX2_most_0.2.2.2.2.2.2.2.2.2.2.1
theorem dX2_most_21 : decode cX2_most 21 = .ok (.getfield 23, 3) := bX2_most_0.2.2.2.2.2.2.2.2.2.2.2.1
theorem dX2_most_24 : decode cX2_most 24 = .ok (.getfield 113, 3) := bX2_most_0.2.2.2.2.2.2.2.2.2.2.2.2.1
theorem dX2_most_27 : decode cX2_most 27 = .ok (.invokevirtual 211, 3) := bX2_most_0.2.2.2.2.2.2.2.2.2.2.2.2.2.1
theorem dX2_most_30 : decode cX2_most 30 = .ok (.ireturn, 1) := bX2_most_0.2.2.2.2.2.2.2.2.2.2.2.2.2.2
set_option maxRecDepth 100000 in
theorem bX2_sum_0 : (decode cX2_sum 0 = .ok (.aload_n 0, 1)) ∧ (decode cX2_sum 1 = .ok (.iload_n 1, 1)) ∧ (decode cX2_sum 2 = .ok (.invokevirtual 27, 3)) ∧ (decode cX2_sum 5 = .ok (.invokevirtual 214, 3)) ∧ (decode cX2_sum 8 = .ok (.ireturn, 1)) := by decide +kernel
theorem dX2_sum_0 : decode cX2_sum 0 = .ok (.aload_n 0, 1) := bX2_sum_0.1
theorem dX2_sum_1 : decode cX2_sum 1 = .ok (.iload_n 1, 1) := bX2_sum_0.2.1
theorem dX2_sum_2 : decode cX2_sum 2 = .ok (.invokevirtual 27, 3) := bX2_sum_0.2.2.1
theorem dX2_sum_5 : decode cX2_sum 5 = .ok (.invokevirtual 214, 3) := bX2_sum_0.2.2.2.1
theorem dX2_sum_8 : decode cX2_sum 8 = .ok (.ireturn, 1) := bX2_sum_0.2.2.2.2
set_option maxRecDepth 100000 in
theorem bX2_same_0 : (decode cX2_same 0 = .ok (.aload_n 0, 1)) ∧ (decode cX2_same 1 = .ok (.iload_n 1, 1)) ∧ (decode cX2_same 2 = .ok (.invokevirtual 27, 3)) ∧ (decode cX2_same 5 = .ok (.astore_n 3, 1)) ∧ (decode cX2_same 6 = .ok (.aload_n 0, 1)) ∧ (decode cX2_same 7 = .ok (.iload_n 2, 1)) ∧ (decode cX2_same 8 = .ok (.invokevirtual 27, 3)) ∧ (decode cX2_same 11 = .ok (.astore 4, 2)) ∧ (decode cX2_same 13 = .ok (.aload_n 3, 1)) ∧ (decode cX2_same 14 = .ok (.getfield 39, 3)) ∧ (decode cX2_same 17 = .ok (.aload 4, 2)) ∧ (decode cX2_same 19 = .ok (.getfield 39, 3)) ∧ (decode cX2_same 22 = .ok (.if_icmp .ne 16, 3)) ∧ (decode cX2_same 25 = .ok (.aload_n 3, 1)) ∧ (decode cX2_same 26 = .ok (.aload 4, 2)) ∧ (decode cX2_same 28 = .ok (.invokevirtual 107, 3)) := by decide +kernel
theorem dX2_same_0 : decode cX2_same 0 = .ok (.aload_n 0, 1) := bX2_same_0.1
theorem dX2_same_1 : decode cX2_same 1 = .ok (.iload_n 1, 1) := bX2_same_0.2.1
theorem dX2_same_2 : decode cX2_same 2 = .ok (.invokevirtual 27, 3) := bX2_same_0.2.2.1
theorem dX2_same_5 : decode cX2_same 5 = .ok (.astore_n 3, 1) := bX2_same_0.2.2.2.1
theorem dX2_same_6 : decode cX2_same 6 = .ok (.aload_n 0, 1) := bX2_same_0.2.2.2.2.1
theorem dX2_same_7 : decode cX2_same 7 = .ok (.iload_n 2, 1) := bX2_same_0.2.2.2.2.2.1
theorem dX2_same_8 : decode cX2_same 8 = .ok (.invokevirtual 27, 3) := bX2_same_0.2.2.2.2.2.2.1
theorem dX2_same_11 : decode cX2_same 11 = .ok (.astore 4, 2) := bX2_same_0.2.2.2.2.2.2.2.1
theorem dX2_same_13 : decode cX2_same 13 = .ok (.aload_n 3, 1) := bX2_same_0.2.2.2.2.2.2.2.2.1
theorem dX2_same_14 : decode cX2_same 14 = .ok (.getfield 39, 3) := bX2_same_0.2.2.2.2.2.2.2.2.2.1
theorem dX2_same_17 : decode cX2_same 17 = .ok (.aload 4, 2) := bX2_same_0.2.2.2.2.2.2.2.2.2.2.1
theorem dX2_same_19 : decode cX2_same 19 = .ok (.getfield 39, 3) := bX2_same_0.2.2.2.2.2.2.2.2.2.2.2.1
theorem dX2_same_22 : decode cX2_same 22 = .ok (.if_icmp .ne 16, 3) := bX2_same_0.2.2.2.2.2.2.2.2.2.2.2.2.1
theorem dX2_same_25 : decode cX2_same 25 = .ok (.aload_n 3, 1) := bX2_same_0.2.2.2.2.2.2.2.2.2.2.2.2.2.1
theorem dX2_same_26 : decode cX2_same 26 = .ok (.aload 4, 2) := bX2_same_0.2.2.2.2.2.2.2.2.2.2.2.2.2.2.1
theorem dX2_same_28 : decode cX2_same 28 = .ok (.invokevirtual 107, 3) := bX2_same_0.2.2.2.2.2.2.2.2.2.2.2.2.2.2.2
set_option maxRecDepth 100000 in
theorem bX2_same_31 : (decode cX2_same 31 = .ok (.ifCond .ne 7, 3)) ∧ (decode cX2_same 34 = .ok (.iconst 1, 1)) ∧ (decode cX2_same 35 = .ok (.goto 4, 3)) ∧ (decode cX2_same 38 = .ok (.iconst 0, 1)) ∧ (decode cX2_same 39 = .ok (.ireturn, 1)) := by decide +kernel
theorem dX2_same_31 : decode cX2_same 31 = .ok (.ifCond .ne 7, 3) := bX2_same_31.1
theorem dX2_same_34 : decode cX2_same 34 = .ok (.iconst 1, 1) := bX2_same_31.2.1
theorem dX2_same_35 : decode cX2_same 35 = .ok (.goto 4, 3) := bX2_same_31.2.2.1
theorem dX2_same_38 : decode cX2_same 38 = .ok (.iconst 0, 1) := bX2_same_31.2.2.2.1
theorem dX2_same_39 : decode cX2_same 39 = .ok (.ireturn, 1) := bX2_same_31.2.2.2.2
set_option maxRecDepth 100000 in
theorem bX2_bag_0 : (decode cX2_bag 0 = .ok (.aload_n 0, 1)) ∧ (decode cX2_bag 1 = .ok (.iload_n 1, 1)) ∧ (decode cX2_bag 2 = .ok (.invokevirtual 27, 3)) ∧ (decode cX2_bag 5 = .ok (.astore_n 3, 1)) ∧ (decode cX2_bag 6 = .ok (.aload_n 0, 1)) ∧ (decode cX2_bag 7 = .ok (.iload_n 2, 1)) ∧ (decode cX2_bag 8 = .ok (.invokevirtual 27, 3)) ∧ (decode cX2_bag 11 = .ok (.astore 4, 2)) ∧ (decode cX2_bag 13 = .ok (.aload_n 0, 1)) ∧ (decode cX2_bag 14 = .ok (.getfield 23, 3)) ∧ (decode cX2_bag 17 = .ok (.aload_n 3, 1)) ∧ (decode cX2_bag 18 = .ok (.aload_n 0, 1)) ∧ (decode cX2_bag 19 = .ok (.getfield 23, 3)) ∧ (decode cX2_bag 22 = .ok (.getfield 113, 3)) ∧ (decode cX2_bag 25 = .ok (.invokevirtual 116, 3)) ∧ (decode cX2_bag 28 = .ok (.pop, 1)) := by decide +kernel
theorem dX2_bag_0 : decode cX2_bag 0 = .ok (.aload_n 0, 1) := bX2_bag_0.1
theorem dX2_bag_1 : decode cX2_bag 1 = .ok (.iload_n 1, 1) := bX2_bag_0.2.1
theorem dX2_bag_2 : decode cX2_bag 2 = .ok (.invokevirtual 27, 3) := bX2_bag_0.2.2.1
theorem dX2_bag_5 : decode cX2_bag 5 = .ok (.astore_n 3, 1) := bX2_bag_0.2.2.2.1
theorem dX2_bag_6 : decode cX2_bag 6 = .ok (.aload_n 0, 1) := bX2_bag_0.2.2.2.2.1
theorem dX2_bag_7 : decode cX2_bag 7 = .ok (.iload_n 2, 1) := bX2_bag_0.2.2.2.2.2.1
theorem dX2_bag_8 : decode cX2_bag 8 = .ok (.invokevirtual 27, 3) := bX2_bag_0.2.2.2.2.2.2.1
theorem dX2_bag_11 : decode cX2_bag 11 = .ok (.astore 4, 2) := bX2_bag_0.2.2.2.2.2.2.2.1
theorem dX2_bag_13 : decode cX2_bag 13 = .ok (.aload_n 0, 1) := bX2_bag_0.2.2.2.2.2.2.2.2.1
theorem dX2_bag_14 : decode cX2_bag 14 = .ok (.getfield 23, 3) := bX2_bag_0.2.2.2.2.2.2.2.2.2.1
theorem dX2_bag_17 : decode cX2_bag 17 = .ok (.aload_n 3, 1) := bX2_bag_0.2.2.2.2.2.2.2.2.2.2.1
theorem dX2_bag_18 : decode cX2_bag 18 = .ok (.aload_n 0, 1) := bX2_bag_0.2.2.2.2.2.2.2.2.2.2.2.1
theorem dX2_bag_19 : decode cX2_bag 19 = .ok (.getfield 23, 3) := bX2_bag_0.2.2.2.2.2.2.2.2.2.2.2.2.1
theorem dX2_bag_22 : decode cX2_bag 22 = .ok (.getfield 113, 3) := bX2_bag_0.2.2.2.2.2.2.2.2.2.2.2.2.2.1
theorem dX2_bag_25 : decode cX2_bag 25 = .ok (.invokevirtual 116, 3) := bX2_bag_0.2.2.2.2.2.2.2.2.2.2.2.2.2.2.1
theorem dX2_bag_28 : decode cX2_bag 28 = .ok (.pop, 1) := bX2_bag_0.2.2.2.2.2.2.2.2.2.2.2.2.2.2.2
set_option maxRecDepth 100000 in
theorem bX2_bag_29 : (decode cX2_bag 29 = .ok (.aload_n 0, 1)) ∧ (decode cX2_bag 30 = .ok (.getfield 23, 3)) ∧ (decode cX2_bag 33 = .ok (.aload 4, 2)) ∧ (decode cX2_bag 35 = .ok (.aload_n 0, 1)) ∧ (decode cX2_bag 36 = .ok (.getfield 23, 3)) ∧ (decode cX2_bag 39 = .ok (.getfield 86, 3)) ∧ (decode cX2_bag 42 = .ok (.invokevirtual 116, 3)) ∧ (decode cX2_bag 45 = .ok (.pop, 1)) ∧ (decode cX2_bag 46 = .ok (.aload_n 3, 1)) ∧ (decode cX2_bag 47 = .ok (.getfield 39, 3)) ∧ (decode cX2_bag 50 = .ok (.aload 4, 2)) ∧ (decode cX2_bag 52 = .ok (.getfield 39, 3)) ∧ (decode cX2_bag 55 = .ok (.if_icmp .ne 27, 3)) ∧ (decode cX2_bag 58 = .ok (.aload_n 0, 1)) ∧ (decode cX2_bag 59 = .ok (.getfield 23, 3)) ∧ (decode cX2_bag 62 = .ok (.getfield 113, 3)) := by decide +kernel
theorem dX2_bag_29 : decode cX2_bag 29 = .ok (.aload_n 0, 1) := bX2_bag_29.1
theorem dX2_bag_30 : decode cX2_bag 30 = .ok (.getfield 23, 3) := bX2_bag_29.2.1
theorem dX2_bag_33 : decode cX2_bag 33 = .ok (.aload 4, 2) := bX2_bag_29.2.2.1
theorem dX2_bag_35 : decode cX2_bag 35 = .ok (.aload_n 0, 1) := bX2_bag_29.2.2.2.1
theorem dX2_bag_36 : decode cX2_bag 36 = .ok (.getfield 23, 3) := bX2_bag_29.2.2.2.2.1
theorem dX2_bag_39 : decode cX2_bag 39 = .ok (.getfield 86, 3) := bX2_bag_29.2.2.2.2.2.1
theorem dX2_bag_42 : decode cX2_bag 42 = .ok (.invokevirtual 116, 3) := bX2_bag_29.2.2.2.2.2.2.1
theorem dX2_bag_45 : decode cX2_bag 45 = .ok (.pop, 1) := bX2_bag_29.2.2.2.2.2.2.2.1
theorem dX2_bag_46 : decode cX2_bag 46 = .ok (.aload_n 3, 1) := bX2_bag_29.2.2.2.2.2.2.2.2.1
theorem dX2_bag_47 : decode cX2_bag 47 = .ok (.getfield 39, 3) := bX2_bag_29.2.2.2.2.2.2.2.2.2.1
theorem dX2_bag_50 : decode cX2_bag 50 = .ok (.aload 4, 2) := bX2_bag_29.2.2.2.2.2.2.2.2.2.2.1
theorem dX2_bag_52 : decode cX2_bag 52 = .ok (.getfield 39, 3) := bX2_bag_29.2.2.2.2.2.2.2.2.2.2.2.1
theorem dX2_bag_55 : decode cX2_bag 55 = .ok (.if_icmp .ne 27, 3) := bX2_bag_29.2.2.2.2.2.2.2.2.2.2.2.2.1
theorem dX2_bag_58 : decode cX2_bag 58 = .ok (.aload_n 0, 1) := bX2_bag_29.2.2.2.2.2.2.2.2.2.2.2.2.2.1
theorem dX2_bag_59 : decode cX2_bag 59 = .ok (.getfield 23, 3) := bX2_bag_29.2.2.2.2.2.2.2.2.2.2.2.2.2.2.1
theorem dX2_bag_62 : decode cX2_bag 62 = .ok (.getfield 113, 3) := bX2_bag_29.2.2.2.2.2.2.2.2.2.2.2.2.2.2.2
set_option maxRecDepth 100000 in
theorem bX2_bag_65 : (decode cX2_bag 65 = .ok (.aload_n 0, 1)) ∧ (decode cX2_bag 66 = .ok (.getfield 23, 3)) ∧ (decode cX2_bag 69 = .ok (.getfield 86, 3)) ∧ (decode cX2_bag 72 = .ok (.invokevirtual 107, 3)) ∧ (decode cX2_bag 75 = .ok (.ifCond .ne 7, 3)) ∧ (decode cX2_bag 78 = .ok (.iconst 1, 1)) ∧ (decode cX2_bag 79 = .ok (.goto 4, 3)) ∧ (decode cX2_bag 82 = .ok (.iconst 0, 1)) ∧ (decode cX2_bag 83 = .ok (.ireturn, 1)) := by decide +kernel
theorem dX2_bag_65 : decode cX2_bag 65 = .ok (.aload_n 0, 1) := bX2_bag_65.1
theorem dX2_bag_66 : decode cX2_bag 66 = .ok (.getfield 23, 3) := bX2_bag_65.2.1
theorem dX2_bag_69 : decode cX2_bag 69 = .ok (.getfield 86, 3) := bX2_bag_65.2.2.1
theorem dX2_bag_72 : decode cX2_bag 72 = .ok (.invokevirtual 107, 3) := bX2_bag_65.2.2.2.1
theorem dX2_bag_75 : decode cX2_bag 75 = .ok (.ifCond .ne 7, 3) := bX2_bag_65.2.2.2.2.1
theorem dX2_bag_78 : decode cX2_bag 78 = .ok (.iconst 1, 1) := bX2_bag_65.2.2.2.2.2.1
theorem dX2_bag_79 : decode cX2_bag 79 = .ok (.goto 4, 3) := bX2_bag_65.2.2.2.2.2.2.1
theorem dX2_bag_82 : decode cX2_bag 82 = .ok (.iconst 0, 1) := bX2_bag_65.2.2.2.2.2.2.2.1
theorem dX2_bag_83 : decode cX2_bag 83 = .ok (.ireturn, 1) := bX2_bag_65.2.2.2.2.2.2.2.2
set_option maxRecDepth 100000 in
theorem bX2_mark_0 : (decode cX2_mark 0 = .ok (.aload_n 0, 1)) ∧ (decode cX2_mark 1 = .ok (.iload_n 1, 1)) ∧ (decode cX2_mark 2 = .ok (.invokevirtual 27, 3)) ∧ (decode cX2_mark 5 = .ok (.astore_n 3, 1)) ∧ (decode cX2_mark 6 = .ok (.bipush 17, 2)) ∧ (decode cX2_mark 8 = .ok (.istore 4, 2)) ∧ (decode cX2_mark 10 = .ok (.iconst 0, 1)) ∧ (decode cX2_mark 11 = .ok (.istore 5, 2)) ∧ (decode cX2_mark 13 = .ok (.iload 5, 2)) ∧ (decode cX2_mark 15 = .ok (.aload_n 3, 1)) ∧ (decode cX2_mark 16 = .ok (.getfield 39, 3)) ∧ (decode cX2_mark 19 = .ok (.if_icmp .ge 38, 3)) ∧ (decode cX2_mark 22 = .ok (.iload 4, 2)) ∧ (decode cX2_mark 24 = .ok (.bipush 31, 2)) ∧ (decode cX2_mark 26 = .ok (.imul, 1)) ∧ (decode cX2_mark 27 = .ok (.iload_n 2, 1)) := by decide +kernel
theorem dX2_mark_0 : decode cX2_mark 0 = .ok (.aload_n 0, 1) := bX2_mark_0.1
theorem dX2_mark_1 : decode cX2_mark 1 = .ok (.iload_n 1, 1) := bX2_mark_0.2.1
theorem dX2_mark_2 : decode cX2_mark 2 = .ok (.invokevirtual 27, 3) := bX2_mark_0.2.2.1
theorem dX2_mark_5 : decode cX2_mark 5 = .ok (.astore_n 3, 1) := bX2_mark_0.2.2.2.1
theorem dX2_mark_6 : decode cX2_mark 6 = .ok (.bipush 17, 2) := bX2_mark_0.2.2.2.2.1
theorem dX2_mark_8 : decode cX2_mark 8 = .ok (.istore 4, 2) := bX2_mark_0.2.2.2.2.2.1
theorem dX2_mark_10 : decode cX2_mark 10 = .ok (.iconst 0, 1) := bX2_mark_0.2.2.2.2.2.2.1
theorem dX2_mark_11 : decode cX2_mark 11 = .ok (.istore 5, 2) := bX2_mark_0.2.2.2.2.2.2.2.1
theorem dX2_mark_13 : decode cX2_mark 13 = .ok (.iload 5, 2) := bX2_mark_0.2.2.2.2.2.2.2.2.1
theorem dX2_mark_15 : decode cX2_mark 15 = .ok (.aload_n 3, 1) := bX2_mark_0.2.2.2.2.2.2.2.2.2.1
theorem dX2_mark_16 : decode cX2_mark 16 = .ok (.getfield 39, 3) := bX2_mark_0.2.2.2.2.2.2.2.2.2.2.1
theorem dX2_mark_19 : decode cX2_mark 19 = .ok (.if_icmp .ge 38, 3) := bX2_mark_0.2.2.2.2.2.2.2.2.2.2.2.1
theorem dX2_mark_22 : decode cX2_mark 22 = .ok (.iload 4, 2) := bX2_mark_0.2.2.2.2.2.2.2.2.2.2.2.2.1
theorem dX2_mark_24 : decode cX2_mark 24 = .ok (.bipush 31, 2) := bX2_mark_0.2.2.2.2.2.2.2.2.2.2.2.2.2.1
theorem dX2_mark_26 : decode cX2_mark 26 = .ok (.imul, 1) := bX2_mark_0.2.2.2.2.2.2.2.2.2.2.2.2.2.2.1
theorem dX2_mark_27 : decode cX2_mark 27 = .ok (.iload_n 2, 1) := bX2_mark_0.2.2.2.2.2.2.2.2.2.2.2.2.2.2.2
set_option maxRecDepth 100000 in
theorem bX2_mark_28 : (decode cX2_mark 28 = .ok (.ifCond .eq 13, 3)) ∧ (decode cX2_mark 31 = .ok (.aload_n 3, 1)) ∧ (decode cX2_mark 32 = .ok (.getfield 83, 3)) ∧ (decode cX2_mark 35 = .ok (.iload 5, 2)) ∧ (decode cX2_mark 37 = .ok (.iaload, 1)) ∧ (decode cX2_mark 38 = .ok (.goto 10, 3)) ∧ (decode cX2_mark 41 = .ok (.aload_n 3, 1)) ∧ (decode cX2_mark 42 = .ok (.getfield 79, 3)) ∧ (decode cX2_mark 45 = .ok (.iload 5, 2)) ∧ (decode cX2_mark 47 = .ok (.iaload, 1)) ∧ (decode cX2_mark 48 = .ok (.iadd, 1)) ∧ (decode cX2_mark 49 = .ok (.istore 4, 2)) ∧ (decode cX2_mark 51 = .ok (.iinc 5 1, 3)) ∧ (decode cX2_mark 54 = .ok (.goto (-41), 3)) ∧ (decode cX2_mark 57 = .ok (.iload 4, 2)) ∧ (decode cX2_mark 59 = .ok (.ireturn, 1)) := by decide +kernel
theorem dX2_mark_28 : decode cX2_mark 28 = .ok (.ifCond .eq 13, 3) := bX2_mark_28.1
theorem dX2_mark_31 : decode cX2_mark 31 = .ok (.aload_n 3, 1) := bX2_mark_28.2.1
theorem dX2_mark_32 : decode cX2_mark 32 = .ok (.getfield 83, 3) := bX2_mark_28.2.2.1
theorem dX2_mark_35 : decode cX2_mark 35 = .ok (.iload 5, 2) := bX2_mark_28.2.2.2.1
theorem dX2_mark_37 : decode cX2_mark 37 = .ok (.iaload, 1) := bX2_mark_28.2.2.2.2.1
theorem dX2_mark_38 : decode cX2_mark 38 = .ok (.goto 10, 3) := bX2_mark_28.2.2.2.2.2.1
theorem dX2_mark_41 : decode cX2_mark 41 = .ok (.aload_n 3, 1) := bX2_mark_28.2.2.2.2.2.2.1
theorem dX2_mark_42 : decode cX2_mark 42 = .ok (.getfield 79, 3) := bX2_mark_28.2.2.2.2.2.2.2.1
theorem dX2_mark_45 : decode cX2_mark 45 = .ok (.iload 5, 2) := bX2_mark_28.2.2.2.2.2.2.2.2.1
theorem dX2_mark_47 : decode cX2_mark 47 = .ok (.iaload, 1) := bX2_mark_28.2.2.2.2.2.2.2.2.2.1
theorem dX2_mark_48 : decode cX2_mark 48 = .ok (.iadd, 1) := bX2_mark_28.2.2.2.2.2.2.2.2.2.2.1
theorem dX2_mark_49 : decode cX2_mark 49 = .ok (.istore 4, 2) := bX2_mark_28.2.2.2.2.2.2.2.2.2.2.2.1
theorem dX2_mark_51 : decode cX2_mark 51 = .ok (.iinc 5 1, 3) := bX2_mark_28.2.2.2.2.2.2.2.2.2.2.2.2.1
theorem dX2_mark_54 : decode cX2_mark 54 = .ok (.goto (-41), 3) := bX2_mark_28.2.2.2.2.2.2.2.2.2.2.2.2.2.1
theorem dX2_mark_57 : decode cX2_mark 57 = .ok (.iload 4, 2) := bX2_mark_28.2.2.2.2.2.2.2.2.2.2.2.2.2.2.1
theorem dX2_mark_59 : decode cX2_mark 59 = .ok (.ireturn, 1) := bX2_mark_28.2.2.2.2.2.2.2.2.2.2.2.2.2.2.2
set_option maxRecDepth 100000 in
theorem bX2_house_0 : (decode cX2_house 0 = .ok (.iload_n 1, 1)) ∧ (decode cX2_house 1 = .ok (.tableswitch 69 0 5 #[39, 44, 49, 54, 59, 64], 39)) ∧ (decode cX2_house 40 = .ok (.aload_n 0, 1)) ∧ (decode cX2_house 41 = .ok (.invokevirtual 217, 3)) ∧ (decode cX2_house 44 = .ok (.ireturn, 1)) ∧ (decode cX2_house 45 = .ok (.aload_n 0, 1)) ∧ (decode cX2_house 46 = .ok (.getfield 220, 3)) ∧ (decode cX2_house 49 = .ok (.ireturn, 1)) ∧ (decode cX2_house 50 = .ok (.aload_n 0, 1)) ∧ (decode cX2_house 51 = .ok (.getfield 223, 3)) ∧ (decode cX2_house 54 = .ok (.ireturn, 1)) ∧ (decode cX2_house 55 = .ok (.aload_n 0, 1)) ∧ (decode cX2_house 56 = .ok (.getfield 226, 3)) ∧ (decode cX2_house 59 = .ok (.ireturn, 1)) ∧ (decode cX2_house 60 = .ok (.aload_n 0, 1)) ∧ (decode cX2_house 61 = .ok (.getfield 229, 3)) := by decide +kernel
theorem dX2_house_0 : decode cX2_house 0 = .ok (.iload_n 1, 1) := bX2_house_0.1
theorem dX2_house_1 : decode cX2_house 1 = .ok (.tableswitch 69 0 5 #[39, 44, 49, 54, 59, 64], 39) := bX2_house_0.2.1
theorem dX2_house_40 : decode cX2_house 40 = .ok (.aload_n 0, 1) := bX2_house_0.2.2.1
theorem dX2_house_41 : decode cX2_house 41 = .ok (.invokevirtual 217, 3) := bX2_house_0.2.2.2.1
theorem dX2_house_44 : decode cX2_house 44 = .ok (.ireturn, 1) := bX2_house_0.2.2.2.2.1
theorem dX2_house_45 : decode cX2_house 45 = .ok (.aload_n 0, 1) := bX2_house_0.2.2.2.2.2.1
theorem dX2_house_46 : decode cX2_house 46 = .ok (.getfield 220, 3) := bX2_house_0.2.2.2.2.2.2.1
theorem dX2_house_49 : decode cX2_house 49 = .ok (.ireturn, 1) := bX2_house_0.2.2.2.2.2.2.2.1
theorem dX2_house_50 : decode cX2_house 50 = .ok (.aload_n 0, 1) := bX2_house_0.2.2.2.2.2.2.2.2.1
theorem dX2_house_51 : decode cX2_house 51 = .ok (.getfield 223, 3) := bX2_house_0.2.2.2.2.2.2.2.2.2.1
theorem dX2_house_54 : decode cX2_house 54 = .ok (.ireturn, 1) := bX2_house_0.2.2.2.2.2.2.2.2.2.2.1
theorem dX2_house_55 : decode cX2_house 55 = .ok (.aload_n 0, 1) := bX2_house_0.2.2.2.2.2.2.2.2.2.2.2.1
theorem dX2_house_56 : decode cX2_house 56 = .ok (.getfield 226, 3) := bX2_house_0.2.2.2.2.2.2.2.2.2.2.2.2.1
theorem dX2_house_59 : decode cX2_house 59 = .ok (.ireturn, 1) := bX2_house_0.2.2.2.2.2.2.2.2.2.2.2.2.2.1
theorem dX2_house_60 : decode cX2_house 60 = .ok (.aload_n 0, 1) := bX2_house_0.2.2.2.2.2.2.2.2.2.2.2.2.2.2.1
theorem dX2_house_61 : decode cX2_house 61 = .ok (.getfield 229, 3) := bX2_house_0.2.2.2.2.2.2.2.2.2.2.2.2.2.2.2
set_option maxRecDepth 100000 in
theorem bX2_house_64 : (decode cX2_house 64 = .ok (.ireturn, 1)) ∧ (decode cX2_house 65 = .ok (.aload_n 0, 1)) ∧ (decode cX2_house 66 = .ok (.invokevirtual 232, 3)) ∧ (decode cX2_house 69 = .ok (.ireturn, 1)) ∧ (decode cX2_house 70 = .ok (.new 235, 3)) ∧ (decode cX2_house 73 = .ok (.dup, 1)) ∧ (decode cX2_house 74 = .ok (.ldc 237, 2)) ∧ (decode cX2_house 76 = .ok (.invokespecial 239, 3)) ∧ (decode cX2_house 79 = .ok (.athrow, 1)) := by decide +kernel
theorem dX2_house_64 : decode cX2_house 64 = .ok (.ireturn, 1) := bX2_house_64.1
theorem dX2_house_65 : decode cX2_house 65 = .ok (.aload_n 0, 1) := bX2_house_64.2.1
theorem dX2_house_66 : decode cX2_house 66 = .ok (.invokevirtual 232, 3) := bX2_house_64.2.2.1
theorem dX2_house_69 : decode cX2_house 69 = .ok (.ireturn, 1) := bX2_house_64.2.2.2.1
theorem dX2_house_70 : decode cX2_house 70 = .ok (.new 235, 3) := bX2_house_64.2.2.2.2.1
theorem dX2_house_73 : decode cX2_house 73 = .ok (.dup, 1) := bX2_house_64.2.2.2.2.2.1
theorem dX2_house_74 : decode cX2_house 74 = .ok (.ldc 237, 2) := bX2_house_64.2.2.2.2.2.2.1
theorem dX2_house_76 : decode cX2_house 76 = .ok (.invokespecial 239, 3) := bX2_house_64.2.2.2.2.2.2.2.1
theorem dX2_house_79 : decode cX2_house 79 = .ok (.athrow, 1) := bX2_house_64.2.2.2.2.2.2.2.2
set_option maxRecDepth 100000 in
theorem bX2_knock_0 : (decode cX2_knock 0 = .ok (.aload_n 0, 1)) ∧ (decode cX2_knock 1 = .ok (.dup, 1)) ∧ (decode cX2_knock 2 = .ok (.getfield 226, 3)) ∧ (decode cX2_knock 5 = .ok (.iconst 1, 1)) ∧ (decode cX2_knock 6 = .ok (.iadd, 1)) ∧ (decode cX2_knock 7 = .ok (.putfield 226, 3)) ∧ (decode cX2_knock 10 = .ok (.aload_n 0, 1)) ∧ (decode cX2_knock 11 = .ok (.getfield 226, 3)) ∧ (decode cX2_knock 14 = .ok (.ireturn, 1)) := by decide +kernel
theorem dX2_knock_0 : decode cX2_knock 0 = .ok (.aload_n 0, 1) := bX2_knock_0.1
theorem dX2_knock_1 : decode cX2_knock 1 = .ok (.dup, 1) := bX2_knock_0.2.1
theorem dX2_knock_2 : decode cX2_knock 2 = .ok (.getfield 226, 3) := bX2_knock_0.2.2.1
theorem dX2_knock_5 : decode cX2_knock 5 = .ok (.iconst 1, 1) := bX2_knock_0.2.2.2.1
theorem dX2_knock_6 : decode cX2_knock 6 = .ok (.iadd, 1) := bX2_knock_0.2.2.2.2.1
theorem dX2_knock_7 : decode cX2_knock 7 = .ok (.putfield 226, 3) := bX2_knock_0.2.2.2.2.2.1
theorem dX2_knock_10 : decode cX2_knock 10 = .ok (.aload_n 0, 1) := bX2_knock_0.2.2.2.2.2.2.1
theorem dX2_knock_11 : decode cX2_knock 11 = .ok (.getfield 226, 3) := bX2_knock_0.2.2.2.2.2.2.2.1
theorem dX2_knock_14 : decode cX2_knock 14 = .ok (.ireturn, 1) := bX2_knock_0.2.2.2.2.2.2.2.2
set_option maxRecDepth 100000 in
theorem bX2_isSound_0 : (decode cX2_isSound 0 = .ok (.iconst 0, 1)) ∧ (decode cX2_isSound 1 = .ok (.istore_n 1, 1)) ∧ (decode cX2_isSound 2 = .ok (.iload_n 1, 1)) ∧ (decode cX2_isSound 3 = .ok (.aload_n 0, 1)) ∧ (decode cX2_isSound 4 = .ok (.getfield 11, 3)) ∧ (decode cX2_isSound 7 = .ok (.arraylength, 1)) ∧ (decode cX2_isSound 8 = .ok (.if_icmp .ge 24, 3)) ∧ (decode cX2_isSound 11 = .ok (.aload_n 0, 1)) ∧ (decode cX2_isSound 12 = .ok (.aload_n 0, 1)) ∧ (decode cX2_isSound 13 = .ok (.getfield 11, 3)) ∧ (decode cX2_isSound 16 = .ok (.iload_n 1, 1)) ∧ (decode cX2_isSound 17 = .ok (.aaload, 1)) ∧ (decode cX2_isSound 18 = .ok (.invokevirtual 242, 3)) ∧ (decode cX2_isSound 21 = .ok (.ifCond .ne 5, 3)) ∧ (decode cX2_isSound 24 = .ok (.iconst 0, 1)) ∧ (decode cX2_isSound 25 = .ok (.ireturn, 1)) := by decide +kernel
theorem dX2_isSound_0 : decode cX2_isSound 0 = .ok (.iconst 0, 1) := bX2_isSound_0.1
theorem dX2_isSound_1 : decode cX2_isSound 1 = .ok (.istore_n 1, 1) := bX2_isSound_0.2.1
theorem dX2_isSound_2 : decode cX2_isSound 2 = .ok (.iload_n 1, 1) := bX2_isSound_0.2.2.1
theorem dX2_isSound_3 : decode cX2_isSound 3 = .ok (.aload_n 0, 1) := bX2_isSound_0.2.2.2.1
theorem dX2_isSound_4 : decode cX2_isSound 4 = .ok (.getfield 11, 3) := bX2_isSound_0.2.2.2.2.1
theorem dX2_isSound_7 : decode cX2_isSound 7 = .ok (.arraylength, 1) := bX2_isSound_0.2.2.2.2.2.1
theorem dX2_isSound_8 : decode cX2_isSound 8 = .ok (.if_icmp .ge 24, 3) := bX2_isSound_0.2.2.2.2.2.2.1
theorem dX2_isSound_11 : decode cX2_isSound 11 = .ok (.aload_n 0, 1) := bX2_isSound_0.2.2.2.2.2.2.2.1
theorem dX2_isSound_12 : decode cX2_isSound 12 = .ok (.aload_n 0, 1) := bX2_isSound_0.2.2.2.2.2.2.2.2.1
theorem dX2_isSound_13 : decode cX2_isSound 13 = .ok (.getfield 11, 3) := bX2_isSound_0.2.2.2.2.2.2.2.2.2.1
theorem dX2_isSound_16 : decode cX2_isSound 16 = .ok (.iload_n 1, 1) := bX2_isSound_0.2.2.2.2.2.2.2.2.2.2.1
theorem dX2_isSound_17 : decode cX2_isSound 17 = .ok (.aaload, 1) := bX2_isSound_0.2.2.2.2.2.2.2.2.2.2.2.1
theorem dX2_isSound_18 : decode cX2_isSound 18 = .ok (.invokevirtual 242, 3) := bX2_isSound_0.2.2.2.2.2.2.2.2.2.2.2.2.1
theorem dX2_isSound_21 : decode cX2_isSound 21 = .ok (.ifCond .ne 5, 3) := bX2_isSound_0.2.2.2.2.2.2.2.2.2.2.2.2.2.1
theorem dX2_isSound_24 : decode cX2_isSound 24 = .ok (.iconst 0, 1) := bX2_isSound_0.2.2.2.2.2.2.2.2.2.2.2.2.2.2.1
theorem dX2_isSound_25 : decode cX2_isSound 25 = .ok (.ireturn, 1) := bX2_isSound_0.2.2.2.2.2.2.2.2.2.2.2.2.2.2.2
set_option maxRecDepth 100000 in
theorem bX2_isSound_26 : (decode cX2_isSound 26 = .ok (.iinc 1 1, 3)) ∧ (decode cX2_isSound 29 = .ok (.goto (-27), 3)) ∧ (decode cX2_isSound 32 = .ok (.aload_n 0, 1)) ∧ (decode cX2_isSound 33 = .ok (.aload_n 0, 1)) ∧ (decode cX2_isSound 34 = .ok (.getfield 11, 3)) ∧ (decode cX2_isSound 37 = .ok (.iconst 0, 1)) ∧ (decode cX2_isSound 38 = .ok (.aaload, 1)) ∧ (decode cX2_isSound 39 = .ok (.aload_n 0, 1)) ∧ (decode cX2_isSound 40 = .ok (.getfield 11, 3)) ∧ (decode cX2_isSound 43 = .ok (.iconst 1, 1)) ∧ (decode cX2_isSound 44 = .ok (.aaload, 1)) ∧ (decode cX2_isSound 45 = .ok (.invokevirtual 246, 3)) ∧ (decode cX2_isSound 48 = .ok (.ireturn, 1)) := by decide +kernel
theorem dX2_isSound_26 : decode cX2_isSound 26 = .ok (.iinc 1 1, 3) := bX2_isSound_26.1
theorem dX2_isSound_29 : decode cX2_isSound 29 = .ok (.goto (-27), 3) := bX2_isSound_26.2.1
theorem dX2_isSound_32 : decode cX2_isSound 32 = .ok (.aload_n 0, 1) := bX2_isSound_26.2.2.1
theorem dX2_isSound_33 : decode cX2_isSound 33 = .ok (.aload_n 0, 1) := bX2_isSound_26.2.2.2.1
theorem dX2_isSound_34 : decode cX2_isSound 34 = .ok (.getfield 11, 3) := bX2_isSound_26.2.2.2.2.1
theorem dX2_isSound_37 : decode cX2_isSound 37 = .ok (.iconst 0, 1) := bX2_isSound_26.2.2.2.2.2.1
theorem dX2_isSound_38 : decode cX2_isSound 38 = .ok (.aaload, 1) := bX2_isSound_26.2.2.2.2.2.2.1
theorem dX2_isSound_39 : decode cX2_isSound 39 = .ok (.aload_n 0, 1) := bX2_isSound_26.2.2.2.2.2.2.2.1
theorem dX2_isSound_40 : decode cX2_isSound 40 = .ok (.getfield 11, 3) := bX2_isSound_26.2.2.2.2.2.2.2.2.1
theorem dX2_isSound_43 : decode cX2_isSound 43 = .ok (.iconst 1, 1) := bX2_isSound_26.2.2.2.2.2.2.2.2.2.1
theorem dX2_isSound_44 : decode cX2_isSound 44 = .ok (.aaload, 1) := bX2_isSound_26.2.2.2.2.2.2.2.2.2.2.1
theorem dX2_isSound_45 : decode cX2_isSound 45 = .ok (.invokevirtual 246, 3) := bX2_isSound_26.2.2.2.2.2.2.2.2.2.2.2.1
theorem dX2_isSound_48 : decode cX2_isSound 48 = .ok (.ireturn, 1) := bX2_isSound_26.2.2.2.2.2.2.2.2.2.2.2.2
set_option maxRecDepth 100000 in
theorem bX2_digest_0 : (decode cX2_digest 0 = .ok (.ldc2_w 250, 3)) ∧ (decode cX2_digest 3 = .ok (.lstore_n 1, 1)) ∧ (decode cX2_digest 4 = .ok (.iconst 0, 1)) ∧ (decode cX2_digest 5 = .ok (.istore_n 3, 1)) ∧ (decode cX2_digest 6 = .ok (.iload_n 3, 1)) ∧ (decode cX2_digest 7 = .ok (.aload_n 0, 1)) ∧ (decode cX2_digest 8 = .ok (.getfield 11, 3)) ∧ (decode cX2_digest 11 = .ok (.arraylength, 1)) ∧ (decode cX2_digest 12 = .ok (.if_icmp .ge 129, 3)) ∧ (decode cX2_digest 15 = .ok (.lload_n 1, 1)) ∧ (decode cX2_digest 16 = .ok (.ldc2_w 252, 3)) ∧ (decode cX2_digest 19 = .ok (.lmul, 1)) ∧ (decode cX2_digest 20 = .ok (.aload_n 0, 1)) ∧ (decode cX2_digest 21 = .ok (.iload_n 3, 1)) ∧ (decode cX2_digest 22 = .ok (.invokevirtual 254, 3)) ∧ (decode cX2_digest 25 = .ok (.i2l, 1)) := by decide +kernel
theorem dX2_digest_0 : decode cX2_digest 0 = .ok (.ldc2_w 250, 3) := bX2_digest_0.1
theorem dX2_digest_3 : decode cX2_digest 3 = .ok (.lstore_n 1, 1) := bX2_digest_0.2.1
theorem dX2_digest_4 : decode cX2_digest 4 = .ok (.iconst 0, 1) := bX2_digest_0.2.2.1
theorem dX2_digest_5 : decode cX2_digest 5 = .ok (.istore_n 3, 1) := bX2_digest_0.2.2.2.1
theorem dX2_digest_6 : decode cX2_digest 6 = .ok (.iload_n 3, 1) := bX2_digest_0.2.2.2.2.1
theorem dX2_digest_7 : decode cX2_digest 7 = .ok (.aload_n 0, 1) := bX2_digest_0.2.2.2.2.2.1
theorem dX2_digest_8 : decode cX2_digest 8 = .ok (.getfield 11, 3) := bX2_digest_0.2.2.2.2.2.2.1
theorem dX2_digest_11 : decode cX2_digest 11 = .ok (.arraylength, 1) := bX2_digest_0.2.2.2.2.2.2.2.1
theorem dX2_digest_12 : decode cX2_digest 12 = .ok (.if_icmp .ge 129, 3) := bX2_digest_0.2.2.2.2.2.2.2.2.1
theorem dX2_digest_15 : decode cX2_digest 15 = .ok (.lload_n 1, 1) := bX2_digest_0.2.2.2.2.2.2.2.2.2.1
theorem dX2_digest_16 : decode cX2_digest 16 = .ok (.ldc2_w 252, 3) := bX2_digest_0.2.2.2.2.2.2.2.2.2.2.1
theorem dX2_digest_19 : decode cX2_digest 19 = .ok (.lmul, 1) := bX2_digest_0.2.2.2.2.2.2.2.2.2.2.2.1
theorem dX2_digest_20 : decode cX2_digest 20 = .ok (.aload_n 0, 1) := bX2_digest_0.2.2.2.2.2.2.2.2.2.2.2.2.1
theorem dX2_digest_21 : decode cX2_digest 21 = .ok (.iload_n 3, 1) := bX2_digest_0.2.2.2.2.2.2.2.2.2.2.2.2.2.1
theorem dX2_digest_22 : decode cX2_digest 22 = .ok (.invokevirtual 254, 3) := bX2_digest_0.2.2.2.2.2.2.2.2.2.2.2.2.2.2.1
theorem dX2_digest_25 : decode cX2_digest 25 = .ok (.i2l, 1) := bX2_digest_0.2.2.2.2.2.2.2.2.2.2.2.2.2.2.2
set_option maxRecDepth 100000 in
theorem bX2_digest_26 : (decode cX2_digest 26 = .ok (.ladd, 1)) ∧ (decode cX2_digest 27 = .ok (.lstore_n 1, 1)) ∧ (decode cX2_digest 28 = .ok (.lload_n 1, 1)) ∧ (decode cX2_digest 29 = .ok (.ldc2_w 252, 3)) ∧ (decode cX2_digest 32 = .ok (.lmul, 1)) ∧ (decode cX2_digest 33 = .ok (.aload_n 0, 1)) ∧ (decode cX2_digest 34 = .ok (.iload_n 3, 1)) ∧ (decode cX2_digest 35 = .ok (.iconst 0, 1)) ∧ (decode cX2_digest 36 = .ok (.invokevirtual 257, 3)) ∧ (decode cX2_digest 39 = .ok (.i2l, 1)) ∧ (decode cX2_digest 40 = .ok (.ladd, 1)) ∧ (decode cX2_digest 41 = .ok (.lstore_n 1, 1)) ∧ (decode cX2_digest 42 = .ok (.lload_n 1, 1)) ∧ (decode cX2_digest 43 = .ok (.ldc2_w 252, 3)) ∧ (decode cX2_digest 46 = .ok (.lmul, 1)) ∧ (decode cX2_digest 47 = .ok (.aload_n 0, 1)) := by decide +kernel
theorem dX2_digest_26 : decode cX2_digest 26 = .ok (.ladd, 1) := bX2_digest_26.1
theorem dX2_digest_27 : decode cX2_digest 27 = .ok (.lstore_n 1, 1) := bX2_digest_26.2.1
theorem dX2_digest_28 : decode cX2_digest 28 = .ok (.lload_n 1, 1) := bX2_digest_26.2.2.1
theorem dX2_digest_29 : decode cX2_digest 29 = .ok (.ldc2_w 252, 3) := bX2_digest_26.2.2.2.1
theorem dX2_digest_32 : decode cX2_digest 32 = .ok (.lmul, 1) := bX2_digest_26.2.2.2.2.1
theorem dX2_digest_33 : decode cX2_digest 33 = .ok (.aload_n 0, 1) := bX2_digest_26.2.2.2.2.2.1
theorem dX2_digest_34 : decode cX2_digest 34 = .ok (.iload_n 3, 1) := bX2_digest_26.2.2.2.2.2.2.1
theorem dX2_digest_35 : decode cX2_digest 35 = .ok (.iconst 0, 1) := bX2_digest_26.2.2.2.2.2.2.2.1
theorem dX2_digest_36 : decode cX2_digest 36 = .ok (.invokevirtual 257, 3) := bX2_digest_26.2.2.2.2.2.2.2.2.1
theorem dX2_digest_39 : decode cX2_digest 39 = .ok (.i2l, 1) := bX2_digest_26.2.2.2.2.2.2.2.2.2.1
theorem dX2_digest_40 : decode cX2_digest 40 = .ok (.ladd, 1) := bX2_digest_26.2.2.2.2.2.2.2.2.2.2.1
theorem dX2_digest_41 : decode cX2_digest 41 = .ok (.lstore_n 1, 1) := bX2_digest_26.2.2.2.2.2.2.2.2.2.2.2.1
theorem dX2_digest_42 : decode cX2_digest 42 = .ok (.lload_n 1, 1) := bX2_digest_26.2.2.2.2.2.2.2.2.2.2.2.2.1
theorem dX2_digest_43 : decode cX2_digest 43 = .ok (.ldc2_w 252, 3) := bX2_digest_26.2.2.2.2.2.2.2.2.2.2.2.2.2.1
theorem dX2_digest_46 : decode cX2_digest 46 = .ok (.lmul, 1) := bX2_digest_26.2.2.2.2.2.2.2.2.2.2.2.2.2.2.1
theorem dX2_digest_47 : decode cX2_digest 47 = .ok (.aload_n 0, 1) := bX2_digest_26.2.2.2.2.2.2.2.2.2.2.2.2.2.2.2
set_option maxRecDepth 100000 in
theorem bX2_digest_48 : (decode cX2_digest 48 = .ok (.iload_n 3, 1)) ∧ (decode cX2_digest 49 = .ok (.iconst 1, 1)) ∧ (decode cX2_digest 50 = .ok (.invokevirtual 257, 3)) ∧ (decode cX2_digest 53 = .ok (.i2l, 1)) ∧ (decode cX2_digest 54 = .ok (.ladd, 1)) ∧ (decode cX2_digest 55 = .ok (.lstore_n 1, 1)) ∧ (decode cX2_digest 56 = .ok (.lload_n 1, 1)) ∧ (decode cX2_digest 57 = .ok (.ldc2_w 252, 3)) ∧ (decode cX2_digest 60 = .ok (.lmul, 1)) ∧ (decode cX2_digest 61 = .ok (.aload_n 0, 1)) ∧ (decode cX2_digest 62 = .ok (.iload_n 3, 1)) ∧ (decode cX2_digest 63 = .ok (.iconst 0, 1)) ∧ (decode cX2_digest 64 = .ok (.invokevirtual 261, 3)) ∧ (decode cX2_digest 67 = .ok (.i2l, 1)) ∧ (decode cX2_digest 68 = .ok (.ladd, 1)) ∧ (decode cX2_digest 69 = .ok (.lstore_n 1, 1)) := by decide +kernel
theorem dX2_digest_48 : decode cX2_digest 48 = .ok (.iload_n 3, 1) := bX2_digest_48.1
theorem dX2_digest_49 : decode cX2_digest 49 = .ok (.iconst 1, 1) := bX2_digest_48.2.1
theorem dX2_digest_50 : decode cX2_digest 50 = .ok (.invokevirtual 257, 3) := bX2_digest_48.2.2.1
theorem dX2_digest_53 : decode cX2_digest 53 = .ok (.i2l, 1) := bX2_digest_48.2.2.2.1
theorem dX2_digest_54 : decode cX2_digest 54 = .ok (.ladd, 1) := bX2_digest_48.2.2.2.2.1
theorem dX2_digest_55 : decode cX2_digest 55 = .ok (.lstore_n 1, 1) := bX2_digest_48.2.2.2.2.2.1
theorem dX2_digest_56 : decode cX2_digest 56 = .ok (.lload_n 1, 1) := bX2_digest_48.2.2.2.2.2.2.1
theorem dX2_digest_57 : decode cX2_digest 57 = .ok (.ldc2_w 252, 3) := bX2_digest_48.2.2.2.2.2.2.2.1
theorem dX2_digest_60 : decode cX2_digest 60 = .ok (.lmul, 1) := bX2_digest_48.2.2.2.2.2.2.2.2.1
theorem dX2_digest_61 : decode cX2_digest 61 = .ok (.aload_n 0, 1) := bX2_digest_48.2.2.2.2.2.2.2.2.2.1
theorem dX2_digest_62 : decode cX2_digest 62 = .ok (.iload_n 3, 1) := bX2_digest_48.2.2.2.2.2.2.2.2.2.2.1
theorem dX2_digest_63 : decode cX2_digest 63 = .ok (.iconst 0, 1) := bX2_digest_48.2.2.2.2.2.2.2.2.2.2.2.1
theorem dX2_digest_64 : decode cX2_digest 64 = .ok (.invokevirtual 261, 3) := bX2_digest_48.2.2.2.2.2.2.2.2.2.2.2.2.1
theorem dX2_digest_67 : decode cX2_digest 67 = .ok (.i2l, 1) := bX2_digest_48.2.2.2.2.2.2.2.2.2.2.2.2.2.1
theorem dX2_digest_68 : decode cX2_digest 68 = .ok (.ladd, 1) := bX2_digest_48.2.2.2.2.2.2.2.2.2.2.2.2.2.2.1
theorem dX2_digest_69 : decode cX2_digest 69 = .ok (.lstore_n 1, 1) := bX2_digest_48.2.2.2.2.2.2.2.2.2.2.2.2.2.2.2
set_option maxRecDepth 100000 in
theorem bX2_digest_70 : (decode cX2_digest 70 = .ok (.lload_n 1, 1)) ∧ (decode cX2_digest 71 = .ok (.ldc2_w 252, 3)) ∧ (decode cX2_digest 74 = .ok (.lmul, 1)) ∧ (decode cX2_digest 75 = .ok (.aload_n 0, 1)) ∧ (decode cX2_digest 76 = .ok (.iload_n 3, 1)) ∧ (decode cX2_digest 77 = .ok (.invokevirtual 264, 3)) ∧ (decode cX2_digest 80 = .ok (.i2l, 1)) ∧ (decode cX2_digest 81 = .ok (.ladd, 1)) ∧ (decode cX2_digest 82 = .ok (.lstore_n 1, 1)) ∧ (decode cX2_digest 83 = .ok (.lload_n 1, 1)) ∧ (decode cX2_digest 84 = .ok (.ldc2_w 252, 3)) ∧ (decode cX2_digest 87 = .ok (.lmul, 1)) ∧ (decode cX2_digest 88 = .ok (.aload_n 0, 1)) ∧ (decode cX2_digest 89 = .ok (.iload_n 3, 1)) ∧ (decode cX2_digest 90 = .ok (.invokevirtual 267, 3)) ∧ (decode cX2_digest 93 = .ok (.i2l, 1)) := by decide +kernel
theorem dX2_digest_70 : decode cX2_digest 70 = .ok (.lload_n 1, 1) := bX2_digest_70.1
theorem dX2_digest_71 : decode cX2_digest 71 = .ok (.ldc2_w 252, 3) := bX2_digest_70.2.1
theorem dX2_digest_74 : decode cX2_digest 74 = .ok (.lmul, 1) := bX2_digest_70.2.2.1
theorem dX2_digest_75 : decode cX2_digest 75 = .ok (.aload_n 0, 1) := bX2_digest_70.2.2.2.1
theorem dX2_digest_76 : decode cX2_digest 76 = .ok (.iload_n 3, 1) := bX2_digest_70.2.2.2.2.1
theorem dX2_digest_77 : decode cX2_digest 77 = .ok (.invokevirtual 264, 3) := bX2_digest_70.2.2.2.2.2.1
theorem dX2_digest_80 : decode cX2_digest 80 = .ok (.i2l, 1) := bX2_digest_70.2.2.2.2.2.2.1
theorem dX2_digest_81 : decode cX2_digest 81 = .ok (.ladd, 1) := bX2_digest_70.2.2.2.2.2.2.2.1
theorem dX2_digest_82 : decode cX2_digest 82 = .ok (.lstore_n 1, 1) := bX2_digest_70.2.2.2.2.2.2.2.2.1
theorem dX2_digest_83 : decode cX2_digest 83 = .ok (.lload_n 1, 1) := bX2_digest_70.2.2.2.2.2.2.2.2.2.1
theorem dX2_digest_84 : decode cX2_digest 84 = .ok (.ldc2_w 252, 3) := bX2_digest_70.2.2.2.2.2.2.2.2.2.2.1
theorem dX2_digest_87 : decode cX2_digest 87 = .ok (.lmul, 1) := bX2_digest_70.2.2.2.2.2.2.2.2.2.2.2.1
theorem dX2_digest_88 : decode cX2_digest 88 = .ok (.aload_n 0, 1) := bX2_digest_70.2.2.2.2.2.2.2.2.2.2.2.2.1
theorem dX2_digest_89 : decode cX2_digest 89 = .ok (.iload_n 3, 1) := bX2_digest_70.2.2.2.2.2.2.2.2.2.2.2.2.2.1
theorem dX2_digest_90 : decode cX2_digest 90 = .ok (.invokevirtual 267, 3) := bX2_digest_70.2.2.2.2.2.2.2.2.2.2.2.2.2.2.1
theorem dX2_digest_93 : decode cX2_digest 93 = .ok (.i2l, 1) := bX2_digest_70.2.2.2.2.2.2.2.2.2.2.2.2.2.2.2
set_option maxRecDepth 100000 in
theorem bX2_digest_94 : (decode cX2_digest 94 = .ok (.ladd, 1)) ∧ (decode cX2_digest 95 = .ok (.lstore_n 1, 1)) ∧ (decode cX2_digest 96 = .ok (.lload_n 1, 1)) ∧ (decode cX2_digest 97 = .ok (.ldc2_w 252, 3)) ∧ (decode cX2_digest 100 = .ok (.lmul, 1)) ∧ (decode cX2_digest 101 = .ok (.aload_n 0, 1)) ∧ (decode cX2_digest 102 = .ok (.iload_n 3, 1)) ∧ (decode cX2_digest 103 = .ok (.invokevirtual 270, 3)) ∧ (decode cX2_digest 106 = .ok (.i2l, 1)) ∧ (decode cX2_digest 107 = .ok (.ladd, 1)) ∧ (decode cX2_digest 108 = .ok (.lstore_n 1, 1)) ∧ (decode cX2_digest 109 = .ok (.lload_n 1, 1)) ∧ (decode cX2_digest 110 = .ok (.ldc2_w 252, 3)) ∧ (decode cX2_digest 113 = .ok (.lmul, 1)) ∧ (decode cX2_digest 114 = .ok (.aload_n 0, 1)) ∧ (decode cX2_digest 115 = .ok (.iload_n 3, 1)) := by decide +kernel
theorem dX2_digest_94 : decode cX2_digest 94 = .ok (.ladd, 1) := bX2_digest_94.1
theorem dX2_digest_95 : decode cX2_digest 95 = .ok (.lstore_n 1, 1) := bX2_digest_94.2.1
theorem dX2_digest_96 : decode cX2_digest 96 = .ok (.lload_n 1, 1) := bX2_digest_94.2.2.1
theorem dX2_digest_97 : decode cX2_digest 97 = .ok (.ldc2_w 252, 3) := bX2_digest_94.2.2.2.1
theorem dX2_digest_100 : decode cX2_digest 100 = .ok (.lmul, 1) := bX2_digest_94.2.2.2.2.1
theorem dX2_digest_101 : decode cX2_digest 101 = .ok (.aload_n 0, 1) := bX2_digest_94.2.2.2.2.2.1
theorem dX2_digest_102 : decode cX2_digest 102 = .ok (.iload_n 3, 1) := bX2_digest_94.2.2.2.2.2.2.1
theorem dX2_digest_103 : decode cX2_digest 103 = .ok (.invokevirtual 270, 3) := bX2_digest_94.2.2.2.2.2.2.2.1
theorem dX2_digest_106 : decode cX2_digest 106 = .ok (.i2l, 1) := bX2_digest_94.2.2.2.2.2.2.2.2.1
theorem dX2_digest_107 : decode cX2_digest 107 = .ok (.ladd, 1) := bX2_digest_94.2.2.2.2.2.2.2.2.2.1
theorem dX2_digest_108 : decode cX2_digest 108 = .ok (.lstore_n 1, 1) := bX2_digest_94.2.2.2.2.2.2.2.2.2.2.1
theorem dX2_digest_109 : decode cX2_digest 109 = .ok (.lload_n 1, 1) := bX2_digest_94.2.2.2.2.2.2.2.2.2.2.2.1
theorem dX2_digest_110 : decode cX2_digest 110 = .ok (.ldc2_w 252, 3) := bX2_digest_94.2.2.2.2.2.2.2.2.2.2.2.2.1
theorem dX2_digest_113 : decode cX2_digest 113 = .ok (.lmul, 1) := bX2_digest_94.2.2.2.2.2.2.2.2.2.2.2.2.2.1
theorem dX2_digest_114 : decode cX2_digest 114 = .ok (.aload_n 0, 1) := bX2_digest_94.2.2.2.2.2.2.2.2.2.2.2.2.2.2.1
theorem dX2_digest_115 : decode cX2_digest 115 = .ok (.iload_n 3, 1) := bX2_digest_94.2.2.2.2.2.2.2.2.2.2.2.2.2.2.2
set_option maxRecDepth 100000 in
theorem bX2_digest_116 : (decode cX2_digest 116 = .ok (.invokevirtual 273, 3)) ∧ (decode cX2_digest 119 = .ok (.i2l, 1)) ∧ (decode cX2_digest 120 = .ok (.ladd, 1)) ∧ (decode cX2_digest 121 = .ok (.lstore_n 1, 1)) ∧ (decode cX2_digest 122 = .ok (.lload_n 1, 1)) ∧ (decode cX2_digest 123 = .ok (.ldc2_w 252, 3)) ∧ (decode cX2_digest 126 = .ok (.lmul, 1)) ∧ (decode cX2_digest 127 = .ok (.aload_n 0, 1)) ∧ (decode cX2_digest 128 = .ok (.iload_n 3, 1)) ∧ (decode cX2_digest 129 = .ok (.invokevirtual 276, 3)) ∧ (decode cX2_digest 132 = .ok (.i2l, 1)) ∧ (decode cX2_digest 133 = .ok (.ladd, 1)) ∧ (decode cX2_digest 134 = .ok (.lstore_n 1, 1)) ∧ (decode cX2_digest 135 = .ok (.iinc 3 1, 3)) ∧ (decode cX2_digest 138 = .ok (.goto (-132), 3)) ∧ (decode cX2_digest 141 = .ok (.iconst 0, 1)) := by decide +kernel
theorem dX2_digest_116 : decode cX2_digest 116 = .ok (.invokevirtual 273, 3) := bX2_digest_116.1
theorem dX2_digest_119 : decode cX2_digest 119 = .ok (.i2l, 1) := bX2_digest_116.2.1
theorem dX2_digest_120 : decode cX2_digest 120 = .ok (.ladd, 1) := bX2_digest_116.2.2.1
theorem dX2_digest_121 : decode cX2_digest 121 = .ok (.lstore_n 1, 1) := bX2_digest_116.2.2.2.1
theorem dX2_digest_122 : decode cX2_digest 122 = .ok (.lload_n 1, 1) := bX2_digest_116.2.2.2.2.1
theorem dX2_digest_123 : decode cX2_digest 123 = .ok (.ldc2_w 252, 3) := bX2_digest_116.2.2.2.2.2.1
theorem dX2_digest_126 : decode cX2_digest 126 = .ok (.lmul, 1) := bX2_digest_116.2.2.2.2.2.2.1
theorem dX2_digest_127 : decode cX2_digest 127 = .ok (.aload_n 0, 1) := bX2_digest_116.2.2.2.2.2.2.2.1
theorem dX2_digest_128 : decode cX2_digest 128 = .ok (.iload_n 3, 1) := bX2_digest_116.2.2.2.2.2.2.2.2.1
theorem dX2_digest_129 : decode cX2_digest 129 = .ok (.invokevirtual 276, 3) := bX2_digest_116.2.2.2.2.2.2.2.2.2.1
theorem dX2_digest_132 : decode cX2_digest 132 = .ok (.i2l, 1) := bX2_digest_116.2.2.2.2.2.2.2.2.2.2.1
theorem dX2_digest_133 : decode cX2_digest 133 = .ok (.ladd, 1) := bX2_digest_116.2.2.2.2.2.2.2.2.2.2.2.1
theorem dX2_digest_134 : decode cX2_digest 134 = .ok (.lstore_n 1, 1) := bX2_digest_116.2.2.2.2.2.2.2.2.2.2.2.2.1
theorem dX2_digest_135 : decode cX2_digest 135 = .ok (.iinc 3 1, 3) := bX2_digest_116.2.2.2.2.2.2.2.2.2.2.2.2.2.1
theorem dX2_digest_138 : decode cX2_digest 138 = .ok (.goto (-132), 3) := bX2_digest_116.2.2.2.2.2.2.2.2.2.2.2.2.2.2.1
theorem dX2_digest_141 : decode cX2_digest 141 = .ok (.iconst 0, 1) := bX2_digest_116.2.2.2.2.2.2.2.2.2.2.2.2.2.2.2
set_option maxRecDepth 100000 in
theorem bX2_digest_142 : (decode cX2_digest 142 = .ok (.istore_n 3, 1)) ∧ (decode cX2_digest 143 = .ok (.iload_n 3, 1)) ∧ (decode cX2_digest 144 = .ok (.iconst 5, 1)) ∧ (decode cX2_digest 145 = .ok (.if_icmp .gt 22, 3)) ∧ (decode cX2_digest 148 = .ok (.lload_n 1, 1)) ∧ (decode cX2_digest 149 = .ok (.ldc2_w 252, 3)) ∧ (decode cX2_digest 152 = .ok (.lmul, 1)) ∧ (decode cX2_digest 153 = .ok (.aload_n 0, 1)) ∧ (decode cX2_digest 154 = .ok (.iload_n 3, 1)) ∧ (decode cX2_digest 155 = .ok (.invokevirtual 279, 3)) ∧ (decode cX2_digest 158 = .ok (.i2l, 1)) ∧ (decode cX2_digest 159 = .ok (.ladd, 1)) ∧ (decode cX2_digest 160 = .ok (.lstore_n 1, 1)) ∧ (decode cX2_digest 161 = .ok (.iinc 3 1, 3)) ∧ (decode cX2_digest 164 = .ok (.goto (-21), 3)) ∧ (decode cX2_digest 167 = .ok (.lload_n 1, 1)) := by decide +kernel
theorem dX2_digest_142 : decode cX2_digest 142 = .ok (.istore_n 3, 1) := bX2_digest_142.1
theorem dX2_digest_143 : decode cX2_digest 143 = .ok (.iload_n 3, 1) := bX2_digest_142.2.1
theorem dX2_digest_144 : decode cX2_digest 144 = .ok (.iconst 5, 1) := bX2_digest_142.2.2.1
theorem dX2_digest_145 : decode cX2_digest 145 = .ok (.if_icmp .gt 22, 3) := bX2_digest_142.2.2.2.1
theorem dX2_digest_148 : decode cX2_digest 148 = .ok (.lload_n 1, 1) := bX2_digest_142.2.2.2.2.1
theorem dX2_digest_149 : decode cX2_digest 149 = .ok (.ldc2_w 252, 3) := bX2_digest_142.2.2.2.2.2.1
theorem dX2_digest_152 : decode cX2_digest 152 = .ok (.lmul, 1) := bX2_digest_142.2.2.2.2.2.2.1
theorem dX2_digest_153 : decode cX2_digest 153 = .ok (.aload_n 0, 1) := bX2_digest_142.2.2.2.2.2.2.2.1
theorem dX2_digest_154 : decode cX2_digest 154 = .ok (.iload_n 3, 1) := bX2_digest_142.2.2.2.2.2.2.2.2.1
theorem dX2_digest_155 : decode cX2_digest 155 = .ok (.invokevirtual 279, 3) := bX2_digest_142.2.2.2.2.2.2.2.2.2.1
theorem dX2_digest_158 : decode cX2_digest 158 = .ok (.i2l, 1) := bX2_digest_142.2.2.2.2.2.2.2.2.2.2.1
theorem dX2_digest_159 : decode cX2_digest 159 = .ok (.ladd, 1) := bX2_digest_142.2.2.2.2.2.2.2.2.2.2.2.1
theorem dX2_digest_160 : decode cX2_digest 160 = .ok (.lstore_n 1, 1) := bX2_digest_142.2.2.2.2.2.2.2.2.2.2.2.2.1
theorem dX2_digest_161 : decode cX2_digest 161 = .ok (.iinc 3 1, 3) := bX2_digest_142.2.2.2.2.2.2.2.2.2.2.2.2.2.1
theorem dX2_digest_164 : decode cX2_digest 164 = .ok (.goto (-21), 3) := bX2_digest_142.2.2.2.2.2.2.2.2.2.2.2.2.2.2.1
theorem dX2_digest_167 : decode cX2_digest 167 = .ok (.lload_n 1, 1) := bX2_digest_142.2.2.2.2.2.2.2.2.2.2.2.2.2.2.2
set_option maxRecDepth 100000 in
theorem bX2_digest_168 : (decode cX2_digest 168 = .ok (.ldc2_w 252, 3)) ∧ (decode cX2_digest 171 = .ok (.lmul, 1)) ∧ (decode cX2_digest 172 = .ok (.aload_n 0, 1)) ∧ (decode cX2_digest 173 = .ok (.invokevirtual 282, 3)) ∧ (decode cX2_digest 176 = .ok (.ifCond .eq 7, 3)) ∧ (decode cX2_digest 179 = .ok (.iconst 1, 1)) ∧ (decode cX2_digest 180 = .ok (.goto 4, 3)) ∧ (decode cX2_digest 183 = .ok (.iconst 0, 1)) ∧ (decode cX2_digest 184 = .ok (.i2l, 1)) ∧ (decode cX2_digest 185 = .ok (.ladd, 1)) ∧ (decode cX2_digest 186 = .ok (.lreturn, 1)) := by decide +kernel
theorem dX2_digest_168 : decode cX2_digest 168 = .ok (.ldc2_w 252, 3) := bX2_digest_168.1
theorem dX2_digest_171 : decode cX2_digest 171 = .ok (.lmul, 1) := bX2_digest_168.2.1
theorem dX2_digest_172 : decode cX2_digest 172 = .ok (.aload_n 0, 1) := bX2_digest_168.2.2.1
theorem dX2_digest_173 : decode cX2_digest 173 = .ok (.invokevirtual 282, 3) := bX2_digest_168.2.2.2.1
theorem dX2_digest_176 : decode cX2_digest 176 = .ok (.ifCond .eq 7, 3) := bX2_digest_168.2.2.2.2.1
theorem dX2_digest_179 : decode cX2_digest 179 = .ok (.iconst 1, 1) := bX2_digest_168.2.2.2.2.2.1
theorem dX2_digest_180 : decode cX2_digest 180 = .ok (.goto 4, 3) := bX2_digest_168.2.2.2.2.2.2.1
theorem dX2_digest_183 : decode cX2_digest 183 = .ok (.iconst 0, 1) := bX2_digest_168.2.2.2.2.2.2.2.1
theorem dX2_digest_184 : decode cX2_digest 184 = .ok (.i2l, 1) := bX2_digest_168.2.2.2.2.2.2.2.2.1
theorem dX2_digest_185 : decode cX2_digest 185 = .ok (.ladd, 1) := bX2_digest_168.2.2.2.2.2.2.2.2.2.1
theorem dX2_digest_186 : decode cX2_digest 186 = .ok (.lreturn, 1) := bX2_digest_168.2.2.2.2.2.2.2.2.2.2
set_option maxRecDepth 100000 in
theorem bX2_rowOf_0 : (decode cX2_rowOf 0 = .ok (.iload_n 1, 1)) ∧ (decode cX2_rowOf 1 = .ok (.ifCond .lt 12, 3)) ∧ (decode cX2_rowOf 4 = .ok (.iload_n 1, 1)) ∧ (decode cX2_rowOf 5 = .ok (.aload_n 0, 1)) ∧ (decode cX2_rowOf 6 = .ok (.getfield 11, 3)) ∧ (decode cX2_rowOf 9 = .ok (.arraylength, 1)) ∧ (decode cX2_rowOf 10 = .ok (.if_icmp .lt 14, 3)) ∧ (decode cX2_rowOf 13 = .ok (.new 285, 3)) ∧ (decode cX2_rowOf 16 = .ok (.dup, 1)) ∧ (decode cX2_rowOf 17 = .ok (.ldc_w 287, 3)) ∧ (decode cX2_rowOf 20 = .ok (.invokespecial 289, 3)) ∧ (decode cX2_rowOf 23 = .ok (.athrow, 1)) ∧ (decode cX2_rowOf 24 = .ok (.aload_n 0, 1)) ∧ (decode cX2_rowOf 25 = .ok (.getfield 11, 3)) ∧ (decode cX2_rowOf 28 = .ok (.iload_n 1, 1)) ∧ (decode cX2_rowOf 29 = .ok (.aaload, 1)) := by decide +kernel
theorem dX2_rowOf_0 : decode cX2_rowOf 0 = .ok (.iload_n 1, 1) := bX2_rowOf_0.1
theorem dX2_rowOf_1 : decode cX2_rowOf 1 = .ok (.ifCond .lt 12, 3) := bX2_rowOf_0.2.1
theorem dX2_rowOf_4 : decode cX2_rowOf 4 = .ok (.iload_n 1, 1) := bX2_rowOf_0.2.2.1
theorem dX2_rowOf_5 : decode cX2_rowOf 5 = .ok (.aload_n 0, 1) := bX2_rowOf_0.2.2.2.1
theorem dX2_rowOf_6 : decode cX2_rowOf 6 = .ok (.getfield 11, 3) := bX2_rowOf_0.2.2.2.2.1
theorem dX2_rowOf_9 : decode cX2_rowOf 9 = .ok (.arraylength, 1) := bX2_rowOf_0.2.2.2.2.2.1
theorem dX2_rowOf_10 : decode cX2_rowOf 10 = .ok (.if_icmp .lt 14, 3) := bX2_rowOf_0.2.2.2.2.2.2.1
theorem dX2_rowOf_13 : decode cX2_rowOf 13 = .ok (.new 285, 3) := bX2_rowOf_0.2.2.2.2.2.2.2.1
theorem dX2_rowOf_16 : decode cX2_rowOf 16 = .ok (.dup, 1) := bX2_rowOf_0.2.2.2.2.2.2.2.2.1
theorem dX2_rowOf_17 : decode cX2_rowOf 17 = .ok (.ldc_w 287, 3) := bX2_rowOf_0.2.2.2.2.2.2.2.2.2.1
theorem dX2_rowOf_20 : decode cX2_rowOf 20 = .ok (.invokespecial 289, 3) := bX2_rowOf_0.2.2.2.2.2.2.2.2.2.2.1
theorem dX2_rowOf_23 : decode cX2_rowOf 23 = .ok (.athrow, 1) := bX2_rowOf_0.2.2.2.2.2.2.2.2.2.2.2.1
theorem dX2_rowOf_24 : decode cX2_rowOf 24 = .ok (.aload_n 0, 1) := bX2_rowOf_0.2.2.2.2.2.2.2.2.2.2.2.2.1
theorem dX2_rowOf_25 : decode cX2_rowOf 25 = .ok (.getfield 11, 3) := bX2_rowOf_0.2.2.2.2.2.2.2.2.2.2.2.2.2.1
theorem dX2_rowOf_28 : decode cX2_rowOf 28 = .ok (.iload_n 1, 1) := bX2_rowOf_0.2.2.2.2.2.2.2.2.2.2.2.2.2.2.1
theorem dX2_rowOf_29 : decode cX2_rowOf 29 = .ok (.aaload, 1) := bX2_rowOf_0.2.2.2.2.2.2.2.2.2.2.2.2.2.2.2
theorem dX2_rowOf_30 : decode cX2_rowOf 30 = .ok (.areturn, 1) := by decide +kernel
set_option maxRecDepth 100000 in
theorem bX2_demand_0 : (decode cX2_demand 0 = .ok (.iload_n 0, 1)) ∧ (decode cX2_demand 1 = .ok (.ifCond .ne 14, 3)) ∧ (decode cX2_demand 4 = .ok (.new 235, 3)) ∧ (decode cX2_demand 7 = .ok (.dup, 1)) ∧ (decode cX2_demand 8 = .ok (.ldc_w 290, 3)) ∧ (decode cX2_demand 11 = .ok (.invokespecial 239, 3)) ∧ (decode cX2_demand 14 = .ok (.athrow, 1)) ∧ (decode cX2_demand 15 = .ok (.return_, 1)) := by decide +kernel
theorem dX2_demand_0 : decode cX2_demand 0 = .ok (.iload_n 0, 1) := bX2_demand_0.1
theorem dX2_demand_1 : decode cX2_demand 1 = .ok (.ifCond .ne 14, 3) := bX2_demand_0.2.1
theorem dX2_demand_4 : decode cX2_demand 4 = .ok (.new 235, 3) := bX2_demand_0.2.2.1
theorem dX2_demand_7 : decode cX2_demand 7 = .ok (.dup, 1) := bX2_demand_0.2.2.2.1
theorem dX2_demand_8 : decode cX2_demand 8 = .ok (.ldc_w 290, 3) := bX2_demand_0.2.2.2.2.1
theorem dX2_demand_11 : decode cX2_demand 11 = .ok (.invokespecial 239, 3) := bX2_demand_0.2.2.2.2.2.1
theorem dX2_demand_14 : decode cX2_demand 14 = .ok (.athrow, 1) := bX2_demand_0.2.2.2.2.2.2.1
theorem dX2_demand_15 : decode cX2_demand 15 = .ok (.return_, 1) := bX2_demand_0.2.2.2.2.2.2.2
set_option maxRecDepth 100000 in
theorem bX2_demandKey_0 : (decode cX2_demandKey 0 = .ok (.iload_n 0, 1)) ∧ (decode cX2_demandKey 1 = .ok (.ldc_w 292, 3)) ∧ (decode cX2_demandKey 4 = .ok (.if_icmp .lt 14, 3)) ∧ (decode cX2_demandKey 7 = .ok (.iload_n 0, 1)) ∧ (decode cX2_demandKey 8 = .ok (.ldc_w 293, 3)) ∧ (decode cX2_demandKey 11 = .ok (.if_icmp .gt 7, 3)) ∧ (decode cX2_demandKey 14 = .ok (.iconst 1, 1)) ∧ (decode cX2_demandKey 15 = .ok (.goto 4, 3)) ∧ (decode cX2_demandKey 18 = .ok (.iconst 0, 1)) ∧ (decode cX2_demandKey 19 = .ok (.invokestatic 35, 3)) ∧ (decode cX2_demandKey 22 = .ok (.return_, 1)) := by decide +kernel
theorem dX2_demandKey_0 : decode cX2_demandKey 0 = .ok (.iload_n 0, 1) := bX2_demandKey_0.1
theorem dX2_demandKey_1 : decode cX2_demandKey 1 = .ok (.ldc_w 292, 3) := bX2_demandKey_0.2.1
theorem dX2_demandKey_4 : decode cX2_demandKey 4 = .ok (.if_icmp .lt 14, 3) := bX2_demandKey_0.2.2.1
theorem dX2_demandKey_7 : decode cX2_demandKey 7 = .ok (.iload_n 0, 1) := bX2_demandKey_0.2.2.2.1
theorem dX2_demandKey_8 : decode cX2_demandKey 8 = .ok (.ldc_w 293, 3) := bX2_demandKey_0.2.2.2.2.1
theorem dX2_demandKey_11 : decode cX2_demandKey 11 = .ok (.if_icmp .gt 7, 3) := bX2_demandKey_0.2.2.2.2.2.1
theorem dX2_demandKey_14 : decode cX2_demandKey 14 = .ok (.iconst 1, 1) := bX2_demandKey_0.2.2.2.2.2.2.1
theorem dX2_demandKey_15 : decode cX2_demandKey 15 = .ok (.goto 4, 3) := bX2_demandKey_0.2.2.2.2.2.2.2.1
theorem dX2_demandKey_18 : decode cX2_demandKey 18 = .ok (.iconst 0, 1) := bX2_demandKey_0.2.2.2.2.2.2.2.2.1
theorem dX2_demandKey_19 : decode cX2_demandKey 19 = .ok (.invokestatic 35, 3) := bX2_demandKey_0.2.2.2.2.2.2.2.2.2.1
theorem dX2_demandKey_22 : decode cX2_demandKey 22 = .ok (.return_, 1) := bX2_demandKey_0.2.2.2.2.2.2.2.2.2.2
set_option maxRecDepth 100000 in
theorem bX2_demandWithin_0 : (decode cX2_demandWithin 0 = .ok (.iload_n 0, 1)) ∧ (decode cX2_demandWithin 1 = .ok (.ifCond .ne 14, 3)) ∧ (decode cX2_demandWithin 4 = .ok (.new 285, 3)) ∧ (decode cX2_demandWithin 7 = .ok (.dup, 1)) ∧ (decode cX2_demandWithin 8 = .ok (.ldc_w 294, 3)) ∧ (decode cX2_demandWithin 11 = .ok (.invokespecial 289, 3)) ∧ (decode cX2_demandWithin 14 = .ok (.athrow, 1)) ∧ (decode cX2_demandWithin 15 = .ok (.return_, 1)) := by decide +kernel
theorem dX2_demandWithin_0 : decode cX2_demandWithin 0 = .ok (.iload_n 0, 1) := bX2_demandWithin_0.1
theorem dX2_demandWithin_1 : decode cX2_demandWithin 1 = .ok (.ifCond .ne 14, 3) := bX2_demandWithin_0.2.1
theorem dX2_demandWithin_4 : decode cX2_demandWithin 4 = .ok (.new 285, 3) := bX2_demandWithin_0.2.2.1
theorem dX2_demandWithin_7 : decode cX2_demandWithin 7 = .ok (.dup, 1) := bX2_demandWithin_0.2.2.2.1
theorem dX2_demandWithin_8 : decode cX2_demandWithin 8 = .ok (.ldc_w 294, 3) := bX2_demandWithin_0.2.2.2.2.1
theorem dX2_demandWithin_11 : decode cX2_demandWithin 11 = .ok (.invokespecial 289, 3) := bX2_demandWithin_0.2.2.2.2.2.1
theorem dX2_demandWithin_14 : decode cX2_demandWithin 14 = .ok (.athrow, 1) := bX2_demandWithin_0.2.2.2.2.2.2.1
theorem dX2_demandWithin_15 : decode cX2_demandWithin 15 = .ok (.return_, 1) := bX2_demandWithin_0.2.2.2.2.2.2.2
set_option maxRecDepth 100000 in
theorem bX2_demandPlace_0 : (decode cX2_demandPlace 0 = .ok (.iload_n 1, 1)) ∧ (decode cX2_demandPlace 1 = .ok (.ifCond .lt 15, 3)) ∧ (decode cX2_demandPlace 4 = .ok (.iload_n 1, 1)) ∧ (decode cX2_demandPlace 5 = .ok (.aload_n 0, 1)) ∧ (decode cX2_demandPlace 6 = .ok (.getfield 39, 3)) ∧ (decode cX2_demandPlace 9 = .ok (.if_icmp .ge 7, 3)) ∧ (decode cX2_demandPlace 12 = .ok (.iconst 1, 1)) ∧ (decode cX2_demandPlace 13 = .ok (.goto 4, 3)) ∧ (decode cX2_demandPlace 16 = .ok (.iconst 0, 1)) ∧ (decode cX2_demandPlace 17 = .ok (.invokestatic 110, 3)) ∧ (decode cX2_demandPlace 20 = .ok (.return_, 1)) := by decide +kernel
theorem dX2_demandPlace_0 : decode cX2_demandPlace 0 = .ok (.iload_n 1, 1) := bX2_demandPlace_0.1
theorem dX2_demandPlace_1 : decode cX2_demandPlace 1 = .ok (.ifCond .lt 15, 3) := bX2_demandPlace_0.2.1
theorem dX2_demandPlace_4 : decode cX2_demandPlace 4 = .ok (.iload_n 1, 1) := bX2_demandPlace_0.2.2.1
theorem dX2_demandPlace_5 : decode cX2_demandPlace 5 = .ok (.aload_n 0, 1) := bX2_demandPlace_0.2.2.2.1
theorem dX2_demandPlace_6 : decode cX2_demandPlace 6 = .ok (.getfield 39, 3) := bX2_demandPlace_0.2.2.2.2.1
theorem dX2_demandPlace_9 : decode cX2_demandPlace 9 = .ok (.if_icmp .ge 7, 3) := bX2_demandPlace_0.2.2.2.2.2.1
theorem dX2_demandPlace_12 : decode cX2_demandPlace 12 = .ok (.iconst 1, 1) := bX2_demandPlace_0.2.2.2.2.2.2.1
theorem dX2_demandPlace_13 : decode cX2_demandPlace 13 = .ok (.goto 4, 3) := bX2_demandPlace_0.2.2.2.2.2.2.2.1
theorem dX2_demandPlace_16 : decode cX2_demandPlace 16 = .ok (.iconst 0, 1) := bX2_demandPlace_0.2.2.2.2.2.2.2.2.1
theorem dX2_demandPlace_17 : decode cX2_demandPlace 17 = .ok (.invokestatic 110, 3) := bX2_demandPlace_0.2.2.2.2.2.2.2.2.2.1
theorem dX2_demandPlace_20 : decode cX2_demandPlace 20 = .ok (.return_, 1) := bX2_demandPlace_0.2.2.2.2.2.2.2.2.2.2
set_option maxRecDepth 100000 in
theorem bX2_demandPlaceWithNext_0 : (decode cX2_demandPlaceWithNext 0 = .ok (.iload_n 1, 1)) ∧ (decode cX2_demandPlaceWithNext 1 = .ok (.ifCond .lt 17, 3)) ∧ (decode cX2_demandPlaceWithNext 4 = .ok (.iload_n 1, 1)) ∧ (decode cX2_demandPlaceWithNext 5 = .ok (.aload_n 0, 1)) ∧ (decode cX2_demandPlaceWithNext 6 = .ok (.getfield 39, 3)) ∧ (decode cX2_demandPlaceWithNext 9 = .ok (.iconst 1, 1)) ∧ (decode cX2_demandPlaceWithNext 10 = .ok (.isub, 1)) ∧ (decode cX2_demandPlaceWithNext 11 = .ok (.if_icmp .ge 7, 3)) ∧ (decode cX2_demandPlaceWithNext 14 = .ok (.iconst 1, 1)) ∧ (decode cX2_demandPlaceWithNext 15 = .ok (.goto 4, 3)) ∧ (decode cX2_demandPlaceWithNext 18 = .ok (.iconst 0, 1)) ∧ (decode cX2_demandPlaceWithNext 19 = .ok (.invokestatic 110, 3)) ∧ (decode cX2_demandPlaceWithNext 22 = .ok (.return_, 1)) := by decide +kernel
theorem dX2_demandPlaceWithNext_0 : decode cX2_demandPlaceWithNext 0 = .ok (.iload_n 1, 1) := bX2_demandPlaceWithNext_0.1
theorem dX2_demandPlaceWithNext_1 : decode cX2_demandPlaceWithNext 1 = .ok (.ifCond .lt 17, 3) := bX2_demandPlaceWithNext_0.2.1
theorem dX2_demandPlaceWithNext_4 : decode cX2_demandPlaceWithNext 4 = .ok (.iload_n 1, 1) := bX2_demandPlaceWithNext_0.2.2.1
theorem dX2_demandPlaceWithNext_5 : decode cX2_demandPlaceWithNext 5 = .ok (.aload_n 0, 1) := bX2_demandPlaceWithNext_0.2.2.2.1
theorem dX2_demandPlaceWithNext_6 : decode cX2_demandPlaceWithNext 6 = .ok (.getfield 39, 3) := bX2_demandPlaceWithNext_0.2.2.2.2.1
theorem dX2_demandPlaceWithNext_9 : decode cX2_demandPlaceWithNext 9 = .ok (.iconst 1, 1) := bX2_demandPlaceWithNext_0.2.2.2.2.2.1
theorem dX2_demandPlaceWithNext_10 : decode cX2_demandPlaceWithNext 10 = .ok (.isub, 1) := bX2_demandPlaceWithNext_0.2.2.2.2.2.2.1
theorem dX2_demandPlaceWithNext_11 : decode cX2_demandPlaceWithNext 11 = .ok (.if_icmp .ge 7, 3) := bX2_demandPlaceWithNext_0.2.2.2.2.2.2.2.1
theorem dX2_demandPlaceWithNext_14 : decode cX2_demandPlaceWithNext 14 = .ok (.iconst 1, 1) := bX2_demandPlaceWithNext_0.2.2.2.2.2.2.2.2.1
theorem dX2_demandPlaceWithNext_15 : decode cX2_demandPlaceWithNext 15 = .ok (.goto 4, 3) := bX2_demandPlaceWithNext_0.2.2.2.2.2.2.2.2.2.1
theorem dX2_demandPlaceWithNext_18 : decode cX2_demandPlaceWithNext 18 = .ok (.iconst 0, 1) := bX2_demandPlaceWithNext_0.2.2.2.2.2.2.2.2.2.2.1
theorem dX2_demandPlaceWithNext_19 : decode cX2_demandPlaceWithNext 19 = .ok (.invokestatic 110, 3) := bX2_demandPlaceWithNext_0.2.2.2.2.2.2.2.2.2.2.2.1
theorem dX2_demandPlaceWithNext_22 : decode cX2_demandPlaceWithNext 22 = .ok (.return_, 1) := bX2_demandPlaceWithNext_0.2.2.2.2.2.2.2.2.2.2.2.2
set_option maxRecDepth 100000 in
theorem bX2_done_0 : (decode cX2_done 0 = .ok (.aload_n 0, 1)) ∧ (decode cX2_done 1 = .ok (.dup, 1)) ∧ (decode cX2_done 2 = .ok (.getfield 220, 3)) ∧ (decode cX2_done 5 = .ok (.iconst 1, 1)) ∧ (decode cX2_done 6 = .ok (.iadd, 1)) ∧ (decode cX2_done 7 = .ok (.putfield 220, 3)) ∧ (decode cX2_done 10 = .ok (.iload_n 1, 1)) ∧ (decode cX2_done 11 = .ok (.ireturn, 1)) := by decide +kernel
theorem dX2_done_0 : decode cX2_done 0 = .ok (.aload_n 0, 1) := bX2_done_0.1
theorem dX2_done_1 : decode cX2_done 1 = .ok (.dup, 1) := bX2_done_0.2.1
theorem dX2_done_2 : decode cX2_done 2 = .ok (.getfield 220, 3) := bX2_done_0.2.2.1
theorem dX2_done_5 : decode cX2_done 5 = .ok (.iconst 1, 1) := bX2_done_0.2.2.2.1
theorem dX2_done_6 : decode cX2_done 6 = .ok (.iadd, 1) := bX2_done_0.2.2.2.2.1
theorem dX2_done_7 : decode cX2_done 7 = .ok (.putfield 220, 3) := bX2_done_0.2.2.2.2.2.1
theorem dX2_done_10 : decode cX2_done 10 = .ok (.iload_n 1, 1) := bX2_done_0.2.2.2.2.2.2.1
theorem dX2_done_11 : decode cX2_done 11 = .ok (.ireturn, 1) := bX2_done_0.2.2.2.2.2.2.2
set_option maxRecDepth 100000 in
theorem bX2_refused_0 : (decode cX2_refused 0 = .ok (.aload_n 0, 1)) ∧ (decode cX2_refused 1 = .ok (.dup, 1)) ∧ (decode cX2_refused 2 = .ok (.getfield 223, 3)) ∧ (decode cX2_refused 5 = .ok (.iconst 1, 1)) ∧ (decode cX2_refused 6 = .ok (.iadd, 1)) ∧ (decode cX2_refused 7 = .ok (.putfield 223, 3)) ∧ (decode cX2_refused 10 = .ok (.bipush (-9), 2)) ∧ (decode cX2_refused 12 = .ok (.ireturn, 1)) := by decide +kernel
theorem dX2_refused_0 : decode cX2_refused 0 = .ok (.aload_n 0, 1) := bX2_refused_0.1
theorem dX2_refused_1 : decode cX2_refused 1 = .ok (.dup, 1) := bX2_refused_0.2.1
theorem dX2_refused_2 : decode cX2_refused 2 = .ok (.getfield 223, 3) := bX2_refused_0.2.2.1
theorem dX2_refused_5 : decode cX2_refused 5 = .ok (.iconst 1, 1) := bX2_refused_0.2.2.2.1
theorem dX2_refused_6 : decode cX2_refused 6 = .ok (.iadd, 1) := bX2_refused_0.2.2.2.2.1
theorem dX2_refused_7 : decode cX2_refused 7 = .ok (.putfield 223, 3) := bX2_refused_0.2.2.2.2.2.1
theorem dX2_refused_10 : decode cX2_refused 10 = .ok (.bipush (-9), 2) := bX2_refused_0.2.2.2.2.2.2.1
theorem dX2_refused_12 : decode cX2_refused 12 = .ok (.ireturn, 1) := bX2_refused_0.2.2.2.2.2.2.2
set_option maxRecDepth 100000 in
theorem bX2_nextStamp_0 : (decode cX2_nextStamp 0 = .ok (.aload_n 0, 1)) ∧ (decode cX2_nextStamp 1 = .ok (.getfield 229, 3)) ∧ (decode cX2_nextStamp 4 = .ok (.istore_n 1, 1)) ∧ (decode cX2_nextStamp 5 = .ok (.aload_n 0, 1)) ∧ (decode cX2_nextStamp 6 = .ok (.dup, 1)) ∧ (decode cX2_nextStamp 7 = .ok (.getfield 229, 3)) ∧ (decode cX2_nextStamp 10 = .ok (.iconst 1, 1)) ∧ (decode cX2_nextStamp 11 = .ok (.iadd, 1)) ∧ (decode cX2_nextStamp 12 = .ok (.putfield 229, 3)) ∧ (decode cX2_nextStamp 15 = .ok (.iload_n 1, 1)) ∧ (decode cX2_nextStamp 16 = .ok (.ireturn, 1)) := by decide +kernel
theorem dX2_nextStamp_0 : decode cX2_nextStamp 0 = .ok (.aload_n 0, 1) := bX2_nextStamp_0.1
theorem dX2_nextStamp_1 : decode cX2_nextStamp 1 = .ok (.getfield 229, 3) := bX2_nextStamp_0.2.1
theorem dX2_nextStamp_4 : decode cX2_nextStamp 4 = .ok (.istore_n 1, 1) := bX2_nextStamp_0.2.2.1
theorem dX2_nextStamp_5 : decode cX2_nextStamp 5 = .ok (.aload_n 0, 1) := bX2_nextStamp_0.2.2.2.1
theorem dX2_nextStamp_6 : decode cX2_nextStamp 6 = .ok (.dup, 1) := bX2_nextStamp_0.2.2.2.2.1
theorem dX2_nextStamp_7 : decode cX2_nextStamp 7 = .ok (.getfield 229, 3) := bX2_nextStamp_0.2.2.2.2.2.1
theorem dX2_nextStamp_10 : decode cX2_nextStamp 10 = .ok (.iconst 1, 1) := bX2_nextStamp_0.2.2.2.2.2.2.1
theorem dX2_nextStamp_11 : decode cX2_nextStamp 11 = .ok (.iadd, 1) := bX2_nextStamp_0.2.2.2.2.2.2.2.1
theorem dX2_nextStamp_12 : decode cX2_nextStamp 12 = .ok (.putfield 229, 3) := bX2_nextStamp_0.2.2.2.2.2.2.2.2.1
theorem dX2_nextStamp_15 : decode cX2_nextStamp 15 = .ok (.iload_n 1, 1) := bX2_nextStamp_0.2.2.2.2.2.2.2.2.2.1
theorem dX2_nextStamp_16 : decode cX2_nextStamp 16 = .ok (.ireturn, 1) := bX2_nextStamp_0.2.2.2.2.2.2.2.2.2.2
set_option maxRecDepth 100000 in
theorem bX2_stampOfNew_0 : (decode cX2_stampOfNew 0 = .ok (.aload_n 1, 1)) ∧ (decode cX2_stampOfNew 1 = .ok (.getfield 123, 3)) ∧ (decode cX2_stampOfNew 4 = .ok (.ifCond .eq 10, 3)) ∧ (decode cX2_stampOfNew 7 = .ok (.aload_n 0, 1)) ∧ (decode cX2_stampOfNew 8 = .ok (.invokevirtual 296, 3)) ∧ (decode cX2_stampOfNew 11 = .ok (.goto 4, 3)) ∧ (decode cX2_stampOfNew 14 = .ok (.iconst (-1), 1)) ∧ (decode cX2_stampOfNew 15 = .ok (.ireturn, 1)) := by decide +kernel
theorem dX2_stampOfNew_0 : decode cX2_stampOfNew 0 = .ok (.aload_n 1, 1) := bX2_stampOfNew_0.1
theorem dX2_stampOfNew_1 : decode cX2_stampOfNew 1 = .ok (.getfield 123, 3) := bX2_stampOfNew_0.2.1
theorem dX2_stampOfNew_4 : decode cX2_stampOfNew 4 = .ok (.ifCond .eq 10, 3) := bX2_stampOfNew_0.2.2.1
theorem dX2_stampOfNew_7 : decode cX2_stampOfNew 7 = .ok (.aload_n 0, 1) := bX2_stampOfNew_0.2.2.2.1
theorem dX2_stampOfNew_8 : decode cX2_stampOfNew 8 = .ok (.invokevirtual 296, 3) := bX2_stampOfNew_0.2.2.2.2.1
theorem dX2_stampOfNew_11 : decode cX2_stampOfNew 11 = .ok (.goto 4, 3) := bX2_stampOfNew_0.2.2.2.2.2.1
theorem dX2_stampOfNew_14 : decode cX2_stampOfNew 14 = .ok (.iconst (-1), 1) := bX2_stampOfNew_0.2.2.2.2.2.2.1
theorem dX2_stampOfNew_15 : decode cX2_stampOfNew 15 = .ok (.ireturn, 1) := bX2_stampOfNew_0.2.2.2.2.2.2.2
set_option maxRecDepth 100000 in
theorem bX2_appendPattern_0 : (decode cX2_appendPattern 0 = .ok (.iconst 0, 1)) ∧ (decode cX2_appendPattern 1 = .ok (.istore 6, 2)) ∧ (decode cX2_appendPattern 3 = .ok (.iload 6, 2)) ∧ (decode cX2_appendPattern 5 = .ok (.iload_n 2, 1)) ∧ (decode cX2_appendPattern 6 = .ok (.if_icmp .ge 29, 3)) ∧ (decode cX2_appendPattern 9 = .ok (.aload_n 1, 1)) ∧ (decode cX2_appendPattern 10 = .ok (.iload_n 3, 1)) ∧ (decode cX2_appendPattern 11 = .ok (.iload 6, 2)) ∧ (decode cX2_appendPattern 13 = .ok (.iload_n 2, 1)) ∧ (decode cX2_appendPattern 14 = .ok (.iload 4, 2)) ∧ (decode cX2_appendPattern 16 = .ok (.iload 5, 2)) ∧ (decode cX2_appendPattern 18 = .ok (.invokestatic 299, 3)) ∧ (decode cX2_appendPattern 21 = .ok (.aload_n 0, 1)) ∧ (decode cX2_appendPattern 22 = .ok (.aload_n 1, 1)) ∧ (decode cX2_appendPattern 23 = .ok (.invokevirtual 67, 3)) ∧ (decode cX2_appendPattern 26 = .ok (.invokevirtual 71, 3)) := by decide +kernel
theorem dX2_appendPattern_0 : decode cX2_appendPattern 0 = .ok (.iconst 0, 1) := bX2_appendPattern_0.1
theorem dX2_appendPattern_1 : decode cX2_appendPattern 1 = .ok (.istore 6, 2) := bX2_appendPattern_0.2.1
theorem dX2_appendPattern_3 : decode cX2_appendPattern 3 = .ok (.iload 6, 2) := bX2_appendPattern_0.2.2.1
theorem dX2_appendPattern_5 : decode cX2_appendPattern 5 = .ok (.iload_n 2, 1) := bX2_appendPattern_0.2.2.2.1
theorem dX2_appendPattern_6 : decode cX2_appendPattern 6 = .ok (.if_icmp .ge 29, 3) := bX2_appendPattern_0.2.2.2.2.1
theorem dX2_appendPattern_9 : decode cX2_appendPattern 9 = .ok (.aload_n 1, 1) := bX2_appendPattern_0.2.2.2.2.2.1
theorem dX2_appendPattern_10 : decode cX2_appendPattern 10 = .ok (.iload_n 3, 1) := bX2_appendPattern_0.2.2.2.2.2.2.1
theorem dX2_appendPattern_11 : decode cX2_appendPattern 11 = .ok (.iload 6, 2) := bX2_appendPattern_0.2.2.2.2.2.2.2.1
theorem dX2_appendPattern_13 : decode cX2_appendPattern 13 = .ok (.iload_n 2, 1) := bX2_appendPattern_0.2.2.2.2.2.2.2.2.1
theorem dX2_appendPattern_14 : decode cX2_appendPattern 14 = .ok (.iload 4, 2) := bX2_appendPattern_0.2.2.2.2.2.2.2.2.2.1
theorem dX2_appendPattern_16 : decode cX2_appendPattern 16 = .ok (.iload 5, 2) := bX2_appendPattern_0.2.2.2.2.2.2.2.2.2.2.1
theorem dX2_appendPattern_18 : decode cX2_appendPattern 18 = .ok (.invokestatic 299, 3) := bX2_appendPattern_0.2.2.2.2.2.2.2.2.2.2.2.1
theorem dX2_appendPattern_21 : decode cX2_appendPattern 21 = .ok (.aload_n 0, 1) := bX2_appendPattern_0.2.2.2.2.2.2.2.2.2.2.2.2.1
theorem dX2_appendPattern_22 : decode cX2_appendPattern 22 = .ok (.aload_n 1, 1) := bX2_appendPattern_0.2.2.2.2.2.2.2.2.2.2.2.2.2.1
theorem dX2_appendPattern_23 : decode cX2_appendPattern 23 = .ok (.invokevirtual 67, 3) := bX2_appendPattern_0.2.2.2.2.2.2.2.2.2.2.2.2.2.2.1
theorem dX2_appendPattern_26 : decode cX2_appendPattern 26 = .ok (.invokevirtual 71, 3) := bX2_appendPattern_0.2.2.2.2.2.2.2.2.2.2.2.2.2.2.2
set_option maxRecDepth 100000 in
theorem bX2_appendPattern_29 : (decode cX2_appendPattern 29 = .ok (.iinc 6 1, 3)) ∧ (decode cX2_appendPattern 32 = .ok (.goto (-29), 3)) ∧ (decode cX2_appendPattern 35 = .ok (.return_, 1)) := by decide +kernel
theorem dX2_appendPattern_29 : decode cX2_appendPattern 29 = .ok (.iinc 6 1, 3) := bX2_appendPattern_29.1
theorem dX2_appendPattern_32 : decode cX2_appendPattern 32 = .ok (.goto (-29), 3) := bX2_appendPattern_29.2.1
theorem dX2_appendPattern_35 : decode cX2_appendPattern 35 = .ok (.return_, 1) := bX2_appendPattern_29.2.2
set_option maxRecDepth 100000 in
theorem bX2_appendDrawn_0 : (decode cX2_appendDrawn 0 = .ok (.sipush 1000, 3)) ∧ (decode cX2_appendDrawn 3 = .ok (.iload 4, 2)) ∧ (decode cX2_appendDrawn 5 = .ok (.imul, 1)) ∧ (decode cX2_appendDrawn 6 = .ok (.iload_n 3, 1)) ∧ (decode cX2_appendDrawn 7 = .ok (.iadd, 1)) ∧ (decode cX2_appendDrawn 8 = .ok (.sipush 999, 3)) ∧ (decode cX2_appendDrawn 11 = .ok (.iadd, 1)) ∧ (decode cX2_appendDrawn 12 = .ok (.ldc_w 303, 3)) ∧ (decode cX2_appendDrawn 15 = .ok (.irem, 1)) ∧ (decode cX2_appendDrawn 16 = .ok (.istore 5, 2)) ∧ (decode cX2_appendDrawn 18 = .ok (.iconst 0, 1)) ∧ (decode cX2_appendDrawn 19 = .ok (.istore 6, 2)) ∧ (decode cX2_appendDrawn 21 = .ok (.iload 6, 2)) ∧ (decode cX2_appendDrawn 23 = .ok (.iload_n 2, 1)) ∧ (decode cX2_appendDrawn 24 = .ok (.if_icmp .ge 40, 3)) ∧ (decode cX2_appendDrawn 27 = .ok (.iload 5, 2)) := by decide +kernel
theorem dX2_appendDrawn_0 : decode cX2_appendDrawn 0 = .ok (.sipush 1000, 3) := bX2_appendDrawn_0.1
theorem dX2_appendDrawn_3 : decode cX2_appendDrawn 3 = .ok (.iload 4, 2) := bX2_appendDrawn_0.2.1
theorem dX2_appendDrawn_5 : decode cX2_appendDrawn 5 = .ok (.imul, 1) := bX2_appendDrawn_0.2.2.1
theorem dX2_appendDrawn_6 : decode cX2_appendDrawn 6 = .ok (.iload_n 3, 1) := bX2_appendDrawn_0.2.2.2.1
theorem dX2_appendDrawn_7 : decode cX2_appendDrawn 7 = .ok (.iadd, 1) := bX2_appendDrawn_0.2.2.2.2.1
theorem dX2_appendDrawn_8 : decode cX2_appendDrawn 8 = .ok (.sipush 999, 3) := bX2_appendDrawn_0.2.2.2.2.2.1
theorem dX2_appendDrawn_11 : decode cX2_appendDrawn 11 = .ok (.iadd, 1) := bX2_appendDrawn_0.2.2.2.2.2.2.1
theorem dX2_appendDrawn_12 : decode cX2_appendDrawn 12 = .ok (.ldc_w 303, 3) := bX2_appendDrawn_0.2.2.2.2.2.2.2.1
theorem dX2_appendDrawn_15 : decode cX2_appendDrawn 15 = .ok (.irem, 1) := bX2_appendDrawn_0.2.2.2.2.2.2.2.2.1
theorem dX2_appendDrawn_16 : decode cX2_appendDrawn 16 = .ok (.istore 5, 2) := bX2_appendDrawn_0.2.2.2.2.2.2.2.2.2.1
theorem dX2_appendDrawn_18 : decode cX2_appendDrawn 18 = .ok (.iconst 0, 1) := bX2_appendDrawn_0.2.2.2.2.2.2.2.2.2.2.1
theorem dX2_appendDrawn_19 : decode cX2_appendDrawn 19 = .ok (.istore 6, 2) := bX2_appendDrawn_0.2.2.2.2.2.2.2.2.2.2.2.1
theorem dX2_appendDrawn_21 : decode cX2_appendDrawn 21 = .ok (.iload 6, 2) := bX2_appendDrawn_0.2.2.2.2.2.2.2.2.2.2.2.2.1
theorem dX2_appendDrawn_23 : decode cX2_appendDrawn 23 = .ok (.iload_n 2, 1) := bX2_appendDrawn_0.2.2.2.2.2.2.2.2.2.2.2.2.2.1
theorem dX2_appendDrawn_24 : decode cX2_appendDrawn 24 = .ok (.if_icmp .ge 40, 3) := bX2_appendDrawn_0.2.2.2.2.2.2.2.2.2.2.2.2.2.2.1
theorem dX2_appendDrawn_27 : decode cX2_appendDrawn 27 = .ok (.iload 5, 2) := bX2_appendDrawn_0.2.2.2.2.2.2.2.2.2.2.2.2.2.2.2
set_option maxRecDepth 100000 in
theorem bX2_appendDrawn_29 : (decode cX2_appendDrawn 29 = .ok (.sipush 25173, 3)) ∧ (decode cX2_appendDrawn 32 = .ok (.imul, 1)) ∧ (decode cX2_appendDrawn 33 = .ok (.sipush 13849, 3)) ∧ (decode cX2_appendDrawn 36 = .ok (.iadd, 1)) ∧ (decode cX2_appendDrawn 37 = .ok (.ldc_w 303, 3)) ∧ (decode cX2_appendDrawn 40 = .ok (.irem, 1)) ∧ (decode cX2_appendDrawn 41 = .ok (.istore 5, 2)) ∧ (decode cX2_appendDrawn 43 = .ok (.aload_n 1, 1)) ∧ (decode cX2_appendDrawn 44 = .ok (.iload 5, 2)) ∧ (decode cX2_appendDrawn 46 = .ok (.sipush 512, 3)) ∧ (decode cX2_appendDrawn 49 = .ok (.irem, 1)) ∧ (decode cX2_appendDrawn 50 = .ok (.aload_n 0, 1)) ∧ (decode cX2_appendDrawn 51 = .ok (.aload_n 1, 1)) ∧ (decode cX2_appendDrawn 52 = .ok (.invokevirtual 67, 3)) ∧ (decode cX2_appendDrawn 55 = .ok (.invokevirtual 71, 3)) ∧ (decode cX2_appendDrawn 58 = .ok (.iinc 6 1, 3)) := by decide +kernel
theorem dX2_appendDrawn_29 : decode cX2_appendDrawn 29 = .ok (.sipush 25173, 3) := bX2_appendDrawn_29.1
theorem dX2_appendDrawn_32 : decode cX2_appendDrawn 32 = .ok (.imul, 1) := bX2_appendDrawn_29.2.1
theorem dX2_appendDrawn_33 : decode cX2_appendDrawn 33 = .ok (.sipush 13849, 3) := bX2_appendDrawn_29.2.2.1
theorem dX2_appendDrawn_36 : decode cX2_appendDrawn 36 = .ok (.iadd, 1) := bX2_appendDrawn_29.2.2.2.1
theorem dX2_appendDrawn_37 : decode cX2_appendDrawn 37 = .ok (.ldc_w 303, 3) := bX2_appendDrawn_29.2.2.2.2.1
theorem dX2_appendDrawn_40 : decode cX2_appendDrawn 40 = .ok (.irem, 1) := bX2_appendDrawn_29.2.2.2.2.2.1
theorem dX2_appendDrawn_41 : decode cX2_appendDrawn 41 = .ok (.istore 5, 2) := bX2_appendDrawn_29.2.2.2.2.2.2.1
theorem dX2_appendDrawn_43 : decode cX2_appendDrawn 43 = .ok (.aload_n 1, 1) := bX2_appendDrawn_29.2.2.2.2.2.2.2.1
theorem dX2_appendDrawn_44 : decode cX2_appendDrawn 44 = .ok (.iload 5, 2) := bX2_appendDrawn_29.2.2.2.2.2.2.2.2.1
theorem dX2_appendDrawn_46 : decode cX2_appendDrawn 46 = .ok (.sipush 512, 3) := bX2_appendDrawn_29.2.2.2.2.2.2.2.2.2.1
theorem dX2_appendDrawn_49 : decode cX2_appendDrawn 49 = .ok (.irem, 1) := bX2_appendDrawn_29.2.2.2.2.2.2.2.2.2.2.1
theorem dX2_appendDrawn_50 : decode cX2_appendDrawn 50 = .ok (.aload_n 0, 1) := bX2_appendDrawn_29.2.2.2.2.2.2.2.2.2.2.2.1
theorem dX2_appendDrawn_51 : decode cX2_appendDrawn 51 = .ok (.aload_n 1, 1) := bX2_appendDrawn_29.2.2.2.2.2.2.2.2.2.2.2.2.1
theorem dX2_appendDrawn_52 : decode cX2_appendDrawn 52 = .ok (.invokevirtual 67, 3) := bX2_appendDrawn_29.2.2.2.2.2.2.2.2.2.2.2.2.2.1
theorem dX2_appendDrawn_55 : decode cX2_appendDrawn 55 = .ok (.invokevirtual 71, 3) := bX2_appendDrawn_29.2.2.2.2.2.2.2.2.2.2.2.2.2.2.1
theorem dX2_appendDrawn_58 : decode cX2_appendDrawn 58 = .ok (.iinc 6 1, 3) := bX2_appendDrawn_29.2.2.2.2.2.2.2.2.2.2.2.2.2.2.2
set_option maxRecDepth 100000 in
theorem bX2_appendDrawn_61 : (decode cX2_appendDrawn 61 = .ok (.goto (-40), 3)) ∧ (decode cX2_appendDrawn 64 = .ok (.return_, 1)) := by decide +kernel
theorem dX2_appendDrawn_61 : decode cX2_appendDrawn 61 = .ok (.goto (-40), 3) := bX2_appendDrawn_61.1
theorem dX2_appendDrawn_64 : decode cX2_appendDrawn 64 = .ok (.return_, 1) := bX2_appendDrawn_61.2
set_option maxRecDepth 100000 in
theorem bX2_patternKey_0 : (decode cX2_patternKey 0 = .ok (.iload_n 0, 1)) ∧ (decode cX2_patternKey 1 = .ok (.tableswitch 128 1 6 #[39, 46, 53, 60, 90, 105], 39)) ∧ (decode cX2_patternKey 40 = .ok (.iload_n 3, 1)) ∧ (decode cX2_patternKey 41 = .ok (.iload_n 1, 1)) ∧ (decode cX2_patternKey 42 = .ok (.iload 4, 2)) ∧ (decode cX2_patternKey 44 = .ok (.imul, 1)) ∧ (decode cX2_patternKey 45 = .ok (.iadd, 1)) ∧ (decode cX2_patternKey 46 = .ok (.ireturn, 1)) ∧ (decode cX2_patternKey 47 = .ok (.iload_n 3, 1)) ∧ (decode cX2_patternKey 48 = .ok (.iload_n 1, 1)) ∧ (decode cX2_patternKey 49 = .ok (.iload 4, 2)) ∧ (decode cX2_patternKey 51 = .ok (.imul, 1)) ∧ (decode cX2_patternKey 52 = .ok (.isub, 1)) ∧ (decode cX2_patternKey 53 = .ok (.ireturn, 1)) ∧ (decode cX2_patternKey 54 = .ok (.iload_n 3, 1)) ∧ (decode cX2_patternKey 55 = .ok (.iload_n 1, 1)) := by decide +kernel
theorem dX2_patternKey_0 : decode cX2_patternKey 0 = .ok (.iload_n 0, 1) := bX2_patternKey_0.1
theorem dX2_patternKey_1 : decode cX2_patternKey 1 = .ok (.tableswitch 128 1 6 #[39, 46, 53, 60, 90, 105], 39) := bX2_patternKey_0.2.1
theorem dX2_patternKey_40 : decode cX2_patternKey 40 = .ok (.iload_n 3, 1) := bX2_patternKey_0.2.2.1
theorem dX2_patternKey_41 : decode cX2_patternKey 41 = .ok (.iload_n 1, 1) := bX2_patternKey_0.2.2.2.1
theorem dX2_patternKey_42 : decode cX2_patternKey 42 = .ok (.iload 4, 2) := bX2_patternKey_0.2.2.2.2.1
theorem dX2_patternKey_44 : decode cX2_patternKey 44 = .ok (.imul, 1) := bX2_patternKey_0.2.2.2.2.2.1
theorem dX2_patternKey_45 : decode cX2_patternKey 45 = .ok (.iadd, 1) := bX2_patternKey_0.2.2.2.2.2.2.1
theorem dX2_patternKey_46 : decode cX2_patternKey 46 = .ok (.ireturn, 1) := bX2_patternKey_0.2.2.2.2.2.2.2.1
theorem dX2_patternKey_47 : decode cX2_patternKey 47 = .ok (.iload_n 3, 1) := bX2_patternKey_0.2.2.2.2.2.2.2.2.1
theorem dX2_patternKey_48 : decode cX2_patternKey 48 = .ok (.iload_n 1, 1) := bX2_patternKey_0.2.2.2.2.2.2.2.2.2.1
theorem dX2_patternKey_49 : decode cX2_patternKey 49 = .ok (.iload 4, 2) := bX2_patternKey_0.2.2.2.2.2.2.2.2.2.2.1
theorem dX2_patternKey_51 : decode cX2_patternKey 51 = .ok (.imul, 1) := bX2_patternKey_0.2.2.2.2.2.2.2.2.2.2.2.1
theorem dX2_patternKey_52 : decode cX2_patternKey 52 = .ok (.isub, 1) := bX2_patternKey_0.2.2.2.2.2.2.2.2.2.2.2.2.1
theorem dX2_patternKey_53 : decode cX2_patternKey 53 = .ok (.ireturn, 1) := bX2_patternKey_0.2.2.2.2.2.2.2.2.2.2.2.2.2.1
theorem dX2_patternKey_54 : decode cX2_patternKey 54 = .ok (.iload_n 3, 1) := bX2_patternKey_0.2.2.2.2.2.2.2.2.2.2.2.2.2.2.1
theorem dX2_patternKey_55 : decode cX2_patternKey 55 = .ok (.iload_n 1, 1) := bX2_patternKey_0.2.2.2.2.2.2.2.2.2.2.2.2.2.2.2
set_option maxRecDepth 100000 in
theorem bX2_patternKey_56 : (decode cX2_patternKey 56 = .ok (.iload 4, 2)) ∧ (decode cX2_patternKey 58 = .ok (.irem, 1)) ∧ (decode cX2_patternKey 59 = .ok (.iadd, 1)) ∧ (decode cX2_patternKey 60 = .ok (.ireturn, 1)) ∧ (decode cX2_patternKey 61 = .ok (.iload_n 1, 1)) ∧ (decode cX2_patternKey 62 = .ok (.iload 4, 2)) ∧ (decode cX2_patternKey 64 = .ok (.idiv, 1)) ∧ (decode cX2_patternKey 65 = .ok (.iconst 2, 1)) ∧ (decode cX2_patternKey 66 = .ok (.irem, 1)) ∧ (decode cX2_patternKey 67 = .ok (.ifCond .ne 12, 3)) ∧ (decode cX2_patternKey 70 = .ok (.iload_n 3, 1)) ∧ (decode cX2_patternKey 71 = .ok (.iload_n 1, 1)) ∧ (decode cX2_patternKey 72 = .ok (.iload 4, 2)) ∧ (decode cX2_patternKey 74 = .ok (.irem, 1)) ∧ (decode cX2_patternKey 75 = .ok (.iadd, 1)) ∧ (decode cX2_patternKey 76 = .ok (.goto 14, 3)) := by decide +kernel
theorem dX2_patternKey_56 : decode cX2_patternKey 56 = .ok (.iload 4, 2) := bX2_patternKey_56.1
theorem dX2_patternKey_58 : decode cX2_patternKey 58 = .ok (.irem, 1) := bX2_patternKey_56.2.1
theorem dX2_patternKey_59 : decode cX2_patternKey 59 = .ok (.iadd, 1) := bX2_patternKey_56.2.2.1
theorem dX2_patternKey_60 : decode cX2_patternKey 60 = .ok (.ireturn, 1) := bX2_patternKey_56.2.2.2.1
theorem dX2_patternKey_61 : decode cX2_patternKey 61 = .ok (.iload_n 1, 1) := bX2_patternKey_56.2.2.2.2.1
theorem dX2_patternKey_62 : decode cX2_patternKey 62 = .ok (.iload 4, 2) := bX2_patternKey_56.2.2.2.2.2.1
theorem dX2_patternKey_64 : decode cX2_patternKey 64 = .ok (.idiv, 1) := bX2_patternKey_56.2.2.2.2.2.2.1
theorem dX2_patternKey_65 : decode cX2_patternKey 65 = .ok (.iconst 2, 1) := bX2_patternKey_56.2.2.2.2.2.2.2.1
theorem dX2_patternKey_66 : decode cX2_patternKey 66 = .ok (.irem, 1) := bX2_patternKey_56.2.2.2.2.2.2.2.2.1
theorem dX2_patternKey_67 : decode cX2_patternKey 67 = .ok (.ifCond .ne 12, 3) := bX2_patternKey_56.2.2.2.2.2.2.2.2.2.1
theorem dX2_patternKey_70 : decode cX2_patternKey 70 = .ok (.iload_n 3, 1) := bX2_patternKey_56.2.2.2.2.2.2.2.2.2.2.1
theorem dX2_patternKey_71 : decode cX2_patternKey 71 = .ok (.iload_n 1, 1) := bX2_patternKey_56.2.2.2.2.2.2.2.2.2.2.2.1
theorem dX2_patternKey_72 : decode cX2_patternKey 72 = .ok (.iload 4, 2) := bX2_patternKey_56.2.2.2.2.2.2.2.2.2.2.2.2.1
theorem dX2_patternKey_74 : decode cX2_patternKey 74 = .ok (.irem, 1) := bX2_patternKey_56.2.2.2.2.2.2.2.2.2.2.2.2.2.1
theorem dX2_patternKey_75 : decode cX2_patternKey 75 = .ok (.iadd, 1) := bX2_patternKey_56.2.2.2.2.2.2.2.2.2.2.2.2.2.2.1
theorem dX2_patternKey_76 : decode cX2_patternKey 76 = .ok (.goto 14, 3) := bX2_patternKey_56.2.2.2.2.2.2.2.2.2.2.2.2.2.2.2
set_option maxRecDepth 100000 in
theorem bX2_patternKey_79 : (decode cX2_patternKey 79 = .ok (.iload_n 3, 1)) ∧ (decode cX2_patternKey 80 = .ok (.iload 4, 2)) ∧ (decode cX2_patternKey 82 = .ok (.iadd, 1)) ∧ (decode cX2_patternKey 83 = .ok (.iconst 1, 1)) ∧ (decode cX2_patternKey 84 = .ok (.isub, 1)) ∧ (decode cX2_patternKey 85 = .ok (.iload_n 1, 1)) ∧ (decode cX2_patternKey 86 = .ok (.iload 4, 2)) ∧ (decode cX2_patternKey 88 = .ok (.irem, 1)) ∧ (decode cX2_patternKey 89 = .ok (.isub, 1)) ∧ (decode cX2_patternKey 90 = .ok (.ireturn, 1)) ∧ (decode cX2_patternKey 91 = .ok (.iload_n 3, 1)) ∧ (decode cX2_patternKey 92 = .ok (.iload 4, 2)) ∧ (decode cX2_patternKey 94 = .ok (.iload_n 1, 1)) ∧ (decode cX2_patternKey 95 = .ok (.iload_n 2, 1)) ∧ (decode cX2_patternKey 96 = .ok (.iconst 1, 1)) ∧ (decode cX2_patternKey 97 = .ok (.isub, 1)) := by decide +kernel
theorem dX2_patternKey_79 : decode cX2_patternKey 79 = .ok (.iload_n 3, 1) := bX2_patternKey_79.1
theorem dX2_patternKey_80 : decode cX2_patternKey 80 = .ok (.iload 4, 2) := bX2_patternKey_79.2.1
theorem dX2_patternKey_82 : decode cX2_patternKey 82 = .ok (.iadd, 1) := bX2_patternKey_79.2.2.1
theorem dX2_patternKey_83 : decode cX2_patternKey 83 = .ok (.iconst 1, 1) := bX2_patternKey_79.2.2.2.1
theorem dX2_patternKey_84 : decode cX2_patternKey 84 = .ok (.isub, 1) := bX2_patternKey_79.2.2.2.2.1
theorem dX2_patternKey_85 : decode cX2_patternKey 85 = .ok (.iload_n 1, 1) := bX2_patternKey_79.2.2.2.2.2.1
theorem dX2_patternKey_86 : decode cX2_patternKey 86 = .ok (.iload 4, 2) := bX2_patternKey_79.2.2.2.2.2.2.1
theorem dX2_patternKey_88 : decode cX2_patternKey 88 = .ok (.irem, 1) := bX2_patternKey_79.2.2.2.2.2.2.2.1
theorem dX2_patternKey_89 : decode cX2_patternKey 89 = .ok (.isub, 1) := bX2_patternKey_79.2.2.2.2.2.2.2.2.1
theorem dX2_patternKey_90 : decode cX2_patternKey 90 = .ok (.ireturn, 1) := bX2_patternKey_79.2.2.2.2.2.2.2.2.2.1
theorem dX2_patternKey_91 : decode cX2_patternKey 91 = .ok (.iload_n 3, 1) := bX2_patternKey_79.2.2.2.2.2.2.2.2.2.2.1
theorem dX2_patternKey_92 : decode cX2_patternKey 92 = .ok (.iload 4, 2) := bX2_patternKey_79.2.2.2.2.2.2.2.2.2.2.2.1
theorem dX2_patternKey_94 : decode cX2_patternKey 94 = .ok (.iload_n 1, 1) := bX2_patternKey_79.2.2.2.2.2.2.2.2.2.2.2.2.1
theorem dX2_patternKey_95 : decode cX2_patternKey 95 = .ok (.iload_n 2, 1) := bX2_patternKey_79.2.2.2.2.2.2.2.2.2.2.2.2.2.1
theorem dX2_patternKey_96 : decode cX2_patternKey 96 = .ok (.iconst 1, 1) := bX2_patternKey_79.2.2.2.2.2.2.2.2.2.2.2.2.2.2.1
theorem dX2_patternKey_97 : decode cX2_patternKey 97 = .ok (.isub, 1) := bX2_patternKey_79.2.2.2.2.2.2.2.2.2.2.2.2.2.2.2
set_option maxRecDepth 100000 in
theorem bX2_patternKey_98 : (decode cX2_patternKey 98 = .ok (.iload_n 1, 1)) ∧ (decode cX2_patternKey 99 = .ok (.isub, 1)) ∧ (decode cX2_patternKey 100 = .ok (.invokestatic 150, 3)) ∧ (decode cX2_patternKey 103 = .ok (.imul, 1)) ∧ (decode cX2_patternKey 104 = .ok (.iadd, 1)) ∧ (decode cX2_patternKey 105 = .ok (.ireturn, 1)) ∧ (decode cX2_patternKey 106 = .ok (.iload_n 1, 1)) ∧ (decode cX2_patternKey 107 = .ok (.iconst 2, 1)) ∧ (decode cX2_patternKey 108 = .ok (.irem, 1)) ∧ (decode cX2_patternKey 109 = .ok (.ifCond .ne 11, 3)) ∧ (decode cX2_patternKey 112 = .ok (.iload_n 3, 1)) ∧ (decode cX2_patternKey 113 = .ok (.iload_n 1, 1)) ∧ (decode cX2_patternKey 114 = .ok (.iconst 2, 1)) ∧ (decode cX2_patternKey 115 = .ok (.idiv, 1)) ∧ (decode cX2_patternKey 116 = .ok (.iadd, 1)) ∧ (decode cX2_patternKey 117 = .ok (.goto 11, 3)) := by decide +kernel
theorem dX2_patternKey_98 : decode cX2_patternKey 98 = .ok (.iload_n 1, 1) := bX2_patternKey_98.1
theorem dX2_patternKey_99 : decode cX2_patternKey 99 = .ok (.isub, 1) := bX2_patternKey_98.2.1
theorem dX2_patternKey_100 : decode cX2_patternKey 100 = .ok (.invokestatic 150, 3) := bX2_patternKey_98.2.2.1
theorem dX2_patternKey_103 : decode cX2_patternKey 103 = .ok (.imul, 1) := bX2_patternKey_98.2.2.2.1
theorem dX2_patternKey_104 : decode cX2_patternKey 104 = .ok (.iadd, 1) := bX2_patternKey_98.2.2.2.2.1
theorem dX2_patternKey_105 : decode cX2_patternKey 105 = .ok (.ireturn, 1) := bX2_patternKey_98.2.2.2.2.2.1
theorem dX2_patternKey_106 : decode cX2_patternKey 106 = .ok (.iload_n 1, 1) := bX2_patternKey_98.2.2.2.2.2.2.1
theorem dX2_patternKey_107 : decode cX2_patternKey 107 = .ok (.iconst 2, 1) := bX2_patternKey_98.2.2.2.2.2.2.2.1
theorem dX2_patternKey_108 : decode cX2_patternKey 108 = .ok (.irem, 1) := bX2_patternKey_98.2.2.2.2.2.2.2.2.1
theorem dX2_patternKey_109 : decode cX2_patternKey 109 = .ok (.ifCond .ne 11, 3) := bX2_patternKey_98.2.2.2.2.2.2.2.2.2.1
theorem dX2_patternKey_112 : decode cX2_patternKey 112 = .ok (.iload_n 3, 1) := bX2_patternKey_98.2.2.2.2.2.2.2.2.2.2.1
theorem dX2_patternKey_113 : decode cX2_patternKey 113 = .ok (.iload_n 1, 1) := bX2_patternKey_98.2.2.2.2.2.2.2.2.2.2.2.1
theorem dX2_patternKey_114 : decode cX2_patternKey 114 = .ok (.iconst 2, 1) := bX2_patternKey_98.2.2.2.2.2.2.2.2.2.2.2.2.1
theorem dX2_patternKey_115 : decode cX2_patternKey 115 = .ok (.idiv, 1) := bX2_patternKey_98.2.2.2.2.2.2.2.2.2.2.2.2.2.1
theorem dX2_patternKey_116 : decode cX2_patternKey 116 = .ok (.iadd, 1) := bX2_patternKey_98.2.2.2.2.2.2.2.2.2.2.2.2.2.2.1
theorem dX2_patternKey_117 : decode cX2_patternKey 117 = .ok (.goto 11, 3) := bX2_patternKey_98.2.2.2.2.2.2.2.2.2.2.2.2.2.2.2
set_option maxRecDepth 100000 in
theorem bX2_patternKey_120 : (decode cX2_patternKey 120 = .ok (.iload_n 3, 1)) ∧ (decode cX2_patternKey 121 = .ok (.iload 4, 2)) ∧ (decode cX2_patternKey 123 = .ok (.iadd, 1)) ∧ (decode cX2_patternKey 124 = .ok (.iload_n 1, 1)) ∧ (decode cX2_patternKey 125 = .ok (.iconst 2, 1)) ∧ (decode cX2_patternKey 126 = .ok (.idiv, 1)) ∧ (decode cX2_patternKey 127 = .ok (.isub, 1)) ∧ (decode cX2_patternKey 128 = .ok (.ireturn, 1)) ∧ (decode cX2_patternKey 129 = .ok (.iload_n 3, 1)) ∧ (decode cX2_patternKey 130 = .ok (.ireturn, 1)) := by decide +kernel
theorem dX2_patternKey_120 : decode cX2_patternKey 120 = .ok (.iload_n 3, 1) := bX2_patternKey_120.1
theorem dX2_patternKey_121 : decode cX2_patternKey 121 = .ok (.iload 4, 2) := bX2_patternKey_120.2.1
theorem dX2_patternKey_123 : decode cX2_patternKey 123 = .ok (.iadd, 1) := bX2_patternKey_120.2.2.1
theorem dX2_patternKey_124 : decode cX2_patternKey 124 = .ok (.iload_n 1, 1) := bX2_patternKey_120.2.2.2.1
theorem dX2_patternKey_125 : decode cX2_patternKey 125 = .ok (.iconst 2, 1) := bX2_patternKey_120.2.2.2.2.1
theorem dX2_patternKey_126 : decode cX2_patternKey 126 = .ok (.idiv, 1) := bX2_patternKey_120.2.2.2.2.2.1
theorem dX2_patternKey_127 : decode cX2_patternKey 127 = .ok (.isub, 1) := bX2_patternKey_120.2.2.2.2.2.2.1
theorem dX2_patternKey_128 : decode cX2_patternKey 128 = .ok (.ireturn, 1) := bX2_patternKey_120.2.2.2.2.2.2.2.1
theorem dX2_patternKey_129 : decode cX2_patternKey 129 = .ok (.iload_n 3, 1) := bX2_patternKey_120.2.2.2.2.2.2.2.2.1
theorem dX2_patternKey_130 : decode cX2_patternKey 130 = .ok (.ireturn, 1) := bX2_patternKey_120.2.2.2.2.2.2.2.2.2
set_option maxRecDepth 100000 in
theorem bX2_bring_0 : (decode cX2_bring 0 = .ok (.aload_n 1, 1)) ∧ (decode cX2_bring 1 = .ok (.getfield 39, 3)) ∧ (decode cX2_bring 4 = .ok (.istore 4, 2)) ∧ (decode cX2_bring 6 = .ok (.iconst 0, 1)) ∧ (decode cX2_bring 7 = .ok (.istore 5, 2)) ∧ (decode cX2_bring 9 = .ok (.iload 5, 2)) ∧ (decode cX2_bring 11 = .ok (.iload 4, 2)) ∧ (decode cX2_bring 13 = .ok (.if_icmp .ge 28, 3)) ∧ (decode cX2_bring 16 = .ok (.aload_n 2, 1)) ∧ (decode cX2_bring 17 = .ok (.aload_n 1, 1)) ∧ (decode cX2_bring 18 = .ok (.getfield 79, 3)) ∧ (decode cX2_bring 21 = .ok (.iload 5, 2)) ∧ (decode cX2_bring 23 = .ok (.iaload, 1)) ∧ (decode cX2_bring 24 = .ok (.aload_n 0, 1)) ∧ (decode cX2_bring 25 = .ok (.aload_n 1, 1)) ∧ (decode cX2_bring 26 = .ok (.iload 5, 2)) := by decide +kernel
theorem dX2_bring_0 : decode cX2_bring 0 = .ok (.aload_n 1, 1) := bX2_bring_0.1
theorem dX2_bring_1 : decode cX2_bring 1 = .ok (.getfield 39, 3) := bX2_bring_0.2.1
theorem dX2_bring_4 : decode cX2_bring 4 = .ok (.istore 4, 2) := bX2_bring_0.2.2.1
theorem dX2_bring_6 : decode cX2_bring 6 = .ok (.iconst 0, 1) := bX2_bring_0.2.2.2.1
theorem dX2_bring_7 : decode cX2_bring 7 = .ok (.istore 5, 2) := bX2_bring_0.2.2.2.2.1
theorem dX2_bring_9 : decode cX2_bring 9 = .ok (.iload 5, 2) := bX2_bring_0.2.2.2.2.2.1
theorem dX2_bring_11 : decode cX2_bring 11 = .ok (.iload 4, 2) := bX2_bring_0.2.2.2.2.2.2.1
theorem dX2_bring_13 : decode cX2_bring 13 = .ok (.if_icmp .ge 28, 3) := bX2_bring_0.2.2.2.2.2.2.2.1
theorem dX2_bring_16 : decode cX2_bring 16 = .ok (.aload_n 2, 1) := bX2_bring_0.2.2.2.2.2.2.2.2.1
theorem dX2_bring_17 : decode cX2_bring 17 = .ok (.aload_n 1, 1) := bX2_bring_0.2.2.2.2.2.2.2.2.2.1
theorem dX2_bring_18 : decode cX2_bring 18 = .ok (.getfield 79, 3) := bX2_bring_0.2.2.2.2.2.2.2.2.2.2.1
theorem dX2_bring_21 : decode cX2_bring 21 = .ok (.iload 5, 2) := bX2_bring_0.2.2.2.2.2.2.2.2.2.2.2.1
theorem dX2_bring_23 : decode cX2_bring 23 = .ok (.iaload, 1) := bX2_bring_0.2.2.2.2.2.2.2.2.2.2.2.2.1
theorem dX2_bring_24 : decode cX2_bring 24 = .ok (.aload_n 0, 1) := bX2_bring_0.2.2.2.2.2.2.2.2.2.2.2.2.2.1
theorem dX2_bring_25 : decode cX2_bring 25 = .ok (.aload_n 1, 1) := bX2_bring_0.2.2.2.2.2.2.2.2.2.2.2.2.2.2.1
theorem dX2_bring_26 : decode cX2_bring 26 = .ok (.iload 5, 2) := bX2_bring_0.2.2.2.2.2.2.2.2.2.2.2.2.2.2.2
set_option maxRecDepth 100000 in
theorem bX2_bring_28 : (decode cX2_bring 28 = .ok (.iload_n 3, 1)) ∧ (decode cX2_bring 29 = .ok (.invokevirtual 304, 3)) ∧ (decode cX2_bring 32 = .ok (.invokevirtual 71, 3)) ∧ (decode cX2_bring 35 = .ok (.iinc 5 1, 3)) ∧ (decode cX2_bring 38 = .ok (.goto (-29), 3)) ∧ (decode cX2_bring 41 = .ok (.return_, 1)) := by decide +kernel
theorem dX2_bring_28 : decode cX2_bring 28 = .ok (.iload_n 3, 1) := bX2_bring_28.1
theorem dX2_bring_29 : decode cX2_bring 29 = .ok (.invokevirtual 304, 3) := bX2_bring_28.2.1
theorem dX2_bring_32 : decode cX2_bring 32 = .ok (.invokevirtual 71, 3) := bX2_bring_28.2.2.1
theorem dX2_bring_35 : decode cX2_bring 35 = .ok (.iinc 5 1, 3) := bX2_bring_28.2.2.2.1
theorem dX2_bring_38 : decode cX2_bring 38 = .ok (.goto (-29), 3) := bX2_bring_28.2.2.2.2.1
theorem dX2_bring_41 : decode cX2_bring 41 = .ok (.return_, 1) := bX2_bring_28.2.2.2.2.2
set_option maxRecDepth 100000 in
theorem bX2_stampOfComer_0 : (decode cX2_stampOfComer 0 = .ok (.iload_n 3, 1)) ∧ (decode cX2_stampOfComer 1 = .ok (.ifCond .ne 5, 3)) ∧ (decode cX2_stampOfComer 4 = .ok (.iconst (-1), 1)) ∧ (decode cX2_stampOfComer 5 = .ok (.ireturn, 1)) ∧ (decode cX2_stampOfComer 6 = .ok (.aload_n 1, 1)) ∧ (decode cX2_stampOfComer 7 = .ok (.getfield 123, 3)) ∧ (decode cX2_stampOfComer 10 = .ok (.ifCond .eq 12, 3)) ∧ (decode cX2_stampOfComer 13 = .ok (.aload_n 1, 1)) ∧ (decode cX2_stampOfComer 14 = .ok (.getfield 83, 3)) ∧ (decode cX2_stampOfComer 17 = .ok (.iload_n 2, 1)) ∧ (decode cX2_stampOfComer 18 = .ok (.iaload, 1)) ∧ (decode cX2_stampOfComer 19 = .ok (.goto 7, 3)) ∧ (decode cX2_stampOfComer 22 = .ok (.aload_n 0, 1)) ∧ (decode cX2_stampOfComer 23 = .ok (.invokevirtual 296, 3)) ∧ (decode cX2_stampOfComer 26 = .ok (.ireturn, 1)) := by decide +kernel
theorem dX2_stampOfComer_0 : decode cX2_stampOfComer 0 = .ok (.iload_n 3, 1) := bX2_stampOfComer_0.1
theorem dX2_stampOfComer_1 : decode cX2_stampOfComer 1 = .ok (.ifCond .ne 5, 3) := bX2_stampOfComer_0.2.1
theorem dX2_stampOfComer_4 : decode cX2_stampOfComer 4 = .ok (.iconst (-1), 1) := bX2_stampOfComer_0.2.2.1
theorem dX2_stampOfComer_5 : decode cX2_stampOfComer 5 = .ok (.ireturn, 1) := bX2_stampOfComer_0.2.2.2.1
theorem dX2_stampOfComer_6 : decode cX2_stampOfComer 6 = .ok (.aload_n 1, 1) := bX2_stampOfComer_0.2.2.2.2.1
theorem dX2_stampOfComer_7 : decode cX2_stampOfComer 7 = .ok (.getfield 123, 3) := bX2_stampOfComer_0.2.2.2.2.2.1
theorem dX2_stampOfComer_10 : decode cX2_stampOfComer 10 = .ok (.ifCond .eq 12, 3) := bX2_stampOfComer_0.2.2.2.2.2.2.1
theorem dX2_stampOfComer_13 : decode cX2_stampOfComer 13 = .ok (.aload_n 1, 1) := bX2_stampOfComer_0.2.2.2.2.2.2.2.1
theorem dX2_stampOfComer_14 : decode cX2_stampOfComer 14 = .ok (.getfield 83, 3) := bX2_stampOfComer_0.2.2.2.2.2.2.2.2.1
theorem dX2_stampOfComer_17 : decode cX2_stampOfComer 17 = .ok (.iload_n 2, 1) := bX2_stampOfComer_0.2.2.2.2.2.2.2.2.2.1
theorem dX2_stampOfComer_18 : decode cX2_stampOfComer 18 = .ok (.iaload, 1) := bX2_stampOfComer_0.2.2.2.2.2.2.2.2.2.2.1
theorem dX2_stampOfComer_19 : decode cX2_stampOfComer 19 = .ok (.goto 7, 3) := bX2_stampOfComer_0.2.2.2.2.2.2.2.2.2.2.2.1
theorem dX2_stampOfComer_22 : decode cX2_stampOfComer 22 = .ok (.aload_n 0, 1) := bX2_stampOfComer_0.2.2.2.2.2.2.2.2.2.2.2.2.1
theorem dX2_stampOfComer_23 : decode cX2_stampOfComer 23 = .ok (.invokevirtual 296, 3) := bX2_stampOfComer_0.2.2.2.2.2.2.2.2.2.2.2.2.2.1
theorem dX2_stampOfComer_26 : decode cX2_stampOfComer 26 = .ok (.ireturn, 1) := bX2_stampOfComer_0.2.2.2.2.2.2.2.2.2.2.2.2.2.2
set_option maxRecDepth 100000 in
theorem bX2_itemsInAll_0 : (decode cX2_itemsInAll 0 = .ok (.iconst 0, 1)) ∧ (decode cX2_itemsInAll 1 = .ok (.istore_n 1, 1)) ∧ (decode cX2_itemsInAll 2 = .ok (.iconst 0, 1)) ∧ (decode cX2_itemsInAll 3 = .ok (.istore_n 2, 1)) ∧ (decode cX2_itemsInAll 4 = .ok (.iload_n 2, 1)) ∧ (decode cX2_itemsInAll 5 = .ok (.aload_n 0, 1)) ∧ (decode cX2_itemsInAll 6 = .ok (.getfield 11, 3)) ∧ (decode cX2_itemsInAll 9 = .ok (.arraylength, 1)) ∧ (decode cX2_itemsInAll 10 = .ok (.if_icmp .ge 21, 3)) ∧ (decode cX2_itemsInAll 13 = .ok (.iload_n 1, 1)) ∧ (decode cX2_itemsInAll 14 = .ok (.aload_n 0, 1)) ∧ (decode cX2_itemsInAll 15 = .ok (.getfield 11, 3)) ∧ (decode cX2_itemsInAll 18 = .ok (.iload_n 2, 1)) ∧ (decode cX2_itemsInAll 19 = .ok (.aaload, 1)) ∧ (decode cX2_itemsInAll 20 = .ok (.getfield 39, 3)) ∧ (decode cX2_itemsInAll 23 = .ok (.iadd, 1)) := by decide +kernel
theorem dX2_itemsInAll_0 : decode cX2_itemsInAll 0 = .ok (.iconst 0, 1) := bX2_itemsInAll_0.1
theorem dX2_itemsInAll_1 : decode cX2_itemsInAll 1 = .ok (.istore_n 1, 1) := bX2_itemsInAll_0.2.1
theorem dX2_itemsInAll_2 : decode cX2_itemsInAll 2 = .ok (.iconst 0, 1) := bX2_itemsInAll_0.2.2.1
theorem dX2_itemsInAll_3 : decode cX2_itemsInAll 3 = .ok (.istore_n 2, 1) := bX2_itemsInAll_0.2.2.2.1
theorem dX2_itemsInAll_4 : decode cX2_itemsInAll 4 = .ok (.iload_n 2, 1) := bX2_itemsInAll_0.2.2.2.2.1
theorem dX2_itemsInAll_5 : decode cX2_itemsInAll 5 = .ok (.aload_n 0, 1) := bX2_itemsInAll_0.2.2.2.2.2.1
theorem dX2_itemsInAll_6 : decode cX2_itemsInAll 6 = .ok (.getfield 11, 3) := bX2_itemsInAll_0.2.2.2.2.2.2.1
theorem dX2_itemsInAll_9 : decode cX2_itemsInAll 9 = .ok (.arraylength, 1) := bX2_itemsInAll_0.2.2.2.2.2.2.2.1
theorem dX2_itemsInAll_10 : decode cX2_itemsInAll 10 = .ok (.if_icmp .ge 21, 3) := bX2_itemsInAll_0.2.2.2.2.2.2.2.2.1
theorem dX2_itemsInAll_13 : decode cX2_itemsInAll 13 = .ok (.iload_n 1, 1) := bX2_itemsInAll_0.2.2.2.2.2.2.2.2.2.1
theorem dX2_itemsInAll_14 : decode cX2_itemsInAll 14 = .ok (.aload_n 0, 1) := bX2_itemsInAll_0.2.2.2.2.2.2.2.2.2.2.1
theorem dX2_itemsInAll_15 : decode cX2_itemsInAll 15 = .ok (.getfield 11, 3) := bX2_itemsInAll_0.2.2.2.2.2.2.2.2.2.2.2.1
theorem dX2_itemsInAll_18 : decode cX2_itemsInAll 18 = .ok (.iload_n 2, 1) := bX2_itemsInAll_0.2.2.2.2.2.2.2.2.2.2.2.2.1
theorem dX2_itemsInAll_19 : decode cX2_itemsInAll 19 = .ok (.aaload, 1) := bX2_itemsInAll_0.2.2.2.2.2.2.2.2.2.2.2.2.2.1
theorem dX2_itemsInAll_20 : decode cX2_itemsInAll 20 = .ok (.getfield 39, 3) := bX2_itemsInAll_0.2.2.2.2.2.2.2.2.2.2.2.2.2.2.1
theorem dX2_itemsInAll_23 : decode cX2_itemsInAll 23 = .ok (.iadd, 1) := bX2_itemsInAll_0.2.2.2.2.2.2.2.2.2.2.2.2.2.2.2
set_option maxRecDepth 100000 in
theorem bX2_itemsInAll_24 : (decode cX2_itemsInAll 24 = .ok (.istore_n 1, 1)) ∧ (decode cX2_itemsInAll 25 = .ok (.iinc 2 1, 3)) ∧ (decode cX2_itemsInAll 28 = .ok (.goto (-24), 3)) ∧ (decode cX2_itemsInAll 31 = .ok (.iload_n 1, 1)) ∧ (decode cX2_itemsInAll 32 = .ok (.ireturn, 1)) := by decide +kernel
theorem dX2_itemsInAll_24 : decode cX2_itemsInAll 24 = .ok (.istore_n 1, 1) := bX2_itemsInAll_24.1
theorem dX2_itemsInAll_25 : decode cX2_itemsInAll 25 = .ok (.iinc 2 1, 3) := bX2_itemsInAll_24.2.1
theorem dX2_itemsInAll_28 : decode cX2_itemsInAll 28 = .ok (.goto (-24), 3) := bX2_itemsInAll_24.2.2.1
theorem dX2_itemsInAll_31 : decode cX2_itemsInAll 31 = .ok (.iload_n 1, 1) := bX2_itemsInAll_24.2.2.2.1
theorem dX2_itemsInAll_32 : decode cX2_itemsInAll 32 = .ok (.ireturn, 1) := bX2_itemsInAll_24.2.2.2.2
set_option maxRecDepth 100000 in
theorem bX2_sortedRows_0 : (decode cX2_sortedRows 0 = .ok (.iconst 0, 1)) ∧ (decode cX2_sortedRows 1 = .ok (.istore_n 1, 1)) ∧ (decode cX2_sortedRows 2 = .ok (.iconst 0, 1)) ∧ (decode cX2_sortedRows 3 = .ok (.istore_n 2, 1)) ∧ (decode cX2_sortedRows 4 = .ok (.iload_n 2, 1)) ∧ (decode cX2_sortedRows 5 = .ok (.aload_n 0, 1)) ∧ (decode cX2_sortedRows 6 = .ok (.getfield 11, 3)) ∧ (decode cX2_sortedRows 9 = .ok (.arraylength, 1)) ∧ (decode cX2_sortedRows 10 = .ok (.if_icmp .ge 24, 3)) ∧ (decode cX2_sortedRows 13 = .ok (.aload_n 0, 1)) ∧ (decode cX2_sortedRows 14 = .ok (.getfield 11, 3)) ∧ (decode cX2_sortedRows 17 = .ok (.iload_n 2, 1)) ∧ (decode cX2_sortedRows 18 = .ok (.aaload, 1)) ∧ (decode cX2_sortedRows 19 = .ok (.invokevirtual 131, 3)) ∧ (decode cX2_sortedRows 22 = .ok (.ifCond .eq 6, 3)) ∧ (decode cX2_sortedRows 25 = .ok (.iinc 1 1, 3)) := by decide +kernel
theorem dX2_sortedRows_0 : decode cX2_sortedRows 0 = .ok (.iconst 0, 1) := bX2_sortedRows_0.1
theorem dX2_sortedRows_1 : decode cX2_sortedRows 1 = .ok (.istore_n 1, 1) := bX2_sortedRows_0.2.1
theorem dX2_sortedRows_2 : decode cX2_sortedRows 2 = .ok (.iconst 0, 1) := bX2_sortedRows_0.2.2.1
theorem dX2_sortedRows_3 : decode cX2_sortedRows 3 = .ok (.istore_n 2, 1) := bX2_sortedRows_0.2.2.2.1
theorem dX2_sortedRows_4 : decode cX2_sortedRows 4 = .ok (.iload_n 2, 1) := bX2_sortedRows_0.2.2.2.2.1
theorem dX2_sortedRows_5 : decode cX2_sortedRows 5 = .ok (.aload_n 0, 1) := bX2_sortedRows_0.2.2.2.2.2.1
theorem dX2_sortedRows_6 : decode cX2_sortedRows 6 = .ok (.getfield 11, 3) := bX2_sortedRows_0.2.2.2.2.2.2.1
theorem dX2_sortedRows_9 : decode cX2_sortedRows 9 = .ok (.arraylength, 1) := bX2_sortedRows_0.2.2.2.2.2.2.2.1
theorem dX2_sortedRows_10 : decode cX2_sortedRows 10 = .ok (.if_icmp .ge 24, 3) := bX2_sortedRows_0.2.2.2.2.2.2.2.2.1
theorem dX2_sortedRows_13 : decode cX2_sortedRows 13 = .ok (.aload_n 0, 1) := bX2_sortedRows_0.2.2.2.2.2.2.2.2.2.1
theorem dX2_sortedRows_14 : decode cX2_sortedRows 14 = .ok (.getfield 11, 3) := bX2_sortedRows_0.2.2.2.2.2.2.2.2.2.2.1
theorem dX2_sortedRows_17 : decode cX2_sortedRows 17 = .ok (.iload_n 2, 1) := bX2_sortedRows_0.2.2.2.2.2.2.2.2.2.2.2.1
theorem dX2_sortedRows_18 : decode cX2_sortedRows 18 = .ok (.aaload, 1) := bX2_sortedRows_0.2.2.2.2.2.2.2.2.2.2.2.2.1
theorem dX2_sortedRows_19 : decode cX2_sortedRows 19 = .ok (.invokevirtual 131, 3) := bX2_sortedRows_0.2.2.2.2.2.2.2.2.2.2.2.2.2.1
theorem dX2_sortedRows_22 : decode cX2_sortedRows 22 = .ok (.ifCond .eq 6, 3) := bX2_sortedRows_0.2.2.2.2.2.2.2.2.2.2.2.2.2.2.1
theorem dX2_sortedRows_25 : decode cX2_sortedRows 25 = .ok (.iinc 1 1, 3) := bX2_sortedRows_0.2.2.2.2.2.2.2.2.2.2.2.2.2.2.2
set_option maxRecDepth 100000 in
theorem bX2_sortedRows_28 : (decode cX2_sortedRows 28 = .ok (.iinc 2 1, 3)) ∧ (decode cX2_sortedRows 31 = .ok (.goto (-27), 3)) ∧ (decode cX2_sortedRows 34 = .ok (.iload_n 1, 1)) ∧ (decode cX2_sortedRows 35 = .ok (.ireturn, 1)) := by decide +kernel
theorem dX2_sortedRows_28 : decode cX2_sortedRows 28 = .ok (.iinc 2 1, 3) := bX2_sortedRows_28.1
theorem dX2_sortedRows_31 : decode cX2_sortedRows 31 = .ok (.goto (-27), 3) := bX2_sortedRows_28.2.1
theorem dX2_sortedRows_34 : decode cX2_sortedRows 34 = .ok (.iload_n 1, 1) := bX2_sortedRows_28.2.2.1
theorem dX2_sortedRows_35 : decode cX2_sortedRows 35 = .ok (.ireturn, 1) := bX2_sortedRows_28.2.2.2
set_option maxRecDepth 100000 in
theorem bX2_isRowSound_0 : (decode cX2_isRowSound 0 = .ok (.aload_n 0, 1)) ∧ (decode cX2_isRowSound 1 = .ok (.getfield 23, 3)) ∧ (decode cX2_isRowSound 4 = .ok (.aload_n 1, 1)) ∧ (decode cX2_isRowSound 5 = .ok (.aload_n 0, 1)) ∧ (decode cX2_isRowSound 6 = .ok (.getfield 23, 3)) ∧ (decode cX2_isRowSound 9 = .ok (.getfield 113, 3)) ∧ (decode cX2_isRowSound 12 = .ok (.invokevirtual 116, 3)) ∧ (decode cX2_isRowSound 15 = .ok (.istore_n 2, 1)) ∧ (decode cX2_isRowSound 16 = .ok (.aload_n 1, 1)) ∧ (decode cX2_isRowSound 17 = .ok (.getfield 39, 3)) ∧ (decode cX2_isRowSound 20 = .ok (.aload_n 1, 1)) ∧ (decode cX2_isRowSound 21 = .ok (.getfield 39, 3)) ∧ (decode cX2_isRowSound 24 = .ok (.iconst 1, 1)) ∧ (decode cX2_isRowSound 25 = .ok (.isub, 1)) ∧ (decode cX2_isRowSound 26 = .ok (.imul, 1)) ∧ (decode cX2_isRowSound 27 = .ok (.iconst 2, 1)) := by decide +kernel
theorem dX2_isRowSound_0 : decode cX2_isRowSound 0 = .ok (.aload_n 0, 1) := bX2_isRowSound_0.1
theorem dX2_isRowSound_1 : decode cX2_isRowSound 1 = .ok (.getfield 23, 3) := bX2_isRowSound_0.2.1
theorem dX2_isRowSound_4 : decode cX2_isRowSound 4 = .ok (.aload_n 1, 1) := bX2_isRowSound_0.2.2.1
theorem dX2_isRowSound_5 : decode cX2_isRowSound 5 = .ok (.aload_n 0, 1) := bX2_isRowSound_0.2.2.2.1
theorem dX2_isRowSound_6 : decode cX2_isRowSound 6 = .ok (.getfield 23, 3) := bX2_isRowSound_0.2.2.2.2.1
theorem dX2_isRowSound_9 : decode cX2_isRowSound 9 = .ok (.getfield 113, 3) := bX2_isRowSound_0.2.2.2.2.2.1
theorem dX2_isRowSound_12 : decode cX2_isRowSound 12 = .ok (.invokevirtual 116, 3) := bX2_isRowSound_0.2.2.2.2.2.2.1
theorem dX2_isRowSound_15 : decode cX2_isRowSound 15 = .ok (.istore_n 2, 1) := bX2_isRowSound_0.2.2.2.2.2.2.2.1
theorem dX2_isRowSound_16 : decode cX2_isRowSound 16 = .ok (.aload_n 1, 1) := bX2_isRowSound_0.2.2.2.2.2.2.2.2.1
theorem dX2_isRowSound_17 : decode cX2_isRowSound 17 = .ok (.getfield 39, 3) := bX2_isRowSound_0.2.2.2.2.2.2.2.2.2.1
theorem dX2_isRowSound_20 : decode cX2_isRowSound 20 = .ok (.aload_n 1, 1) := bX2_isRowSound_0.2.2.2.2.2.2.2.2.2.2.1
theorem dX2_isRowSound_21 : decode cX2_isRowSound 21 = .ok (.getfield 39, 3) := bX2_isRowSound_0.2.2.2.2.2.2.2.2.2.2.2.1
theorem dX2_isRowSound_24 : decode cX2_isRowSound 24 = .ok (.iconst 1, 1) := bX2_isRowSound_0.2.2.2.2.2.2.2.2.2.2.2.2.1
theorem dX2_isRowSound_25 : decode cX2_isRowSound 25 = .ok (.isub, 1) := bX2_isRowSound_0.2.2.2.2.2.2.2.2.2.2.2.2.2.1
theorem dX2_isRowSound_26 : decode cX2_isRowSound 26 = .ok (.imul, 1) := bX2_isRowSound_0.2.2.2.2.2.2.2.2.2.2.2.2.2.2.1
theorem dX2_isRowSound_27 : decode cX2_isRowSound 27 = .ok (.iconst 2, 1) := bX2_isRowSound_0.2.2.2.2.2.2.2.2.2.2.2.2.2.2.2
set_option maxRecDepth 100000 in
theorem bX2_isRowSound_28 : (decode cX2_isRowSound 28 = .ok (.idiv, 1)) ∧ (decode cX2_isRowSound 29 = .ok (.istore_n 3, 1)) ∧ (decode cX2_isRowSound 30 = .ok (.iload_n 2, 1)) ∧ (decode cX2_isRowSound 31 = .ok (.aload_n 1, 1)) ∧ (decode cX2_isRowSound 32 = .ok (.invokevirtual 175, 3)) ∧ (decode cX2_isRowSound 35 = .ok (.if_icmp .ne 58, 3)) ∧ (decode cX2_isRowSound 38 = .ok (.iload_n 2, 1)) ∧ (decode cX2_isRowSound 39 = .ok (.ifCond .ne 7, 3)) ∧ (decode cX2_isRowSound 42 = .ok (.iconst 1, 1)) ∧ (decode cX2_isRowSound 43 = .ok (.goto 4, 3)) ∧ (decode cX2_isRowSound 46 = .ok (.iconst 0, 1)) ∧ (decode cX2_isRowSound 47 = .ok (.aload_n 1, 1)) ∧ (decode cX2_isRowSound 48 = .ok (.invokevirtual 131, 3)) ∧ (decode cX2_isRowSound 51 = .ok (.if_icmp .ne 42, 3)) ∧ (decode cX2_isRowSound 54 = .ok (.iload_n 2, 1)) ∧ (decode cX2_isRowSound 55 = .ok (.aload_n 1, 1)) := by decide +kernel
theorem dX2_isRowSound_28 : decode cX2_isRowSound 28 = .ok (.idiv, 1) := bX2_isRowSound_28.1
theorem dX2_isRowSound_29 : decode cX2_isRowSound 29 = .ok (.istore_n 3, 1) := bX2_isRowSound_28.2.1
theorem dX2_isRowSound_30 : decode cX2_isRowSound 30 = .ok (.iload_n 2, 1) := bX2_isRowSound_28.2.2.1
theorem dX2_isRowSound_31 : decode cX2_isRowSound 31 = .ok (.aload_n 1, 1) := bX2_isRowSound_28.2.2.2.1
theorem dX2_isRowSound_32 : decode cX2_isRowSound 32 = .ok (.invokevirtual 175, 3) := bX2_isRowSound_28.2.2.2.2.1
theorem dX2_isRowSound_35 : decode cX2_isRowSound 35 = .ok (.if_icmp .ne 58, 3) := bX2_isRowSound_28.2.2.2.2.2.1
theorem dX2_isRowSound_38 : decode cX2_isRowSound 38 = .ok (.iload_n 2, 1) := bX2_isRowSound_28.2.2.2.2.2.2.1
theorem dX2_isRowSound_39 : decode cX2_isRowSound 39 = .ok (.ifCond .ne 7, 3) := bX2_isRowSound_28.2.2.2.2.2.2.2.1
theorem dX2_isRowSound_42 : decode cX2_isRowSound 42 = .ok (.iconst 1, 1) := bX2_isRowSound_28.2.2.2.2.2.2.2.2.1
theorem dX2_isRowSound_43 : decode cX2_isRowSound 43 = .ok (.goto 4, 3) := bX2_isRowSound_28.2.2.2.2.2.2.2.2.2.1
theorem dX2_isRowSound_46 : decode cX2_isRowSound 46 = .ok (.iconst 0, 1) := bX2_isRowSound_28.2.2.2.2.2.2.2.2.2.2.1
theorem dX2_isRowSound_47 : decode cX2_isRowSound 47 = .ok (.aload_n 1, 1) := bX2_isRowSound_28.2.2.2.2.2.2.2.2.2.2.2.1
theorem dX2_isRowSound_48 : decode cX2_isRowSound 48 = .ok (.invokevirtual 131, 3) := bX2_isRowSound_28.2.2.2.2.2.2.2.2.2.2.2.2.1
theorem dX2_isRowSound_51 : decode cX2_isRowSound 51 = .ok (.if_icmp .ne 42, 3) := bX2_isRowSound_28.2.2.2.2.2.2.2.2.2.2.2.2.2.1
theorem dX2_isRowSound_54 : decode cX2_isRowSound 54 = .ok (.iload_n 2, 1) := bX2_isRowSound_28.2.2.2.2.2.2.2.2.2.2.2.2.2.2.1
theorem dX2_isRowSound_55 : decode cX2_isRowSound 55 = .ok (.aload_n 1, 1) := bX2_isRowSound_28.2.2.2.2.2.2.2.2.2.2.2.2.2.2.2
set_option maxRecDepth 100000 in
theorem bX2_isRowSound_56 : (decode cX2_isRowSound 56 = .ok (.invokevirtual 178, 3)) ∧ (decode cX2_isRowSound 59 = .ok (.iadd, 1)) ∧ (decode cX2_isRowSound 60 = .ok (.aload_n 0, 1)) ∧ (decode cX2_isRowSound 61 = .ok (.getfield 23, 3)) ∧ (decode cX2_isRowSound 64 = .ok (.getfield 113, 3)) ∧ (decode cX2_isRowSound 67 = .ok (.invokevirtual 181, 3)) ∧ (decode cX2_isRowSound 70 = .ok (.iadd, 1)) ∧ (decode cX2_isRowSound 71 = .ok (.iload_n 3, 1)) ∧ (decode cX2_isRowSound 72 = .ok (.if_icmp .ne 21, 3)) ∧ (decode cX2_isRowSound 75 = .ok (.aload_n 1, 1)) ∧ (decode cX2_isRowSound 76 = .ok (.aload_n 0, 1)) ∧ (decode cX2_isRowSound 77 = .ok (.getfield 23, 3)) ∧ (decode cX2_isRowSound 80 = .ok (.getfield 113, 3)) ∧ (decode cX2_isRowSound 83 = .ok (.invokevirtual 308, 3)) ∧ (decode cX2_isRowSound 86 = .ok (.ifCond .eq 7, 3)) ∧ (decode cX2_isRowSound 89 = .ok (.iconst 1, 1)) := by decide +kernel
theorem dX2_isRowSound_56 : decode cX2_isRowSound 56 = .ok (.invokevirtual 178, 3) := bX2_isRowSound_56.1
theorem dX2_isRowSound_59 : decode cX2_isRowSound 59 = .ok (.iadd, 1) := bX2_isRowSound_56.2.1
theorem dX2_isRowSound_60 : decode cX2_isRowSound 60 = .ok (.aload_n 0, 1) := bX2_isRowSound_56.2.2.1
theorem dX2_isRowSound_61 : decode cX2_isRowSound 61 = .ok (.getfield 23, 3) := bX2_isRowSound_56.2.2.2.1
theorem dX2_isRowSound_64 : decode cX2_isRowSound 64 = .ok (.getfield 113, 3) := bX2_isRowSound_56.2.2.2.2.1
theorem dX2_isRowSound_67 : decode cX2_isRowSound 67 = .ok (.invokevirtual 181, 3) := bX2_isRowSound_56.2.2.2.2.2.1
theorem dX2_isRowSound_70 : decode cX2_isRowSound 70 = .ok (.iadd, 1) := bX2_isRowSound_56.2.2.2.2.2.2.1
theorem dX2_isRowSound_71 : decode cX2_isRowSound 71 = .ok (.iload_n 3, 1) := bX2_isRowSound_56.2.2.2.2.2.2.2.1
theorem dX2_isRowSound_72 : decode cX2_isRowSound 72 = .ok (.if_icmp .ne 21, 3) := bX2_isRowSound_56.2.2.2.2.2.2.2.2.1
theorem dX2_isRowSound_75 : decode cX2_isRowSound 75 = .ok (.aload_n 1, 1) := bX2_isRowSound_56.2.2.2.2.2.2.2.2.2.1
theorem dX2_isRowSound_76 : decode cX2_isRowSound 76 = .ok (.aload_n 0, 1) := bX2_isRowSound_56.2.2.2.2.2.2.2.2.2.2.1
theorem dX2_isRowSound_77 : decode cX2_isRowSound 77 = .ok (.getfield 23, 3) := bX2_isRowSound_56.2.2.2.2.2.2.2.2.2.2.2.1
theorem dX2_isRowSound_80 : decode cX2_isRowSound 80 = .ok (.getfield 113, 3) := bX2_isRowSound_56.2.2.2.2.2.2.2.2.2.2.2.2.1
theorem dX2_isRowSound_83 : decode cX2_isRowSound 83 = .ok (.invokevirtual 308, 3) := bX2_isRowSound_56.2.2.2.2.2.2.2.2.2.2.2.2.2.1
theorem dX2_isRowSound_86 : decode cX2_isRowSound 86 = .ok (.ifCond .eq 7, 3) := bX2_isRowSound_56.2.2.2.2.2.2.2.2.2.2.2.2.2.2.1
theorem dX2_isRowSound_89 : decode cX2_isRowSound 89 = .ok (.iconst 1, 1) := bX2_isRowSound_56.2.2.2.2.2.2.2.2.2.2.2.2.2.2.2
set_option maxRecDepth 100000 in
theorem bX2_isRowSound_90 : (decode cX2_isRowSound 90 = .ok (.goto 4, 3)) ∧ (decode cX2_isRowSound 93 = .ok (.iconst 0, 1)) ∧ (decode cX2_isRowSound 94 = .ok (.ireturn, 1)) := by decide +kernel
theorem dX2_isRowSound_90 : decode cX2_isRowSound 90 = .ok (.goto 4, 3) := bX2_isRowSound_90.1
theorem dX2_isRowSound_93 : decode cX2_isRowSound 93 = .ok (.iconst 0, 1) := bX2_isRowSound_90.2.1
theorem dX2_isRowSound_94 : decode cX2_isRowSound 94 = .ok (.ireturn, 1) := bX2_isRowSound_90.2.2
set_option maxRecDepth 100000 in
theorem bX2_isWeaveSound_0 : (decode cX2_isWeaveSound 0 = .ok (.aload_n 1, 1)) ∧ (decode cX2_isWeaveSound 1 = .ok (.invokevirtual 131, 3)) ∧ (decode cX2_isWeaveSound 4 = .ok (.ifCond .eq 21, 3)) ∧ (decode cX2_isWeaveSound 7 = .ok (.aload_n 2, 1)) ∧ (decode cX2_isWeaveSound 8 = .ok (.invokevirtual 131, 3)) ∧ (decode cX2_isWeaveSound 11 = .ok (.ifCond .eq 14, 3)) ∧ (decode cX2_isWeaveSound 14 = .ok (.aload_n 2, 1)) ∧ (decode cX2_isWeaveSound 15 = .ok (.getfield 39, 3)) ∧ (decode cX2_isWeaveSound 18 = .ok (.aload_n 1, 1)) ∧ (decode cX2_isWeaveSound 19 = .ok (.invokevirtual 61, 3)) ∧ (decode cX2_isWeaveSound 22 = .ok (.if_icmp .le 5, 3)) ∧ (decode cX2_isWeaveSound 25 = .ok (.iconst 1, 1)) ∧ (decode cX2_isWeaveSound 26 = .ok (.ireturn, 1)) ∧ (decode cX2_isWeaveSound 27 = .ok (.aload_n 0, 1)) ∧ (decode cX2_isWeaveSound 28 = .ok (.getfield 23, 3)) ∧ (decode cX2_isWeaveSound 31 = .ok (.getfield 135, 3)) := by decide +kernel
theorem dX2_isWeaveSound_0 : decode cX2_isWeaveSound 0 = .ok (.aload_n 1, 1) := bX2_isWeaveSound_0.1
theorem dX2_isWeaveSound_1 : decode cX2_isWeaveSound 1 = .ok (.invokevirtual 131, 3) := bX2_isWeaveSound_0.2.1
theorem dX2_isWeaveSound_4 : decode cX2_isWeaveSound 4 = .ok (.ifCond .eq 21, 3) := bX2_isWeaveSound_0.2.2.1
theorem dX2_isWeaveSound_7 : decode cX2_isWeaveSound 7 = .ok (.aload_n 2, 1) := bX2_isWeaveSound_0.2.2.2.1
theorem dX2_isWeaveSound_8 : decode cX2_isWeaveSound 8 = .ok (.invokevirtual 131, 3) := bX2_isWeaveSound_0.2.2.2.2.1
theorem dX2_isWeaveSound_11 : decode cX2_isWeaveSound 11 = .ok (.ifCond .eq 14, 3) := bX2_isWeaveSound_0.2.2.2.2.2.1
theorem dX2_isWeaveSound_14 : decode cX2_isWeaveSound 14 = .ok (.aload_n 2, 1) := bX2_isWeaveSound_0.2.2.2.2.2.2.1
theorem dX2_isWeaveSound_15 : decode cX2_isWeaveSound 15 = .ok (.getfield 39, 3) := bX2_isWeaveSound_0.2.2.2.2.2.2.2.1
theorem dX2_isWeaveSound_18 : decode cX2_isWeaveSound 18 = .ok (.aload_n 1, 1) := bX2_isWeaveSound_0.2.2.2.2.2.2.2.2.1
theorem dX2_isWeaveSound_19 : decode cX2_isWeaveSound 19 = .ok (.invokevirtual 61, 3) := bX2_isWeaveSound_0.2.2.2.2.2.2.2.2.2.1
theorem dX2_isWeaveSound_22 : decode cX2_isWeaveSound 22 = .ok (.if_icmp .le 5, 3) := bX2_isWeaveSound_0.2.2.2.2.2.2.2.2.2.2.1
theorem dX2_isWeaveSound_25 : decode cX2_isWeaveSound 25 = .ok (.iconst 1, 1) := bX2_isWeaveSound_0.2.2.2.2.2.2.2.2.2.2.2.1
theorem dX2_isWeaveSound_26 : decode cX2_isWeaveSound 26 = .ok (.ireturn, 1) := bX2_isWeaveSound_0.2.2.2.2.2.2.2.2.2.2.2.2.1
theorem dX2_isWeaveSound_27 : decode cX2_isWeaveSound 27 = .ok (.aload_n 0, 1) := bX2_isWeaveSound_0.2.2.2.2.2.2.2.2.2.2.2.2.2.1
theorem dX2_isWeaveSound_28 : decode cX2_isWeaveSound 28 = .ok (.getfield 23, 3) := bX2_isWeaveSound_0.2.2.2.2.2.2.2.2.2.2.2.2.2.2.1
theorem dX2_isWeaveSound_31 : decode cX2_isWeaveSound 31 = .ok (.getfield 135, 3) := bX2_isWeaveSound_0.2.2.2.2.2.2.2.2.2.2.2.2.2.2.2
set_option maxRecDepth 100000 in
theorem bX2_isWeaveSound_34 : (decode cX2_isWeaveSound 34 = .ok (.aload_n 1, 1)) ∧ (decode cX2_isWeaveSound 35 = .ok (.invokevirtual 94, 3)) ∧ (decode cX2_isWeaveSound 38 = .ok (.aload_n 0, 1)) ∧ (decode cX2_isWeaveSound 39 = .ok (.getfield 23, 3)) ∧ (decode cX2_isWeaveSound 42 = .ok (.getfield 135, 3)) ∧ (decode cX2_isWeaveSound 45 = .ok (.aload_n 2, 1)) ∧ (decode cX2_isWeaveSound 46 = .ok (.iconst 0, 1)) ∧ (decode cX2_isWeaveSound 47 = .ok (.aload_n 2, 1)) ∧ (decode cX2_isWeaveSound 48 = .ok (.getfield 39, 3)) ∧ (decode cX2_isWeaveSound 51 = .ok (.invokevirtual 90, 3)) ∧ (decode cX2_isWeaveSound 54 = .ok (.aload_n 0, 1)) ∧ (decode cX2_isWeaveSound 55 = .ok (.getfield 23, 3)) ∧ (decode cX2_isWeaveSound 58 = .ok (.aload_n 1, 1)) ∧ (decode cX2_isWeaveSound 59 = .ok (.getfield 39, 3)) ∧ (decode cX2_isWeaveSound 62 = .ok (.invokevirtual 138, 3)) ∧ (decode cX2_isWeaveSound 65 = .ok (.aload_n 0, 1)) := by decide +kernel
theorem dX2_isWeaveSound_34 : decode cX2_isWeaveSound 34 = .ok (.aload_n 1, 1) := bX2_isWeaveSound_34.1
theorem dX2_isWeaveSound_35 : decode cX2_isWeaveSound 35 = .ok (.invokevirtual 94, 3) := bX2_isWeaveSound_34.2.1
theorem dX2_isWeaveSound_38 : decode cX2_isWeaveSound 38 = .ok (.aload_n 0, 1) := bX2_isWeaveSound_34.2.2.1
theorem dX2_isWeaveSound_39 : decode cX2_isWeaveSound 39 = .ok (.getfield 23, 3) := bX2_isWeaveSound_34.2.2.2.1
theorem dX2_isWeaveSound_42 : decode cX2_isWeaveSound 42 = .ok (.getfield 135, 3) := bX2_isWeaveSound_34.2.2.2.2.1
theorem dX2_isWeaveSound_45 : decode cX2_isWeaveSound 45 = .ok (.aload_n 2, 1) := bX2_isWeaveSound_34.2.2.2.2.2.1
theorem dX2_isWeaveSound_46 : decode cX2_isWeaveSound 46 = .ok (.iconst 0, 1) := bX2_isWeaveSound_34.2.2.2.2.2.2.1
theorem dX2_isWeaveSound_47 : decode cX2_isWeaveSound 47 = .ok (.aload_n 2, 1) := bX2_isWeaveSound_34.2.2.2.2.2.2.2.1
theorem dX2_isWeaveSound_48 : decode cX2_isWeaveSound 48 = .ok (.getfield 39, 3) := bX2_isWeaveSound_34.2.2.2.2.2.2.2.2.1
theorem dX2_isWeaveSound_51 : decode cX2_isWeaveSound 51 = .ok (.invokevirtual 90, 3) := bX2_isWeaveSound_34.2.2.2.2.2.2.2.2.2.1
theorem dX2_isWeaveSound_54 : decode cX2_isWeaveSound 54 = .ok (.aload_n 0, 1) := bX2_isWeaveSound_34.2.2.2.2.2.2.2.2.2.2.1
theorem dX2_isWeaveSound_55 : decode cX2_isWeaveSound 55 = .ok (.getfield 23, 3) := bX2_isWeaveSound_34.2.2.2.2.2.2.2.2.2.2.2.1
theorem dX2_isWeaveSound_58 : decode cX2_isWeaveSound 58 = .ok (.aload_n 1, 1) := bX2_isWeaveSound_34.2.2.2.2.2.2.2.2.2.2.2.2.1
theorem dX2_isWeaveSound_59 : decode cX2_isWeaveSound 59 = .ok (.getfield 39, 3) := bX2_isWeaveSound_34.2.2.2.2.2.2.2.2.2.2.2.2.2.1
theorem dX2_isWeaveSound_62 : decode cX2_isWeaveSound 62 = .ok (.invokevirtual 138, 3) := bX2_isWeaveSound_34.2.2.2.2.2.2.2.2.2.2.2.2.2.2.1
theorem dX2_isWeaveSound_65 : decode cX2_isWeaveSound 65 = .ok (.aload_n 0, 1) := bX2_isWeaveSound_34.2.2.2.2.2.2.2.2.2.2.2.2.2.2.2
set_option maxRecDepth 100000 in
theorem bX2_isWeaveSound_66 : (decode cX2_isWeaveSound 66 = .ok (.getfield 23, 3)) ∧ (decode cX2_isWeaveSound 69 = .ok (.aload_n 0, 1)) ∧ (decode cX2_isWeaveSound 70 = .ok (.getfield 23, 3)) ∧ (decode cX2_isWeaveSound 73 = .ok (.getfield 135, 3)) ∧ (decode cX2_isWeaveSound 76 = .ok (.aload_n 0, 1)) ∧ (decode cX2_isWeaveSound 77 = .ok (.getfield 23, 3)) ∧ (decode cX2_isWeaveSound 80 = .ok (.getfield 113, 3)) ∧ (decode cX2_isWeaveSound 83 = .ok (.invokevirtual 116, 3)) ∧ (decode cX2_isWeaveSound 86 = .ok (.pop, 1)) ∧ (decode cX2_isWeaveSound 87 = .ok (.aload_n 0, 1)) ∧ (decode cX2_isWeaveSound 88 = .ok (.getfield 23, 3)) ∧ (decode cX2_isWeaveSound 91 = .ok (.getfield 86, 3)) ∧ (decode cX2_isWeaveSound 94 = .ok (.getfield 39, 3)) ∧ (decode cX2_isWeaveSound 97 = .ok (.aload_n 0, 1)) ∧ (decode cX2_isWeaveSound 98 = .ok (.getfield 23, 3)) ∧ (decode cX2_isWeaveSound 101 = .ok (.getfield 113, 3)) := by decide +kernel
theorem dX2_isWeaveSound_66 : decode cX2_isWeaveSound 66 = .ok (.getfield 23, 3) := bX2_isWeaveSound_66.1
theorem dX2_isWeaveSound_69 : decode cX2_isWeaveSound 69 = .ok (.aload_n 0, 1) := bX2_isWeaveSound_66.2.1
theorem dX2_isWeaveSound_70 : decode cX2_isWeaveSound 70 = .ok (.getfield 23, 3) := bX2_isWeaveSound_66.2.2.1
theorem dX2_isWeaveSound_73 : decode cX2_isWeaveSound 73 = .ok (.getfield 135, 3) := bX2_isWeaveSound_66.2.2.2.1
theorem dX2_isWeaveSound_76 : decode cX2_isWeaveSound 76 = .ok (.aload_n 0, 1) := bX2_isWeaveSound_66.2.2.2.2.1
theorem dX2_isWeaveSound_77 : decode cX2_isWeaveSound 77 = .ok (.getfield 23, 3) := bX2_isWeaveSound_66.2.2.2.2.2.1
theorem dX2_isWeaveSound_80 : decode cX2_isWeaveSound 80 = .ok (.getfield 113, 3) := bX2_isWeaveSound_66.2.2.2.2.2.2.1
theorem dX2_isWeaveSound_83 : decode cX2_isWeaveSound 83 = .ok (.invokevirtual 116, 3) := bX2_isWeaveSound_66.2.2.2.2.2.2.2.1
theorem dX2_isWeaveSound_86 : decode cX2_isWeaveSound 86 = .ok (.pop, 1) := bX2_isWeaveSound_66.2.2.2.2.2.2.2.2.1
theorem dX2_isWeaveSound_87 : decode cX2_isWeaveSound 87 = .ok (.aload_n 0, 1) := bX2_isWeaveSound_66.2.2.2.2.2.2.2.2.2.1
theorem dX2_isWeaveSound_88 : decode cX2_isWeaveSound 88 = .ok (.getfield 23, 3) := bX2_isWeaveSound_66.2.2.2.2.2.2.2.2.2.2.1
theorem dX2_isWeaveSound_91 : decode cX2_isWeaveSound 91 = .ok (.getfield 86, 3) := bX2_isWeaveSound_66.2.2.2.2.2.2.2.2.2.2.2.1
theorem dX2_isWeaveSound_94 : decode cX2_isWeaveSound 94 = .ok (.getfield 39, 3) := bX2_isWeaveSound_66.2.2.2.2.2.2.2.2.2.2.2.2.1
theorem dX2_isWeaveSound_97 : decode cX2_isWeaveSound 97 = .ok (.aload_n 0, 1) := bX2_isWeaveSound_66.2.2.2.2.2.2.2.2.2.2.2.2.2.1
theorem dX2_isWeaveSound_98 : decode cX2_isWeaveSound 98 = .ok (.getfield 23, 3) := bX2_isWeaveSound_66.2.2.2.2.2.2.2.2.2.2.2.2.2.2.1
theorem dX2_isWeaveSound_101 : decode cX2_isWeaveSound 101 = .ok (.getfield 113, 3) := bX2_isWeaveSound_66.2.2.2.2.2.2.2.2.2.2.2.2.2.2.2
set_option maxRecDepth 100000 in
theorem bX2_isWeaveSound_104 : (decode cX2_isWeaveSound 104 = .ok (.getfield 39, 3)) ∧ (decode cX2_isWeaveSound 107 = .ok (.if_icmp .ne 27, 3)) ∧ (decode cX2_isWeaveSound 110 = .ok (.aload_n 0, 1)) ∧ (decode cX2_isWeaveSound 111 = .ok (.getfield 23, 3)) ∧ (decode cX2_isWeaveSound 114 = .ok (.getfield 86, 3)) ∧ (decode cX2_isWeaveSound 117 = .ok (.aload_n 0, 1)) ∧ (decode cX2_isWeaveSound 118 = .ok (.getfield 23, 3)) ∧ (decode cX2_isWeaveSound 121 = .ok (.getfield 113, 3)) ∧ (decode cX2_isWeaveSound 124 = .ok (.invokevirtual 120, 3)) ∧ (decode cX2_isWeaveSound 127 = .ok (.ifCond .ne 7, 3)) ∧ (decode cX2_isWeaveSound 130 = .ok (.iconst 1, 1)) ∧ (decode cX2_isWeaveSound 131 = .ok (.goto 4, 3)) ∧ (decode cX2_isWeaveSound 134 = .ok (.iconst 0, 1)) ∧ (decode cX2_isWeaveSound 135 = .ok (.ireturn, 1)) := by decide +kernel
theorem dX2_isWeaveSound_104 : decode cX2_isWeaveSound 104 = .ok (.getfield 39, 3) := bX2_isWeaveSound_104.1
theorem dX2_isWeaveSound_107 : decode cX2_isWeaveSound 107 = .ok (.if_icmp .ne 27, 3) := bX2_isWeaveSound_104.2.1
theorem dX2_isWeaveSound_110 : decode cX2_isWeaveSound 110 = .ok (.aload_n 0, 1) := bX2_isWeaveSound_104.2.2.1
theorem dX2_isWeaveSound_111 : decode cX2_isWeaveSound 111 = .ok (.getfield 23, 3) := bX2_isWeaveSound_104.2.2.2.1
theorem dX2_isWeaveSound_114 : decode cX2_isWeaveSound 114 = .ok (.getfield 86, 3) := bX2_isWeaveSound_104.2.2.2.2.1
theorem dX2_isWeaveSound_117 : decode cX2_isWeaveSound 117 = .ok (.aload_n 0, 1) := bX2_isWeaveSound_104.2.2.2.2.2.1
theorem dX2_isWeaveSound_118 : decode cX2_isWeaveSound 118 = .ok (.getfield 23, 3) := bX2_isWeaveSound_104.2.2.2.2.2.2.1
theorem dX2_isWeaveSound_121 : decode cX2_isWeaveSound 121 = .ok (.getfield 113, 3) := bX2_isWeaveSound_104.2.2.2.2.2.2.2.1
theorem dX2_isWeaveSound_124 : decode cX2_isWeaveSound 124 = .ok (.invokevirtual 120, 3) := bX2_isWeaveSound_104.2.2.2.2.2.2.2.2.1
theorem dX2_isWeaveSound_127 : decode cX2_isWeaveSound 127 = .ok (.ifCond .ne 7, 3) := bX2_isWeaveSound_104.2.2.2.2.2.2.2.2.2.1
theorem dX2_isWeaveSound_130 : decode cX2_isWeaveSound 130 = .ok (.iconst 1, 1) := bX2_isWeaveSound_104.2.2.2.2.2.2.2.2.2.2.1
theorem dX2_isWeaveSound_131 : decode cX2_isWeaveSound 131 = .ok (.goto 4, 3) := bX2_isWeaveSound_104.2.2.2.2.2.2.2.2.2.2.2.1
theorem dX2_isWeaveSound_134 : decode cX2_isWeaveSound 134 = .ok (.iconst 0, 1) := bX2_isWeaveSound_104.2.2.2.2.2.2.2.2.2.2.2.2.1
theorem dX2_isWeaveSound_135 : decode cX2_isWeaveSound 135 = .ok (.ireturn, 1) := bX2_isWeaveSound_104.2.2.2.2.2.2.2.2.2.2.2.2.2
set_option maxRecDepth 100000 in
theorem bX3_init_0 : (decode cX3_init 0 = .ok (.aload_n 0, 1)) ∧ (decode cX3_init 1 = .ok (.invokespecial 1, 3)) ∧ (decode cX3_init 4 = .ok (.return_, 1)) := by decide +kernel
theorem dX3_init_0 : decode cX3_init 0 = .ok (.aload_n 0, 1) := bX3_init_0.1
theorem dX3_init_1 : decode cX3_init 1 = .ok (.invokespecial 1, 3) := bX3_init_0.2.1
theorem dX3_init_4 : decode cX3_init 4 = .ok (.return_, 1) := bX3_init_0.2.2
set_option maxRecDepth 100000 in
theorem bX4_init_0 : (decode cX4_init 0 = .ok (.aload_n 0, 1)) ∧ (decode cX4_init 1 = .ok (.invokespecial 1, 3)) ∧ (decode cX4_init 4 = .ok (.aload_n 0, 1)) ∧ (decode cX4_init 5 = .ok (.iconst 4, 1)) ∧ (decode cX4_init 6 = .ok (.iconst 0, 1)) ∧ (decode cX4_init 7 = .ok (.multianewarray 9 2, 4)) ∧ (decode cX4_init 11 = .ok (.putfield 11, 3)) ∧ (decode cX4_init 14 = .ok (.aload_n 0, 1)) ∧ (decode cX4_init 15 = .ok (.iconst 4, 1)) ∧ (decode cX4_init 16 = .ok (.iconst 0, 1)) ∧ (decode cX4_init 17 = .ok (.multianewarray 9 2, 4)) ∧ (decode cX4_init 21 = .ok (.putfield 14, 3)) ∧ (decode cX4_init 24 = .ok (.return_, 1)) := by decide +kernel
theorem dX4_init_0 : decode cX4_init 0 = .ok (.aload_n 0, 1) := bX4_init_0.1
theorem dX4_init_1 : decode cX4_init 1 = .ok (.invokespecial 1, 3) := bX4_init_0.2.1
theorem dX4_init_4 : decode cX4_init 4 = .ok (.aload_n 0, 1) := bX4_init_0.2.2.1
theorem dX4_init_5 : decode cX4_init 5 = .ok (.iconst 4, 1) := bX4_init_0.2.2.2.1
theorem dX4_init_6 : decode cX4_init 6 = .ok (.iconst 0, 1) := bX4_init_0.2.2.2.2.1
theorem dX4_init_7 : decode cX4_init 7 = .ok (.multianewarray 9 2, 4) := bX4_init_0.2.2.2.2.2.1
theorem dX4_init_11 : decode cX4_init 11 = .ok (.putfield 11, 3) := bX4_init_0.2.2.2.2.2.2.1
theorem dX4_init_14 : decode cX4_init 14 = .ok (.aload_n 0, 1) := bX4_init_0.2.2.2.2.2.2.2.1
theorem dX4_init_15 : decode cX4_init 15 = .ok (.iconst 4, 1) := bX4_init_0.2.2.2.2.2.2.2.2.1
theorem dX4_init_16 : decode cX4_init 16 = .ok (.iconst 0, 1) := bX4_init_0.2.2.2.2.2.2.2.2.2.1
theorem dX4_init_17 : decode cX4_init 17 = .ok (.multianewarray 9 2, 4) := bX4_init_0.2.2.2.2.2.2.2.2.2.2.1
theorem dX4_init_21 : decode cX4_init 21 = .ok (.putfield 14, 3) := bX4_init_0.2.2.2.2.2.2.2.2.2.2.2.1
theorem dX4_init_24 : decode cX4_init 24 = .ok (.return_, 1) := bX4_init_0.2.2.2.2.2.2.2.2.2.2.2.2
set_option maxRecDepth 100000 in
theorem bX4_thrown_0 : (decode cX4_thrown 0 = .ok (.aload_n 0, 1)) ∧ (decode cX4_thrown 1 = .ok (.getfield 17, 3)) ∧ (decode cX4_thrown 4 = .ok (.ireturn, 1)) := by decide +kernel
theorem dX4_thrown_0 : decode cX4_thrown 0 = .ok (.aload_n 0, 1) := bX4_thrown_0.1
theorem dX4_thrown_1 : decode cX4_thrown 1 = .ok (.getfield 17, 3) := bX4_thrown_0.2.1
theorem dX4_thrown_4 : decode cX4_thrown 4 = .ok (.ireturn, 1) := bX4_thrown_0.2.2
set_option maxRecDepth 100000 in
theorem bX4_isIn_0 : (decode cX4_isIn 0 = .ok (.iload_n 0, 1)) ∧ (decode cX4_isIn 1 = .ok (.iload_n 1, 1)) ∧ (decode cX4_isIn 2 = .ok (.if_icmp .lt 12, 3)) ∧ (decode cX4_isIn 5 = .ok (.iload_n 0, 1)) ∧ (decode cX4_isIn 6 = .ok (.iload_n 2, 1)) ∧ (decode cX4_isIn 7 = .ok (.if_icmp .gt 7, 3)) ∧ (decode cX4_isIn 10 = .ok (.iconst 1, 1)) ∧ (decode cX4_isIn 11 = .ok (.goto 4, 3)) ∧ (decode cX4_isIn 14 = .ok (.iconst 0, 1)) ∧ (decode cX4_isIn 15 = .ok (.ireturn, 1)) := by decide +kernel
theorem dX4_isIn_0 : decode cX4_isIn 0 = .ok (.iload_n 0, 1) := bX4_isIn_0.1
theorem dX4_isIn_1 : decode cX4_isIn 1 = .ok (.iload_n 1, 1) := bX4_isIn_0.2.1
theorem dX4_isIn_2 : decode cX4_isIn 2 = .ok (.if_icmp .lt 12, 3) := bX4_isIn_0.2.2.1
theorem dX4_isIn_5 : decode cX4_isIn 5 = .ok (.iload_n 0, 1) := bX4_isIn_0.2.2.2.1
theorem dX4_isIn_6 : decode cX4_isIn 6 = .ok (.iload_n 2, 1) := bX4_isIn_0.2.2.2.2.1
theorem dX4_isIn_7 : decode cX4_isIn 7 = .ok (.if_icmp .gt 7, 3) := bX4_isIn_0.2.2.2.2.2.1
theorem dX4_isIn_10 : decode cX4_isIn 10 = .ok (.iconst 1, 1) := bX4_isIn_0.2.2.2.2.2.2.1
theorem dX4_isIn_11 : decode cX4_isIn 11 = .ok (.goto 4, 3) := bX4_isIn_0.2.2.2.2.2.2.2.1
theorem dX4_isIn_14 : decode cX4_isIn 14 = .ok (.iconst 0, 1) := bX4_isIn_0.2.2.2.2.2.2.2.2.1
theorem dX4_isIn_15 : decode cX4_isIn 15 = .ok (.ireturn, 1) := bX4_isIn_0.2.2.2.2.2.2.2.2.2
set_option maxRecDepth 100000 in
theorem bX4_room_0 : (decode cX4_room 0 = .ok (.iload_n 0, 1)) ∧ (decode cX4_room 1 = .ok (.iconst 3, 1)) ∧ (decode cX4_room 2 = .ok (.if_icmp .ne 9, 3)) ∧ (decode cX4_room 5 = .ok (.sipush 320, 3)) ∧ (decode cX4_room 8 = .ok (.goto 6, 3)) ∧ (decode cX4_room 11 = .ok (.sipush 150, 3)) ∧ (decode cX4_room 14 = .ok (.ireturn, 1)) := by decide +kernel
theorem dX4_room_0 : decode cX4_room 0 = .ok (.iload_n 0, 1) := bX4_room_0.1
theorem dX4_room_1 : decode cX4_room 1 = .ok (.iconst 3, 1) := bX4_room_0.2.1
theorem dX4_room_2 : decode cX4_room 2 = .ok (.if_icmp .ne 9, 3) := bX4_room_0.2.2.1
theorem dX4_room_5 : decode cX4_room 5 = .ok (.sipush 320, 3) := bX4_room_0.2.2.2.1
theorem dX4_room_8 : decode cX4_room 8 = .ok (.goto 6, 3) := bX4_room_0.2.2.2.2.1
theorem dX4_room_11 : decode cX4_room 11 = .ok (.sipush 150, 3) := bX4_room_0.2.2.2.2.2.1
theorem dX4_room_14 : decode cX4_room 14 = .ok (.ireturn, 1) := bX4_room_0.2.2.2.2.2.2
set_option maxRecDepth 100000 in
theorem bX4_isRow_0 : (decode cX4_isRow 0 = .ok (.iload_n 0, 1)) ∧ (decode cX4_isRow 1 = .ok (.iconst 0, 1)) ∧ (decode cX4_isRow 2 = .ok (.iconst 3, 1)) ∧ (decode cX4_isRow 3 = .ok (.invokestatic 21, 3)) ∧ (decode cX4_isRow 6 = .ok (.ireturn, 1)) := by decide +kernel
theorem dX4_isRow_0 : decode cX4_isRow 0 = .ok (.iload_n 0, 1) := bX4_isRow_0.1
theorem dX4_isRow_1 : decode cX4_isRow 1 = .ok (.iconst 0, 1) := bX4_isRow_0.2.1
theorem dX4_isRow_2 : decode cX4_isRow 2 = .ok (.iconst 3, 1) := bX4_isRow_0.2.2.1
theorem dX4_isRow_3 : decode cX4_isRow 3 = .ok (.invokestatic 21, 3) := bX4_isRow_0.2.2.2.1
theorem dX4_isRow_6 : decode cX4_isRow 6 = .ok (.ireturn, 1) := bX4_isRow_0.2.2.2.2
set_option maxRecDepth 100000 in
theorem bX4_isPlace_0 : (decode cX4_isPlace 0 = .ok (.iload_n 1, 1)) ∧ (decode cX4_isPlace 1 = .ok (.invokestatic 25, 3)) ∧ (decode cX4_isPlace 4 = .ok (.ifCond .eq 24, 3)) ∧ (decode cX4_isPlace 7 = .ok (.iload_n 2, 1)) ∧ (decode cX4_isPlace 8 = .ok (.iconst 0, 1)) ∧ (decode cX4_isPlace 9 = .ok (.aload_n 0, 1)) ∧ (decode cX4_isPlace 10 = .ok (.getfield 11, 3)) ∧ (decode cX4_isPlace 13 = .ok (.iload_n 1, 1)) ∧ (decode cX4_isPlace 14 = .ok (.aaload, 1)) ∧ (decode cX4_isPlace 15 = .ok (.arraylength, 1)) ∧ (decode cX4_isPlace 16 = .ok (.iconst 1, 1)) ∧ (decode cX4_isPlace 17 = .ok (.isub, 1)) ∧ (decode cX4_isPlace 18 = .ok (.invokestatic 21, 3)) ∧ (decode cX4_isPlace 21 = .ok (.ifCond .eq 7, 3)) ∧ (decode cX4_isPlace 24 = .ok (.iconst 1, 1)) ∧ (decode cX4_isPlace 25 = .ok (.goto 4, 3)) := by decide +kernel
theorem dX4_isPlace_0 : decode cX4_isPlace 0 = .ok (.iload_n 1, 1) := bX4_isPlace_0.1
theorem dX4_isPlace_1 : decode cX4_isPlace 1 = .ok (.invokestatic 25, 3) := bX4_isPlace_0.2.1
theorem dX4_isPlace_4 : decode cX4_isPlace 4 = .ok (.ifCond .eq 24, 3) := bX4_isPlace_0.2.2.1
theorem dX4_isPlace_7 : decode cX4_isPlace 7 = .ok (.iload_n 2, 1) := bX4_isPlace_0.2.2.2.1
theorem dX4_isPlace_8 : decode cX4_isPlace 8 = .ok (.iconst 0, 1) := bX4_isPlace_0.2.2.2.2.1
theorem dX4_isPlace_9 : decode cX4_isPlace 9 = .ok (.aload_n 0, 1) := bX4_isPlace_0.2.2.2.2.2.1
theorem dX4_isPlace_10 : decode cX4_isPlace 10 = .ok (.getfield 11, 3) := bX4_isPlace_0.2.2.2.2.2.2.1
theorem dX4_isPlace_13 : decode cX4_isPlace 13 = .ok (.iload_n 1, 1) := bX4_isPlace_0.2.2.2.2.2.2.2.1
theorem dX4_isPlace_14 : decode cX4_isPlace 14 = .ok (.aaload, 1) := bX4_isPlace_0.2.2.2.2.2.2.2.2.1
theorem dX4_isPlace_15 : decode cX4_isPlace 15 = .ok (.arraylength, 1) := bX4_isPlace_0.2.2.2.2.2.2.2.2.2.1
theorem dX4_isPlace_16 : decode cX4_isPlace 16 = .ok (.iconst 1, 1) := bX4_isPlace_0.2.2.2.2.2.2.2.2.2.2.1
theorem dX4_isPlace_17 : decode cX4_isPlace 17 = .ok (.isub, 1) := bX4_isPlace_0.2.2.2.2.2.2.2.2.2.2.2.1
theorem dX4_isPlace_18 : decode cX4_isPlace 18 = .ok (.invokestatic 21, 3) := bX4_isPlace_0.2.2.2.2.2.2.2.2.2.2.2.2.1
theorem dX4_isPlace_21 : decode cX4_isPlace 21 = .ok (.ifCond .eq 7, 3) := bX4_isPlace_0.2.2.2.2.2.2.2.2.2.2.2.2.2.1
theorem dX4_isPlace_24 : decode cX4_isPlace 24 = .ok (.iconst 1, 1) := bX4_isPlace_0.2.2.2.2.2.2.2.2.2.2.2.2.2.2.1
theorem dX4_isPlace_25 : decode cX4_isPlace 25 = .ok (.goto 4, 3) := bX4_isPlace_0.2.2.2.2.2.2.2.2.2.2.2.2.2.2.2
set_option maxRecDepth 100000 in
theorem bX4_isPlace_28 : (decode cX4_isPlace 28 = .ok (.iconst 0, 1)) ∧ (decode cX4_isPlace 29 = .ok (.ireturn, 1)) := by decide +kernel
theorem dX4_isPlace_28 : decode cX4_isPlace 28 = .ok (.iconst 0, 1) := bX4_isPlace_28.1
theorem dX4_isPlace_29 : decode cX4_isPlace 29 = .ok (.ireturn, 1) := bX4_isPlace_28.2
set_option maxRecDepth 100000 in
theorem bX4_isLet_0 : (decode cX4_isLet 0 = .ok (.aload_n 0, 1)) ∧ (decode cX4_isLet 1 = .ok (.iload_n 1, 1)) ∧ (decode cX4_isLet 2 = .ok (.ifCond .ne 7, 3)) ∧ (decode cX4_isLet 5 = .ok (.iconst 1, 1)) ∧ (decode cX4_isLet 6 = .ok (.goto 12, 3)) ∧ (decode cX4_isLet 9 = .ok (.iload_n 2, 1)) ∧ (decode cX4_isLet 10 = .ok (.ifCond .ne 7, 3)) ∧ (decode cX4_isLet 13 = .ok (.iconst 2, 1)) ∧ (decode cX4_isLet 14 = .ok (.goto 4, 3)) ∧ (decode cX4_isLet 17 = .ok (.iconst 0, 1)) ∧ (decode cX4_isLet 18 = .ok (.putfield 17, 3)) ∧ (decode cX4_isLet 21 = .ok (.aload_n 0, 1)) ∧ (decode cX4_isLet 22 = .ok (.getfield 17, 3)) ∧ (decode cX4_isLet 25 = .ok (.ifCond .ne 7, 3)) ∧ (decode cX4_isLet 28 = .ok (.iconst 1, 1)) ∧ (decode cX4_isLet 29 = .ok (.goto 4, 3)) := by decide +kernel
theorem dX4_isLet_0 : decode cX4_isLet 0 = .ok (.aload_n 0, 1) := bX4_isLet_0.1
theorem dX4_isLet_1 : decode cX4_isLet 1 = .ok (.iload_n 1, 1) := bX4_isLet_0.2.1
theorem dX4_isLet_2 : decode cX4_isLet 2 = .ok (.ifCond .ne 7, 3) := bX4_isLet_0.2.2.1
theorem dX4_isLet_5 : decode cX4_isLet 5 = .ok (.iconst 1, 1) := bX4_isLet_0.2.2.2.1
theorem dX4_isLet_6 : decode cX4_isLet 6 = .ok (.goto 12, 3) := bX4_isLet_0.2.2.2.2.1
theorem dX4_isLet_9 : decode cX4_isLet 9 = .ok (.iload_n 2, 1) := bX4_isLet_0.2.2.2.2.2.1
theorem dX4_isLet_10 : decode cX4_isLet 10 = .ok (.ifCond .ne 7, 3) := bX4_isLet_0.2.2.2.2.2.2.1
theorem dX4_isLet_13 : decode cX4_isLet 13 = .ok (.iconst 2, 1) := bX4_isLet_0.2.2.2.2.2.2.2.1
theorem dX4_isLet_14 : decode cX4_isLet 14 = .ok (.goto 4, 3) := bX4_isLet_0.2.2.2.2.2.2.2.2.1
theorem dX4_isLet_17 : decode cX4_isLet 17 = .ok (.iconst 0, 1) := bX4_isLet_0.2.2.2.2.2.2.2.2.2.1
theorem dX4_isLet_18 : decode cX4_isLet 18 = .ok (.putfield 17, 3) := bX4_isLet_0.2.2.2.2.2.2.2.2.2.2.1
theorem dX4_isLet_21 : decode cX4_isLet 21 = .ok (.aload_n 0, 1) := bX4_isLet_0.2.2.2.2.2.2.2.2.2.2.2.1
theorem dX4_isLet_22 : decode cX4_isLet 22 = .ok (.getfield 17, 3) := bX4_isLet_0.2.2.2.2.2.2.2.2.2.2.2.2.1
theorem dX4_isLet_25 : decode cX4_isLet 25 = .ok (.ifCond .ne 7, 3) := bX4_isLet_0.2.2.2.2.2.2.2.2.2.2.2.2.2.1
theorem dX4_isLet_28 : decode cX4_isLet 28 = .ok (.iconst 1, 1) := bX4_isLet_0.2.2.2.2.2.2.2.2.2.2.2.2.2.2.1
theorem dX4_isLet_29 : decode cX4_isLet 29 = .ok (.goto 4, 3) := bX4_isLet_0.2.2.2.2.2.2.2.2.2.2.2.2.2.2.2
set_option maxRecDepth 100000 in
theorem bX4_isLet_32 : (decode cX4_isLet 32 = .ok (.iconst 0, 1)) ∧ (decode cX4_isLet 33 = .ok (.ireturn, 1)) := by decide +kernel
theorem dX4_isLet_32 : decode cX4_isLet 32 = .ok (.iconst 0, 1) := bX4_isLet_32.1
theorem dX4_isLet_33 : decode cX4_isLet 33 = .ok (.ireturn, 1) := bX4_isLet_32.2
set_option maxRecDepth 100000 in
theorem bX4_did_0 : (decode cX4_did 0 = .ok (.aload_n 0, 1)) ∧ (decode cX4_did 1 = .ok (.dup, 1)) ∧ (decode cX4_did 2 = .ok (.getfield 29, 3)) ∧ (decode cX4_did 5 = .ok (.iconst 1, 1)) ∧ (decode cX4_did 6 = .ok (.iadd, 1)) ∧ (decode cX4_did 7 = .ok (.putfield 29, 3)) ∧ (decode cX4_did 10 = .ok (.iload_n 1, 1)) ∧ (decode cX4_did 11 = .ok (.ireturn, 1)) := by decide +kernel
theorem dX4_did_0 : decode cX4_did 0 = .ok (.aload_n 0, 1) := bX4_did_0.1
theorem dX4_did_1 : decode cX4_did 1 = .ok (.dup, 1) := bX4_did_0.2.1
theorem dX4_did_2 : decode cX4_did 2 = .ok (.getfield 29, 3) := bX4_did_0.2.2.1
theorem dX4_did_5 : decode cX4_did 5 = .ok (.iconst 1, 1) := bX4_did_0.2.2.2.1
theorem dX4_did_6 : decode cX4_did 6 = .ok (.iadd, 1) := bX4_did_0.2.2.2.2.1
theorem dX4_did_7 : decode cX4_did 7 = .ok (.putfield 29, 3) := bX4_did_0.2.2.2.2.2.1
theorem dX4_did_10 : decode cX4_did 10 = .ok (.iload_n 1, 1) := bX4_did_0.2.2.2.2.2.2.1
theorem dX4_did_11 : decode cX4_did 11 = .ok (.ireturn, 1) := bX4_did_0.2.2.2.2.2.2.2
set_option maxRecDepth 100000 in
theorem bX4_refuse_0 : (decode cX4_refuse 0 = .ok (.aload_n 0, 1)) ∧ (decode cX4_refuse 1 = .ok (.dup, 1)) ∧ (decode cX4_refuse 2 = .ok (.getfield 32, 3)) ∧ (decode cX4_refuse 5 = .ok (.iconst 1, 1)) ∧ (decode cX4_refuse 6 = .ok (.iadd, 1)) ∧ (decode cX4_refuse 7 = .ok (.putfield 32, 3)) ∧ (decode cX4_refuse 10 = .ok (.bipush (-9), 2)) ∧ (decode cX4_refuse 12 = .ok (.ireturn, 1)) := by decide +kernel
theorem dX4_refuse_0 : decode cX4_refuse 0 = .ok (.aload_n 0, 1) := bX4_refuse_0.1
theorem dX4_refuse_1 : decode cX4_refuse 1 = .ok (.dup, 1) := bX4_refuse_0.2.1
theorem dX4_refuse_2 : decode cX4_refuse 2 = .ok (.getfield 32, 3) := bX4_refuse_0.2.2.1
theorem dX4_refuse_5 : decode cX4_refuse 5 = .ok (.iconst 1, 1) := bX4_refuse_0.2.2.2.1
theorem dX4_refuse_6 : decode cX4_refuse 6 = .ok (.iadd, 1) := bX4_refuse_0.2.2.2.2.1
theorem dX4_refuse_7 : decode cX4_refuse 7 = .ok (.putfield 32, 3) := bX4_refuse_0.2.2.2.2.2.1
theorem dX4_refuse_10 : decode cX4_refuse 10 = .ok (.bipush (-9), 2) := bX4_refuse_0.2.2.2.2.2.2.1
theorem dX4_refuse_12 : decode cX4_refuse 12 = .ok (.ireturn, 1) := bX4_refuse_0.2.2.2.2.2.2.2
set_option maxRecDepth 100000 in
theorem bX4_made_0 : (decode cX4_made 0 = .ok (.iload_n 2, 1)) ∧ (decode cX4_made 1 = .ok (.newarray .int, 2)) ∧ (decode cX4_made 3 = .ok (.astore_n 3, 1)) ∧ (decode cX4_made 4 = .ok (.iconst 0, 1)) ∧ (decode cX4_made 5 = .ok (.istore 4, 2)) ∧ (decode cX4_made 7 = .ok (.iload 4, 2)) ∧ (decode cX4_made 9 = .ok (.iload_n 2, 1)) ∧ (decode cX4_made 10 = .ok (.if_icmp .ge 33, 3)) ∧ (decode cX4_made 13 = .ok (.aload_n 3, 1)) ∧ (decode cX4_made 14 = .ok (.iload 4, 2)) ∧ (decode cX4_made 16 = .ok (.iload_n 1, 1)) ∧ (decode cX4_made 17 = .ok (.iconst 1, 1)) ∧ (decode cX4_made 18 = .ok (.if_icmp .le 7, 3)) ∧ (decode cX4_made 21 = .ok (.iconst (-1), 1)) ∧ (decode cX4_made 22 = .ok (.goto 14, 3)) ∧ (decode cX4_made 25 = .ok (.aload_n 0, 1)) := by decide +kernel
theorem dX4_made_0 : decode cX4_made 0 = .ok (.iload_n 2, 1) := bX4_made_0.1
theorem dX4_made_1 : decode cX4_made 1 = .ok (.newarray .int, 2) := bX4_made_0.2.1
theorem dX4_made_3 : decode cX4_made 3 = .ok (.astore_n 3, 1) := bX4_made_0.2.2.1
theorem dX4_made_4 : decode cX4_made 4 = .ok (.iconst 0, 1) := bX4_made_0.2.2.2.1
theorem dX4_made_5 : decode cX4_made 5 = .ok (.istore 4, 2) := bX4_made_0.2.2.2.2.1
theorem dX4_made_7 : decode cX4_made 7 = .ok (.iload 4, 2) := bX4_made_0.2.2.2.2.2.1
theorem dX4_made_9 : decode cX4_made 9 = .ok (.iload_n 2, 1) := bX4_made_0.2.2.2.2.2.2.1
theorem dX4_made_10 : decode cX4_made 10 = .ok (.if_icmp .ge 33, 3) := bX4_made_0.2.2.2.2.2.2.2.1
theorem dX4_made_13 : decode cX4_made 13 = .ok (.aload_n 3, 1) := bX4_made_0.2.2.2.2.2.2.2.2.1
theorem dX4_made_14 : decode cX4_made 14 = .ok (.iload 4, 2) := bX4_made_0.2.2.2.2.2.2.2.2.2.1
theorem dX4_made_16 : decode cX4_made 16 = .ok (.iload_n 1, 1) := bX4_made_0.2.2.2.2.2.2.2.2.2.2.1
theorem dX4_made_17 : decode cX4_made 17 = .ok (.iconst 1, 1) := bX4_made_0.2.2.2.2.2.2.2.2.2.2.2.1
theorem dX4_made_18 : decode cX4_made 18 = .ok (.if_icmp .le 7, 3) := bX4_made_0.2.2.2.2.2.2.2.2.2.2.2.2.1
theorem dX4_made_21 : decode cX4_made 21 = .ok (.iconst (-1), 1) := bX4_made_0.2.2.2.2.2.2.2.2.2.2.2.2.2.1
theorem dX4_made_22 : decode cX4_made 22 = .ok (.goto 14, 3) := bX4_made_0.2.2.2.2.2.2.2.2.2.2.2.2.2.2.1
theorem dX4_made_25 : decode cX4_made 25 = .ok (.aload_n 0, 1) := bX4_made_0.2.2.2.2.2.2.2.2.2.2.2.2.2.2.2
set_option maxRecDepth 100000 in
theorem bX4_made_26 : (decode cX4_made 26 = .ok (.dup, 1)) ∧ (decode cX4_made 27 = .ok (.getfield 35, 3)) ∧ (decode cX4_made 30 = .ok (.dup_x1, 1)) ∧ (decode cX4_made 31 = .ok (.iconst 1, 1)) ∧ (decode cX4_made 32 = .ok (.iadd, 1)) ∧ (decode cX4_made 33 = .ok (.putfield 35, 3)) ∧ (decode cX4_made 36 = .ok (.iastore, 1)) ∧ (decode cX4_made 37 = .ok (.iinc 4 1, 3)) ∧ (decode cX4_made 40 = .ok (.goto (-33), 3)) ∧ (decode cX4_made 43 = .ok (.aload_n 3, 1)) ∧ (decode cX4_made 44 = .ok (.areturn, 1)) := by decide +kernel
theorem dX4_made_26 : decode cX4_made 26 = .ok (.dup, 1) := bX4_made_26.1
theorem dX4_made_27 : decode cX4_made 27 = .ok (.getfield 35, 3) := bX4_made_26.2.1
theorem dX4_made_30 : decode cX4_made 30 = .ok (.dup_x1, 1) := bX4_made_26.2.2.1
theorem dX4_made_31 : decode cX4_made 31 = .ok (.iconst 1, 1) := bX4_made_26.2.2.2.1
theorem dX4_made_32 : decode cX4_made 32 = .ok (.iadd, 1) := bX4_made_26.2.2.2.2.1
theorem dX4_made_33 : decode cX4_made 33 = .ok (.putfield 35, 3) := bX4_made_26.2.2.2.2.2.1
theorem dX4_made_36 : decode cX4_made 36 = .ok (.iastore, 1) := bX4_made_26.2.2.2.2.2.2.1
theorem dX4_made_37 : decode cX4_made 37 = .ok (.iinc 4 1, 3) := bX4_made_26.2.2.2.2.2.2.2.1
theorem dX4_made_40 : decode cX4_made 40 = .ok (.goto (-33), 3) := bX4_made_26.2.2.2.2.2.2.2.2.1
theorem dX4_made_43 : decode cX4_made 43 = .ok (.aload_n 3, 1) := bX4_made_26.2.2.2.2.2.2.2.2.2.1
theorem dX4_made_44 : decode cX4_made 44 = .ok (.areturn, 1) := bX4_made_26.2.2.2.2.2.2.2.2.2.2
set_option maxRecDepth 100000 in
theorem bX4_coming_0 : (decode cX4_coming 0 = .ok (.iload_n 2, 1)) ∧ (decode cX4_coming 1 = .ok (.iconst 1, 1)) ∧ (decode cX4_coming 2 = .ok (.if_icmp .gt 8, 3)) ∧ (decode cX4_coming 5 = .ok (.iload_n 1, 1)) ∧ (decode cX4_coming 6 = .ok (.iconst 1, 1)) ∧ (decode cX4_coming 7 = .ok (.if_icmp .le 16, 3)) ∧ (decode cX4_coming 10 = .ok (.aload_n 0, 1)) ∧ (decode cX4_coming 11 = .ok (.iload_n 2, 1)) ∧ (decode cX4_coming 12 = .ok (.aload_n 0, 1)) ∧ (decode cX4_coming 13 = .ok (.getfield 11, 3)) ∧ (decode cX4_coming 16 = .ok (.iload_n 1, 1)) ∧ (decode cX4_coming 17 = .ok (.aaload, 1)) ∧ (decode cX4_coming 18 = .ok (.arraylength, 1)) ∧ (decode cX4_coming 19 = .ok (.invokevirtual 38, 3)) ∧ (decode cX4_coming 22 = .ok (.areturn, 1)) ∧ (decode cX4_coming 23 = .ok (.aload_n 0, 1)) := by decide +kernel
theorem dX4_coming_0 : decode cX4_coming 0 = .ok (.iload_n 2, 1) := bX4_coming_0.1
theorem dX4_coming_1 : decode cX4_coming 1 = .ok (.iconst 1, 1) := bX4_coming_0.2.1
theorem dX4_coming_2 : decode cX4_coming 2 = .ok (.if_icmp .gt 8, 3) := bX4_coming_0.2.2.1
theorem dX4_coming_5 : decode cX4_coming 5 = .ok (.iload_n 1, 1) := bX4_coming_0.2.2.2.1
theorem dX4_coming_6 : decode cX4_coming 6 = .ok (.iconst 1, 1) := bX4_coming_0.2.2.2.2.1
theorem dX4_coming_7 : decode cX4_coming 7 = .ok (.if_icmp .le 16, 3) := bX4_coming_0.2.2.2.2.2.1
theorem dX4_coming_10 : decode cX4_coming 10 = .ok (.aload_n 0, 1) := bX4_coming_0.2.2.2.2.2.2.1
theorem dX4_coming_11 : decode cX4_coming 11 = .ok (.iload_n 2, 1) := bX4_coming_0.2.2.2.2.2.2.2.1
theorem dX4_coming_12 : decode cX4_coming 12 = .ok (.aload_n 0, 1) := bX4_coming_0.2.2.2.2.2.2.2.2.1
theorem dX4_coming_13 : decode cX4_coming 13 = .ok (.getfield 11, 3) := bX4_coming_0.2.2.2.2.2.2.2.2.2.1
theorem dX4_coming_16 : decode cX4_coming 16 = .ok (.iload_n 1, 1) := bX4_coming_0.2.2.2.2.2.2.2.2.2.2.1
theorem dX4_coming_17 : decode cX4_coming 17 = .ok (.aaload, 1) := bX4_coming_0.2.2.2.2.2.2.2.2.2.2.2.1
theorem dX4_coming_18 : decode cX4_coming 18 = .ok (.arraylength, 1) := bX4_coming_0.2.2.2.2.2.2.2.2.2.2.2.2.1
theorem dX4_coming_19 : decode cX4_coming 19 = .ok (.invokevirtual 38, 3) := bX4_coming_0.2.2.2.2.2.2.2.2.2.2.2.2.2.1
theorem dX4_coming_22 : decode cX4_coming 22 = .ok (.areturn, 1) := bX4_coming_0.2.2.2.2.2.2.2.2.2.2.2.2.2.2.1
theorem dX4_coming_23 : decode cX4_coming 23 = .ok (.aload_n 0, 1) := bX4_coming_0.2.2.2.2.2.2.2.2.2.2.2.2.2.2.2
set_option maxRecDepth 100000 in
theorem bX4_coming_24 : (decode cX4_coming 24 = .ok (.getfield 14, 3)) ∧ (decode cX4_coming 27 = .ok (.iload_n 1, 1)) ∧ (decode cX4_coming 28 = .ok (.aaload, 1)) ∧ (decode cX4_coming 29 = .ok (.iconst 0, 1)) ∧ (decode cX4_coming 30 = .ok (.aload_n 0, 1)) ∧ (decode cX4_coming 31 = .ok (.getfield 14, 3)) ∧ (decode cX4_coming 34 = .ok (.iload_n 1, 1)) ∧ (decode cX4_coming 35 = .ok (.aaload, 1)) ∧ (decode cX4_coming 36 = .ok (.arraylength, 1)) ∧ (decode cX4_coming 37 = .ok (.invokestatic 42, 3)) ∧ (decode cX4_coming 40 = .ok (.areturn, 1)) := by decide +kernel
theorem dX4_coming_24 : decode cX4_coming 24 = .ok (.getfield 14, 3) := bX4_coming_24.1
theorem dX4_coming_27 : decode cX4_coming 27 = .ok (.iload_n 1, 1) := bX4_coming_24.2.1
theorem dX4_coming_28 : decode cX4_coming 28 = .ok (.aaload, 1) := bX4_coming_24.2.2.1
theorem dX4_coming_29 : decode cX4_coming 29 = .ok (.iconst 0, 1) := bX4_coming_24.2.2.2.1
theorem dX4_coming_30 : decode cX4_coming 30 = .ok (.aload_n 0, 1) := bX4_coming_24.2.2.2.2.1
theorem dX4_coming_31 : decode cX4_coming 31 = .ok (.getfield 14, 3) := bX4_coming_24.2.2.2.2.2.1
theorem dX4_coming_34 : decode cX4_coming 34 = .ok (.iload_n 1, 1) := bX4_coming_24.2.2.2.2.2.2.1
theorem dX4_coming_35 : decode cX4_coming 35 = .ok (.aaload, 1) := bX4_coming_24.2.2.2.2.2.2.2.1
theorem dX4_coming_36 : decode cX4_coming 36 = .ok (.arraylength, 1) := bX4_coming_24.2.2.2.2.2.2.2.2.1
theorem dX4_coming_37 : decode cX4_coming 37 = .ok (.invokestatic 42, 3) := bX4_coming_24.2.2.2.2.2.2.2.2.2.1
theorem dX4_coming_40 : decode cX4_coming 40 = .ok (.areturn, 1) := bX4_coming_24.2.2.2.2.2.2.2.2.2.2
set_option maxRecDepth 100000 in
theorem bX4_side_0 : (decode cX4_side 0 = .ok (.iload_n 0, 1)) ∧ (decode cX4_side 1 = .ok (.iload_n 1, 1)) ∧ (decode cX4_side 2 = .ok (.if_icmp .ge 7, 3)) ∧ (decode cX4_side 5 = .ok (.iconst (-1), 1)) ∧ (decode cX4_side 6 = .ok (.goto 13, 3)) ∧ (decode cX4_side 9 = .ok (.iload_n 0, 1)) ∧ (decode cX4_side 10 = .ok (.iload_n 1, 1)) ∧ (decode cX4_side 11 = .ok (.if_icmp .ne 7, 3)) ∧ (decode cX4_side 14 = .ok (.iconst 0, 1)) ∧ (decode cX4_side 15 = .ok (.goto 4, 3)) ∧ (decode cX4_side 18 = .ok (.iconst 1, 1)) ∧ (decode cX4_side 19 = .ok (.ireturn, 1)) := by decide +kernel
theorem dX4_side_0 : decode cX4_side 0 = .ok (.iload_n 0, 1) := bX4_side_0.1
theorem dX4_side_1 : decode cX4_side 1 = .ok (.iload_n 1, 1) := bX4_side_0.2.1
theorem dX4_side_2 : decode cX4_side 2 = .ok (.if_icmp .ge 7, 3) := bX4_side_0.2.2.1
theorem dX4_side_5 : decode cX4_side 5 = .ok (.iconst (-1), 1) := bX4_side_0.2.2.2.1
theorem dX4_side_6 : decode cX4_side 6 = .ok (.goto 13, 3) := bX4_side_0.2.2.2.2.1
theorem dX4_side_9 : decode cX4_side 9 = .ok (.iload_n 0, 1) := bX4_side_0.2.2.2.2.2.1
theorem dX4_side_10 : decode cX4_side 10 = .ok (.iload_n 1, 1) := bX4_side_0.2.2.2.2.2.2.1
theorem dX4_side_11 : decode cX4_side 11 = .ok (.if_icmp .ne 7, 3) := bX4_side_0.2.2.2.2.2.2.2.1
theorem dX4_side_14 : decode cX4_side 14 = .ok (.iconst 0, 1) := bX4_side_0.2.2.2.2.2.2.2.2.1
theorem dX4_side_15 : decode cX4_side 15 = .ok (.goto 4, 3) := bX4_side_0.2.2.2.2.2.2.2.2.2.1
theorem dX4_side_18 : decode cX4_side 18 = .ok (.iconst 1, 1) := bX4_side_0.2.2.2.2.2.2.2.2.2.2.1
theorem dX4_side_19 : decode cX4_side 19 = .ok (.ireturn, 1) := bX4_side_0.2.2.2.2.2.2.2.2.2.2.2
set_option maxRecDepth 100000 in
theorem bX4_part_0 : (decode cX4_part 0 = .ok (.iload_n 2, 1)) ∧ (decode cX4_part 1 = .ok (.iload_n 1, 1)) ∧ (decode cX4_part 2 = .ok (.isub, 1)) ∧ (decode cX4_part 3 = .ok (.newarray .int, 2)) ∧ (decode cX4_part 5 = .ok (.astore_n 3, 1)) ∧ (decode cX4_part 6 = .ok (.iload_n 1, 1)) ∧ (decode cX4_part 7 = .ok (.istore 4, 2)) ∧ (decode cX4_part 9 = .ok (.iload 4, 2)) ∧ (decode cX4_part 11 = .ok (.iload_n 2, 1)) ∧ (decode cX4_part 12 = .ok (.if_icmp .ge 19, 3)) ∧ (decode cX4_part 15 = .ok (.aload_n 3, 1)) ∧ (decode cX4_part 16 = .ok (.iload 4, 2)) ∧ (decode cX4_part 18 = .ok (.iload_n 1, 1)) ∧ (decode cX4_part 19 = .ok (.isub, 1)) ∧ (decode cX4_part 20 = .ok (.aload_n 0, 1)) ∧ (decode cX4_part 21 = .ok (.iload 4, 2)) := by decide +kernel
theorem dX4_part_0 : decode cX4_part 0 = .ok (.iload_n 2, 1) := bX4_part_0.1
theorem dX4_part_1 : decode cX4_part 1 = .ok (.iload_n 1, 1) := bX4_part_0.2.1
theorem dX4_part_2 : decode cX4_part 2 = .ok (.isub, 1) := bX4_part_0.2.2.1
theorem dX4_part_3 : decode cX4_part 3 = .ok (.newarray .int, 2) := bX4_part_0.2.2.2.1
theorem dX4_part_5 : decode cX4_part 5 = .ok (.astore_n 3, 1) := bX4_part_0.2.2.2.2.1
theorem dX4_part_6 : decode cX4_part 6 = .ok (.iload_n 1, 1) := bX4_part_0.2.2.2.2.2.1
theorem dX4_part_7 : decode cX4_part 7 = .ok (.istore 4, 2) := bX4_part_0.2.2.2.2.2.2.1
theorem dX4_part_9 : decode cX4_part 9 = .ok (.iload 4, 2) := bX4_part_0.2.2.2.2.2.2.2.1
theorem dX4_part_11 : decode cX4_part 11 = .ok (.iload_n 2, 1) := bX4_part_0.2.2.2.2.2.2.2.2.1
theorem dX4_part_12 : decode cX4_part 12 = .ok (.if_icmp .ge 19, 3) := bX4_part_0.2.2.2.2.2.2.2.2.2.1
theorem dX4_part_15 : decode cX4_part 15 = .ok (.aload_n 3, 1) := bX4_part_0.2.2.2.2.2.2.2.2.2.2.1
theorem dX4_part_16 : decode cX4_part 16 = .ok (.iload 4, 2) := bX4_part_0.2.2.2.2.2.2.2.2.2.2.2.1
theorem dX4_part_18 : decode cX4_part 18 = .ok (.iload_n 1, 1) := bX4_part_0.2.2.2.2.2.2.2.2.2.2.2.2.1
theorem dX4_part_19 : decode cX4_part 19 = .ok (.isub, 1) := bX4_part_0.2.2.2.2.2.2.2.2.2.2.2.2.2.1
theorem dX4_part_20 : decode cX4_part 20 = .ok (.aload_n 0, 1) := bX4_part_0.2.2.2.2.2.2.2.2.2.2.2.2.2.2.1
theorem dX4_part_21 : decode cX4_part 21 = .ok (.iload 4, 2) := bX4_part_0.2.2.2.2.2.2.2.2.2.2.2.2.2.2.2
set_option maxRecDepth 100000 in
theorem bX4_part_23 : (decode cX4_part 23 = .ok (.iaload, 1)) ∧ (decode cX4_part 24 = .ok (.iastore, 1)) ∧ (decode cX4_part 25 = .ok (.iinc 4 1, 3)) ∧ (decode cX4_part 28 = .ok (.goto (-19), 3)) ∧ (decode cX4_part 31 = .ok (.aload_n 3, 1)) ∧ (decode cX4_part 32 = .ok (.areturn, 1)) := by decide +kernel
theorem dX4_part_23 : decode cX4_part 23 = .ok (.iaload, 1) := bX4_part_23.1
theorem dX4_part_24 : decode cX4_part 24 = .ok (.iastore, 1) := bX4_part_23.2.1
theorem dX4_part_25 : decode cX4_part 25 = .ok (.iinc 4 1, 3) := bX4_part_23.2.2.1
theorem dX4_part_28 : decode cX4_part 28 = .ok (.goto (-19), 3) := bX4_part_23.2.2.2.1
theorem dX4_part_31 : decode cX4_part 31 = .ok (.aload_n 3, 1) := bX4_part_23.2.2.2.2.1
theorem dX4_part_32 : decode cX4_part 32 = .ok (.areturn, 1) := bX4_part_23.2.2.2.2.2
set_option maxRecDepth 100000 in
theorem bX4_both_0 : (decode cX4_both 0 = .ok (.aload_n 0, 1)) ∧ (decode cX4_both 1 = .ok (.arraylength, 1)) ∧ (decode cX4_both 2 = .ok (.aload_n 1, 1)) ∧ (decode cX4_both 3 = .ok (.arraylength, 1)) ∧ (decode cX4_both 4 = .ok (.iadd, 1)) ∧ (decode cX4_both 5 = .ok (.newarray .int, 2)) ∧ (decode cX4_both 7 = .ok (.astore_n 2, 1)) ∧ (decode cX4_both 8 = .ok (.iconst 0, 1)) ∧ (decode cX4_both 9 = .ok (.istore_n 3, 1)) ∧ (decode cX4_both 10 = .ok (.iload_n 3, 1)) ∧ (decode cX4_both 11 = .ok (.aload_n 2, 1)) ∧ (decode cX4_both 12 = .ok (.arraylength, 1)) ∧ (decode cX4_both 13 = .ok (.if_icmp .ge 30, 3)) ∧ (decode cX4_both 16 = .ok (.aload_n 2, 1)) ∧ (decode cX4_both 17 = .ok (.iload_n 3, 1)) ∧ (decode cX4_both 18 = .ok (.iload_n 3, 1)) := by decide +kernel
theorem dX4_both_0 : decode cX4_both 0 = .ok (.aload_n 0, 1) := bX4_both_0.1
theorem dX4_both_1 : decode cX4_both 1 = .ok (.arraylength, 1) := bX4_both_0.2.1
theorem dX4_both_2 : decode cX4_both 2 = .ok (.aload_n 1, 1) := bX4_both_0.2.2.1
theorem dX4_both_3 : decode cX4_both 3 = .ok (.arraylength, 1) := bX4_both_0.2.2.2.1
theorem dX4_both_4 : decode cX4_both 4 = .ok (.iadd, 1) := bX4_both_0.2.2.2.2.1
theorem dX4_both_5 : decode cX4_both 5 = .ok (.newarray .int, 2) := bX4_both_0.2.2.2.2.2.1
theorem dX4_both_7 : decode cX4_both 7 = .ok (.astore_n 2, 1) := bX4_both_0.2.2.2.2.2.2.1
theorem dX4_both_8 : decode cX4_both 8 = .ok (.iconst 0, 1) := bX4_both_0.2.2.2.2.2.2.2.1
theorem dX4_both_9 : decode cX4_both 9 = .ok (.istore_n 3, 1) := bX4_both_0.2.2.2.2.2.2.2.2.1
theorem dX4_both_10 : decode cX4_both 10 = .ok (.iload_n 3, 1) := bX4_both_0.2.2.2.2.2.2.2.2.2.1
theorem dX4_both_11 : decode cX4_both 11 = .ok (.aload_n 2, 1) := bX4_both_0.2.2.2.2.2.2.2.2.2.2.1
theorem dX4_both_12 : decode cX4_both 12 = .ok (.arraylength, 1) := bX4_both_0.2.2.2.2.2.2.2.2.2.2.2.1
theorem dX4_both_13 : decode cX4_both 13 = .ok (.if_icmp .ge 30, 3) := bX4_both_0.2.2.2.2.2.2.2.2.2.2.2.2.1
theorem dX4_both_16 : decode cX4_both 16 = .ok (.aload_n 2, 1) := bX4_both_0.2.2.2.2.2.2.2.2.2.2.2.2.2.1
theorem dX4_both_17 : decode cX4_both 17 = .ok (.iload_n 3, 1) := bX4_both_0.2.2.2.2.2.2.2.2.2.2.2.2.2.2.1
theorem dX4_both_18 : decode cX4_both 18 = .ok (.iload_n 3, 1) := bX4_both_0.2.2.2.2.2.2.2.2.2.2.2.2.2.2.2
set_option maxRecDepth 100000 in
theorem bX4_both_19 : (decode cX4_both 19 = .ok (.aload_n 0, 1)) ∧ (decode cX4_both 20 = .ok (.arraylength, 1)) ∧ (decode cX4_both 21 = .ok (.if_icmp .ge 9, 3)) ∧ (decode cX4_both 24 = .ok (.aload_n 0, 1)) ∧ (decode cX4_both 25 = .ok (.iload_n 3, 1)) ∧ (decode cX4_both 26 = .ok (.iaload, 1)) ∧ (decode cX4_both 27 = .ok (.goto 9, 3)) ∧ (decode cX4_both 30 = .ok (.aload_n 1, 1)) ∧ (decode cX4_both 31 = .ok (.iload_n 3, 1)) ∧ (decode cX4_both 32 = .ok (.aload_n 0, 1)) ∧ (decode cX4_both 33 = .ok (.arraylength, 1)) ∧ (decode cX4_both 34 = .ok (.isub, 1)) ∧ (decode cX4_both 35 = .ok (.iaload, 1)) ∧ (decode cX4_both 36 = .ok (.iastore, 1)) ∧ (decode cX4_both 37 = .ok (.iinc 3 1, 3)) ∧ (decode cX4_both 40 = .ok (.goto (-30), 3)) := by decide +kernel
theorem dX4_both_19 : decode cX4_both 19 = .ok (.aload_n 0, 1) := bX4_both_19.1
theorem dX4_both_20 : decode cX4_both 20 = .ok (.arraylength, 1) := bX4_both_19.2.1
theorem dX4_both_21 : decode cX4_both 21 = .ok (.if_icmp .ge 9, 3) := bX4_both_19.2.2.1
theorem dX4_both_24 : decode cX4_both 24 = .ok (.aload_n 0, 1) := bX4_both_19.2.2.2.1
theorem dX4_both_25 : decode cX4_both 25 = .ok (.iload_n 3, 1) := bX4_both_19.2.2.2.2.1
theorem dX4_both_26 : decode cX4_both 26 = .ok (.iaload, 1) := bX4_both_19.2.2.2.2.2.1
theorem dX4_both_27 : decode cX4_both 27 = .ok (.goto 9, 3) := bX4_both_19.2.2.2.2.2.2.1
theorem dX4_both_30 : decode cX4_both 30 = .ok (.aload_n 1, 1) := bX4_both_19.2.2.2.2.2.2.2.1
theorem dX4_both_31 : decode cX4_both 31 = .ok (.iload_n 3, 1) := bX4_both_19.2.2.2.2.2.2.2.2.1
theorem dX4_both_32 : decode cX4_both 32 = .ok (.aload_n 0, 1) := bX4_both_19.2.2.2.2.2.2.2.2.2.1
theorem dX4_both_33 : decode cX4_both 33 = .ok (.arraylength, 1) := bX4_both_19.2.2.2.2.2.2.2.2.2.2.1
theorem dX4_both_34 : decode cX4_both 34 = .ok (.isub, 1) := bX4_both_19.2.2.2.2.2.2.2.2.2.2.2.1
theorem dX4_both_35 : decode cX4_both 35 = .ok (.iaload, 1) := bX4_both_19.2.2.2.2.2.2.2.2.2.2.2.2.1
theorem dX4_both_36 : decode cX4_both 36 = .ok (.iastore, 1) := bX4_both_19.2.2.2.2.2.2.2.2.2.2.2.2.2.1
theorem dX4_both_37 : decode cX4_both 37 = .ok (.iinc 3 1, 3) := bX4_both_19.2.2.2.2.2.2.2.2.2.2.2.2.2.2.1
theorem dX4_both_40 : decode cX4_both 40 = .ok (.goto (-30), 3) := bX4_both_19.2.2.2.2.2.2.2.2.2.2.2.2.2.2.2
set_option maxRecDepth 100000 in
theorem bX4_both_43 : (decode cX4_both 43 = .ok (.aload_n 2, 1)) ∧ (decode cX4_both 44 = .ok (.areturn, 1)) := by decide +kernel
theorem dX4_both_43 : decode cX4_both 43 = .ok (.aload_n 2, 1) := bX4_both_43.1
theorem dX4_both_44 : decode cX4_both 44 = .ok (.areturn, 1) := bX4_both_43.2
set_option maxRecDepth 100000 in
theorem bX4_choose_0 : (decode cX4_choose 0 = .ok (.aload_n 2, 1)) ∧ (decode cX4_choose 1 = .ok (.arraylength, 1)) ∧ (decode cX4_choose 2 = .ok (.newarray .int, 2)) ∧ (decode cX4_choose 4 = .ok (.astore_n 3, 1)) ∧ (decode cX4_choose 5 = .ok (.aload_n 2, 1)) ∧ (decode cX4_choose 6 = .ok (.arraylength, 1)) ∧ (decode cX4_choose 7 = .ok (.newarray .int, 2)) ∧ (decode cX4_choose 9 = .ok (.astore 4, 2)) ∧ (decode cX4_choose 11 = .ok (.iconst 0, 1)) ∧ (decode cX4_choose 12 = .ok (.istore 5, 2)) ∧ (decode cX4_choose 14 = .ok (.iload 5, 2)) ∧ (decode cX4_choose 16 = .ok (.aload_n 2, 1)) ∧ (decode cX4_choose 17 = .ok (.arraylength, 1)) ∧ (decode cX4_choose 18 = .ok (.if_icmp .ge 40, 3)) ∧ (decode cX4_choose 21 = .ok (.aload_n 3, 1)) ∧ (decode cX4_choose 22 = .ok (.iload 5, 2)) := by decide +kernel
theorem dX4_choose_0 : decode cX4_choose 0 = .ok (.aload_n 2, 1) := bX4_choose_0.1
theorem dX4_choose_1 : decode cX4_choose 1 = .ok (.arraylength, 1) := bX4_choose_0.2.1
theorem dX4_choose_2 : decode cX4_choose 2 = .ok (.newarray .int, 2) := bX4_choose_0.2.2.1
theorem dX4_choose_4 : decode cX4_choose 4 = .ok (.astore_n 3, 1) := bX4_choose_0.2.2.2.1
theorem dX4_choose_5 : decode cX4_choose 5 = .ok (.aload_n 2, 1) := bX4_choose_0.2.2.2.2.1
theorem dX4_choose_6 : decode cX4_choose 6 = .ok (.arraylength, 1) := bX4_choose_0.2.2.2.2.2.1
theorem dX4_choose_7 : decode cX4_choose 7 = .ok (.newarray .int, 2) := bX4_choose_0.2.2.2.2.2.2.1
theorem dX4_choose_9 : decode cX4_choose 9 = .ok (.astore 4, 2) := bX4_choose_0.2.2.2.2.2.2.2.1
theorem dX4_choose_11 : decode cX4_choose 11 = .ok (.iconst 0, 1) := bX4_choose_0.2.2.2.2.2.2.2.2.1
theorem dX4_choose_12 : decode cX4_choose 12 = .ok (.istore 5, 2) := bX4_choose_0.2.2.2.2.2.2.2.2.2.1
theorem dX4_choose_14 : decode cX4_choose 14 = .ok (.iload 5, 2) := bX4_choose_0.2.2.2.2.2.2.2.2.2.2.1
theorem dX4_choose_16 : decode cX4_choose 16 = .ok (.aload_n 2, 1) := bX4_choose_0.2.2.2.2.2.2.2.2.2.2.2.1
theorem dX4_choose_17 : decode cX4_choose 17 = .ok (.arraylength, 1) := bX4_choose_0.2.2.2.2.2.2.2.2.2.2.2.2.1
theorem dX4_choose_18 : decode cX4_choose 18 = .ok (.if_icmp .ge 40, 3) := bX4_choose_0.2.2.2.2.2.2.2.2.2.2.2.2.2.1
theorem dX4_choose_21 : decode cX4_choose 21 = .ok (.aload_n 3, 1) := bX4_choose_0.2.2.2.2.2.2.2.2.2.2.2.2.2.2.1
theorem dX4_choose_22 : decode cX4_choose 22 = .ok (.iload 5, 2) := bX4_choose_0.2.2.2.2.2.2.2.2.2.2.2.2.2.2.2
set_option maxRecDepth 100000 in
theorem bX4_choose_24 : (decode cX4_choose 24 = .ok (.aload_n 0, 1)) ∧ (decode cX4_choose 25 = .ok (.getfield 11, 3)) ∧ (decode cX4_choose 28 = .ok (.iload_n 1, 1)) ∧ (decode cX4_choose 29 = .ok (.aaload, 1)) ∧ (decode cX4_choose 30 = .ok (.aload_n 2, 1)) ∧ (decode cX4_choose 31 = .ok (.iload 5, 2)) ∧ (decode cX4_choose 33 = .ok (.iaload, 1)) ∧ (decode cX4_choose 34 = .ok (.iaload, 1)) ∧ (decode cX4_choose 35 = .ok (.iastore, 1)) ∧ (decode cX4_choose 36 = .ok (.aload 4, 2)) ∧ (decode cX4_choose 38 = .ok (.iload 5, 2)) ∧ (decode cX4_choose 40 = .ok (.aload_n 0, 1)) ∧ (decode cX4_choose 41 = .ok (.getfield 14, 3)) ∧ (decode cX4_choose 44 = .ok (.iload_n 1, 1)) ∧ (decode cX4_choose 45 = .ok (.aaload, 1)) ∧ (decode cX4_choose 46 = .ok (.aload_n 2, 1)) := by decide +kernel
theorem dX4_choose_24 : decode cX4_choose 24 = .ok (.aload_n 0, 1) := bX4_choose_24.1
theorem dX4_choose_25 : decode cX4_choose 25 = .ok (.getfield 11, 3) := bX4_choose_24.2.1
theorem dX4_choose_28 : decode cX4_choose 28 = .ok (.iload_n 1, 1) := bX4_choose_24.2.2.1
theorem dX4_choose_29 : decode cX4_choose 29 = .ok (.aaload, 1) := bX4_choose_24.2.2.2.1
theorem dX4_choose_30 : decode cX4_choose 30 = .ok (.aload_n 2, 1) := bX4_choose_24.2.2.2.2.1
theorem dX4_choose_31 : decode cX4_choose 31 = .ok (.iload 5, 2) := bX4_choose_24.2.2.2.2.2.1
theorem dX4_choose_33 : decode cX4_choose 33 = .ok (.iaload, 1) := bX4_choose_24.2.2.2.2.2.2.1
theorem dX4_choose_34 : decode cX4_choose 34 = .ok (.iaload, 1) := bX4_choose_24.2.2.2.2.2.2.2.1
theorem dX4_choose_35 : decode cX4_choose 35 = .ok (.iastore, 1) := bX4_choose_24.2.2.2.2.2.2.2.2.1
theorem dX4_choose_36 : decode cX4_choose 36 = .ok (.aload 4, 2) := bX4_choose_24.2.2.2.2.2.2.2.2.2.1
theorem dX4_choose_38 : decode cX4_choose 38 = .ok (.iload 5, 2) := bX4_choose_24.2.2.2.2.2.2.2.2.2.2.1
theorem dX4_choose_40 : decode cX4_choose 40 = .ok (.aload_n 0, 1) := bX4_choose_24.2.2.2.2.2.2.2.2.2.2.2.1
theorem dX4_choose_41 : decode cX4_choose 41 = .ok (.getfield 14, 3) := bX4_choose_24.2.2.2.2.2.2.2.2.2.2.2.2.1
theorem dX4_choose_44 : decode cX4_choose 44 = .ok (.iload_n 1, 1) := bX4_choose_24.2.2.2.2.2.2.2.2.2.2.2.2.2.1
theorem dX4_choose_45 : decode cX4_choose 45 = .ok (.aaload, 1) := bX4_choose_24.2.2.2.2.2.2.2.2.2.2.2.2.2.2.1
theorem dX4_choose_46 : decode cX4_choose 46 = .ok (.aload_n 2, 1) := bX4_choose_24.2.2.2.2.2.2.2.2.2.2.2.2.2.2.2
set_option maxRecDepth 100000 in
theorem bX4_choose_47 : (decode cX4_choose 47 = .ok (.iload 5, 2)) ∧ (decode cX4_choose 49 = .ok (.iaload, 1)) ∧ (decode cX4_choose 50 = .ok (.iaload, 1)) ∧ (decode cX4_choose 51 = .ok (.iastore, 1)) ∧ (decode cX4_choose 52 = .ok (.iinc 5 1, 3)) ∧ (decode cX4_choose 55 = .ok (.goto (-41), 3)) ∧ (decode cX4_choose 58 = .ok (.aload_n 0, 1)) ∧ (decode cX4_choose 59 = .ok (.getfield 11, 3)) ∧ (decode cX4_choose 62 = .ok (.iload_n 1, 1)) ∧ (decode cX4_choose 63 = .ok (.aload_n 3, 1)) ∧ (decode cX4_choose 64 = .ok (.aastore, 1)) ∧ (decode cX4_choose 65 = .ok (.aload_n 0, 1)) ∧ (decode cX4_choose 66 = .ok (.getfield 14, 3)) ∧ (decode cX4_choose 69 = .ok (.iload_n 1, 1)) ∧ (decode cX4_choose 70 = .ok (.aload 4, 2)) ∧ (decode cX4_choose 72 = .ok (.aastore, 1)) := by decide +kernel
theorem dX4_choose_47 : decode cX4_choose 47 = .ok (.iload 5, 2) := bX4_choose_47.1
theorem dX4_choose_49 : decode cX4_choose 49 = .ok (.iaload, 1) := bX4_choose_47.2.1
theorem dX4_choose_50 : decode cX4_choose 50 = .ok (.iaload, 1) := bX4_choose_47.2.2.1
theorem dX4_choose_51 : decode cX4_choose 51 = .ok (.iastore, 1) := bX4_choose_47.2.2.2.1
theorem dX4_choose_52 : decode cX4_choose 52 = .ok (.iinc 5 1, 3) := bX4_choose_47.2.2.2.2.1
theorem dX4_choose_55 : decode cX4_choose 55 = .ok (.goto (-41), 3) := bX4_choose_47.2.2.2.2.2.1
theorem dX4_choose_58 : decode cX4_choose 58 = .ok (.aload_n 0, 1) := bX4_choose_47.2.2.2.2.2.2.1
theorem dX4_choose_59 : decode cX4_choose 59 = .ok (.getfield 11, 3) := bX4_choose_47.2.2.2.2.2.2.2.1
theorem dX4_choose_62 : decode cX4_choose 62 = .ok (.iload_n 1, 1) := bX4_choose_47.2.2.2.2.2.2.2.2.1
theorem dX4_choose_63 : decode cX4_choose 63 = .ok (.aload_n 3, 1) := bX4_choose_47.2.2.2.2.2.2.2.2.2.1
theorem dX4_choose_64 : decode cX4_choose 64 = .ok (.aastore, 1) := bX4_choose_47.2.2.2.2.2.2.2.2.2.2.1
theorem dX4_choose_65 : decode cX4_choose 65 = .ok (.aload_n 0, 1) := bX4_choose_47.2.2.2.2.2.2.2.2.2.2.2.1
theorem dX4_choose_66 : decode cX4_choose 66 = .ok (.getfield 14, 3) := bX4_choose_47.2.2.2.2.2.2.2.2.2.2.2.2.1
theorem dX4_choose_69 : decode cX4_choose 69 = .ok (.iload_n 1, 1) := bX4_choose_47.2.2.2.2.2.2.2.2.2.2.2.2.2.1
theorem dX4_choose_70 : decode cX4_choose 70 = .ok (.aload 4, 2) := bX4_choose_47.2.2.2.2.2.2.2.2.2.2.2.2.2.2.1
theorem dX4_choose_72 : decode cX4_choose 72 = .ok (.aastore, 1) := bX4_choose_47.2.2.2.2.2.2.2.2.2.2.2.2.2.2.2
theorem dX4_choose_73 : decode cX4_choose 73 = .ok (.return_, 1) := by decide +kernel
set_option maxRecDepth 100000 in
theorem bX4_unlike_0 : (decode cX4_unlike 0 = .ok (.iconst 0, 1)) ∧ (decode cX4_unlike 1 = .ok (.istore_n 2, 1)) ∧ (decode cX4_unlike 2 = .ok (.iconst 0, 1)) ∧ (decode cX4_unlike 3 = .ok (.istore_n 3, 1)) ∧ (decode cX4_unlike 4 = .ok (.iload_n 3, 1)) ∧ (decode cX4_unlike 5 = .ok (.aload_n 0, 1)) ∧ (decode cX4_unlike 6 = .ok (.arraylength, 1)) ∧ (decode cX4_unlike 7 = .ok (.if_icmp .ge 26, 3)) ∧ (decode cX4_unlike 10 = .ok (.iload_n 2, 1)) ∧ (decode cX4_unlike 11 = .ok (.aload_n 0, 1)) ∧ (decode cX4_unlike 12 = .ok (.iload_n 3, 1)) ∧ (decode cX4_unlike 13 = .ok (.iaload, 1)) ∧ (decode cX4_unlike 14 = .ok (.aload_n 1, 1)) ∧ (decode cX4_unlike 15 = .ok (.iload_n 3, 1)) ∧ (decode cX4_unlike 16 = .ok (.iaload, 1)) ∧ (decode cX4_unlike 17 = .ok (.if_icmp .ne 7, 3)) := by decide +kernel
theorem dX4_unlike_0 : decode cX4_unlike 0 = .ok (.iconst 0, 1) := bX4_unlike_0.1
theorem dX4_unlike_1 : decode cX4_unlike 1 = .ok (.istore_n 2, 1) := bX4_unlike_0.2.1
theorem dX4_unlike_2 : decode cX4_unlike 2 = .ok (.iconst 0, 1) := bX4_unlike_0.2.2.1
theorem dX4_unlike_3 : decode cX4_unlike 3 = .ok (.istore_n 3, 1) := bX4_unlike_0.2.2.2.1
theorem dX4_unlike_4 : decode cX4_unlike 4 = .ok (.iload_n 3, 1) := bX4_unlike_0.2.2.2.2.1
theorem dX4_unlike_5 : decode cX4_unlike 5 = .ok (.aload_n 0, 1) := bX4_unlike_0.2.2.2.2.2.1
theorem dX4_unlike_6 : decode cX4_unlike 6 = .ok (.arraylength, 1) := bX4_unlike_0.2.2.2.2.2.2.1
theorem dX4_unlike_7 : decode cX4_unlike 7 = .ok (.if_icmp .ge 26, 3) := bX4_unlike_0.2.2.2.2.2.2.2.1
theorem dX4_unlike_10 : decode cX4_unlike 10 = .ok (.iload_n 2, 1) := bX4_unlike_0.2.2.2.2.2.2.2.2.1
theorem dX4_unlike_11 : decode cX4_unlike 11 = .ok (.aload_n 0, 1) := bX4_unlike_0.2.2.2.2.2.2.2.2.2.1
theorem dX4_unlike_12 : decode cX4_unlike 12 = .ok (.iload_n 3, 1) := bX4_unlike_0.2.2.2.2.2.2.2.2.2.2.1
theorem dX4_unlike_13 : decode cX4_unlike 13 = .ok (.iaload, 1) := bX4_unlike_0.2.2.2.2.2.2.2.2.2.2.2.1
theorem dX4_unlike_14 : decode cX4_unlike 14 = .ok (.aload_n 1, 1) := bX4_unlike_0.2.2.2.2.2.2.2.2.2.2.2.2.1
theorem dX4_unlike_15 : decode cX4_unlike 15 = .ok (.iload_n 3, 1) := bX4_unlike_0.2.2.2.2.2.2.2.2.2.2.2.2.2.1
theorem dX4_unlike_16 : decode cX4_unlike 16 = .ok (.iaload, 1) := bX4_unlike_0.2.2.2.2.2.2.2.2.2.2.2.2.2.2.1
theorem dX4_unlike_17 : decode cX4_unlike 17 = .ok (.if_icmp .ne 7, 3) := bX4_unlike_0.2.2.2.2.2.2.2.2.2.2.2.2.2.2.2
set_option maxRecDepth 100000 in
theorem bX4_unlike_20 : (decode cX4_unlike 20 = .ok (.iconst 0, 1)) ∧ (decode cX4_unlike 21 = .ok (.goto 4, 3)) ∧ (decode cX4_unlike 24 = .ok (.iconst 1, 1)) ∧ (decode cX4_unlike 25 = .ok (.iadd, 1)) ∧ (decode cX4_unlike 26 = .ok (.istore_n 2, 1)) ∧ (decode cX4_unlike 27 = .ok (.iinc 3 1, 3)) ∧ (decode cX4_unlike 30 = .ok (.goto (-26), 3)) ∧ (decode cX4_unlike 33 = .ok (.iload_n 2, 1)) ∧ (decode cX4_unlike 34 = .ok (.ireturn, 1)) := by decide +kernel
theorem dX4_unlike_20 : decode cX4_unlike 20 = .ok (.iconst 0, 1) := bX4_unlike_20.1
theorem dX4_unlike_21 : decode cX4_unlike 21 = .ok (.goto 4, 3) := bX4_unlike_20.2.1
theorem dX4_unlike_24 : decode cX4_unlike 24 = .ok (.iconst 1, 1) := bX4_unlike_20.2.2.1
theorem dX4_unlike_25 : decode cX4_unlike 25 = .ok (.iadd, 1) := bX4_unlike_20.2.2.2.1
theorem dX4_unlike_26 : decode cX4_unlike 26 = .ok (.istore_n 2, 1) := bX4_unlike_20.2.2.2.2.1
theorem dX4_unlike_27 : decode cX4_unlike 27 = .ok (.iinc 3 1, 3) := bX4_unlike_20.2.2.2.2.2.1
theorem dX4_unlike_30 : decode cX4_unlike 30 = .ok (.goto (-26), 3) := bX4_unlike_20.2.2.2.2.2.2.1
theorem dX4_unlike_33 : decode cX4_unlike 33 = .ok (.iload_n 2, 1) := bX4_unlike_20.2.2.2.2.2.2.2.1
theorem dX4_unlike_34 : decode cX4_unlike 34 = .ok (.ireturn, 1) := bX4_unlike_20.2.2.2.2.2.2.2.2
set_option maxRecDepth 100000 in
theorem bX4_patterned_0 : (decode cX4_patterned 0 = .ok (.iload_n 0, 1)) ∧ (decode cX4_patterned 1 = .ok (.iload 4, 2)) ∧ (decode cX4_patterned 3 = .ok (.idiv, 1)) ∧ (decode cX4_patterned 4 = .ok (.iconst 2, 1)) ∧ (decode cX4_patterned 5 = .ok (.irem, 1)) ∧ (decode cX4_patterned 6 = .ok (.ifCond .ne 10, 3)) ∧ (decode cX4_patterned 9 = .ok (.iload_n 0, 1)) ∧ (decode cX4_patterned 10 = .ok (.iload 4, 2)) ∧ (decode cX4_patterned 12 = .ok (.irem, 1)) ∧ (decode cX4_patterned 13 = .ok (.goto 12, 3)) ∧ (decode cX4_patterned 16 = .ok (.iload 4, 2)) ∧ (decode cX4_patterned 18 = .ok (.iconst 1, 1)) ∧ (decode cX4_patterned 19 = .ok (.isub, 1)) ∧ (decode cX4_patterned 20 = .ok (.iload_n 0, 1)) ∧ (decode cX4_patterned 21 = .ok (.iload 4, 2)) ∧ (decode cX4_patterned 23 = .ok (.irem, 1)) := by decide +kernel
theorem dX4_patterned_0 : decode cX4_patterned 0 = .ok (.iload_n 0, 1) := bX4_patterned_0.1
theorem dX4_patterned_1 : decode cX4_patterned 1 = .ok (.iload 4, 2) := bX4_patterned_0.2.1
theorem dX4_patterned_3 : decode cX4_patterned 3 = .ok (.idiv, 1) := bX4_patterned_0.2.2.1
theorem dX4_patterned_4 : decode cX4_patterned 4 = .ok (.iconst 2, 1) := bX4_patterned_0.2.2.2.1
theorem dX4_patterned_5 : decode cX4_patterned 5 = .ok (.irem, 1) := bX4_patterned_0.2.2.2.2.1
theorem dX4_patterned_6 : decode cX4_patterned 6 = .ok (.ifCond .ne 10, 3) := bX4_patterned_0.2.2.2.2.2.1
theorem dX4_patterned_9 : decode cX4_patterned 9 = .ok (.iload_n 0, 1) := bX4_patterned_0.2.2.2.2.2.2.1
theorem dX4_patterned_10 : decode cX4_patterned 10 = .ok (.iload 4, 2) := bX4_patterned_0.2.2.2.2.2.2.2.1
theorem dX4_patterned_12 : decode cX4_patterned 12 = .ok (.irem, 1) := bX4_patterned_0.2.2.2.2.2.2.2.2.1
theorem dX4_patterned_13 : decode cX4_patterned 13 = .ok (.goto 12, 3) := bX4_patterned_0.2.2.2.2.2.2.2.2.2.1
theorem dX4_patterned_16 : decode cX4_patterned 16 = .ok (.iload 4, 2) := bX4_patterned_0.2.2.2.2.2.2.2.2.2.2.1
theorem dX4_patterned_18 : decode cX4_patterned 18 = .ok (.iconst 1, 1) := bX4_patterned_0.2.2.2.2.2.2.2.2.2.2.2.1
theorem dX4_patterned_19 : decode cX4_patterned 19 = .ok (.isub, 1) := bX4_patterned_0.2.2.2.2.2.2.2.2.2.2.2.2.1
theorem dX4_patterned_20 : decode cX4_patterned 20 = .ok (.iload_n 0, 1) := bX4_patterned_0.2.2.2.2.2.2.2.2.2.2.2.2.2.1
theorem dX4_patterned_21 : decode cX4_patterned 21 = .ok (.iload 4, 2) := bX4_patterned_0.2.2.2.2.2.2.2.2.2.2.2.2.2.2.1
theorem dX4_patterned_23 : decode cX4_patterned 23 = .ok (.irem, 1) := bX4_patterned_0.2.2.2.2.2.2.2.2.2.2.2.2.2.2.2
set_option maxRecDepth 100000 in
theorem bX4_patterned_24 : (decode cX4_patterned 24 = .ok (.isub, 1)) ∧ (decode cX4_patterned 25 = .ok (.istore 5, 2)) ∧ (decode cX4_patterned 27 = .ok (.bipush 7, 2)) ∧ (decode cX4_patterned 29 = .ok (.newarray .int, 2)) ∧ (decode cX4_patterned 31 = .ok (.dup, 1)) ∧ (decode cX4_patterned 32 = .ok (.iconst 0, 1)) ∧ (decode cX4_patterned 33 = .ok (.iload_n 3, 1)) ∧ (decode cX4_patterned 34 = .ok (.iastore, 1)) ∧ (decode cX4_patterned 35 = .ok (.dup, 1)) ∧ (decode cX4_patterned 36 = .ok (.iconst 1, 1)) ∧ (decode cX4_patterned 37 = .ok (.iload_n 3, 1)) ∧ (decode cX4_patterned 38 = .ok (.iload_n 0, 1)) ∧ (decode cX4_patterned 39 = .ok (.iload 4, 2)) ∧ (decode cX4_patterned 41 = .ok (.imul, 1)) ∧ (decode cX4_patterned 42 = .ok (.iadd, 1)) ∧ (decode cX4_patterned 43 = .ok (.iastore, 1)) := by decide +kernel
theorem dX4_patterned_24 : decode cX4_patterned 24 = .ok (.isub, 1) := bX4_patterned_24.1
theorem dX4_patterned_25 : decode cX4_patterned 25 = .ok (.istore 5, 2) := bX4_patterned_24.2.1
theorem dX4_patterned_27 : decode cX4_patterned 27 = .ok (.bipush 7, 2) := bX4_patterned_24.2.2.1
theorem dX4_patterned_29 : decode cX4_patterned 29 = .ok (.newarray .int, 2) := bX4_patterned_24.2.2.2.1
theorem dX4_patterned_31 : decode cX4_patterned 31 = .ok (.dup, 1) := bX4_patterned_24.2.2.2.2.1
theorem dX4_patterned_32 : decode cX4_patterned 32 = .ok (.iconst 0, 1) := bX4_patterned_24.2.2.2.2.2.1
theorem dX4_patterned_33 : decode cX4_patterned 33 = .ok (.iload_n 3, 1) := bX4_patterned_24.2.2.2.2.2.2.1
theorem dX4_patterned_34 : decode cX4_patterned 34 = .ok (.iastore, 1) := bX4_patterned_24.2.2.2.2.2.2.2.1
theorem dX4_patterned_35 : decode cX4_patterned 35 = .ok (.dup, 1) := bX4_patterned_24.2.2.2.2.2.2.2.2.1
theorem dX4_patterned_36 : decode cX4_patterned 36 = .ok (.iconst 1, 1) := bX4_patterned_24.2.2.2.2.2.2.2.2.2.1
theorem dX4_patterned_37 : decode cX4_patterned 37 = .ok (.iload_n 3, 1) := bX4_patterned_24.2.2.2.2.2.2.2.2.2.2.1
theorem dX4_patterned_38 : decode cX4_patterned 38 = .ok (.iload_n 0, 1) := bX4_patterned_24.2.2.2.2.2.2.2.2.2.2.2.1
theorem dX4_patterned_39 : decode cX4_patterned 39 = .ok (.iload 4, 2) := bX4_patterned_24.2.2.2.2.2.2.2.2.2.2.2.2.1
theorem dX4_patterned_41 : decode cX4_patterned 41 = .ok (.imul, 1) := bX4_patterned_24.2.2.2.2.2.2.2.2.2.2.2.2.2.1
theorem dX4_patterned_42 : decode cX4_patterned 42 = .ok (.iadd, 1) := bX4_patterned_24.2.2.2.2.2.2.2.2.2.2.2.2.2.2.1
theorem dX4_patterned_43 : decode cX4_patterned 43 = .ok (.iastore, 1) := bX4_patterned_24.2.2.2.2.2.2.2.2.2.2.2.2.2.2.2
set_option maxRecDepth 100000 in
theorem bX4_patterned_44 : (decode cX4_patterned 44 = .ok (.dup, 1)) ∧ (decode cX4_patterned 45 = .ok (.iconst 2, 1)) ∧ (decode cX4_patterned 46 = .ok (.iload_n 3, 1)) ∧ (decode cX4_patterned 47 = .ok (.iload_n 0, 1)) ∧ (decode cX4_patterned 48 = .ok (.iload 4, 2)) ∧ (decode cX4_patterned 50 = .ok (.imul, 1)) ∧ (decode cX4_patterned 51 = .ok (.isub, 1)) ∧ (decode cX4_patterned 52 = .ok (.iastore, 1)) ∧ (decode cX4_patterned 53 = .ok (.dup, 1)) ∧ (decode cX4_patterned 54 = .ok (.iconst 3, 1)) ∧ (decode cX4_patterned 55 = .ok (.iload_n 3, 1)) ∧ (decode cX4_patterned 56 = .ok (.iload_n 0, 1)) ∧ (decode cX4_patterned 57 = .ok (.iload 4, 2)) ∧ (decode cX4_patterned 59 = .ok (.irem, 1)) ∧ (decode cX4_patterned 60 = .ok (.iadd, 1)) ∧ (decode cX4_patterned 61 = .ok (.iastore, 1)) := by decide +kernel
theorem dX4_patterned_44 : decode cX4_patterned 44 = .ok (.dup, 1) := bX4_patterned_44.1
theorem dX4_patterned_45 : decode cX4_patterned 45 = .ok (.iconst 2, 1) := bX4_patterned_44.2.1
theorem dX4_patterned_46 : decode cX4_patterned 46 = .ok (.iload_n 3, 1) := bX4_patterned_44.2.2.1
theorem dX4_patterned_47 : decode cX4_patterned 47 = .ok (.iload_n 0, 1) := bX4_patterned_44.2.2.2.1
theorem dX4_patterned_48 : decode cX4_patterned 48 = .ok (.iload 4, 2) := bX4_patterned_44.2.2.2.2.1
theorem dX4_patterned_50 : decode cX4_patterned 50 = .ok (.imul, 1) := bX4_patterned_44.2.2.2.2.2.1
theorem dX4_patterned_51 : decode cX4_patterned 51 = .ok (.isub, 1) := bX4_patterned_44.2.2.2.2.2.2.1
theorem dX4_patterned_52 : decode cX4_patterned 52 = .ok (.iastore, 1) := bX4_patterned_44.2.2.2.2.2.2.2.1
theorem dX4_patterned_53 : decode cX4_patterned 53 = .ok (.dup, 1) := bX4_patterned_44.2.2.2.2.2.2.2.2.1
theorem dX4_patterned_54 : decode cX4_patterned 54 = .ok (.iconst 3, 1) := bX4_patterned_44.2.2.2.2.2.2.2.2.2.1
theorem dX4_patterned_55 : decode cX4_patterned 55 = .ok (.iload_n 3, 1) := bX4_patterned_44.2.2.2.2.2.2.2.2.2.2.1
theorem dX4_patterned_56 : decode cX4_patterned 56 = .ok (.iload_n 0, 1) := bX4_patterned_44.2.2.2.2.2.2.2.2.2.2.2.1
theorem dX4_patterned_57 : decode cX4_patterned 57 = .ok (.iload 4, 2) := bX4_patterned_44.2.2.2.2.2.2.2.2.2.2.2.2.1
theorem dX4_patterned_59 : decode cX4_patterned 59 = .ok (.irem, 1) := bX4_patterned_44.2.2.2.2.2.2.2.2.2.2.2.2.2.1
theorem dX4_patterned_60 : decode cX4_patterned 60 = .ok (.iadd, 1) := bX4_patterned_44.2.2.2.2.2.2.2.2.2.2.2.2.2.2.1
theorem dX4_patterned_61 : decode cX4_patterned 61 = .ok (.iastore, 1) := bX4_patterned_44.2.2.2.2.2.2.2.2.2.2.2.2.2.2.2
set_option maxRecDepth 100000 in
theorem bX4_patterned_62 : (decode cX4_patterned 62 = .ok (.dup, 1)) ∧ (decode cX4_patterned 63 = .ok (.iconst 4, 1)) ∧ (decode cX4_patterned 64 = .ok (.iload_n 3, 1)) ∧ (decode cX4_patterned 65 = .ok (.iload 5, 2)) ∧ (decode cX4_patterned 67 = .ok (.iadd, 1)) ∧ (decode cX4_patterned 68 = .ok (.iastore, 1)) ∧ (decode cX4_patterned 69 = .ok (.dup, 1)) ∧ (decode cX4_patterned 70 = .ok (.iconst 5, 1)) ∧ (decode cX4_patterned 71 = .ok (.iload_n 3, 1)) ∧ (decode cX4_patterned 72 = .ok (.iload 4, 2)) ∧ (decode cX4_patterned 74 = .ok (.iload_n 0, 1)) ∧ (decode cX4_patterned 75 = .ok (.iload_n 1, 1)) ∧ (decode cX4_patterned 76 = .ok (.iconst 1, 1)) ∧ (decode cX4_patterned 77 = .ok (.isub, 1)) ∧ (decode cX4_patterned 78 = .ok (.iload_n 0, 1)) ∧ (decode cX4_patterned 79 = .ok (.isub, 1)) := by decide +kernel
theorem dX4_patterned_62 : decode cX4_patterned 62 = .ok (.dup, 1) := bX4_patterned_62.1
theorem dX4_patterned_63 : decode cX4_patterned 63 = .ok (.iconst 4, 1) := bX4_patterned_62.2.1
theorem dX4_patterned_64 : decode cX4_patterned 64 = .ok (.iload_n 3, 1) := bX4_patterned_62.2.2.1
theorem dX4_patterned_65 : decode cX4_patterned 65 = .ok (.iload 5, 2) := bX4_patterned_62.2.2.2.1
theorem dX4_patterned_67 : decode cX4_patterned 67 = .ok (.iadd, 1) := bX4_patterned_62.2.2.2.2.1
theorem dX4_patterned_68 : decode cX4_patterned 68 = .ok (.iastore, 1) := bX4_patterned_62.2.2.2.2.2.1
theorem dX4_patterned_69 : decode cX4_patterned 69 = .ok (.dup, 1) := bX4_patterned_62.2.2.2.2.2.2.1
theorem dX4_patterned_70 : decode cX4_patterned 70 = .ok (.iconst 5, 1) := bX4_patterned_62.2.2.2.2.2.2.2.1
theorem dX4_patterned_71 : decode cX4_patterned 71 = .ok (.iload_n 3, 1) := bX4_patterned_62.2.2.2.2.2.2.2.2.1
theorem dX4_patterned_72 : decode cX4_patterned 72 = .ok (.iload 4, 2) := bX4_patterned_62.2.2.2.2.2.2.2.2.2.1
theorem dX4_patterned_74 : decode cX4_patterned 74 = .ok (.iload_n 0, 1) := bX4_patterned_62.2.2.2.2.2.2.2.2.2.2.1
theorem dX4_patterned_75 : decode cX4_patterned 75 = .ok (.iload_n 1, 1) := bX4_patterned_62.2.2.2.2.2.2.2.2.2.2.2.1
theorem dX4_patterned_76 : decode cX4_patterned 76 = .ok (.iconst 1, 1) := bX4_patterned_62.2.2.2.2.2.2.2.2.2.2.2.2.1
theorem dX4_patterned_77 : decode cX4_patterned 77 = .ok (.isub, 1) := bX4_patterned_62.2.2.2.2.2.2.2.2.2.2.2.2.2.1
theorem dX4_patterned_78 : decode cX4_patterned 78 = .ok (.iload_n 0, 1) := bX4_patterned_62.2.2.2.2.2.2.2.2.2.2.2.2.2.2.1
theorem dX4_patterned_79 : decode cX4_patterned 79 = .ok (.isub, 1) := bX4_patterned_62.2.2.2.2.2.2.2.2.2.2.2.2.2.2.2
set_option maxRecDepth 100000 in
theorem bX4_patterned_80 : (decode cX4_patterned 80 = .ok (.invokestatic 46, 3)) ∧ (decode cX4_patterned 83 = .ok (.imul, 1)) ∧ (decode cX4_patterned 84 = .ok (.iadd, 1)) ∧ (decode cX4_patterned 85 = .ok (.iastore, 1)) ∧ (decode cX4_patterned 86 = .ok (.dup, 1)) ∧ (decode cX4_patterned 87 = .ok (.bipush 6, 2)) ∧ (decode cX4_patterned 89 = .ok (.iload_n 0, 1)) ∧ (decode cX4_patterned 90 = .ok (.iconst 2, 1)) ∧ (decode cX4_patterned 91 = .ok (.irem, 1)) ∧ (decode cX4_patterned 92 = .ok (.ifCond .ne 11, 3)) ∧ (decode cX4_patterned 95 = .ok (.iload_n 3, 1)) ∧ (decode cX4_patterned 96 = .ok (.iload_n 0, 1)) ∧ (decode cX4_patterned 97 = .ok (.iconst 2, 1)) ∧ (decode cX4_patterned 98 = .ok (.idiv, 1)) ∧ (decode cX4_patterned 99 = .ok (.iadd, 1)) ∧ (decode cX4_patterned 100 = .ok (.goto 11, 3)) := by decide +kernel
theorem dX4_patterned_80 : decode cX4_patterned 80 = .ok (.invokestatic 46, 3) := bX4_patterned_80.1
theorem dX4_patterned_83 : decode cX4_patterned 83 = .ok (.imul, 1) := bX4_patterned_80.2.1
theorem dX4_patterned_84 : decode cX4_patterned 84 = .ok (.iadd, 1) := bX4_patterned_80.2.2.1
theorem dX4_patterned_85 : decode cX4_patterned 85 = .ok (.iastore, 1) := bX4_patterned_80.2.2.2.1
theorem dX4_patterned_86 : decode cX4_patterned 86 = .ok (.dup, 1) := bX4_patterned_80.2.2.2.2.1
theorem dX4_patterned_87 : decode cX4_patterned 87 = .ok (.bipush 6, 2) := bX4_patterned_80.2.2.2.2.2.1
theorem dX4_patterned_89 : decode cX4_patterned 89 = .ok (.iload_n 0, 1) := bX4_patterned_80.2.2.2.2.2.2.1
theorem dX4_patterned_90 : decode cX4_patterned 90 = .ok (.iconst 2, 1) := bX4_patterned_80.2.2.2.2.2.2.2.1
theorem dX4_patterned_91 : decode cX4_patterned 91 = .ok (.irem, 1) := bX4_patterned_80.2.2.2.2.2.2.2.2.1
theorem dX4_patterned_92 : decode cX4_patterned 92 = .ok (.ifCond .ne 11, 3) := bX4_patterned_80.2.2.2.2.2.2.2.2.2.1
theorem dX4_patterned_95 : decode cX4_patterned 95 = .ok (.iload_n 3, 1) := bX4_patterned_80.2.2.2.2.2.2.2.2.2.2.1
theorem dX4_patterned_96 : decode cX4_patterned 96 = .ok (.iload_n 0, 1) := bX4_patterned_80.2.2.2.2.2.2.2.2.2.2.2.1
theorem dX4_patterned_97 : decode cX4_patterned 97 = .ok (.iconst 2, 1) := bX4_patterned_80.2.2.2.2.2.2.2.2.2.2.2.2.1
theorem dX4_patterned_98 : decode cX4_patterned 98 = .ok (.idiv, 1) := bX4_patterned_80.2.2.2.2.2.2.2.2.2.2.2.2.2.1
theorem dX4_patterned_99 : decode cX4_patterned 99 = .ok (.iadd, 1) := bX4_patterned_80.2.2.2.2.2.2.2.2.2.2.2.2.2.2.1
theorem dX4_patterned_100 : decode cX4_patterned 100 = .ok (.goto 11, 3) := bX4_patterned_80.2.2.2.2.2.2.2.2.2.2.2.2.2.2.2
set_option maxRecDepth 100000 in
theorem bX4_patterned_103 : (decode cX4_patterned 103 = .ok (.iload_n 3, 1)) ∧ (decode cX4_patterned 104 = .ok (.iload 4, 2)) ∧ (decode cX4_patterned 106 = .ok (.iadd, 1)) ∧ (decode cX4_patterned 107 = .ok (.iload_n 0, 1)) ∧ (decode cX4_patterned 108 = .ok (.iconst 2, 1)) ∧ (decode cX4_patterned 109 = .ok (.idiv, 1)) ∧ (decode cX4_patterned 110 = .ok (.isub, 1)) ∧ (decode cX4_patterned 111 = .ok (.iastore, 1)) ∧ (decode cX4_patterned 112 = .ok (.astore 6, 2)) ∧ (decode cX4_patterned 114 = .ok (.aload 6, 2)) ∧ (decode cX4_patterned 116 = .ok (.iload_n 2, 1)) ∧ (decode cX4_patterned 117 = .ok (.iaload, 1)) ∧ (decode cX4_patterned 118 = .ok (.ireturn, 1)) := by decide +kernel
theorem dX4_patterned_103 : decode cX4_patterned 103 = .ok (.iload_n 3, 1) := bX4_patterned_103.1
theorem dX4_patterned_104 : decode cX4_patterned 104 = .ok (.iload 4, 2) := bX4_patterned_103.2.1
theorem dX4_patterned_106 : decode cX4_patterned 106 = .ok (.iadd, 1) := bX4_patterned_103.2.2.1
theorem dX4_patterned_107 : decode cX4_patterned 107 = .ok (.iload_n 0, 1) := bX4_patterned_103.2.2.2.1
theorem dX4_patterned_108 : decode cX4_patterned 108 = .ok (.iconst 2, 1) := bX4_patterned_103.2.2.2.2.1
theorem dX4_patterned_109 : decode cX4_patterned 109 = .ok (.idiv, 1) := bX4_patterned_103.2.2.2.2.2.1
theorem dX4_patterned_110 : decode cX4_patterned 110 = .ok (.isub, 1) := bX4_patterned_103.2.2.2.2.2.2.1
theorem dX4_patterned_111 : decode cX4_patterned 111 = .ok (.iastore, 1) := bX4_patterned_103.2.2.2.2.2.2.2.1
theorem dX4_patterned_112 : decode cX4_patterned 112 = .ok (.astore 6, 2) := bX4_patterned_103.2.2.2.2.2.2.2.2.1
theorem dX4_patterned_114 : decode cX4_patterned 114 = .ok (.aload 6, 2) := bX4_patterned_103.2.2.2.2.2.2.2.2.2.1
theorem dX4_patterned_116 : decode cX4_patterned 116 = .ok (.iload_n 2, 1) := bX4_patterned_103.2.2.2.2.2.2.2.2.2.2.1
theorem dX4_patterned_117 : decode cX4_patterned 117 = .ok (.iaload, 1) := bX4_patterned_103.2.2.2.2.2.2.2.2.2.2.2.1
theorem dX4_patterned_118 : decode cX4_patterned 118 = .ok (.ireturn, 1) := bX4_patterned_103.2.2.2.2.2.2.2.2.2.2.2.2
set_option maxRecDepth 100000 in
theorem bX4_fill_0 : (decode cX4_fill 0 = .ok (.aload_n 0, 1)) ∧ (decode cX4_fill 1 = .ok (.iload_n 1, 1)) ∧ (decode cX4_fill 2 = .ok (.invokestatic 25, 3)) ∧ (decode cX4_fill 5 = .ok (.iload_n 1, 1)) ∧ (decode cX4_fill 6 = .ok (.invokestatic 25, 3)) ∧ (decode cX4_fill 9 = .ok (.ifCond .eq 54, 3)) ∧ (decode cX4_fill 12 = .ok (.iload_n 2, 1)) ∧ (decode cX4_fill 13 = .ok (.iconst 0, 1)) ∧ (decode cX4_fill 14 = .ok (.iload_n 1, 1)) ∧ (decode cX4_fill 15 = .ok (.invokestatic 52, 3)) ∧ (decode cX4_fill 18 = .ok (.invokestatic 21, 3)) ∧ (decode cX4_fill 21 = .ok (.ifCond .eq 42, 3)) ∧ (decode cX4_fill 24 = .ok (.iload_n 3, 1)) ∧ (decode cX4_fill 25 = .ok (.iconst 0, 1)) ∧ (decode cX4_fill 26 = .ok (.bipush 7, 2)) ∧ (decode cX4_fill 28 = .ok (.invokestatic 21, 3)) := by decide +kernel
theorem dX4_fill_0 : decode cX4_fill 0 = .ok (.aload_n 0, 1) := bX4_fill_0.1
theorem dX4_fill_1 : decode cX4_fill 1 = .ok (.iload_n 1, 1) := bX4_fill_0.2.1
theorem dX4_fill_2 : decode cX4_fill 2 = .ok (.invokestatic 25, 3) := bX4_fill_0.2.2.1
theorem dX4_fill_5 : decode cX4_fill 5 = .ok (.iload_n 1, 1) := bX4_fill_0.2.2.2.1
theorem dX4_fill_6 : decode cX4_fill 6 = .ok (.invokestatic 25, 3) := bX4_fill_0.2.2.2.2.1
theorem dX4_fill_9 : decode cX4_fill 9 = .ok (.ifCond .eq 54, 3) := bX4_fill_0.2.2.2.2.2.1
theorem dX4_fill_12 : decode cX4_fill 12 = .ok (.iload_n 2, 1) := bX4_fill_0.2.2.2.2.2.2.1
theorem dX4_fill_13 : decode cX4_fill 13 = .ok (.iconst 0, 1) := bX4_fill_0.2.2.2.2.2.2.2.1
theorem dX4_fill_14 : decode cX4_fill 14 = .ok (.iload_n 1, 1) := bX4_fill_0.2.2.2.2.2.2.2.2.1
theorem dX4_fill_15 : decode cX4_fill 15 = .ok (.invokestatic 52, 3) := bX4_fill_0.2.2.2.2.2.2.2.2.2.1
theorem dX4_fill_18 : decode cX4_fill 18 = .ok (.invokestatic 21, 3) := bX4_fill_0.2.2.2.2.2.2.2.2.2.2.1
theorem dX4_fill_21 : decode cX4_fill 21 = .ok (.ifCond .eq 42, 3) := bX4_fill_0.2.2.2.2.2.2.2.2.2.2.2.1
theorem dX4_fill_24 : decode cX4_fill 24 = .ok (.iload_n 3, 1) := bX4_fill_0.2.2.2.2.2.2.2.2.2.2.2.2.1
theorem dX4_fill_25 : decode cX4_fill 25 = .ok (.iconst 0, 1) := bX4_fill_0.2.2.2.2.2.2.2.2.2.2.2.2.2.1
theorem dX4_fill_26 : decode cX4_fill 26 = .ok (.bipush 7, 2) := bX4_fill_0.2.2.2.2.2.2.2.2.2.2.2.2.2.2.1
theorem dX4_fill_28 : decode cX4_fill 28 = .ok (.invokestatic 21, 3) := bX4_fill_0.2.2.2.2.2.2.2.2.2.2.2.2.2.2.2
set_option maxRecDepth 100000 in
theorem bX4_fill_31 : (decode cX4_fill 31 = .ok (.ifCond .eq 32, 3)) ∧ (decode cX4_fill 34 = .ok (.iload 4, 2)) ∧ (decode cX4_fill 36 = .ok (.sipush (-999), 3)) ∧ (decode cX4_fill 39 = .ok (.sipush 999, 3)) ∧ (decode cX4_fill 42 = .ok (.invokestatic 21, 3)) ∧ (decode cX4_fill 45 = .ok (.ifCond .eq 18, 3)) ∧ (decode cX4_fill 48 = .ok (.iload 5, 2)) ∧ (decode cX4_fill 50 = .ok (.iconst 1, 1)) ∧ (decode cX4_fill 51 = .ok (.bipush 99, 2)) ∧ (decode cX4_fill 53 = .ok (.invokestatic 21, 3)) ∧ (decode cX4_fill 56 = .ok (.ifCond .eq 7, 3)) ∧ (decode cX4_fill 59 = .ok (.iconst 1, 1)) ∧ (decode cX4_fill 60 = .ok (.goto 4, 3)) ∧ (decode cX4_fill 63 = .ok (.iconst 0, 1)) ∧ (decode cX4_fill 64 = .ok (.invokevirtual 56, 3)) ∧ (decode cX4_fill 67 = .ok (.ifCond .ne 5, 3)) := by decide +kernel
theorem dX4_fill_31 : decode cX4_fill 31 = .ok (.ifCond .eq 32, 3) := bX4_fill_31.1
theorem dX4_fill_34 : decode cX4_fill 34 = .ok (.iload 4, 2) := bX4_fill_31.2.1
theorem dX4_fill_36 : decode cX4_fill 36 = .ok (.sipush (-999), 3) := bX4_fill_31.2.2.1
theorem dX4_fill_39 : decode cX4_fill 39 = .ok (.sipush 999, 3) := bX4_fill_31.2.2.2.1
theorem dX4_fill_42 : decode cX4_fill 42 = .ok (.invokestatic 21, 3) := bX4_fill_31.2.2.2.2.1
theorem dX4_fill_45 : decode cX4_fill 45 = .ok (.ifCond .eq 18, 3) := bX4_fill_31.2.2.2.2.2.1
theorem dX4_fill_48 : decode cX4_fill 48 = .ok (.iload 5, 2) := bX4_fill_31.2.2.2.2.2.2.1
theorem dX4_fill_50 : decode cX4_fill 50 = .ok (.iconst 1, 1) := bX4_fill_31.2.2.2.2.2.2.2.1
theorem dX4_fill_51 : decode cX4_fill 51 = .ok (.bipush 99, 2) := bX4_fill_31.2.2.2.2.2.2.2.2.1
theorem dX4_fill_53 : decode cX4_fill 53 = .ok (.invokestatic 21, 3) := bX4_fill_31.2.2.2.2.2.2.2.2.2.1
theorem dX4_fill_56 : decode cX4_fill 56 = .ok (.ifCond .eq 7, 3) := bX4_fill_31.2.2.2.2.2.2.2.2.2.2.1
theorem dX4_fill_59 : decode cX4_fill 59 = .ok (.iconst 1, 1) := bX4_fill_31.2.2.2.2.2.2.2.2.2.2.2.1
theorem dX4_fill_60 : decode cX4_fill 60 = .ok (.goto 4, 3) := bX4_fill_31.2.2.2.2.2.2.2.2.2.2.2.2.1
theorem dX4_fill_63 : decode cX4_fill 63 = .ok (.iconst 0, 1) := bX4_fill_31.2.2.2.2.2.2.2.2.2.2.2.2.2.1
theorem dX4_fill_64 : decode cX4_fill 64 = .ok (.invokevirtual 56, 3) := bX4_fill_31.2.2.2.2.2.2.2.2.2.2.2.2.2.2.1
theorem dX4_fill_67 : decode cX4_fill 67 = .ok (.ifCond .ne 5, 3) := bX4_fill_31.2.2.2.2.2.2.2.2.2.2.2.2.2.2.2
set_option maxRecDepth 100000 in
theorem bX4_fill_70 : (decode cX4_fill 70 = .ok (.iconst 0, 1)) ∧ (decode cX4_fill 71 = .ok (.ireturn, 1)) ∧ (decode cX4_fill 72 = .ok (.aload_n 0, 1)) ∧ (decode cX4_fill 73 = .ok (.getfield 11, 3)) ∧ (decode cX4_fill 76 = .ok (.iload_n 1, 1)) ∧ (decode cX4_fill 77 = .ok (.aaload, 1)) ∧ (decode cX4_fill 78 = .ok (.arraylength, 1)) ∧ (decode cX4_fill 79 = .ok (.istore 6, 2)) ∧ (decode cX4_fill 81 = .ok (.aload_n 0, 1)) ∧ (decode cX4_fill 82 = .ok (.getfield 11, 3)) ∧ (decode cX4_fill 85 = .ok (.iload_n 1, 1)) ∧ (decode cX4_fill 86 = .ok (.iload_n 2, 1)) ∧ (decode cX4_fill 87 = .ok (.newarray .int, 2)) ∧ (decode cX4_fill 89 = .ok (.aastore, 1)) ∧ (decode cX4_fill 90 = .ok (.sipush 1000, 3)) ∧ (decode cX4_fill 93 = .ok (.iload 5, 2)) := by decide +kernel
theorem dX4_fill_70 : decode cX4_fill 70 = .ok (.iconst 0, 1) := bX4_fill_70.1
theorem dX4_fill_71 : decode cX4_fill 71 = .ok (.ireturn, 1) := bX4_fill_70.2.1
theorem dX4_fill_72 : decode cX4_fill 72 = .ok (.aload_n 0, 1) := bX4_fill_70.2.2.1
theorem dX4_fill_73 : decode cX4_fill 73 = .ok (.getfield 11, 3) := bX4_fill_70.2.2.2.1
theorem dX4_fill_76 : decode cX4_fill 76 = .ok (.iload_n 1, 1) := bX4_fill_70.2.2.2.2.1
theorem dX4_fill_77 : decode cX4_fill 77 = .ok (.aaload, 1) := bX4_fill_70.2.2.2.2.2.1
theorem dX4_fill_78 : decode cX4_fill 78 = .ok (.arraylength, 1) := bX4_fill_70.2.2.2.2.2.2.1
theorem dX4_fill_79 : decode cX4_fill 79 = .ok (.istore 6, 2) := bX4_fill_70.2.2.2.2.2.2.2.1
theorem dX4_fill_81 : decode cX4_fill 81 = .ok (.aload_n 0, 1) := bX4_fill_70.2.2.2.2.2.2.2.2.1
theorem dX4_fill_82 : decode cX4_fill 82 = .ok (.getfield 11, 3) := bX4_fill_70.2.2.2.2.2.2.2.2.2.1
theorem dX4_fill_85 : decode cX4_fill 85 = .ok (.iload_n 1, 1) := bX4_fill_70.2.2.2.2.2.2.2.2.2.2.1
theorem dX4_fill_86 : decode cX4_fill 86 = .ok (.iload_n 2, 1) := bX4_fill_70.2.2.2.2.2.2.2.2.2.2.2.1
theorem dX4_fill_87 : decode cX4_fill 87 = .ok (.newarray .int, 2) := bX4_fill_70.2.2.2.2.2.2.2.2.2.2.2.2.1
theorem dX4_fill_89 : decode cX4_fill 89 = .ok (.aastore, 1) := bX4_fill_70.2.2.2.2.2.2.2.2.2.2.2.2.2.1
theorem dX4_fill_90 : decode cX4_fill 90 = .ok (.sipush 1000, 3) := bX4_fill_70.2.2.2.2.2.2.2.2.2.2.2.2.2.2.1
theorem dX4_fill_93 : decode cX4_fill 93 = .ok (.iload 5, 2) := bX4_fill_70.2.2.2.2.2.2.2.2.2.2.2.2.2.2.2
set_option maxRecDepth 100000 in
theorem bX4_fill_95 : (decode cX4_fill 95 = .ok (.imul, 1)) ∧ (decode cX4_fill 96 = .ok (.iload 4, 2)) ∧ (decode cX4_fill 98 = .ok (.iadd, 1)) ∧ (decode cX4_fill 99 = .ok (.sipush 999, 3)) ∧ (decode cX4_fill 102 = .ok (.iadd, 1)) ∧ (decode cX4_fill 103 = .ok (.ldc 60, 2)) ∧ (decode cX4_fill 105 = .ok (.irem, 1)) ∧ (decode cX4_fill 106 = .ok (.istore 7, 2)) ∧ (decode cX4_fill 108 = .ok (.iconst 0, 1)) ∧ (decode cX4_fill 109 = .ok (.istore 8, 2)) ∧ (decode cX4_fill 111 = .ok (.iload 8, 2)) ∧ (decode cX4_fill 113 = .ok (.iload_n 2, 1)) ∧ (decode cX4_fill 114 = .ok (.if_icmp .ge 59, 3)) ∧ (decode cX4_fill 117 = .ok (.iload 7, 2)) ∧ (decode cX4_fill 119 = .ok (.sipush 25173, 3)) ∧ (decode cX4_fill 122 = .ok (.imul, 1)) := by decide +kernel
theorem dX4_fill_95 : decode cX4_fill 95 = .ok (.imul, 1) := bX4_fill_95.1
theorem dX4_fill_96 : decode cX4_fill 96 = .ok (.iload 4, 2) := bX4_fill_95.2.1
theorem dX4_fill_98 : decode cX4_fill 98 = .ok (.iadd, 1) := bX4_fill_95.2.2.1
theorem dX4_fill_99 : decode cX4_fill 99 = .ok (.sipush 999, 3) := bX4_fill_95.2.2.2.1
theorem dX4_fill_102 : decode cX4_fill 102 = .ok (.iadd, 1) := bX4_fill_95.2.2.2.2.1
theorem dX4_fill_103 : decode cX4_fill 103 = .ok (.ldc 60, 2) := bX4_fill_95.2.2.2.2.2.1
theorem dX4_fill_105 : decode cX4_fill 105 = .ok (.irem, 1) := bX4_fill_95.2.2.2.2.2.2.1
theorem dX4_fill_106 : decode cX4_fill 106 = .ok (.istore 7, 2) := bX4_fill_95.2.2.2.2.2.2.2.1
theorem dX4_fill_108 : decode cX4_fill 108 = .ok (.iconst 0, 1) := bX4_fill_95.2.2.2.2.2.2.2.2.1
theorem dX4_fill_109 : decode cX4_fill 109 = .ok (.istore 8, 2) := bX4_fill_95.2.2.2.2.2.2.2.2.2.1
theorem dX4_fill_111 : decode cX4_fill 111 = .ok (.iload 8, 2) := bX4_fill_95.2.2.2.2.2.2.2.2.2.2.1
theorem dX4_fill_113 : decode cX4_fill 113 = .ok (.iload_n 2, 1) := bX4_fill_95.2.2.2.2.2.2.2.2.2.2.2.1
theorem dX4_fill_114 : decode cX4_fill 114 = .ok (.if_icmp .ge 59, 3) := bX4_fill_95.2.2.2.2.2.2.2.2.2.2.2.2.1
theorem dX4_fill_117 : decode cX4_fill 117 = .ok (.iload 7, 2) := bX4_fill_95.2.2.2.2.2.2.2.2.2.2.2.2.2.1
theorem dX4_fill_119 : decode cX4_fill 119 = .ok (.sipush 25173, 3) := bX4_fill_95.2.2.2.2.2.2.2.2.2.2.2.2.2.2.1
theorem dX4_fill_122 : decode cX4_fill 122 = .ok (.imul, 1) := bX4_fill_95.2.2.2.2.2.2.2.2.2.2.2.2.2.2.2
set_option maxRecDepth 100000 in
theorem bX4_fill_123 : (decode cX4_fill 123 = .ok (.sipush 13849, 3)) ∧ (decode cX4_fill 126 = .ok (.iadd, 1)) ∧ (decode cX4_fill 127 = .ok (.ldc 60, 2)) ∧ (decode cX4_fill 129 = .ok (.irem, 1)) ∧ (decode cX4_fill 130 = .ok (.istore 7, 2)) ∧ (decode cX4_fill 132 = .ok (.aload_n 0, 1)) ∧ (decode cX4_fill 133 = .ok (.getfield 11, 3)) ∧ (decode cX4_fill 136 = .ok (.iload_n 1, 1)) ∧ (decode cX4_fill 137 = .ok (.aaload, 1)) ∧ (decode cX4_fill 138 = .ok (.iload 8, 2)) ∧ (decode cX4_fill 140 = .ok (.iload_n 3, 1)) ∧ (decode cX4_fill 141 = .ok (.bipush 7, 2)) ∧ (decode cX4_fill 143 = .ok (.if_icmp .ne 12, 3)) ∧ (decode cX4_fill 146 = .ok (.iload 7, 2)) ∧ (decode cX4_fill 148 = .ok (.sipush 512, 3)) ∧ (decode cX4_fill 151 = .ok (.irem, 1)) := by decide +kernel
theorem dX4_fill_123 : decode cX4_fill 123 = .ok (.sipush 13849, 3) := bX4_fill_123.1
theorem dX4_fill_126 : decode cX4_fill 126 = .ok (.iadd, 1) := bX4_fill_123.2.1
theorem dX4_fill_127 : decode cX4_fill 127 = .ok (.ldc 60, 2) := bX4_fill_123.2.2.1
theorem dX4_fill_129 : decode cX4_fill 129 = .ok (.irem, 1) := bX4_fill_123.2.2.2.1
theorem dX4_fill_130 : decode cX4_fill 130 = .ok (.istore 7, 2) := bX4_fill_123.2.2.2.2.1
theorem dX4_fill_132 : decode cX4_fill 132 = .ok (.aload_n 0, 1) := bX4_fill_123.2.2.2.2.2.1
theorem dX4_fill_133 : decode cX4_fill 133 = .ok (.getfield 11, 3) := bX4_fill_123.2.2.2.2.2.2.1
theorem dX4_fill_136 : decode cX4_fill 136 = .ok (.iload_n 1, 1) := bX4_fill_123.2.2.2.2.2.2.2.1
theorem dX4_fill_137 : decode cX4_fill 137 = .ok (.aaload, 1) := bX4_fill_123.2.2.2.2.2.2.2.2.1
theorem dX4_fill_138 : decode cX4_fill 138 = .ok (.iload 8, 2) := bX4_fill_123.2.2.2.2.2.2.2.2.2.1
theorem dX4_fill_140 : decode cX4_fill 140 = .ok (.iload_n 3, 1) := bX4_fill_123.2.2.2.2.2.2.2.2.2.2.1
theorem dX4_fill_141 : decode cX4_fill 141 = .ok (.bipush 7, 2) := bX4_fill_123.2.2.2.2.2.2.2.2.2.2.2.1
theorem dX4_fill_143 : decode cX4_fill 143 = .ok (.if_icmp .ne 12, 3) := bX4_fill_123.2.2.2.2.2.2.2.2.2.2.2.2.1
theorem dX4_fill_146 : decode cX4_fill 146 = .ok (.iload 7, 2) := bX4_fill_123.2.2.2.2.2.2.2.2.2.2.2.2.2.1
theorem dX4_fill_148 : decode cX4_fill 148 = .ok (.sipush 512, 3) := bX4_fill_123.2.2.2.2.2.2.2.2.2.2.2.2.2.2.1
theorem dX4_fill_151 : decode cX4_fill 151 = .ok (.irem, 1) := bX4_fill_123.2.2.2.2.2.2.2.2.2.2.2.2.2.2.2
set_option maxRecDepth 100000 in
theorem bX4_fill_152 : (decode cX4_fill 152 = .ok (.goto 14, 3)) ∧ (decode cX4_fill 155 = .ok (.iload 8, 2)) ∧ (decode cX4_fill 157 = .ok (.iload_n 2, 1)) ∧ (decode cX4_fill 158 = .ok (.iload_n 3, 1)) ∧ (decode cX4_fill 159 = .ok (.iload 4, 2)) ∧ (decode cX4_fill 161 = .ok (.iload 5, 2)) ∧ (decode cX4_fill 163 = .ok (.invokestatic 61, 3)) ∧ (decode cX4_fill 166 = .ok (.iastore, 1)) ∧ (decode cX4_fill 167 = .ok (.iinc 8 1, 3)) ∧ (decode cX4_fill 170 = .ok (.goto (-59), 3)) ∧ (decode cX4_fill 173 = .ok (.aload_n 0, 1)) ∧ (decode cX4_fill 174 = .ok (.getfield 14, 3)) ∧ (decode cX4_fill 177 = .ok (.iload_n 1, 1)) ∧ (decode cX4_fill 178 = .ok (.aload_n 0, 1)) ∧ (decode cX4_fill 179 = .ok (.iload_n 1, 1)) ∧ (decode cX4_fill 180 = .ok (.iload_n 2, 1)) := by decide +kernel
theorem dX4_fill_152 : decode cX4_fill 152 = .ok (.goto 14, 3) := bX4_fill_152.1
theorem dX4_fill_155 : decode cX4_fill 155 = .ok (.iload 8, 2) := bX4_fill_152.2.1
theorem dX4_fill_157 : decode cX4_fill 157 = .ok (.iload_n 2, 1) := bX4_fill_152.2.2.1
theorem dX4_fill_158 : decode cX4_fill 158 = .ok (.iload_n 3, 1) := bX4_fill_152.2.2.2.1
theorem dX4_fill_159 : decode cX4_fill 159 = .ok (.iload 4, 2) := bX4_fill_152.2.2.2.2.1
theorem dX4_fill_161 : decode cX4_fill 161 = .ok (.iload 5, 2) := bX4_fill_152.2.2.2.2.2.1
theorem dX4_fill_163 : decode cX4_fill 163 = .ok (.invokestatic 61, 3) := bX4_fill_152.2.2.2.2.2.2.1
theorem dX4_fill_166 : decode cX4_fill 166 = .ok (.iastore, 1) := bX4_fill_152.2.2.2.2.2.2.2.1
theorem dX4_fill_167 : decode cX4_fill 167 = .ok (.iinc 8 1, 3) := bX4_fill_152.2.2.2.2.2.2.2.2.1
theorem dX4_fill_170 : decode cX4_fill 170 = .ok (.goto (-59), 3) := bX4_fill_152.2.2.2.2.2.2.2.2.2.1
theorem dX4_fill_173 : decode cX4_fill 173 = .ok (.aload_n 0, 1) := bX4_fill_152.2.2.2.2.2.2.2.2.2.2.1
theorem dX4_fill_174 : decode cX4_fill 174 = .ok (.getfield 14, 3) := bX4_fill_152.2.2.2.2.2.2.2.2.2.2.2.1
theorem dX4_fill_177 : decode cX4_fill 177 = .ok (.iload_n 1, 1) := bX4_fill_152.2.2.2.2.2.2.2.2.2.2.2.2.1
theorem dX4_fill_178 : decode cX4_fill 178 = .ok (.aload_n 0, 1) := bX4_fill_152.2.2.2.2.2.2.2.2.2.2.2.2.2.1
theorem dX4_fill_179 : decode cX4_fill 179 = .ok (.iload_n 1, 1) := bX4_fill_152.2.2.2.2.2.2.2.2.2.2.2.2.2.2.1
theorem dX4_fill_180 : decode cX4_fill 180 = .ok (.iload_n 2, 1) := bX4_fill_152.2.2.2.2.2.2.2.2.2.2.2.2.2.2.2
set_option maxRecDepth 100000 in
theorem bX4_fill_181 : (decode cX4_fill 181 = .ok (.invokevirtual 38, 3)) ∧ (decode cX4_fill 184 = .ok (.aastore, 1)) ∧ (decode cX4_fill 185 = .ok (.aload_n 0, 1)) ∧ (decode cX4_fill 186 = .ok (.iload 6, 2)) ∧ (decode cX4_fill 188 = .ok (.invokevirtual 65, 3)) ∧ (decode cX4_fill 191 = .ok (.ireturn, 1)) := by decide +kernel
theorem dX4_fill_181 : decode cX4_fill 181 = .ok (.invokevirtual 38, 3) := bX4_fill_181.1
theorem dX4_fill_184 : decode cX4_fill 184 = .ok (.aastore, 1) := bX4_fill_181.2.1
theorem dX4_fill_185 : decode cX4_fill 185 = .ok (.aload_n 0, 1) := bX4_fill_181.2.2.1
theorem dX4_fill_186 : decode cX4_fill 186 = .ok (.iload 6, 2) := bX4_fill_181.2.2.2.1
theorem dX4_fill_188 : decode cX4_fill 188 = .ok (.invokevirtual 65, 3) := bX4_fill_181.2.2.2.2.1
theorem dX4_fill_191 : decode cX4_fill 191 = .ok (.ireturn, 1) := bX4_fill_181.2.2.2.2.2
set_option maxRecDepth 100000 in
theorem bX4_add_0 : (decode cX4_add 0 = .ok (.aload_n 0, 1)) ∧ (decode cX4_add 1 = .ok (.iload_n 1, 1)) ∧ (decode cX4_add 2 = .ok (.invokestatic 25, 3)) ∧ (decode cX4_add 5 = .ok (.iload_n 2, 1)) ∧ (decode cX4_add 6 = .ok (.ldc 68, 2)) ∧ (decode cX4_add 8 = .ok (.ldc 69, 2)) ∧ (decode cX4_add 10 = .ok (.invokestatic 21, 3)) ∧ (decode cX4_add 13 = .ok (.invokevirtual 56, 3)) ∧ (decode cX4_add 16 = .ok (.ifCond .ne 5, 3)) ∧ (decode cX4_add 19 = .ok (.iconst 0, 1)) ∧ (decode cX4_add 20 = .ok (.ireturn, 1)) ∧ (decode cX4_add 21 = .ok (.aload_n 0, 1)) ∧ (decode cX4_add 22 = .ok (.getfield 11, 3)) ∧ (decode cX4_add 25 = .ok (.iload_n 1, 1)) ∧ (decode cX4_add 26 = .ok (.aaload, 1)) ∧ (decode cX4_add 27 = .ok (.arraylength, 1)) := by decide +kernel
theorem dX4_add_0 : decode cX4_add 0 = .ok (.aload_n 0, 1) := bX4_add_0.1
theorem dX4_add_1 : decode cX4_add 1 = .ok (.iload_n 1, 1) := bX4_add_0.2.1
theorem dX4_add_2 : decode cX4_add 2 = .ok (.invokestatic 25, 3) := bX4_add_0.2.2.1
theorem dX4_add_5 : decode cX4_add 5 = .ok (.iload_n 2, 1) := bX4_add_0.2.2.2.1
theorem dX4_add_6 : decode cX4_add 6 = .ok (.ldc 68, 2) := bX4_add_0.2.2.2.2.1
theorem dX4_add_8 : decode cX4_add 8 = .ok (.ldc 69, 2) := bX4_add_0.2.2.2.2.2.1
theorem dX4_add_10 : decode cX4_add 10 = .ok (.invokestatic 21, 3) := bX4_add_0.2.2.2.2.2.2.1
theorem dX4_add_13 : decode cX4_add 13 = .ok (.invokevirtual 56, 3) := bX4_add_0.2.2.2.2.2.2.2.1
theorem dX4_add_16 : decode cX4_add 16 = .ok (.ifCond .ne 5, 3) := bX4_add_0.2.2.2.2.2.2.2.2.1
theorem dX4_add_19 : decode cX4_add 19 = .ok (.iconst 0, 1) := bX4_add_0.2.2.2.2.2.2.2.2.2.1
theorem dX4_add_20 : decode cX4_add 20 = .ok (.ireturn, 1) := bX4_add_0.2.2.2.2.2.2.2.2.2.2.1
theorem dX4_add_21 : decode cX4_add 21 = .ok (.aload_n 0, 1) := bX4_add_0.2.2.2.2.2.2.2.2.2.2.2.1
theorem dX4_add_22 : decode cX4_add 22 = .ok (.getfield 11, 3) := bX4_add_0.2.2.2.2.2.2.2.2.2.2.2.2.1
theorem dX4_add_25 : decode cX4_add 25 = .ok (.iload_n 1, 1) := bX4_add_0.2.2.2.2.2.2.2.2.2.2.2.2.2.1
theorem dX4_add_26 : decode cX4_add 26 = .ok (.aaload, 1) := bX4_add_0.2.2.2.2.2.2.2.2.2.2.2.2.2.2.1
theorem dX4_add_27 : decode cX4_add 27 = .ok (.arraylength, 1) := bX4_add_0.2.2.2.2.2.2.2.2.2.2.2.2.2.2.2
set_option maxRecDepth 100000 in
theorem bX4_add_28 : (decode cX4_add 28 = .ok (.iload_n 1, 1)) ∧ (decode cX4_add 29 = .ok (.invokestatic 52, 3)) ∧ (decode cX4_add 32 = .ok (.if_icmp .ne 8, 3)) ∧ (decode cX4_add 35 = .ok (.aload_n 0, 1)) ∧ (decode cX4_add 36 = .ok (.invokevirtual 70, 3)) ∧ (decode cX4_add 39 = .ok (.ireturn, 1)) ∧ (decode cX4_add 40 = .ok (.aload_n 0, 1)) ∧ (decode cX4_add 41 = .ok (.getfield 11, 3)) ∧ (decode cX4_add 44 = .ok (.iload_n 1, 1)) ∧ (decode cX4_add 45 = .ok (.aload_n 0, 1)) ∧ (decode cX4_add 46 = .ok (.getfield 11, 3)) ∧ (decode cX4_add 49 = .ok (.iload_n 1, 1)) ∧ (decode cX4_add 50 = .ok (.aaload, 1)) ∧ (decode cX4_add 51 = .ok (.iconst 1, 1)) ∧ (decode cX4_add 52 = .ok (.newarray .int, 2)) ∧ (decode cX4_add 54 = .ok (.dup, 1)) := by decide +kernel
theorem dX4_add_28 : decode cX4_add 28 = .ok (.iload_n 1, 1) := bX4_add_28.1
theorem dX4_add_29 : decode cX4_add 29 = .ok (.invokestatic 52, 3) := bX4_add_28.2.1
theorem dX4_add_32 : decode cX4_add 32 = .ok (.if_icmp .ne 8, 3) := bX4_add_28.2.2.1
theorem dX4_add_35 : decode cX4_add 35 = .ok (.aload_n 0, 1) := bX4_add_28.2.2.2.1
theorem dX4_add_36 : decode cX4_add 36 = .ok (.invokevirtual 70, 3) := bX4_add_28.2.2.2.2.1
theorem dX4_add_39 : decode cX4_add 39 = .ok (.ireturn, 1) := bX4_add_28.2.2.2.2.2.1
theorem dX4_add_40 : decode cX4_add 40 = .ok (.aload_n 0, 1) := bX4_add_28.2.2.2.2.2.2.1
theorem dX4_add_41 : decode cX4_add 41 = .ok (.getfield 11, 3) := bX4_add_28.2.2.2.2.2.2.2.1
theorem dX4_add_44 : decode cX4_add 44 = .ok (.iload_n 1, 1) := bX4_add_28.2.2.2.2.2.2.2.2.1
theorem dX4_add_45 : decode cX4_add 45 = .ok (.aload_n 0, 1) := bX4_add_28.2.2.2.2.2.2.2.2.2.1
theorem dX4_add_46 : decode cX4_add 46 = .ok (.getfield 11, 3) := bX4_add_28.2.2.2.2.2.2.2.2.2.2.1
theorem dX4_add_49 : decode cX4_add 49 = .ok (.iload_n 1, 1) := bX4_add_28.2.2.2.2.2.2.2.2.2.2.2.1
theorem dX4_add_50 : decode cX4_add 50 = .ok (.aaload, 1) := bX4_add_28.2.2.2.2.2.2.2.2.2.2.2.2.1
theorem dX4_add_51 : decode cX4_add 51 = .ok (.iconst 1, 1) := bX4_add_28.2.2.2.2.2.2.2.2.2.2.2.2.2.1
theorem dX4_add_52 : decode cX4_add 52 = .ok (.newarray .int, 2) := bX4_add_28.2.2.2.2.2.2.2.2.2.2.2.2.2.2.1
theorem dX4_add_54 : decode cX4_add 54 = .ok (.dup, 1) := bX4_add_28.2.2.2.2.2.2.2.2.2.2.2.2.2.2.2
set_option maxRecDepth 100000 in
theorem bX4_add_55 : (decode cX4_add 55 = .ok (.iconst 0, 1)) ∧ (decode cX4_add 56 = .ok (.iload_n 2, 1)) ∧ (decode cX4_add 57 = .ok (.iastore, 1)) ∧ (decode cX4_add 58 = .ok (.invokestatic 74, 3)) ∧ (decode cX4_add 61 = .ok (.aastore, 1)) ∧ (decode cX4_add 62 = .ok (.aload_n 0, 1)) ∧ (decode cX4_add 63 = .ok (.getfield 14, 3)) ∧ (decode cX4_add 66 = .ok (.iload_n 1, 1)) ∧ (decode cX4_add 67 = .ok (.aload_n 0, 1)) ∧ (decode cX4_add 68 = .ok (.getfield 14, 3)) ∧ (decode cX4_add 71 = .ok (.iload_n 1, 1)) ∧ (decode cX4_add 72 = .ok (.aaload, 1)) ∧ (decode cX4_add 73 = .ok (.aload_n 0, 1)) ∧ (decode cX4_add 74 = .ok (.iload_n 1, 1)) ∧ (decode cX4_add 75 = .ok (.iconst 1, 1)) ∧ (decode cX4_add 76 = .ok (.invokevirtual 38, 3)) := by decide +kernel
theorem dX4_add_55 : decode cX4_add 55 = .ok (.iconst 0, 1) := bX4_add_55.1
theorem dX4_add_56 : decode cX4_add 56 = .ok (.iload_n 2, 1) := bX4_add_55.2.1
theorem dX4_add_57 : decode cX4_add 57 = .ok (.iastore, 1) := bX4_add_55.2.2.1
theorem dX4_add_58 : decode cX4_add 58 = .ok (.invokestatic 74, 3) := bX4_add_55.2.2.2.1
theorem dX4_add_61 : decode cX4_add 61 = .ok (.aastore, 1) := bX4_add_55.2.2.2.2.1
theorem dX4_add_62 : decode cX4_add 62 = .ok (.aload_n 0, 1) := bX4_add_55.2.2.2.2.2.1
theorem dX4_add_63 : decode cX4_add 63 = .ok (.getfield 14, 3) := bX4_add_55.2.2.2.2.2.2.1
theorem dX4_add_66 : decode cX4_add 66 = .ok (.iload_n 1, 1) := bX4_add_55.2.2.2.2.2.2.2.1
theorem dX4_add_67 : decode cX4_add 67 = .ok (.aload_n 0, 1) := bX4_add_55.2.2.2.2.2.2.2.2.1
theorem dX4_add_68 : decode cX4_add 68 = .ok (.getfield 14, 3) := bX4_add_55.2.2.2.2.2.2.2.2.2.1
theorem dX4_add_71 : decode cX4_add 71 = .ok (.iload_n 1, 1) := bX4_add_55.2.2.2.2.2.2.2.2.2.2.1
theorem dX4_add_72 : decode cX4_add 72 = .ok (.aaload, 1) := bX4_add_55.2.2.2.2.2.2.2.2.2.2.2.1
theorem dX4_add_73 : decode cX4_add 73 = .ok (.aload_n 0, 1) := bX4_add_55.2.2.2.2.2.2.2.2.2.2.2.2.1
theorem dX4_add_74 : decode cX4_add 74 = .ok (.iload_n 1, 1) := bX4_add_55.2.2.2.2.2.2.2.2.2.2.2.2.2.1
theorem dX4_add_75 : decode cX4_add 75 = .ok (.iconst 1, 1) := bX4_add_55.2.2.2.2.2.2.2.2.2.2.2.2.2.2.1
theorem dX4_add_76 : decode cX4_add 76 = .ok (.invokevirtual 38, 3) := bX4_add_55.2.2.2.2.2.2.2.2.2.2.2.2.2.2.2
set_option maxRecDepth 100000 in
theorem bX4_add_79 : (decode cX4_add 79 = .ok (.invokestatic 74, 3)) ∧ (decode cX4_add 82 = .ok (.aastore, 1)) ∧ (decode cX4_add 83 = .ok (.aload_n 0, 1)) ∧ (decode cX4_add 84 = .ok (.aload_n 0, 1)) ∧ (decode cX4_add 85 = .ok (.getfield 11, 3)) ∧ (decode cX4_add 88 = .ok (.iload_n 1, 1)) ∧ (decode cX4_add 89 = .ok (.aaload, 1)) ∧ (decode cX4_add 90 = .ok (.arraylength, 1)) ∧ (decode cX4_add 91 = .ok (.invokevirtual 65, 3)) ∧ (decode cX4_add 94 = .ok (.ireturn, 1)) := by decide +kernel
theorem dX4_add_79 : decode cX4_add 79 = .ok (.invokestatic 74, 3) := bX4_add_79.1
theorem dX4_add_82 : decode cX4_add 82 = .ok (.aastore, 1) := bX4_add_79.2.1
theorem dX4_add_83 : decode cX4_add 83 = .ok (.aload_n 0, 1) := bX4_add_79.2.2.1
theorem dX4_add_84 : decode cX4_add 84 = .ok (.aload_n 0, 1) := bX4_add_79.2.2.2.1
theorem dX4_add_85 : decode cX4_add 85 = .ok (.getfield 11, 3) := bX4_add_79.2.2.2.2.1
theorem dX4_add_88 : decode cX4_add 88 = .ok (.iload_n 1, 1) := bX4_add_79.2.2.2.2.2.1
theorem dX4_add_89 : decode cX4_add 89 = .ok (.aaload, 1) := bX4_add_79.2.2.2.2.2.2.1
theorem dX4_add_90 : decode cX4_add 90 = .ok (.arraylength, 1) := bX4_add_79.2.2.2.2.2.2.2.1
theorem dX4_add_91 : decode cX4_add 91 = .ok (.invokevirtual 65, 3) := bX4_add_79.2.2.2.2.2.2.2.2.1
theorem dX4_add_94 : decode cX4_add 94 = .ok (.ireturn, 1) := bX4_add_79.2.2.2.2.2.2.2.2.2
set_option maxRecDepth 100000 in
theorem bX4_put_0 : (decode cX4_put 0 = .ok (.aload_n 0, 1)) ∧ (decode cX4_put 1 = .ok (.aload_n 0, 1)) ∧ (decode cX4_put 2 = .ok (.iload_n 1, 1)) ∧ (decode cX4_put 3 = .ok (.iload_n 2, 1)) ∧ (decode cX4_put 4 = .ok (.invokevirtual 78, 3)) ∧ (decode cX4_put 7 = .ok (.iload_n 3, 1)) ∧ (decode cX4_put 8 = .ok (.ldc 68, 2)) ∧ (decode cX4_put 10 = .ok (.ldc 69, 2)) ∧ (decode cX4_put 12 = .ok (.invokestatic 21, 3)) ∧ (decode cX4_put 15 = .ok (.invokevirtual 56, 3)) ∧ (decode cX4_put 18 = .ok (.ifCond .ne 5, 3)) ∧ (decode cX4_put 21 = .ok (.iconst 0, 1)) ∧ (decode cX4_put 22 = .ok (.ireturn, 1)) ∧ (decode cX4_put 23 = .ok (.aload_n 0, 1)) ∧ (decode cX4_put 24 = .ok (.getfield 11, 3)) ∧ (decode cX4_put 27 = .ok (.iload_n 1, 1)) := by decide +kernel
theorem dX4_put_0 : decode cX4_put 0 = .ok (.aload_n 0, 1) := bX4_put_0.1
theorem dX4_put_1 : decode cX4_put 1 = .ok (.aload_n 0, 1) := bX4_put_0.2.1
theorem dX4_put_2 : decode cX4_put 2 = .ok (.iload_n 1, 1) := bX4_put_0.2.2.1
theorem dX4_put_3 : decode cX4_put 3 = .ok (.iload_n 2, 1) := bX4_put_0.2.2.2.1
theorem dX4_put_4 : decode cX4_put 4 = .ok (.invokevirtual 78, 3) := bX4_put_0.2.2.2.2.1
theorem dX4_put_7 : decode cX4_put 7 = .ok (.iload_n 3, 1) := bX4_put_0.2.2.2.2.2.1
theorem dX4_put_8 : decode cX4_put 8 = .ok (.ldc 68, 2) := bX4_put_0.2.2.2.2.2.2.1
theorem dX4_put_10 : decode cX4_put 10 = .ok (.ldc 69, 2) := bX4_put_0.2.2.2.2.2.2.2.1
theorem dX4_put_12 : decode cX4_put 12 = .ok (.invokestatic 21, 3) := bX4_put_0.2.2.2.2.2.2.2.2.1
theorem dX4_put_15 : decode cX4_put 15 = .ok (.invokevirtual 56, 3) := bX4_put_0.2.2.2.2.2.2.2.2.2.1
theorem dX4_put_18 : decode cX4_put 18 = .ok (.ifCond .ne 5, 3) := bX4_put_0.2.2.2.2.2.2.2.2.2.2.1
theorem dX4_put_21 : decode cX4_put 21 = .ok (.iconst 0, 1) := bX4_put_0.2.2.2.2.2.2.2.2.2.2.2.1
theorem dX4_put_22 : decode cX4_put 22 = .ok (.ireturn, 1) := bX4_put_0.2.2.2.2.2.2.2.2.2.2.2.2.1
theorem dX4_put_23 : decode cX4_put 23 = .ok (.aload_n 0, 1) := bX4_put_0.2.2.2.2.2.2.2.2.2.2.2.2.2.1
theorem dX4_put_24 : decode cX4_put 24 = .ok (.getfield 11, 3) := bX4_put_0.2.2.2.2.2.2.2.2.2.2.2.2.2.2.1
theorem dX4_put_27 : decode cX4_put 27 = .ok (.iload_n 1, 1) := bX4_put_0.2.2.2.2.2.2.2.2.2.2.2.2.2.2.2
set_option maxRecDepth 100000 in
theorem bX4_put_28 : (decode cX4_put 28 = .ok (.aaload, 1)) ∧ (decode cX4_put 29 = .ok (.iload_n 2, 1)) ∧ (decode cX4_put 30 = .ok (.iaload, 1)) ∧ (decode cX4_put 31 = .ok (.istore 4, 2)) ∧ (decode cX4_put 33 = .ok (.aload_n 0, 1)) ∧ (decode cX4_put 34 = .ok (.getfield 11, 3)) ∧ (decode cX4_put 37 = .ok (.iload_n 1, 1)) ∧ (decode cX4_put 38 = .ok (.aaload, 1)) ∧ (decode cX4_put 39 = .ok (.iload_n 2, 1)) ∧ (decode cX4_put 40 = .ok (.iload_n 3, 1)) ∧ (decode cX4_put 41 = .ok (.iastore, 1)) ∧ (decode cX4_put 42 = .ok (.aload_n 0, 1)) ∧ (decode cX4_put 43 = .ok (.getfield 14, 3)) ∧ (decode cX4_put 46 = .ok (.iload_n 1, 1)) ∧ (decode cX4_put 47 = .ok (.aaload, 1)) ∧ (decode cX4_put 48 = .ok (.iload_n 2, 1)) := by decide +kernel
theorem dX4_put_28 : decode cX4_put 28 = .ok (.aaload, 1) := bX4_put_28.1
theorem dX4_put_29 : decode cX4_put 29 = .ok (.iload_n 2, 1) := bX4_put_28.2.1
theorem dX4_put_30 : decode cX4_put 30 = .ok (.iaload, 1) := bX4_put_28.2.2.1
theorem dX4_put_31 : decode cX4_put 31 = .ok (.istore 4, 2) := bX4_put_28.2.2.2.1
theorem dX4_put_33 : decode cX4_put 33 = .ok (.aload_n 0, 1) := bX4_put_28.2.2.2.2.1
theorem dX4_put_34 : decode cX4_put 34 = .ok (.getfield 11, 3) := bX4_put_28.2.2.2.2.2.1
theorem dX4_put_37 : decode cX4_put 37 = .ok (.iload_n 1, 1) := bX4_put_28.2.2.2.2.2.2.1
theorem dX4_put_38 : decode cX4_put 38 = .ok (.aaload, 1) := bX4_put_28.2.2.2.2.2.2.2.1
theorem dX4_put_39 : decode cX4_put 39 = .ok (.iload_n 2, 1) := bX4_put_28.2.2.2.2.2.2.2.2.1
theorem dX4_put_40 : decode cX4_put 40 = .ok (.iload_n 3, 1) := bX4_put_28.2.2.2.2.2.2.2.2.2.1
theorem dX4_put_41 : decode cX4_put 41 = .ok (.iastore, 1) := bX4_put_28.2.2.2.2.2.2.2.2.2.2.1
theorem dX4_put_42 : decode cX4_put 42 = .ok (.aload_n 0, 1) := bX4_put_28.2.2.2.2.2.2.2.2.2.2.2.1
theorem dX4_put_43 : decode cX4_put 43 = .ok (.getfield 14, 3) := bX4_put_28.2.2.2.2.2.2.2.2.2.2.2.2.1
theorem dX4_put_46 : decode cX4_put 46 = .ok (.iload_n 1, 1) := bX4_put_28.2.2.2.2.2.2.2.2.2.2.2.2.2.1
theorem dX4_put_47 : decode cX4_put 47 = .ok (.aaload, 1) := bX4_put_28.2.2.2.2.2.2.2.2.2.2.2.2.2.2.1
theorem dX4_put_48 : decode cX4_put 48 = .ok (.iload_n 2, 1) := bX4_put_28.2.2.2.2.2.2.2.2.2.2.2.2.2.2.2
set_option maxRecDepth 100000 in
theorem bX4_put_49 : (decode cX4_put 49 = .ok (.aload_n 0, 1)) ∧ (decode cX4_put 50 = .ok (.iload_n 1, 1)) ∧ (decode cX4_put 51 = .ok (.iconst 1, 1)) ∧ (decode cX4_put 52 = .ok (.invokevirtual 38, 3)) ∧ (decode cX4_put 55 = .ok (.iconst 0, 1)) ∧ (decode cX4_put 56 = .ok (.iaload, 1)) ∧ (decode cX4_put 57 = .ok (.iastore, 1)) ∧ (decode cX4_put 58 = .ok (.aload_n 0, 1)) ∧ (decode cX4_put 59 = .ok (.iload 4, 2)) ∧ (decode cX4_put 61 = .ok (.invokevirtual 65, 3)) ∧ (decode cX4_put 64 = .ok (.ireturn, 1)) := by decide +kernel
theorem dX4_put_49 : decode cX4_put 49 = .ok (.aload_n 0, 1) := bX4_put_49.1
theorem dX4_put_50 : decode cX4_put 50 = .ok (.iload_n 1, 1) := bX4_put_49.2.1
theorem dX4_put_51 : decode cX4_put 51 = .ok (.iconst 1, 1) := bX4_put_49.2.2.1
theorem dX4_put_52 : decode cX4_put 52 = .ok (.invokevirtual 38, 3) := bX4_put_49.2.2.2.1
theorem dX4_put_55 : decode cX4_put 55 = .ok (.iconst 0, 1) := bX4_put_49.2.2.2.2.1
theorem dX4_put_56 : decode cX4_put 56 = .ok (.iaload, 1) := bX4_put_49.2.2.2.2.2.1
theorem dX4_put_57 : decode cX4_put 57 = .ok (.iastore, 1) := bX4_put_49.2.2.2.2.2.2.1
theorem dX4_put_58 : decode cX4_put 58 = .ok (.aload_n 0, 1) := bX4_put_49.2.2.2.2.2.2.2.1
theorem dX4_put_59 : decode cX4_put 59 = .ok (.iload 4, 2) := bX4_put_49.2.2.2.2.2.2.2.2.1
theorem dX4_put_61 : decode cX4_put 61 = .ok (.invokevirtual 65, 3) := bX4_put_49.2.2.2.2.2.2.2.2.2.1
theorem dX4_put_64 : decode cX4_put 64 = .ok (.ireturn, 1) := bX4_put_49.2.2.2.2.2.2.2.2.2.2
set_option maxRecDepth 100000 in
theorem bX4_drop_0 : (decode cX4_drop 0 = .ok (.aload_n 0, 1)) ∧ (decode cX4_drop 1 = .ok (.aload_n 0, 1)) ∧ (decode cX4_drop 2 = .ok (.iload_n 1, 1)) ∧ (decode cX4_drop 3 = .ok (.iload_n 2, 1)) ∧ (decode cX4_drop 4 = .ok (.invokevirtual 78, 3)) ∧ (decode cX4_drop 7 = .ok (.iconst 1, 1)) ∧ (decode cX4_drop 8 = .ok (.invokevirtual 56, 3)) ∧ (decode cX4_drop 11 = .ok (.ifCond .ne 5, 3)) ∧ (decode cX4_drop 14 = .ok (.iconst 0, 1)) ∧ (decode cX4_drop 15 = .ok (.ireturn, 1)) ∧ (decode cX4_drop 16 = .ok (.aload_n 0, 1)) ∧ (decode cX4_drop 17 = .ok (.getfield 11, 3)) ∧ (decode cX4_drop 20 = .ok (.iload_n 1, 1)) ∧ (decode cX4_drop 21 = .ok (.aaload, 1)) ∧ (decode cX4_drop 22 = .ok (.iload_n 2, 1)) ∧ (decode cX4_drop 23 = .ok (.iaload, 1)) := by decide +kernel
theorem dX4_drop_0 : decode cX4_drop 0 = .ok (.aload_n 0, 1) := bX4_drop_0.1
theorem dX4_drop_1 : decode cX4_drop 1 = .ok (.aload_n 0, 1) := bX4_drop_0.2.1
theorem dX4_drop_2 : decode cX4_drop 2 = .ok (.iload_n 1, 1) := bX4_drop_0.2.2.1
theorem dX4_drop_3 : decode cX4_drop 3 = .ok (.iload_n 2, 1) := bX4_drop_0.2.2.2.1
theorem dX4_drop_4 : decode cX4_drop 4 = .ok (.invokevirtual 78, 3) := bX4_drop_0.2.2.2.2.1
theorem dX4_drop_7 : decode cX4_drop 7 = .ok (.iconst 1, 1) := bX4_drop_0.2.2.2.2.2.1
theorem dX4_drop_8 : decode cX4_drop 8 = .ok (.invokevirtual 56, 3) := bX4_drop_0.2.2.2.2.2.2.1
theorem dX4_drop_11 : decode cX4_drop 11 = .ok (.ifCond .ne 5, 3) := bX4_drop_0.2.2.2.2.2.2.2.1
theorem dX4_drop_14 : decode cX4_drop 14 = .ok (.iconst 0, 1) := bX4_drop_0.2.2.2.2.2.2.2.2.1
theorem dX4_drop_15 : decode cX4_drop 15 = .ok (.ireturn, 1) := bX4_drop_0.2.2.2.2.2.2.2.2.2.1
theorem dX4_drop_16 : decode cX4_drop 16 = .ok (.aload_n 0, 1) := bX4_drop_0.2.2.2.2.2.2.2.2.2.2.1
theorem dX4_drop_17 : decode cX4_drop 17 = .ok (.getfield 11, 3) := bX4_drop_0.2.2.2.2.2.2.2.2.2.2.2.1
theorem dX4_drop_20 : decode cX4_drop 20 = .ok (.iload_n 1, 1) := bX4_drop_0.2.2.2.2.2.2.2.2.2.2.2.2.1
theorem dX4_drop_21 : decode cX4_drop 21 = .ok (.aaload, 1) := bX4_drop_0.2.2.2.2.2.2.2.2.2.2.2.2.2.1
theorem dX4_drop_22 : decode cX4_drop 22 = .ok (.iload_n 2, 1) := bX4_drop_0.2.2.2.2.2.2.2.2.2.2.2.2.2.2.1
theorem dX4_drop_23 : decode cX4_drop 23 = .ok (.iaload, 1) := bX4_drop_0.2.2.2.2.2.2.2.2.2.2.2.2.2.2.2
set_option maxRecDepth 100000 in
theorem bX4_drop_24 : (decode cX4_drop 24 = .ok (.istore_n 3, 1)) ∧ (decode cX4_drop 25 = .ok (.aload_n 0, 1)) ∧ (decode cX4_drop 26 = .ok (.getfield 11, 3)) ∧ (decode cX4_drop 29 = .ok (.iload_n 1, 1)) ∧ (decode cX4_drop 30 = .ok (.aaload, 1)) ∧ (decode cX4_drop 31 = .ok (.arraylength, 1)) ∧ (decode cX4_drop 32 = .ok (.iconst 1, 1)) ∧ (decode cX4_drop 33 = .ok (.isub, 1)) ∧ (decode cX4_drop 34 = .ok (.newarray .int, 2)) ∧ (decode cX4_drop 36 = .ok (.astore 4, 2)) ∧ (decode cX4_drop 38 = .ok (.iconst 0, 1)) ∧ (decode cX4_drop 39 = .ok (.istore 5, 2)) ∧ (decode cX4_drop 41 = .ok (.iload 5, 2)) ∧ (decode cX4_drop 43 = .ok (.aload 4, 2)) ∧ (decode cX4_drop 45 = .ok (.arraylength, 1)) ∧ (decode cX4_drop 46 = .ok (.if_icmp .ge 29, 3)) := by decide +kernel
theorem dX4_drop_24 : decode cX4_drop 24 = .ok (.istore_n 3, 1) := bX4_drop_24.1
theorem dX4_drop_25 : decode cX4_drop 25 = .ok (.aload_n 0, 1) := bX4_drop_24.2.1
theorem dX4_drop_26 : decode cX4_drop 26 = .ok (.getfield 11, 3) := bX4_drop_24.2.2.1
theorem dX4_drop_29 : decode cX4_drop 29 = .ok (.iload_n 1, 1) := bX4_drop_24.2.2.2.1
theorem dX4_drop_30 : decode cX4_drop 30 = .ok (.aaload, 1) := bX4_drop_24.2.2.2.2.1
theorem dX4_drop_31 : decode cX4_drop 31 = .ok (.arraylength, 1) := bX4_drop_24.2.2.2.2.2.1
theorem dX4_drop_32 : decode cX4_drop 32 = .ok (.iconst 1, 1) := bX4_drop_24.2.2.2.2.2.2.1
theorem dX4_drop_33 : decode cX4_drop 33 = .ok (.isub, 1) := bX4_drop_24.2.2.2.2.2.2.2.1
theorem dX4_drop_34 : decode cX4_drop 34 = .ok (.newarray .int, 2) := bX4_drop_24.2.2.2.2.2.2.2.2.1
theorem dX4_drop_36 : decode cX4_drop 36 = .ok (.astore 4, 2) := bX4_drop_24.2.2.2.2.2.2.2.2.2.1
theorem dX4_drop_38 : decode cX4_drop 38 = .ok (.iconst 0, 1) := bX4_drop_24.2.2.2.2.2.2.2.2.2.2.1
theorem dX4_drop_39 : decode cX4_drop 39 = .ok (.istore 5, 2) := bX4_drop_24.2.2.2.2.2.2.2.2.2.2.2.1
theorem dX4_drop_41 : decode cX4_drop 41 = .ok (.iload 5, 2) := bX4_drop_24.2.2.2.2.2.2.2.2.2.2.2.2.1
theorem dX4_drop_43 : decode cX4_drop 43 = .ok (.aload 4, 2) := bX4_drop_24.2.2.2.2.2.2.2.2.2.2.2.2.2.1
theorem dX4_drop_45 : decode cX4_drop 45 = .ok (.arraylength, 1) := bX4_drop_24.2.2.2.2.2.2.2.2.2.2.2.2.2.2.1
theorem dX4_drop_46 : decode cX4_drop 46 = .ok (.if_icmp .ge 29, 3) := bX4_drop_24.2.2.2.2.2.2.2.2.2.2.2.2.2.2.2
set_option maxRecDepth 100000 in
theorem bX4_drop_49 : (decode cX4_drop 49 = .ok (.aload 4, 2)) ∧ (decode cX4_drop 51 = .ok (.iload 5, 2)) ∧ (decode cX4_drop 53 = .ok (.iload 5, 2)) ∧ (decode cX4_drop 55 = .ok (.iload_n 2, 1)) ∧ (decode cX4_drop 56 = .ok (.if_icmp .ge 8, 3)) ∧ (decode cX4_drop 59 = .ok (.iload 5, 2)) ∧ (decode cX4_drop 61 = .ok (.goto 7, 3)) ∧ (decode cX4_drop 64 = .ok (.iload 5, 2)) ∧ (decode cX4_drop 66 = .ok (.iconst 1, 1)) ∧ (decode cX4_drop 67 = .ok (.iadd, 1)) ∧ (decode cX4_drop 68 = .ok (.iastore, 1)) ∧ (decode cX4_drop 69 = .ok (.iinc 5 1, 3)) ∧ (decode cX4_drop 72 = .ok (.goto (-31), 3)) ∧ (decode cX4_drop 75 = .ok (.aload_n 0, 1)) ∧ (decode cX4_drop 76 = .ok (.iload_n 1, 1)) ∧ (decode cX4_drop 77 = .ok (.aload 4, 2)) := by decide +kernel
theorem dX4_drop_49 : decode cX4_drop 49 = .ok (.aload 4, 2) := bX4_drop_49.1
theorem dX4_drop_51 : decode cX4_drop 51 = .ok (.iload 5, 2) := bX4_drop_49.2.1
theorem dX4_drop_53 : decode cX4_drop 53 = .ok (.iload 5, 2) := bX4_drop_49.2.2.1
theorem dX4_drop_55 : decode cX4_drop 55 = .ok (.iload_n 2, 1) := bX4_drop_49.2.2.2.1
theorem dX4_drop_56 : decode cX4_drop 56 = .ok (.if_icmp .ge 8, 3) := bX4_drop_49.2.2.2.2.1
theorem dX4_drop_59 : decode cX4_drop 59 = .ok (.iload 5, 2) := bX4_drop_49.2.2.2.2.2.1
theorem dX4_drop_61 : decode cX4_drop 61 = .ok (.goto 7, 3) := bX4_drop_49.2.2.2.2.2.2.1
theorem dX4_drop_64 : decode cX4_drop 64 = .ok (.iload 5, 2) := bX4_drop_49.2.2.2.2.2.2.2.1
theorem dX4_drop_66 : decode cX4_drop 66 = .ok (.iconst 1, 1) := bX4_drop_49.2.2.2.2.2.2.2.2.1
theorem dX4_drop_67 : decode cX4_drop 67 = .ok (.iadd, 1) := bX4_drop_49.2.2.2.2.2.2.2.2.2.1
theorem dX4_drop_68 : decode cX4_drop 68 = .ok (.iastore, 1) := bX4_drop_49.2.2.2.2.2.2.2.2.2.2.1
theorem dX4_drop_69 : decode cX4_drop 69 = .ok (.iinc 5 1, 3) := bX4_drop_49.2.2.2.2.2.2.2.2.2.2.2.1
theorem dX4_drop_72 : decode cX4_drop 72 = .ok (.goto (-31), 3) := bX4_drop_49.2.2.2.2.2.2.2.2.2.2.2.2.1
theorem dX4_drop_75 : decode cX4_drop 75 = .ok (.aload_n 0, 1) := bX4_drop_49.2.2.2.2.2.2.2.2.2.2.2.2.2.1
theorem dX4_drop_76 : decode cX4_drop 76 = .ok (.iload_n 1, 1) := bX4_drop_49.2.2.2.2.2.2.2.2.2.2.2.2.2.2.1
theorem dX4_drop_77 : decode cX4_drop 77 = .ok (.aload 4, 2) := bX4_drop_49.2.2.2.2.2.2.2.2.2.2.2.2.2.2.2
set_option maxRecDepth 100000 in
theorem bX4_drop_79 : (decode cX4_drop 79 = .ok (.invokevirtual 82, 3)) ∧ (decode cX4_drop 82 = .ok (.aload_n 0, 1)) ∧ (decode cX4_drop 83 = .ok (.iload_n 3, 1)) ∧ (decode cX4_drop 84 = .ok (.invokevirtual 65, 3)) ∧ (decode cX4_drop 87 = .ok (.ireturn, 1)) := by decide +kernel
theorem dX4_drop_79 : decode cX4_drop 79 = .ok (.invokevirtual 82, 3) := bX4_drop_79.1
theorem dX4_drop_82 : decode cX4_drop 82 = .ok (.aload_n 0, 1) := bX4_drop_79.2.1
theorem dX4_drop_83 : decode cX4_drop 83 = .ok (.iload_n 3, 1) := bX4_drop_79.2.2.1
theorem dX4_drop_84 : decode cX4_drop 84 = .ok (.invokevirtual 65, 3) := bX4_drop_79.2.2.2.1
theorem dX4_drop_87 : decode cX4_drop 87 = .ok (.ireturn, 1) := bX4_drop_79.2.2.2.2
set_option maxRecDepth 100000 in
theorem bX4_clear_0 : (decode cX4_clear 0 = .ok (.aload_n 0, 1)) ∧ (decode cX4_clear 1 = .ok (.iload_n 1, 1)) ∧ (decode cX4_clear 2 = .ok (.invokestatic 25, 3)) ∧ (decode cX4_clear 5 = .ok (.iconst 1, 1)) ∧ (decode cX4_clear 6 = .ok (.invokevirtual 56, 3)) ∧ (decode cX4_clear 9 = .ok (.ifCond .ne 5, 3)) ∧ (decode cX4_clear 12 = .ok (.iconst 0, 1)) ∧ (decode cX4_clear 13 = .ok (.ireturn, 1)) ∧ (decode cX4_clear 14 = .ok (.aload_n 0, 1)) ∧ (decode cX4_clear 15 = .ok (.getfield 11, 3)) ∧ (decode cX4_clear 18 = .ok (.iload_n 1, 1)) ∧ (decode cX4_clear 19 = .ok (.aaload, 1)) ∧ (decode cX4_clear 20 = .ok (.arraylength, 1)) ∧ (decode cX4_clear 21 = .ok (.istore_n 2, 1)) ∧ (decode cX4_clear 22 = .ok (.aload_n 0, 1)) ∧ (decode cX4_clear 23 = .ok (.iload_n 1, 1)) := by decide +kernel
theorem dX4_clear_0 : decode cX4_clear 0 = .ok (.aload_n 0, 1) := bX4_clear_0.1
theorem dX4_clear_1 : decode cX4_clear 1 = .ok (.iload_n 1, 1) := bX4_clear_0.2.1
theorem dX4_clear_2 : decode cX4_clear 2 = .ok (.invokestatic 25, 3) := bX4_clear_0.2.2.1
theorem dX4_clear_5 : decode cX4_clear 5 = .ok (.iconst 1, 1) := bX4_clear_0.2.2.2.1
theorem dX4_clear_6 : decode cX4_clear 6 = .ok (.invokevirtual 56, 3) := bX4_clear_0.2.2.2.2.1
theorem dX4_clear_9 : decode cX4_clear 9 = .ok (.ifCond .ne 5, 3) := bX4_clear_0.2.2.2.2.2.1
theorem dX4_clear_12 : decode cX4_clear 12 = .ok (.iconst 0, 1) := bX4_clear_0.2.2.2.2.2.2.1
theorem dX4_clear_13 : decode cX4_clear 13 = .ok (.ireturn, 1) := bX4_clear_0.2.2.2.2.2.2.2.1
theorem dX4_clear_14 : decode cX4_clear 14 = .ok (.aload_n 0, 1) := bX4_clear_0.2.2.2.2.2.2.2.2.1
theorem dX4_clear_15 : decode cX4_clear 15 = .ok (.getfield 11, 3) := bX4_clear_0.2.2.2.2.2.2.2.2.2.1
theorem dX4_clear_18 : decode cX4_clear 18 = .ok (.iload_n 1, 1) := bX4_clear_0.2.2.2.2.2.2.2.2.2.2.1
theorem dX4_clear_19 : decode cX4_clear 19 = .ok (.aaload, 1) := bX4_clear_0.2.2.2.2.2.2.2.2.2.2.2.1
theorem dX4_clear_20 : decode cX4_clear 20 = .ok (.arraylength, 1) := bX4_clear_0.2.2.2.2.2.2.2.2.2.2.2.2.1
theorem dX4_clear_21 : decode cX4_clear 21 = .ok (.istore_n 2, 1) := bX4_clear_0.2.2.2.2.2.2.2.2.2.2.2.2.2.1
theorem dX4_clear_22 : decode cX4_clear 22 = .ok (.aload_n 0, 1) := bX4_clear_0.2.2.2.2.2.2.2.2.2.2.2.2.2.2.1
theorem dX4_clear_23 : decode cX4_clear 23 = .ok (.iload_n 1, 1) := bX4_clear_0.2.2.2.2.2.2.2.2.2.2.2.2.2.2.2
set_option maxRecDepth 100000 in
theorem bX4_clear_24 : (decode cX4_clear 24 = .ok (.iconst 0, 1)) ∧ (decode cX4_clear 25 = .ok (.newarray .int, 2)) ∧ (decode cX4_clear 27 = .ok (.invokevirtual 82, 3)) ∧ (decode cX4_clear 30 = .ok (.aload_n 0, 1)) ∧ (decode cX4_clear 31 = .ok (.iload_n 2, 1)) ∧ (decode cX4_clear 32 = .ok (.invokevirtual 65, 3)) ∧ (decode cX4_clear 35 = .ok (.ireturn, 1)) := by decide +kernel
theorem dX4_clear_24 : decode cX4_clear 24 = .ok (.iconst 0, 1) := bX4_clear_24.1
theorem dX4_clear_25 : decode cX4_clear 25 = .ok (.newarray .int, 2) := bX4_clear_24.2.1
theorem dX4_clear_27 : decode cX4_clear 27 = .ok (.invokevirtual 82, 3) := bX4_clear_24.2.2.1
theorem dX4_clear_30 : decode cX4_clear 30 = .ok (.aload_n 0, 1) := bX4_clear_24.2.2.2.1
theorem dX4_clear_31 : decode cX4_clear 31 = .ok (.iload_n 2, 1) := bX4_clear_24.2.2.2.2.1
theorem dX4_clear_32 : decode cX4_clear 32 = .ok (.invokevirtual 65, 3) := bX4_clear_24.2.2.2.2.2.1
theorem dX4_clear_35 : decode cX4_clear 35 = .ok (.ireturn, 1) := bX4_clear_24.2.2.2.2.2.2
set_option maxRecDepth 100000 in
theorem bX4_change_0 : (decode cX4_change 0 = .ok (.aload_n 0, 1)) ∧ (decode cX4_change 1 = .ok (.getfield 11, 3)) ∧ (decode cX4_change 4 = .ok (.iload_n 1, 1)) ∧ (decode cX4_change 5 = .ok (.aaload, 1)) ∧ (decode cX4_change 6 = .ok (.iload_n 2, 1)) ∧ (decode cX4_change 7 = .ok (.iaload, 1)) ∧ (decode cX4_change 8 = .ok (.istore 4, 2)) ∧ (decode cX4_change 10 = .ok (.aload_n 0, 1)) ∧ (decode cX4_change 11 = .ok (.getfield 14, 3)) ∧ (decode cX4_change 14 = .ok (.iload_n 1, 1)) ∧ (decode cX4_change 15 = .ok (.aaload, 1)) ∧ (decode cX4_change 16 = .ok (.iload_n 2, 1)) ∧ (decode cX4_change 17 = .ok (.iaload, 1)) ∧ (decode cX4_change 18 = .ok (.istore 5, 2)) ∧ (decode cX4_change 20 = .ok (.aload_n 0, 1)) ∧ (decode cX4_change 21 = .ok (.getfield 11, 3)) := by decide +kernel
theorem dX4_change_0 : decode cX4_change 0 = .ok (.aload_n 0, 1) := bX4_change_0.1
theorem dX4_change_1 : decode cX4_change 1 = .ok (.getfield 11, 3) := bX4_change_0.2.1
theorem dX4_change_4 : decode cX4_change 4 = .ok (.iload_n 1, 1) := bX4_change_0.2.2.1
theorem dX4_change_5 : decode cX4_change 5 = .ok (.aaload, 1) := bX4_change_0.2.2.2.1
theorem dX4_change_6 : decode cX4_change 6 = .ok (.iload_n 2, 1) := bX4_change_0.2.2.2.2.1
theorem dX4_change_7 : decode cX4_change 7 = .ok (.iaload, 1) := bX4_change_0.2.2.2.2.2.1
theorem dX4_change_8 : decode cX4_change 8 = .ok (.istore 4, 2) := bX4_change_0.2.2.2.2.2.2.1
theorem dX4_change_10 : decode cX4_change 10 = .ok (.aload_n 0, 1) := bX4_change_0.2.2.2.2.2.2.2.1
theorem dX4_change_11 : decode cX4_change 11 = .ok (.getfield 14, 3) := bX4_change_0.2.2.2.2.2.2.2.2.1
theorem dX4_change_14 : decode cX4_change 14 = .ok (.iload_n 1, 1) := bX4_change_0.2.2.2.2.2.2.2.2.2.1
theorem dX4_change_15 : decode cX4_change 15 = .ok (.aaload, 1) := bX4_change_0.2.2.2.2.2.2.2.2.2.2.1
theorem dX4_change_16 : decode cX4_change 16 = .ok (.iload_n 2, 1) := bX4_change_0.2.2.2.2.2.2.2.2.2.2.2.1
theorem dX4_change_17 : decode cX4_change 17 = .ok (.iaload, 1) := bX4_change_0.2.2.2.2.2.2.2.2.2.2.2.2.1
theorem dX4_change_18 : decode cX4_change 18 = .ok (.istore 5, 2) := bX4_change_0.2.2.2.2.2.2.2.2.2.2.2.2.2.1
theorem dX4_change_20 : decode cX4_change 20 = .ok (.aload_n 0, 1) := bX4_change_0.2.2.2.2.2.2.2.2.2.2.2.2.2.2.1
theorem dX4_change_21 : decode cX4_change 21 = .ok (.getfield 11, 3) := bX4_change_0.2.2.2.2.2.2.2.2.2.2.2.2.2.2.2
set_option maxRecDepth 100000 in
theorem bX4_change_24 : (decode cX4_change 24 = .ok (.iload_n 1, 1)) ∧ (decode cX4_change 25 = .ok (.aaload, 1)) ∧ (decode cX4_change 26 = .ok (.iload_n 2, 1)) ∧ (decode cX4_change 27 = .ok (.aload_n 0, 1)) ∧ (decode cX4_change 28 = .ok (.getfield 11, 3)) ∧ (decode cX4_change 31 = .ok (.iload_n 1, 1)) ∧ (decode cX4_change 32 = .ok (.aaload, 1)) ∧ (decode cX4_change 33 = .ok (.iload_n 3, 1)) ∧ (decode cX4_change 34 = .ok (.iaload, 1)) ∧ (decode cX4_change 35 = .ok (.iastore, 1)) ∧ (decode cX4_change 36 = .ok (.aload_n 0, 1)) ∧ (decode cX4_change 37 = .ok (.getfield 14, 3)) ∧ (decode cX4_change 40 = .ok (.iload_n 1, 1)) ∧ (decode cX4_change 41 = .ok (.aaload, 1)) ∧ (decode cX4_change 42 = .ok (.iload_n 2, 1)) ∧ (decode cX4_change 43 = .ok (.aload_n 0, 1)) := by decide +kernel
theorem dX4_change_24 : decode cX4_change 24 = .ok (.iload_n 1, 1) := bX4_change_24.1
theorem dX4_change_25 : decode cX4_change 25 = .ok (.aaload, 1) := bX4_change_24.2.1
theorem dX4_change_26 : decode cX4_change 26 = .ok (.iload_n 2, 1) := bX4_change_24.2.2.1
theorem dX4_change_27 : decode cX4_change 27 = .ok (.aload_n 0, 1) := bX4_change_24.2.2.2.1
theorem dX4_change_28 : decode cX4_change 28 = .ok (.getfield 11, 3) := bX4_change_24.2.2.2.2.1
theorem dX4_change_31 : decode cX4_change 31 = .ok (.iload_n 1, 1) := bX4_change_24.2.2.2.2.2.1
theorem dX4_change_32 : decode cX4_change 32 = .ok (.aaload, 1) := bX4_change_24.2.2.2.2.2.2.1
theorem dX4_change_33 : decode cX4_change 33 = .ok (.iload_n 3, 1) := bX4_change_24.2.2.2.2.2.2.2.1
theorem dX4_change_34 : decode cX4_change 34 = .ok (.iaload, 1) := bX4_change_24.2.2.2.2.2.2.2.2.1
theorem dX4_change_35 : decode cX4_change 35 = .ok (.iastore, 1) := bX4_change_24.2.2.2.2.2.2.2.2.2.1
theorem dX4_change_36 : decode cX4_change 36 = .ok (.aload_n 0, 1) := bX4_change_24.2.2.2.2.2.2.2.2.2.2.1
theorem dX4_change_37 : decode cX4_change 37 = .ok (.getfield 14, 3) := bX4_change_24.2.2.2.2.2.2.2.2.2.2.2.1
theorem dX4_change_40 : decode cX4_change 40 = .ok (.iload_n 1, 1) := bX4_change_24.2.2.2.2.2.2.2.2.2.2.2.2.1
theorem dX4_change_41 : decode cX4_change 41 = .ok (.aaload, 1) := bX4_change_24.2.2.2.2.2.2.2.2.2.2.2.2.2.1
theorem dX4_change_42 : decode cX4_change 42 = .ok (.iload_n 2, 1) := bX4_change_24.2.2.2.2.2.2.2.2.2.2.2.2.2.2.1
theorem dX4_change_43 : decode cX4_change 43 = .ok (.aload_n 0, 1) := bX4_change_24.2.2.2.2.2.2.2.2.2.2.2.2.2.2.2
set_option maxRecDepth 100000 in
theorem bX4_change_44 : (decode cX4_change 44 = .ok (.getfield 14, 3)) ∧ (decode cX4_change 47 = .ok (.iload_n 1, 1)) ∧ (decode cX4_change 48 = .ok (.aaload, 1)) ∧ (decode cX4_change 49 = .ok (.iload_n 3, 1)) ∧ (decode cX4_change 50 = .ok (.iaload, 1)) ∧ (decode cX4_change 51 = .ok (.iastore, 1)) ∧ (decode cX4_change 52 = .ok (.aload_n 0, 1)) ∧ (decode cX4_change 53 = .ok (.getfield 11, 3)) ∧ (decode cX4_change 56 = .ok (.iload_n 1, 1)) ∧ (decode cX4_change 57 = .ok (.aaload, 1)) ∧ (decode cX4_change 58 = .ok (.iload_n 3, 1)) ∧ (decode cX4_change 59 = .ok (.iload 4, 2)) ∧ (decode cX4_change 61 = .ok (.iastore, 1)) ∧ (decode cX4_change 62 = .ok (.aload_n 0, 1)) ∧ (decode cX4_change 63 = .ok (.getfield 14, 3)) ∧ (decode cX4_change 66 = .ok (.iload_n 1, 1)) := by decide +kernel
theorem dX4_change_44 : decode cX4_change 44 = .ok (.getfield 14, 3) := bX4_change_44.1
theorem dX4_change_47 : decode cX4_change 47 = .ok (.iload_n 1, 1) := bX4_change_44.2.1
theorem dX4_change_48 : decode cX4_change 48 = .ok (.aaload, 1) := bX4_change_44.2.2.1
theorem dX4_change_49 : decode cX4_change 49 = .ok (.iload_n 3, 1) := bX4_change_44.2.2.2.1
theorem dX4_change_50 : decode cX4_change 50 = .ok (.iaload, 1) := bX4_change_44.2.2.2.2.1
theorem dX4_change_51 : decode cX4_change 51 = .ok (.iastore, 1) := bX4_change_44.2.2.2.2.2.1
theorem dX4_change_52 : decode cX4_change 52 = .ok (.aload_n 0, 1) := bX4_change_44.2.2.2.2.2.2.1
theorem dX4_change_53 : decode cX4_change 53 = .ok (.getfield 11, 3) := bX4_change_44.2.2.2.2.2.2.2.1
theorem dX4_change_56 : decode cX4_change 56 = .ok (.iload_n 1, 1) := bX4_change_44.2.2.2.2.2.2.2.2.1
theorem dX4_change_57 : decode cX4_change 57 = .ok (.aaload, 1) := bX4_change_44.2.2.2.2.2.2.2.2.2.1
theorem dX4_change_58 : decode cX4_change 58 = .ok (.iload_n 3, 1) := bX4_change_44.2.2.2.2.2.2.2.2.2.2.1
theorem dX4_change_59 : decode cX4_change 59 = .ok (.iload 4, 2) := bX4_change_44.2.2.2.2.2.2.2.2.2.2.2.1
theorem dX4_change_61 : decode cX4_change 61 = .ok (.iastore, 1) := bX4_change_44.2.2.2.2.2.2.2.2.2.2.2.2.1
theorem dX4_change_62 : decode cX4_change 62 = .ok (.aload_n 0, 1) := bX4_change_44.2.2.2.2.2.2.2.2.2.2.2.2.2.1
theorem dX4_change_63 : decode cX4_change 63 = .ok (.getfield 14, 3) := bX4_change_44.2.2.2.2.2.2.2.2.2.2.2.2.2.2.1
theorem dX4_change_66 : decode cX4_change 66 = .ok (.iload_n 1, 1) := bX4_change_44.2.2.2.2.2.2.2.2.2.2.2.2.2.2.2
set_option maxRecDepth 100000 in
theorem bX4_change_67 : (decode cX4_change 67 = .ok (.aaload, 1)) ∧ (decode cX4_change 68 = .ok (.iload_n 3, 1)) ∧ (decode cX4_change 69 = .ok (.iload 5, 2)) ∧ (decode cX4_change 71 = .ok (.iastore, 1)) ∧ (decode cX4_change 72 = .ok (.return_, 1)) := by decide +kernel
theorem dX4_change_67 : decode cX4_change 67 = .ok (.aaload, 1) := bX4_change_67.1
theorem dX4_change_68 : decode cX4_change 68 = .ok (.iload_n 3, 1) := bX4_change_67.2.1
theorem dX4_change_69 : decode cX4_change 69 = .ok (.iload 5, 2) := bX4_change_67.2.2.1
theorem dX4_change_71 : decode cX4_change 71 = .ok (.iastore, 1) := bX4_change_67.2.2.2.1
theorem dX4_change_72 : decode cX4_change 72 = .ok (.return_, 1) := bX4_change_67.2.2.2.2
set_option maxRecDepth 100000 in
theorem bX4_exchange_0 : (decode cX4_exchange 0 = .ok (.aload_n 0, 1)) ∧ (decode cX4_exchange 1 = .ok (.aload_n 0, 1)) ∧ (decode cX4_exchange 2 = .ok (.iload_n 1, 1)) ∧ (decode cX4_exchange 3 = .ok (.iload_n 2, 1)) ∧ (decode cX4_exchange 4 = .ok (.invokevirtual 78, 3)) ∧ (decode cX4_exchange 7 = .ok (.ifCond .eq 18, 3)) ∧ (decode cX4_exchange 10 = .ok (.aload_n 0, 1)) ∧ (decode cX4_exchange 11 = .ok (.iload_n 1, 1)) ∧ (decode cX4_exchange 12 = .ok (.iload_n 2, 1)) ∧ (decode cX4_exchange 13 = .ok (.iconst 1, 1)) ∧ (decode cX4_exchange 14 = .ok (.iadd, 1)) ∧ (decode cX4_exchange 15 = .ok (.invokevirtual 78, 3)) ∧ (decode cX4_exchange 18 = .ok (.ifCond .eq 7, 3)) ∧ (decode cX4_exchange 21 = .ok (.iconst 1, 1)) ∧ (decode cX4_exchange 22 = .ok (.goto 4, 3)) ∧ (decode cX4_exchange 25 = .ok (.iconst 0, 1)) := by decide +kernel
theorem dX4_exchange_0 : decode cX4_exchange 0 = .ok (.aload_n 0, 1) := bX4_exchange_0.1
theorem dX4_exchange_1 : decode cX4_exchange 1 = .ok (.aload_n 0, 1) := bX4_exchange_0.2.1
theorem dX4_exchange_2 : decode cX4_exchange 2 = .ok (.iload_n 1, 1) := bX4_exchange_0.2.2.1
theorem dX4_exchange_3 : decode cX4_exchange 3 = .ok (.iload_n 2, 1) := bX4_exchange_0.2.2.2.1
theorem dX4_exchange_4 : decode cX4_exchange 4 = .ok (.invokevirtual 78, 3) := bX4_exchange_0.2.2.2.2.1
theorem dX4_exchange_7 : decode cX4_exchange 7 = .ok (.ifCond .eq 18, 3) := bX4_exchange_0.2.2.2.2.2.1
theorem dX4_exchange_10 : decode cX4_exchange 10 = .ok (.aload_n 0, 1) := bX4_exchange_0.2.2.2.2.2.2.1
theorem dX4_exchange_11 : decode cX4_exchange 11 = .ok (.iload_n 1, 1) := bX4_exchange_0.2.2.2.2.2.2.2.1
theorem dX4_exchange_12 : decode cX4_exchange 12 = .ok (.iload_n 2, 1) := bX4_exchange_0.2.2.2.2.2.2.2.2.1
theorem dX4_exchange_13 : decode cX4_exchange 13 = .ok (.iconst 1, 1) := bX4_exchange_0.2.2.2.2.2.2.2.2.2.1
theorem dX4_exchange_14 : decode cX4_exchange 14 = .ok (.iadd, 1) := bX4_exchange_0.2.2.2.2.2.2.2.2.2.2.1
theorem dX4_exchange_15 : decode cX4_exchange 15 = .ok (.invokevirtual 78, 3) := bX4_exchange_0.2.2.2.2.2.2.2.2.2.2.2.1
theorem dX4_exchange_18 : decode cX4_exchange 18 = .ok (.ifCond .eq 7, 3) := bX4_exchange_0.2.2.2.2.2.2.2.2.2.2.2.2.1
theorem dX4_exchange_21 : decode cX4_exchange 21 = .ok (.iconst 1, 1) := bX4_exchange_0.2.2.2.2.2.2.2.2.2.2.2.2.2.1
theorem dX4_exchange_22 : decode cX4_exchange 22 = .ok (.goto 4, 3) := bX4_exchange_0.2.2.2.2.2.2.2.2.2.2.2.2.2.2.1
theorem dX4_exchange_25 : decode cX4_exchange 25 = .ok (.iconst 0, 1) := bX4_exchange_0.2.2.2.2.2.2.2.2.2.2.2.2.2.2.2
set_option maxRecDepth 100000 in
theorem bX4_exchange_26 : (decode cX4_exchange 26 = .ok (.iconst 1, 1)) ∧ (decode cX4_exchange 27 = .ok (.invokevirtual 56, 3)) ∧ (decode cX4_exchange 30 = .ok (.ifCond .ne 5, 3)) ∧ (decode cX4_exchange 33 = .ok (.iconst 0, 1)) ∧ (decode cX4_exchange 34 = .ok (.ireturn, 1)) ∧ (decode cX4_exchange 35 = .ok (.aload_n 0, 1)) ∧ (decode cX4_exchange 36 = .ok (.iload_n 1, 1)) ∧ (decode cX4_exchange 37 = .ok (.iconst 1, 1)) ∧ (decode cX4_exchange 38 = .ok (.invokevirtual 86, 3)) ∧ (decode cX4_exchange 41 = .ok (.istore_n 3, 1)) ∧ (decode cX4_exchange 42 = .ok (.aload_n 0, 1)) ∧ (decode cX4_exchange 43 = .ok (.iload_n 1, 1)) ∧ (decode cX4_exchange 44 = .ok (.iload_n 2, 1)) ∧ (decode cX4_exchange 45 = .ok (.iload_n 2, 1)) ∧ (decode cX4_exchange 46 = .ok (.iconst 1, 1)) ∧ (decode cX4_exchange 47 = .ok (.iadd, 1)) := by decide +kernel
theorem dX4_exchange_26 : decode cX4_exchange 26 = .ok (.iconst 1, 1) := bX4_exchange_26.1
theorem dX4_exchange_27 : decode cX4_exchange 27 = .ok (.invokevirtual 56, 3) := bX4_exchange_26.2.1
theorem dX4_exchange_30 : decode cX4_exchange 30 = .ok (.ifCond .ne 5, 3) := bX4_exchange_26.2.2.1
theorem dX4_exchange_33 : decode cX4_exchange 33 = .ok (.iconst 0, 1) := bX4_exchange_26.2.2.2.1
theorem dX4_exchange_34 : decode cX4_exchange 34 = .ok (.ireturn, 1) := bX4_exchange_26.2.2.2.2.1
theorem dX4_exchange_35 : decode cX4_exchange 35 = .ok (.aload_n 0, 1) := bX4_exchange_26.2.2.2.2.2.1
theorem dX4_exchange_36 : decode cX4_exchange 36 = .ok (.iload_n 1, 1) := bX4_exchange_26.2.2.2.2.2.2.1
theorem dX4_exchange_37 : decode cX4_exchange 37 = .ok (.iconst 1, 1) := bX4_exchange_26.2.2.2.2.2.2.2.1
theorem dX4_exchange_38 : decode cX4_exchange 38 = .ok (.invokevirtual 86, 3) := bX4_exchange_26.2.2.2.2.2.2.2.2.1
theorem dX4_exchange_41 : decode cX4_exchange 41 = .ok (.istore_n 3, 1) := bX4_exchange_26.2.2.2.2.2.2.2.2.2.1
theorem dX4_exchange_42 : decode cX4_exchange 42 = .ok (.aload_n 0, 1) := bX4_exchange_26.2.2.2.2.2.2.2.2.2.2.1
theorem dX4_exchange_43 : decode cX4_exchange 43 = .ok (.iload_n 1, 1) := bX4_exchange_26.2.2.2.2.2.2.2.2.2.2.2.1
theorem dX4_exchange_44 : decode cX4_exchange 44 = .ok (.iload_n 2, 1) := bX4_exchange_26.2.2.2.2.2.2.2.2.2.2.2.2.1
theorem dX4_exchange_45 : decode cX4_exchange 45 = .ok (.iload_n 2, 1) := bX4_exchange_26.2.2.2.2.2.2.2.2.2.2.2.2.2.1
theorem dX4_exchange_46 : decode cX4_exchange 46 = .ok (.iconst 1, 1) := bX4_exchange_26.2.2.2.2.2.2.2.2.2.2.2.2.2.2.1
theorem dX4_exchange_47 : decode cX4_exchange 47 = .ok (.iadd, 1) := bX4_exchange_26.2.2.2.2.2.2.2.2.2.2.2.2.2.2.2
set_option maxRecDepth 100000 in
theorem bX4_exchange_48 : (decode cX4_exchange 48 = .ok (.invokevirtual 89, 3)) ∧ (decode cX4_exchange 51 = .ok (.aload_n 0, 1)) ∧ (decode cX4_exchange 52 = .ok (.aload_n 0, 1)) ∧ (decode cX4_exchange 53 = .ok (.iload_n 1, 1)) ∧ (decode cX4_exchange 54 = .ok (.iconst 1, 1)) ∧ (decode cX4_exchange 55 = .ok (.invokevirtual 86, 3)) ∧ (decode cX4_exchange 58 = .ok (.iload_n 3, 1)) ∧ (decode cX4_exchange 59 = .ok (.isub, 1)) ∧ (decode cX4_exchange 60 = .ok (.invokevirtual 65, 3)) ∧ (decode cX4_exchange 63 = .ok (.ireturn, 1)) := by decide +kernel
theorem dX4_exchange_48 : decode cX4_exchange 48 = .ok (.invokevirtual 89, 3) := bX4_exchange_48.1
theorem dX4_exchange_51 : decode cX4_exchange 51 = .ok (.aload_n 0, 1) := bX4_exchange_48.2.1
theorem dX4_exchange_52 : decode cX4_exchange 52 = .ok (.aload_n 0, 1) := bX4_exchange_48.2.2.1
theorem dX4_exchange_53 : decode cX4_exchange 53 = .ok (.iload_n 1, 1) := bX4_exchange_48.2.2.2.1
theorem dX4_exchange_54 : decode cX4_exchange 54 = .ok (.iconst 1, 1) := bX4_exchange_48.2.2.2.2.1
theorem dX4_exchange_55 : decode cX4_exchange 55 = .ok (.invokevirtual 86, 3) := bX4_exchange_48.2.2.2.2.2.1
theorem dX4_exchange_58 : decode cX4_exchange 58 = .ok (.iload_n 3, 1) := bX4_exchange_48.2.2.2.2.2.2.1
theorem dX4_exchange_59 : decode cX4_exchange 59 = .ok (.isub, 1) := bX4_exchange_48.2.2.2.2.2.2.2.1
theorem dX4_exchange_60 : decode cX4_exchange 60 = .ok (.invokevirtual 65, 3) := bX4_exchange_48.2.2.2.2.2.2.2.2.1
theorem dX4_exchange_63 : decode cX4_exchange 63 = .ok (.ireturn, 1) := bX4_exchange_48.2.2.2.2.2.2.2.2.2
set_option maxRecDepth 100000 in
theorem bX4_swap_0 : (decode cX4_swap 0 = .ok (.aload_n 0, 1)) ∧ (decode cX4_swap 1 = .ok (.aload_n 0, 1)) ∧ (decode cX4_swap 2 = .ok (.iload_n 1, 1)) ∧ (decode cX4_swap 3 = .ok (.iload_n 2, 1)) ∧ (decode cX4_swap 4 = .ok (.invokevirtual 78, 3)) ∧ (decode cX4_swap 7 = .ok (.ifCond .eq 16, 3)) ∧ (decode cX4_swap 10 = .ok (.aload_n 0, 1)) ∧ (decode cX4_swap 11 = .ok (.iload_n 1, 1)) ∧ (decode cX4_swap 12 = .ok (.iload_n 3, 1)) ∧ (decode cX4_swap 13 = .ok (.invokevirtual 78, 3)) ∧ (decode cX4_swap 16 = .ok (.ifCond .eq 7, 3)) ∧ (decode cX4_swap 19 = .ok (.iconst 1, 1)) ∧ (decode cX4_swap 20 = .ok (.goto 4, 3)) ∧ (decode cX4_swap 23 = .ok (.iconst 0, 1)) ∧ (decode cX4_swap 24 = .ok (.iconst 1, 1)) ∧ (decode cX4_swap 25 = .ok (.invokevirtual 56, 3)) := by decide +kernel
theorem dX4_swap_0 : decode cX4_swap 0 = .ok (.aload_n 0, 1) := bX4_swap_0.1
theorem dX4_swap_1 : decode cX4_swap 1 = .ok (.aload_n 0, 1) := bX4_swap_0.2.1
theorem dX4_swap_2 : decode cX4_swap 2 = .ok (.iload_n 1, 1) := bX4_swap_0.2.2.1
theorem dX4_swap_3 : decode cX4_swap 3 = .ok (.iload_n 2, 1) := bX4_swap_0.2.2.2.1
theorem dX4_swap_4 : decode cX4_swap 4 = .ok (.invokevirtual 78, 3) := bX4_swap_0.2.2.2.2.1
theorem dX4_swap_7 : decode cX4_swap 7 = .ok (.ifCond .eq 16, 3) := bX4_swap_0.2.2.2.2.2.1
theorem dX4_swap_10 : decode cX4_swap 10 = .ok (.aload_n 0, 1) := bX4_swap_0.2.2.2.2.2.2.1
theorem dX4_swap_11 : decode cX4_swap 11 = .ok (.iload_n 1, 1) := bX4_swap_0.2.2.2.2.2.2.2.1
theorem dX4_swap_12 : decode cX4_swap 12 = .ok (.iload_n 3, 1) := bX4_swap_0.2.2.2.2.2.2.2.2.1
theorem dX4_swap_13 : decode cX4_swap 13 = .ok (.invokevirtual 78, 3) := bX4_swap_0.2.2.2.2.2.2.2.2.2.1
theorem dX4_swap_16 : decode cX4_swap 16 = .ok (.ifCond .eq 7, 3) := bX4_swap_0.2.2.2.2.2.2.2.2.2.2.1
theorem dX4_swap_19 : decode cX4_swap 19 = .ok (.iconst 1, 1) := bX4_swap_0.2.2.2.2.2.2.2.2.2.2.2.1
theorem dX4_swap_20 : decode cX4_swap 20 = .ok (.goto 4, 3) := bX4_swap_0.2.2.2.2.2.2.2.2.2.2.2.2.1
theorem dX4_swap_23 : decode cX4_swap 23 = .ok (.iconst 0, 1) := bX4_swap_0.2.2.2.2.2.2.2.2.2.2.2.2.2.1
theorem dX4_swap_24 : decode cX4_swap 24 = .ok (.iconst 1, 1) := bX4_swap_0.2.2.2.2.2.2.2.2.2.2.2.2.2.2.1
theorem dX4_swap_25 : decode cX4_swap 25 = .ok (.invokevirtual 56, 3) := bX4_swap_0.2.2.2.2.2.2.2.2.2.2.2.2.2.2.2
set_option maxRecDepth 100000 in
theorem bX4_swap_28 : (decode cX4_swap 28 = .ok (.ifCond .ne 5, 3)) ∧ (decode cX4_swap 31 = .ok (.iconst 0, 1)) ∧ (decode cX4_swap 32 = .ok (.ireturn, 1)) ∧ (decode cX4_swap 33 = .ok (.aload_n 0, 1)) ∧ (decode cX4_swap 34 = .ok (.iload_n 1, 1)) ∧ (decode cX4_swap 35 = .ok (.iload_n 2, 1)) ∧ (decode cX4_swap 36 = .ok (.iload_n 3, 1)) ∧ (decode cX4_swap 37 = .ok (.invokevirtual 89, 3)) ∧ (decode cX4_swap 40 = .ok (.aload_n 0, 1)) ∧ (decode cX4_swap 41 = .ok (.aload_n 0, 1)) ∧ (decode cX4_swap 42 = .ok (.getfield 11, 3)) ∧ (decode cX4_swap 45 = .ok (.iload_n 1, 1)) ∧ (decode cX4_swap 46 = .ok (.aaload, 1)) ∧ (decode cX4_swap 47 = .ok (.iload_n 2, 1)) ∧ (decode cX4_swap 48 = .ok (.iaload, 1)) ∧ (decode cX4_swap 49 = .ok (.aload_n 0, 1)) := by decide +kernel
theorem dX4_swap_28 : decode cX4_swap 28 = .ok (.ifCond .ne 5, 3) := bX4_swap_28.1
theorem dX4_swap_31 : decode cX4_swap 31 = .ok (.iconst 0, 1) := bX4_swap_28.2.1
theorem dX4_swap_32 : decode cX4_swap 32 = .ok (.ireturn, 1) := bX4_swap_28.2.2.1
theorem dX4_swap_33 : decode cX4_swap 33 = .ok (.aload_n 0, 1) := bX4_swap_28.2.2.2.1
theorem dX4_swap_34 : decode cX4_swap 34 = .ok (.iload_n 1, 1) := bX4_swap_28.2.2.2.2.1
theorem dX4_swap_35 : decode cX4_swap 35 = .ok (.iload_n 2, 1) := bX4_swap_28.2.2.2.2.2.1
theorem dX4_swap_36 : decode cX4_swap 36 = .ok (.iload_n 3, 1) := bX4_swap_28.2.2.2.2.2.2.1
theorem dX4_swap_37 : decode cX4_swap 37 = .ok (.invokevirtual 89, 3) := bX4_swap_28.2.2.2.2.2.2.2.1
theorem dX4_swap_40 : decode cX4_swap 40 = .ok (.aload_n 0, 1) := bX4_swap_28.2.2.2.2.2.2.2.2.1
theorem dX4_swap_41 : decode cX4_swap 41 = .ok (.aload_n 0, 1) := bX4_swap_28.2.2.2.2.2.2.2.2.2.1
theorem dX4_swap_42 : decode cX4_swap 42 = .ok (.getfield 11, 3) := bX4_swap_28.2.2.2.2.2.2.2.2.2.2.1
theorem dX4_swap_45 : decode cX4_swap 45 = .ok (.iload_n 1, 1) := bX4_swap_28.2.2.2.2.2.2.2.2.2.2.2.1
theorem dX4_swap_46 : decode cX4_swap 46 = .ok (.aaload, 1) := bX4_swap_28.2.2.2.2.2.2.2.2.2.2.2.2.1
theorem dX4_swap_47 : decode cX4_swap 47 = .ok (.iload_n 2, 1) := bX4_swap_28.2.2.2.2.2.2.2.2.2.2.2.2.2.1
theorem dX4_swap_48 : decode cX4_swap 48 = .ok (.iaload, 1) := bX4_swap_28.2.2.2.2.2.2.2.2.2.2.2.2.2.2.1
theorem dX4_swap_49 : decode cX4_swap 49 = .ok (.aload_n 0, 1) := bX4_swap_28.2.2.2.2.2.2.2.2.2.2.2.2.2.2.2
set_option maxRecDepth 100000 in
theorem bX4_swap_50 : (decode cX4_swap 50 = .ok (.getfield 11, 3)) ∧ (decode cX4_swap 53 = .ok (.iload_n 1, 1)) ∧ (decode cX4_swap 54 = .ok (.aaload, 1)) ∧ (decode cX4_swap 55 = .ok (.iload_n 3, 1)) ∧ (decode cX4_swap 56 = .ok (.iaload, 1)) ∧ (decode cX4_swap 57 = .ok (.if_icmp .ne 7, 3)) ∧ (decode cX4_swap 60 = .ok (.iconst 0, 1)) ∧ (decode cX4_swap 61 = .ok (.goto 4, 3)) ∧ (decode cX4_swap 64 = .ok (.iconst 1, 1)) ∧ (decode cX4_swap 65 = .ok (.invokevirtual 65, 3)) ∧ (decode cX4_swap 68 = .ok (.ireturn, 1)) := by decide +kernel
theorem dX4_swap_50 : decode cX4_swap 50 = .ok (.getfield 11, 3) := bX4_swap_50.1
theorem dX4_swap_53 : decode cX4_swap 53 = .ok (.iload_n 1, 1) := bX4_swap_50.2.1
theorem dX4_swap_54 : decode cX4_swap 54 = .ok (.aaload, 1) := bX4_swap_50.2.2.1
theorem dX4_swap_55 : decode cX4_swap 55 = .ok (.iload_n 3, 1) := bX4_swap_50.2.2.2.1
theorem dX4_swap_56 : decode cX4_swap 56 = .ok (.iaload, 1) := bX4_swap_50.2.2.2.2.1
theorem dX4_swap_57 : decode cX4_swap 57 = .ok (.if_icmp .ne 7, 3) := bX4_swap_50.2.2.2.2.2.1
theorem dX4_swap_60 : decode cX4_swap 60 = .ok (.iconst 0, 1) := bX4_swap_50.2.2.2.2.2.2.1
theorem dX4_swap_61 : decode cX4_swap 61 = .ok (.goto 4, 3) := bX4_swap_50.2.2.2.2.2.2.2.1
theorem dX4_swap_64 : decode cX4_swap 64 = .ok (.iconst 1, 1) := bX4_swap_50.2.2.2.2.2.2.2.2.1
theorem dX4_swap_65 : decode cX4_swap 65 = .ok (.invokevirtual 65, 3) := bX4_swap_50.2.2.2.2.2.2.2.2.2.1
theorem dX4_swap_68 : decode cX4_swap 68 = .ok (.ireturn, 1) := bX4_swap_50.2.2.2.2.2.2.2.2.2.2
set_option maxRecDepth 100000 in
theorem bX4_ordered_0 : (decode cX4_ordered 0 = .ok (.aload_n 0, 1)) ∧ (decode cX4_ordered 1 = .ok (.getfield 11, 3)) ∧ (decode cX4_ordered 4 = .ok (.iload_n 1, 1)) ∧ (decode cX4_ordered 5 = .ok (.aaload, 1)) ∧ (decode cX4_ordered 6 = .ok (.astore_n 3, 1)) ∧ (decode cX4_ordered 7 = .ok (.aload_n 0, 1)) ∧ (decode cX4_ordered 8 = .ok (.iload_n 1, 1)) ∧ (decode cX4_ordered 9 = .ok (.aload_n 2, 1)) ∧ (decode cX4_ordered 10 = .ok (.invokevirtual 82, 3)) ∧ (decode cX4_ordered 13 = .ok (.aload_n 0, 1)) ∧ (decode cX4_ordered 14 = .ok (.aload_n 3, 1)) ∧ (decode cX4_ordered 15 = .ok (.aload_n 0, 1)) ∧ (decode cX4_ordered 16 = .ok (.getfield 11, 3)) ∧ (decode cX4_ordered 19 = .ok (.iload_n 1, 1)) ∧ (decode cX4_ordered 20 = .ok (.aaload, 1)) ∧ (decode cX4_ordered 21 = .ok (.invokestatic 93, 3)) := by decide +kernel
theorem dX4_ordered_0 : decode cX4_ordered 0 = .ok (.aload_n 0, 1) := bX4_ordered_0.1
theorem dX4_ordered_1 : decode cX4_ordered 1 = .ok (.getfield 11, 3) := bX4_ordered_0.2.1
theorem dX4_ordered_4 : decode cX4_ordered 4 = .ok (.iload_n 1, 1) := bX4_ordered_0.2.2.1
theorem dX4_ordered_5 : decode cX4_ordered 5 = .ok (.aaload, 1) := bX4_ordered_0.2.2.2.1
theorem dX4_ordered_6 : decode cX4_ordered 6 = .ok (.astore_n 3, 1) := bX4_ordered_0.2.2.2.2.1
theorem dX4_ordered_7 : decode cX4_ordered 7 = .ok (.aload_n 0, 1) := bX4_ordered_0.2.2.2.2.2.1
theorem dX4_ordered_8 : decode cX4_ordered 8 = .ok (.iload_n 1, 1) := bX4_ordered_0.2.2.2.2.2.2.1
theorem dX4_ordered_9 : decode cX4_ordered 9 = .ok (.aload_n 2, 1) := bX4_ordered_0.2.2.2.2.2.2.2.1
theorem dX4_ordered_10 : decode cX4_ordered 10 = .ok (.invokevirtual 82, 3) := bX4_ordered_0.2.2.2.2.2.2.2.2.1
theorem dX4_ordered_13 : decode cX4_ordered 13 = .ok (.aload_n 0, 1) := bX4_ordered_0.2.2.2.2.2.2.2.2.2.1
theorem dX4_ordered_14 : decode cX4_ordered 14 = .ok (.aload_n 3, 1) := bX4_ordered_0.2.2.2.2.2.2.2.2.2.2.1
theorem dX4_ordered_15 : decode cX4_ordered 15 = .ok (.aload_n 0, 1) := bX4_ordered_0.2.2.2.2.2.2.2.2.2.2.2.1
theorem dX4_ordered_16 : decode cX4_ordered 16 = .ok (.getfield 11, 3) := bX4_ordered_0.2.2.2.2.2.2.2.2.2.2.2.2.1
theorem dX4_ordered_19 : decode cX4_ordered 19 = .ok (.iload_n 1, 1) := bX4_ordered_0.2.2.2.2.2.2.2.2.2.2.2.2.2.1
theorem dX4_ordered_20 : decode cX4_ordered 20 = .ok (.aaload, 1) := bX4_ordered_0.2.2.2.2.2.2.2.2.2.2.2.2.2.2.1
theorem dX4_ordered_21 : decode cX4_ordered 21 = .ok (.invokestatic 93, 3) := bX4_ordered_0.2.2.2.2.2.2.2.2.2.2.2.2.2.2.2
set_option maxRecDepth 100000 in
theorem bX4_ordered_24 : (decode cX4_ordered 24 = .ok (.invokevirtual 65, 3)) ∧ (decode cX4_ordered 27 = .ok (.ireturn, 1)) := by decide +kernel
theorem dX4_ordered_24 : decode cX4_ordered 24 = .ok (.invokevirtual 65, 3) := bX4_ordered_24.1
theorem dX4_ordered_27 : decode cX4_ordered 27 = .ok (.ireturn, 1) := bX4_ordered_24.2
set_option maxRecDepth 100000 in
theorem bX4_turn_0 : (decode cX4_turn 0 = .ok (.aload_n 0, 1)) ∧ (decode cX4_turn 1 = .ok (.iload_n 1, 1)) ∧ (decode cX4_turn 2 = .ok (.invokestatic 25, 3)) ∧ (decode cX4_turn 5 = .ok (.iconst 1, 1)) ∧ (decode cX4_turn 6 = .ok (.invokevirtual 56, 3)) ∧ (decode cX4_turn 9 = .ok (.ifCond .ne 5, 3)) ∧ (decode cX4_turn 12 = .ok (.iconst 0, 1)) ∧ (decode cX4_turn 13 = .ok (.ireturn, 1)) ∧ (decode cX4_turn 14 = .ok (.aload_n 0, 1)) ∧ (decode cX4_turn 15 = .ok (.getfield 11, 3)) ∧ (decode cX4_turn 18 = .ok (.iload_n 1, 1)) ∧ (decode cX4_turn 19 = .ok (.aaload, 1)) ∧ (decode cX4_turn 20 = .ok (.arraylength, 1)) ∧ (decode cX4_turn 21 = .ok (.newarray .int, 2)) ∧ (decode cX4_turn 23 = .ok (.astore_n 2, 1)) ∧ (decode cX4_turn 24 = .ok (.iconst 0, 1)) := by decide +kernel
theorem dX4_turn_0 : decode cX4_turn 0 = .ok (.aload_n 0, 1) := bX4_turn_0.1
theorem dX4_turn_1 : decode cX4_turn 1 = .ok (.iload_n 1, 1) := bX4_turn_0.2.1
theorem dX4_turn_2 : decode cX4_turn 2 = .ok (.invokestatic 25, 3) := bX4_turn_0.2.2.1
theorem dX4_turn_5 : decode cX4_turn 5 = .ok (.iconst 1, 1) := bX4_turn_0.2.2.2.1
theorem dX4_turn_6 : decode cX4_turn 6 = .ok (.invokevirtual 56, 3) := bX4_turn_0.2.2.2.2.1
theorem dX4_turn_9 : decode cX4_turn 9 = .ok (.ifCond .ne 5, 3) := bX4_turn_0.2.2.2.2.2.1
theorem dX4_turn_12 : decode cX4_turn 12 = .ok (.iconst 0, 1) := bX4_turn_0.2.2.2.2.2.2.1
theorem dX4_turn_13 : decode cX4_turn 13 = .ok (.ireturn, 1) := bX4_turn_0.2.2.2.2.2.2.2.1
theorem dX4_turn_14 : decode cX4_turn 14 = .ok (.aload_n 0, 1) := bX4_turn_0.2.2.2.2.2.2.2.2.1
theorem dX4_turn_15 : decode cX4_turn 15 = .ok (.getfield 11, 3) := bX4_turn_0.2.2.2.2.2.2.2.2.2.1
theorem dX4_turn_18 : decode cX4_turn 18 = .ok (.iload_n 1, 1) := bX4_turn_0.2.2.2.2.2.2.2.2.2.2.1
theorem dX4_turn_19 : decode cX4_turn 19 = .ok (.aaload, 1) := bX4_turn_0.2.2.2.2.2.2.2.2.2.2.2.1
theorem dX4_turn_20 : decode cX4_turn 20 = .ok (.arraylength, 1) := bX4_turn_0.2.2.2.2.2.2.2.2.2.2.2.2.1
theorem dX4_turn_21 : decode cX4_turn 21 = .ok (.newarray .int, 2) := bX4_turn_0.2.2.2.2.2.2.2.2.2.2.2.2.2.1
theorem dX4_turn_23 : decode cX4_turn 23 = .ok (.astore_n 2, 1) := bX4_turn_0.2.2.2.2.2.2.2.2.2.2.2.2.2.2.1
theorem dX4_turn_24 : decode cX4_turn 24 = .ok (.iconst 0, 1) := bX4_turn_0.2.2.2.2.2.2.2.2.2.2.2.2.2.2.2
set_option maxRecDepth 100000 in
theorem bX4_turn_25 : (decode cX4_turn 25 = .ok (.istore_n 3, 1)) ∧ (decode cX4_turn 26 = .ok (.iload_n 3, 1)) ∧ (decode cX4_turn 27 = .ok (.aload_n 2, 1)) ∧ (decode cX4_turn 28 = .ok (.arraylength, 1)) ∧ (decode cX4_turn 29 = .ok (.if_icmp .ge 18, 3)) ∧ (decode cX4_turn 32 = .ok (.aload_n 2, 1)) ∧ (decode cX4_turn 33 = .ok (.iload_n 3, 1)) ∧ (decode cX4_turn 34 = .ok (.aload_n 2, 1)) ∧ (decode cX4_turn 35 = .ok (.arraylength, 1)) ∧ (decode cX4_turn 36 = .ok (.iconst 1, 1)) ∧ (decode cX4_turn 37 = .ok (.isub, 1)) ∧ (decode cX4_turn 38 = .ok (.iload_n 3, 1)) ∧ (decode cX4_turn 39 = .ok (.isub, 1)) ∧ (decode cX4_turn 40 = .ok (.iastore, 1)) ∧ (decode cX4_turn 41 = .ok (.iinc 3 1, 3)) ∧ (decode cX4_turn 44 = .ok (.goto (-18), 3)) := by decide +kernel
theorem dX4_turn_25 : decode cX4_turn 25 = .ok (.istore_n 3, 1) := bX4_turn_25.1
theorem dX4_turn_26 : decode cX4_turn 26 = .ok (.iload_n 3, 1) := bX4_turn_25.2.1
theorem dX4_turn_27 : decode cX4_turn 27 = .ok (.aload_n 2, 1) := bX4_turn_25.2.2.1
theorem dX4_turn_28 : decode cX4_turn 28 = .ok (.arraylength, 1) := bX4_turn_25.2.2.2.1
theorem dX4_turn_29 : decode cX4_turn 29 = .ok (.if_icmp .ge 18, 3) := bX4_turn_25.2.2.2.2.1
theorem dX4_turn_32 : decode cX4_turn 32 = .ok (.aload_n 2, 1) := bX4_turn_25.2.2.2.2.2.1
theorem dX4_turn_33 : decode cX4_turn 33 = .ok (.iload_n 3, 1) := bX4_turn_25.2.2.2.2.2.2.1
theorem dX4_turn_34 : decode cX4_turn 34 = .ok (.aload_n 2, 1) := bX4_turn_25.2.2.2.2.2.2.2.1
theorem dX4_turn_35 : decode cX4_turn 35 = .ok (.arraylength, 1) := bX4_turn_25.2.2.2.2.2.2.2.2.1
theorem dX4_turn_36 : decode cX4_turn 36 = .ok (.iconst 1, 1) := bX4_turn_25.2.2.2.2.2.2.2.2.2.1
theorem dX4_turn_37 : decode cX4_turn 37 = .ok (.isub, 1) := bX4_turn_25.2.2.2.2.2.2.2.2.2.2.1
theorem dX4_turn_38 : decode cX4_turn 38 = .ok (.iload_n 3, 1) := bX4_turn_25.2.2.2.2.2.2.2.2.2.2.2.1
theorem dX4_turn_39 : decode cX4_turn 39 = .ok (.isub, 1) := bX4_turn_25.2.2.2.2.2.2.2.2.2.2.2.2.1
theorem dX4_turn_40 : decode cX4_turn 40 = .ok (.iastore, 1) := bX4_turn_25.2.2.2.2.2.2.2.2.2.2.2.2.2.1
theorem dX4_turn_41 : decode cX4_turn 41 = .ok (.iinc 3 1, 3) := bX4_turn_25.2.2.2.2.2.2.2.2.2.2.2.2.2.2.1
theorem dX4_turn_44 : decode cX4_turn 44 = .ok (.goto (-18), 3) := bX4_turn_25.2.2.2.2.2.2.2.2.2.2.2.2.2.2.2
set_option maxRecDepth 100000 in
theorem bX4_turn_47 : (decode cX4_turn 47 = .ok (.aload_n 0, 1)) ∧ (decode cX4_turn 48 = .ok (.iload_n 1, 1)) ∧ (decode cX4_turn 49 = .ok (.aload_n 2, 1)) ∧ (decode cX4_turn 50 = .ok (.invokevirtual 97, 3)) ∧ (decode cX4_turn 53 = .ok (.ireturn, 1)) := by decide +kernel
theorem dX4_turn_47 : decode cX4_turn 47 = .ok (.aload_n 0, 1) := bX4_turn_47.1
theorem dX4_turn_48 : decode cX4_turn 48 = .ok (.iload_n 1, 1) := bX4_turn_47.2.1
theorem dX4_turn_49 : decode cX4_turn 49 = .ok (.aload_n 2, 1) := bX4_turn_47.2.2.1
theorem dX4_turn_50 : decode cX4_turn 50 = .ok (.invokevirtual 97, 3) := bX4_turn_47.2.2.2.1
theorem dX4_turn_53 : decode cX4_turn 53 = .ok (.ireturn, 1) := bX4_turn_47.2.2.2.2
set_option maxRecDepth 100000 in
theorem bX4_roll_0 : (decode cX4_roll 0 = .ok (.aload_n 0, 1)) ∧ (decode cX4_roll 1 = .ok (.iload_n 1, 1)) ∧ (decode cX4_roll 2 = .ok (.invokestatic 25, 3)) ∧ (decode cX4_roll 5 = .ok (.iload_n 1, 1)) ∧ (decode cX4_roll 6 = .ok (.invokestatic 25, 3)) ∧ (decode cX4_roll 9 = .ok (.ifCond .eq 22, 3)) ∧ (decode cX4_roll 12 = .ok (.iload_n 2, 1)) ∧ (decode cX4_roll 13 = .ok (.iconst 0, 1)) ∧ (decode cX4_roll 14 = .ok (.aload_n 0, 1)) ∧ (decode cX4_roll 15 = .ok (.getfield 11, 3)) ∧ (decode cX4_roll 18 = .ok (.iload_n 1, 1)) ∧ (decode cX4_roll 19 = .ok (.aaload, 1)) ∧ (decode cX4_roll 20 = .ok (.arraylength, 1)) ∧ (decode cX4_roll 21 = .ok (.invokestatic 21, 3)) ∧ (decode cX4_roll 24 = .ok (.ifCond .eq 7, 3)) ∧ (decode cX4_roll 27 = .ok (.iconst 1, 1)) := by decide +kernel
theorem dX4_roll_0 : decode cX4_roll 0 = .ok (.aload_n 0, 1) := bX4_roll_0.1
theorem dX4_roll_1 : decode cX4_roll 1 = .ok (.iload_n 1, 1) := bX4_roll_0.2.1
theorem dX4_roll_2 : decode cX4_roll 2 = .ok (.invokestatic 25, 3) := bX4_roll_0.2.2.1
theorem dX4_roll_5 : decode cX4_roll 5 = .ok (.iload_n 1, 1) := bX4_roll_0.2.2.2.1
theorem dX4_roll_6 : decode cX4_roll 6 = .ok (.invokestatic 25, 3) := bX4_roll_0.2.2.2.2.1
theorem dX4_roll_9 : decode cX4_roll 9 = .ok (.ifCond .eq 22, 3) := bX4_roll_0.2.2.2.2.2.1
theorem dX4_roll_12 : decode cX4_roll 12 = .ok (.iload_n 2, 1) := bX4_roll_0.2.2.2.2.2.2.1
theorem dX4_roll_13 : decode cX4_roll 13 = .ok (.iconst 0, 1) := bX4_roll_0.2.2.2.2.2.2.2.1
theorem dX4_roll_14 : decode cX4_roll 14 = .ok (.aload_n 0, 1) := bX4_roll_0.2.2.2.2.2.2.2.2.1
theorem dX4_roll_15 : decode cX4_roll 15 = .ok (.getfield 11, 3) := bX4_roll_0.2.2.2.2.2.2.2.2.2.1
theorem dX4_roll_18 : decode cX4_roll 18 = .ok (.iload_n 1, 1) := bX4_roll_0.2.2.2.2.2.2.2.2.2.2.1
theorem dX4_roll_19 : decode cX4_roll 19 = .ok (.aaload, 1) := bX4_roll_0.2.2.2.2.2.2.2.2.2.2.2.1
theorem dX4_roll_20 : decode cX4_roll 20 = .ok (.arraylength, 1) := bX4_roll_0.2.2.2.2.2.2.2.2.2.2.2.2.1
theorem dX4_roll_21 : decode cX4_roll 21 = .ok (.invokestatic 21, 3) := bX4_roll_0.2.2.2.2.2.2.2.2.2.2.2.2.2.1
theorem dX4_roll_24 : decode cX4_roll 24 = .ok (.ifCond .eq 7, 3) := bX4_roll_0.2.2.2.2.2.2.2.2.2.2.2.2.2.2.1
theorem dX4_roll_27 : decode cX4_roll 27 = .ok (.iconst 1, 1) := bX4_roll_0.2.2.2.2.2.2.2.2.2.2.2.2.2.2.2
set_option maxRecDepth 100000 in
theorem bX4_roll_28 : (decode cX4_roll 28 = .ok (.goto 4, 3)) ∧ (decode cX4_roll 31 = .ok (.iconst 0, 1)) ∧ (decode cX4_roll 32 = .ok (.invokevirtual 56, 3)) ∧ (decode cX4_roll 35 = .ok (.ifCond .ne 5, 3)) ∧ (decode cX4_roll 38 = .ok (.iconst 0, 1)) ∧ (decode cX4_roll 39 = .ok (.ireturn, 1)) ∧ (decode cX4_roll 40 = .ok (.aload_n 0, 1)) ∧ (decode cX4_roll 41 = .ok (.getfield 11, 3)) ∧ (decode cX4_roll 44 = .ok (.iload_n 1, 1)) ∧ (decode cX4_roll 45 = .ok (.aaload, 1)) ∧ (decode cX4_roll 46 = .ok (.arraylength, 1)) ∧ (decode cX4_roll 47 = .ok (.newarray .int, 2)) ∧ (decode cX4_roll 49 = .ok (.astore_n 3, 1)) ∧ (decode cX4_roll 50 = .ok (.iconst 0, 1)) ∧ (decode cX4_roll 51 = .ok (.istore 4, 2)) ∧ (decode cX4_roll 53 = .ok (.iload 4, 2)) := by decide +kernel
theorem dX4_roll_28 : decode cX4_roll 28 = .ok (.goto 4, 3) := bX4_roll_28.1
theorem dX4_roll_31 : decode cX4_roll 31 = .ok (.iconst 0, 1) := bX4_roll_28.2.1
theorem dX4_roll_32 : decode cX4_roll 32 = .ok (.invokevirtual 56, 3) := bX4_roll_28.2.2.1
theorem dX4_roll_35 : decode cX4_roll 35 = .ok (.ifCond .ne 5, 3) := bX4_roll_28.2.2.2.1
theorem dX4_roll_38 : decode cX4_roll 38 = .ok (.iconst 0, 1) := bX4_roll_28.2.2.2.2.1
theorem dX4_roll_39 : decode cX4_roll 39 = .ok (.ireturn, 1) := bX4_roll_28.2.2.2.2.2.1
theorem dX4_roll_40 : decode cX4_roll 40 = .ok (.aload_n 0, 1) := bX4_roll_28.2.2.2.2.2.2.1
theorem dX4_roll_41 : decode cX4_roll 41 = .ok (.getfield 11, 3) := bX4_roll_28.2.2.2.2.2.2.2.1
theorem dX4_roll_44 : decode cX4_roll 44 = .ok (.iload_n 1, 1) := bX4_roll_28.2.2.2.2.2.2.2.2.1
theorem dX4_roll_45 : decode cX4_roll 45 = .ok (.aaload, 1) := bX4_roll_28.2.2.2.2.2.2.2.2.2.1
theorem dX4_roll_46 : decode cX4_roll 46 = .ok (.arraylength, 1) := bX4_roll_28.2.2.2.2.2.2.2.2.2.2.1
theorem dX4_roll_47 : decode cX4_roll 47 = .ok (.newarray .int, 2) := bX4_roll_28.2.2.2.2.2.2.2.2.2.2.2.1
theorem dX4_roll_49 : decode cX4_roll 49 = .ok (.astore_n 3, 1) := bX4_roll_28.2.2.2.2.2.2.2.2.2.2.2.2.1
theorem dX4_roll_50 : decode cX4_roll 50 = .ok (.iconst 0, 1) := bX4_roll_28.2.2.2.2.2.2.2.2.2.2.2.2.2.1
theorem dX4_roll_51 : decode cX4_roll 51 = .ok (.istore 4, 2) := bX4_roll_28.2.2.2.2.2.2.2.2.2.2.2.2.2.2.1
theorem dX4_roll_53 : decode cX4_roll 53 = .ok (.iload 4, 2) := bX4_roll_28.2.2.2.2.2.2.2.2.2.2.2.2.2.2.2
set_option maxRecDepth 100000 in
theorem bX4_roll_55 : (decode cX4_roll 55 = .ok (.aload_n 3, 1)) ∧ (decode cX4_roll 56 = .ok (.arraylength, 1)) ∧ (decode cX4_roll 57 = .ok (.if_icmp .ge 20, 3)) ∧ (decode cX4_roll 60 = .ok (.aload_n 3, 1)) ∧ (decode cX4_roll 61 = .ok (.iload 4, 2)) ∧ (decode cX4_roll 63 = .ok (.iload 4, 2)) ∧ (decode cX4_roll 65 = .ok (.iload_n 2, 1)) ∧ (decode cX4_roll 66 = .ok (.iadd, 1)) ∧ (decode cX4_roll 67 = .ok (.aload_n 3, 1)) ∧ (decode cX4_roll 68 = .ok (.arraylength, 1)) ∧ (decode cX4_roll 69 = .ok (.irem, 1)) ∧ (decode cX4_roll 70 = .ok (.iastore, 1)) ∧ (decode cX4_roll 71 = .ok (.iinc 4 1, 3)) ∧ (decode cX4_roll 74 = .ok (.goto (-21), 3)) ∧ (decode cX4_roll 77 = .ok (.aload_n 0, 1)) ∧ (decode cX4_roll 78 = .ok (.iload_n 1, 1)) := by decide +kernel
theorem dX4_roll_55 : decode cX4_roll 55 = .ok (.aload_n 3, 1) := bX4_roll_55.1
theorem dX4_roll_56 : decode cX4_roll 56 = .ok (.arraylength, 1) := bX4_roll_55.2.1
theorem dX4_roll_57 : decode cX4_roll 57 = .ok (.if_icmp .ge 20, 3) := bX4_roll_55.2.2.1
theorem dX4_roll_60 : decode cX4_roll 60 = .ok (.aload_n 3, 1) := bX4_roll_55.2.2.2.1
theorem dX4_roll_61 : decode cX4_roll 61 = .ok (.iload 4, 2) := bX4_roll_55.2.2.2.2.1
theorem dX4_roll_63 : decode cX4_roll 63 = .ok (.iload 4, 2) := bX4_roll_55.2.2.2.2.2.1
theorem dX4_roll_65 : decode cX4_roll 65 = .ok (.iload_n 2, 1) := bX4_roll_55.2.2.2.2.2.2.1
theorem dX4_roll_66 : decode cX4_roll 66 = .ok (.iadd, 1) := bX4_roll_55.2.2.2.2.2.2.2.1
theorem dX4_roll_67 : decode cX4_roll 67 = .ok (.aload_n 3, 1) := bX4_roll_55.2.2.2.2.2.2.2.2.1
theorem dX4_roll_68 : decode cX4_roll 68 = .ok (.arraylength, 1) := bX4_roll_55.2.2.2.2.2.2.2.2.2.1
theorem dX4_roll_69 : decode cX4_roll 69 = .ok (.irem, 1) := bX4_roll_55.2.2.2.2.2.2.2.2.2.2.1
theorem dX4_roll_70 : decode cX4_roll 70 = .ok (.iastore, 1) := bX4_roll_55.2.2.2.2.2.2.2.2.2.2.2.1
theorem dX4_roll_71 : decode cX4_roll 71 = .ok (.iinc 4 1, 3) := bX4_roll_55.2.2.2.2.2.2.2.2.2.2.2.2.1
theorem dX4_roll_74 : decode cX4_roll 74 = .ok (.goto (-21), 3) := bX4_roll_55.2.2.2.2.2.2.2.2.2.2.2.2.2.1
theorem dX4_roll_77 : decode cX4_roll 77 = .ok (.aload_n 0, 1) := bX4_roll_55.2.2.2.2.2.2.2.2.2.2.2.2.2.2.1
theorem dX4_roll_78 : decode cX4_roll 78 = .ok (.iload_n 1, 1) := bX4_roll_55.2.2.2.2.2.2.2.2.2.2.2.2.2.2.2
set_option maxRecDepth 100000 in
theorem bX4_roll_79 : (decode cX4_roll 79 = .ok (.aload_n 3, 1)) ∧ (decode cX4_roll 80 = .ok (.invokevirtual 97, 3)) ∧ (decode cX4_roll 83 = .ok (.ireturn, 1)) := by decide +kernel
theorem dX4_roll_79 : decode cX4_roll 79 = .ok (.aload_n 3, 1) := bX4_roll_79.1
theorem dX4_roll_80 : decode cX4_roll 80 = .ok (.invokevirtual 97, 3) := bX4_roll_79.2.1
theorem dX4_roll_83 : decode cX4_roll 83 = .ok (.ireturn, 1) := bX4_roll_79.2.2
set_option maxRecDepth 100000 in
theorem bX4_keep_0 : (decode cX4_keep 0 = .ok (.aload_n 0, 1)) ∧ (decode cX4_keep 1 = .ok (.iload_n 1, 1)) ∧ (decode cX4_keep 2 = .ok (.invokestatic 25, 3)) ∧ (decode cX4_keep 5 = .ok (.ifCond .eq 27, 3)) ∧ (decode cX4_keep 8 = .ok (.iload_n 2, 1)) ∧ (decode cX4_keep 9 = .ok (.ifCond .lt 23, 3)) ∧ (decode cX4_keep 12 = .ok (.iload_n 2, 1)) ∧ (decode cX4_keep 13 = .ok (.iload_n 3, 1)) ∧ (decode cX4_keep 14 = .ok (.if_icmp .gt 18, 3)) ∧ (decode cX4_keep 17 = .ok (.iload_n 3, 1)) ∧ (decode cX4_keep 18 = .ok (.aload_n 0, 1)) ∧ (decode cX4_keep 19 = .ok (.getfield 11, 3)) ∧ (decode cX4_keep 22 = .ok (.iload_n 1, 1)) ∧ (decode cX4_keep 23 = .ok (.aaload, 1)) ∧ (decode cX4_keep 24 = .ok (.arraylength, 1)) ∧ (decode cX4_keep 25 = .ok (.if_icmp .gt 7, 3)) := by decide +kernel
theorem dX4_keep_0 : decode cX4_keep 0 = .ok (.aload_n 0, 1) := bX4_keep_0.1
theorem dX4_keep_1 : decode cX4_keep 1 = .ok (.iload_n 1, 1) := bX4_keep_0.2.1
theorem dX4_keep_2 : decode cX4_keep 2 = .ok (.invokestatic 25, 3) := bX4_keep_0.2.2.1
theorem dX4_keep_5 : decode cX4_keep 5 = .ok (.ifCond .eq 27, 3) := bX4_keep_0.2.2.2.1
theorem dX4_keep_8 : decode cX4_keep 8 = .ok (.iload_n 2, 1) := bX4_keep_0.2.2.2.2.1
theorem dX4_keep_9 : decode cX4_keep 9 = .ok (.ifCond .lt 23, 3) := bX4_keep_0.2.2.2.2.2.1
theorem dX4_keep_12 : decode cX4_keep 12 = .ok (.iload_n 2, 1) := bX4_keep_0.2.2.2.2.2.2.1
theorem dX4_keep_13 : decode cX4_keep 13 = .ok (.iload_n 3, 1) := bX4_keep_0.2.2.2.2.2.2.2.1
theorem dX4_keep_14 : decode cX4_keep 14 = .ok (.if_icmp .gt 18, 3) := bX4_keep_0.2.2.2.2.2.2.2.2.1
theorem dX4_keep_17 : decode cX4_keep 17 = .ok (.iload_n 3, 1) := bX4_keep_0.2.2.2.2.2.2.2.2.2.1
theorem dX4_keep_18 : decode cX4_keep 18 = .ok (.aload_n 0, 1) := bX4_keep_0.2.2.2.2.2.2.2.2.2.2.1
theorem dX4_keep_19 : decode cX4_keep 19 = .ok (.getfield 11, 3) := bX4_keep_0.2.2.2.2.2.2.2.2.2.2.2.1
theorem dX4_keep_22 : decode cX4_keep 22 = .ok (.iload_n 1, 1) := bX4_keep_0.2.2.2.2.2.2.2.2.2.2.2.2.1
theorem dX4_keep_23 : decode cX4_keep 23 = .ok (.aaload, 1) := bX4_keep_0.2.2.2.2.2.2.2.2.2.2.2.2.2.1
theorem dX4_keep_24 : decode cX4_keep 24 = .ok (.arraylength, 1) := bX4_keep_0.2.2.2.2.2.2.2.2.2.2.2.2.2.2.1
theorem dX4_keep_25 : decode cX4_keep 25 = .ok (.if_icmp .gt 7, 3) := bX4_keep_0.2.2.2.2.2.2.2.2.2.2.2.2.2.2.2
set_option maxRecDepth 100000 in
theorem bX4_keep_28 : (decode cX4_keep 28 = .ok (.iconst 1, 1)) ∧ (decode cX4_keep 29 = .ok (.goto 4, 3)) ∧ (decode cX4_keep 32 = .ok (.iconst 0, 1)) ∧ (decode cX4_keep 33 = .ok (.iconst 1, 1)) ∧ (decode cX4_keep 34 = .ok (.invokevirtual 56, 3)) ∧ (decode cX4_keep 37 = .ok (.ifCond .ne 5, 3)) ∧ (decode cX4_keep 40 = .ok (.iconst 0, 1)) ∧ (decode cX4_keep 41 = .ok (.ireturn, 1)) ∧ (decode cX4_keep 42 = .ok (.aload_n 0, 1)) ∧ (decode cX4_keep 43 = .ok (.getfield 11, 3)) ∧ (decode cX4_keep 46 = .ok (.iload_n 1, 1)) ∧ (decode cX4_keep 47 = .ok (.aload_n 0, 1)) ∧ (decode cX4_keep 48 = .ok (.getfield 11, 3)) ∧ (decode cX4_keep 51 = .ok (.iload_n 1, 1)) ∧ (decode cX4_keep 52 = .ok (.aaload, 1)) ∧ (decode cX4_keep 53 = .ok (.iload_n 2, 1)) := by decide +kernel
theorem dX4_keep_28 : decode cX4_keep 28 = .ok (.iconst 1, 1) := bX4_keep_28.1
theorem dX4_keep_29 : decode cX4_keep 29 = .ok (.goto 4, 3) := bX4_keep_28.2.1
theorem dX4_keep_32 : decode cX4_keep 32 = .ok (.iconst 0, 1) := bX4_keep_28.2.2.1
theorem dX4_keep_33 : decode cX4_keep 33 = .ok (.iconst 1, 1) := bX4_keep_28.2.2.2.1
theorem dX4_keep_34 : decode cX4_keep 34 = .ok (.invokevirtual 56, 3) := bX4_keep_28.2.2.2.2.1
theorem dX4_keep_37 : decode cX4_keep 37 = .ok (.ifCond .ne 5, 3) := bX4_keep_28.2.2.2.2.2.1
theorem dX4_keep_40 : decode cX4_keep 40 = .ok (.iconst 0, 1) := bX4_keep_28.2.2.2.2.2.2.1
theorem dX4_keep_41 : decode cX4_keep 41 = .ok (.ireturn, 1) := bX4_keep_28.2.2.2.2.2.2.2.1
theorem dX4_keep_42 : decode cX4_keep 42 = .ok (.aload_n 0, 1) := bX4_keep_28.2.2.2.2.2.2.2.2.1
theorem dX4_keep_43 : decode cX4_keep 43 = .ok (.getfield 11, 3) := bX4_keep_28.2.2.2.2.2.2.2.2.2.1
theorem dX4_keep_46 : decode cX4_keep 46 = .ok (.iload_n 1, 1) := bX4_keep_28.2.2.2.2.2.2.2.2.2.2.1
theorem dX4_keep_47 : decode cX4_keep 47 = .ok (.aload_n 0, 1) := bX4_keep_28.2.2.2.2.2.2.2.2.2.2.2.1
theorem dX4_keep_48 : decode cX4_keep 48 = .ok (.getfield 11, 3) := bX4_keep_28.2.2.2.2.2.2.2.2.2.2.2.2.1
theorem dX4_keep_51 : decode cX4_keep 51 = .ok (.iload_n 1, 1) := bX4_keep_28.2.2.2.2.2.2.2.2.2.2.2.2.2.1
theorem dX4_keep_52 : decode cX4_keep 52 = .ok (.aaload, 1) := bX4_keep_28.2.2.2.2.2.2.2.2.2.2.2.2.2.2.1
theorem dX4_keep_53 : decode cX4_keep 53 = .ok (.iload_n 2, 1) := bX4_keep_28.2.2.2.2.2.2.2.2.2.2.2.2.2.2.2
set_option maxRecDepth 100000 in
theorem bX4_keep_54 : (decode cX4_keep 54 = .ok (.iload_n 3, 1)) ∧ (decode cX4_keep 55 = .ok (.invokestatic 42, 3)) ∧ (decode cX4_keep 58 = .ok (.aastore, 1)) ∧ (decode cX4_keep 59 = .ok (.aload_n 0, 1)) ∧ (decode cX4_keep 60 = .ok (.getfield 14, 3)) ∧ (decode cX4_keep 63 = .ok (.iload_n 1, 1)) ∧ (decode cX4_keep 64 = .ok (.aload_n 0, 1)) ∧ (decode cX4_keep 65 = .ok (.getfield 14, 3)) ∧ (decode cX4_keep 68 = .ok (.iload_n 1, 1)) ∧ (decode cX4_keep 69 = .ok (.aaload, 1)) ∧ (decode cX4_keep 70 = .ok (.iload_n 2, 1)) ∧ (decode cX4_keep 71 = .ok (.iload_n 3, 1)) ∧ (decode cX4_keep 72 = .ok (.invokestatic 42, 3)) ∧ (decode cX4_keep 75 = .ok (.aastore, 1)) ∧ (decode cX4_keep 76 = .ok (.aload_n 0, 1)) ∧ (decode cX4_keep 77 = .ok (.iload_n 3, 1)) := by decide +kernel
theorem dX4_keep_54 : decode cX4_keep 54 = .ok (.iload_n 3, 1) := bX4_keep_54.1
theorem dX4_keep_55 : decode cX4_keep 55 = .ok (.invokestatic 42, 3) := bX4_keep_54.2.1
theorem dX4_keep_58 : decode cX4_keep 58 = .ok (.aastore, 1) := bX4_keep_54.2.2.1
theorem dX4_keep_59 : decode cX4_keep 59 = .ok (.aload_n 0, 1) := bX4_keep_54.2.2.2.1
theorem dX4_keep_60 : decode cX4_keep 60 = .ok (.getfield 14, 3) := bX4_keep_54.2.2.2.2.1
theorem dX4_keep_63 : decode cX4_keep 63 = .ok (.iload_n 1, 1) := bX4_keep_54.2.2.2.2.2.1
theorem dX4_keep_64 : decode cX4_keep 64 = .ok (.aload_n 0, 1) := bX4_keep_54.2.2.2.2.2.2.1
theorem dX4_keep_65 : decode cX4_keep 65 = .ok (.getfield 14, 3) := bX4_keep_54.2.2.2.2.2.2.2.1
theorem dX4_keep_68 : decode cX4_keep 68 = .ok (.iload_n 1, 1) := bX4_keep_54.2.2.2.2.2.2.2.2.1
theorem dX4_keep_69 : decode cX4_keep 69 = .ok (.aaload, 1) := bX4_keep_54.2.2.2.2.2.2.2.2.2.1
theorem dX4_keep_70 : decode cX4_keep 70 = .ok (.iload_n 2, 1) := bX4_keep_54.2.2.2.2.2.2.2.2.2.2.1
theorem dX4_keep_71 : decode cX4_keep 71 = .ok (.iload_n 3, 1) := bX4_keep_54.2.2.2.2.2.2.2.2.2.2.2.1
theorem dX4_keep_72 : decode cX4_keep 72 = .ok (.invokestatic 42, 3) := bX4_keep_54.2.2.2.2.2.2.2.2.2.2.2.2.1
theorem dX4_keep_75 : decode cX4_keep 75 = .ok (.aastore, 1) := bX4_keep_54.2.2.2.2.2.2.2.2.2.2.2.2.2.1
theorem dX4_keep_76 : decode cX4_keep 76 = .ok (.aload_n 0, 1) := bX4_keep_54.2.2.2.2.2.2.2.2.2.2.2.2.2.2.1
theorem dX4_keep_77 : decode cX4_keep 77 = .ok (.iload_n 3, 1) := bX4_keep_54.2.2.2.2.2.2.2.2.2.2.2.2.2.2.2
set_option maxRecDepth 100000 in
theorem bX4_keep_78 : (decode cX4_keep 78 = .ok (.iload_n 2, 1)) ∧ (decode cX4_keep 79 = .ok (.isub, 1)) ∧ (decode cX4_keep 80 = .ok (.invokevirtual 65, 3)) ∧ (decode cX4_keep 83 = .ok (.ireturn, 1)) := by decide +kernel
theorem dX4_keep_78 : decode cX4_keep 78 = .ok (.iload_n 2, 1) := bX4_keep_78.1
theorem dX4_keep_79 : decode cX4_keep 79 = .ok (.isub, 1) := bX4_keep_78.2.1
theorem dX4_keep_80 : decode cX4_keep 80 = .ok (.invokevirtual 65, 3) := bX4_keep_78.2.2.1
theorem dX4_keep_83 : decode cX4_keep 83 = .ok (.ireturn, 1) := bX4_keep_78.2.2.2
set_option maxRecDepth 100000 in
theorem bX4_sorted_0 : (decode cX4_sorted 0 = .ok (.aload_n 0, 1)) ∧ (decode cX4_sorted 1 = .ok (.getfield 11, 3)) ∧ (decode cX4_sorted 4 = .ok (.iload_n 1, 1)) ∧ (decode cX4_sorted 5 = .ok (.aaload, 1)) ∧ (decode cX4_sorted 6 = .ok (.arraylength, 1)) ∧ (decode cX4_sorted 7 = .ok (.newarray .int, 2)) ∧ (decode cX4_sorted 9 = .ok (.astore_n 2, 1)) ∧ (decode cX4_sorted 10 = .ok (.iconst 0, 1)) ∧ (decode cX4_sorted 11 = .ok (.istore_n 3, 1)) ∧ (decode cX4_sorted 12 = .ok (.iload_n 3, 1)) ∧ (decode cX4_sorted 13 = .ok (.aload_n 2, 1)) ∧ (decode cX4_sorted 14 = .ok (.arraylength, 1)) ∧ (decode cX4_sorted 15 = .ok (.if_icmp .ge 18, 3)) ∧ (decode cX4_sorted 18 = .ok (.aload_n 2, 1)) ∧ (decode cX4_sorted 19 = .ok (.aload_n 0, 1)) ∧ (decode cX4_sorted 20 = .ok (.iload_n 1, 1)) := by decide +kernel
theorem dX4_sorted_0 : decode cX4_sorted 0 = .ok (.aload_n 0, 1) := bX4_sorted_0.1
theorem dX4_sorted_1 : decode cX4_sorted 1 = .ok (.getfield 11, 3) := bX4_sorted_0.2.1
theorem dX4_sorted_4 : decode cX4_sorted 4 = .ok (.iload_n 1, 1) := bX4_sorted_0.2.2.1
theorem dX4_sorted_5 : decode cX4_sorted 5 = .ok (.aaload, 1) := bX4_sorted_0.2.2.2.1
theorem dX4_sorted_6 : decode cX4_sorted 6 = .ok (.arraylength, 1) := bX4_sorted_0.2.2.2.2.1
theorem dX4_sorted_7 : decode cX4_sorted 7 = .ok (.newarray .int, 2) := bX4_sorted_0.2.2.2.2.2.1
theorem dX4_sorted_9 : decode cX4_sorted 9 = .ok (.astore_n 2, 1) := bX4_sorted_0.2.2.2.2.2.2.1
theorem dX4_sorted_10 : decode cX4_sorted 10 = .ok (.iconst 0, 1) := bX4_sorted_0.2.2.2.2.2.2.2.1
theorem dX4_sorted_11 : decode cX4_sorted 11 = .ok (.istore_n 3, 1) := bX4_sorted_0.2.2.2.2.2.2.2.2.1
theorem dX4_sorted_12 : decode cX4_sorted 12 = .ok (.iload_n 3, 1) := bX4_sorted_0.2.2.2.2.2.2.2.2.2.1
theorem dX4_sorted_13 : decode cX4_sorted 13 = .ok (.aload_n 2, 1) := bX4_sorted_0.2.2.2.2.2.2.2.2.2.2.1
theorem dX4_sorted_14 : decode cX4_sorted 14 = .ok (.arraylength, 1) := bX4_sorted_0.2.2.2.2.2.2.2.2.2.2.2.1
theorem dX4_sorted_15 : decode cX4_sorted 15 = .ok (.if_icmp .ge 18, 3) := bX4_sorted_0.2.2.2.2.2.2.2.2.2.2.2.2.1
theorem dX4_sorted_18 : decode cX4_sorted 18 = .ok (.aload_n 2, 1) := bX4_sorted_0.2.2.2.2.2.2.2.2.2.2.2.2.2.1
theorem dX4_sorted_19 : decode cX4_sorted 19 = .ok (.aload_n 0, 1) := bX4_sorted_0.2.2.2.2.2.2.2.2.2.2.2.2.2.2.1
theorem dX4_sorted_20 : decode cX4_sorted 20 = .ok (.iload_n 1, 1) := bX4_sorted_0.2.2.2.2.2.2.2.2.2.2.2.2.2.2.2
set_option maxRecDepth 100000 in
theorem bX4_sorted_21 : (decode cX4_sorted 21 = .ok (.iload_n 3, 1)) ∧ (decode cX4_sorted 22 = .ok (.invokevirtual 101, 3)) ∧ (decode cX4_sorted 25 = .ok (.iload_n 3, 1)) ∧ (decode cX4_sorted 26 = .ok (.iastore, 1)) ∧ (decode cX4_sorted 27 = .ok (.iinc 3 1, 3)) ∧ (decode cX4_sorted 30 = .ok (.goto (-18), 3)) ∧ (decode cX4_sorted 33 = .ok (.aload_n 2, 1)) ∧ (decode cX4_sorted 34 = .ok (.areturn, 1)) := by decide +kernel
theorem dX4_sorted_21 : decode cX4_sorted 21 = .ok (.iload_n 3, 1) := bX4_sorted_21.1
theorem dX4_sorted_22 : decode cX4_sorted 22 = .ok (.invokevirtual 101, 3) := bX4_sorted_21.2.1
theorem dX4_sorted_25 : decode cX4_sorted 25 = .ok (.iload_n 3, 1) := bX4_sorted_21.2.2.1
theorem dX4_sorted_26 : decode cX4_sorted 26 = .ok (.iastore, 1) := bX4_sorted_21.2.2.2.1
theorem dX4_sorted_27 : decode cX4_sorted 27 = .ok (.iinc 3 1, 3) := bX4_sorted_21.2.2.2.2.1
theorem dX4_sorted_30 : decode cX4_sorted 30 = .ok (.goto (-18), 3) := bX4_sorted_21.2.2.2.2.2.1
theorem dX4_sorted_33 : decode cX4_sorted 33 = .ok (.aload_n 2, 1) := bX4_sorted_21.2.2.2.2.2.2.1
theorem dX4_sorted_34 : decode cX4_sorted 34 = .ok (.areturn, 1) := bX4_sorted_21.2.2.2.2.2.2.2
set_option maxRecDepth 100000 in
theorem bX4_sort_0 : (decode cX4_sort 0 = .ok (.aload_n 0, 1)) ∧ (decode cX4_sort 1 = .ok (.iload_n 1, 1)) ∧ (decode cX4_sort 2 = .ok (.invokestatic 25, 3)) ∧ (decode cX4_sort 5 = .ok (.iconst 1, 1)) ∧ (decode cX4_sort 6 = .ok (.invokevirtual 56, 3)) ∧ (decode cX4_sort 9 = .ok (.ifCond .ne 5, 3)) ∧ (decode cX4_sort 12 = .ok (.iconst 0, 1)) ∧ (decode cX4_sort 13 = .ok (.ireturn, 1)) ∧ (decode cX4_sort 14 = .ok (.aload_n 0, 1)) ∧ (decode cX4_sort 15 = .ok (.getfield 11, 3)) ∧ (decode cX4_sort 18 = .ok (.iload_n 1, 1)) ∧ (decode cX4_sort 19 = .ok (.aaload, 1)) ∧ (decode cX4_sort 20 = .ok (.astore_n 2, 1)) ∧ (decode cX4_sort 21 = .ok (.aload_n 0, 1)) ∧ (decode cX4_sort 22 = .ok (.getfield 14, 3)) ∧ (decode cX4_sort 25 = .ok (.iload_n 1, 1)) := by decide +kernel
theorem dX4_sort_0 : decode cX4_sort 0 = .ok (.aload_n 0, 1) := bX4_sort_0.1
theorem dX4_sort_1 : decode cX4_sort 1 = .ok (.iload_n 1, 1) := bX4_sort_0.2.1
theorem dX4_sort_2 : decode cX4_sort 2 = .ok (.invokestatic 25, 3) := bX4_sort_0.2.2.1
theorem dX4_sort_5 : decode cX4_sort 5 = .ok (.iconst 1, 1) := bX4_sort_0.2.2.2.1
theorem dX4_sort_6 : decode cX4_sort 6 = .ok (.invokevirtual 56, 3) := bX4_sort_0.2.2.2.2.1
theorem dX4_sort_9 : decode cX4_sort 9 = .ok (.ifCond .ne 5, 3) := bX4_sort_0.2.2.2.2.2.1
theorem dX4_sort_12 : decode cX4_sort 12 = .ok (.iconst 0, 1) := bX4_sort_0.2.2.2.2.2.2.1
theorem dX4_sort_13 : decode cX4_sort 13 = .ok (.ireturn, 1) := bX4_sort_0.2.2.2.2.2.2.2.1
theorem dX4_sort_14 : decode cX4_sort 14 = .ok (.aload_n 0, 1) := bX4_sort_0.2.2.2.2.2.2.2.2.1
theorem dX4_sort_15 : decode cX4_sort 15 = .ok (.getfield 11, 3) := bX4_sort_0.2.2.2.2.2.2.2.2.2.1
theorem dX4_sort_18 : decode cX4_sort 18 = .ok (.iload_n 1, 1) := bX4_sort_0.2.2.2.2.2.2.2.2.2.2.1
theorem dX4_sort_19 : decode cX4_sort 19 = .ok (.aaload, 1) := bX4_sort_0.2.2.2.2.2.2.2.2.2.2.2.1
theorem dX4_sort_20 : decode cX4_sort 20 = .ok (.astore_n 2, 1) := bX4_sort_0.2.2.2.2.2.2.2.2.2.2.2.2.1
theorem dX4_sort_21 : decode cX4_sort 21 = .ok (.aload_n 0, 1) := bX4_sort_0.2.2.2.2.2.2.2.2.2.2.2.2.2.1
theorem dX4_sort_22 : decode cX4_sort 22 = .ok (.getfield 14, 3) := bX4_sort_0.2.2.2.2.2.2.2.2.2.2.2.2.2.2.1
theorem dX4_sort_25 : decode cX4_sort 25 = .ok (.iload_n 1, 1) := bX4_sort_0.2.2.2.2.2.2.2.2.2.2.2.2.2.2.2
set_option maxRecDepth 100000 in
theorem bX4_sort_26 : (decode cX4_sort 26 = .ok (.aaload, 1)) ∧ (decode cX4_sort 27 = .ok (.astore_n 3, 1)) ∧ (decode cX4_sort 28 = .ok (.aload_n 0, 1)) ∧ (decode cX4_sort 29 = .ok (.iload_n 1, 1)) ∧ (decode cX4_sort 30 = .ok (.aload_n 0, 1)) ∧ (decode cX4_sort 31 = .ok (.iload_n 1, 1)) ∧ (decode cX4_sort 32 = .ok (.invokevirtual 104, 3)) ∧ (decode cX4_sort 35 = .ok (.invokevirtual 82, 3)) ∧ (decode cX4_sort 38 = .ok (.iconst 0, 1)) ∧ (decode cX4_sort 39 = .ok (.istore 4, 2)) ∧ (decode cX4_sort 41 = .ok (.iconst 0, 1)) ∧ (decode cX4_sort 42 = .ok (.istore 5, 2)) ∧ (decode cX4_sort 44 = .ok (.iload 5, 2)) ∧ (decode cX4_sort 46 = .ok (.aload_n 2, 1)) ∧ (decode cX4_sort 47 = .ok (.arraylength, 1)) ∧ (decode cX4_sort 48 = .ok (.if_icmp .ge 51, 3)) := by decide +kernel
theorem dX4_sort_26 : decode cX4_sort 26 = .ok (.aaload, 1) := bX4_sort_26.1
theorem dX4_sort_27 : decode cX4_sort 27 = .ok (.astore_n 3, 1) := bX4_sort_26.2.1
theorem dX4_sort_28 : decode cX4_sort 28 = .ok (.aload_n 0, 1) := bX4_sort_26.2.2.1
theorem dX4_sort_29 : decode cX4_sort 29 = .ok (.iload_n 1, 1) := bX4_sort_26.2.2.2.1
theorem dX4_sort_30 : decode cX4_sort 30 = .ok (.aload_n 0, 1) := bX4_sort_26.2.2.2.2.1
theorem dX4_sort_31 : decode cX4_sort 31 = .ok (.iload_n 1, 1) := bX4_sort_26.2.2.2.2.2.1
theorem dX4_sort_32 : decode cX4_sort 32 = .ok (.invokevirtual 104, 3) := bX4_sort_26.2.2.2.2.2.2.1
theorem dX4_sort_35 : decode cX4_sort 35 = .ok (.invokevirtual 82, 3) := bX4_sort_26.2.2.2.2.2.2.2.1
theorem dX4_sort_38 : decode cX4_sort 38 = .ok (.iconst 0, 1) := bX4_sort_26.2.2.2.2.2.2.2.2.1
theorem dX4_sort_39 : decode cX4_sort 39 = .ok (.istore 4, 2) := bX4_sort_26.2.2.2.2.2.2.2.2.2.1
theorem dX4_sort_41 : decode cX4_sort 41 = .ok (.iconst 0, 1) := bX4_sort_26.2.2.2.2.2.2.2.2.2.2.1
theorem dX4_sort_42 : decode cX4_sort 42 = .ok (.istore 5, 2) := bX4_sort_26.2.2.2.2.2.2.2.2.2.2.2.1
theorem dX4_sort_44 : decode cX4_sort 44 = .ok (.iload 5, 2) := bX4_sort_26.2.2.2.2.2.2.2.2.2.2.2.2.1
theorem dX4_sort_46 : decode cX4_sort 46 = .ok (.aload_n 2, 1) := bX4_sort_26.2.2.2.2.2.2.2.2.2.2.2.2.2.1
theorem dX4_sort_47 : decode cX4_sort 47 = .ok (.arraylength, 1) := bX4_sort_26.2.2.2.2.2.2.2.2.2.2.2.2.2.2.1
theorem dX4_sort_48 : decode cX4_sort 48 = .ok (.if_icmp .ge 51, 3) := bX4_sort_26.2.2.2.2.2.2.2.2.2.2.2.2.2.2.2
set_option maxRecDepth 100000 in
theorem bX4_sort_51 : (decode cX4_sort 51 = .ok (.iload 4, 2)) ∧ (decode cX4_sort 53 = .ok (.aload_n 2, 1)) ∧ (decode cX4_sort 54 = .ok (.iload 5, 2)) ∧ (decode cX4_sort 56 = .ok (.iaload, 1)) ∧ (decode cX4_sort 57 = .ok (.aload_n 0, 1)) ∧ (decode cX4_sort 58 = .ok (.getfield 11, 3)) ∧ (decode cX4_sort 61 = .ok (.iload_n 1, 1)) ∧ (decode cX4_sort 62 = .ok (.aaload, 1)) ∧ (decode cX4_sort 63 = .ok (.iload 5, 2)) ∧ (decode cX4_sort 65 = .ok (.iaload, 1)) ∧ (decode cX4_sort 66 = .ok (.if_icmp .ne 23, 3)) ∧ (decode cX4_sort 69 = .ok (.aload_n 3, 1)) ∧ (decode cX4_sort 70 = .ok (.iload 5, 2)) ∧ (decode cX4_sort 72 = .ok (.iaload, 1)) ∧ (decode cX4_sort 73 = .ok (.aload_n 0, 1)) ∧ (decode cX4_sort 74 = .ok (.getfield 14, 3)) := by decide +kernel
theorem dX4_sort_51 : decode cX4_sort 51 = .ok (.iload 4, 2) := bX4_sort_51.1
theorem dX4_sort_53 : decode cX4_sort 53 = .ok (.aload_n 2, 1) := bX4_sort_51.2.1
theorem dX4_sort_54 : decode cX4_sort 54 = .ok (.iload 5, 2) := bX4_sort_51.2.2.1
theorem dX4_sort_56 : decode cX4_sort 56 = .ok (.iaload, 1) := bX4_sort_51.2.2.2.1
theorem dX4_sort_57 : decode cX4_sort 57 = .ok (.aload_n 0, 1) := bX4_sort_51.2.2.2.2.1
theorem dX4_sort_58 : decode cX4_sort 58 = .ok (.getfield 11, 3) := bX4_sort_51.2.2.2.2.2.1
theorem dX4_sort_61 : decode cX4_sort 61 = .ok (.iload_n 1, 1) := bX4_sort_51.2.2.2.2.2.2.1
theorem dX4_sort_62 : decode cX4_sort 62 = .ok (.aaload, 1) := bX4_sort_51.2.2.2.2.2.2.2.1
theorem dX4_sort_63 : decode cX4_sort 63 = .ok (.iload 5, 2) := bX4_sort_51.2.2.2.2.2.2.2.2.1
theorem dX4_sort_65 : decode cX4_sort 65 = .ok (.iaload, 1) := bX4_sort_51.2.2.2.2.2.2.2.2.2.1
theorem dX4_sort_66 : decode cX4_sort 66 = .ok (.if_icmp .ne 23, 3) := bX4_sort_51.2.2.2.2.2.2.2.2.2.2.1
theorem dX4_sort_69 : decode cX4_sort 69 = .ok (.aload_n 3, 1) := bX4_sort_51.2.2.2.2.2.2.2.2.2.2.2.1
theorem dX4_sort_70 : decode cX4_sort 70 = .ok (.iload 5, 2) := bX4_sort_51.2.2.2.2.2.2.2.2.2.2.2.2.1
theorem dX4_sort_72 : decode cX4_sort 72 = .ok (.iaload, 1) := bX4_sort_51.2.2.2.2.2.2.2.2.2.2.2.2.2.1
theorem dX4_sort_73 : decode cX4_sort 73 = .ok (.aload_n 0, 1) := bX4_sort_51.2.2.2.2.2.2.2.2.2.2.2.2.2.2.1
theorem dX4_sort_74 : decode cX4_sort 74 = .ok (.getfield 14, 3) := bX4_sort_51.2.2.2.2.2.2.2.2.2.2.2.2.2.2.2
set_option maxRecDepth 100000 in
theorem bX4_sort_77 : (decode cX4_sort 77 = .ok (.iload_n 1, 1)) ∧ (decode cX4_sort 78 = .ok (.aaload, 1)) ∧ (decode cX4_sort 79 = .ok (.iload 5, 2)) ∧ (decode cX4_sort 81 = .ok (.iaload, 1)) ∧ (decode cX4_sort 82 = .ok (.if_icmp .ne 7, 3)) ∧ (decode cX4_sort 85 = .ok (.iconst 0, 1)) ∧ (decode cX4_sort 86 = .ok (.goto 4, 3)) ∧ (decode cX4_sort 89 = .ok (.iconst 1, 1)) ∧ (decode cX4_sort 90 = .ok (.iadd, 1)) ∧ (decode cX4_sort 91 = .ok (.istore 4, 2)) ∧ (decode cX4_sort 93 = .ok (.iinc 5 1, 3)) ∧ (decode cX4_sort 96 = .ok (.goto (-52), 3)) ∧ (decode cX4_sort 99 = .ok (.aload_n 0, 1)) ∧ (decode cX4_sort 100 = .ok (.iload 4, 2)) ∧ (decode cX4_sort 102 = .ok (.invokevirtual 65, 3)) ∧ (decode cX4_sort 105 = .ok (.ireturn, 1)) := by decide +kernel
theorem dX4_sort_77 : decode cX4_sort 77 = .ok (.iload_n 1, 1) := bX4_sort_77.1
theorem dX4_sort_78 : decode cX4_sort 78 = .ok (.aaload, 1) := bX4_sort_77.2.1
theorem dX4_sort_79 : decode cX4_sort 79 = .ok (.iload 5, 2) := bX4_sort_77.2.2.1
theorem dX4_sort_81 : decode cX4_sort 81 = .ok (.iaload, 1) := bX4_sort_77.2.2.2.1
theorem dX4_sort_82 : decode cX4_sort 82 = .ok (.if_icmp .ne 7, 3) := bX4_sort_77.2.2.2.2.1
theorem dX4_sort_85 : decode cX4_sort 85 = .ok (.iconst 0, 1) := bX4_sort_77.2.2.2.2.2.1
theorem dX4_sort_86 : decode cX4_sort 86 = .ok (.goto 4, 3) := bX4_sort_77.2.2.2.2.2.2.1
theorem dX4_sort_89 : decode cX4_sort 89 = .ok (.iconst 1, 1) := bX4_sort_77.2.2.2.2.2.2.2.1
theorem dX4_sort_90 : decode cX4_sort 90 = .ok (.iadd, 1) := bX4_sort_77.2.2.2.2.2.2.2.2.1
theorem dX4_sort_91 : decode cX4_sort 91 = .ok (.istore 4, 2) := bX4_sort_77.2.2.2.2.2.2.2.2.2.1
theorem dX4_sort_93 : decode cX4_sort 93 = .ok (.iinc 5 1, 3) := bX4_sort_77.2.2.2.2.2.2.2.2.2.2.1
theorem dX4_sort_96 : decode cX4_sort 96 = .ok (.goto (-52), 3) := bX4_sort_77.2.2.2.2.2.2.2.2.2.2.2.1
theorem dX4_sort_99 : decode cX4_sort 99 = .ok (.aload_n 0, 1) := bX4_sort_77.2.2.2.2.2.2.2.2.2.2.2.2.1
theorem dX4_sort_100 : decode cX4_sort 100 = .ok (.iload 4, 2) := bX4_sort_77.2.2.2.2.2.2.2.2.2.2.2.2.2.1
theorem dX4_sort_102 : decode cX4_sort 102 = .ok (.invokevirtual 65, 3) := bX4_sort_77.2.2.2.2.2.2.2.2.2.2.2.2.2.2.1
theorem dX4_sort_105 : decode cX4_sort 105 = .ok (.ireturn, 1) := bX4_sort_77.2.2.2.2.2.2.2.2.2.2.2.2.2.2.2
set_option maxRecDepth 100000 in
theorem bX4_copy_0 : (decode cX4_copy 0 = .ok (.aload_n 0, 1)) ∧ (decode cX4_copy 1 = .ok (.iload_n 1, 1)) ∧ (decode cX4_copy 2 = .ok (.invokestatic 25, 3)) ∧ (decode cX4_copy 5 = .ok (.ifCond .eq 14, 3)) ∧ (decode cX4_copy 8 = .ok (.iload_n 2, 1)) ∧ (decode cX4_copy 9 = .ok (.invokestatic 25, 3)) ∧ (decode cX4_copy 12 = .ok (.ifCond .eq 7, 3)) ∧ (decode cX4_copy 15 = .ok (.iconst 1, 1)) ∧ (decode cX4_copy 16 = .ok (.goto 4, 3)) ∧ (decode cX4_copy 19 = .ok (.iconst 0, 1)) ∧ (decode cX4_copy 20 = .ok (.iconst 1, 1)) ∧ (decode cX4_copy 21 = .ok (.invokevirtual 56, 3)) ∧ (decode cX4_copy 24 = .ok (.ifCond .ne 5, 3)) ∧ (decode cX4_copy 27 = .ok (.iconst 0, 1)) ∧ (decode cX4_copy 28 = .ok (.ireturn, 1)) ∧ (decode cX4_copy 29 = .ok (.aload_n 0, 1)) := by decide +kernel
theorem dX4_copy_0 : decode cX4_copy 0 = .ok (.aload_n 0, 1) := bX4_copy_0.1
theorem dX4_copy_1 : decode cX4_copy 1 = .ok (.iload_n 1, 1) := bX4_copy_0.2.1
theorem dX4_copy_2 : decode cX4_copy 2 = .ok (.invokestatic 25, 3) := bX4_copy_0.2.2.1
theorem dX4_copy_5 : decode cX4_copy 5 = .ok (.ifCond .eq 14, 3) := bX4_copy_0.2.2.2.1
theorem dX4_copy_8 : decode cX4_copy 8 = .ok (.iload_n 2, 1) := bX4_copy_0.2.2.2.2.1
theorem dX4_copy_9 : decode cX4_copy 9 = .ok (.invokestatic 25, 3) := bX4_copy_0.2.2.2.2.2.1
theorem dX4_copy_12 : decode cX4_copy 12 = .ok (.ifCond .eq 7, 3) := bX4_copy_0.2.2.2.2.2.2.1
theorem dX4_copy_15 : decode cX4_copy 15 = .ok (.iconst 1, 1) := bX4_copy_0.2.2.2.2.2.2.2.1
theorem dX4_copy_16 : decode cX4_copy 16 = .ok (.goto 4, 3) := bX4_copy_0.2.2.2.2.2.2.2.2.1
theorem dX4_copy_19 : decode cX4_copy 19 = .ok (.iconst 0, 1) := bX4_copy_0.2.2.2.2.2.2.2.2.2.1
theorem dX4_copy_20 : decode cX4_copy 20 = .ok (.iconst 1, 1) := bX4_copy_0.2.2.2.2.2.2.2.2.2.2.1
theorem dX4_copy_21 : decode cX4_copy 21 = .ok (.invokevirtual 56, 3) := bX4_copy_0.2.2.2.2.2.2.2.2.2.2.2.1
theorem dX4_copy_24 : decode cX4_copy 24 = .ok (.ifCond .ne 5, 3) := bX4_copy_0.2.2.2.2.2.2.2.2.2.2.2.2.1
theorem dX4_copy_27 : decode cX4_copy 27 = .ok (.iconst 0, 1) := bX4_copy_0.2.2.2.2.2.2.2.2.2.2.2.2.2.1
theorem dX4_copy_28 : decode cX4_copy 28 = .ok (.ireturn, 1) := bX4_copy_0.2.2.2.2.2.2.2.2.2.2.2.2.2.2.1
theorem dX4_copy_29 : decode cX4_copy 29 = .ok (.aload_n 0, 1) := bX4_copy_0.2.2.2.2.2.2.2.2.2.2.2.2.2.2.2
set_option maxRecDepth 100000 in
theorem bX4_copy_30 : (decode cX4_copy 30 = .ok (.getfield 11, 3)) ∧ (decode cX4_copy 33 = .ok (.iload_n 1, 1)) ∧ (decode cX4_copy 34 = .ok (.aaload, 1)) ∧ (decode cX4_copy 35 = .ok (.arraylength, 1)) ∧ (decode cX4_copy 36 = .ok (.istore_n 3, 1)) ∧ (decode cX4_copy 37 = .ok (.iload_n 3, 1)) ∧ (decode cX4_copy 38 = .ok (.iload_n 2, 1)) ∧ (decode cX4_copy 39 = .ok (.invokestatic 52, 3)) ∧ (decode cX4_copy 42 = .ok (.if_icmp .le 8, 3)) ∧ (decode cX4_copy 45 = .ok (.aload_n 0, 1)) ∧ (decode cX4_copy 46 = .ok (.invokevirtual 70, 3)) ∧ (decode cX4_copy 49 = .ok (.ireturn, 1)) ∧ (decode cX4_copy 50 = .ok (.iload_n 1, 1)) ∧ (decode cX4_copy 51 = .ok (.iload_n 2, 1)) ∧ (decode cX4_copy 52 = .ok (.if_icmp .ne 9, 3)) ∧ (decode cX4_copy 55 = .ok (.aload_n 0, 1)) := by decide +kernel
theorem dX4_copy_30 : decode cX4_copy 30 = .ok (.getfield 11, 3) := bX4_copy_30.1
theorem dX4_copy_33 : decode cX4_copy 33 = .ok (.iload_n 1, 1) := bX4_copy_30.2.1
theorem dX4_copy_34 : decode cX4_copy 34 = .ok (.aaload, 1) := bX4_copy_30.2.2.1
theorem dX4_copy_35 : decode cX4_copy 35 = .ok (.arraylength, 1) := bX4_copy_30.2.2.2.1
theorem dX4_copy_36 : decode cX4_copy 36 = .ok (.istore_n 3, 1) := bX4_copy_30.2.2.2.2.1
theorem dX4_copy_37 : decode cX4_copy 37 = .ok (.iload_n 3, 1) := bX4_copy_30.2.2.2.2.2.1
theorem dX4_copy_38 : decode cX4_copy 38 = .ok (.iload_n 2, 1) := bX4_copy_30.2.2.2.2.2.2.1
theorem dX4_copy_39 : decode cX4_copy 39 = .ok (.invokestatic 52, 3) := bX4_copy_30.2.2.2.2.2.2.2.1
theorem dX4_copy_42 : decode cX4_copy 42 = .ok (.if_icmp .le 8, 3) := bX4_copy_30.2.2.2.2.2.2.2.2.1
theorem dX4_copy_45 : decode cX4_copy 45 = .ok (.aload_n 0, 1) := bX4_copy_30.2.2.2.2.2.2.2.2.2.1
theorem dX4_copy_46 : decode cX4_copy 46 = .ok (.invokevirtual 70, 3) := bX4_copy_30.2.2.2.2.2.2.2.2.2.2.1
theorem dX4_copy_49 : decode cX4_copy 49 = .ok (.ireturn, 1) := bX4_copy_30.2.2.2.2.2.2.2.2.2.2.2.1
theorem dX4_copy_50 : decode cX4_copy 50 = .ok (.iload_n 1, 1) := bX4_copy_30.2.2.2.2.2.2.2.2.2.2.2.2.1
theorem dX4_copy_51 : decode cX4_copy 51 = .ok (.iload_n 2, 1) := bX4_copy_30.2.2.2.2.2.2.2.2.2.2.2.2.2.1
theorem dX4_copy_52 : decode cX4_copy 52 = .ok (.if_icmp .ne 9, 3) := bX4_copy_30.2.2.2.2.2.2.2.2.2.2.2.2.2.2.1
theorem dX4_copy_55 : decode cX4_copy 55 = .ok (.aload_n 0, 1) := bX4_copy_30.2.2.2.2.2.2.2.2.2.2.2.2.2.2.2
set_option maxRecDepth 100000 in
theorem bX4_copy_56 : (decode cX4_copy 56 = .ok (.iload_n 3, 1)) ∧ (decode cX4_copy 57 = .ok (.invokevirtual 65, 3)) ∧ (decode cX4_copy 60 = .ok (.ireturn, 1)) ∧ (decode cX4_copy 61 = .ok (.aload_n 0, 1)) ∧ (decode cX4_copy 62 = .ok (.getfield 14, 3)) ∧ (decode cX4_copy 65 = .ok (.iload_n 2, 1)) ∧ (decode cX4_copy 66 = .ok (.aload_n 0, 1)) ∧ (decode cX4_copy 67 = .ok (.iload_n 1, 1)) ∧ (decode cX4_copy 68 = .ok (.iload_n 2, 1)) ∧ (decode cX4_copy 69 = .ok (.invokevirtual 108, 3)) ∧ (decode cX4_copy 72 = .ok (.aastore, 1)) ∧ (decode cX4_copy 73 = .ok (.aload_n 0, 1)) ∧ (decode cX4_copy 74 = .ok (.getfield 11, 3)) ∧ (decode cX4_copy 77 = .ok (.iload_n 2, 1)) ∧ (decode cX4_copy 78 = .ok (.aload_n 0, 1)) ∧ (decode cX4_copy 79 = .ok (.getfield 11, 3)) := by decide +kernel
theorem dX4_copy_56 : decode cX4_copy 56 = .ok (.iload_n 3, 1) := bX4_copy_56.1
theorem dX4_copy_57 : decode cX4_copy 57 = .ok (.invokevirtual 65, 3) := bX4_copy_56.2.1
theorem dX4_copy_60 : decode cX4_copy 60 = .ok (.ireturn, 1) := bX4_copy_56.2.2.1
theorem dX4_copy_61 : decode cX4_copy 61 = .ok (.aload_n 0, 1) := bX4_copy_56.2.2.2.1
theorem dX4_copy_62 : decode cX4_copy 62 = .ok (.getfield 14, 3) := bX4_copy_56.2.2.2.2.1
theorem dX4_copy_65 : decode cX4_copy 65 = .ok (.iload_n 2, 1) := bX4_copy_56.2.2.2.2.2.1
theorem dX4_copy_66 : decode cX4_copy 66 = .ok (.aload_n 0, 1) := bX4_copy_56.2.2.2.2.2.2.1
theorem dX4_copy_67 : decode cX4_copy 67 = .ok (.iload_n 1, 1) := bX4_copy_56.2.2.2.2.2.2.2.1
theorem dX4_copy_68 : decode cX4_copy 68 = .ok (.iload_n 2, 1) := bX4_copy_56.2.2.2.2.2.2.2.2.1
theorem dX4_copy_69 : decode cX4_copy 69 = .ok (.invokevirtual 108, 3) := bX4_copy_56.2.2.2.2.2.2.2.2.2.1
theorem dX4_copy_72 : decode cX4_copy 72 = .ok (.aastore, 1) := bX4_copy_56.2.2.2.2.2.2.2.2.2.2.1
theorem dX4_copy_73 : decode cX4_copy 73 = .ok (.aload_n 0, 1) := bX4_copy_56.2.2.2.2.2.2.2.2.2.2.2.1
theorem dX4_copy_74 : decode cX4_copy 74 = .ok (.getfield 11, 3) := bX4_copy_56.2.2.2.2.2.2.2.2.2.2.2.2.1
theorem dX4_copy_77 : decode cX4_copy 77 = .ok (.iload_n 2, 1) := bX4_copy_56.2.2.2.2.2.2.2.2.2.2.2.2.2.1
theorem dX4_copy_78 : decode cX4_copy 78 = .ok (.aload_n 0, 1) := bX4_copy_56.2.2.2.2.2.2.2.2.2.2.2.2.2.2.1
theorem dX4_copy_79 : decode cX4_copy 79 = .ok (.getfield 11, 3) := bX4_copy_56.2.2.2.2.2.2.2.2.2.2.2.2.2.2.2
set_option maxRecDepth 100000 in
theorem bX4_copy_82 : (decode cX4_copy 82 = .ok (.iload_n 1, 1)) ∧ (decode cX4_copy 83 = .ok (.aaload, 1)) ∧ (decode cX4_copy 84 = .ok (.iconst 0, 1)) ∧ (decode cX4_copy 85 = .ok (.iload_n 3, 1)) ∧ (decode cX4_copy 86 = .ok (.invokestatic 42, 3)) ∧ (decode cX4_copy 89 = .ok (.aastore, 1)) ∧ (decode cX4_copy 90 = .ok (.aload_n 0, 1)) ∧ (decode cX4_copy 91 = .ok (.iload_n 3, 1)) ∧ (decode cX4_copy 92 = .ok (.invokevirtual 65, 3)) ∧ (decode cX4_copy 95 = .ok (.ireturn, 1)) := by decide +kernel
theorem dX4_copy_82 : decode cX4_copy 82 = .ok (.iload_n 1, 1) := bX4_copy_82.1
theorem dX4_copy_83 : decode cX4_copy 83 = .ok (.aaload, 1) := bX4_copy_82.2.1
theorem dX4_copy_84 : decode cX4_copy 84 = .ok (.iconst 0, 1) := bX4_copy_82.2.2.1
theorem dX4_copy_85 : decode cX4_copy 85 = .ok (.iload_n 3, 1) := bX4_copy_82.2.2.2.1
theorem dX4_copy_86 : decode cX4_copy 86 = .ok (.invokestatic 42, 3) := bX4_copy_82.2.2.2.2.1
theorem dX4_copy_89 : decode cX4_copy 89 = .ok (.aastore, 1) := bX4_copy_82.2.2.2.2.2.1
theorem dX4_copy_90 : decode cX4_copy 90 = .ok (.aload_n 0, 1) := bX4_copy_82.2.2.2.2.2.2.1
theorem dX4_copy_91 : decode cX4_copy 91 = .ok (.iload_n 3, 1) := bX4_copy_82.2.2.2.2.2.2.2.1
theorem dX4_copy_92 : decode cX4_copy 92 = .ok (.invokevirtual 65, 3) := bX4_copy_82.2.2.2.2.2.2.2.2.1
theorem dX4_copy_95 : decode cX4_copy 95 = .ok (.ireturn, 1) := bX4_copy_82.2.2.2.2.2.2.2.2.2
set_option maxRecDepth 100000 in
theorem bX4_join_0 : (decode cX4_join 0 = .ok (.aload_n 0, 1)) ∧ (decode cX4_join 1 = .ok (.iload_n 1, 1)) ∧ (decode cX4_join 2 = .ok (.invokestatic 25, 3)) ∧ (decode cX4_join 5 = .ok (.ifCond .eq 14, 3)) ∧ (decode cX4_join 8 = .ok (.iload_n 2, 1)) ∧ (decode cX4_join 9 = .ok (.invokestatic 25, 3)) ∧ (decode cX4_join 12 = .ok (.ifCond .eq 7, 3)) ∧ (decode cX4_join 15 = .ok (.iconst 1, 1)) ∧ (decode cX4_join 16 = .ok (.goto 4, 3)) ∧ (decode cX4_join 19 = .ok (.iconst 0, 1)) ∧ (decode cX4_join 20 = .ok (.iconst 1, 1)) ∧ (decode cX4_join 21 = .ok (.invokevirtual 56, 3)) ∧ (decode cX4_join 24 = .ok (.ifCond .ne 5, 3)) ∧ (decode cX4_join 27 = .ok (.iconst 0, 1)) ∧ (decode cX4_join 28 = .ok (.ireturn, 1)) ∧ (decode cX4_join 29 = .ok (.aload_n 0, 1)) := by decide +kernel
theorem dX4_join_0 : decode cX4_join 0 = .ok (.aload_n 0, 1) := bX4_join_0.1
theorem dX4_join_1 : decode cX4_join 1 = .ok (.iload_n 1, 1) := bX4_join_0.2.1
theorem dX4_join_2 : decode cX4_join 2 = .ok (.invokestatic 25, 3) := bX4_join_0.2.2.1
theorem dX4_join_5 : decode cX4_join 5 = .ok (.ifCond .eq 14, 3) := bX4_join_0.2.2.2.1
theorem dX4_join_8 : decode cX4_join 8 = .ok (.iload_n 2, 1) := bX4_join_0.2.2.2.2.1
theorem dX4_join_9 : decode cX4_join 9 = .ok (.invokestatic 25, 3) := bX4_join_0.2.2.2.2.2.1
theorem dX4_join_12 : decode cX4_join 12 = .ok (.ifCond .eq 7, 3) := bX4_join_0.2.2.2.2.2.2.1
theorem dX4_join_15 : decode cX4_join 15 = .ok (.iconst 1, 1) := bX4_join_0.2.2.2.2.2.2.2.1
theorem dX4_join_16 : decode cX4_join 16 = .ok (.goto 4, 3) := bX4_join_0.2.2.2.2.2.2.2.2.1
theorem dX4_join_19 : decode cX4_join 19 = .ok (.iconst 0, 1) := bX4_join_0.2.2.2.2.2.2.2.2.2.1
theorem dX4_join_20 : decode cX4_join 20 = .ok (.iconst 1, 1) := bX4_join_0.2.2.2.2.2.2.2.2.2.2.1
theorem dX4_join_21 : decode cX4_join 21 = .ok (.invokevirtual 56, 3) := bX4_join_0.2.2.2.2.2.2.2.2.2.2.2.1
theorem dX4_join_24 : decode cX4_join 24 = .ok (.ifCond .ne 5, 3) := bX4_join_0.2.2.2.2.2.2.2.2.2.2.2.2.1
theorem dX4_join_27 : decode cX4_join 27 = .ok (.iconst 0, 1) := bX4_join_0.2.2.2.2.2.2.2.2.2.2.2.2.2.1
theorem dX4_join_28 : decode cX4_join 28 = .ok (.ireturn, 1) := bX4_join_0.2.2.2.2.2.2.2.2.2.2.2.2.2.2.1
theorem dX4_join_29 : decode cX4_join 29 = .ok (.aload_n 0, 1) := bX4_join_0.2.2.2.2.2.2.2.2.2.2.2.2.2.2.2
set_option maxRecDepth 100000 in
theorem bX4_join_30 : (decode cX4_join 30 = .ok (.getfield 11, 3)) ∧ (decode cX4_join 33 = .ok (.iload_n 1, 1)) ∧ (decode cX4_join 34 = .ok (.aaload, 1)) ∧ (decode cX4_join 35 = .ok (.arraylength, 1)) ∧ (decode cX4_join 36 = .ok (.aload_n 0, 1)) ∧ (decode cX4_join 37 = .ok (.getfield 11, 3)) ∧ (decode cX4_join 40 = .ok (.iload_n 2, 1)) ∧ (decode cX4_join 41 = .ok (.aaload, 1)) ∧ (decode cX4_join 42 = .ok (.arraylength, 1)) ∧ (decode cX4_join 43 = .ok (.iadd, 1)) ∧ (decode cX4_join 44 = .ok (.iload_n 1, 1)) ∧ (decode cX4_join 45 = .ok (.invokestatic 52, 3)) ∧ (decode cX4_join 48 = .ok (.if_icmp .le 8, 3)) ∧ (decode cX4_join 51 = .ok (.aload_n 0, 1)) ∧ (decode cX4_join 52 = .ok (.invokevirtual 70, 3)) ∧ (decode cX4_join 55 = .ok (.ireturn, 1)) := by decide +kernel
theorem dX4_join_30 : decode cX4_join 30 = .ok (.getfield 11, 3) := bX4_join_30.1
theorem dX4_join_33 : decode cX4_join 33 = .ok (.iload_n 1, 1) := bX4_join_30.2.1
theorem dX4_join_34 : decode cX4_join 34 = .ok (.aaload, 1) := bX4_join_30.2.2.1
theorem dX4_join_35 : decode cX4_join 35 = .ok (.arraylength, 1) := bX4_join_30.2.2.2.1
theorem dX4_join_36 : decode cX4_join 36 = .ok (.aload_n 0, 1) := bX4_join_30.2.2.2.2.1
theorem dX4_join_37 : decode cX4_join 37 = .ok (.getfield 11, 3) := bX4_join_30.2.2.2.2.2.1
theorem dX4_join_40 : decode cX4_join 40 = .ok (.iload_n 2, 1) := bX4_join_30.2.2.2.2.2.2.1
theorem dX4_join_41 : decode cX4_join 41 = .ok (.aaload, 1) := bX4_join_30.2.2.2.2.2.2.2.1
theorem dX4_join_42 : decode cX4_join 42 = .ok (.arraylength, 1) := bX4_join_30.2.2.2.2.2.2.2.2.1
theorem dX4_join_43 : decode cX4_join 43 = .ok (.iadd, 1) := bX4_join_30.2.2.2.2.2.2.2.2.2.1
theorem dX4_join_44 : decode cX4_join 44 = .ok (.iload_n 1, 1) := bX4_join_30.2.2.2.2.2.2.2.2.2.2.1
theorem dX4_join_45 : decode cX4_join 45 = .ok (.invokestatic 52, 3) := bX4_join_30.2.2.2.2.2.2.2.2.2.2.2.1
theorem dX4_join_48 : decode cX4_join 48 = .ok (.if_icmp .le 8, 3) := bX4_join_30.2.2.2.2.2.2.2.2.2.2.2.2.1
theorem dX4_join_51 : decode cX4_join 51 = .ok (.aload_n 0, 1) := bX4_join_30.2.2.2.2.2.2.2.2.2.2.2.2.2.1
theorem dX4_join_52 : decode cX4_join 52 = .ok (.invokevirtual 70, 3) := bX4_join_30.2.2.2.2.2.2.2.2.2.2.2.2.2.2.1
theorem dX4_join_55 : decode cX4_join 55 = .ok (.ireturn, 1) := bX4_join_30.2.2.2.2.2.2.2.2.2.2.2.2.2.2.2
set_option maxRecDepth 100000 in
theorem bX4_join_56 : (decode cX4_join 56 = .ok (.aload_n 0, 1)) ∧ (decode cX4_join 57 = .ok (.getfield 14, 3)) ∧ (decode cX4_join 60 = .ok (.iload_n 1, 1)) ∧ (decode cX4_join 61 = .ok (.aload_n 0, 1)) ∧ (decode cX4_join 62 = .ok (.getfield 14, 3)) ∧ (decode cX4_join 65 = .ok (.iload_n 1, 1)) ∧ (decode cX4_join 66 = .ok (.aaload, 1)) ∧ (decode cX4_join 67 = .ok (.aload_n 0, 1)) ∧ (decode cX4_join 68 = .ok (.iload_n 2, 1)) ∧ (decode cX4_join 69 = .ok (.iload_n 1, 1)) ∧ (decode cX4_join 70 = .ok (.invokevirtual 108, 3)) ∧ (decode cX4_join 73 = .ok (.invokestatic 74, 3)) ∧ (decode cX4_join 76 = .ok (.aastore, 1)) ∧ (decode cX4_join 77 = .ok (.aload_n 0, 1)) ∧ (decode cX4_join 78 = .ok (.getfield 11, 3)) ∧ (decode cX4_join 81 = .ok (.iload_n 1, 1)) := by decide +kernel
theorem dX4_join_56 : decode cX4_join 56 = .ok (.aload_n 0, 1) := bX4_join_56.1
theorem dX4_join_57 : decode cX4_join 57 = .ok (.getfield 14, 3) := bX4_join_56.2.1
theorem dX4_join_60 : decode cX4_join 60 = .ok (.iload_n 1, 1) := bX4_join_56.2.2.1
theorem dX4_join_61 : decode cX4_join 61 = .ok (.aload_n 0, 1) := bX4_join_56.2.2.2.1
theorem dX4_join_62 : decode cX4_join 62 = .ok (.getfield 14, 3) := bX4_join_56.2.2.2.2.1
theorem dX4_join_65 : decode cX4_join 65 = .ok (.iload_n 1, 1) := bX4_join_56.2.2.2.2.2.1
theorem dX4_join_66 : decode cX4_join 66 = .ok (.aaload, 1) := bX4_join_56.2.2.2.2.2.2.1
theorem dX4_join_67 : decode cX4_join 67 = .ok (.aload_n 0, 1) := bX4_join_56.2.2.2.2.2.2.2.1
theorem dX4_join_68 : decode cX4_join 68 = .ok (.iload_n 2, 1) := bX4_join_56.2.2.2.2.2.2.2.2.1
theorem dX4_join_69 : decode cX4_join 69 = .ok (.iload_n 1, 1) := bX4_join_56.2.2.2.2.2.2.2.2.2.1
theorem dX4_join_70 : decode cX4_join 70 = .ok (.invokevirtual 108, 3) := bX4_join_56.2.2.2.2.2.2.2.2.2.2.1
theorem dX4_join_73 : decode cX4_join 73 = .ok (.invokestatic 74, 3) := bX4_join_56.2.2.2.2.2.2.2.2.2.2.2.1
theorem dX4_join_76 : decode cX4_join 76 = .ok (.aastore, 1) := bX4_join_56.2.2.2.2.2.2.2.2.2.2.2.2.1
theorem dX4_join_77 : decode cX4_join 77 = .ok (.aload_n 0, 1) := bX4_join_56.2.2.2.2.2.2.2.2.2.2.2.2.2.1
theorem dX4_join_78 : decode cX4_join 78 = .ok (.getfield 11, 3) := bX4_join_56.2.2.2.2.2.2.2.2.2.2.2.2.2.2.1
theorem dX4_join_81 : decode cX4_join 81 = .ok (.iload_n 1, 1) := bX4_join_56.2.2.2.2.2.2.2.2.2.2.2.2.2.2.2
set_option maxRecDepth 100000 in
theorem bX4_join_82 : (decode cX4_join 82 = .ok (.aload_n 0, 1)) ∧ (decode cX4_join 83 = .ok (.getfield 11, 3)) ∧ (decode cX4_join 86 = .ok (.iload_n 1, 1)) ∧ (decode cX4_join 87 = .ok (.aaload, 1)) ∧ (decode cX4_join 88 = .ok (.aload_n 0, 1)) ∧ (decode cX4_join 89 = .ok (.getfield 11, 3)) ∧ (decode cX4_join 92 = .ok (.iload_n 2, 1)) ∧ (decode cX4_join 93 = .ok (.aaload, 1)) ∧ (decode cX4_join 94 = .ok (.invokestatic 74, 3)) ∧ (decode cX4_join 97 = .ok (.aastore, 1)) ∧ (decode cX4_join 98 = .ok (.aload_n 0, 1)) ∧ (decode cX4_join 99 = .ok (.aload_n 0, 1)) ∧ (decode cX4_join 100 = .ok (.getfield 11, 3)) ∧ (decode cX4_join 103 = .ok (.iload_n 1, 1)) ∧ (decode cX4_join 104 = .ok (.aaload, 1)) ∧ (decode cX4_join 105 = .ok (.arraylength, 1)) := by decide +kernel
theorem dX4_join_82 : decode cX4_join 82 = .ok (.aload_n 0, 1) := bX4_join_82.1
theorem dX4_join_83 : decode cX4_join 83 = .ok (.getfield 11, 3) := bX4_join_82.2.1
theorem dX4_join_86 : decode cX4_join 86 = .ok (.iload_n 1, 1) := bX4_join_82.2.2.1
theorem dX4_join_87 : decode cX4_join 87 = .ok (.aaload, 1) := bX4_join_82.2.2.2.1
theorem dX4_join_88 : decode cX4_join 88 = .ok (.aload_n 0, 1) := bX4_join_82.2.2.2.2.1
theorem dX4_join_89 : decode cX4_join 89 = .ok (.getfield 11, 3) := bX4_join_82.2.2.2.2.2.1
theorem dX4_join_92 : decode cX4_join 92 = .ok (.iload_n 2, 1) := bX4_join_82.2.2.2.2.2.2.1
theorem dX4_join_93 : decode cX4_join 93 = .ok (.aaload, 1) := bX4_join_82.2.2.2.2.2.2.2.1
theorem dX4_join_94 : decode cX4_join 94 = .ok (.invokestatic 74, 3) := bX4_join_82.2.2.2.2.2.2.2.2.1
theorem dX4_join_97 : decode cX4_join 97 = .ok (.aastore, 1) := bX4_join_82.2.2.2.2.2.2.2.2.2.1
theorem dX4_join_98 : decode cX4_join 98 = .ok (.aload_n 0, 1) := bX4_join_82.2.2.2.2.2.2.2.2.2.2.1
theorem dX4_join_99 : decode cX4_join 99 = .ok (.aload_n 0, 1) := bX4_join_82.2.2.2.2.2.2.2.2.2.2.2.1
theorem dX4_join_100 : decode cX4_join 100 = .ok (.getfield 11, 3) := bX4_join_82.2.2.2.2.2.2.2.2.2.2.2.2.1
theorem dX4_join_103 : decode cX4_join 103 = .ok (.iload_n 1, 1) := bX4_join_82.2.2.2.2.2.2.2.2.2.2.2.2.2.1
theorem dX4_join_104 : decode cX4_join 104 = .ok (.aaload, 1) := bX4_join_82.2.2.2.2.2.2.2.2.2.2.2.2.2.2.1
theorem dX4_join_105 : decode cX4_join 105 = .ok (.arraylength, 1) := bX4_join_82.2.2.2.2.2.2.2.2.2.2.2.2.2.2.2
set_option maxRecDepth 100000 in
theorem bX4_join_106 : (decode cX4_join 106 = .ok (.invokevirtual 65, 3)) ∧ (decode cX4_join 109 = .ok (.ireturn, 1)) := by decide +kernel
theorem dX4_join_106 : decode cX4_join 106 = .ok (.invokevirtual 65, 3) := bX4_join_106.1
theorem dX4_join_109 : decode cX4_join 109 = .ok (.ireturn, 1) := bX4_join_106.2
set_option maxRecDepth 100000 in
theorem bX4_merge_0 : (decode cX4_merge 0 = .ok (.aload_n 0, 1)) ∧ (decode cX4_merge 1 = .ok (.iload_n 1, 1)) ∧ (decode cX4_merge 2 = .ok (.invokestatic 25, 3)) ∧ (decode cX4_merge 5 = .ok (.ifCond .eq 14, 3)) ∧ (decode cX4_merge 8 = .ok (.iload_n 2, 1)) ∧ (decode cX4_merge 9 = .ok (.invokestatic 25, 3)) ∧ (decode cX4_merge 12 = .ok (.ifCond .eq 7, 3)) ∧ (decode cX4_merge 15 = .ok (.iconst 1, 1)) ∧ (decode cX4_merge 16 = .ok (.goto 4, 3)) ∧ (decode cX4_merge 19 = .ok (.iconst 0, 1)) ∧ (decode cX4_merge 20 = .ok (.iconst 1, 1)) ∧ (decode cX4_merge 21 = .ok (.invokevirtual 56, 3)) ∧ (decode cX4_merge 24 = .ok (.ifCond .ne 5, 3)) ∧ (decode cX4_merge 27 = .ok (.iconst 0, 1)) ∧ (decode cX4_merge 28 = .ok (.ireturn, 1)) ∧ (decode cX4_merge 29 = .ok (.aload_n 0, 1)) := by decide +kernel
theorem dX4_merge_0 : decode cX4_merge 0 = .ok (.aload_n 0, 1) := bX4_merge_0.1
theorem dX4_merge_1 : decode cX4_merge 1 = .ok (.iload_n 1, 1) := bX4_merge_0.2.1
theorem dX4_merge_2 : decode cX4_merge 2 = .ok (.invokestatic 25, 3) := bX4_merge_0.2.2.1
theorem dX4_merge_5 : decode cX4_merge 5 = .ok (.ifCond .eq 14, 3) := bX4_merge_0.2.2.2.1
theorem dX4_merge_8 : decode cX4_merge 8 = .ok (.iload_n 2, 1) := bX4_merge_0.2.2.2.2.1
theorem dX4_merge_9 : decode cX4_merge 9 = .ok (.invokestatic 25, 3) := bX4_merge_0.2.2.2.2.2.1
theorem dX4_merge_12 : decode cX4_merge 12 = .ok (.ifCond .eq 7, 3) := bX4_merge_0.2.2.2.2.2.2.1
theorem dX4_merge_15 : decode cX4_merge 15 = .ok (.iconst 1, 1) := bX4_merge_0.2.2.2.2.2.2.2.1
theorem dX4_merge_16 : decode cX4_merge 16 = .ok (.goto 4, 3) := bX4_merge_0.2.2.2.2.2.2.2.2.1
theorem dX4_merge_19 : decode cX4_merge 19 = .ok (.iconst 0, 1) := bX4_merge_0.2.2.2.2.2.2.2.2.2.1
theorem dX4_merge_20 : decode cX4_merge 20 = .ok (.iconst 1, 1) := bX4_merge_0.2.2.2.2.2.2.2.2.2.2.1
theorem dX4_merge_21 : decode cX4_merge 21 = .ok (.invokevirtual 56, 3) := bX4_merge_0.2.2.2.2.2.2.2.2.2.2.2.1
theorem dX4_merge_24 : decode cX4_merge 24 = .ok (.ifCond .ne 5, 3) := bX4_merge_0.2.2.2.2.2.2.2.2.2.2.2.2.1
theorem dX4_merge_27 : decode cX4_merge 27 = .ok (.iconst 0, 1) := bX4_merge_0.2.2.2.2.2.2.2.2.2.2.2.2.2.1
theorem dX4_merge_28 : decode cX4_merge 28 = .ok (.ireturn, 1) := bX4_merge_0.2.2.2.2.2.2.2.2.2.2.2.2.2.2.1
theorem dX4_merge_29 : decode cX4_merge 29 = .ok (.aload_n 0, 1) := bX4_merge_0.2.2.2.2.2.2.2.2.2.2.2.2.2.2.2
set_option maxRecDepth 100000 in
theorem bX4_merge_30 : (decode cX4_merge 30 = .ok (.iload_n 1, 1)) ∧ (decode cX4_merge 31 = .ok (.iconst 1, 1)) ∧ (decode cX4_merge 32 = .ok (.invokevirtual 86, 3)) ∧ (decode cX4_merge 35 = .ok (.ifCond .gt 34, 3)) ∧ (decode cX4_merge 38 = .ok (.aload_n 0, 1)) ∧ (decode cX4_merge 39 = .ok (.iload_n 2, 1)) ∧ (decode cX4_merge 40 = .ok (.iconst 1, 1)) ∧ (decode cX4_merge 41 = .ok (.invokevirtual 86, 3)) ∧ (decode cX4_merge 44 = .ok (.ifCond .gt 25, 3)) ∧ (decode cX4_merge 47 = .ok (.aload_n 0, 1)) ∧ (decode cX4_merge 48 = .ok (.getfield 11, 3)) ∧ (decode cX4_merge 51 = .ok (.iload_n 1, 1)) ∧ (decode cX4_merge 52 = .ok (.aaload, 1)) ∧ (decode cX4_merge 53 = .ok (.arraylength, 1)) ∧ (decode cX4_merge 54 = .ok (.aload_n 0, 1)) ∧ (decode cX4_merge 55 = .ok (.getfield 11, 3)) := by decide +kernel
theorem dX4_merge_30 : decode cX4_merge 30 = .ok (.iload_n 1, 1) := bX4_merge_30.1
theorem dX4_merge_31 : decode cX4_merge 31 = .ok (.iconst 1, 1) := bX4_merge_30.2.1
theorem dX4_merge_32 : decode cX4_merge 32 = .ok (.invokevirtual 86, 3) := bX4_merge_30.2.2.1
theorem dX4_merge_35 : decode cX4_merge 35 = .ok (.ifCond .gt 34, 3) := bX4_merge_30.2.2.2.1
theorem dX4_merge_38 : decode cX4_merge 38 = .ok (.aload_n 0, 1) := bX4_merge_30.2.2.2.2.1
theorem dX4_merge_39 : decode cX4_merge 39 = .ok (.iload_n 2, 1) := bX4_merge_30.2.2.2.2.2.1
theorem dX4_merge_40 : decode cX4_merge 40 = .ok (.iconst 1, 1) := bX4_merge_30.2.2.2.2.2.2.1
theorem dX4_merge_41 : decode cX4_merge 41 = .ok (.invokevirtual 86, 3) := bX4_merge_30.2.2.2.2.2.2.2.1
theorem dX4_merge_44 : decode cX4_merge 44 = .ok (.ifCond .gt 25, 3) := bX4_merge_30.2.2.2.2.2.2.2.2.1
theorem dX4_merge_47 : decode cX4_merge 47 = .ok (.aload_n 0, 1) := bX4_merge_30.2.2.2.2.2.2.2.2.2.1
theorem dX4_merge_48 : decode cX4_merge 48 = .ok (.getfield 11, 3) := bX4_merge_30.2.2.2.2.2.2.2.2.2.2.1
theorem dX4_merge_51 : decode cX4_merge 51 = .ok (.iload_n 1, 1) := bX4_merge_30.2.2.2.2.2.2.2.2.2.2.2.1
theorem dX4_merge_52 : decode cX4_merge 52 = .ok (.aaload, 1) := bX4_merge_30.2.2.2.2.2.2.2.2.2.2.2.2.1
theorem dX4_merge_53 : decode cX4_merge 53 = .ok (.arraylength, 1) := bX4_merge_30.2.2.2.2.2.2.2.2.2.2.2.2.2.1
theorem dX4_merge_54 : decode cX4_merge 54 = .ok (.aload_n 0, 1) := bX4_merge_30.2.2.2.2.2.2.2.2.2.2.2.2.2.2.1
theorem dX4_merge_55 : decode cX4_merge 55 = .ok (.getfield 11, 3) := bX4_merge_30.2.2.2.2.2.2.2.2.2.2.2.2.2.2.2
set_option maxRecDepth 100000 in
theorem bX4_merge_58 : (decode cX4_merge 58 = .ok (.iload_n 2, 1)) ∧ (decode cX4_merge 59 = .ok (.aaload, 1)) ∧ (decode cX4_merge 60 = .ok (.arraylength, 1)) ∧ (decode cX4_merge 61 = .ok (.iadd, 1)) ∧ (decode cX4_merge 62 = .ok (.iload_n 1, 1)) ∧ (decode cX4_merge 63 = .ok (.invokestatic 52, 3)) ∧ (decode cX4_merge 66 = .ok (.if_icmp .le 8, 3)) ∧ (decode cX4_merge 69 = .ok (.aload_n 0, 1)) ∧ (decode cX4_merge 70 = .ok (.invokevirtual 70, 3)) ∧ (decode cX4_merge 73 = .ok (.ireturn, 1)) ∧ (decode cX4_merge 74 = .ok (.aload_n 0, 1)) ∧ (decode cX4_merge 75 = .ok (.getfield 14, 3)) ∧ (decode cX4_merge 78 = .ok (.iload_n 1, 1)) ∧ (decode cX4_merge 79 = .ok (.aload_n 0, 1)) ∧ (decode cX4_merge 80 = .ok (.getfield 14, 3)) ∧ (decode cX4_merge 83 = .ok (.iload_n 1, 1)) := by decide +kernel
theorem dX4_merge_58 : decode cX4_merge 58 = .ok (.iload_n 2, 1) := bX4_merge_58.1
theorem dX4_merge_59 : decode cX4_merge 59 = .ok (.aaload, 1) := bX4_merge_58.2.1
theorem dX4_merge_60 : decode cX4_merge 60 = .ok (.arraylength, 1) := bX4_merge_58.2.2.1
theorem dX4_merge_61 : decode cX4_merge 61 = .ok (.iadd, 1) := bX4_merge_58.2.2.2.1
theorem dX4_merge_62 : decode cX4_merge 62 = .ok (.iload_n 1, 1) := bX4_merge_58.2.2.2.2.1
theorem dX4_merge_63 : decode cX4_merge 63 = .ok (.invokestatic 52, 3) := bX4_merge_58.2.2.2.2.2.1
theorem dX4_merge_66 : decode cX4_merge 66 = .ok (.if_icmp .le 8, 3) := bX4_merge_58.2.2.2.2.2.2.1
theorem dX4_merge_69 : decode cX4_merge 69 = .ok (.aload_n 0, 1) := bX4_merge_58.2.2.2.2.2.2.2.1
theorem dX4_merge_70 : decode cX4_merge 70 = .ok (.invokevirtual 70, 3) := bX4_merge_58.2.2.2.2.2.2.2.2.1
theorem dX4_merge_73 : decode cX4_merge 73 = .ok (.ireturn, 1) := bX4_merge_58.2.2.2.2.2.2.2.2.2.1
theorem dX4_merge_74 : decode cX4_merge 74 = .ok (.aload_n 0, 1) := bX4_merge_58.2.2.2.2.2.2.2.2.2.2.1
theorem dX4_merge_75 : decode cX4_merge 75 = .ok (.getfield 14, 3) := bX4_merge_58.2.2.2.2.2.2.2.2.2.2.2.1
theorem dX4_merge_78 : decode cX4_merge 78 = .ok (.iload_n 1, 1) := bX4_merge_58.2.2.2.2.2.2.2.2.2.2.2.2.1
theorem dX4_merge_79 : decode cX4_merge 79 = .ok (.aload_n 0, 1) := bX4_merge_58.2.2.2.2.2.2.2.2.2.2.2.2.2.1
theorem dX4_merge_80 : decode cX4_merge 80 = .ok (.getfield 14, 3) := bX4_merge_58.2.2.2.2.2.2.2.2.2.2.2.2.2.2.1
theorem dX4_merge_83 : decode cX4_merge 83 = .ok (.iload_n 1, 1) := bX4_merge_58.2.2.2.2.2.2.2.2.2.2.2.2.2.2.2
set_option maxRecDepth 100000 in
theorem bX4_merge_84 : (decode cX4_merge 84 = .ok (.aaload, 1)) ∧ (decode cX4_merge 85 = .ok (.aload_n 0, 1)) ∧ (decode cX4_merge 86 = .ok (.iload_n 2, 1)) ∧ (decode cX4_merge 87 = .ok (.iload_n 1, 1)) ∧ (decode cX4_merge 88 = .ok (.invokevirtual 108, 3)) ∧ (decode cX4_merge 91 = .ok (.invokestatic 74, 3)) ∧ (decode cX4_merge 94 = .ok (.aastore, 1)) ∧ (decode cX4_merge 95 = .ok (.aload_n 0, 1)) ∧ (decode cX4_merge 96 = .ok (.getfield 11, 3)) ∧ (decode cX4_merge 99 = .ok (.iload_n 1, 1)) ∧ (decode cX4_merge 100 = .ok (.aload_n 0, 1)) ∧ (decode cX4_merge 101 = .ok (.getfield 11, 3)) ∧ (decode cX4_merge 104 = .ok (.iload_n 1, 1)) ∧ (decode cX4_merge 105 = .ok (.aaload, 1)) ∧ (decode cX4_merge 106 = .ok (.aload_n 0, 1)) ∧ (decode cX4_merge 107 = .ok (.getfield 11, 3)) := by decide +kernel
theorem dX4_merge_84 : decode cX4_merge 84 = .ok (.aaload, 1) := bX4_merge_84.1
theorem dX4_merge_85 : decode cX4_merge 85 = .ok (.aload_n 0, 1) := bX4_merge_84.2.1
theorem dX4_merge_86 : decode cX4_merge 86 = .ok (.iload_n 2, 1) := bX4_merge_84.2.2.1
theorem dX4_merge_87 : decode cX4_merge 87 = .ok (.iload_n 1, 1) := bX4_merge_84.2.2.2.1
theorem dX4_merge_88 : decode cX4_merge 88 = .ok (.invokevirtual 108, 3) := bX4_merge_84.2.2.2.2.1
theorem dX4_merge_91 : decode cX4_merge 91 = .ok (.invokestatic 74, 3) := bX4_merge_84.2.2.2.2.2.1
theorem dX4_merge_94 : decode cX4_merge 94 = .ok (.aastore, 1) := bX4_merge_84.2.2.2.2.2.2.1
theorem dX4_merge_95 : decode cX4_merge 95 = .ok (.aload_n 0, 1) := bX4_merge_84.2.2.2.2.2.2.2.1
theorem dX4_merge_96 : decode cX4_merge 96 = .ok (.getfield 11, 3) := bX4_merge_84.2.2.2.2.2.2.2.2.1
theorem dX4_merge_99 : decode cX4_merge 99 = .ok (.iload_n 1, 1) := bX4_merge_84.2.2.2.2.2.2.2.2.2.1
theorem dX4_merge_100 : decode cX4_merge 100 = .ok (.aload_n 0, 1) := bX4_merge_84.2.2.2.2.2.2.2.2.2.2.1
theorem dX4_merge_101 : decode cX4_merge 101 = .ok (.getfield 11, 3) := bX4_merge_84.2.2.2.2.2.2.2.2.2.2.2.1
theorem dX4_merge_104 : decode cX4_merge 104 = .ok (.iload_n 1, 1) := bX4_merge_84.2.2.2.2.2.2.2.2.2.2.2.2.1
theorem dX4_merge_105 : decode cX4_merge 105 = .ok (.aaload, 1) := bX4_merge_84.2.2.2.2.2.2.2.2.2.2.2.2.2.1
theorem dX4_merge_106 : decode cX4_merge 106 = .ok (.aload_n 0, 1) := bX4_merge_84.2.2.2.2.2.2.2.2.2.2.2.2.2.2.1
theorem dX4_merge_107 : decode cX4_merge 107 = .ok (.getfield 11, 3) := bX4_merge_84.2.2.2.2.2.2.2.2.2.2.2.2.2.2.2
set_option maxRecDepth 100000 in
theorem bX4_merge_110 : (decode cX4_merge 110 = .ok (.iload_n 2, 1)) ∧ (decode cX4_merge 111 = .ok (.aaload, 1)) ∧ (decode cX4_merge 112 = .ok (.invokestatic 74, 3)) ∧ (decode cX4_merge 115 = .ok (.aastore, 1)) ∧ (decode cX4_merge 116 = .ok (.aload_n 0, 1)) ∧ (decode cX4_merge 117 = .ok (.iload_n 1, 1)) ∧ (decode cX4_merge 118 = .ok (.aload_n 0, 1)) ∧ (decode cX4_merge 119 = .ok (.iload_n 1, 1)) ∧ (decode cX4_merge 120 = .ok (.invokevirtual 104, 3)) ∧ (decode cX4_merge 123 = .ok (.invokevirtual 82, 3)) ∧ (decode cX4_merge 126 = .ok (.aload_n 0, 1)) ∧ (decode cX4_merge 127 = .ok (.aload_n 0, 1)) ∧ (decode cX4_merge 128 = .ok (.getfield 11, 3)) ∧ (decode cX4_merge 131 = .ok (.iload_n 1, 1)) ∧ (decode cX4_merge 132 = .ok (.aaload, 1)) ∧ (decode cX4_merge 133 = .ok (.arraylength, 1)) := by decide +kernel
theorem dX4_merge_110 : decode cX4_merge 110 = .ok (.iload_n 2, 1) := bX4_merge_110.1
theorem dX4_merge_111 : decode cX4_merge 111 = .ok (.aaload, 1) := bX4_merge_110.2.1
theorem dX4_merge_112 : decode cX4_merge 112 = .ok (.invokestatic 74, 3) := bX4_merge_110.2.2.1
theorem dX4_merge_115 : decode cX4_merge 115 = .ok (.aastore, 1) := bX4_merge_110.2.2.2.1
theorem dX4_merge_116 : decode cX4_merge 116 = .ok (.aload_n 0, 1) := bX4_merge_110.2.2.2.2.1
theorem dX4_merge_117 : decode cX4_merge 117 = .ok (.iload_n 1, 1) := bX4_merge_110.2.2.2.2.2.1
theorem dX4_merge_118 : decode cX4_merge 118 = .ok (.aload_n 0, 1) := bX4_merge_110.2.2.2.2.2.2.1
theorem dX4_merge_119 : decode cX4_merge 119 = .ok (.iload_n 1, 1) := bX4_merge_110.2.2.2.2.2.2.2.1
theorem dX4_merge_120 : decode cX4_merge 120 = .ok (.invokevirtual 104, 3) := bX4_merge_110.2.2.2.2.2.2.2.2.1
theorem dX4_merge_123 : decode cX4_merge 123 = .ok (.invokevirtual 82, 3) := bX4_merge_110.2.2.2.2.2.2.2.2.2.1
theorem dX4_merge_126 : decode cX4_merge 126 = .ok (.aload_n 0, 1) := bX4_merge_110.2.2.2.2.2.2.2.2.2.2.1
theorem dX4_merge_127 : decode cX4_merge 127 = .ok (.aload_n 0, 1) := bX4_merge_110.2.2.2.2.2.2.2.2.2.2.2.1
theorem dX4_merge_128 : decode cX4_merge 128 = .ok (.getfield 11, 3) := bX4_merge_110.2.2.2.2.2.2.2.2.2.2.2.2.1
theorem dX4_merge_131 : decode cX4_merge 131 = .ok (.iload_n 1, 1) := bX4_merge_110.2.2.2.2.2.2.2.2.2.2.2.2.2.1
theorem dX4_merge_132 : decode cX4_merge 132 = .ok (.aaload, 1) := bX4_merge_110.2.2.2.2.2.2.2.2.2.2.2.2.2.2.1
theorem dX4_merge_133 : decode cX4_merge 133 = .ok (.arraylength, 1) := bX4_merge_110.2.2.2.2.2.2.2.2.2.2.2.2.2.2.2
set_option maxRecDepth 100000 in
theorem bX4_merge_134 : (decode cX4_merge 134 = .ok (.invokevirtual 65, 3)) ∧ (decode cX4_merge 137 = .ok (.ireturn, 1)) := by decide +kernel
theorem dX4_merge_134 : decode cX4_merge 134 = .ok (.invokevirtual 65, 3) := bX4_merge_134.1
theorem dX4_merge_137 : decode cX4_merge 137 = .ok (.ireturn, 1) := bX4_merge_134.2
set_option maxRecDepth 100000 in
theorem bX4_many_0 : (decode cX4_many 0 = .ok (.aload_n 0, 1)) ∧ (decode cX4_many 1 = .ok (.iload_n 1, 1)) ∧ (decode cX4_many 2 = .ok (.invokestatic 25, 3)) ∧ (decode cX4_many 5 = .ok (.iconst 1, 1)) ∧ (decode cX4_many 6 = .ok (.invokevirtual 56, 3)) ∧ (decode cX4_many 9 = .ok (.ifCond .eq 13, 3)) ∧ (decode cX4_many 12 = .ok (.aload_n 0, 1)) ∧ (decode cX4_many 13 = .ok (.getfield 11, 3)) ∧ (decode cX4_many 16 = .ok (.iload_n 1, 1)) ∧ (decode cX4_many 17 = .ok (.aaload, 1)) ∧ (decode cX4_many 18 = .ok (.arraylength, 1)) ∧ (decode cX4_many 19 = .ok (.goto 4, 3)) ∧ (decode cX4_many 22 = .ok (.iconst 0, 1)) ∧ (decode cX4_many 23 = .ok (.ireturn, 1)) := by decide +kernel
theorem dX4_many_0 : decode cX4_many 0 = .ok (.aload_n 0, 1) := bX4_many_0.1
theorem dX4_many_1 : decode cX4_many 1 = .ok (.iload_n 1, 1) := bX4_many_0.2.1
theorem dX4_many_2 : decode cX4_many 2 = .ok (.invokestatic 25, 3) := bX4_many_0.2.2.1
theorem dX4_many_5 : decode cX4_many 5 = .ok (.iconst 1, 1) := bX4_many_0.2.2.2.1
theorem dX4_many_6 : decode cX4_many 6 = .ok (.invokevirtual 56, 3) := bX4_many_0.2.2.2.2.1
theorem dX4_many_9 : decode cX4_many 9 = .ok (.ifCond .eq 13, 3) := bX4_many_0.2.2.2.2.2.1
theorem dX4_many_12 : decode cX4_many 12 = .ok (.aload_n 0, 1) := bX4_many_0.2.2.2.2.2.2.1
theorem dX4_many_13 : decode cX4_many 13 = .ok (.getfield 11, 3) := bX4_many_0.2.2.2.2.2.2.2.1
theorem dX4_many_16 : decode cX4_many 16 = .ok (.iload_n 1, 1) := bX4_many_0.2.2.2.2.2.2.2.2.1
theorem dX4_many_17 : decode cX4_many 17 = .ok (.aaload, 1) := bX4_many_0.2.2.2.2.2.2.2.2.2.1
theorem dX4_many_18 : decode cX4_many 18 = .ok (.arraylength, 1) := bX4_many_0.2.2.2.2.2.2.2.2.2.2.1
theorem dX4_many_19 : decode cX4_many 19 = .ok (.goto 4, 3) := bX4_many_0.2.2.2.2.2.2.2.2.2.2.2.1
theorem dX4_many_22 : decode cX4_many 22 = .ok (.iconst 0, 1) := bX4_many_0.2.2.2.2.2.2.2.2.2.2.2.2.1
theorem dX4_many_23 : decode cX4_many 23 = .ok (.ireturn, 1) := bX4_many_0.2.2.2.2.2.2.2.2.2.2.2.2.2
set_option maxRecDepth 100000 in
theorem bX4_key_0 : (decode cX4_key 0 = .ok (.aload_n 0, 1)) ∧ (decode cX4_key 1 = .ok (.aload_n 0, 1)) ∧ (decode cX4_key 2 = .ok (.iload_n 1, 1)) ∧ (decode cX4_key 3 = .ok (.iload_n 2, 1)) ∧ (decode cX4_key 4 = .ok (.invokevirtual 78, 3)) ∧ (decode cX4_key 7 = .ok (.iconst 1, 1)) ∧ (decode cX4_key 8 = .ok (.invokevirtual 56, 3)) ∧ (decode cX4_key 11 = .ok (.ifCond .eq 14, 3)) ∧ (decode cX4_key 14 = .ok (.aload_n 0, 1)) ∧ (decode cX4_key 15 = .ok (.getfield 11, 3)) ∧ (decode cX4_key 18 = .ok (.iload_n 1, 1)) ∧ (decode cX4_key 19 = .ok (.aaload, 1)) ∧ (decode cX4_key 20 = .ok (.iload_n 2, 1)) ∧ (decode cX4_key 21 = .ok (.iaload, 1)) ∧ (decode cX4_key 22 = .ok (.goto 4, 3)) ∧ (decode cX4_key 25 = .ok (.iconst 0, 1)) := by decide +kernel
theorem dX4_key_0 : decode cX4_key 0 = .ok (.aload_n 0, 1) := bX4_key_0.1
theorem dX4_key_1 : decode cX4_key 1 = .ok (.aload_n 0, 1) := bX4_key_0.2.1
theorem dX4_key_2 : decode cX4_key 2 = .ok (.iload_n 1, 1) := bX4_key_0.2.2.1
theorem dX4_key_3 : decode cX4_key 3 = .ok (.iload_n 2, 1) := bX4_key_0.2.2.2.1
theorem dX4_key_4 : decode cX4_key 4 = .ok (.invokevirtual 78, 3) := bX4_key_0.2.2.2.2.1
theorem dX4_key_7 : decode cX4_key 7 = .ok (.iconst 1, 1) := bX4_key_0.2.2.2.2.2.1
theorem dX4_key_8 : decode cX4_key 8 = .ok (.invokevirtual 56, 3) := bX4_key_0.2.2.2.2.2.2.1
theorem dX4_key_11 : decode cX4_key 11 = .ok (.ifCond .eq 14, 3) := bX4_key_0.2.2.2.2.2.2.2.1
theorem dX4_key_14 : decode cX4_key 14 = .ok (.aload_n 0, 1) := bX4_key_0.2.2.2.2.2.2.2.2.1
theorem dX4_key_15 : decode cX4_key 15 = .ok (.getfield 11, 3) := bX4_key_0.2.2.2.2.2.2.2.2.2.1
theorem dX4_key_18 : decode cX4_key 18 = .ok (.iload_n 1, 1) := bX4_key_0.2.2.2.2.2.2.2.2.2.2.1
theorem dX4_key_19 : decode cX4_key 19 = .ok (.aaload, 1) := bX4_key_0.2.2.2.2.2.2.2.2.2.2.2.1
theorem dX4_key_20 : decode cX4_key 20 = .ok (.iload_n 2, 1) := bX4_key_0.2.2.2.2.2.2.2.2.2.2.2.2.1
theorem dX4_key_21 : decode cX4_key 21 = .ok (.iaload, 1) := bX4_key_0.2.2.2.2.2.2.2.2.2.2.2.2.2.1
theorem dX4_key_22 : decode cX4_key 22 = .ok (.goto 4, 3) := bX4_key_0.2.2.2.2.2.2.2.2.2.2.2.2.2.2.1
theorem dX4_key_25 : decode cX4_key 25 = .ok (.iconst 0, 1) := bX4_key_0.2.2.2.2.2.2.2.2.2.2.2.2.2.2.2
theorem dX4_key_26 : decode cX4_key 26 = .ok (.ireturn, 1) := by decide +kernel
set_option maxRecDepth 100000 in
theorem bX4_stamp_0 : (decode cX4_stamp 0 = .ok (.aload_n 0, 1)) ∧ (decode cX4_stamp 1 = .ok (.aload_n 0, 1)) ∧ (decode cX4_stamp 2 = .ok (.iload_n 1, 1)) ∧ (decode cX4_stamp 3 = .ok (.iload_n 2, 1)) ∧ (decode cX4_stamp 4 = .ok (.invokevirtual 78, 3)) ∧ (decode cX4_stamp 7 = .ok (.iconst 1, 1)) ∧ (decode cX4_stamp 8 = .ok (.invokevirtual 56, 3)) ∧ (decode cX4_stamp 11 = .ok (.ifCond .eq 14, 3)) ∧ (decode cX4_stamp 14 = .ok (.aload_n 0, 1)) ∧ (decode cX4_stamp 15 = .ok (.getfield 14, 3)) ∧ (decode cX4_stamp 18 = .ok (.iload_n 1, 1)) ∧ (decode cX4_stamp 19 = .ok (.aaload, 1)) ∧ (decode cX4_stamp 20 = .ok (.iload_n 2, 1)) ∧ (decode cX4_stamp 21 = .ok (.iaload, 1)) ∧ (decode cX4_stamp 22 = .ok (.goto 4, 3)) ∧ (decode cX4_stamp 25 = .ok (.iconst 0, 1)) := by decide +kernel
theorem dX4_stamp_0 : decode cX4_stamp 0 = .ok (.aload_n 0, 1) := bX4_stamp_0.1
theorem dX4_stamp_1 : decode cX4_stamp 1 = .ok (.aload_n 0, 1) := bX4_stamp_0.2.1
theorem dX4_stamp_2 : decode cX4_stamp 2 = .ok (.iload_n 1, 1) := bX4_stamp_0.2.2.1
theorem dX4_stamp_3 : decode cX4_stamp 3 = .ok (.iload_n 2, 1) := bX4_stamp_0.2.2.2.1
theorem dX4_stamp_4 : decode cX4_stamp 4 = .ok (.invokevirtual 78, 3) := bX4_stamp_0.2.2.2.2.1
theorem dX4_stamp_7 : decode cX4_stamp 7 = .ok (.iconst 1, 1) := bX4_stamp_0.2.2.2.2.2.1
theorem dX4_stamp_8 : decode cX4_stamp 8 = .ok (.invokevirtual 56, 3) := bX4_stamp_0.2.2.2.2.2.2.1
theorem dX4_stamp_11 : decode cX4_stamp 11 = .ok (.ifCond .eq 14, 3) := bX4_stamp_0.2.2.2.2.2.2.2.1
theorem dX4_stamp_14 : decode cX4_stamp 14 = .ok (.aload_n 0, 1) := bX4_stamp_0.2.2.2.2.2.2.2.2.1
theorem dX4_stamp_15 : decode cX4_stamp 15 = .ok (.getfield 14, 3) := bX4_stamp_0.2.2.2.2.2.2.2.2.2.1
theorem dX4_stamp_18 : decode cX4_stamp 18 = .ok (.iload_n 1, 1) := bX4_stamp_0.2.2.2.2.2.2.2.2.2.2.1
theorem dX4_stamp_19 : decode cX4_stamp 19 = .ok (.aaload, 1) := bX4_stamp_0.2.2.2.2.2.2.2.2.2.2.2.1
theorem dX4_stamp_20 : decode cX4_stamp 20 = .ok (.iload_n 2, 1) := bX4_stamp_0.2.2.2.2.2.2.2.2.2.2.2.2.1
theorem dX4_stamp_21 : decode cX4_stamp 21 = .ok (.iaload, 1) := bX4_stamp_0.2.2.2.2.2.2.2.2.2.2.2.2.2.1
theorem dX4_stamp_22 : decode cX4_stamp 22 = .ok (.goto 4, 3) := bX4_stamp_0.2.2.2.2.2.2.2.2.2.2.2.2.2.2.1
theorem dX4_stamp_25 : decode cX4_stamp 25 = .ok (.iconst 0, 1) := bX4_stamp_0.2.2.2.2.2.2.2.2.2.2.2.2.2.2.2
theorem dX4_stamp_26 : decode cX4_stamp 26 = .ok (.ireturn, 1) := by decide +kernel
set_option maxRecDepth 100000 in
theorem bX4_ranked_0 : (decode cX4_ranked 0 = .ok (.iconst 0, 1)) ∧ (decode cX4_ranked 1 = .ok (.istore_n 3, 1)) ∧ (decode cX4_ranked 2 = .ok (.iconst 0, 1)) ∧ (decode cX4_ranked 3 = .ok (.istore 4, 2)) ∧ (decode cX4_ranked 5 = .ok (.iload 4, 2)) ∧ (decode cX4_ranked 7 = .ok (.aload_n 0, 1)) ∧ (decode cX4_ranked 8 = .ok (.getfield 11, 3)) ∧ (decode cX4_ranked 11 = .ok (.iload_n 1, 1)) ∧ (decode cX4_ranked 12 = .ok (.aaload, 1)) ∧ (decode cX4_ranked 13 = .ok (.arraylength, 1)) ∧ (decode cX4_ranked 14 = .ok (.if_icmp .ge 63, 3)) ∧ (decode cX4_ranked 17 = .ok (.iload_n 3, 1)) ∧ (decode cX4_ranked 18 = .ok (.aload_n 0, 1)) ∧ (decode cX4_ranked 19 = .ok (.getfield 11, 3)) ∧ (decode cX4_ranked 22 = .ok (.iload_n 1, 1)) ∧ (decode cX4_ranked 23 = .ok (.aaload, 1)) := by decide +kernel
theorem dX4_ranked_0 : decode cX4_ranked 0 = .ok (.iconst 0, 1) := bX4_ranked_0.1
theorem dX4_ranked_1 : decode cX4_ranked 1 = .ok (.istore_n 3, 1) := bX4_ranked_0.2.1
theorem dX4_ranked_2 : decode cX4_ranked 2 = .ok (.iconst 0, 1) := bX4_ranked_0.2.2.1
theorem dX4_ranked_3 : decode cX4_ranked 3 = .ok (.istore 4, 2) := bX4_ranked_0.2.2.2.1
theorem dX4_ranked_5 : decode cX4_ranked 5 = .ok (.iload 4, 2) := bX4_ranked_0.2.2.2.2.1
theorem dX4_ranked_7 : decode cX4_ranked 7 = .ok (.aload_n 0, 1) := bX4_ranked_0.2.2.2.2.2.1
theorem dX4_ranked_8 : decode cX4_ranked 8 = .ok (.getfield 11, 3) := bX4_ranked_0.2.2.2.2.2.2.1
theorem dX4_ranked_11 : decode cX4_ranked 11 = .ok (.iload_n 1, 1) := bX4_ranked_0.2.2.2.2.2.2.2.1
theorem dX4_ranked_12 : decode cX4_ranked 12 = .ok (.aaload, 1) := bX4_ranked_0.2.2.2.2.2.2.2.2.1
theorem dX4_ranked_13 : decode cX4_ranked 13 = .ok (.arraylength, 1) := bX4_ranked_0.2.2.2.2.2.2.2.2.2.1
theorem dX4_ranked_14 : decode cX4_ranked 14 = .ok (.if_icmp .ge 63, 3) := bX4_ranked_0.2.2.2.2.2.2.2.2.2.2.1
theorem dX4_ranked_17 : decode cX4_ranked 17 = .ok (.iload_n 3, 1) := bX4_ranked_0.2.2.2.2.2.2.2.2.2.2.2.1
theorem dX4_ranked_18 : decode cX4_ranked 18 = .ok (.aload_n 0, 1) := bX4_ranked_0.2.2.2.2.2.2.2.2.2.2.2.2.1
theorem dX4_ranked_19 : decode cX4_ranked 19 = .ok (.getfield 11, 3) := bX4_ranked_0.2.2.2.2.2.2.2.2.2.2.2.2.2.1
theorem dX4_ranked_22 : decode cX4_ranked 22 = .ok (.iload_n 1, 1) := bX4_ranked_0.2.2.2.2.2.2.2.2.2.2.2.2.2.2.1
theorem dX4_ranked_23 : decode cX4_ranked 23 = .ok (.aaload, 1) := bX4_ranked_0.2.2.2.2.2.2.2.2.2.2.2.2.2.2.2
set_option maxRecDepth 100000 in
theorem bX4_ranked_24 : (decode cX4_ranked 24 = .ok (.iload 4, 2)) ∧ (decode cX4_ranked 26 = .ok (.iaload, 1)) ∧ (decode cX4_ranked 27 = .ok (.aload_n 0, 1)) ∧ (decode cX4_ranked 28 = .ok (.getfield 11, 3)) ∧ (decode cX4_ranked 31 = .ok (.iload_n 1, 1)) ∧ (decode cX4_ranked 32 = .ok (.aaload, 1)) ∧ (decode cX4_ranked 33 = .ok (.iload_n 2, 1)) ∧ (decode cX4_ranked 34 = .ok (.iaload, 1)) ∧ (decode cX4_ranked 35 = .ok (.if_icmp .lt 29, 3)) ∧ (decode cX4_ranked 38 = .ok (.iload 4, 2)) ∧ (decode cX4_ranked 40 = .ok (.iload_n 2, 1)) ∧ (decode cX4_ranked 41 = .ok (.if_icmp .ge 27, 3)) ∧ (decode cX4_ranked 44 = .ok (.aload_n 0, 1)) ∧ (decode cX4_ranked 45 = .ok (.getfield 11, 3)) ∧ (decode cX4_ranked 48 = .ok (.iload_n 1, 1)) ∧ (decode cX4_ranked 49 = .ok (.aaload, 1)) := by decide +kernel
theorem dX4_ranked_24 : decode cX4_ranked 24 = .ok (.iload 4, 2) := bX4_ranked_24.1
theorem dX4_ranked_26 : decode cX4_ranked 26 = .ok (.iaload, 1) := bX4_ranked_24.2.1
theorem dX4_ranked_27 : decode cX4_ranked 27 = .ok (.aload_n 0, 1) := bX4_ranked_24.2.2.1
theorem dX4_ranked_28 : decode cX4_ranked 28 = .ok (.getfield 11, 3) := bX4_ranked_24.2.2.2.1
theorem dX4_ranked_31 : decode cX4_ranked 31 = .ok (.iload_n 1, 1) := bX4_ranked_24.2.2.2.2.1
theorem dX4_ranked_32 : decode cX4_ranked 32 = .ok (.aaload, 1) := bX4_ranked_24.2.2.2.2.2.1
theorem dX4_ranked_33 : decode cX4_ranked 33 = .ok (.iload_n 2, 1) := bX4_ranked_24.2.2.2.2.2.2.1
theorem dX4_ranked_34 : decode cX4_ranked 34 = .ok (.iaload, 1) := bX4_ranked_24.2.2.2.2.2.2.2.1
theorem dX4_ranked_35 : decode cX4_ranked 35 = .ok (.if_icmp .lt 29, 3) := bX4_ranked_24.2.2.2.2.2.2.2.2.1
theorem dX4_ranked_38 : decode cX4_ranked 38 = .ok (.iload 4, 2) := bX4_ranked_24.2.2.2.2.2.2.2.2.2.1
theorem dX4_ranked_40 : decode cX4_ranked 40 = .ok (.iload_n 2, 1) := bX4_ranked_24.2.2.2.2.2.2.2.2.2.2.1
theorem dX4_ranked_41 : decode cX4_ranked 41 = .ok (.if_icmp .ge 27, 3) := bX4_ranked_24.2.2.2.2.2.2.2.2.2.2.2.1
theorem dX4_ranked_44 : decode cX4_ranked 44 = .ok (.aload_n 0, 1) := bX4_ranked_24.2.2.2.2.2.2.2.2.2.2.2.2.1
theorem dX4_ranked_45 : decode cX4_ranked 45 = .ok (.getfield 11, 3) := bX4_ranked_24.2.2.2.2.2.2.2.2.2.2.2.2.2.1
theorem dX4_ranked_48 : decode cX4_ranked 48 = .ok (.iload_n 1, 1) := bX4_ranked_24.2.2.2.2.2.2.2.2.2.2.2.2.2.2.1
theorem dX4_ranked_49 : decode cX4_ranked 49 = .ok (.aaload, 1) := bX4_ranked_24.2.2.2.2.2.2.2.2.2.2.2.2.2.2.2
set_option maxRecDepth 100000 in
theorem bX4_ranked_50 : (decode cX4_ranked 50 = .ok (.iload 4, 2)) ∧ (decode cX4_ranked 52 = .ok (.iaload, 1)) ∧ (decode cX4_ranked 53 = .ok (.aload_n 0, 1)) ∧ (decode cX4_ranked 54 = .ok (.getfield 11, 3)) ∧ (decode cX4_ranked 57 = .ok (.iload_n 1, 1)) ∧ (decode cX4_ranked 58 = .ok (.aaload, 1)) ∧ (decode cX4_ranked 59 = .ok (.iload_n 2, 1)) ∧ (decode cX4_ranked 60 = .ok (.iaload, 1)) ∧ (decode cX4_ranked 61 = .ok (.if_icmp .ne 7, 3)) ∧ (decode cX4_ranked 64 = .ok (.iconst 1, 1)) ∧ (decode cX4_ranked 65 = .ok (.goto 4, 3)) ∧ (decode cX4_ranked 68 = .ok (.iconst 0, 1)) ∧ (decode cX4_ranked 69 = .ok (.iadd, 1)) ∧ (decode cX4_ranked 70 = .ok (.istore_n 3, 1)) ∧ (decode cX4_ranked 71 = .ok (.iinc 4 1, 3)) ∧ (decode cX4_ranked 74 = .ok (.goto (-69), 3)) := by decide +kernel
theorem dX4_ranked_50 : decode cX4_ranked 50 = .ok (.iload 4, 2) := bX4_ranked_50.1
theorem dX4_ranked_52 : decode cX4_ranked 52 = .ok (.iaload, 1) := bX4_ranked_50.2.1
theorem dX4_ranked_53 : decode cX4_ranked 53 = .ok (.aload_n 0, 1) := bX4_ranked_50.2.2.1
theorem dX4_ranked_54 : decode cX4_ranked 54 = .ok (.getfield 11, 3) := bX4_ranked_50.2.2.2.1
theorem dX4_ranked_57 : decode cX4_ranked 57 = .ok (.iload_n 1, 1) := bX4_ranked_50.2.2.2.2.1
theorem dX4_ranked_58 : decode cX4_ranked 58 = .ok (.aaload, 1) := bX4_ranked_50.2.2.2.2.2.1
theorem dX4_ranked_59 : decode cX4_ranked 59 = .ok (.iload_n 2, 1) := bX4_ranked_50.2.2.2.2.2.2.1
theorem dX4_ranked_60 : decode cX4_ranked 60 = .ok (.iaload, 1) := bX4_ranked_50.2.2.2.2.2.2.2.1
theorem dX4_ranked_61 : decode cX4_ranked 61 = .ok (.if_icmp .ne 7, 3) := bX4_ranked_50.2.2.2.2.2.2.2.2.1
theorem dX4_ranked_64 : decode cX4_ranked 64 = .ok (.iconst 1, 1) := bX4_ranked_50.2.2.2.2.2.2.2.2.2.1
theorem dX4_ranked_65 : decode cX4_ranked 65 = .ok (.goto 4, 3) := bX4_ranked_50.2.2.2.2.2.2.2.2.2.2.1
theorem dX4_ranked_68 : decode cX4_ranked 68 = .ok (.iconst 0, 1) := bX4_ranked_50.2.2.2.2.2.2.2.2.2.2.2.1
theorem dX4_ranked_69 : decode cX4_ranked 69 = .ok (.iadd, 1) := bX4_ranked_50.2.2.2.2.2.2.2.2.2.2.2.2.1
theorem dX4_ranked_70 : decode cX4_ranked 70 = .ok (.istore_n 3, 1) := bX4_ranked_50.2.2.2.2.2.2.2.2.2.2.2.2.2.1
theorem dX4_ranked_71 : decode cX4_ranked 71 = .ok (.iinc 4 1, 3) := bX4_ranked_50.2.2.2.2.2.2.2.2.2.2.2.2.2.2.1
theorem dX4_ranked_74 : decode cX4_ranked 74 = .ok (.goto (-69), 3) := bX4_ranked_50.2.2.2.2.2.2.2.2.2.2.2.2.2.2.2
set_option maxRecDepth 100000 in
theorem bX4_ranked_77 : (decode cX4_ranked 77 = .ok (.iload_n 3, 1)) ∧ (decode cX4_ranked 78 = .ok (.ireturn, 1)) := by decide +kernel
theorem dX4_ranked_77 : decode cX4_ranked 77 = .ok (.iload_n 3, 1) := bX4_ranked_77.1
theorem dX4_ranked_78 : decode cX4_ranked 78 = .ok (.ireturn, 1) := bX4_ranked_77.2
set_option maxRecDepth 100000 in
theorem bX4_rank_0 : (decode cX4_rank 0 = .ok (.aload_n 0, 1)) ∧ (decode cX4_rank 1 = .ok (.aload_n 0, 1)) ∧ (decode cX4_rank 2 = .ok (.iload_n 1, 1)) ∧ (decode cX4_rank 3 = .ok (.iload_n 2, 1)) ∧ (decode cX4_rank 4 = .ok (.invokevirtual 78, 3)) ∧ (decode cX4_rank 7 = .ok (.iconst 1, 1)) ∧ (decode cX4_rank 8 = .ok (.invokevirtual 56, 3)) ∧ (decode cX4_rank 11 = .ok (.ifCond .eq 12, 3)) ∧ (decode cX4_rank 14 = .ok (.aload_n 0, 1)) ∧ (decode cX4_rank 15 = .ok (.iload_n 1, 1)) ∧ (decode cX4_rank 16 = .ok (.iload_n 2, 1)) ∧ (decode cX4_rank 17 = .ok (.invokevirtual 101, 3)) ∧ (decode cX4_rank 20 = .ok (.goto 4, 3)) ∧ (decode cX4_rank 23 = .ok (.iconst 0, 1)) ∧ (decode cX4_rank 24 = .ok (.ireturn, 1)) := by decide +kernel
theorem dX4_rank_0 : decode cX4_rank 0 = .ok (.aload_n 0, 1) := bX4_rank_0.1
theorem dX4_rank_1 : decode cX4_rank 1 = .ok (.aload_n 0, 1) := bX4_rank_0.2.1
theorem dX4_rank_2 : decode cX4_rank 2 = .ok (.iload_n 1, 1) := bX4_rank_0.2.2.1
theorem dX4_rank_3 : decode cX4_rank 3 = .ok (.iload_n 2, 1) := bX4_rank_0.2.2.2.1
theorem dX4_rank_4 : decode cX4_rank 4 = .ok (.invokevirtual 78, 3) := bX4_rank_0.2.2.2.2.1
theorem dX4_rank_7 : decode cX4_rank 7 = .ok (.iconst 1, 1) := bX4_rank_0.2.2.2.2.2.1
theorem dX4_rank_8 : decode cX4_rank 8 = .ok (.invokevirtual 56, 3) := bX4_rank_0.2.2.2.2.2.2.1
theorem dX4_rank_11 : decode cX4_rank 11 = .ok (.ifCond .eq 12, 3) := bX4_rank_0.2.2.2.2.2.2.2.1
theorem dX4_rank_14 : decode cX4_rank 14 = .ok (.aload_n 0, 1) := bX4_rank_0.2.2.2.2.2.2.2.2.1
theorem dX4_rank_15 : decode cX4_rank 15 = .ok (.iload_n 1, 1) := bX4_rank_0.2.2.2.2.2.2.2.2.2.1
theorem dX4_rank_16 : decode cX4_rank 16 = .ok (.iload_n 2, 1) := bX4_rank_0.2.2.2.2.2.2.2.2.2.2.1
theorem dX4_rank_17 : decode cX4_rank 17 = .ok (.invokevirtual 101, 3) := bX4_rank_0.2.2.2.2.2.2.2.2.2.2.2.1
theorem dX4_rank_20 : decode cX4_rank 20 = .ok (.goto 4, 3) := bX4_rank_0.2.2.2.2.2.2.2.2.2.2.2.2.1
theorem dX4_rank_23 : decode cX4_rank 23 = .ok (.iconst 0, 1) := bX4_rank_0.2.2.2.2.2.2.2.2.2.2.2.2.2.1
theorem dX4_rank_24 : decode cX4_rank 24 = .ok (.ireturn, 1) := bX4_rank_0.2.2.2.2.2.2.2.2.2.2.2.2.2.2
set_option maxRecDepth 100000 in
theorem bX4_would_0 : (decode cX4_would 0 = .ok (.aload_n 0, 1)) ∧ (decode cX4_would 1 = .ok (.aload_n 0, 1)) ∧ (decode cX4_would 2 = .ok (.iload_n 1, 1)) ∧ (decode cX4_would 3 = .ok (.iload_n 2, 1)) ∧ (decode cX4_would 4 = .ok (.invokevirtual 78, 3)) ∧ (decode cX4_would 7 = .ok (.iconst 1, 1)) ∧ (decode cX4_would 8 = .ok (.invokevirtual 56, 3)) ∧ (decode cX4_would 11 = .ok (.ifCond .eq 20, 3)) ∧ (decode cX4_would 14 = .ok (.aload_n 0, 1)) ∧ (decode cX4_would 15 = .ok (.getfield 11, 3)) ∧ (decode cX4_would 18 = .ok (.iload_n 1, 1)) ∧ (decode cX4_would 19 = .ok (.aaload, 1)) ∧ (decode cX4_would 20 = .ok (.aload_n 0, 1)) ∧ (decode cX4_would 21 = .ok (.iload_n 1, 1)) ∧ (decode cX4_would 22 = .ok (.invokevirtual 104, 3)) ∧ (decode cX4_would 25 = .ok (.iload_n 2, 1)) := by decide +kernel
theorem dX4_would_0 : decode cX4_would 0 = .ok (.aload_n 0, 1) := bX4_would_0.1
theorem dX4_would_1 : decode cX4_would 1 = .ok (.aload_n 0, 1) := bX4_would_0.2.1
theorem dX4_would_2 : decode cX4_would 2 = .ok (.iload_n 1, 1) := bX4_would_0.2.2.1
theorem dX4_would_3 : decode cX4_would 3 = .ok (.iload_n 2, 1) := bX4_would_0.2.2.2.1
theorem dX4_would_4 : decode cX4_would 4 = .ok (.invokevirtual 78, 3) := bX4_would_0.2.2.2.2.1
theorem dX4_would_7 : decode cX4_would 7 = .ok (.iconst 1, 1) := bX4_would_0.2.2.2.2.2.1
theorem dX4_would_8 : decode cX4_would 8 = .ok (.invokevirtual 56, 3) := bX4_would_0.2.2.2.2.2.2.1
theorem dX4_would_11 : decode cX4_would 11 = .ok (.ifCond .eq 20, 3) := bX4_would_0.2.2.2.2.2.2.2.1
theorem dX4_would_14 : decode cX4_would 14 = .ok (.aload_n 0, 1) := bX4_would_0.2.2.2.2.2.2.2.2.1
theorem dX4_would_15 : decode cX4_would 15 = .ok (.getfield 11, 3) := bX4_would_0.2.2.2.2.2.2.2.2.2.1
theorem dX4_would_18 : decode cX4_would 18 = .ok (.iload_n 1, 1) := bX4_would_0.2.2.2.2.2.2.2.2.2.2.1
theorem dX4_would_19 : decode cX4_would 19 = .ok (.aaload, 1) := bX4_would_0.2.2.2.2.2.2.2.2.2.2.2.1
theorem dX4_would_20 : decode cX4_would 20 = .ok (.aload_n 0, 1) := bX4_would_0.2.2.2.2.2.2.2.2.2.2.2.2.1
theorem dX4_would_21 : decode cX4_would 21 = .ok (.iload_n 1, 1) := bX4_would_0.2.2.2.2.2.2.2.2.2.2.2.2.2.1
theorem dX4_would_22 : decode cX4_would 22 = .ok (.invokevirtual 104, 3) := bX4_would_0.2.2.2.2.2.2.2.2.2.2.2.2.2.2.1
theorem dX4_would_25 : decode cX4_would 25 = .ok (.iload_n 2, 1) := bX4_would_0.2.2.2.2.2.2.2.2.2.2.2.2.2.2.2
set_option maxRecDepth 100000 in
theorem bX4_would_26 : (decode cX4_would 26 = .ok (.iaload, 1)) ∧ (decode cX4_would 27 = .ok (.iaload, 1)) ∧ (decode cX4_would 28 = .ok (.goto 4, 3)) ∧ (decode cX4_would 31 = .ok (.iconst 0, 1)) ∧ (decode cX4_would 32 = .ok (.ireturn, 1)) := by decide +kernel
theorem dX4_would_26 : decode cX4_would 26 = .ok (.iaload, 1) := bX4_would_26.1
theorem dX4_would_27 : decode cX4_would 27 = .ok (.iaload, 1) := bX4_would_26.2.1
theorem dX4_would_28 : decode cX4_would 28 = .ok (.goto 4, 3) := bX4_would_26.2.2.1
theorem dX4_would_31 : decode cX4_would 31 = .ok (.iconst 0, 1) := bX4_would_26.2.2.2.1
theorem dX4_would_32 : decode cX4_would 32 = .ok (.ireturn, 1) := bX4_would_26.2.2.2.2
set_option maxRecDepth 100000 in
theorem bX4_wouldStamp_0 : (decode cX4_wouldStamp 0 = .ok (.aload_n 0, 1)) ∧ (decode cX4_wouldStamp 1 = .ok (.aload_n 0, 1)) ∧ (decode cX4_wouldStamp 2 = .ok (.iload_n 1, 1)) ∧ (decode cX4_wouldStamp 3 = .ok (.iload_n 2, 1)) ∧ (decode cX4_wouldStamp 4 = .ok (.invokevirtual 78, 3)) ∧ (decode cX4_wouldStamp 7 = .ok (.iconst 1, 1)) ∧ (decode cX4_wouldStamp 8 = .ok (.invokevirtual 56, 3)) ∧ (decode cX4_wouldStamp 11 = .ok (.ifCond .eq 20, 3)) ∧ (decode cX4_wouldStamp 14 = .ok (.aload_n 0, 1)) ∧ (decode cX4_wouldStamp 15 = .ok (.getfield 14, 3)) ∧ (decode cX4_wouldStamp 18 = .ok (.iload_n 1, 1)) ∧ (decode cX4_wouldStamp 19 = .ok (.aaload, 1)) ∧ (decode cX4_wouldStamp 20 = .ok (.aload_n 0, 1)) ∧ (decode cX4_wouldStamp 21 = .ok (.iload_n 1, 1)) ∧ (decode cX4_wouldStamp 22 = .ok (.invokevirtual 104, 3)) ∧ (decode cX4_wouldStamp 25 = .ok (.iload_n 2, 1)) := by decide +kernel
theorem dX4_wouldStamp_0 : decode cX4_wouldStamp 0 = .ok (.aload_n 0, 1) := bX4_wouldStamp_0.1
theorem dX4_wouldStamp_1 : decode cX4_wouldStamp 1 = .ok (.aload_n 0, 1) := bX4_wouldStamp_0.2.1
theorem dX4_wouldStamp_2 : decode cX4_wouldStamp 2 = .ok (.iload_n 1, 1) := bX4_wouldStamp_0.2.2.1
theorem dX4_wouldStamp_3 : decode cX4_wouldStamp 3 = .ok (.iload_n 2, 1) := bX4_wouldStamp_0.2.2.2.1
theorem dX4_wouldStamp_4 : decode cX4_wouldStamp 4 = .ok (.invokevirtual 78, 3) := bX4_wouldStamp_0.2.2.2.2.1
theorem dX4_wouldStamp_7 : decode cX4_wouldStamp 7 = .ok (.iconst 1, 1) := bX4_wouldStamp_0.2.2.2.2.2.1
theorem dX4_wouldStamp_8 : decode cX4_wouldStamp 8 = .ok (.invokevirtual 56, 3) := bX4_wouldStamp_0.2.2.2.2.2.2.1
theorem dX4_wouldStamp_11 : decode cX4_wouldStamp 11 = .ok (.ifCond .eq 20, 3) := bX4_wouldStamp_0.2.2.2.2.2.2.2.1
theorem dX4_wouldStamp_14 : decode cX4_wouldStamp 14 = .ok (.aload_n 0, 1) := bX4_wouldStamp_0.2.2.2.2.2.2.2.2.1
theorem dX4_wouldStamp_15 : decode cX4_wouldStamp 15 = .ok (.getfield 14, 3) := bX4_wouldStamp_0.2.2.2.2.2.2.2.2.2.1
theorem dX4_wouldStamp_18 : decode cX4_wouldStamp 18 = .ok (.iload_n 1, 1) := bX4_wouldStamp_0.2.2.2.2.2.2.2.2.2.2.1
theorem dX4_wouldStamp_19 : decode cX4_wouldStamp 19 = .ok (.aaload, 1) := bX4_wouldStamp_0.2.2.2.2.2.2.2.2.2.2.2.1
theorem dX4_wouldStamp_20 : decode cX4_wouldStamp 20 = .ok (.aload_n 0, 1) := bX4_wouldStamp_0.2.2.2.2.2.2.2.2.2.2.2.2.1
theorem dX4_wouldStamp_21 : decode cX4_wouldStamp 21 = .ok (.iload_n 1, 1) := bX4_wouldStamp_0.2.2.2.2.2.2.2.2.2.2.2.2.2.1
theorem dX4_wouldStamp_22 : decode cX4_wouldStamp 22 = .ok (.invokevirtual 104, 3) := bX4_wouldStamp_0.2.2.2.2.2.2.2.2.2.2.2.2.2.2.1
theorem dX4_wouldStamp_25 : decode cX4_wouldStamp 25 = .ok (.iload_n 2, 1) := bX4_wouldStamp_0.2.2.2.2.2.2.2.2.2.2.2.2.2.2.2
set_option maxRecDepth 100000 in
theorem bX4_wouldStamp_26 : (decode cX4_wouldStamp 26 = .ok (.iaload, 1)) ∧ (decode cX4_wouldStamp 27 = .ok (.iaload, 1)) ∧ (decode cX4_wouldStamp 28 = .ok (.goto 4, 3)) ∧ (decode cX4_wouldStamp 31 = .ok (.iconst 0, 1)) ∧ (decode cX4_wouldStamp 32 = .ok (.ireturn, 1)) := by decide +kernel
theorem dX4_wouldStamp_26 : decode cX4_wouldStamp 26 = .ok (.iaload, 1) := bX4_wouldStamp_26.1
theorem dX4_wouldStamp_27 : decode cX4_wouldStamp 27 = .ok (.iaload, 1) := bX4_wouldStamp_26.2.1
theorem dX4_wouldStamp_28 : decode cX4_wouldStamp 28 = .ok (.goto 4, 3) := bX4_wouldStamp_26.2.2.1
theorem dX4_wouldStamp_31 : decode cX4_wouldStamp 31 = .ok (.iconst 0, 1) := bX4_wouldStamp_26.2.2.2.1
theorem dX4_wouldStamp_32 : decode cX4_wouldStamp 32 = .ok (.ireturn, 1) := bX4_wouldStamp_26.2.2.2.2
set_option maxRecDepth 100000 in
theorem bX4_wrongAt_0 : (decode cX4_wrongAt 0 = .ok (.aload_n 0, 1)) ∧ (decode cX4_wrongAt 1 = .ok (.aload_n 0, 1)) ∧ (decode cX4_wrongAt 2 = .ok (.iload_n 1, 1)) ∧ (decode cX4_wrongAt 3 = .ok (.iload_n 2, 1)) ∧ (decode cX4_wrongAt 4 = .ok (.invokevirtual 78, 3)) ∧ (decode cX4_wrongAt 7 = .ok (.iconst 1, 1)) ∧ (decode cX4_wrongAt 8 = .ok (.invokevirtual 56, 3)) ∧ (decode cX4_wrongAt 11 = .ok (.ifCond .ne 5, 3)) ∧ (decode cX4_wrongAt 14 = .ok (.iconst 0, 1)) ∧ (decode cX4_wrongAt 15 = .ok (.ireturn, 1)) ∧ (decode cX4_wrongAt 16 = .ok (.iconst 0, 1)) ∧ (decode cX4_wrongAt 17 = .ok (.istore_n 3, 1)) ∧ (decode cX4_wrongAt 18 = .ok (.iconst 0, 1)) ∧ (decode cX4_wrongAt 19 = .ok (.istore 4, 2)) ∧ (decode cX4_wrongAt 21 = .ok (.iload 4, 2)) ∧ (decode cX4_wrongAt 23 = .ok (.aload_n 0, 1)) := by decide +kernel
theorem dX4_wrongAt_0 : decode cX4_wrongAt 0 = .ok (.aload_n 0, 1) := bX4_wrongAt_0.1
theorem dX4_wrongAt_1 : decode cX4_wrongAt 1 = .ok (.aload_n 0, 1) := bX4_wrongAt_0.2.1
theorem dX4_wrongAt_2 : decode cX4_wrongAt 2 = .ok (.iload_n 1, 1) := bX4_wrongAt_0.2.2.1
theorem dX4_wrongAt_3 : decode cX4_wrongAt 3 = .ok (.iload_n 2, 1) := bX4_wrongAt_0.2.2.2.1
theorem dX4_wrongAt_4 : decode cX4_wrongAt 4 = .ok (.invokevirtual 78, 3) := bX4_wrongAt_0.2.2.2.2.1
theorem dX4_wrongAt_7 : decode cX4_wrongAt 7 = .ok (.iconst 1, 1) := bX4_wrongAt_0.2.2.2.2.2.1
theorem dX4_wrongAt_8 : decode cX4_wrongAt 8 = .ok (.invokevirtual 56, 3) := bX4_wrongAt_0.2.2.2.2.2.2.1
theorem dX4_wrongAt_11 : decode cX4_wrongAt 11 = .ok (.ifCond .ne 5, 3) := bX4_wrongAt_0.2.2.2.2.2.2.2.1
theorem dX4_wrongAt_14 : decode cX4_wrongAt 14 = .ok (.iconst 0, 1) := bX4_wrongAt_0.2.2.2.2.2.2.2.2.1
theorem dX4_wrongAt_15 : decode cX4_wrongAt 15 = .ok (.ireturn, 1) := bX4_wrongAt_0.2.2.2.2.2.2.2.2.2.1
theorem dX4_wrongAt_16 : decode cX4_wrongAt 16 = .ok (.iconst 0, 1) := bX4_wrongAt_0.2.2.2.2.2.2.2.2.2.2.1
theorem dX4_wrongAt_17 : decode cX4_wrongAt 17 = .ok (.istore_n 3, 1) := bX4_wrongAt_0.2.2.2.2.2.2.2.2.2.2.2.1
theorem dX4_wrongAt_18 : decode cX4_wrongAt 18 = .ok (.iconst 0, 1) := bX4_wrongAt_0.2.2.2.2.2.2.2.2.2.2.2.2.1
theorem dX4_wrongAt_19 : decode cX4_wrongAt 19 = .ok (.istore 4, 2) := bX4_wrongAt_0.2.2.2.2.2.2.2.2.2.2.2.2.2.1
theorem dX4_wrongAt_21 : decode cX4_wrongAt 21 = .ok (.iload 4, 2) := bX4_wrongAt_0.2.2.2.2.2.2.2.2.2.2.2.2.2.2.1
theorem dX4_wrongAt_23 : decode cX4_wrongAt 23 = .ok (.aload_n 0, 1) := bX4_wrongAt_0.2.2.2.2.2.2.2.2.2.2.2.2.2.2.2
set_option maxRecDepth 100000 in
theorem bX4_wrongAt_24 : (decode cX4_wrongAt 24 = .ok (.getfield 11, 3)) ∧ (decode cX4_wrongAt 27 = .ok (.iload_n 1, 1)) ∧ (decode cX4_wrongAt 28 = .ok (.aaload, 1)) ∧ (decode cX4_wrongAt 29 = .ok (.arraylength, 1)) ∧ (decode cX4_wrongAt 30 = .ok (.if_icmp .ge 69, 3)) ∧ (decode cX4_wrongAt 33 = .ok (.iload_n 3, 1)) ∧ (decode cX4_wrongAt 34 = .ok (.iload 4, 2)) ∧ (decode cX4_wrongAt 36 = .ok (.iload_n 2, 1)) ∧ (decode cX4_wrongAt 37 = .ok (.if_icmp .ge 23, 3)) ∧ (decode cX4_wrongAt 40 = .ok (.aload_n 0, 1)) ∧ (decode cX4_wrongAt 41 = .ok (.getfield 11, 3)) ∧ (decode cX4_wrongAt 44 = .ok (.iload_n 1, 1)) ∧ (decode cX4_wrongAt 45 = .ok (.aaload, 1)) ∧ (decode cX4_wrongAt 46 = .ok (.iload 4, 2)) ∧ (decode cX4_wrongAt 48 = .ok (.iaload, 1)) ∧ (decode cX4_wrongAt 49 = .ok (.aload_n 0, 1)) := by decide +kernel
theorem dX4_wrongAt_24 : decode cX4_wrongAt 24 = .ok (.getfield 11, 3) := bX4_wrongAt_24.1
theorem dX4_wrongAt_27 : decode cX4_wrongAt 27 = .ok (.iload_n 1, 1) := bX4_wrongAt_24.2.1
theorem dX4_wrongAt_28 : decode cX4_wrongAt 28 = .ok (.aaload, 1) := bX4_wrongAt_24.2.2.1
theorem dX4_wrongAt_29 : decode cX4_wrongAt 29 = .ok (.arraylength, 1) := bX4_wrongAt_24.2.2.2.1
theorem dX4_wrongAt_30 : decode cX4_wrongAt 30 = .ok (.if_icmp .ge 69, 3) := bX4_wrongAt_24.2.2.2.2.1
theorem dX4_wrongAt_33 : decode cX4_wrongAt 33 = .ok (.iload_n 3, 1) := bX4_wrongAt_24.2.2.2.2.2.1
theorem dX4_wrongAt_34 : decode cX4_wrongAt 34 = .ok (.iload 4, 2) := bX4_wrongAt_24.2.2.2.2.2.2.1
theorem dX4_wrongAt_36 : decode cX4_wrongAt 36 = .ok (.iload_n 2, 1) := bX4_wrongAt_24.2.2.2.2.2.2.2.1
theorem dX4_wrongAt_37 : decode cX4_wrongAt 37 = .ok (.if_icmp .ge 23, 3) := bX4_wrongAt_24.2.2.2.2.2.2.2.2.1
theorem dX4_wrongAt_40 : decode cX4_wrongAt 40 = .ok (.aload_n 0, 1) := bX4_wrongAt_24.2.2.2.2.2.2.2.2.2.1
theorem dX4_wrongAt_41 : decode cX4_wrongAt 41 = .ok (.getfield 11, 3) := bX4_wrongAt_24.2.2.2.2.2.2.2.2.2.2.1
theorem dX4_wrongAt_44 : decode cX4_wrongAt 44 = .ok (.iload_n 1, 1) := bX4_wrongAt_24.2.2.2.2.2.2.2.2.2.2.2.1
theorem dX4_wrongAt_45 : decode cX4_wrongAt 45 = .ok (.aaload, 1) := bX4_wrongAt_24.2.2.2.2.2.2.2.2.2.2.2.2.1
theorem dX4_wrongAt_46 : decode cX4_wrongAt 46 = .ok (.iload 4, 2) := bX4_wrongAt_24.2.2.2.2.2.2.2.2.2.2.2.2.2.1
theorem dX4_wrongAt_48 : decode cX4_wrongAt 48 = .ok (.iaload, 1) := bX4_wrongAt_24.2.2.2.2.2.2.2.2.2.2.2.2.2.2.1
theorem dX4_wrongAt_49 : decode cX4_wrongAt 49 = .ok (.aload_n 0, 1) := bX4_wrongAt_24.2.2.2.2.2.2.2.2.2.2.2.2.2.2.2
set_option maxRecDepth 100000 in
theorem bX4_wrongAt_50 : (decode cX4_wrongAt 50 = .ok (.getfield 11, 3)) ∧ (decode cX4_wrongAt 53 = .ok (.iload_n 1, 1)) ∧ (decode cX4_wrongAt 54 = .ok (.aaload, 1)) ∧ (decode cX4_wrongAt 55 = .ok (.iload_n 2, 1)) ∧ (decode cX4_wrongAt 56 = .ok (.iaload, 1)) ∧ (decode cX4_wrongAt 57 = .ok (.if_icmp .gt 29, 3)) ∧ (decode cX4_wrongAt 60 = .ok (.iload 4, 2)) ∧ (decode cX4_wrongAt 62 = .ok (.iload_n 2, 1)) ∧ (decode cX4_wrongAt 63 = .ok (.if_icmp .le 27, 3)) ∧ (decode cX4_wrongAt 66 = .ok (.aload_n 0, 1)) ∧ (decode cX4_wrongAt 67 = .ok (.getfield 11, 3)) ∧ (decode cX4_wrongAt 70 = .ok (.iload_n 1, 1)) ∧ (decode cX4_wrongAt 71 = .ok (.aaload, 1)) ∧ (decode cX4_wrongAt 72 = .ok (.iload 4, 2)) ∧ (decode cX4_wrongAt 74 = .ok (.iaload, 1)) ∧ (decode cX4_wrongAt 75 = .ok (.aload_n 0, 1)) := by decide +kernel
theorem dX4_wrongAt_50 : decode cX4_wrongAt 50 = .ok (.getfield 11, 3) := bX4_wrongAt_50.1
theorem dX4_wrongAt_53 : decode cX4_wrongAt 53 = .ok (.iload_n 1, 1) := bX4_wrongAt_50.2.1
theorem dX4_wrongAt_54 : decode cX4_wrongAt 54 = .ok (.aaload, 1) := bX4_wrongAt_50.2.2.1
theorem dX4_wrongAt_55 : decode cX4_wrongAt 55 = .ok (.iload_n 2, 1) := bX4_wrongAt_50.2.2.2.1
theorem dX4_wrongAt_56 : decode cX4_wrongAt 56 = .ok (.iaload, 1) := bX4_wrongAt_50.2.2.2.2.1
theorem dX4_wrongAt_57 : decode cX4_wrongAt 57 = .ok (.if_icmp .gt 29, 3) := bX4_wrongAt_50.2.2.2.2.2.1
theorem dX4_wrongAt_60 : decode cX4_wrongAt 60 = .ok (.iload 4, 2) := bX4_wrongAt_50.2.2.2.2.2.2.1
theorem dX4_wrongAt_62 : decode cX4_wrongAt 62 = .ok (.iload_n 2, 1) := bX4_wrongAt_50.2.2.2.2.2.2.2.1
theorem dX4_wrongAt_63 : decode cX4_wrongAt 63 = .ok (.if_icmp .le 27, 3) := bX4_wrongAt_50.2.2.2.2.2.2.2.2.1
theorem dX4_wrongAt_66 : decode cX4_wrongAt 66 = .ok (.aload_n 0, 1) := bX4_wrongAt_50.2.2.2.2.2.2.2.2.2.1
theorem dX4_wrongAt_67 : decode cX4_wrongAt 67 = .ok (.getfield 11, 3) := bX4_wrongAt_50.2.2.2.2.2.2.2.2.2.2.1
theorem dX4_wrongAt_70 : decode cX4_wrongAt 70 = .ok (.iload_n 1, 1) := bX4_wrongAt_50.2.2.2.2.2.2.2.2.2.2.2.1
theorem dX4_wrongAt_71 : decode cX4_wrongAt 71 = .ok (.aaload, 1) := bX4_wrongAt_50.2.2.2.2.2.2.2.2.2.2.2.2.1
theorem dX4_wrongAt_72 : decode cX4_wrongAt 72 = .ok (.iload 4, 2) := bX4_wrongAt_50.2.2.2.2.2.2.2.2.2.2.2.2.2.1
theorem dX4_wrongAt_74 : decode cX4_wrongAt 74 = .ok (.iaload, 1) := bX4_wrongAt_50.2.2.2.2.2.2.2.2.2.2.2.2.2.2.1
theorem dX4_wrongAt_75 : decode cX4_wrongAt 75 = .ok (.aload_n 0, 1) := bX4_wrongAt_50.2.2.2.2.2.2.2.2.2.2.2.2.2.2.2
set_option maxRecDepth 100000 in
theorem bX4_wrongAt_76 : (decode cX4_wrongAt 76 = .ok (.getfield 11, 3)) ∧ (decode cX4_wrongAt 79 = .ok (.iload_n 1, 1)) ∧ (decode cX4_wrongAt 80 = .ok (.aaload, 1)) ∧ (decode cX4_wrongAt 81 = .ok (.iload_n 2, 1)) ∧ (decode cX4_wrongAt 82 = .ok (.iaload, 1)) ∧ (decode cX4_wrongAt 83 = .ok (.if_icmp .ge 7, 3)) ∧ (decode cX4_wrongAt 86 = .ok (.iconst 1, 1)) ∧ (decode cX4_wrongAt 87 = .ok (.goto 4, 3)) ∧ (decode cX4_wrongAt 90 = .ok (.iconst 0, 1)) ∧ (decode cX4_wrongAt 91 = .ok (.iadd, 1)) ∧ (decode cX4_wrongAt 92 = .ok (.istore_n 3, 1)) ∧ (decode cX4_wrongAt 93 = .ok (.iinc 4 1, 3)) ∧ (decode cX4_wrongAt 96 = .ok (.goto (-75), 3)) ∧ (decode cX4_wrongAt 99 = .ok (.iload_n 3, 1)) ∧ (decode cX4_wrongAt 100 = .ok (.ireturn, 1)) := by decide +kernel
theorem dX4_wrongAt_76 : decode cX4_wrongAt 76 = .ok (.getfield 11, 3) := bX4_wrongAt_76.1
theorem dX4_wrongAt_79 : decode cX4_wrongAt 79 = .ok (.iload_n 1, 1) := bX4_wrongAt_76.2.1
theorem dX4_wrongAt_80 : decode cX4_wrongAt 80 = .ok (.aaload, 1) := bX4_wrongAt_76.2.2.1
theorem dX4_wrongAt_81 : decode cX4_wrongAt 81 = .ok (.iload_n 2, 1) := bX4_wrongAt_76.2.2.2.1
theorem dX4_wrongAt_82 : decode cX4_wrongAt 82 = .ok (.iaload, 1) := bX4_wrongAt_76.2.2.2.2.1
theorem dX4_wrongAt_83 : decode cX4_wrongAt 83 = .ok (.if_icmp .ge 7, 3) := bX4_wrongAt_76.2.2.2.2.2.1
theorem dX4_wrongAt_86 : decode cX4_wrongAt 86 = .ok (.iconst 1, 1) := bX4_wrongAt_76.2.2.2.2.2.2.1
theorem dX4_wrongAt_87 : decode cX4_wrongAt 87 = .ok (.goto 4, 3) := bX4_wrongAt_76.2.2.2.2.2.2.2.1
theorem dX4_wrongAt_90 : decode cX4_wrongAt 90 = .ok (.iconst 0, 1) := bX4_wrongAt_76.2.2.2.2.2.2.2.2.1
theorem dX4_wrongAt_91 : decode cX4_wrongAt 91 = .ok (.iadd, 1) := bX4_wrongAt_76.2.2.2.2.2.2.2.2.2.1
theorem dX4_wrongAt_92 : decode cX4_wrongAt 92 = .ok (.istore_n 3, 1) := bX4_wrongAt_76.2.2.2.2.2.2.2.2.2.2.1
theorem dX4_wrongAt_93 : decode cX4_wrongAt 93 = .ok (.iinc 4 1, 3) := bX4_wrongAt_76.2.2.2.2.2.2.2.2.2.2.2.1
theorem dX4_wrongAt_96 : decode cX4_wrongAt 96 = .ok (.goto (-75), 3) := bX4_wrongAt_76.2.2.2.2.2.2.2.2.2.2.2.2.1
theorem dX4_wrongAt_99 : decode cX4_wrongAt 99 = .ok (.iload_n 3, 1) := bX4_wrongAt_76.2.2.2.2.2.2.2.2.2.2.2.2.2.1
theorem dX4_wrongAt_100 : decode cX4_wrongAt 100 = .ok (.ireturn, 1) := bX4_wrongAt_76.2.2.2.2.2.2.2.2.2.2.2.2.2.2
set_option maxRecDepth 100000 in
theorem bX4_after_0 : (decode cX4_after 0 = .ok (.aload_n 0, 1)) ∧ (decode cX4_after 1 = .ok (.aload_n 0, 1)) ∧ (decode cX4_after 2 = .ok (.iload_n 1, 1)) ∧ (decode cX4_after 3 = .ok (.iload_n 2, 1)) ∧ (decode cX4_after 4 = .ok (.invokevirtual 78, 3)) ∧ (decode cX4_after 7 = .ok (.ifCond .eq 18, 3)) ∧ (decode cX4_after 10 = .ok (.aload_n 0, 1)) ∧ (decode cX4_after 11 = .ok (.iload_n 1, 1)) ∧ (decode cX4_after 12 = .ok (.iload_n 2, 1)) ∧ (decode cX4_after 13 = .ok (.iconst 1, 1)) ∧ (decode cX4_after 14 = .ok (.iadd, 1)) ∧ (decode cX4_after 15 = .ok (.invokevirtual 78, 3)) ∧ (decode cX4_after 18 = .ok (.ifCond .eq 7, 3)) ∧ (decode cX4_after 21 = .ok (.iconst 1, 1)) ∧ (decode cX4_after 22 = .ok (.goto 4, 3)) ∧ (decode cX4_after 25 = .ok (.iconst 0, 1)) := by decide +kernel
theorem dX4_after_0 : decode cX4_after 0 = .ok (.aload_n 0, 1) := bX4_after_0.1
theorem dX4_after_1 : decode cX4_after 1 = .ok (.aload_n 0, 1) := bX4_after_0.2.1
theorem dX4_after_2 : decode cX4_after 2 = .ok (.iload_n 1, 1) := bX4_after_0.2.2.1
theorem dX4_after_3 : decode cX4_after 3 = .ok (.iload_n 2, 1) := bX4_after_0.2.2.2.1
theorem dX4_after_4 : decode cX4_after 4 = .ok (.invokevirtual 78, 3) := bX4_after_0.2.2.2.2.1
theorem dX4_after_7 : decode cX4_after 7 = .ok (.ifCond .eq 18, 3) := bX4_after_0.2.2.2.2.2.1
theorem dX4_after_10 : decode cX4_after 10 = .ok (.aload_n 0, 1) := bX4_after_0.2.2.2.2.2.2.1
theorem dX4_after_11 : decode cX4_after 11 = .ok (.iload_n 1, 1) := bX4_after_0.2.2.2.2.2.2.2.1
theorem dX4_after_12 : decode cX4_after 12 = .ok (.iload_n 2, 1) := bX4_after_0.2.2.2.2.2.2.2.2.1
theorem dX4_after_13 : decode cX4_after 13 = .ok (.iconst 1, 1) := bX4_after_0.2.2.2.2.2.2.2.2.2.1
theorem dX4_after_14 : decode cX4_after 14 = .ok (.iadd, 1) := bX4_after_0.2.2.2.2.2.2.2.2.2.2.1
theorem dX4_after_15 : decode cX4_after 15 = .ok (.invokevirtual 78, 3) := bX4_after_0.2.2.2.2.2.2.2.2.2.2.2.1
theorem dX4_after_18 : decode cX4_after 18 = .ok (.ifCond .eq 7, 3) := bX4_after_0.2.2.2.2.2.2.2.2.2.2.2.2.1
theorem dX4_after_21 : decode cX4_after 21 = .ok (.iconst 1, 1) := bX4_after_0.2.2.2.2.2.2.2.2.2.2.2.2.2.1
theorem dX4_after_22 : decode cX4_after 22 = .ok (.goto 4, 3) := bX4_after_0.2.2.2.2.2.2.2.2.2.2.2.2.2.2.1
theorem dX4_after_25 : decode cX4_after 25 = .ok (.iconst 0, 1) := bX4_after_0.2.2.2.2.2.2.2.2.2.2.2.2.2.2.2
set_option maxRecDepth 100000 in
theorem bX4_after_26 : (decode cX4_after 26 = .ok (.iconst 1, 1)) ∧ (decode cX4_after 27 = .ok (.invokevirtual 56, 3)) ∧ (decode cX4_after 30 = .ok (.ifCond .ne 5, 3)) ∧ (decode cX4_after 33 = .ok (.iconst 0, 1)) ∧ (decode cX4_after 34 = .ok (.ireturn, 1)) ∧ (decode cX4_after 35 = .ok (.aload_n 0, 1)) ∧ (decode cX4_after 36 = .ok (.iload_n 1, 1)) ∧ (decode cX4_after 37 = .ok (.iconst 1, 1)) ∧ (decode cX4_after 38 = .ok (.invokevirtual 86, 3)) ∧ (decode cX4_after 41 = .ok (.aload_n 0, 1)) ∧ (decode cX4_after 42 = .ok (.getfield 11, 3)) ∧ (decode cX4_after 45 = .ok (.iload_n 1, 1)) ∧ (decode cX4_after 46 = .ok (.aaload, 1)) ∧ (decode cX4_after 47 = .ok (.iload_n 2, 1)) ∧ (decode cX4_after 48 = .ok (.iconst 1, 1)) ∧ (decode cX4_after 49 = .ok (.iadd, 1)) := by decide +kernel
theorem dX4_after_26 : decode cX4_after 26 = .ok (.iconst 1, 1) := bX4_after_26.1
theorem dX4_after_27 : decode cX4_after 27 = .ok (.invokevirtual 56, 3) := bX4_after_26.2.1
theorem dX4_after_30 : decode cX4_after 30 = .ok (.ifCond .ne 5, 3) := bX4_after_26.2.2.1
theorem dX4_after_33 : decode cX4_after 33 = .ok (.iconst 0, 1) := bX4_after_26.2.2.2.1
theorem dX4_after_34 : decode cX4_after 34 = .ok (.ireturn, 1) := bX4_after_26.2.2.2.2.1
theorem dX4_after_35 : decode cX4_after 35 = .ok (.aload_n 0, 1) := bX4_after_26.2.2.2.2.2.1
theorem dX4_after_36 : decode cX4_after 36 = .ok (.iload_n 1, 1) := bX4_after_26.2.2.2.2.2.2.1
theorem dX4_after_37 : decode cX4_after 37 = .ok (.iconst 1, 1) := bX4_after_26.2.2.2.2.2.2.2.1
theorem dX4_after_38 : decode cX4_after 38 = .ok (.invokevirtual 86, 3) := bX4_after_26.2.2.2.2.2.2.2.2.1
theorem dX4_after_41 : decode cX4_after 41 = .ok (.aload_n 0, 1) := bX4_after_26.2.2.2.2.2.2.2.2.2.1
theorem dX4_after_42 : decode cX4_after 42 = .ok (.getfield 11, 3) := bX4_after_26.2.2.2.2.2.2.2.2.2.2.1
theorem dX4_after_45 : decode cX4_after 45 = .ok (.iload_n 1, 1) := bX4_after_26.2.2.2.2.2.2.2.2.2.2.2.1
theorem dX4_after_46 : decode cX4_after 46 = .ok (.aaload, 1) := bX4_after_26.2.2.2.2.2.2.2.2.2.2.2.2.1
theorem dX4_after_47 : decode cX4_after 47 = .ok (.iload_n 2, 1) := bX4_after_26.2.2.2.2.2.2.2.2.2.2.2.2.2.1
theorem dX4_after_48 : decode cX4_after 48 = .ok (.iconst 1, 1) := bX4_after_26.2.2.2.2.2.2.2.2.2.2.2.2.2.2.1
theorem dX4_after_49 : decode cX4_after 49 = .ok (.iadd, 1) := bX4_after_26.2.2.2.2.2.2.2.2.2.2.2.2.2.2.2
set_option maxRecDepth 100000 in
theorem bX4_after_50 : (decode cX4_after 50 = .ok (.iaload, 1)) ∧ (decode cX4_after 51 = .ok (.aload_n 0, 1)) ∧ (decode cX4_after 52 = .ok (.getfield 11, 3)) ∧ (decode cX4_after 55 = .ok (.iload_n 1, 1)) ∧ (decode cX4_after 56 = .ok (.aaload, 1)) ∧ (decode cX4_after 57 = .ok (.iload_n 2, 1)) ∧ (decode cX4_after 58 = .ok (.iaload, 1)) ∧ (decode cX4_after 59 = .ok (.invokestatic 111, 3)) ∧ (decode cX4_after 62 = .ok (.iadd, 1)) ∧ (decode cX4_after 63 = .ok (.ireturn, 1)) := by decide +kernel
theorem dX4_after_50 : decode cX4_after 50 = .ok (.iaload, 1) := bX4_after_50.1
theorem dX4_after_51 : decode cX4_after 51 = .ok (.aload_n 0, 1) := bX4_after_50.2.1
theorem dX4_after_52 : decode cX4_after 52 = .ok (.getfield 11, 3) := bX4_after_50.2.2.1
theorem dX4_after_55 : decode cX4_after 55 = .ok (.iload_n 1, 1) := bX4_after_50.2.2.2.1
theorem dX4_after_56 : decode cX4_after 56 = .ok (.aaload, 1) := bX4_after_50.2.2.2.2.1
theorem dX4_after_57 : decode cX4_after 57 = .ok (.iload_n 2, 1) := bX4_after_50.2.2.2.2.2.1
theorem dX4_after_58 : decode cX4_after 58 = .ok (.iaload, 1) := bX4_after_50.2.2.2.2.2.2.1
theorem dX4_after_59 : decode cX4_after 59 = .ok (.invokestatic 111, 3) := bX4_after_50.2.2.2.2.2.2.2.1
theorem dX4_after_62 : decode cX4_after 62 = .ok (.iadd, 1) := bX4_after_50.2.2.2.2.2.2.2.2.1
theorem dX4_after_63 : decode cX4_after 63 = .ok (.ireturn, 1) := bX4_after_50.2.2.2.2.2.2.2.2.2
set_option maxRecDepth 100000 in
theorem bX4_behind_0 : (decode cX4_behind 0 = .ok (.iload_n 2, 1)) ∧ (decode cX4_behind 1 = .ok (.iconst 1, 1)) ∧ (decode cX4_behind 2 = .ok (.iadd, 1)) ∧ (decode cX4_behind 3 = .ok (.istore_n 3, 1)) ∧ (decode cX4_behind 4 = .ok (.iload_n 3, 1)) ∧ (decode cX4_behind 5 = .ok (.aload_n 0, 1)) ∧ (decode cX4_behind 6 = .ok (.getfield 11, 3)) ∧ (decode cX4_behind 9 = .ok (.iload_n 1, 1)) ∧ (decode cX4_behind 10 = .ok (.aaload, 1)) ∧ (decode cX4_behind 11 = .ok (.arraylength, 1)) ∧ (decode cX4_behind 12 = .ok (.if_icmp .ge 30, 3)) ∧ (decode cX4_behind 15 = .ok (.aload_n 0, 1)) ∧ (decode cX4_behind 16 = .ok (.getfield 11, 3)) ∧ (decode cX4_behind 19 = .ok (.iload_n 1, 1)) ∧ (decode cX4_behind 20 = .ok (.aaload, 1)) ∧ (decode cX4_behind 21 = .ok (.iload_n 3, 1)) := by decide +kernel
theorem dX4_behind_0 : decode cX4_behind 0 = .ok (.iload_n 2, 1) := bX4_behind_0.1
theorem dX4_behind_1 : decode cX4_behind 1 = .ok (.iconst 1, 1) := bX4_behind_0.2.1
theorem dX4_behind_2 : decode cX4_behind 2 = .ok (.iadd, 1) := bX4_behind_0.2.2.1
theorem dX4_behind_3 : decode cX4_behind 3 = .ok (.istore_n 3, 1) := bX4_behind_0.2.2.2.1
theorem dX4_behind_4 : decode cX4_behind 4 = .ok (.iload_n 3, 1) := bX4_behind_0.2.2.2.2.1
theorem dX4_behind_5 : decode cX4_behind 5 = .ok (.aload_n 0, 1) := bX4_behind_0.2.2.2.2.2.1
theorem dX4_behind_6 : decode cX4_behind 6 = .ok (.getfield 11, 3) := bX4_behind_0.2.2.2.2.2.2.1
theorem dX4_behind_9 : decode cX4_behind 9 = .ok (.iload_n 1, 1) := bX4_behind_0.2.2.2.2.2.2.2.1
theorem dX4_behind_10 : decode cX4_behind 10 = .ok (.aaload, 1) := bX4_behind_0.2.2.2.2.2.2.2.2.1
theorem dX4_behind_11 : decode cX4_behind 11 = .ok (.arraylength, 1) := bX4_behind_0.2.2.2.2.2.2.2.2.2.1
theorem dX4_behind_12 : decode cX4_behind 12 = .ok (.if_icmp .ge 30, 3) := bX4_behind_0.2.2.2.2.2.2.2.2.2.2.1
theorem dX4_behind_15 : decode cX4_behind 15 = .ok (.aload_n 0, 1) := bX4_behind_0.2.2.2.2.2.2.2.2.2.2.2.1
theorem dX4_behind_16 : decode cX4_behind 16 = .ok (.getfield 11, 3) := bX4_behind_0.2.2.2.2.2.2.2.2.2.2.2.2.1
theorem dX4_behind_19 : decode cX4_behind 19 = .ok (.iload_n 1, 1) := bX4_behind_0.2.2.2.2.2.2.2.2.2.2.2.2.2.1
theorem dX4_behind_20 : decode cX4_behind 20 = .ok (.aaload, 1) := bX4_behind_0.2.2.2.2.2.2.2.2.2.2.2.2.2.2.1
theorem dX4_behind_21 : decode cX4_behind 21 = .ok (.iload_n 3, 1) := bX4_behind_0.2.2.2.2.2.2.2.2.2.2.2.2.2.2.2
set_option maxRecDepth 100000 in
theorem bX4_behind_22 : (decode cX4_behind 22 = .ok (.iaload, 1)) ∧ (decode cX4_behind 23 = .ok (.aload_n 0, 1)) ∧ (decode cX4_behind 24 = .ok (.getfield 11, 3)) ∧ (decode cX4_behind 27 = .ok (.iload_n 1, 1)) ∧ (decode cX4_behind 28 = .ok (.aaload, 1)) ∧ (decode cX4_behind 29 = .ok (.iload_n 3, 1)) ∧ (decode cX4_behind 30 = .ok (.iconst 1, 1)) ∧ (decode cX4_behind 31 = .ok (.isub, 1)) ∧ (decode cX4_behind 32 = .ok (.iaload, 1)) ∧ (decode cX4_behind 33 = .ok (.if_icmp .lt 9, 3)) ∧ (decode cX4_behind 36 = .ok (.iinc 3 1, 3)) ∧ (decode cX4_behind 39 = .ok (.goto (-35), 3)) ∧ (decode cX4_behind 42 = .ok (.iload_n 3, 1)) ∧ (decode cX4_behind 43 = .ok (.iload_n 2, 1)) ∧ (decode cX4_behind 44 = .ok (.isub, 1)) ∧ (decode cX4_behind 45 = .ok (.ireturn, 1)) := by decide +kernel
theorem dX4_behind_22 : decode cX4_behind 22 = .ok (.iaload, 1) := bX4_behind_22.1
theorem dX4_behind_23 : decode cX4_behind 23 = .ok (.aload_n 0, 1) := bX4_behind_22.2.1
theorem dX4_behind_24 : decode cX4_behind 24 = .ok (.getfield 11, 3) := bX4_behind_22.2.2.1
theorem dX4_behind_27 : decode cX4_behind 27 = .ok (.iload_n 1, 1) := bX4_behind_22.2.2.2.1
theorem dX4_behind_28 : decode cX4_behind 28 = .ok (.aaload, 1) := bX4_behind_22.2.2.2.2.1
theorem dX4_behind_29 : decode cX4_behind 29 = .ok (.iload_n 3, 1) := bX4_behind_22.2.2.2.2.2.1
theorem dX4_behind_30 : decode cX4_behind 30 = .ok (.iconst 1, 1) := bX4_behind_22.2.2.2.2.2.2.1
theorem dX4_behind_31 : decode cX4_behind 31 = .ok (.isub, 1) := bX4_behind_22.2.2.2.2.2.2.2.1
theorem dX4_behind_32 : decode cX4_behind 32 = .ok (.iaload, 1) := bX4_behind_22.2.2.2.2.2.2.2.2.1
theorem dX4_behind_33 : decode cX4_behind 33 = .ok (.if_icmp .lt 9, 3) := bX4_behind_22.2.2.2.2.2.2.2.2.2.1
theorem dX4_behind_36 : decode cX4_behind 36 = .ok (.iinc 3 1, 3) := bX4_behind_22.2.2.2.2.2.2.2.2.2.2.1
theorem dX4_behind_39 : decode cX4_behind 39 = .ok (.goto (-35), 3) := bX4_behind_22.2.2.2.2.2.2.2.2.2.2.2.1
theorem dX4_behind_42 : decode cX4_behind 42 = .ok (.iload_n 3, 1) := bX4_behind_22.2.2.2.2.2.2.2.2.2.2.2.2.1
theorem dX4_behind_43 : decode cX4_behind 43 = .ok (.iload_n 2, 1) := bX4_behind_22.2.2.2.2.2.2.2.2.2.2.2.2.2.1
theorem dX4_behind_44 : decode cX4_behind 44 = .ok (.isub, 1) := bX4_behind_22.2.2.2.2.2.2.2.2.2.2.2.2.2.2.1
theorem dX4_behind_45 : decode cX4_behind 45 = .ok (.ireturn, 1) := bX4_behind_22.2.2.2.2.2.2.2.2.2.2.2.2.2.2.2
set_option maxRecDepth 100000 in
theorem bX4_runAt_0 : (decode cX4_runAt 0 = .ok (.aload_n 0, 1)) ∧ (decode cX4_runAt 1 = .ok (.aload_n 0, 1)) ∧ (decode cX4_runAt 2 = .ok (.iload_n 1, 1)) ∧ (decode cX4_runAt 3 = .ok (.iload_n 2, 1)) ∧ (decode cX4_runAt 4 = .ok (.invokevirtual 78, 3)) ∧ (decode cX4_runAt 7 = .ok (.iconst 1, 1)) ∧ (decode cX4_runAt 8 = .ok (.invokevirtual 56, 3)) ∧ (decode cX4_runAt 11 = .ok (.ifCond .eq 12, 3)) ∧ (decode cX4_runAt 14 = .ok (.aload_n 0, 1)) ∧ (decode cX4_runAt 15 = .ok (.iload_n 1, 1)) ∧ (decode cX4_runAt 16 = .ok (.iload_n 2, 1)) ∧ (decode cX4_runAt 17 = .ok (.invokevirtual 114, 3)) ∧ (decode cX4_runAt 20 = .ok (.goto 4, 3)) ∧ (decode cX4_runAt 23 = .ok (.iconst 0, 1)) ∧ (decode cX4_runAt 24 = .ok (.ireturn, 1)) := by decide +kernel
theorem dX4_runAt_0 : decode cX4_runAt 0 = .ok (.aload_n 0, 1) := bX4_runAt_0.1
theorem dX4_runAt_1 : decode cX4_runAt 1 = .ok (.aload_n 0, 1) := bX4_runAt_0.2.1
theorem dX4_runAt_2 : decode cX4_runAt 2 = .ok (.iload_n 1, 1) := bX4_runAt_0.2.2.1
theorem dX4_runAt_3 : decode cX4_runAt 3 = .ok (.iload_n 2, 1) := bX4_runAt_0.2.2.2.1
theorem dX4_runAt_4 : decode cX4_runAt 4 = .ok (.invokevirtual 78, 3) := bX4_runAt_0.2.2.2.2.1
theorem dX4_runAt_7 : decode cX4_runAt 7 = .ok (.iconst 1, 1) := bX4_runAt_0.2.2.2.2.2.1
theorem dX4_runAt_8 : decode cX4_runAt 8 = .ok (.invokevirtual 56, 3) := bX4_runAt_0.2.2.2.2.2.2.1
theorem dX4_runAt_11 : decode cX4_runAt 11 = .ok (.ifCond .eq 12, 3) := bX4_runAt_0.2.2.2.2.2.2.2.1
theorem dX4_runAt_14 : decode cX4_runAt 14 = .ok (.aload_n 0, 1) := bX4_runAt_0.2.2.2.2.2.2.2.2.1
theorem dX4_runAt_15 : decode cX4_runAt 15 = .ok (.iload_n 1, 1) := bX4_runAt_0.2.2.2.2.2.2.2.2.2.1
theorem dX4_runAt_16 : decode cX4_runAt 16 = .ok (.iload_n 2, 1) := bX4_runAt_0.2.2.2.2.2.2.2.2.2.2.1
theorem dX4_runAt_17 : decode cX4_runAt 17 = .ok (.invokevirtual 114, 3) := bX4_runAt_0.2.2.2.2.2.2.2.2.2.2.2.1
theorem dX4_runAt_20 : decode cX4_runAt 20 = .ok (.goto 4, 3) := bX4_runAt_0.2.2.2.2.2.2.2.2.2.2.2.2.1
theorem dX4_runAt_23 : decode cX4_runAt 23 = .ok (.iconst 0, 1) := bX4_runAt_0.2.2.2.2.2.2.2.2.2.2.2.2.2.1
theorem dX4_runAt_24 : decode cX4_runAt 24 = .ok (.ireturn, 1) := bX4_runAt_0.2.2.2.2.2.2.2.2.2.2.2.2.2.2
set_option maxRecDepth 100000 in
theorem bX4_text_0 : (decode cX4_text 0 = .ok (.aload_n 0, 1)) ∧ (decode cX4_text 1 = .ok (.iload_n 1, 1)) ∧ (decode cX4_text 2 = .ok (.invokestatic 25, 3)) ∧ (decode cX4_text 5 = .ok (.ifCond .eq 22, 3)) ∧ (decode cX4_text 8 = .ok (.iload_n 2, 1)) ∧ (decode cX4_text 9 = .ok (.iconst 0, 1)) ∧ (decode cX4_text 10 = .ok (.aload_n 0, 1)) ∧ (decode cX4_text 11 = .ok (.getfield 11, 3)) ∧ (decode cX4_text 14 = .ok (.iload_n 1, 1)) ∧ (decode cX4_text 15 = .ok (.aaload, 1)) ∧ (decode cX4_text 16 = .ok (.arraylength, 1)) ∧ (decode cX4_text 17 = .ok (.invokestatic 21, 3)) ∧ (decode cX4_text 20 = .ok (.ifCond .eq 7, 3)) ∧ (decode cX4_text 23 = .ok (.iconst 1, 1)) ∧ (decode cX4_text 24 = .ok (.goto 4, 3)) ∧ (decode cX4_text 27 = .ok (.iconst 0, 1)) := by decide +kernel
theorem dX4_text_0 : decode cX4_text 0 = .ok (.aload_n 0, 1) := bX4_text_0.1
theorem dX4_text_1 : decode cX4_text 1 = .ok (.iload_n 1, 1) := bX4_text_0.2.1
theorem dX4_text_2 : decode cX4_text 2 = .ok (.invokestatic 25, 3) := bX4_text_0.2.2.1
theorem dX4_text_5 : decode cX4_text 5 = .ok (.ifCond .eq 22, 3) := bX4_text_0.2.2.2.1
theorem dX4_text_8 : decode cX4_text 8 = .ok (.iload_n 2, 1) := bX4_text_0.2.2.2.2.1
theorem dX4_text_9 : decode cX4_text 9 = .ok (.iconst 0, 1) := bX4_text_0.2.2.2.2.2.1
theorem dX4_text_10 : decode cX4_text 10 = .ok (.aload_n 0, 1) := bX4_text_0.2.2.2.2.2.2.1
theorem dX4_text_11 : decode cX4_text 11 = .ok (.getfield 11, 3) := bX4_text_0.2.2.2.2.2.2.2.1
theorem dX4_text_14 : decode cX4_text 14 = .ok (.iload_n 1, 1) := bX4_text_0.2.2.2.2.2.2.2.2.1
theorem dX4_text_15 : decode cX4_text 15 = .ok (.aaload, 1) := bX4_text_0.2.2.2.2.2.2.2.2.2.1
theorem dX4_text_16 : decode cX4_text 16 = .ok (.arraylength, 1) := bX4_text_0.2.2.2.2.2.2.2.2.2.2.1
theorem dX4_text_17 : decode cX4_text 17 = .ok (.invokestatic 21, 3) := bX4_text_0.2.2.2.2.2.2.2.2.2.2.2.1
theorem dX4_text_20 : decode cX4_text 20 = .ok (.ifCond .eq 7, 3) := bX4_text_0.2.2.2.2.2.2.2.2.2.2.2.2.1
theorem dX4_text_23 : decode cX4_text 23 = .ok (.iconst 1, 1) := bX4_text_0.2.2.2.2.2.2.2.2.2.2.2.2.2.1
theorem dX4_text_24 : decode cX4_text 24 = .ok (.goto 4, 3) := bX4_text_0.2.2.2.2.2.2.2.2.2.2.2.2.2.2.1
theorem dX4_text_27 : decode cX4_text 27 = .ok (.iconst 0, 1) := bX4_text_0.2.2.2.2.2.2.2.2.2.2.2.2.2.2.2
set_option maxRecDepth 100000 in
theorem bX4_text_28 : (decode cX4_text 28 = .ok (.iload_n 3, 1)) ∧ (decode cX4_text 29 = .ok (.iconst 0, 1)) ∧ (decode cX4_text 30 = .ok (.bipush 20, 2)) ∧ (decode cX4_text 32 = .ok (.invokestatic 21, 3)) ∧ (decode cX4_text 35 = .ok (.invokevirtual 56, 3)) ∧ (decode cX4_text 38 = .ok (.ifCond .ne 6, 3)) ∧ (decode cX4_text 41 = .ok (.ldc 117, 2)) ∧ (decode cX4_text 43 = .ok (.areturn, 1)) ∧ (decode cX4_text 44 = .ok (.new 119, 3)) ∧ (decode cX4_text 47 = .ok (.dup, 1)) ∧ (decode cX4_text 48 = .ok (.invokespecial 121, 3)) ∧ (decode cX4_text 51 = .ok (.astore 4, 2)) ∧ (decode cX4_text 53 = .ok (.iload_n 2, 1)) ∧ (decode cX4_text 54 = .ok (.istore 5, 2)) ∧ (decode cX4_text 56 = .ok (.iload 5, 2)) ∧ (decode cX4_text 58 = .ok (.iload_n 2, 1)) := by decide +kernel
theorem dX4_text_28 : decode cX4_text 28 = .ok (.iload_n 3, 1) := bX4_text_28.1
theorem dX4_text_29 : decode cX4_text 29 = .ok (.iconst 0, 1) := bX4_text_28.2.1
theorem dX4_text_30 : decode cX4_text 30 = .ok (.bipush 20, 2) := bX4_text_28.2.2.1
theorem dX4_text_32 : decode cX4_text 32 = .ok (.invokestatic 21, 3) := bX4_text_28.2.2.2.1
theorem dX4_text_35 : decode cX4_text 35 = .ok (.invokevirtual 56, 3) := bX4_text_28.2.2.2.2.1
theorem dX4_text_38 : decode cX4_text 38 = .ok (.ifCond .ne 6, 3) := bX4_text_28.2.2.2.2.2.1
theorem dX4_text_41 : decode cX4_text 41 = .ok (.ldc 117, 2) := bX4_text_28.2.2.2.2.2.2.1
theorem dX4_text_43 : decode cX4_text 43 = .ok (.areturn, 1) := bX4_text_28.2.2.2.2.2.2.2.1
theorem dX4_text_44 : decode cX4_text 44 = .ok (.new 119, 3) := bX4_text_28.2.2.2.2.2.2.2.2.1
theorem dX4_text_47 : decode cX4_text 47 = .ok (.dup, 1) := bX4_text_28.2.2.2.2.2.2.2.2.2.1
theorem dX4_text_48 : decode cX4_text 48 = .ok (.invokespecial 121, 3) := bX4_text_28.2.2.2.2.2.2.2.2.2.2.1
theorem dX4_text_51 : decode cX4_text 51 = .ok (.astore 4, 2) := bX4_text_28.2.2.2.2.2.2.2.2.2.2.2.1
theorem dX4_text_53 : decode cX4_text 53 = .ok (.iload_n 2, 1) := bX4_text_28.2.2.2.2.2.2.2.2.2.2.2.2.1
theorem dX4_text_54 : decode cX4_text 54 = .ok (.istore 5, 2) := bX4_text_28.2.2.2.2.2.2.2.2.2.2.2.2.2.1
theorem dX4_text_56 : decode cX4_text 56 = .ok (.iload 5, 2) := bX4_text_28.2.2.2.2.2.2.2.2.2.2.2.2.2.2.1
theorem dX4_text_58 : decode cX4_text 58 = .ok (.iload_n 2, 1) := bX4_text_28.2.2.2.2.2.2.2.2.2.2.2.2.2.2.2
set_option maxRecDepth 100000 in
theorem bX4_text_59 : (decode cX4_text 59 = .ok (.iload_n 3, 1)) ∧ (decode cX4_text 60 = .ok (.iadd, 1)) ∧ (decode cX4_text 61 = .ok (.if_icmp .ge 50, 3)) ∧ (decode cX4_text 64 = .ok (.iload 5, 2)) ∧ (decode cX4_text 66 = .ok (.aload_n 0, 1)) ∧ (decode cX4_text 67 = .ok (.getfield 11, 3)) ∧ (decode cX4_text 70 = .ok (.iload_n 1, 1)) ∧ (decode cX4_text 71 = .ok (.aaload, 1)) ∧ (decode cX4_text 72 = .ok (.arraylength, 1)) ∧ (decode cX4_text 73 = .ok (.if_icmp .ge 38, 3)) ∧ (decode cX4_text 76 = .ok (.iload 5, 2)) ∧ (decode cX4_text 78 = .ok (.iload_n 2, 1)) ∧ (decode cX4_text 79 = .ok (.if_icmp .le 11, 3)) ∧ (decode cX4_text 82 = .ok (.aload 4, 2)) ∧ (decode cX4_text 84 = .ok (.ldc 122, 2)) ∧ (decode cX4_text 86 = .ok (.invokevirtual 124, 3)) := by decide +kernel
theorem dX4_text_59 : decode cX4_text 59 = .ok (.iload_n 3, 1) := bX4_text_59.1
theorem dX4_text_60 : decode cX4_text 60 = .ok (.iadd, 1) := bX4_text_59.2.1
theorem dX4_text_61 : decode cX4_text 61 = .ok (.if_icmp .ge 50, 3) := bX4_text_59.2.2.1
theorem dX4_text_64 : decode cX4_text 64 = .ok (.iload 5, 2) := bX4_text_59.2.2.2.1
theorem dX4_text_66 : decode cX4_text 66 = .ok (.aload_n 0, 1) := bX4_text_59.2.2.2.2.1
theorem dX4_text_67 : decode cX4_text 67 = .ok (.getfield 11, 3) := bX4_text_59.2.2.2.2.2.1
theorem dX4_text_70 : decode cX4_text 70 = .ok (.iload_n 1, 1) := bX4_text_59.2.2.2.2.2.2.1
theorem dX4_text_71 : decode cX4_text 71 = .ok (.aaload, 1) := bX4_text_59.2.2.2.2.2.2.2.1
theorem dX4_text_72 : decode cX4_text 72 = .ok (.arraylength, 1) := bX4_text_59.2.2.2.2.2.2.2.2.1
theorem dX4_text_73 : decode cX4_text 73 = .ok (.if_icmp .ge 38, 3) := bX4_text_59.2.2.2.2.2.2.2.2.2.1
theorem dX4_text_76 : decode cX4_text 76 = .ok (.iload 5, 2) := bX4_text_59.2.2.2.2.2.2.2.2.2.2.1
theorem dX4_text_78 : decode cX4_text 78 = .ok (.iload_n 2, 1) := bX4_text_59.2.2.2.2.2.2.2.2.2.2.2.1
theorem dX4_text_79 : decode cX4_text 79 = .ok (.if_icmp .le 11, 3) := bX4_text_59.2.2.2.2.2.2.2.2.2.2.2.2.1
theorem dX4_text_82 : decode cX4_text 82 = .ok (.aload 4, 2) := bX4_text_59.2.2.2.2.2.2.2.2.2.2.2.2.2.1
theorem dX4_text_84 : decode cX4_text 84 = .ok (.ldc 122, 2) := bX4_text_59.2.2.2.2.2.2.2.2.2.2.2.2.2.2.1
theorem dX4_text_86 : decode cX4_text 86 = .ok (.invokevirtual 124, 3) := bX4_text_59.2.2.2.2.2.2.2.2.2.2.2.2.2.2.2
set_option maxRecDepth 100000 in
theorem bX4_text_89 : (decode cX4_text 89 = .ok (.pop, 1)) ∧ (decode cX4_text 90 = .ok (.aload 4, 2)) ∧ (decode cX4_text 92 = .ok (.aload_n 0, 1)) ∧ (decode cX4_text 93 = .ok (.getfield 11, 3)) ∧ (decode cX4_text 96 = .ok (.iload_n 1, 1)) ∧ (decode cX4_text 97 = .ok (.aaload, 1)) ∧ (decode cX4_text 98 = .ok (.iload 5, 2)) ∧ (decode cX4_text 100 = .ok (.iaload, 1)) ∧ (decode cX4_text 101 = .ok (.invokevirtual 128, 3)) ∧ (decode cX4_text 104 = .ok (.pop, 1)) ∧ (decode cX4_text 105 = .ok (.iinc 5 1, 3)) ∧ (decode cX4_text 108 = .ok (.goto (-52), 3)) ∧ (decode cX4_text 111 = .ok (.aload 4, 2)) ∧ (decode cX4_text 113 = .ok (.invokevirtual 131, 3)) ∧ (decode cX4_text 116 = .ok (.areturn, 1)) := by decide +kernel
theorem dX4_text_89 : decode cX4_text 89 = .ok (.pop, 1) := bX4_text_89.1
theorem dX4_text_90 : decode cX4_text 90 = .ok (.aload 4, 2) := bX4_text_89.2.1
theorem dX4_text_92 : decode cX4_text 92 = .ok (.aload_n 0, 1) := bX4_text_89.2.2.1
theorem dX4_text_93 : decode cX4_text 93 = .ok (.getfield 11, 3) := bX4_text_89.2.2.2.1
theorem dX4_text_96 : decode cX4_text 96 = .ok (.iload_n 1, 1) := bX4_text_89.2.2.2.2.1
theorem dX4_text_97 : decode cX4_text 97 = .ok (.aaload, 1) := bX4_text_89.2.2.2.2.2.1
theorem dX4_text_98 : decode cX4_text 98 = .ok (.iload 5, 2) := bX4_text_89.2.2.2.2.2.2.1
theorem dX4_text_100 : decode cX4_text 100 = .ok (.iaload, 1) := bX4_text_89.2.2.2.2.2.2.2.1
theorem dX4_text_101 : decode cX4_text 101 = .ok (.invokevirtual 128, 3) := bX4_text_89.2.2.2.2.2.2.2.2.1
theorem dX4_text_104 : decode cX4_text 104 = .ok (.pop, 1) := bX4_text_89.2.2.2.2.2.2.2.2.2.1
theorem dX4_text_105 : decode cX4_text 105 = .ok (.iinc 5 1, 3) := bX4_text_89.2.2.2.2.2.2.2.2.2.2.1
theorem dX4_text_108 : decode cX4_text 108 = .ok (.goto (-52), 3) := bX4_text_89.2.2.2.2.2.2.2.2.2.2.2.1
theorem dX4_text_111 : decode cX4_text 111 = .ok (.aload 4, 2) := bX4_text_89.2.2.2.2.2.2.2.2.2.2.2.2.1
theorem dX4_text_113 : decode cX4_text 113 = .ok (.invokevirtual 131, 3) := bX4_text_89.2.2.2.2.2.2.2.2.2.2.2.2.2.1
theorem dX4_text_116 : decode cX4_text 116 = .ok (.areturn, 1) := bX4_text_89.2.2.2.2.2.2.2.2.2.2.2.2.2.2
set_option maxRecDepth 100000 in
theorem bX4_pairs_0 : (decode cX4_pairs 0 = .ok (.iconst 0, 1)) ∧ (decode cX4_pairs 1 = .ok (.istore_n 3, 1)) ∧ (decode cX4_pairs 2 = .ok (.iconst 0, 1)) ∧ (decode cX4_pairs 3 = .ok (.istore 4, 2)) ∧ (decode cX4_pairs 5 = .ok (.iload 4, 2)) ∧ (decode cX4_pairs 7 = .ok (.aload_n 0, 1)) ∧ (decode cX4_pairs 8 = .ok (.getfield 11, 3)) ∧ (decode cX4_pairs 11 = .ok (.iload_n 1, 1)) ∧ (decode cX4_pairs 12 = .ok (.aaload, 1)) ∧ (decode cX4_pairs 13 = .ok (.arraylength, 1)) ∧ (decode cX4_pairs 14 = .ok (.if_icmp .ge 58, 3)) ∧ (decode cX4_pairs 17 = .ok (.iconst 0, 1)) ∧ (decode cX4_pairs 18 = .ok (.istore 5, 2)) ∧ (decode cX4_pairs 20 = .ok (.iload 5, 2)) ∧ (decode cX4_pairs 22 = .ok (.iload 4, 2)) ∧ (decode cX4_pairs 24 = .ok (.if_icmp .ge 42, 3)) := by decide +kernel
theorem dX4_pairs_0 : decode cX4_pairs 0 = .ok (.iconst 0, 1) := bX4_pairs_0.1
theorem dX4_pairs_1 : decode cX4_pairs 1 = .ok (.istore_n 3, 1) := bX4_pairs_0.2.1
theorem dX4_pairs_2 : decode cX4_pairs 2 = .ok (.iconst 0, 1) := bX4_pairs_0.2.2.1
theorem dX4_pairs_3 : decode cX4_pairs 3 = .ok (.istore 4, 2) := bX4_pairs_0.2.2.2.1
theorem dX4_pairs_5 : decode cX4_pairs 5 = .ok (.iload 4, 2) := bX4_pairs_0.2.2.2.2.1
theorem dX4_pairs_7 : decode cX4_pairs 7 = .ok (.aload_n 0, 1) := bX4_pairs_0.2.2.2.2.2.1
theorem dX4_pairs_8 : decode cX4_pairs 8 = .ok (.getfield 11, 3) := bX4_pairs_0.2.2.2.2.2.2.1
theorem dX4_pairs_11 : decode cX4_pairs 11 = .ok (.iload_n 1, 1) := bX4_pairs_0.2.2.2.2.2.2.2.1
theorem dX4_pairs_12 : decode cX4_pairs 12 = .ok (.aaload, 1) := bX4_pairs_0.2.2.2.2.2.2.2.2.1
theorem dX4_pairs_13 : decode cX4_pairs 13 = .ok (.arraylength, 1) := bX4_pairs_0.2.2.2.2.2.2.2.2.2.1
theorem dX4_pairs_14 : decode cX4_pairs 14 = .ok (.if_icmp .ge 58, 3) := bX4_pairs_0.2.2.2.2.2.2.2.2.2.2.1
theorem dX4_pairs_17 : decode cX4_pairs 17 = .ok (.iconst 0, 1) := bX4_pairs_0.2.2.2.2.2.2.2.2.2.2.2.1
theorem dX4_pairs_18 : decode cX4_pairs 18 = .ok (.istore 5, 2) := bX4_pairs_0.2.2.2.2.2.2.2.2.2.2.2.2.1
theorem dX4_pairs_20 : decode cX4_pairs 20 = .ok (.iload 5, 2) := bX4_pairs_0.2.2.2.2.2.2.2.2.2.2.2.2.2.1
theorem dX4_pairs_22 : decode cX4_pairs 22 = .ok (.iload 4, 2) := bX4_pairs_0.2.2.2.2.2.2.2.2.2.2.2.2.2.2.1
theorem dX4_pairs_24 : decode cX4_pairs 24 = .ok (.if_icmp .ge 42, 3) := bX4_pairs_0.2.2.2.2.2.2.2.2.2.2.2.2.2.2.2
set_option maxRecDepth 100000 in
theorem bX4_pairs_27 : (decode cX4_pairs 27 = .ok (.iload_n 3, 1)) ∧ (decode cX4_pairs 28 = .ok (.aload_n 0, 1)) ∧ (decode cX4_pairs 29 = .ok (.getfield 11, 3)) ∧ (decode cX4_pairs 32 = .ok (.iload_n 1, 1)) ∧ (decode cX4_pairs 33 = .ok (.aaload, 1)) ∧ (decode cX4_pairs 34 = .ok (.iload 5, 2)) ∧ (decode cX4_pairs 36 = .ok (.iaload, 1)) ∧ (decode cX4_pairs 37 = .ok (.aload_n 0, 1)) ∧ (decode cX4_pairs 38 = .ok (.getfield 11, 3)) ∧ (decode cX4_pairs 41 = .ok (.iload_n 1, 1)) ∧ (decode cX4_pairs 42 = .ok (.aaload, 1)) ∧ (decode cX4_pairs 43 = .ok (.iload 4, 2)) ∧ (decode cX4_pairs 45 = .ok (.iaload, 1)) ∧ (decode cX4_pairs 46 = .ok (.invokestatic 111, 3)) ∧ (decode cX4_pairs 49 = .ok (.iload_n 2, 1)) ∧ (decode cX4_pairs 50 = .ok (.if_icmp .ne 7, 3)) := by decide +kernel
theorem dX4_pairs_27 : decode cX4_pairs 27 = .ok (.iload_n 3, 1) := bX4_pairs_27.1
theorem dX4_pairs_28 : decode cX4_pairs 28 = .ok (.aload_n 0, 1) := bX4_pairs_27.2.1
theorem dX4_pairs_29 : decode cX4_pairs 29 = .ok (.getfield 11, 3) := bX4_pairs_27.2.2.1
theorem dX4_pairs_32 : decode cX4_pairs 32 = .ok (.iload_n 1, 1) := bX4_pairs_27.2.2.2.1
theorem dX4_pairs_33 : decode cX4_pairs 33 = .ok (.aaload, 1) := bX4_pairs_27.2.2.2.2.1
theorem dX4_pairs_34 : decode cX4_pairs 34 = .ok (.iload 5, 2) := bX4_pairs_27.2.2.2.2.2.1
theorem dX4_pairs_36 : decode cX4_pairs 36 = .ok (.iaload, 1) := bX4_pairs_27.2.2.2.2.2.2.1
theorem dX4_pairs_37 : decode cX4_pairs 37 = .ok (.aload_n 0, 1) := bX4_pairs_27.2.2.2.2.2.2.2.1
theorem dX4_pairs_38 : decode cX4_pairs 38 = .ok (.getfield 11, 3) := bX4_pairs_27.2.2.2.2.2.2.2.2.1
theorem dX4_pairs_41 : decode cX4_pairs 41 = .ok (.iload_n 1, 1) := bX4_pairs_27.2.2.2.2.2.2.2.2.2.1
theorem dX4_pairs_42 : decode cX4_pairs 42 = .ok (.aaload, 1) := bX4_pairs_27.2.2.2.2.2.2.2.2.2.2.1
theorem dX4_pairs_43 : decode cX4_pairs 43 = .ok (.iload 4, 2) := bX4_pairs_27.2.2.2.2.2.2.2.2.2.2.2.1
theorem dX4_pairs_45 : decode cX4_pairs 45 = .ok (.iaload, 1) := bX4_pairs_27.2.2.2.2.2.2.2.2.2.2.2.2.1
theorem dX4_pairs_46 : decode cX4_pairs 46 = .ok (.invokestatic 111, 3) := bX4_pairs_27.2.2.2.2.2.2.2.2.2.2.2.2.2.1
theorem dX4_pairs_49 : decode cX4_pairs 49 = .ok (.iload_n 2, 1) := bX4_pairs_27.2.2.2.2.2.2.2.2.2.2.2.2.2.2.1
theorem dX4_pairs_50 : decode cX4_pairs 50 = .ok (.if_icmp .ne 7, 3) := bX4_pairs_27.2.2.2.2.2.2.2.2.2.2.2.2.2.2.2
set_option maxRecDepth 100000 in
theorem bX4_pairs_53 : (decode cX4_pairs 53 = .ok (.iconst 1, 1)) ∧ (decode cX4_pairs 54 = .ok (.goto 4, 3)) ∧ (decode cX4_pairs 57 = .ok (.iconst 0, 1)) ∧ (decode cX4_pairs 58 = .ok (.iadd, 1)) ∧ (decode cX4_pairs 59 = .ok (.istore_n 3, 1)) ∧ (decode cX4_pairs 60 = .ok (.iinc 5 1, 3)) ∧ (decode cX4_pairs 63 = .ok (.goto (-43), 3)) ∧ (decode cX4_pairs 66 = .ok (.iinc 4 1, 3)) ∧ (decode cX4_pairs 69 = .ok (.goto (-64), 3)) ∧ (decode cX4_pairs 72 = .ok (.iload_n 3, 1)) ∧ (decode cX4_pairs 73 = .ok (.ireturn, 1)) := by decide +kernel
theorem dX4_pairs_53 : decode cX4_pairs 53 = .ok (.iconst 1, 1) := bX4_pairs_53.1
theorem dX4_pairs_54 : decode cX4_pairs 54 = .ok (.goto 4, 3) := bX4_pairs_53.2.1
theorem dX4_pairs_57 : decode cX4_pairs 57 = .ok (.iconst 0, 1) := bX4_pairs_53.2.2.1
theorem dX4_pairs_58 : decode cX4_pairs 58 = .ok (.iadd, 1) := bX4_pairs_53.2.2.2.1
theorem dX4_pairs_59 : decode cX4_pairs 59 = .ok (.istore_n 3, 1) := bX4_pairs_53.2.2.2.2.1
theorem dX4_pairs_60 : decode cX4_pairs 60 = .ok (.iinc 5 1, 3) := bX4_pairs_53.2.2.2.2.2.1
theorem dX4_pairs_63 : decode cX4_pairs 63 = .ok (.goto (-43), 3) := bX4_pairs_53.2.2.2.2.2.2.1
theorem dX4_pairs_66 : decode cX4_pairs 66 = .ok (.iinc 4 1, 3) := bX4_pairs_53.2.2.2.2.2.2.2.1
theorem dX4_pairs_69 : decode cX4_pairs 69 = .ok (.goto (-64), 3) := bX4_pairs_53.2.2.2.2.2.2.2.2.1
theorem dX4_pairs_72 : decode cX4_pairs 72 = .ok (.iload_n 3, 1) := bX4_pairs_53.2.2.2.2.2.2.2.2.2.1
theorem dX4_pairs_73 : decode cX4_pairs 73 = .ok (.ireturn, 1) := bX4_pairs_53.2.2.2.2.2.2.2.2.2.2
set_option maxRecDepth 100000 in
theorem bX4_isSorted_0 : (decode cX4_isSorted 0 = .ok (.aload_n 0, 1)) ∧ (decode cX4_isSorted 1 = .ok (.iload_n 1, 1)) ∧ (decode cX4_isSorted 2 = .ok (.invokestatic 25, 3)) ∧ (decode cX4_isSorted 5 = .ok (.iconst 1, 1)) ∧ (decode cX4_isSorted 6 = .ok (.invokevirtual 56, 3)) ∧ (decode cX4_isSorted 9 = .ok (.ifCond .eq 16, 3)) ∧ (decode cX4_isSorted 12 = .ok (.aload_n 0, 1)) ∧ (decode cX4_isSorted 13 = .ok (.iload_n 1, 1)) ∧ (decode cX4_isSorted 14 = .ok (.iconst 1, 1)) ∧ (decode cX4_isSorted 15 = .ok (.invokevirtual 86, 3)) ∧ (decode cX4_isSorted 18 = .ok (.ifCond .ne 7, 3)) ∧ (decode cX4_isSorted 21 = .ok (.iconst 1, 1)) ∧ (decode cX4_isSorted 22 = .ok (.goto 4, 3)) ∧ (decode cX4_isSorted 25 = .ok (.iconst 0, 1)) ∧ (decode cX4_isSorted 26 = .ok (.ireturn, 1)) := by decide +kernel
theorem dX4_isSorted_0 : decode cX4_isSorted 0 = .ok (.aload_n 0, 1) := bX4_isSorted_0.1
theorem dX4_isSorted_1 : decode cX4_isSorted 1 = .ok (.iload_n 1, 1) := bX4_isSorted_0.2.1
theorem dX4_isSorted_2 : decode cX4_isSorted 2 = .ok (.invokestatic 25, 3) := bX4_isSorted_0.2.2.1
theorem dX4_isSorted_5 : decode cX4_isSorted 5 = .ok (.iconst 1, 1) := bX4_isSorted_0.2.2.2.1
theorem dX4_isSorted_6 : decode cX4_isSorted 6 = .ok (.invokevirtual 56, 3) := bX4_isSorted_0.2.2.2.2.1
theorem dX4_isSorted_9 : decode cX4_isSorted 9 = .ok (.ifCond .eq 16, 3) := bX4_isSorted_0.2.2.2.2.2.1
theorem dX4_isSorted_12 : decode cX4_isSorted 12 = .ok (.aload_n 0, 1) := bX4_isSorted_0.2.2.2.2.2.2.1
theorem dX4_isSorted_13 : decode cX4_isSorted 13 = .ok (.iload_n 1, 1) := bX4_isSorted_0.2.2.2.2.2.2.2.1
theorem dX4_isSorted_14 : decode cX4_isSorted 14 = .ok (.iconst 1, 1) := bX4_isSorted_0.2.2.2.2.2.2.2.2.1
theorem dX4_isSorted_15 : decode cX4_isSorted 15 = .ok (.invokevirtual 86, 3) := bX4_isSorted_0.2.2.2.2.2.2.2.2.2.1
theorem dX4_isSorted_18 : decode cX4_isSorted 18 = .ok (.ifCond .ne 7, 3) := bX4_isSorted_0.2.2.2.2.2.2.2.2.2.2.1
theorem dX4_isSorted_21 : decode cX4_isSorted 21 = .ok (.iconst 1, 1) := bX4_isSorted_0.2.2.2.2.2.2.2.2.2.2.2.1
theorem dX4_isSorted_22 : decode cX4_isSorted 22 = .ok (.goto 4, 3) := bX4_isSorted_0.2.2.2.2.2.2.2.2.2.2.2.2.1
theorem dX4_isSorted_25 : decode cX4_isSorted 25 = .ok (.iconst 0, 1) := bX4_isSorted_0.2.2.2.2.2.2.2.2.2.2.2.2.2.1
theorem dX4_isSorted_26 : decode cX4_isSorted 26 = .ok (.ireturn, 1) := bX4_isSorted_0.2.2.2.2.2.2.2.2.2.2.2.2.2.2
set_option maxRecDepth 100000 in
theorem bX4_isFalling_0 : (decode cX4_isFalling 0 = .ok (.aload_n 0, 1)) ∧ (decode cX4_isFalling 1 = .ok (.iload_n 1, 1)) ∧ (decode cX4_isFalling 2 = .ok (.invokestatic 25, 3)) ∧ (decode cX4_isFalling 5 = .ok (.iconst 1, 1)) ∧ (decode cX4_isFalling 6 = .ok (.invokevirtual 56, 3)) ∧ (decode cX4_isFalling 9 = .ok (.ifCond .eq 23, 3)) ∧ (decode cX4_isFalling 12 = .ok (.aload_n 0, 1)) ∧ (decode cX4_isFalling 13 = .ok (.iload_n 1, 1)) ∧ (decode cX4_isFalling 14 = .ok (.iconst 0, 1)) ∧ (decode cX4_isFalling 15 = .ok (.invokevirtual 86, 3)) ∧ (decode cX4_isFalling 18 = .ok (.aload_n 0, 1)) ∧ (decode cX4_isFalling 19 = .ok (.iload_n 1, 1)) ∧ (decode cX4_isFalling 20 = .ok (.iconst (-1), 1)) ∧ (decode cX4_isFalling 21 = .ok (.invokevirtual 86, 3)) ∧ (decode cX4_isFalling 24 = .ok (.iadd, 1)) ∧ (decode cX4_isFalling 25 = .ok (.ifCond .ne 7, 3)) := by decide +kernel
theorem dX4_isFalling_0 : decode cX4_isFalling 0 = .ok (.aload_n 0, 1) := bX4_isFalling_0.1
theorem dX4_isFalling_1 : decode cX4_isFalling 1 = .ok (.iload_n 1, 1) := bX4_isFalling_0.2.1
theorem dX4_isFalling_2 : decode cX4_isFalling 2 = .ok (.invokestatic 25, 3) := bX4_isFalling_0.2.2.1
theorem dX4_isFalling_5 : decode cX4_isFalling 5 = .ok (.iconst 1, 1) := bX4_isFalling_0.2.2.2.1
theorem dX4_isFalling_6 : decode cX4_isFalling 6 = .ok (.invokevirtual 56, 3) := bX4_isFalling_0.2.2.2.2.1
theorem dX4_isFalling_9 : decode cX4_isFalling 9 = .ok (.ifCond .eq 23, 3) := bX4_isFalling_0.2.2.2.2.2.1
theorem dX4_isFalling_12 : decode cX4_isFalling 12 = .ok (.aload_n 0, 1) := bX4_isFalling_0.2.2.2.2.2.2.1
theorem dX4_isFalling_13 : decode cX4_isFalling 13 = .ok (.iload_n 1, 1) := bX4_isFalling_0.2.2.2.2.2.2.2.1
theorem dX4_isFalling_14 : decode cX4_isFalling 14 = .ok (.iconst 0, 1) := bX4_isFalling_0.2.2.2.2.2.2.2.2.1
theorem dX4_isFalling_15 : decode cX4_isFalling 15 = .ok (.invokevirtual 86, 3) := bX4_isFalling_0.2.2.2.2.2.2.2.2.2.1
theorem dX4_isFalling_18 : decode cX4_isFalling 18 = .ok (.aload_n 0, 1) := bX4_isFalling_0.2.2.2.2.2.2.2.2.2.2.1
theorem dX4_isFalling_19 : decode cX4_isFalling 19 = .ok (.iload_n 1, 1) := bX4_isFalling_0.2.2.2.2.2.2.2.2.2.2.2.1
theorem dX4_isFalling_20 : decode cX4_isFalling 20 = .ok (.iconst (-1), 1) := bX4_isFalling_0.2.2.2.2.2.2.2.2.2.2.2.2.1
theorem dX4_isFalling_21 : decode cX4_isFalling 21 = .ok (.invokevirtual 86, 3) := bX4_isFalling_0.2.2.2.2.2.2.2.2.2.2.2.2.2.1
theorem dX4_isFalling_24 : decode cX4_isFalling 24 = .ok (.iadd, 1) := bX4_isFalling_0.2.2.2.2.2.2.2.2.2.2.2.2.2.2.1
theorem dX4_isFalling_25 : decode cX4_isFalling 25 = .ok (.ifCond .ne 7, 3) := bX4_isFalling_0.2.2.2.2.2.2.2.2.2.2.2.2.2.2.2
set_option maxRecDepth 100000 in
theorem bX4_isFalling_28 : (decode cX4_isFalling 28 = .ok (.iconst 1, 1)) ∧ (decode cX4_isFalling 29 = .ok (.goto 4, 3)) ∧ (decode cX4_isFalling 32 = .ok (.iconst 0, 1)) ∧ (decode cX4_isFalling 33 = .ok (.ireturn, 1)) := by decide +kernel
theorem dX4_isFalling_28 : decode cX4_isFalling 28 = .ok (.iconst 1, 1) := bX4_isFalling_28.1
theorem dX4_isFalling_29 : decode cX4_isFalling 29 = .ok (.goto 4, 3) := bX4_isFalling_28.2.1
theorem dX4_isFalling_32 : decode cX4_isFalling 32 = .ok (.iconst 0, 1) := bX4_isFalling_28.2.2.1
theorem dX4_isFalling_33 : decode cX4_isFalling 33 = .ok (.ireturn, 1) := bX4_isFalling_28.2.2.2
set_option maxRecDepth 100000 in
theorem bX4_isKept_0 : (decode cX4_isKept 0 = .ok (.aload_n 0, 1)) ∧ (decode cX4_isKept 1 = .ok (.iload_n 1, 1)) ∧ (decode cX4_isKept 2 = .ok (.invokestatic 25, 3)) ∧ (decode cX4_isKept 5 = .ok (.iconst 1, 1)) ∧ (decode cX4_isKept 6 = .ok (.invokevirtual 56, 3)) ∧ (decode cX4_isKept 9 = .ok (.ifCond .ne 5, 3)) ∧ (decode cX4_isKept 12 = .ok (.iconst 0, 1)) ∧ (decode cX4_isKept 13 = .ok (.ireturn, 1)) ∧ (decode cX4_isKept 14 = .ok (.iconst 1, 1)) ∧ (decode cX4_isKept 15 = .ok (.istore_n 2, 1)) ∧ (decode cX4_isKept 16 = .ok (.iload_n 2, 1)) ∧ (decode cX4_isKept 17 = .ok (.aload_n 0, 1)) ∧ (decode cX4_isKept 18 = .ok (.getfield 11, 3)) ∧ (decode cX4_isKept 21 = .ok (.iload_n 1, 1)) ∧ (decode cX4_isKept 22 = .ok (.aaload, 1)) ∧ (decode cX4_isKept 23 = .ok (.arraylength, 1)) := by decide +kernel
theorem dX4_isKept_0 : decode cX4_isKept 0 = .ok (.aload_n 0, 1) := bX4_isKept_0.1
theorem dX4_isKept_1 : decode cX4_isKept 1 = .ok (.iload_n 1, 1) := bX4_isKept_0.2.1
theorem dX4_isKept_2 : decode cX4_isKept 2 = .ok (.invokestatic 25, 3) := bX4_isKept_0.2.2.1
theorem dX4_isKept_5 : decode cX4_isKept 5 = .ok (.iconst 1, 1) := bX4_isKept_0.2.2.2.1
theorem dX4_isKept_6 : decode cX4_isKept 6 = .ok (.invokevirtual 56, 3) := bX4_isKept_0.2.2.2.2.1
theorem dX4_isKept_9 : decode cX4_isKept 9 = .ok (.ifCond .ne 5, 3) := bX4_isKept_0.2.2.2.2.2.1
theorem dX4_isKept_12 : decode cX4_isKept 12 = .ok (.iconst 0, 1) := bX4_isKept_0.2.2.2.2.2.2.1
theorem dX4_isKept_13 : decode cX4_isKept 13 = .ok (.ireturn, 1) := bX4_isKept_0.2.2.2.2.2.2.2.1
theorem dX4_isKept_14 : decode cX4_isKept 14 = .ok (.iconst 1, 1) := bX4_isKept_0.2.2.2.2.2.2.2.2.1
theorem dX4_isKept_15 : decode cX4_isKept 15 = .ok (.istore_n 2, 1) := bX4_isKept_0.2.2.2.2.2.2.2.2.2.1
theorem dX4_isKept_16 : decode cX4_isKept 16 = .ok (.iload_n 2, 1) := bX4_isKept_0.2.2.2.2.2.2.2.2.2.2.1
theorem dX4_isKept_17 : decode cX4_isKept 17 = .ok (.aload_n 0, 1) := bX4_isKept_0.2.2.2.2.2.2.2.2.2.2.2.1
theorem dX4_isKept_18 : decode cX4_isKept 18 = .ok (.getfield 11, 3) := bX4_isKept_0.2.2.2.2.2.2.2.2.2.2.2.2.1
theorem dX4_isKept_21 : decode cX4_isKept 21 = .ok (.iload_n 1, 1) := bX4_isKept_0.2.2.2.2.2.2.2.2.2.2.2.2.2.1
theorem dX4_isKept_22 : decode cX4_isKept 22 = .ok (.aaload, 1) := bX4_isKept_0.2.2.2.2.2.2.2.2.2.2.2.2.2.2.1
theorem dX4_isKept_23 : decode cX4_isKept 23 = .ok (.arraylength, 1) := bX4_isKept_0.2.2.2.2.2.2.2.2.2.2.2.2.2.2.2
set_option maxRecDepth 100000 in
theorem bX4_isKept_24 : (decode cX4_isKept 24 = .ok (.if_icmp .ge 53, 3)) ∧ (decode cX4_isKept 27 = .ok (.aload_n 0, 1)) ∧ (decode cX4_isKept 28 = .ok (.getfield 11, 3)) ∧ (decode cX4_isKept 31 = .ok (.iload_n 1, 1)) ∧ (decode cX4_isKept 32 = .ok (.aaload, 1)) ∧ (decode cX4_isKept 33 = .ok (.iload_n 2, 1)) ∧ (decode cX4_isKept 34 = .ok (.iaload, 1)) ∧ (decode cX4_isKept 35 = .ok (.aload_n 0, 1)) ∧ (decode cX4_isKept 36 = .ok (.getfield 11, 3)) ∧ (decode cX4_isKept 39 = .ok (.iload_n 1, 1)) ∧ (decode cX4_isKept 40 = .ok (.aaload, 1)) ∧ (decode cX4_isKept 41 = .ok (.iload_n 2, 1)) ∧ (decode cX4_isKept 42 = .ok (.iconst 1, 1)) ∧ (decode cX4_isKept 43 = .ok (.isub, 1)) ∧ (decode cX4_isKept 44 = .ok (.iaload, 1)) ∧ (decode cX4_isKept 45 = .ok (.if_icmp .ne 26, 3)) := by decide +kernel
theorem dX4_isKept_24 : decode cX4_isKept 24 = .ok (.if_icmp .ge 53, 3) := bX4_isKept_24.1
theorem dX4_isKept_27 : decode cX4_isKept 27 = .ok (.aload_n 0, 1) := bX4_isKept_24.2.1
theorem dX4_isKept_28 : decode cX4_isKept 28 = .ok (.getfield 11, 3) := bX4_isKept_24.2.2.1
theorem dX4_isKept_31 : decode cX4_isKept 31 = .ok (.iload_n 1, 1) := bX4_isKept_24.2.2.2.1
theorem dX4_isKept_32 : decode cX4_isKept 32 = .ok (.aaload, 1) := bX4_isKept_24.2.2.2.2.1
theorem dX4_isKept_33 : decode cX4_isKept 33 = .ok (.iload_n 2, 1) := bX4_isKept_24.2.2.2.2.2.1
theorem dX4_isKept_34 : decode cX4_isKept 34 = .ok (.iaload, 1) := bX4_isKept_24.2.2.2.2.2.2.1
theorem dX4_isKept_35 : decode cX4_isKept 35 = .ok (.aload_n 0, 1) := bX4_isKept_24.2.2.2.2.2.2.2.1
theorem dX4_isKept_36 : decode cX4_isKept 36 = .ok (.getfield 11, 3) := bX4_isKept_24.2.2.2.2.2.2.2.2.1
theorem dX4_isKept_39 : decode cX4_isKept 39 = .ok (.iload_n 1, 1) := bX4_isKept_24.2.2.2.2.2.2.2.2.2.1
theorem dX4_isKept_40 : decode cX4_isKept 40 = .ok (.aaload, 1) := bX4_isKept_24.2.2.2.2.2.2.2.2.2.2.1
theorem dX4_isKept_41 : decode cX4_isKept 41 = .ok (.iload_n 2, 1) := bX4_isKept_24.2.2.2.2.2.2.2.2.2.2.2.1
theorem dX4_isKept_42 : decode cX4_isKept 42 = .ok (.iconst 1, 1) := bX4_isKept_24.2.2.2.2.2.2.2.2.2.2.2.2.1
theorem dX4_isKept_43 : decode cX4_isKept 43 = .ok (.isub, 1) := bX4_isKept_24.2.2.2.2.2.2.2.2.2.2.2.2.2.1
theorem dX4_isKept_44 : decode cX4_isKept 44 = .ok (.iaload, 1) := bX4_isKept_24.2.2.2.2.2.2.2.2.2.2.2.2.2.2.1
theorem dX4_isKept_45 : decode cX4_isKept 45 = .ok (.if_icmp .ne 26, 3) := bX4_isKept_24.2.2.2.2.2.2.2.2.2.2.2.2.2.2.2
set_option maxRecDepth 100000 in
theorem bX4_isKept_48 : (decode cX4_isKept 48 = .ok (.aload_n 0, 1)) ∧ (decode cX4_isKept 49 = .ok (.getfield 14, 3)) ∧ (decode cX4_isKept 52 = .ok (.iload_n 1, 1)) ∧ (decode cX4_isKept 53 = .ok (.aaload, 1)) ∧ (decode cX4_isKept 54 = .ok (.iload_n 2, 1)) ∧ (decode cX4_isKept 55 = .ok (.iconst 1, 1)) ∧ (decode cX4_isKept 56 = .ok (.isub, 1)) ∧ (decode cX4_isKept 57 = .ok (.iaload, 1)) ∧ (decode cX4_isKept 58 = .ok (.aload_n 0, 1)) ∧ (decode cX4_isKept 59 = .ok (.getfield 14, 3)) ∧ (decode cX4_isKept 62 = .ok (.iload_n 1, 1)) ∧ (decode cX4_isKept 63 = .ok (.aaload, 1)) ∧ (decode cX4_isKept 64 = .ok (.iload_n 2, 1)) ∧ (decode cX4_isKept 65 = .ok (.iaload, 1)) ∧ (decode cX4_isKept 66 = .ok (.if_icmp .le 5, 3)) ∧ (decode cX4_isKept 69 = .ok (.iconst 0, 1)) := by decide +kernel
theorem dX4_isKept_48 : decode cX4_isKept 48 = .ok (.aload_n 0, 1) := bX4_isKept_48.1
theorem dX4_isKept_49 : decode cX4_isKept 49 = .ok (.getfield 14, 3) := bX4_isKept_48.2.1
theorem dX4_isKept_52 : decode cX4_isKept 52 = .ok (.iload_n 1, 1) := bX4_isKept_48.2.2.1
theorem dX4_isKept_53 : decode cX4_isKept 53 = .ok (.aaload, 1) := bX4_isKept_48.2.2.2.1
theorem dX4_isKept_54 : decode cX4_isKept 54 = .ok (.iload_n 2, 1) := bX4_isKept_48.2.2.2.2.1
theorem dX4_isKept_55 : decode cX4_isKept 55 = .ok (.iconst 1, 1) := bX4_isKept_48.2.2.2.2.2.1
theorem dX4_isKept_56 : decode cX4_isKept 56 = .ok (.isub, 1) := bX4_isKept_48.2.2.2.2.2.2.1
theorem dX4_isKept_57 : decode cX4_isKept 57 = .ok (.iaload, 1) := bX4_isKept_48.2.2.2.2.2.2.2.1
theorem dX4_isKept_58 : decode cX4_isKept 58 = .ok (.aload_n 0, 1) := bX4_isKept_48.2.2.2.2.2.2.2.2.1
theorem dX4_isKept_59 : decode cX4_isKept 59 = .ok (.getfield 14, 3) := bX4_isKept_48.2.2.2.2.2.2.2.2.2.1
theorem dX4_isKept_62 : decode cX4_isKept 62 = .ok (.iload_n 1, 1) := bX4_isKept_48.2.2.2.2.2.2.2.2.2.2.1
theorem dX4_isKept_63 : decode cX4_isKept 63 = .ok (.aaload, 1) := bX4_isKept_48.2.2.2.2.2.2.2.2.2.2.2.1
theorem dX4_isKept_64 : decode cX4_isKept 64 = .ok (.iload_n 2, 1) := bX4_isKept_48.2.2.2.2.2.2.2.2.2.2.2.2.1
theorem dX4_isKept_65 : decode cX4_isKept 65 = .ok (.iaload, 1) := bX4_isKept_48.2.2.2.2.2.2.2.2.2.2.2.2.2.1
theorem dX4_isKept_66 : decode cX4_isKept 66 = .ok (.if_icmp .le 5, 3) := bX4_isKept_48.2.2.2.2.2.2.2.2.2.2.2.2.2.2.1
theorem dX4_isKept_69 : decode cX4_isKept 69 = .ok (.iconst 0, 1) := bX4_isKept_48.2.2.2.2.2.2.2.2.2.2.2.2.2.2.2
set_option maxRecDepth 100000 in
theorem bX4_isKept_70 : (decode cX4_isKept 70 = .ok (.ireturn, 1)) ∧ (decode cX4_isKept 71 = .ok (.iinc 2 1, 3)) ∧ (decode cX4_isKept 74 = .ok (.goto (-58), 3)) ∧ (decode cX4_isKept 77 = .ok (.iconst 1, 1)) ∧ (decode cX4_isKept 78 = .ok (.ireturn, 1)) := by decide +kernel
theorem dX4_isKept_70 : decode cX4_isKept 70 = .ok (.ireturn, 1) := bX4_isKept_70.1
theorem dX4_isKept_71 : decode cX4_isKept 71 = .ok (.iinc 2 1, 3) := bX4_isKept_70.2.1
theorem dX4_isKept_74 : decode cX4_isKept 74 = .ok (.goto (-58), 3) := bX4_isKept_70.2.2.1
theorem dX4_isKept_77 : decode cX4_isKept 77 = .ok (.iconst 1, 1) := bX4_isKept_70.2.2.2.1
theorem dX4_isKept_78 : decode cX4_isKept 78 = .ok (.ireturn, 1) := bX4_isKept_70.2.2.2.2
set_option maxRecDepth 100000 in
theorem bX4_wrong_0 : (decode cX4_wrong 0 = .ok (.aload_n 0, 1)) ∧ (decode cX4_wrong 1 = .ok (.iload_n 1, 1)) ∧ (decode cX4_wrong 2 = .ok (.invokestatic 25, 3)) ∧ (decode cX4_wrong 5 = .ok (.iload_n 2, 1)) ∧ (decode cX4_wrong 6 = .ok (.iconst 0, 1)) ∧ (decode cX4_wrong 7 = .ok (.iconst 1, 1)) ∧ (decode cX4_wrong 8 = .ok (.invokestatic 21, 3)) ∧ (decode cX4_wrong 11 = .ok (.invokevirtual 56, 3)) ∧ (decode cX4_wrong 14 = .ok (.ifCond .eq 12, 3)) ∧ (decode cX4_wrong 17 = .ok (.aload_n 0, 1)) ∧ (decode cX4_wrong 18 = .ok (.iload_n 1, 1)) ∧ (decode cX4_wrong 19 = .ok (.iconst 1, 1)) ∧ (decode cX4_wrong 20 = .ok (.invokevirtual 86, 3)) ∧ (decode cX4_wrong 23 = .ok (.goto 4, 3)) ∧ (decode cX4_wrong 26 = .ok (.iconst 0, 1)) ∧ (decode cX4_wrong 27 = .ok (.ireturn, 1)) := by decide +kernel
theorem dX4_wrong_0 : decode cX4_wrong 0 = .ok (.aload_n 0, 1) := bX4_wrong_0.1
theorem dX4_wrong_1 : decode cX4_wrong 1 = .ok (.iload_n 1, 1) := bX4_wrong_0.2.1
theorem dX4_wrong_2 : decode cX4_wrong 2 = .ok (.invokestatic 25, 3) := bX4_wrong_0.2.2.1
theorem dX4_wrong_5 : decode cX4_wrong 5 = .ok (.iload_n 2, 1) := bX4_wrong_0.2.2.2.1
theorem dX4_wrong_6 : decode cX4_wrong 6 = .ok (.iconst 0, 1) := bX4_wrong_0.2.2.2.2.1
theorem dX4_wrong_7 : decode cX4_wrong 7 = .ok (.iconst 1, 1) := bX4_wrong_0.2.2.2.2.2.1
theorem dX4_wrong_8 : decode cX4_wrong 8 = .ok (.invokestatic 21, 3) := bX4_wrong_0.2.2.2.2.2.2.1
theorem dX4_wrong_11 : decode cX4_wrong 11 = .ok (.invokevirtual 56, 3) := bX4_wrong_0.2.2.2.2.2.2.2.1
theorem dX4_wrong_14 : decode cX4_wrong 14 = .ok (.ifCond .eq 12, 3) := bX4_wrong_0.2.2.2.2.2.2.2.2.1
theorem dX4_wrong_17 : decode cX4_wrong 17 = .ok (.aload_n 0, 1) := bX4_wrong_0.2.2.2.2.2.2.2.2.2.1
theorem dX4_wrong_18 : decode cX4_wrong 18 = .ok (.iload_n 1, 1) := bX4_wrong_0.2.2.2.2.2.2.2.2.2.2.1
theorem dX4_wrong_19 : decode cX4_wrong 19 = .ok (.iconst 1, 1) := bX4_wrong_0.2.2.2.2.2.2.2.2.2.2.2.1
theorem dX4_wrong_20 : decode cX4_wrong 20 = .ok (.invokevirtual 86, 3) := bX4_wrong_0.2.2.2.2.2.2.2.2.2.2.2.2.1
theorem dX4_wrong_23 : decode cX4_wrong 23 = .ok (.goto 4, 3) := bX4_wrong_0.2.2.2.2.2.2.2.2.2.2.2.2.2.1
theorem dX4_wrong_26 : decode cX4_wrong 26 = .ok (.iconst 0, 1) := bX4_wrong_0.2.2.2.2.2.2.2.2.2.2.2.2.2.2.1
theorem dX4_wrong_27 : decode cX4_wrong 27 = .ok (.ireturn, 1) := bX4_wrong_0.2.2.2.2.2.2.2.2.2.2.2.2.2.2.2
set_option maxRecDepth 100000 in
theorem bX4_right_0 : (decode cX4_right 0 = .ok (.aload_n 0, 1)) ∧ (decode cX4_right 1 = .ok (.iload_n 1, 1)) ∧ (decode cX4_right 2 = .ok (.invokestatic 25, 3)) ∧ (decode cX4_right 5 = .ok (.iconst 1, 1)) ∧ (decode cX4_right 6 = .ok (.invokevirtual 56, 3)) ∧ (decode cX4_right 9 = .ok (.ifCond .eq 12, 3)) ∧ (decode cX4_right 12 = .ok (.aload_n 0, 1)) ∧ (decode cX4_right 13 = .ok (.iload_n 1, 1)) ∧ (decode cX4_right 14 = .ok (.iconst (-1), 1)) ∧ (decode cX4_right 15 = .ok (.invokevirtual 86, 3)) ∧ (decode cX4_right 18 = .ok (.goto 4, 3)) ∧ (decode cX4_right 21 = .ok (.iconst 0, 1)) ∧ (decode cX4_right 22 = .ok (.ireturn, 1)) := by decide +kernel
theorem dX4_right_0 : decode cX4_right 0 = .ok (.aload_n 0, 1) := bX4_right_0.1
theorem dX4_right_1 : decode cX4_right 1 = .ok (.iload_n 1, 1) := bX4_right_0.2.1
theorem dX4_right_2 : decode cX4_right 2 = .ok (.invokestatic 25, 3) := bX4_right_0.2.2.1
theorem dX4_right_5 : decode cX4_right 5 = .ok (.iconst 1, 1) := bX4_right_0.2.2.2.1
theorem dX4_right_6 : decode cX4_right 6 = .ok (.invokevirtual 56, 3) := bX4_right_0.2.2.2.2.1
theorem dX4_right_9 : decode cX4_right 9 = .ok (.ifCond .eq 12, 3) := bX4_right_0.2.2.2.2.2.1
theorem dX4_right_12 : decode cX4_right 12 = .ok (.aload_n 0, 1) := bX4_right_0.2.2.2.2.2.2.1
theorem dX4_right_13 : decode cX4_right 13 = .ok (.iload_n 1, 1) := bX4_right_0.2.2.2.2.2.2.2.1
theorem dX4_right_14 : decode cX4_right 14 = .ok (.iconst (-1), 1) := bX4_right_0.2.2.2.2.2.2.2.2.1
theorem dX4_right_15 : decode cX4_right 15 = .ok (.invokevirtual 86, 3) := bX4_right_0.2.2.2.2.2.2.2.2.2.1
theorem dX4_right_18 : decode cX4_right 18 = .ok (.goto 4, 3) := bX4_right_0.2.2.2.2.2.2.2.2.2.2.1
theorem dX4_right_21 : decode cX4_right 21 = .ok (.iconst 0, 1) := bX4_right_0.2.2.2.2.2.2.2.2.2.2.2.1
theorem dX4_right_22 : decode cX4_right 22 = .ok (.ireturn, 1) := bX4_right_0.2.2.2.2.2.2.2.2.2.2.2.2
set_option maxRecDepth 100000 in
theorem bX4_ties_0 : (decode cX4_ties 0 = .ok (.aload_n 0, 1)) ∧ (decode cX4_ties 1 = .ok (.iload_n 1, 1)) ∧ (decode cX4_ties 2 = .ok (.invokestatic 25, 3)) ∧ (decode cX4_ties 5 = .ok (.iconst 1, 1)) ∧ (decode cX4_ties 6 = .ok (.invokevirtual 56, 3)) ∧ (decode cX4_ties 9 = .ok (.ifCond .eq 12, 3)) ∧ (decode cX4_ties 12 = .ok (.aload_n 0, 1)) ∧ (decode cX4_ties 13 = .ok (.iload_n 1, 1)) ∧ (decode cX4_ties 14 = .ok (.iconst 0, 1)) ∧ (decode cX4_ties 15 = .ok (.invokevirtual 86, 3)) ∧ (decode cX4_ties 18 = .ok (.goto 4, 3)) ∧ (decode cX4_ties 21 = .ok (.iconst 0, 1)) ∧ (decode cX4_ties 22 = .ok (.ireturn, 1)) := by decide +kernel
theorem dX4_ties_0 : decode cX4_ties 0 = .ok (.aload_n 0, 1) := bX4_ties_0.1
theorem dX4_ties_1 : decode cX4_ties 1 = .ok (.iload_n 1, 1) := bX4_ties_0.2.1
theorem dX4_ties_2 : decode cX4_ties 2 = .ok (.invokestatic 25, 3) := bX4_ties_0.2.2.1
theorem dX4_ties_5 : decode cX4_ties 5 = .ok (.iconst 1, 1) := bX4_ties_0.2.2.2.1
theorem dX4_ties_6 : decode cX4_ties 6 = .ok (.invokevirtual 56, 3) := bX4_ties_0.2.2.2.2.1
theorem dX4_ties_9 : decode cX4_ties 9 = .ok (.ifCond .eq 12, 3) := bX4_ties_0.2.2.2.2.2.1
theorem dX4_ties_12 : decode cX4_ties 12 = .ok (.aload_n 0, 1) := bX4_ties_0.2.2.2.2.2.2.1
theorem dX4_ties_13 : decode cX4_ties 13 = .ok (.iload_n 1, 1) := bX4_ties_0.2.2.2.2.2.2.2.1
theorem dX4_ties_14 : decode cX4_ties 14 = .ok (.iconst 0, 1) := bX4_ties_0.2.2.2.2.2.2.2.2.1
theorem dX4_ties_15 : decode cX4_ties 15 = .ok (.invokevirtual 86, 3) := bX4_ties_0.2.2.2.2.2.2.2.2.2.1
theorem dX4_ties_18 : decode cX4_ties 18 = .ok (.goto 4, 3) := bX4_ties_0.2.2.2.2.2.2.2.2.2.2.1
theorem dX4_ties_21 : decode cX4_ties 21 = .ok (.iconst 0, 1) := bX4_ties_0.2.2.2.2.2.2.2.2.2.2.2.1
theorem dX4_ties_22 : decode cX4_ties 22 = .ok (.ireturn, 1) := bX4_ties_0.2.2.2.2.2.2.2.2.2.2.2.2
set_option maxRecDepth 100000 in
theorem bX4_runs_0 : (decode cX4_runs 0 = .ok (.aload_n 0, 1)) ∧ (decode cX4_runs 1 = .ok (.iload_n 1, 1)) ∧ (decode cX4_runs 2 = .ok (.invokestatic 25, 3)) ∧ (decode cX4_runs 5 = .ok (.iconst 1, 1)) ∧ (decode cX4_runs 6 = .ok (.invokevirtual 56, 3)) ∧ (decode cX4_runs 9 = .ok (.ifCond .ne 5, 3)) ∧ (decode cX4_runs 12 = .ok (.iconst 0, 1)) ∧ (decode cX4_runs 13 = .ok (.ireturn, 1)) ∧ (decode cX4_runs 14 = .ok (.iconst 0, 1)) ∧ (decode cX4_runs 15 = .ok (.istore_n 2, 1)) ∧ (decode cX4_runs 16 = .ok (.iconst 0, 1)) ∧ (decode cX4_runs 17 = .ok (.istore_n 3, 1)) ∧ (decode cX4_runs 18 = .ok (.iload_n 3, 1)) ∧ (decode cX4_runs 19 = .ok (.aload_n 0, 1)) ∧ (decode cX4_runs 20 = .ok (.getfield 11, 3)) ∧ (decode cX4_runs 23 = .ok (.iload_n 1, 1)) := by decide +kernel
theorem dX4_runs_0 : decode cX4_runs 0 = .ok (.aload_n 0, 1) := bX4_runs_0.1
theorem dX4_runs_1 : decode cX4_runs 1 = .ok (.iload_n 1, 1) := bX4_runs_0.2.1
theorem dX4_runs_2 : decode cX4_runs 2 = .ok (.invokestatic 25, 3) := bX4_runs_0.2.2.1
theorem dX4_runs_5 : decode cX4_runs 5 = .ok (.iconst 1, 1) := bX4_runs_0.2.2.2.1
theorem dX4_runs_6 : decode cX4_runs 6 = .ok (.invokevirtual 56, 3) := bX4_runs_0.2.2.2.2.1
theorem dX4_runs_9 : decode cX4_runs 9 = .ok (.ifCond .ne 5, 3) := bX4_runs_0.2.2.2.2.2.1
theorem dX4_runs_12 : decode cX4_runs 12 = .ok (.iconst 0, 1) := bX4_runs_0.2.2.2.2.2.2.1
theorem dX4_runs_13 : decode cX4_runs 13 = .ok (.ireturn, 1) := bX4_runs_0.2.2.2.2.2.2.2.1
theorem dX4_runs_14 : decode cX4_runs 14 = .ok (.iconst 0, 1) := bX4_runs_0.2.2.2.2.2.2.2.2.1
theorem dX4_runs_15 : decode cX4_runs 15 = .ok (.istore_n 2, 1) := bX4_runs_0.2.2.2.2.2.2.2.2.2.1
theorem dX4_runs_16 : decode cX4_runs 16 = .ok (.iconst 0, 1) := bX4_runs_0.2.2.2.2.2.2.2.2.2.2.1
theorem dX4_runs_17 : decode cX4_runs 17 = .ok (.istore_n 3, 1) := bX4_runs_0.2.2.2.2.2.2.2.2.2.2.2.1
theorem dX4_runs_18 : decode cX4_runs 18 = .ok (.iload_n 3, 1) := bX4_runs_0.2.2.2.2.2.2.2.2.2.2.2.2.1
theorem dX4_runs_19 : decode cX4_runs 19 = .ok (.aload_n 0, 1) := bX4_runs_0.2.2.2.2.2.2.2.2.2.2.2.2.2.1
theorem dX4_runs_20 : decode cX4_runs 20 = .ok (.getfield 11, 3) := bX4_runs_0.2.2.2.2.2.2.2.2.2.2.2.2.2.2.1
theorem dX4_runs_23 : decode cX4_runs 23 = .ok (.iload_n 1, 1) := bX4_runs_0.2.2.2.2.2.2.2.2.2.2.2.2.2.2.2
set_option maxRecDepth 100000 in
theorem bX4_runs_24 : (decode cX4_runs 24 = .ok (.aaload, 1)) ∧ (decode cX4_runs 25 = .ok (.arraylength, 1)) ∧ (decode cX4_runs 26 = .ok (.if_icmp .ge 18, 3)) ∧ (decode cX4_runs 29 = .ok (.iinc 2 1, 3)) ∧ (decode cX4_runs 32 = .ok (.iload_n 3, 1)) ∧ (decode cX4_runs 33 = .ok (.aload_n 0, 1)) ∧ (decode cX4_runs 34 = .ok (.iload_n 1, 1)) ∧ (decode cX4_runs 35 = .ok (.iload_n 3, 1)) ∧ (decode cX4_runs 36 = .ok (.invokevirtual 114, 3)) ∧ (decode cX4_runs 39 = .ok (.iadd, 1)) ∧ (decode cX4_runs 40 = .ok (.istore_n 3, 1)) ∧ (decode cX4_runs 41 = .ok (.goto (-23), 3)) ∧ (decode cX4_runs 44 = .ok (.iload_n 2, 1)) ∧ (decode cX4_runs 45 = .ok (.ireturn, 1)) := by decide +kernel
theorem dX4_runs_24 : decode cX4_runs 24 = .ok (.aaload, 1) := bX4_runs_24.1
theorem dX4_runs_25 : decode cX4_runs 25 = .ok (.arraylength, 1) := bX4_runs_24.2.1
theorem dX4_runs_26 : decode cX4_runs 26 = .ok (.if_icmp .ge 18, 3) := bX4_runs_24.2.2.1
theorem dX4_runs_29 : decode cX4_runs 29 = .ok (.iinc 2 1, 3) := bX4_runs_24.2.2.2.1
theorem dX4_runs_32 : decode cX4_runs 32 = .ok (.iload_n 3, 1) := bX4_runs_24.2.2.2.2.1
theorem dX4_runs_33 : decode cX4_runs 33 = .ok (.aload_n 0, 1) := bX4_runs_24.2.2.2.2.2.1
theorem dX4_runs_34 : decode cX4_runs 34 = .ok (.iload_n 1, 1) := bX4_runs_24.2.2.2.2.2.2.1
theorem dX4_runs_35 : decode cX4_runs 35 = .ok (.iload_n 3, 1) := bX4_runs_24.2.2.2.2.2.2.2.1
theorem dX4_runs_36 : decode cX4_runs 36 = .ok (.invokevirtual 114, 3) := bX4_runs_24.2.2.2.2.2.2.2.2.1
theorem dX4_runs_39 : decode cX4_runs 39 = .ok (.iadd, 1) := bX4_runs_24.2.2.2.2.2.2.2.2.2.1
theorem dX4_runs_40 : decode cX4_runs 40 = .ok (.istore_n 3, 1) := bX4_runs_24.2.2.2.2.2.2.2.2.2.2.1
theorem dX4_runs_41 : decode cX4_runs 41 = .ok (.goto (-23), 3) := bX4_runs_24.2.2.2.2.2.2.2.2.2.2.2.1
theorem dX4_runs_44 : decode cX4_runs 44 = .ok (.iload_n 2, 1) := bX4_runs_24.2.2.2.2.2.2.2.2.2.2.2.2.1
theorem dX4_runs_45 : decode cX4_runs 45 = .ok (.ireturn, 1) := bX4_runs_24.2.2.2.2.2.2.2.2.2.2.2.2.2
set_option maxRecDepth 100000 in
theorem bX4_longest_0 : (decode cX4_longest 0 = .ok (.aload_n 0, 1)) ∧ (decode cX4_longest 1 = .ok (.iload_n 1, 1)) ∧ (decode cX4_longest 2 = .ok (.invokestatic 25, 3)) ∧ (decode cX4_longest 5 = .ok (.iconst 1, 1)) ∧ (decode cX4_longest 6 = .ok (.invokevirtual 56, 3)) ∧ (decode cX4_longest 9 = .ok (.ifCond .ne 5, 3)) ∧ (decode cX4_longest 12 = .ok (.iconst 0, 1)) ∧ (decode cX4_longest 13 = .ok (.ireturn, 1)) ∧ (decode cX4_longest 14 = .ok (.iconst 0, 1)) ∧ (decode cX4_longest 15 = .ok (.istore_n 2, 1)) ∧ (decode cX4_longest 16 = .ok (.iconst 0, 1)) ∧ (decode cX4_longest 17 = .ok (.istore_n 3, 1)) ∧ (decode cX4_longest 18 = .ok (.iload_n 3, 1)) ∧ (decode cX4_longest 19 = .ok (.aload_n 0, 1)) ∧ (decode cX4_longest 20 = .ok (.getfield 11, 3)) ∧ (decode cX4_longest 23 = .ok (.iload_n 1, 1)) := by decide +kernel
theorem dX4_longest_0 : decode cX4_longest 0 = .ok (.aload_n 0, 1) := bX4_longest_0.1
theorem dX4_longest_1 : decode cX4_longest 1 = .ok (.iload_n 1, 1) := bX4_longest_0.2.1
theorem dX4_longest_2 : decode cX4_longest 2 = .ok (.invokestatic 25, 3) := bX4_longest_0.2.2.1
theorem dX4_longest_5 : decode cX4_longest 5 = .ok (.iconst 1, 1) := bX4_longest_0.2.2.2.1
theorem dX4_longest_6 : decode cX4_longest 6 = .ok (.invokevirtual 56, 3) := bX4_longest_0.2.2.2.2.1
theorem dX4_longest_9 : decode cX4_longest 9 = .ok (.ifCond .ne 5, 3) := bX4_longest_0.2.2.2.2.2.1
theorem dX4_longest_12 : decode cX4_longest 12 = .ok (.iconst 0, 1) := bX4_longest_0.2.2.2.2.2.2.1
theorem dX4_longest_13 : decode cX4_longest 13 = .ok (.ireturn, 1) := bX4_longest_0.2.2.2.2.2.2.2.1
theorem dX4_longest_14 : decode cX4_longest 14 = .ok (.iconst 0, 1) := bX4_longest_0.2.2.2.2.2.2.2.2.1
theorem dX4_longest_15 : decode cX4_longest 15 = .ok (.istore_n 2, 1) := bX4_longest_0.2.2.2.2.2.2.2.2.2.1
theorem dX4_longest_16 : decode cX4_longest 16 = .ok (.iconst 0, 1) := bX4_longest_0.2.2.2.2.2.2.2.2.2.2.1
theorem dX4_longest_17 : decode cX4_longest 17 = .ok (.istore_n 3, 1) := bX4_longest_0.2.2.2.2.2.2.2.2.2.2.2.1
theorem dX4_longest_18 : decode cX4_longest 18 = .ok (.iload_n 3, 1) := bX4_longest_0.2.2.2.2.2.2.2.2.2.2.2.2.1
theorem dX4_longest_19 : decode cX4_longest 19 = .ok (.aload_n 0, 1) := bX4_longest_0.2.2.2.2.2.2.2.2.2.2.2.2.2.1
theorem dX4_longest_20 : decode cX4_longest 20 = .ok (.getfield 11, 3) := bX4_longest_0.2.2.2.2.2.2.2.2.2.2.2.2.2.2.1
theorem dX4_longest_23 : decode cX4_longest 23 = .ok (.iload_n 1, 1) := bX4_longest_0.2.2.2.2.2.2.2.2.2.2.2.2.2.2.2
set_option maxRecDepth 100000 in
theorem bX4_longest_24 : (decode cX4_longest 24 = .ok (.aaload, 1)) ∧ (decode cX4_longest 25 = .ok (.arraylength, 1)) ∧ (decode cX4_longest 26 = .ok (.if_icmp .ge 20, 3)) ∧ (decode cX4_longest 29 = .ok (.iload_n 2, 1)) ∧ (decode cX4_longest 30 = .ok (.aload_n 0, 1)) ∧ (decode cX4_longest 31 = .ok (.iload_n 1, 1)) ∧ (decode cX4_longest 32 = .ok (.iload_n 3, 1)) ∧ (decode cX4_longest 33 = .ok (.invokevirtual 114, 3)) ∧ (decode cX4_longest 36 = .ok (.invokestatic 135, 3)) ∧ (decode cX4_longest 39 = .ok (.istore_n 2, 1)) ∧ (decode cX4_longest 40 = .ok (.iinc 3 1, 3)) ∧ (decode cX4_longest 43 = .ok (.goto (-25), 3)) ∧ (decode cX4_longest 46 = .ok (.iload_n 2, 1)) ∧ (decode cX4_longest 47 = .ok (.ireturn, 1)) := by decide +kernel
theorem dX4_longest_24 : decode cX4_longest 24 = .ok (.aaload, 1) := bX4_longest_24.1
theorem dX4_longest_25 : decode cX4_longest 25 = .ok (.arraylength, 1) := bX4_longest_24.2.1
theorem dX4_longest_26 : decode cX4_longest 26 = .ok (.if_icmp .ge 20, 3) := bX4_longest_24.2.2.1
theorem dX4_longest_29 : decode cX4_longest 29 = .ok (.iload_n 2, 1) := bX4_longest_24.2.2.2.1
theorem dX4_longest_30 : decode cX4_longest 30 = .ok (.aload_n 0, 1) := bX4_longest_24.2.2.2.2.1
theorem dX4_longest_31 : decode cX4_longest 31 = .ok (.iload_n 1, 1) := bX4_longest_24.2.2.2.2.2.1
theorem dX4_longest_32 : decode cX4_longest 32 = .ok (.iload_n 3, 1) := bX4_longest_24.2.2.2.2.2.2.1
theorem dX4_longest_33 : decode cX4_longest 33 = .ok (.invokevirtual 114, 3) := bX4_longest_24.2.2.2.2.2.2.2.1
theorem dX4_longest_36 : decode cX4_longest 36 = .ok (.invokestatic 135, 3) := bX4_longest_24.2.2.2.2.2.2.2.2.1
theorem dX4_longest_39 : decode cX4_longest 39 = .ok (.istore_n 2, 1) := bX4_longest_24.2.2.2.2.2.2.2.2.2.1
theorem dX4_longest_40 : decode cX4_longest 40 = .ok (.iinc 3 1, 3) := bX4_longest_24.2.2.2.2.2.2.2.2.2.2.1
theorem dX4_longest_43 : decode cX4_longest 43 = .ok (.goto (-25), 3) := bX4_longest_24.2.2.2.2.2.2.2.2.2.2.2.1
theorem dX4_longest_46 : decode cX4_longest 46 = .ok (.iload_n 2, 1) := bX4_longest_24.2.2.2.2.2.2.2.2.2.2.2.2.1
theorem dX4_longest_47 : decode cX4_longest 47 = .ok (.ireturn, 1) := bX4_longest_24.2.2.2.2.2.2.2.2.2.2.2.2.2
set_option maxRecDepth 100000 in
theorem bX4_often_0 : (decode cX4_often 0 = .ok (.iconst 0, 1)) ∧ (decode cX4_often 1 = .ok (.istore 4, 2)) ∧ (decode cX4_often 3 = .ok (.aload_n 0, 1)) ∧ (decode cX4_often 4 = .ok (.getfield 11, 3)) ∧ (decode cX4_often 7 = .ok (.iload_n 1, 1)) ∧ (decode cX4_often 8 = .ok (.aaload, 1)) ∧ (decode cX4_often 9 = .ok (.astore 5, 2)) ∧ (decode cX4_often 11 = .ok (.aload 5, 2)) ∧ (decode cX4_often 13 = .ok (.arraylength, 1)) ∧ (decode cX4_often 14 = .ok (.istore 6, 2)) ∧ (decode cX4_often 16 = .ok (.iconst 0, 1)) ∧ (decode cX4_often 17 = .ok (.istore 7, 2)) ∧ (decode cX4_often 19 = .ok (.iload 7, 2)) ∧ (decode cX4_often 21 = .ok (.iload 6, 2)) ∧ (decode cX4_often 23 = .ok (.if_icmp .ge 36, 3)) ∧ (decode cX4_often 26 = .ok (.aload 5, 2)) := by decide +kernel
theorem dX4_often_0 : decode cX4_often 0 = .ok (.iconst 0, 1) := bX4_often_0.1
theorem dX4_often_1 : decode cX4_often 1 = .ok (.istore 4, 2) := bX4_often_0.2.1
theorem dX4_often_3 : decode cX4_often 3 = .ok (.aload_n 0, 1) := bX4_often_0.2.2.1
theorem dX4_often_4 : decode cX4_often 4 = .ok (.getfield 11, 3) := bX4_often_0.2.2.2.1
theorem dX4_often_7 : decode cX4_often 7 = .ok (.iload_n 1, 1) := bX4_often_0.2.2.2.2.1
theorem dX4_often_8 : decode cX4_often 8 = .ok (.aaload, 1) := bX4_often_0.2.2.2.2.2.1
theorem dX4_often_9 : decode cX4_often 9 = .ok (.astore 5, 2) := bX4_often_0.2.2.2.2.2.2.1
theorem dX4_often_11 : decode cX4_often 11 = .ok (.aload 5, 2) := bX4_often_0.2.2.2.2.2.2.2.1
theorem dX4_often_13 : decode cX4_often 13 = .ok (.arraylength, 1) := bX4_often_0.2.2.2.2.2.2.2.2.1
theorem dX4_often_14 : decode cX4_often 14 = .ok (.istore 6, 2) := bX4_often_0.2.2.2.2.2.2.2.2.2.1
theorem dX4_often_16 : decode cX4_often 16 = .ok (.iconst 0, 1) := bX4_often_0.2.2.2.2.2.2.2.2.2.2.1
theorem dX4_often_17 : decode cX4_often 17 = .ok (.istore 7, 2) := bX4_often_0.2.2.2.2.2.2.2.2.2.2.2.1
theorem dX4_often_19 : decode cX4_often 19 = .ok (.iload 7, 2) := bX4_often_0.2.2.2.2.2.2.2.2.2.2.2.2.1
theorem dX4_often_21 : decode cX4_often 21 = .ok (.iload 6, 2) := bX4_often_0.2.2.2.2.2.2.2.2.2.2.2.2.2.1
theorem dX4_often_23 : decode cX4_often 23 = .ok (.if_icmp .ge 36, 3) := bX4_often_0.2.2.2.2.2.2.2.2.2.2.2.2.2.2.1
theorem dX4_often_26 : decode cX4_often 26 = .ok (.aload 5, 2) := bX4_often_0.2.2.2.2.2.2.2.2.2.2.2.2.2.2.2
set_option maxRecDepth 100000 in
theorem bX4_often_28 : (decode cX4_often 28 = .ok (.iload 7, 2)) ∧ (decode cX4_often 30 = .ok (.iaload, 1)) ∧ (decode cX4_often 31 = .ok (.istore 8, 2)) ∧ (decode cX4_often 33 = .ok (.iload 4, 2)) ∧ (decode cX4_often 35 = .ok (.iload 8, 2)) ∧ (decode cX4_often 37 = .ok (.iload_n 2, 1)) ∧ (decode cX4_often 38 = .ok (.invokestatic 111, 3)) ∧ (decode cX4_often 41 = .ok (.iload_n 3, 1)) ∧ (decode cX4_often 42 = .ok (.if_icmp .ne 7, 3)) ∧ (decode cX4_often 45 = .ok (.iconst 1, 1)) ∧ (decode cX4_often 46 = .ok (.goto 4, 3)) ∧ (decode cX4_often 49 = .ok (.iconst 0, 1)) ∧ (decode cX4_often 50 = .ok (.iadd, 1)) ∧ (decode cX4_often 51 = .ok (.istore 4, 2)) ∧ (decode cX4_often 53 = .ok (.iinc 7 1, 3)) ∧ (decode cX4_often 56 = .ok (.goto (-37), 3)) := by decide +kernel
theorem dX4_often_28 : decode cX4_often 28 = .ok (.iload 7, 2) := bX4_often_28.1
theorem dX4_often_30 : decode cX4_often 30 = .ok (.iaload, 1) := bX4_often_28.2.1
theorem dX4_often_31 : decode cX4_often 31 = .ok (.istore 8, 2) := bX4_often_28.2.2.1
theorem dX4_often_33 : decode cX4_often 33 = .ok (.iload 4, 2) := bX4_often_28.2.2.2.1
theorem dX4_often_35 : decode cX4_often 35 = .ok (.iload 8, 2) := bX4_often_28.2.2.2.2.1
theorem dX4_often_37 : decode cX4_often 37 = .ok (.iload_n 2, 1) := bX4_often_28.2.2.2.2.2.1
theorem dX4_often_38 : decode cX4_often 38 = .ok (.invokestatic 111, 3) := bX4_often_28.2.2.2.2.2.2.1
theorem dX4_often_41 : decode cX4_often 41 = .ok (.iload_n 3, 1) := bX4_often_28.2.2.2.2.2.2.2.1
theorem dX4_often_42 : decode cX4_often 42 = .ok (.if_icmp .ne 7, 3) := bX4_often_28.2.2.2.2.2.2.2.2.1
theorem dX4_often_45 : decode cX4_often 45 = .ok (.iconst 1, 1) := bX4_often_28.2.2.2.2.2.2.2.2.2.1
theorem dX4_often_46 : decode cX4_often 46 = .ok (.goto 4, 3) := bX4_often_28.2.2.2.2.2.2.2.2.2.2.1
theorem dX4_often_49 : decode cX4_often 49 = .ok (.iconst 0, 1) := bX4_often_28.2.2.2.2.2.2.2.2.2.2.2.1
theorem dX4_often_50 : decode cX4_often 50 = .ok (.iadd, 1) := bX4_often_28.2.2.2.2.2.2.2.2.2.2.2.2.1
theorem dX4_often_51 : decode cX4_often 51 = .ok (.istore 4, 2) := bX4_often_28.2.2.2.2.2.2.2.2.2.2.2.2.2.1
theorem dX4_often_53 : decode cX4_often 53 = .ok (.iinc 7 1, 3) := bX4_often_28.2.2.2.2.2.2.2.2.2.2.2.2.2.2.1
theorem dX4_often_56 : decode cX4_often 56 = .ok (.goto (-37), 3) := bX4_often_28.2.2.2.2.2.2.2.2.2.2.2.2.2.2.2
set_option maxRecDepth 100000 in
theorem bX4_often_59 : (decode cX4_often 59 = .ok (.iload 4, 2)) ∧ (decode cX4_often 61 = .ok (.ireturn, 1)) := by decide +kernel
theorem dX4_often_59 : decode cX4_often 59 = .ok (.iload 4, 2) := bX4_often_59.1
theorem dX4_often_61 : decode cX4_often 61 = .ok (.ireturn, 1) := bX4_often_59.2
set_option maxRecDepth 100000 in
theorem bX4_count_0 : (decode cX4_count 0 = .ok (.aload_n 0, 1)) ∧ (decode cX4_count 1 = .ok (.iload_n 1, 1)) ∧ (decode cX4_count 2 = .ok (.invokestatic 25, 3)) ∧ (decode cX4_count 5 = .ok (.iload_n 2, 1)) ∧ (decode cX4_count 6 = .ok (.ldc 68, 2)) ∧ (decode cX4_count 8 = .ok (.ldc 69, 2)) ∧ (decode cX4_count 10 = .ok (.invokestatic 21, 3)) ∧ (decode cX4_count 13 = .ok (.invokevirtual 56, 3)) ∧ (decode cX4_count 16 = .ok (.ifCond .eq 13, 3)) ∧ (decode cX4_count 19 = .ok (.aload_n 0, 1)) ∧ (decode cX4_count 20 = .ok (.iload_n 1, 1)) ∧ (decode cX4_count 21 = .ok (.iload_n 2, 1)) ∧ (decode cX4_count 22 = .ok (.iconst 0, 1)) ∧ (decode cX4_count 23 = .ok (.invokevirtual 138, 3)) ∧ (decode cX4_count 26 = .ok (.goto 4, 3)) ∧ (decode cX4_count 29 = .ok (.iconst 0, 1)) := by decide +kernel
theorem dX4_count_0 : decode cX4_count 0 = .ok (.aload_n 0, 1) := bX4_count_0.1
theorem dX4_count_1 : decode cX4_count 1 = .ok (.iload_n 1, 1) := bX4_count_0.2.1
theorem dX4_count_2 : decode cX4_count 2 = .ok (.invokestatic 25, 3) := bX4_count_0.2.2.1
theorem dX4_count_5 : decode cX4_count 5 = .ok (.iload_n 2, 1) := bX4_count_0.2.2.2.1
theorem dX4_count_6 : decode cX4_count 6 = .ok (.ldc 68, 2) := bX4_count_0.2.2.2.2.1
theorem dX4_count_8 : decode cX4_count 8 = .ok (.ldc 69, 2) := bX4_count_0.2.2.2.2.2.1
theorem dX4_count_10 : decode cX4_count 10 = .ok (.invokestatic 21, 3) := bX4_count_0.2.2.2.2.2.2.1
theorem dX4_count_13 : decode cX4_count 13 = .ok (.invokevirtual 56, 3) := bX4_count_0.2.2.2.2.2.2.2.1
theorem dX4_count_16 : decode cX4_count 16 = .ok (.ifCond .eq 13, 3) := bX4_count_0.2.2.2.2.2.2.2.2.1
theorem dX4_count_19 : decode cX4_count 19 = .ok (.aload_n 0, 1) := bX4_count_0.2.2.2.2.2.2.2.2.2.1
theorem dX4_count_20 : decode cX4_count 20 = .ok (.iload_n 1, 1) := bX4_count_0.2.2.2.2.2.2.2.2.2.2.1
theorem dX4_count_21 : decode cX4_count 21 = .ok (.iload_n 2, 1) := bX4_count_0.2.2.2.2.2.2.2.2.2.2.2.1
theorem dX4_count_22 : decode cX4_count 22 = .ok (.iconst 0, 1) := bX4_count_0.2.2.2.2.2.2.2.2.2.2.2.2.1
theorem dX4_count_23 : decode cX4_count 23 = .ok (.invokevirtual 138, 3) := bX4_count_0.2.2.2.2.2.2.2.2.2.2.2.2.2.1
theorem dX4_count_26 : decode cX4_count 26 = .ok (.goto 4, 3) := bX4_count_0.2.2.2.2.2.2.2.2.2.2.2.2.2.2.1
theorem dX4_count_29 : decode cX4_count 29 = .ok (.iconst 0, 1) := bX4_count_0.2.2.2.2.2.2.2.2.2.2.2.2.2.2.2
theorem dX4_count_30 : decode cX4_count 30 = .ok (.ireturn, 1) := by decide +kernel
set_option maxRecDepth 100000 in
theorem bX4_below_0 : (decode cX4_below 0 = .ok (.aload_n 0, 1)) ∧ (decode cX4_below 1 = .ok (.iload_n 1, 1)) ∧ (decode cX4_below 2 = .ok (.invokestatic 25, 3)) ∧ (decode cX4_below 5 = .ok (.iload_n 2, 1)) ∧ (decode cX4_below 6 = .ok (.ldc 68, 2)) ∧ (decode cX4_below 8 = .ok (.ldc 69, 2)) ∧ (decode cX4_below 10 = .ok (.invokestatic 21, 3)) ∧ (decode cX4_below 13 = .ok (.invokevirtual 56, 3)) ∧ (decode cX4_below 16 = .ok (.ifCond .eq 13, 3)) ∧ (decode cX4_below 19 = .ok (.aload_n 0, 1)) ∧ (decode cX4_below 20 = .ok (.iload_n 1, 1)) ∧ (decode cX4_below 21 = .ok (.iload_n 2, 1)) ∧ (decode cX4_below 22 = .ok (.iconst (-1), 1)) ∧ (decode cX4_below 23 = .ok (.invokevirtual 138, 3)) ∧ (decode cX4_below 26 = .ok (.goto 4, 3)) ∧ (decode cX4_below 29 = .ok (.iconst 0, 1)) := by decide +kernel
theorem dX4_below_0 : decode cX4_below 0 = .ok (.aload_n 0, 1) := bX4_below_0.1
theorem dX4_below_1 : decode cX4_below 1 = .ok (.iload_n 1, 1) := bX4_below_0.2.1
theorem dX4_below_2 : decode cX4_below 2 = .ok (.invokestatic 25, 3) := bX4_below_0.2.2.1
theorem dX4_below_5 : decode cX4_below 5 = .ok (.iload_n 2, 1) := bX4_below_0.2.2.2.1
theorem dX4_below_6 : decode cX4_below 6 = .ok (.ldc 68, 2) := bX4_below_0.2.2.2.2.1
theorem dX4_below_8 : decode cX4_below 8 = .ok (.ldc 69, 2) := bX4_below_0.2.2.2.2.2.1
theorem dX4_below_10 : decode cX4_below 10 = .ok (.invokestatic 21, 3) := bX4_below_0.2.2.2.2.2.2.1
theorem dX4_below_13 : decode cX4_below 13 = .ok (.invokevirtual 56, 3) := bX4_below_0.2.2.2.2.2.2.2.1
theorem dX4_below_16 : decode cX4_below 16 = .ok (.ifCond .eq 13, 3) := bX4_below_0.2.2.2.2.2.2.2.2.1
theorem dX4_below_19 : decode cX4_below 19 = .ok (.aload_n 0, 1) := bX4_below_0.2.2.2.2.2.2.2.2.2.1
theorem dX4_below_20 : decode cX4_below 20 = .ok (.iload_n 1, 1) := bX4_below_0.2.2.2.2.2.2.2.2.2.2.1
theorem dX4_below_21 : decode cX4_below 21 = .ok (.iload_n 2, 1) := bX4_below_0.2.2.2.2.2.2.2.2.2.2.2.1
theorem dX4_below_22 : decode cX4_below 22 = .ok (.iconst (-1), 1) := bX4_below_0.2.2.2.2.2.2.2.2.2.2.2.2.1
theorem dX4_below_23 : decode cX4_below 23 = .ok (.invokevirtual 138, 3) := bX4_below_0.2.2.2.2.2.2.2.2.2.2.2.2.2.1
theorem dX4_below_26 : decode cX4_below 26 = .ok (.goto 4, 3) := bX4_below_0.2.2.2.2.2.2.2.2.2.2.2.2.2.2.1
theorem dX4_below_29 : decode cX4_below 29 = .ok (.iconst 0, 1) := bX4_below_0.2.2.2.2.2.2.2.2.2.2.2.2.2.2.2
theorem dX4_below_30 : decode cX4_below 30 = .ok (.ireturn, 1) := by decide +kernel
set_option maxRecDepth 100000 in
theorem bX4_first_0 : (decode cX4_first 0 = .ok (.aload_n 0, 1)) ∧ (decode cX4_first 1 = .ok (.iload_n 1, 1)) ∧ (decode cX4_first 2 = .ok (.invokestatic 25, 3)) ∧ (decode cX4_first 5 = .ok (.iload_n 2, 1)) ∧ (decode cX4_first 6 = .ok (.ldc 68, 2)) ∧ (decode cX4_first 8 = .ok (.ldc 69, 2)) ∧ (decode cX4_first 10 = .ok (.invokestatic 21, 3)) ∧ (decode cX4_first 13 = .ok (.invokevirtual 56, 3)) ∧ (decode cX4_first 16 = .ok (.ifCond .ne 5, 3)) ∧ (decode cX4_first 19 = .ok (.iconst 0, 1)) ∧ (decode cX4_first 20 = .ok (.ireturn, 1)) ∧ (decode cX4_first 21 = .ok (.iconst (-1), 1)) ∧ (decode cX4_first 22 = .ok (.istore 4, 2)) ∧ (decode cX4_first 24 = .ok (.iconst 0, 1)) ∧ (decode cX4_first 25 = .ok (.istore 5, 2)) ∧ (decode cX4_first 27 = .ok (.iload 5, 2)) := by decide +kernel
theorem dX4_first_0 : decode cX4_first 0 = .ok (.aload_n 0, 1) := bX4_first_0.1
theorem dX4_first_1 : decode cX4_first 1 = .ok (.iload_n 1, 1) := bX4_first_0.2.1
theorem dX4_first_2 : decode cX4_first 2 = .ok (.invokestatic 25, 3) := bX4_first_0.2.2.1
theorem dX4_first_5 : decode cX4_first 5 = .ok (.iload_n 2, 1) := bX4_first_0.2.2.2.1
theorem dX4_first_6 : decode cX4_first 6 = .ok (.ldc 68, 2) := bX4_first_0.2.2.2.2.1
theorem dX4_first_8 : decode cX4_first 8 = .ok (.ldc 69, 2) := bX4_first_0.2.2.2.2.2.1
theorem dX4_first_10 : decode cX4_first 10 = .ok (.invokestatic 21, 3) := bX4_first_0.2.2.2.2.2.2.1
theorem dX4_first_13 : decode cX4_first 13 = .ok (.invokevirtual 56, 3) := bX4_first_0.2.2.2.2.2.2.2.1
theorem dX4_first_16 : decode cX4_first 16 = .ok (.ifCond .ne 5, 3) := bX4_first_0.2.2.2.2.2.2.2.2.1
theorem dX4_first_19 : decode cX4_first 19 = .ok (.iconst 0, 1) := bX4_first_0.2.2.2.2.2.2.2.2.2.1
theorem dX4_first_20 : decode cX4_first 20 = .ok (.ireturn, 1) := bX4_first_0.2.2.2.2.2.2.2.2.2.2.1
theorem dX4_first_21 : decode cX4_first 21 = .ok (.iconst (-1), 1) := bX4_first_0.2.2.2.2.2.2.2.2.2.2.2.1
theorem dX4_first_22 : decode cX4_first 22 = .ok (.istore 4, 2) := bX4_first_0.2.2.2.2.2.2.2.2.2.2.2.2.1
theorem dX4_first_24 : decode cX4_first 24 = .ok (.iconst 0, 1) := bX4_first_0.2.2.2.2.2.2.2.2.2.2.2.2.2.1
theorem dX4_first_25 : decode cX4_first 25 = .ok (.istore 5, 2) := bX4_first_0.2.2.2.2.2.2.2.2.2.2.2.2.2.2.1
theorem dX4_first_27 : decode cX4_first 27 = .ok (.iload 5, 2) := bX4_first_0.2.2.2.2.2.2.2.2.2.2.2.2.2.2.2
set_option maxRecDepth 100000 in
theorem bX4_first_29 : (decode cX4_first 29 = .ok (.aload_n 0, 1)) ∧ (decode cX4_first 30 = .ok (.getfield 11, 3)) ∧ (decode cX4_first 33 = .ok (.iload_n 1, 1)) ∧ (decode cX4_first 34 = .ok (.aaload, 1)) ∧ (decode cX4_first 35 = .ok (.arraylength, 1)) ∧ (decode cX4_first 36 = .ok (.if_icmp .ge 36, 3)) ∧ (decode cX4_first 39 = .ok (.aload_n 0, 1)) ∧ (decode cX4_first 40 = .ok (.getfield 11, 3)) ∧ (decode cX4_first 43 = .ok (.iload_n 1, 1)) ∧ (decode cX4_first 44 = .ok (.aaload, 1)) ∧ (decode cX4_first 45 = .ok (.iload 5, 2)) ∧ (decode cX4_first 47 = .ok (.iaload, 1)) ∧ (decode cX4_first 48 = .ok (.iload_n 2, 1)) ∧ (decode cX4_first 49 = .ok (.if_icmp .ne 17, 3)) ∧ (decode cX4_first 52 = .ok (.iload_n 3, 1)) ∧ (decode cX4_first 53 = .ok (.ifCond .ne 9, 3)) := by decide +kernel
theorem dX4_first_29 : decode cX4_first 29 = .ok (.aload_n 0, 1) := bX4_first_29.1
theorem dX4_first_30 : decode cX4_first 30 = .ok (.getfield 11, 3) := bX4_first_29.2.1
theorem dX4_first_33 : decode cX4_first 33 = .ok (.iload_n 1, 1) := bX4_first_29.2.2.1
theorem dX4_first_34 : decode cX4_first 34 = .ok (.aaload, 1) := bX4_first_29.2.2.2.1
theorem dX4_first_35 : decode cX4_first 35 = .ok (.arraylength, 1) := bX4_first_29.2.2.2.2.1
theorem dX4_first_36 : decode cX4_first 36 = .ok (.if_icmp .ge 36, 3) := bX4_first_29.2.2.2.2.2.1
theorem dX4_first_39 : decode cX4_first 39 = .ok (.aload_n 0, 1) := bX4_first_29.2.2.2.2.2.2.1
theorem dX4_first_40 : decode cX4_first 40 = .ok (.getfield 11, 3) := bX4_first_29.2.2.2.2.2.2.2.1
theorem dX4_first_43 : decode cX4_first 43 = .ok (.iload_n 1, 1) := bX4_first_29.2.2.2.2.2.2.2.2.1
theorem dX4_first_44 : decode cX4_first 44 = .ok (.aaload, 1) := bX4_first_29.2.2.2.2.2.2.2.2.2.1
theorem dX4_first_45 : decode cX4_first 45 = .ok (.iload 5, 2) := bX4_first_29.2.2.2.2.2.2.2.2.2.2.1
theorem dX4_first_47 : decode cX4_first 47 = .ok (.iaload, 1) := bX4_first_29.2.2.2.2.2.2.2.2.2.2.2.1
theorem dX4_first_48 : decode cX4_first 48 = .ok (.iload_n 2, 1) := bX4_first_29.2.2.2.2.2.2.2.2.2.2.2.2.1
theorem dX4_first_49 : decode cX4_first 49 = .ok (.if_icmp .ne 17, 3) := bX4_first_29.2.2.2.2.2.2.2.2.2.2.2.2.2.1
theorem dX4_first_52 : decode cX4_first 52 = .ok (.iload_n 3, 1) := bX4_first_29.2.2.2.2.2.2.2.2.2.2.2.2.2.2.1
theorem dX4_first_53 : decode cX4_first 53 = .ok (.ifCond .ne 9, 3) := bX4_first_29.2.2.2.2.2.2.2.2.2.2.2.2.2.2.2
set_option maxRecDepth 100000 in
theorem bX4_first_56 : (decode cX4_first 56 = .ok (.iload 4, 2)) ∧ (decode cX4_first 58 = .ok (.iconst (-1), 1)) ∧ (decode cX4_first 59 = .ok (.if_icmp .ne 7, 3)) ∧ (decode cX4_first 62 = .ok (.iload 5, 2)) ∧ (decode cX4_first 64 = .ok (.istore 4, 2)) ∧ (decode cX4_first 66 = .ok (.iinc 5 1, 3)) ∧ (decode cX4_first 69 = .ok (.goto (-42), 3)) ∧ (decode cX4_first 72 = .ok (.iload 4, 2)) ∧ (decode cX4_first 74 = .ok (.ireturn, 1)) := by decide +kernel
theorem dX4_first_56 : decode cX4_first 56 = .ok (.iload 4, 2) := bX4_first_56.1
theorem dX4_first_58 : decode cX4_first 58 = .ok (.iconst (-1), 1) := bX4_first_56.2.1
theorem dX4_first_59 : decode cX4_first 59 = .ok (.if_icmp .ne 7, 3) := bX4_first_56.2.2.1
theorem dX4_first_62 : decode cX4_first 62 = .ok (.iload 5, 2) := bX4_first_56.2.2.2.1
theorem dX4_first_64 : decode cX4_first 64 = .ok (.istore 4, 2) := bX4_first_56.2.2.2.2.1
theorem dX4_first_66 : decode cX4_first 66 = .ok (.iinc 5 1, 3) := bX4_first_56.2.2.2.2.2.1
theorem dX4_first_69 : decode cX4_first 69 = .ok (.goto (-42), 3) := bX4_first_56.2.2.2.2.2.2.1
theorem dX4_first_72 : decode cX4_first 72 = .ok (.iload 4, 2) := bX4_first_56.2.2.2.2.2.2.2.1
theorem dX4_first_74 : decode cX4_first 74 = .ok (.ireturn, 1) := bX4_first_56.2.2.2.2.2.2.2.2
set_option maxRecDepth 100000 in
theorem bX4_end_0 : (decode cX4_end 0 = .ok (.aload_n 0, 1)) ∧ (decode cX4_end 1 = .ok (.iload_n 1, 1)) ∧ (decode cX4_end 2 = .ok (.invokestatic 25, 3)) ∧ (decode cX4_end 5 = .ok (.iconst 1, 1)) ∧ (decode cX4_end 6 = .ok (.invokevirtual 56, 3)) ∧ (decode cX4_end 9 = .ok (.ifCond .ne 5, 3)) ∧ (decode cX4_end 12 = .ok (.iconst 0, 1)) ∧ (decode cX4_end 13 = .ok (.ireturn, 1)) ∧ (decode cX4_end 14 = .ok (.ldc 142, 2)) ∧ (decode cX4_end 16 = .ok (.istore_n 3, 1)) ∧ (decode cX4_end 17 = .ok (.aload_n 0, 1)) ∧ (decode cX4_end 18 = .ok (.getfield 11, 3)) ∧ (decode cX4_end 21 = .ok (.iload_n 1, 1)) ∧ (decode cX4_end 22 = .ok (.aaload, 1)) ∧ (decode cX4_end 23 = .ok (.astore 4, 2)) ∧ (decode cX4_end 25 = .ok (.aload 4, 2)) := by decide +kernel
theorem dX4_end_0 : decode cX4_end 0 = .ok (.aload_n 0, 1) := bX4_end_0.1
theorem dX4_end_1 : decode cX4_end 1 = .ok (.iload_n 1, 1) := bX4_end_0.2.1
theorem dX4_end_2 : decode cX4_end 2 = .ok (.invokestatic 25, 3) := bX4_end_0.2.2.1
theorem dX4_end_5 : decode cX4_end 5 = .ok (.iconst 1, 1) := bX4_end_0.2.2.2.1
theorem dX4_end_6 : decode cX4_end 6 = .ok (.invokevirtual 56, 3) := bX4_end_0.2.2.2.2.1
theorem dX4_end_9 : decode cX4_end 9 = .ok (.ifCond .ne 5, 3) := bX4_end_0.2.2.2.2.2.1
theorem dX4_end_12 : decode cX4_end 12 = .ok (.iconst 0, 1) := bX4_end_0.2.2.2.2.2.2.1
theorem dX4_end_13 : decode cX4_end 13 = .ok (.ireturn, 1) := bX4_end_0.2.2.2.2.2.2.2.1
theorem dX4_end_14 : decode cX4_end 14 = .ok (.ldc 142, 2) := bX4_end_0.2.2.2.2.2.2.2.2.1
theorem dX4_end_16 : decode cX4_end 16 = .ok (.istore_n 3, 1) := bX4_end_0.2.2.2.2.2.2.2.2.2.1
theorem dX4_end_17 : decode cX4_end 17 = .ok (.aload_n 0, 1) := bX4_end_0.2.2.2.2.2.2.2.2.2.2.1
theorem dX4_end_18 : decode cX4_end 18 = .ok (.getfield 11, 3) := bX4_end_0.2.2.2.2.2.2.2.2.2.2.2.1
theorem dX4_end_21 : decode cX4_end 21 = .ok (.iload_n 1, 1) := bX4_end_0.2.2.2.2.2.2.2.2.2.2.2.2.1
theorem dX4_end_22 : decode cX4_end 22 = .ok (.aaload, 1) := bX4_end_0.2.2.2.2.2.2.2.2.2.2.2.2.2.1
theorem dX4_end_23 : decode cX4_end 23 = .ok (.astore 4, 2) := bX4_end_0.2.2.2.2.2.2.2.2.2.2.2.2.2.2.1
theorem dX4_end_25 : decode cX4_end 25 = .ok (.aload 4, 2) := bX4_end_0.2.2.2.2.2.2.2.2.2.2.2.2.2.2.2
set_option maxRecDepth 100000 in
theorem bX4_end_27 : (decode cX4_end 27 = .ok (.arraylength, 1)) ∧ (decode cX4_end 28 = .ok (.istore 5, 2)) ∧ (decode cX4_end 30 = .ok (.iconst 0, 1)) ∧ (decode cX4_end 31 = .ok (.istore 6, 2)) ∧ (decode cX4_end 33 = .ok (.iload 6, 2)) ∧ (decode cX4_end 35 = .ok (.iload 5, 2)) ∧ (decode cX4_end 37 = .ok (.if_icmp .ge 47, 3)) ∧ (decode cX4_end 40 = .ok (.aload 4, 2)) ∧ (decode cX4_end 42 = .ok (.iload 6, 2)) ∧ (decode cX4_end 44 = .ok (.iaload, 1)) ∧ (decode cX4_end 45 = .ok (.istore 7, 2)) ∧ (decode cX4_end 47 = .ok (.iload_n 3, 1)) ∧ (decode cX4_end 48 = .ok (.ldc 142, 2)) ∧ (decode cX4_end 50 = .ok (.if_icmp .ne 8, 3)) ∧ (decode cX4_end 53 = .ok (.iload 7, 2)) ∧ (decode cX4_end 55 = .ok (.goto 22, 3)) := by decide +kernel
theorem dX4_end_27 : decode cX4_end 27 = .ok (.arraylength, 1) := bX4_end_27.1
theorem dX4_end_28 : decode cX4_end 28 = .ok (.istore 5, 2) := bX4_end_27.2.1
theorem dX4_end_30 : decode cX4_end 30 = .ok (.iconst 0, 1) := bX4_end_27.2.2.1
theorem dX4_end_31 : decode cX4_end 31 = .ok (.istore 6, 2) := bX4_end_27.2.2.2.1
theorem dX4_end_33 : decode cX4_end 33 = .ok (.iload 6, 2) := bX4_end_27.2.2.2.2.1
theorem dX4_end_35 : decode cX4_end 35 = .ok (.iload 5, 2) := bX4_end_27.2.2.2.2.2.1
theorem dX4_end_37 : decode cX4_end 37 = .ok (.if_icmp .ge 47, 3) := bX4_end_27.2.2.2.2.2.2.1
theorem dX4_end_40 : decode cX4_end 40 = .ok (.aload 4, 2) := bX4_end_27.2.2.2.2.2.2.2.1
theorem dX4_end_42 : decode cX4_end 42 = .ok (.iload 6, 2) := bX4_end_27.2.2.2.2.2.2.2.2.1
theorem dX4_end_44 : decode cX4_end 44 = .ok (.iaload, 1) := bX4_end_27.2.2.2.2.2.2.2.2.2.1
theorem dX4_end_45 : decode cX4_end 45 = .ok (.istore 7, 2) := bX4_end_27.2.2.2.2.2.2.2.2.2.2.1
theorem dX4_end_47 : decode cX4_end 47 = .ok (.iload_n 3, 1) := bX4_end_27.2.2.2.2.2.2.2.2.2.2.2.1
theorem dX4_end_48 : decode cX4_end 48 = .ok (.ldc 142, 2) := bX4_end_27.2.2.2.2.2.2.2.2.2.2.2.2.1
theorem dX4_end_50 : decode cX4_end 50 = .ok (.if_icmp .ne 8, 3) := bX4_end_27.2.2.2.2.2.2.2.2.2.2.2.2.2.1
theorem dX4_end_53 : decode cX4_end 53 = .ok (.iload 7, 2) := bX4_end_27.2.2.2.2.2.2.2.2.2.2.2.2.2.2.1
theorem dX4_end_55 : decode cX4_end 55 = .ok (.goto 22, 3) := bX4_end_27.2.2.2.2.2.2.2.2.2.2.2.2.2.2.2
set_option maxRecDepth 100000 in
theorem bX4_end_58 : (decode cX4_end 58 = .ok (.iload_n 2, 1)) ∧ (decode cX4_end 59 = .ok (.ifCond .eq 12, 3)) ∧ (decode cX4_end 62 = .ok (.iload_n 3, 1)) ∧ (decode cX4_end 63 = .ok (.iload 7, 2)) ∧ (decode cX4_end 65 = .ok (.invokestatic 135, 3)) ∧ (decode cX4_end 68 = .ok (.goto 9, 3)) ∧ (decode cX4_end 71 = .ok (.iload_n 3, 1)) ∧ (decode cX4_end 72 = .ok (.iload 7, 2)) ∧ (decode cX4_end 74 = .ok (.invokestatic 46, 3)) ∧ (decode cX4_end 77 = .ok (.istore_n 3, 1)) ∧ (decode cX4_end 78 = .ok (.iinc 6 1, 3)) ∧ (decode cX4_end 81 = .ok (.goto (-48), 3)) ∧ (decode cX4_end 84 = .ok (.iload_n 3, 1)) ∧ (decode cX4_end 85 = .ok (.ireturn, 1)) := by decide +kernel
theorem dX4_end_58 : decode cX4_end 58 = .ok (.iload_n 2, 1) := bX4_end_58.1
theorem dX4_end_59 : decode cX4_end 59 = .ok (.ifCond .eq 12, 3) := bX4_end_58.2.1
theorem dX4_end_62 : decode cX4_end 62 = .ok (.iload_n 3, 1) := bX4_end_58.2.2.1
theorem dX4_end_63 : decode cX4_end 63 = .ok (.iload 7, 2) := bX4_end_58.2.2.2.1
theorem dX4_end_65 : decode cX4_end 65 = .ok (.invokestatic 135, 3) := bX4_end_58.2.2.2.2.1
theorem dX4_end_68 : decode cX4_end 68 = .ok (.goto 9, 3) := bX4_end_58.2.2.2.2.2.1
theorem dX4_end_71 : decode cX4_end 71 = .ok (.iload_n 3, 1) := bX4_end_58.2.2.2.2.2.2.1
theorem dX4_end_72 : decode cX4_end 72 = .ok (.iload 7, 2) := bX4_end_58.2.2.2.2.2.2.2.1
theorem dX4_end_74 : decode cX4_end 74 = .ok (.invokestatic 46, 3) := bX4_end_58.2.2.2.2.2.2.2.2.1
theorem dX4_end_77 : decode cX4_end 77 = .ok (.istore_n 3, 1) := bX4_end_58.2.2.2.2.2.2.2.2.2.1
theorem dX4_end_78 : decode cX4_end 78 = .ok (.iinc 6 1, 3) := bX4_end_58.2.2.2.2.2.2.2.2.2.2.1
theorem dX4_end_81 : decode cX4_end 81 = .ok (.goto (-48), 3) := bX4_end_58.2.2.2.2.2.2.2.2.2.2.2.1
theorem dX4_end_84 : decode cX4_end 84 = .ok (.iload_n 3, 1) := bX4_end_58.2.2.2.2.2.2.2.2.2.2.2.2.1
theorem dX4_end_85 : decode cX4_end 85 = .ok (.ireturn, 1) := bX4_end_58.2.2.2.2.2.2.2.2.2.2.2.2.2
set_option maxRecDepth 100000 in
theorem bX4_unlike__0 : (decode cX4_unlike_ 0 = .ok (.aload_n 0, 1)) ∧ (decode cX4_unlike_ 1 = .ok (.iload_n 1, 1)) ∧ (decode cX4_unlike_ 2 = .ok (.invokestatic 25, 3)) ∧ (decode cX4_unlike_ 5 = .ok (.iconst 1, 1)) ∧ (decode cX4_unlike_ 6 = .ok (.invokevirtual 56, 3)) ∧ (decode cX4_unlike_ 9 = .ok (.ifCond .ne 5, 3)) ∧ (decode cX4_unlike_ 12 = .ok (.iconst 0, 1)) ∧ (decode cX4_unlike_ 13 = .ok (.ireturn, 1)) ∧ (decode cX4_unlike_ 14 = .ok (.iconst 0, 1)) ∧ (decode cX4_unlike_ 15 = .ok (.istore_n 2, 1)) ∧ (decode cX4_unlike_ 16 = .ok (.iconst 0, 1)) ∧ (decode cX4_unlike_ 17 = .ok (.istore_n 3, 1)) ∧ (decode cX4_unlike_ 18 = .ok (.iload_n 3, 1)) ∧ (decode cX4_unlike_ 19 = .ok (.aload_n 0, 1)) ∧ (decode cX4_unlike_ 20 = .ok (.getfield 11, 3)) ∧ (decode cX4_unlike_ 23 = .ok (.iload_n 1, 1)) := by decide +kernel
theorem dX4_unlike__0 : decode cX4_unlike_ 0 = .ok (.aload_n 0, 1) := bX4_unlike__0.1
theorem dX4_unlike__1 : decode cX4_unlike_ 1 = .ok (.iload_n 1, 1) := bX4_unlike__0.2.1
theorem dX4_unlike__2 : decode cX4_unlike_ 2 = .ok (.invokestatic 25, 3) := bX4_unlike__0.2.2.1
theorem dX4_unlike__5 : decode cX4_unlike_ 5 = .ok (.iconst 1, 1) := bX4_unlike__0.2.2.2.1
theorem dX4_unlike__6 : decode cX4_unlike_ 6 = .ok (.invokevirtual 56, 3) := bX4_unlike__0.2.2.2.2.1
theorem dX4_unlike__9 : decode cX4_unlike_ 9 = .ok (.ifCond .ne 5, 3) := bX4_unlike__0.2.2.2.2.2.1
theorem dX4_unlike__12 : decode cX4_unlike_ 12 = .ok (.iconst 0, 1) := bX4_unlike__0.2.2.2.2.2.2.1
theorem dX4_unlike__13 : decode cX4_unlike_ 13 = .ok (.ireturn, 1) := bX4_unlike__0.2.2.2.2.2.2.2.1
theorem dX4_unlike__14 : decode cX4_unlike_ 14 = .ok (.iconst 0, 1) := bX4_unlike__0.2.2.2.2.2.2.2.2.1
theorem dX4_unlike__15 : decode cX4_unlike_ 15 = .ok (.istore_n 2, 1) := bX4_unlike__0.2.2.2.2.2.2.2.2.2.1
theorem dX4_unlike__16 : decode cX4_unlike_ 16 = .ok (.iconst 0, 1) := bX4_unlike__0.2.2.2.2.2.2.2.2.2.2.1
theorem dX4_unlike__17 : decode cX4_unlike_ 17 = .ok (.istore_n 3, 1) := bX4_unlike__0.2.2.2.2.2.2.2.2.2.2.2.1
theorem dX4_unlike__18 : decode cX4_unlike_ 18 = .ok (.iload_n 3, 1) := bX4_unlike__0.2.2.2.2.2.2.2.2.2.2.2.2.1
theorem dX4_unlike__19 : decode cX4_unlike_ 19 = .ok (.aload_n 0, 1) := bX4_unlike__0.2.2.2.2.2.2.2.2.2.2.2.2.2.1
theorem dX4_unlike__20 : decode cX4_unlike_ 20 = .ok (.getfield 11, 3) := bX4_unlike__0.2.2.2.2.2.2.2.2.2.2.2.2.2.2.1
theorem dX4_unlike__23 : decode cX4_unlike_ 23 = .ok (.iload_n 1, 1) := bX4_unlike__0.2.2.2.2.2.2.2.2.2.2.2.2.2.2.2
set_option maxRecDepth 100000 in
theorem bX4_unlike__24 : (decode cX4_unlike_ 24 = .ok (.aaload, 1)) ∧ (decode cX4_unlike_ 25 = .ok (.arraylength, 1)) ∧ (decode cX4_unlike_ 26 = .ok (.if_icmp .ge 26, 3)) ∧ (decode cX4_unlike_ 29 = .ok (.iload_n 2, 1)) ∧ (decode cX4_unlike_ 30 = .ok (.aload_n 0, 1)) ∧ (decode cX4_unlike_ 31 = .ok (.iload_n 1, 1)) ∧ (decode cX4_unlike_ 32 = .ok (.iload_n 3, 1)) ∧ (decode cX4_unlike_ 33 = .ok (.invokevirtual 143, 3)) ∧ (decode cX4_unlike_ 36 = .ok (.ifCond .eq 7, 3)) ∧ (decode cX4_unlike_ 39 = .ok (.iconst 1, 1)) ∧ (decode cX4_unlike_ 40 = .ok (.goto 4, 3)) ∧ (decode cX4_unlike_ 43 = .ok (.iconst 0, 1)) ∧ (decode cX4_unlike_ 44 = .ok (.iadd, 1)) ∧ (decode cX4_unlike_ 45 = .ok (.istore_n 2, 1)) ∧ (decode cX4_unlike_ 46 = .ok (.iinc 3 1, 3)) ∧ (decode cX4_unlike_ 49 = .ok (.goto (-31), 3)) := by decide +kernel
theorem dX4_unlike__24 : decode cX4_unlike_ 24 = .ok (.aaload, 1) := bX4_unlike__24.1
theorem dX4_unlike__25 : decode cX4_unlike_ 25 = .ok (.arraylength, 1) := bX4_unlike__24.2.1
theorem dX4_unlike__26 : decode cX4_unlike_ 26 = .ok (.if_icmp .ge 26, 3) := bX4_unlike__24.2.2.1
theorem dX4_unlike__29 : decode cX4_unlike_ 29 = .ok (.iload_n 2, 1) := bX4_unlike__24.2.2.2.1
theorem dX4_unlike__30 : decode cX4_unlike_ 30 = .ok (.aload_n 0, 1) := bX4_unlike__24.2.2.2.2.1
theorem dX4_unlike__31 : decode cX4_unlike_ 31 = .ok (.iload_n 1, 1) := bX4_unlike__24.2.2.2.2.2.1
theorem dX4_unlike__32 : decode cX4_unlike_ 32 = .ok (.iload_n 3, 1) := bX4_unlike__24.2.2.2.2.2.2.1
theorem dX4_unlike__33 : decode cX4_unlike_ 33 = .ok (.invokevirtual 143, 3) := bX4_unlike__24.2.2.2.2.2.2.2.1
theorem dX4_unlike__36 : decode cX4_unlike_ 36 = .ok (.ifCond .eq 7, 3) := bX4_unlike__24.2.2.2.2.2.2.2.2.1
theorem dX4_unlike__39 : decode cX4_unlike_ 39 = .ok (.iconst 1, 1) := bX4_unlike__24.2.2.2.2.2.2.2.2.2.1
theorem dX4_unlike__40 : decode cX4_unlike_ 40 = .ok (.goto 4, 3) := bX4_unlike__24.2.2.2.2.2.2.2.2.2.2.1
theorem dX4_unlike__43 : decode cX4_unlike_ 43 = .ok (.iconst 0, 1) := bX4_unlike__24.2.2.2.2.2.2.2.2.2.2.2.1
theorem dX4_unlike__44 : decode cX4_unlike_ 44 = .ok (.iadd, 1) := bX4_unlike__24.2.2.2.2.2.2.2.2.2.2.2.2.1
theorem dX4_unlike__45 : decode cX4_unlike_ 45 = .ok (.istore_n 2, 1) := bX4_unlike__24.2.2.2.2.2.2.2.2.2.2.2.2.2.1
theorem dX4_unlike__46 : decode cX4_unlike_ 46 = .ok (.iinc 3 1, 3) := bX4_unlike__24.2.2.2.2.2.2.2.2.2.2.2.2.2.2.1
theorem dX4_unlike__49 : decode cX4_unlike_ 49 = .ok (.goto (-31), 3) := bX4_unlike__24.2.2.2.2.2.2.2.2.2.2.2.2.2.2.2
set_option maxRecDepth 100000 in
theorem bX4_unlike__52 : (decode cX4_unlike_ 52 = .ok (.iload_n 2, 1)) ∧ (decode cX4_unlike_ 53 = .ok (.ireturn, 1)) := by decide +kernel
theorem dX4_unlike__52 : decode cX4_unlike_ 52 = .ok (.iload_n 2, 1) := bX4_unlike__52.1
theorem dX4_unlike__53 : decode cX4_unlike_ 53 = .ok (.ireturn, 1) := bX4_unlike__52.2
set_option maxRecDepth 100000 in
theorem bX4_isNew_0 : (decode cX4_isNew 0 = .ok (.iconst 0, 1)) ∧ (decode cX4_isNew 1 = .ok (.istore_n 3, 1)) ∧ (decode cX4_isNew 2 = .ok (.iload_n 3, 1)) ∧ (decode cX4_isNew 3 = .ok (.iload_n 2, 1)) ∧ (decode cX4_isNew 4 = .ok (.if_icmp .ge 30, 3)) ∧ (decode cX4_isNew 7 = .ok (.aload_n 0, 1)) ∧ (decode cX4_isNew 8 = .ok (.getfield 11, 3)) ∧ (decode cX4_isNew 11 = .ok (.iload_n 1, 1)) ∧ (decode cX4_isNew 12 = .ok (.aaload, 1)) ∧ (decode cX4_isNew 13 = .ok (.iload_n 3, 1)) ∧ (decode cX4_isNew 14 = .ok (.iaload, 1)) ∧ (decode cX4_isNew 15 = .ok (.aload_n 0, 1)) ∧ (decode cX4_isNew 16 = .ok (.getfield 11, 3)) ∧ (decode cX4_isNew 19 = .ok (.iload_n 1, 1)) ∧ (decode cX4_isNew 20 = .ok (.aaload, 1)) ∧ (decode cX4_isNew 21 = .ok (.iload_n 2, 1)) := by decide +kernel
theorem dX4_isNew_0 : decode cX4_isNew 0 = .ok (.iconst 0, 1) := bX4_isNew_0.1
theorem dX4_isNew_1 : decode cX4_isNew 1 = .ok (.istore_n 3, 1) := bX4_isNew_0.2.1
theorem dX4_isNew_2 : decode cX4_isNew 2 = .ok (.iload_n 3, 1) := bX4_isNew_0.2.2.1
theorem dX4_isNew_3 : decode cX4_isNew 3 = .ok (.iload_n 2, 1) := bX4_isNew_0.2.2.2.1
theorem dX4_isNew_4 : decode cX4_isNew 4 = .ok (.if_icmp .ge 30, 3) := bX4_isNew_0.2.2.2.2.1
theorem dX4_isNew_7 : decode cX4_isNew 7 = .ok (.aload_n 0, 1) := bX4_isNew_0.2.2.2.2.2.1
theorem dX4_isNew_8 : decode cX4_isNew 8 = .ok (.getfield 11, 3) := bX4_isNew_0.2.2.2.2.2.2.1
theorem dX4_isNew_11 : decode cX4_isNew 11 = .ok (.iload_n 1, 1) := bX4_isNew_0.2.2.2.2.2.2.2.1
theorem dX4_isNew_12 : decode cX4_isNew 12 = .ok (.aaload, 1) := bX4_isNew_0.2.2.2.2.2.2.2.2.1
theorem dX4_isNew_13 : decode cX4_isNew 13 = .ok (.iload_n 3, 1) := bX4_isNew_0.2.2.2.2.2.2.2.2.2.1
theorem dX4_isNew_14 : decode cX4_isNew 14 = .ok (.iaload, 1) := bX4_isNew_0.2.2.2.2.2.2.2.2.2.2.1
theorem dX4_isNew_15 : decode cX4_isNew 15 = .ok (.aload_n 0, 1) := bX4_isNew_0.2.2.2.2.2.2.2.2.2.2.2.1
theorem dX4_isNew_16 : decode cX4_isNew 16 = .ok (.getfield 11, 3) := bX4_isNew_0.2.2.2.2.2.2.2.2.2.2.2.2.1
theorem dX4_isNew_19 : decode cX4_isNew 19 = .ok (.iload_n 1, 1) := bX4_isNew_0.2.2.2.2.2.2.2.2.2.2.2.2.2.1
theorem dX4_isNew_20 : decode cX4_isNew 20 = .ok (.aaload, 1) := bX4_isNew_0.2.2.2.2.2.2.2.2.2.2.2.2.2.2.1
theorem dX4_isNew_21 : decode cX4_isNew 21 = .ok (.iload_n 2, 1) := bX4_isNew_0.2.2.2.2.2.2.2.2.2.2.2.2.2.2.2
set_option maxRecDepth 100000 in
theorem bX4_isNew_22 : (decode cX4_isNew 22 = .ok (.iaload, 1)) ∧ (decode cX4_isNew 23 = .ok (.if_icmp .ne 5, 3)) ∧ (decode cX4_isNew 26 = .ok (.iconst 0, 1)) ∧ (decode cX4_isNew 27 = .ok (.ireturn, 1)) ∧ (decode cX4_isNew 28 = .ok (.iinc 3 1, 3)) ∧ (decode cX4_isNew 31 = .ok (.goto (-29), 3)) ∧ (decode cX4_isNew 34 = .ok (.iconst 1, 1)) ∧ (decode cX4_isNew 35 = .ok (.ireturn, 1)) := by decide +kernel
theorem dX4_isNew_22 : decode cX4_isNew 22 = .ok (.iaload, 1) := bX4_isNew_22.1
theorem dX4_isNew_23 : decode cX4_isNew 23 = .ok (.if_icmp .ne 5, 3) := bX4_isNew_22.2.1
theorem dX4_isNew_26 : decode cX4_isNew 26 = .ok (.iconst 0, 1) := bX4_isNew_22.2.2.1
theorem dX4_isNew_27 : decode cX4_isNew 27 = .ok (.ireturn, 1) := bX4_isNew_22.2.2.2.1
theorem dX4_isNew_28 : decode cX4_isNew 28 = .ok (.iinc 3 1, 3) := bX4_isNew_22.2.2.2.2.1
theorem dX4_isNew_31 : decode cX4_isNew 31 = .ok (.goto (-29), 3) := bX4_isNew_22.2.2.2.2.2.1
theorem dX4_isNew_34 : decode cX4_isNew 34 = .ok (.iconst 1, 1) := bX4_isNew_22.2.2.2.2.2.2.1
theorem dX4_isNew_35 : decode cX4_isNew 35 = .ok (.ireturn, 1) := bX4_isNew_22.2.2.2.2.2.2.2
set_option maxRecDepth 100000 in
theorem bX4_most_0 : (decode cX4_most 0 = .ok (.aload_n 0, 1)) ∧ (decode cX4_most 1 = .ok (.iload_n 1, 1)) ∧ (decode cX4_most 2 = .ok (.invokestatic 25, 3)) ∧ (decode cX4_most 5 = .ok (.iconst 1, 1)) ∧ (decode cX4_most 6 = .ok (.invokevirtual 56, 3)) ∧ (decode cX4_most 9 = .ok (.ifCond .ne 5, 3)) ∧ (decode cX4_most 12 = .ok (.iconst 0, 1)) ∧ (decode cX4_most 13 = .ok (.ireturn, 1)) ∧ (decode cX4_most 14 = .ok (.ldc 142, 2)) ∧ (decode cX4_most 16 = .ok (.istore_n 2, 1)) ∧ (decode cX4_most 17 = .ok (.iconst 0, 1)) ∧ (decode cX4_most 18 = .ok (.istore_n 3, 1)) ∧ (decode cX4_most 19 = .ok (.aload_n 0, 1)) ∧ (decode cX4_most 20 = .ok (.getfield 11, 3)) ∧ (decode cX4_most 23 = .ok (.iload_n 1, 1)) ∧ (decode cX4_most 24 = .ok (.aaload, 1)) := by decide +kernel
theorem dX4_most_0 : decode cX4_most 0 = .ok (.aload_n 0, 1) := bX4_most_0.1
theorem dX4_most_1 : decode cX4_most 1 = .ok (.iload_n 1, 1) := bX4_most_0.2.1
theorem dX4_most_2 : decode cX4_most 2 = .ok (.invokestatic 25, 3) := bX4_most_0.2.2.1
theorem dX4_most_5 : decode cX4_most 5 = .ok (.iconst 1, 1) := bX4_most_0.2.2.2.1
theorem dX4_most_6 : decode cX4_most 6 = .ok (.invokevirtual 56, 3) := bX4_most_0.2.2.2.2.1
theorem dX4_most_9 : decode cX4_most 9 = .ok (.ifCond .ne 5, 3) := bX4_most_0.2.2.2.2.2.1
theorem dX4_most_12 : decode cX4_most 12 = .ok (.iconst 0, 1) := bX4_most_0.2.2.2.2.2.2.1
theorem dX4_most_13 : decode cX4_most 13 = .ok (.ireturn, 1) := bX4_most_0.2.2.2.2.2.2.2.1
theorem dX4_most_14 : decode cX4_most 14 = .ok (.ldc 142, 2) := bX4_most_0.2.2.2.2.2.2.2.2.1
theorem dX4_most_16 : decode cX4_most 16 = .ok (.istore_n 2, 1) := bX4_most_0.2.2.2.2.2.2.2.2.2.1
theorem dX4_most_17 : decode cX4_most 17 = .ok (.iconst 0, 1) := bX4_most_0.2.2.2.2.2.2.2.2.2.2.1
theorem dX4_most_18 : decode cX4_most 18 = .ok (.istore_n 3, 1) := bX4_most_0.2.2.2.2.2.2.2.2.2.2.2.1
theorem dX4_most_19 : decode cX4_most 19 = .ok (.aload_n 0, 1) := bX4_most_0.2.2.2.2.2.2.2.2.2.2.2.2.1
theorem dX4_most_20 : decode cX4_most 20 = .ok (.getfield 11, 3) := bX4_most_0.2.2.2.2.2.2.2.2.2.2.2.2.2.1
theorem dX4_most_23 : decode cX4_most 23 = .ok (.iload_n 1, 1) := bX4_most_0.2.2.2.2.2.2.2.2.2.2.2.2.2.2.1
theorem dX4_most_24 : decode cX4_most 24 = .ok (.aaload, 1) := bX4_most_0.2.2.2.2.2.2.2.2.2.2.2.2.2.2.2
set_option maxRecDepth 100000 in
theorem bX4_most_25 : (decode cX4_most 25 = .ok (.astore 4, 2)) ∧ (decode cX4_most 27 = .ok (.aload 4, 2)) ∧ (decode cX4_most 29 = .ok (.arraylength, 1)) ∧ (decode cX4_most 30 = .ok (.istore 5, 2)) ∧ (decode cX4_most 32 = .ok (.iconst 0, 1)) ∧ (decode cX4_most 33 = .ok (.istore 6, 2)) ∧ (decode cX4_most 35 = .ok (.iload 6, 2)) ∧ (decode cX4_most 37 = .ok (.iload 5, 2)) ∧ (decode cX4_most 39 = .ok (.if_icmp .ge 53, 3)) ∧ (decode cX4_most 42 = .ok (.aload 4, 2)) ∧ (decode cX4_most 44 = .ok (.iload 6, 2)) ∧ (decode cX4_most 46 = .ok (.iaload, 1)) ∧ (decode cX4_most 47 = .ok (.istore 7, 2)) ∧ (decode cX4_most 49 = .ok (.aload_n 0, 1)) ∧ (decode cX4_most 50 = .ok (.iload_n 1, 1)) ∧ (decode cX4_most 51 = .ok (.iload 7, 2)) := by decide +kernel
theorem dX4_most_25 : decode cX4_most 25 = .ok (.astore 4, 2) := bX4_most_25.1
theorem dX4_most_27 : decode cX4_most 27 = .ok (.aload 4, 2) := bX4_most_25.2.1
theorem dX4_most_29 : decode cX4_most 29 = .ok (.arraylength, 1) := bX4_most_25.2.2.1
theorem dX4_most_30 : decode cX4_most 30 = .ok (.istore 5, 2) := bX4_most_25.2.2.2.1
theorem dX4_most_32 : decode cX4_most 32 = .ok (.iconst 0, 1) := bX4_most_25.2.2.2.2.1
theorem dX4_most_33 : decode cX4_most 33 = .ok (.istore 6, 2) := bX4_most_25.2.2.2.2.2.1
theorem dX4_most_35 : decode cX4_most 35 = .ok (.iload 6, 2) := bX4_most_25.2.2.2.2.2.2.1
theorem dX4_most_37 : decode cX4_most 37 = .ok (.iload 5, 2) := bX4_most_25.2.2.2.2.2.2.2.1
theorem dX4_most_39 : decode cX4_most 39 = .ok (.if_icmp .ge 53, 3) := bX4_most_25.2.2.2.2.2.2.2.2.1
theorem dX4_most_42 : decode cX4_most 42 = .ok (.aload 4, 2) := bX4_most_25.2.2.2.2.2.2.2.2.2.1
theorem dX4_most_44 : decode cX4_most 44 = .ok (.iload 6, 2) := bX4_most_25.2.2.2.2.2.2.2.2.2.2.1
theorem dX4_most_46 : decode cX4_most 46 = .ok (.iaload, 1) := bX4_most_25.2.2.2.2.2.2.2.2.2.2.2.1
theorem dX4_most_47 : decode cX4_most 47 = .ok (.istore 7, 2) := bX4_most_25.2.2.2.2.2.2.2.2.2.2.2.2.1
theorem dX4_most_49 : decode cX4_most 49 = .ok (.aload_n 0, 1) := bX4_most_25.2.2.2.2.2.2.2.2.2.2.2.2.2.1
theorem dX4_most_50 : decode cX4_most 50 = .ok (.iload_n 1, 1) := bX4_most_25.2.2.2.2.2.2.2.2.2.2.2.2.2.2.1
theorem dX4_most_51 : decode cX4_most 51 = .ok (.iload 7, 2) := bX4_most_25.2.2.2.2.2.2.2.2.2.2.2.2.2.2.2
set_option maxRecDepth 100000 in
theorem bX4_most_53 : (decode cX4_most 53 = .ok (.iconst 0, 1)) ∧ (decode cX4_most 54 = .ok (.invokevirtual 138, 3)) ∧ (decode cX4_most 57 = .ok (.istore 8, 2)) ∧ (decode cX4_most 59 = .ok (.iload 8, 2)) ∧ (decode cX4_most 61 = .ok (.iload_n 3, 1)) ∧ (decode cX4_most 62 = .ok (.if_icmp .lt 24, 3)) ∧ (decode cX4_most 65 = .ok (.iload 8, 2)) ∧ (decode cX4_most 67 = .ok (.iload_n 3, 1)) ∧ (decode cX4_most 68 = .ok (.if_icmp .ne 12, 3)) ∧ (decode cX4_most 71 = .ok (.iload 7, 2)) ∧ (decode cX4_most 73 = .ok (.iload_n 2, 1)) ∧ (decode cX4_most 74 = .ok (.if_icmp .lt 6, 3)) ∧ (decode cX4_most 77 = .ok (.goto 9, 3)) ∧ (decode cX4_most 80 = .ok (.iload 7, 2)) ∧ (decode cX4_most 82 = .ok (.istore_n 2, 1)) ∧ (decode cX4_most 83 = .ok (.iload 8, 2)) := by decide +kernel
theorem dX4_most_53 : decode cX4_most 53 = .ok (.iconst 0, 1) := bX4_most_53.1
theorem dX4_most_54 : decode cX4_most 54 = .ok (.invokevirtual 138, 3) := bX4_most_53.2.1
theorem dX4_most_57 : decode cX4_most 57 = .ok (.istore 8, 2) := bX4_most_53.2.2.1
theorem dX4_most_59 : decode cX4_most 59 = .ok (.iload 8, 2) := bX4_most_53.2.2.2.1
theorem dX4_most_61 : decode cX4_most 61 = .ok (.iload_n 3, 1) := bX4_most_53.2.2.2.2.1
theorem dX4_most_62 : decode cX4_most 62 = .ok (.if_icmp .lt 24, 3) := bX4_most_53.2.2.2.2.2.1
theorem dX4_most_65 : decode cX4_most 65 = .ok (.iload 8, 2) := bX4_most_53.2.2.2.2.2.2.1
theorem dX4_most_67 : decode cX4_most 67 = .ok (.iload_n 3, 1) := bX4_most_53.2.2.2.2.2.2.2.1
theorem dX4_most_68 : decode cX4_most 68 = .ok (.if_icmp .ne 12, 3) := bX4_most_53.2.2.2.2.2.2.2.2.1
theorem dX4_most_71 : decode cX4_most 71 = .ok (.iload 7, 2) := bX4_most_53.2.2.2.2.2.2.2.2.2.1
theorem dX4_most_73 : decode cX4_most 73 = .ok (.iload_n 2, 1) := bX4_most_53.2.2.2.2.2.2.2.2.2.2.1
theorem dX4_most_74 : decode cX4_most 74 = .ok (.if_icmp .lt 6, 3) := bX4_most_53.2.2.2.2.2.2.2.2.2.2.2.1
theorem dX4_most_77 : decode cX4_most 77 = .ok (.goto 9, 3) := bX4_most_53.2.2.2.2.2.2.2.2.2.2.2.2.1
theorem dX4_most_80 : decode cX4_most 80 = .ok (.iload 7, 2) := bX4_most_53.2.2.2.2.2.2.2.2.2.2.2.2.2.1
theorem dX4_most_82 : decode cX4_most 82 = .ok (.istore_n 2, 1) := bX4_most_53.2.2.2.2.2.2.2.2.2.2.2.2.2.2.1
theorem dX4_most_83 : decode cX4_most 83 = .ok (.iload 8, 2) := bX4_most_53.2.2.2.2.2.2.2.2.2.2.2.2.2.2.2
set_option maxRecDepth 100000 in
theorem bX4_most_85 : (decode cX4_most 85 = .ok (.istore_n 3, 1)) ∧ (decode cX4_most 86 = .ok (.iinc 6 1, 3)) ∧ (decode cX4_most 89 = .ok (.goto (-54), 3)) ∧ (decode cX4_most 92 = .ok (.iload_n 2, 1)) ∧ (decode cX4_most 93 = .ok (.ireturn, 1)) := by decide +kernel
theorem dX4_most_85 : decode cX4_most 85 = .ok (.istore_n 3, 1) := bX4_most_85.1
theorem dX4_most_86 : decode cX4_most 86 = .ok (.iinc 6 1, 3) := bX4_most_85.2.1
theorem dX4_most_89 : decode cX4_most 89 = .ok (.goto (-54), 3) := bX4_most_85.2.2.1
theorem dX4_most_92 : decode cX4_most 92 = .ok (.iload_n 2, 1) := bX4_most_85.2.2.2.1
theorem dX4_most_93 : decode cX4_most 93 = .ok (.ireturn, 1) := bX4_most_85.2.2.2.2
set_option maxRecDepth 100000 in
theorem bX4_sum_0 : (decode cX4_sum 0 = .ok (.aload_n 0, 1)) ∧ (decode cX4_sum 1 = .ok (.iload_n 1, 1)) ∧ (decode cX4_sum 2 = .ok (.invokestatic 25, 3)) ∧ (decode cX4_sum 5 = .ok (.iconst 1, 1)) ∧ (decode cX4_sum 6 = .ok (.invokevirtual 56, 3)) ∧ (decode cX4_sum 9 = .ok (.ifCond .ne 5, 3)) ∧ (decode cX4_sum 12 = .ok (.iconst 0, 1)) ∧ (decode cX4_sum 13 = .ok (.ireturn, 1)) ∧ (decode cX4_sum 14 = .ok (.iconst 0, 1)) ∧ (decode cX4_sum 15 = .ok (.istore_n 2, 1)) ∧ (decode cX4_sum 16 = .ok (.aload_n 0, 1)) ∧ (decode cX4_sum 17 = .ok (.getfield 11, 3)) ∧ (decode cX4_sum 20 = .ok (.iload_n 1, 1)) ∧ (decode cX4_sum 21 = .ok (.aaload, 1)) ∧ (decode cX4_sum 22 = .ok (.astore_n 3, 1)) ∧ (decode cX4_sum 23 = .ok (.aload_n 3, 1)) := by decide +kernel
theorem dX4_sum_0 : decode cX4_sum 0 = .ok (.aload_n 0, 1) := bX4_sum_0.1
theorem dX4_sum_1 : decode cX4_sum 1 = .ok (.iload_n 1, 1) := bX4_sum_0.2.1
theorem dX4_sum_2 : decode cX4_sum 2 = .ok (.invokestatic 25, 3) := bX4_sum_0.2.2.1
theorem dX4_sum_5 : decode cX4_sum 5 = .ok (.iconst 1, 1) := bX4_sum_0.2.2.2.1
theorem dX4_sum_6 : decode cX4_sum 6 = .ok (.invokevirtual 56, 3) := bX4_sum_0.2.2.2.2.1
theorem dX4_sum_9 : decode cX4_sum 9 = .ok (.ifCond .ne 5, 3) := bX4_sum_0.2.2.2.2.2.1
theorem dX4_sum_12 : decode cX4_sum 12 = .ok (.iconst 0, 1) := bX4_sum_0.2.2.2.2.2.2.1
theorem dX4_sum_13 : decode cX4_sum 13 = .ok (.ireturn, 1) := bX4_sum_0.2.2.2.2.2.2.2.1
theorem dX4_sum_14 : decode cX4_sum 14 = .ok (.iconst 0, 1) := bX4_sum_0.2.2.2.2.2.2.2.2.1
theorem dX4_sum_15 : decode cX4_sum 15 = .ok (.istore_n 2, 1) := bX4_sum_0.2.2.2.2.2.2.2.2.2.1
theorem dX4_sum_16 : decode cX4_sum 16 = .ok (.aload_n 0, 1) := bX4_sum_0.2.2.2.2.2.2.2.2.2.2.1
theorem dX4_sum_17 : decode cX4_sum 17 = .ok (.getfield 11, 3) := bX4_sum_0.2.2.2.2.2.2.2.2.2.2.2.1
theorem dX4_sum_20 : decode cX4_sum 20 = .ok (.iload_n 1, 1) := bX4_sum_0.2.2.2.2.2.2.2.2.2.2.2.2.1
theorem dX4_sum_21 : decode cX4_sum 21 = .ok (.aaload, 1) := bX4_sum_0.2.2.2.2.2.2.2.2.2.2.2.2.2.1
theorem dX4_sum_22 : decode cX4_sum 22 = .ok (.astore_n 3, 1) := bX4_sum_0.2.2.2.2.2.2.2.2.2.2.2.2.2.2.1
theorem dX4_sum_23 : decode cX4_sum 23 = .ok (.aload_n 3, 1) := bX4_sum_0.2.2.2.2.2.2.2.2.2.2.2.2.2.2.2
set_option maxRecDepth 100000 in
theorem bX4_sum_24 : (decode cX4_sum 24 = .ok (.arraylength, 1)) ∧ (decode cX4_sum 25 = .ok (.istore 4, 2)) ∧ (decode cX4_sum 27 = .ok (.iconst 0, 1)) ∧ (decode cX4_sum 28 = .ok (.istore 5, 2)) ∧ (decode cX4_sum 30 = .ok (.iload 5, 2)) ∧ (decode cX4_sum 32 = .ok (.iload 4, 2)) ∧ (decode cX4_sum 34 = .ok (.if_icmp .ge 20, 3)) ∧ (decode cX4_sum 37 = .ok (.aload_n 3, 1)) ∧ (decode cX4_sum 38 = .ok (.iload 5, 2)) ∧ (decode cX4_sum 40 = .ok (.iaload, 1)) ∧ (decode cX4_sum 41 = .ok (.istore 6, 2)) ∧ (decode cX4_sum 43 = .ok (.iload_n 2, 1)) ∧ (decode cX4_sum 44 = .ok (.iload 6, 2)) ∧ (decode cX4_sum 46 = .ok (.iadd, 1)) ∧ (decode cX4_sum 47 = .ok (.istore_n 2, 1)) ∧ (decode cX4_sum 48 = .ok (.iinc 5 1, 3)) := by decide +kernel
theorem dX4_sum_24 : decode cX4_sum 24 = .ok (.arraylength, 1) := bX4_sum_24.1
theorem dX4_sum_25 : decode cX4_sum 25 = .ok (.istore 4, 2) := bX4_sum_24.2.1
theorem dX4_sum_27 : decode cX4_sum 27 = .ok (.iconst 0, 1) := bX4_sum_24.2.2.1
theorem dX4_sum_28 : decode cX4_sum 28 = .ok (.istore 5, 2) := bX4_sum_24.2.2.2.1
theorem dX4_sum_30 : decode cX4_sum 30 = .ok (.iload 5, 2) := bX4_sum_24.2.2.2.2.1
theorem dX4_sum_32 : decode cX4_sum 32 = .ok (.iload 4, 2) := bX4_sum_24.2.2.2.2.2.1
theorem dX4_sum_34 : decode cX4_sum 34 = .ok (.if_icmp .ge 20, 3) := bX4_sum_24.2.2.2.2.2.2.1
theorem dX4_sum_37 : decode cX4_sum 37 = .ok (.aload_n 3, 1) := bX4_sum_24.2.2.2.2.2.2.2.1
theorem dX4_sum_38 : decode cX4_sum 38 = .ok (.iload 5, 2) := bX4_sum_24.2.2.2.2.2.2.2.2.1
theorem dX4_sum_40 : decode cX4_sum 40 = .ok (.iaload, 1) := bX4_sum_24.2.2.2.2.2.2.2.2.2.1
theorem dX4_sum_41 : decode cX4_sum 41 = .ok (.istore 6, 2) := bX4_sum_24.2.2.2.2.2.2.2.2.2.2.1
theorem dX4_sum_43 : decode cX4_sum 43 = .ok (.iload_n 2, 1) := bX4_sum_24.2.2.2.2.2.2.2.2.2.2.2.1
theorem dX4_sum_44 : decode cX4_sum 44 = .ok (.iload 6, 2) := bX4_sum_24.2.2.2.2.2.2.2.2.2.2.2.2.1
theorem dX4_sum_46 : decode cX4_sum 46 = .ok (.iadd, 1) := bX4_sum_24.2.2.2.2.2.2.2.2.2.2.2.2.2.1
theorem dX4_sum_47 : decode cX4_sum 47 = .ok (.istore_n 2, 1) := bX4_sum_24.2.2.2.2.2.2.2.2.2.2.2.2.2.2.1
theorem dX4_sum_48 : decode cX4_sum 48 = .ok (.iinc 5 1, 3) := bX4_sum_24.2.2.2.2.2.2.2.2.2.2.2.2.2.2.2
set_option maxRecDepth 100000 in
theorem bX4_sum_51 : (decode cX4_sum 51 = .ok (.goto (-21), 3)) ∧ (decode cX4_sum 54 = .ok (.iload_n 2, 1)) ∧ (decode cX4_sum 55 = .ok (.ireturn, 1)) := by decide +kernel
theorem dX4_sum_51 : decode cX4_sum 51 = .ok (.goto (-21), 3) := bX4_sum_51.1
theorem dX4_sum_54 : decode cX4_sum 54 = .ok (.iload_n 2, 1) := bX4_sum_51.2.1
theorem dX4_sum_55 : decode cX4_sum 55 = .ok (.ireturn, 1) := bX4_sum_51.2.2
set_option maxRecDepth 100000 in
theorem bX4_same_0 : (decode cX4_same 0 = .ok (.aload_n 0, 1)) ∧ (decode cX4_same 1 = .ok (.iload_n 1, 1)) ∧ (decode cX4_same 2 = .ok (.invokestatic 25, 3)) ∧ (decode cX4_same 5 = .ok (.ifCond .eq 14, 3)) ∧ (decode cX4_same 8 = .ok (.iload_n 2, 1)) ∧ (decode cX4_same 9 = .ok (.invokestatic 25, 3)) ∧ (decode cX4_same 12 = .ok (.ifCond .eq 7, 3)) ∧ (decode cX4_same 15 = .ok (.iconst 1, 1)) ∧ (decode cX4_same 16 = .ok (.goto 4, 3)) ∧ (decode cX4_same 19 = .ok (.iconst 0, 1)) ∧ (decode cX4_same 20 = .ok (.iconst 1, 1)) ∧ (decode cX4_same 21 = .ok (.invokevirtual 56, 3)) ∧ (decode cX4_same 24 = .ok (.ifCond .eq 42, 3)) ∧ (decode cX4_same 27 = .ok (.aload_n 0, 1)) ∧ (decode cX4_same 28 = .ok (.getfield 11, 3)) ∧ (decode cX4_same 31 = .ok (.iload_n 1, 1)) := by decide +kernel
theorem dX4_same_0 : decode cX4_same 0 = .ok (.aload_n 0, 1) := bX4_same_0.1
theorem dX4_same_1 : decode cX4_same 1 = .ok (.iload_n 1, 1) := bX4_same_0.2.1
theorem dX4_same_2 : decode cX4_same 2 = .ok (.invokestatic 25, 3) := bX4_same_0.2.2.1
theorem dX4_same_5 : decode cX4_same 5 = .ok (.ifCond .eq 14, 3) := bX4_same_0.2.2.2.1
theorem dX4_same_8 : decode cX4_same 8 = .ok (.iload_n 2, 1) := bX4_same_0.2.2.2.2.1
theorem dX4_same_9 : decode cX4_same 9 = .ok (.invokestatic 25, 3) := bX4_same_0.2.2.2.2.2.1
theorem dX4_same_12 : decode cX4_same 12 = .ok (.ifCond .eq 7, 3) := bX4_same_0.2.2.2.2.2.2.1
theorem dX4_same_15 : decode cX4_same 15 = .ok (.iconst 1, 1) := bX4_same_0.2.2.2.2.2.2.2.1
theorem dX4_same_16 : decode cX4_same 16 = .ok (.goto 4, 3) := bX4_same_0.2.2.2.2.2.2.2.2.1
theorem dX4_same_19 : decode cX4_same 19 = .ok (.iconst 0, 1) := bX4_same_0.2.2.2.2.2.2.2.2.2.1
theorem dX4_same_20 : decode cX4_same 20 = .ok (.iconst 1, 1) := bX4_same_0.2.2.2.2.2.2.2.2.2.2.1
theorem dX4_same_21 : decode cX4_same 21 = .ok (.invokevirtual 56, 3) := bX4_same_0.2.2.2.2.2.2.2.2.2.2.2.1
theorem dX4_same_24 : decode cX4_same 24 = .ok (.ifCond .eq 42, 3) := bX4_same_0.2.2.2.2.2.2.2.2.2.2.2.2.1
theorem dX4_same_27 : decode cX4_same 27 = .ok (.aload_n 0, 1) := bX4_same_0.2.2.2.2.2.2.2.2.2.2.2.2.2.1
theorem dX4_same_28 : decode cX4_same 28 = .ok (.getfield 11, 3) := bX4_same_0.2.2.2.2.2.2.2.2.2.2.2.2.2.2.1
theorem dX4_same_31 : decode cX4_same 31 = .ok (.iload_n 1, 1) := bX4_same_0.2.2.2.2.2.2.2.2.2.2.2.2.2.2.2
set_option maxRecDepth 100000 in
theorem bX4_same_32 : (decode cX4_same 32 = .ok (.aaload, 1)) ∧ (decode cX4_same 33 = .ok (.arraylength, 1)) ∧ (decode cX4_same 34 = .ok (.aload_n 0, 1)) ∧ (decode cX4_same 35 = .ok (.getfield 11, 3)) ∧ (decode cX4_same 38 = .ok (.iload_n 2, 1)) ∧ (decode cX4_same 39 = .ok (.aaload, 1)) ∧ (decode cX4_same 40 = .ok (.arraylength, 1)) ∧ (decode cX4_same 41 = .ok (.if_icmp .ne 25, 3)) ∧ (decode cX4_same 44 = .ok (.aload_n 0, 1)) ∧ (decode cX4_same 45 = .ok (.getfield 11, 3)) ∧ (decode cX4_same 48 = .ok (.iload_n 1, 1)) ∧ (decode cX4_same 49 = .ok (.aaload, 1)) ∧ (decode cX4_same 50 = .ok (.aload_n 0, 1)) ∧ (decode cX4_same 51 = .ok (.getfield 11, 3)) ∧ (decode cX4_same 54 = .ok (.iload_n 2, 1)) ∧ (decode cX4_same 55 = .ok (.aaload, 1)) := by decide +kernel
theorem dX4_same_32 : decode cX4_same 32 = .ok (.aaload, 1) := bX4_same_32.1
theorem dX4_same_33 : decode cX4_same 33 = .ok (.arraylength, 1) := bX4_same_32.2.1
theorem dX4_same_34 : decode cX4_same 34 = .ok (.aload_n 0, 1) := bX4_same_32.2.2.1
theorem dX4_same_35 : decode cX4_same 35 = .ok (.getfield 11, 3) := bX4_same_32.2.2.2.1
theorem dX4_same_38 : decode cX4_same 38 = .ok (.iload_n 2, 1) := bX4_same_32.2.2.2.2.1
theorem dX4_same_39 : decode cX4_same 39 = .ok (.aaload, 1) := bX4_same_32.2.2.2.2.2.1
theorem dX4_same_40 : decode cX4_same 40 = .ok (.arraylength, 1) := bX4_same_32.2.2.2.2.2.2.1
theorem dX4_same_41 : decode cX4_same 41 = .ok (.if_icmp .ne 25, 3) := bX4_same_32.2.2.2.2.2.2.2.1
theorem dX4_same_44 : decode cX4_same 44 = .ok (.aload_n 0, 1) := bX4_same_32.2.2.2.2.2.2.2.2.1
theorem dX4_same_45 : decode cX4_same 45 = .ok (.getfield 11, 3) := bX4_same_32.2.2.2.2.2.2.2.2.2.1
theorem dX4_same_48 : decode cX4_same 48 = .ok (.iload_n 1, 1) := bX4_same_32.2.2.2.2.2.2.2.2.2.2.1
theorem dX4_same_49 : decode cX4_same 49 = .ok (.aaload, 1) := bX4_same_32.2.2.2.2.2.2.2.2.2.2.2.1
theorem dX4_same_50 : decode cX4_same 50 = .ok (.aload_n 0, 1) := bX4_same_32.2.2.2.2.2.2.2.2.2.2.2.2.1
theorem dX4_same_51 : decode cX4_same 51 = .ok (.getfield 11, 3) := bX4_same_32.2.2.2.2.2.2.2.2.2.2.2.2.2.1
theorem dX4_same_54 : decode cX4_same 54 = .ok (.iload_n 2, 1) := bX4_same_32.2.2.2.2.2.2.2.2.2.2.2.2.2.2.1
theorem dX4_same_55 : decode cX4_same 55 = .ok (.aaload, 1) := bX4_same_32.2.2.2.2.2.2.2.2.2.2.2.2.2.2.2
set_option maxRecDepth 100000 in
theorem bX4_same_56 : (decode cX4_same 56 = .ok (.invokestatic 93, 3)) ∧ (decode cX4_same 59 = .ok (.ifCond .ne 7, 3)) ∧ (decode cX4_same 62 = .ok (.iconst 1, 1)) ∧ (decode cX4_same 63 = .ok (.goto 4, 3)) ∧ (decode cX4_same 66 = .ok (.iconst 0, 1)) ∧ (decode cX4_same 67 = .ok (.ireturn, 1)) := by decide +kernel
theorem dX4_same_56 : decode cX4_same 56 = .ok (.invokestatic 93, 3) := bX4_same_56.1
theorem dX4_same_59 : decode cX4_same 59 = .ok (.ifCond .ne 7, 3) := bX4_same_56.2.1
theorem dX4_same_62 : decode cX4_same 62 = .ok (.iconst 1, 1) := bX4_same_56.2.2.1
theorem dX4_same_63 : decode cX4_same 63 = .ok (.goto 4, 3) := bX4_same_56.2.2.2.1
theorem dX4_same_66 : decode cX4_same 66 = .ok (.iconst 0, 1) := bX4_same_56.2.2.2.2.1
theorem dX4_same_67 : decode cX4_same 67 = .ok (.ireturn, 1) := bX4_same_56.2.2.2.2.2
set_option maxRecDepth 100000 in
theorem bX4_bag_0 : (decode cX4_bag 0 = .ok (.aload_n 0, 1)) ∧ (decode cX4_bag 1 = .ok (.iload_n 1, 1)) ∧ (decode cX4_bag 2 = .ok (.invokestatic 25, 3)) ∧ (decode cX4_bag 5 = .ok (.ifCond .eq 14, 3)) ∧ (decode cX4_bag 8 = .ok (.iload_n 2, 1)) ∧ (decode cX4_bag 9 = .ok (.invokestatic 25, 3)) ∧ (decode cX4_bag 12 = .ok (.ifCond .eq 7, 3)) ∧ (decode cX4_bag 15 = .ok (.iconst 1, 1)) ∧ (decode cX4_bag 16 = .ok (.goto 4, 3)) ∧ (decode cX4_bag 19 = .ok (.iconst 0, 1)) ∧ (decode cX4_bag 20 = .ok (.iconst 1, 1)) ∧ (decode cX4_bag 21 = .ok (.invokevirtual 56, 3)) ∧ (decode cX4_bag 24 = .ok (.ifCond .ne 5, 3)) ∧ (decode cX4_bag 27 = .ok (.iconst 0, 1)) ∧ (decode cX4_bag 28 = .ok (.ireturn, 1)) ∧ (decode cX4_bag 29 = .ok (.aload_n 0, 1)) := by decide +kernel
theorem dX4_bag_0 : decode cX4_bag 0 = .ok (.aload_n 0, 1) := bX4_bag_0.1
theorem dX4_bag_1 : decode cX4_bag 1 = .ok (.iload_n 1, 1) := bX4_bag_0.2.1
theorem dX4_bag_2 : decode cX4_bag 2 = .ok (.invokestatic 25, 3) := bX4_bag_0.2.2.1
theorem dX4_bag_5 : decode cX4_bag 5 = .ok (.ifCond .eq 14, 3) := bX4_bag_0.2.2.2.1
theorem dX4_bag_8 : decode cX4_bag 8 = .ok (.iload_n 2, 1) := bX4_bag_0.2.2.2.2.1
theorem dX4_bag_9 : decode cX4_bag 9 = .ok (.invokestatic 25, 3) := bX4_bag_0.2.2.2.2.2.1
theorem dX4_bag_12 : decode cX4_bag 12 = .ok (.ifCond .eq 7, 3) := bX4_bag_0.2.2.2.2.2.2.1
theorem dX4_bag_15 : decode cX4_bag 15 = .ok (.iconst 1, 1) := bX4_bag_0.2.2.2.2.2.2.2.1
theorem dX4_bag_16 : decode cX4_bag 16 = .ok (.goto 4, 3) := bX4_bag_0.2.2.2.2.2.2.2.2.1
theorem dX4_bag_19 : decode cX4_bag 19 = .ok (.iconst 0, 1) := bX4_bag_0.2.2.2.2.2.2.2.2.2.1
theorem dX4_bag_20 : decode cX4_bag 20 = .ok (.iconst 1, 1) := bX4_bag_0.2.2.2.2.2.2.2.2.2.2.1
theorem dX4_bag_21 : decode cX4_bag 21 = .ok (.invokevirtual 56, 3) := bX4_bag_0.2.2.2.2.2.2.2.2.2.2.2.1
theorem dX4_bag_24 : decode cX4_bag 24 = .ok (.ifCond .ne 5, 3) := bX4_bag_0.2.2.2.2.2.2.2.2.2.2.2.2.1
theorem dX4_bag_27 : decode cX4_bag 27 = .ok (.iconst 0, 1) := bX4_bag_0.2.2.2.2.2.2.2.2.2.2.2.2.2.1
theorem dX4_bag_28 : decode cX4_bag 28 = .ok (.ireturn, 1) := bX4_bag_0.2.2.2.2.2.2.2.2.2.2.2.2.2.2.1
theorem dX4_bag_29 : decode cX4_bag 29 = .ok (.aload_n 0, 1) := bX4_bag_0.2.2.2.2.2.2.2.2.2.2.2.2.2.2.2
set_option maxRecDepth 100000 in
theorem bX4_bag_30 : (decode cX4_bag 30 = .ok (.getfield 11, 3)) ∧ (decode cX4_bag 33 = .ok (.iload_n 1, 1)) ∧ (decode cX4_bag 34 = .ok (.aaload, 1)) ∧ (decode cX4_bag 35 = .ok (.arraylength, 1)) ∧ (decode cX4_bag 36 = .ok (.aload_n 0, 1)) ∧ (decode cX4_bag 37 = .ok (.getfield 11, 3)) ∧ (decode cX4_bag 40 = .ok (.iload_n 2, 1)) ∧ (decode cX4_bag 41 = .ok (.aaload, 1)) ∧ (decode cX4_bag 42 = .ok (.arraylength, 1)) ∧ (decode cX4_bag 43 = .ok (.if_icmp .ne 7, 3)) ∧ (decode cX4_bag 46 = .ok (.iconst 1, 1)) ∧ (decode cX4_bag 47 = .ok (.goto 4, 3)) ∧ (decode cX4_bag 50 = .ok (.iconst 0, 1)) ∧ (decode cX4_bag 51 = .ok (.istore_n 3, 1)) ∧ (decode cX4_bag 52 = .ok (.aload_n 0, 1)) ∧ (decode cX4_bag 53 = .ok (.getfield 11, 3)) := by decide +kernel
theorem dX4_bag_30 : decode cX4_bag 30 = .ok (.getfield 11, 3) := bX4_bag_30.1
theorem dX4_bag_33 : decode cX4_bag 33 = .ok (.iload_n 1, 1) := bX4_bag_30.2.1
theorem dX4_bag_34 : decode cX4_bag 34 = .ok (.aaload, 1) := bX4_bag_30.2.2.1
theorem dX4_bag_35 : decode cX4_bag 35 = .ok (.arraylength, 1) := bX4_bag_30.2.2.2.1
theorem dX4_bag_36 : decode cX4_bag 36 = .ok (.aload_n 0, 1) := bX4_bag_30.2.2.2.2.1
theorem dX4_bag_37 : decode cX4_bag 37 = .ok (.getfield 11, 3) := bX4_bag_30.2.2.2.2.2.1
theorem dX4_bag_40 : decode cX4_bag 40 = .ok (.iload_n 2, 1) := bX4_bag_30.2.2.2.2.2.2.1
theorem dX4_bag_41 : decode cX4_bag 41 = .ok (.aaload, 1) := bX4_bag_30.2.2.2.2.2.2.2.1
theorem dX4_bag_42 : decode cX4_bag 42 = .ok (.arraylength, 1) := bX4_bag_30.2.2.2.2.2.2.2.2.1
theorem dX4_bag_43 : decode cX4_bag 43 = .ok (.if_icmp .ne 7, 3) := bX4_bag_30.2.2.2.2.2.2.2.2.2.1
theorem dX4_bag_46 : decode cX4_bag 46 = .ok (.iconst 1, 1) := bX4_bag_30.2.2.2.2.2.2.2.2.2.2.1
theorem dX4_bag_47 : decode cX4_bag 47 = .ok (.goto 4, 3) := bX4_bag_30.2.2.2.2.2.2.2.2.2.2.2.1
theorem dX4_bag_50 : decode cX4_bag 50 = .ok (.iconst 0, 1) := bX4_bag_30.2.2.2.2.2.2.2.2.2.2.2.2.1
theorem dX4_bag_51 : decode cX4_bag 51 = .ok (.istore_n 3, 1) := bX4_bag_30.2.2.2.2.2.2.2.2.2.2.2.2.2.1
theorem dX4_bag_52 : decode cX4_bag 52 = .ok (.aload_n 0, 1) := bX4_bag_30.2.2.2.2.2.2.2.2.2.2.2.2.2.2.1
theorem dX4_bag_53 : decode cX4_bag 53 = .ok (.getfield 11, 3) := bX4_bag_30.2.2.2.2.2.2.2.2.2.2.2.2.2.2.2
set_option maxRecDepth 100000 in
theorem bX4_bag_56 : (decode cX4_bag 56 = .ok (.iload_n 1, 1)) ∧ (decode cX4_bag 57 = .ok (.aaload, 1)) ∧ (decode cX4_bag 58 = .ok (.astore 4, 2)) ∧ (decode cX4_bag 60 = .ok (.aload 4, 2)) ∧ (decode cX4_bag 62 = .ok (.arraylength, 1)) ∧ (decode cX4_bag 63 = .ok (.istore 5, 2)) ∧ (decode cX4_bag 65 = .ok (.iconst 0, 1)) ∧ (decode cX4_bag 66 = .ok (.istore 6, 2)) ∧ (decode cX4_bag 68 = .ok (.iload 6, 2)) ∧ (decode cX4_bag 70 = .ok (.iload 5, 2)) ∧ (decode cX4_bag 72 = .ok (.if_icmp .ge 45, 3)) ∧ (decode cX4_bag 75 = .ok (.aload 4, 2)) ∧ (decode cX4_bag 77 = .ok (.iload 6, 2)) ∧ (decode cX4_bag 79 = .ok (.iaload, 1)) ∧ (decode cX4_bag 80 = .ok (.istore 7, 2)) ∧ (decode cX4_bag 82 = .ok (.iload_n 3, 1)) := by decide +kernel
theorem dX4_bag_56 : decode cX4_bag 56 = .ok (.iload_n 1, 1) := bX4_bag_56.1
theorem dX4_bag_57 : decode cX4_bag 57 = .ok (.aaload, 1) := bX4_bag_56.2.1
theorem dX4_bag_58 : decode cX4_bag 58 = .ok (.astore 4, 2) := bX4_bag_56.2.2.1
theorem dX4_bag_60 : decode cX4_bag 60 = .ok (.aload 4, 2) := bX4_bag_56.2.2.2.1
theorem dX4_bag_62 : decode cX4_bag 62 = .ok (.arraylength, 1) := bX4_bag_56.2.2.2.2.1
theorem dX4_bag_63 : decode cX4_bag 63 = .ok (.istore 5, 2) := bX4_bag_56.2.2.2.2.2.1
theorem dX4_bag_65 : decode cX4_bag 65 = .ok (.iconst 0, 1) := bX4_bag_56.2.2.2.2.2.2.1
theorem dX4_bag_66 : decode cX4_bag 66 = .ok (.istore 6, 2) := bX4_bag_56.2.2.2.2.2.2.2.1
theorem dX4_bag_68 : decode cX4_bag 68 = .ok (.iload 6, 2) := bX4_bag_56.2.2.2.2.2.2.2.2.1
theorem dX4_bag_70 : decode cX4_bag 70 = .ok (.iload 5, 2) := bX4_bag_56.2.2.2.2.2.2.2.2.2.1
theorem dX4_bag_72 : decode cX4_bag 72 = .ok (.if_icmp .ge 45, 3) := bX4_bag_56.2.2.2.2.2.2.2.2.2.2.1
theorem dX4_bag_75 : decode cX4_bag 75 = .ok (.aload 4, 2) := bX4_bag_56.2.2.2.2.2.2.2.2.2.2.2.1
theorem dX4_bag_77 : decode cX4_bag 77 = .ok (.iload 6, 2) := bX4_bag_56.2.2.2.2.2.2.2.2.2.2.2.2.1
theorem dX4_bag_79 : decode cX4_bag 79 = .ok (.iaload, 1) := bX4_bag_56.2.2.2.2.2.2.2.2.2.2.2.2.2.1
theorem dX4_bag_80 : decode cX4_bag 80 = .ok (.istore 7, 2) := bX4_bag_56.2.2.2.2.2.2.2.2.2.2.2.2.2.2.1
theorem dX4_bag_82 : decode cX4_bag 82 = .ok (.iload_n 3, 1) := bX4_bag_56.2.2.2.2.2.2.2.2.2.2.2.2.2.2.2
set_option maxRecDepth 100000 in
theorem bX4_bag_83 : (decode cX4_bag 83 = .ok (.ifCond .eq 26, 3)) ∧ (decode cX4_bag 86 = .ok (.aload_n 0, 1)) ∧ (decode cX4_bag 87 = .ok (.iload_n 1, 1)) ∧ (decode cX4_bag 88 = .ok (.iload 7, 2)) ∧ (decode cX4_bag 90 = .ok (.iconst 0, 1)) ∧ (decode cX4_bag 91 = .ok (.invokevirtual 138, 3)) ∧ (decode cX4_bag 94 = .ok (.aload_n 0, 1)) ∧ (decode cX4_bag 95 = .ok (.iload_n 2, 1)) ∧ (decode cX4_bag 96 = .ok (.iload 7, 2)) ∧ (decode cX4_bag 98 = .ok (.iconst 0, 1)) ∧ (decode cX4_bag 99 = .ok (.invokevirtual 138, 3)) ∧ (decode cX4_bag 102 = .ok (.if_icmp .ne 7, 3)) ∧ (decode cX4_bag 105 = .ok (.iconst 1, 1)) ∧ (decode cX4_bag 106 = .ok (.goto 4, 3)) ∧ (decode cX4_bag 109 = .ok (.iconst 0, 1)) ∧ (decode cX4_bag 110 = .ok (.istore_n 3, 1)) := by decide +kernel
theorem dX4_bag_83 : decode cX4_bag 83 = .ok (.ifCond .eq 26, 3) := bX4_bag_83.1
theorem dX4_bag_86 : decode cX4_bag 86 = .ok (.aload_n 0, 1) := bX4_bag_83.2.1
theorem dX4_bag_87 : decode cX4_bag 87 = .ok (.iload_n 1, 1) := bX4_bag_83.2.2.1
theorem dX4_bag_88 : decode cX4_bag 88 = .ok (.iload 7, 2) := bX4_bag_83.2.2.2.1
theorem dX4_bag_90 : decode cX4_bag 90 = .ok (.iconst 0, 1) := bX4_bag_83.2.2.2.2.1
theorem dX4_bag_91 : decode cX4_bag 91 = .ok (.invokevirtual 138, 3) := bX4_bag_83.2.2.2.2.2.1
theorem dX4_bag_94 : decode cX4_bag 94 = .ok (.aload_n 0, 1) := bX4_bag_83.2.2.2.2.2.2.1
theorem dX4_bag_95 : decode cX4_bag 95 = .ok (.iload_n 2, 1) := bX4_bag_83.2.2.2.2.2.2.2.1
theorem dX4_bag_96 : decode cX4_bag 96 = .ok (.iload 7, 2) := bX4_bag_83.2.2.2.2.2.2.2.2.1
theorem dX4_bag_98 : decode cX4_bag 98 = .ok (.iconst 0, 1) := bX4_bag_83.2.2.2.2.2.2.2.2.2.1
theorem dX4_bag_99 : decode cX4_bag 99 = .ok (.invokevirtual 138, 3) := bX4_bag_83.2.2.2.2.2.2.2.2.2.2.1
theorem dX4_bag_102 : decode cX4_bag 102 = .ok (.if_icmp .ne 7, 3) := bX4_bag_83.2.2.2.2.2.2.2.2.2.2.2.1
theorem dX4_bag_105 : decode cX4_bag 105 = .ok (.iconst 1, 1) := bX4_bag_83.2.2.2.2.2.2.2.2.2.2.2.2.1
theorem dX4_bag_106 : decode cX4_bag 106 = .ok (.goto 4, 3) := bX4_bag_83.2.2.2.2.2.2.2.2.2.2.2.2.2.1
theorem dX4_bag_109 : decode cX4_bag 109 = .ok (.iconst 0, 1) := bX4_bag_83.2.2.2.2.2.2.2.2.2.2.2.2.2.2.1
theorem dX4_bag_110 : decode cX4_bag 110 = .ok (.istore_n 3, 1) := bX4_bag_83.2.2.2.2.2.2.2.2.2.2.2.2.2.2.2
set_option maxRecDepth 100000 in
theorem bX4_bag_111 : (decode cX4_bag 111 = .ok (.iinc 6 1, 3)) ∧ (decode cX4_bag 114 = .ok (.goto (-46), 3)) ∧ (decode cX4_bag 117 = .ok (.iload_n 3, 1)) ∧ (decode cX4_bag 118 = .ok (.ireturn, 1)) := by decide +kernel
theorem dX4_bag_111 : decode cX4_bag 111 = .ok (.iinc 6 1, 3) := bX4_bag_111.1
theorem dX4_bag_114 : decode cX4_bag 114 = .ok (.goto (-46), 3) := bX4_bag_111.2.1
theorem dX4_bag_117 : decode cX4_bag 117 = .ok (.iload_n 3, 1) := bX4_bag_111.2.2.1
theorem dX4_bag_118 : decode cX4_bag 118 = .ok (.ireturn, 1) := bX4_bag_111.2.2.2
set_option maxRecDepth 100000 in
theorem bX4_mark_0 : (decode cX4_mark 0 = .ok (.aload_n 0, 1)) ∧ (decode cX4_mark 1 = .ok (.iload_n 1, 1)) ∧ (decode cX4_mark 2 = .ok (.invokestatic 25, 3)) ∧ (decode cX4_mark 5 = .ok (.iconst 1, 1)) ∧ (decode cX4_mark 6 = .ok (.invokevirtual 56, 3)) ∧ (decode cX4_mark 9 = .ok (.ifCond .ne 5, 3)) ∧ (decode cX4_mark 12 = .ok (.iconst 0, 1)) ∧ (decode cX4_mark 13 = .ok (.ireturn, 1)) ∧ (decode cX4_mark 14 = .ok (.bipush 17, 2)) ∧ (decode cX4_mark 16 = .ok (.istore_n 3, 1)) ∧ (decode cX4_mark 17 = .ok (.iload_n 2, 1)) ∧ (decode cX4_mark 18 = .ok (.ifCond .eq 12, 3)) ∧ (decode cX4_mark 21 = .ok (.aload_n 0, 1)) ∧ (decode cX4_mark 22 = .ok (.getfield 14, 3)) ∧ (decode cX4_mark 25 = .ok (.iload_n 1, 1)) ∧ (decode cX4_mark 26 = .ok (.aaload, 1)) := by decide +kernel
theorem dX4_mark_0 : decode cX4_mark 0 = .ok (.aload_n 0, 1) := bX4_mark_0.1
theorem dX4_mark_1 : decode cX4_mark 1 = .ok (.iload_n 1, 1) := bX4_mark_0.2.1
theorem dX4_mark_2 : decode cX4_mark 2 = .ok (.invokestatic 25, 3) := bX4_mark_0.2.2.1
theorem dX4_mark_5 : decode cX4_mark 5 = .ok (.iconst 1, 1) := bX4_mark_0.2.2.2.1
theorem dX4_mark_6 : decode cX4_mark 6 = .ok (.invokevirtual 56, 3) := bX4_mark_0.2.2.2.2.1
theorem dX4_mark_9 : decode cX4_mark 9 = .ok (.ifCond .ne 5, 3) := bX4_mark_0.2.2.2.2.2.1
theorem dX4_mark_12 : decode cX4_mark 12 = .ok (.iconst 0, 1) := bX4_mark_0.2.2.2.2.2.2.1
theorem dX4_mark_13 : decode cX4_mark 13 = .ok (.ireturn, 1) := bX4_mark_0.2.2.2.2.2.2.2.1
theorem dX4_mark_14 : decode cX4_mark 14 = .ok (.bipush 17, 2) := bX4_mark_0.2.2.2.2.2.2.2.2.1
theorem dX4_mark_16 : decode cX4_mark 16 = .ok (.istore_n 3, 1) := bX4_mark_0.2.2.2.2.2.2.2.2.2.1
theorem dX4_mark_17 : decode cX4_mark 17 = .ok (.iload_n 2, 1) := bX4_mark_0.2.2.2.2.2.2.2.2.2.2.1
theorem dX4_mark_18 : decode cX4_mark 18 = .ok (.ifCond .eq 12, 3) := bX4_mark_0.2.2.2.2.2.2.2.2.2.2.2.1
theorem dX4_mark_21 : decode cX4_mark 21 = .ok (.aload_n 0, 1) := bX4_mark_0.2.2.2.2.2.2.2.2.2.2.2.2.1
theorem dX4_mark_22 : decode cX4_mark 22 = .ok (.getfield 14, 3) := bX4_mark_0.2.2.2.2.2.2.2.2.2.2.2.2.2.1
theorem dX4_mark_25 : decode cX4_mark 25 = .ok (.iload_n 1, 1) := bX4_mark_0.2.2.2.2.2.2.2.2.2.2.2.2.2.2.1
theorem dX4_mark_26 : decode cX4_mark 26 = .ok (.aaload, 1) := bX4_mark_0.2.2.2.2.2.2.2.2.2.2.2.2.2.2.2
set_option maxRecDepth 100000 in
theorem bX4_mark_27 : (decode cX4_mark 27 = .ok (.goto 9, 3)) ∧ (decode cX4_mark 30 = .ok (.aload_n 0, 1)) ∧ (decode cX4_mark 31 = .ok (.getfield 11, 3)) ∧ (decode cX4_mark 34 = .ok (.iload_n 1, 1)) ∧ (decode cX4_mark 35 = .ok (.aaload, 1)) ∧ (decode cX4_mark 36 = .ok (.astore 4, 2)) ∧ (decode cX4_mark 38 = .ok (.aload 4, 2)) ∧ (decode cX4_mark 40 = .ok (.arraylength, 1)) ∧ (decode cX4_mark 41 = .ok (.istore 5, 2)) ∧ (decode cX4_mark 43 = .ok (.iconst 0, 1)) ∧ (decode cX4_mark 44 = .ok (.istore 6, 2)) ∧ (decode cX4_mark 46 = .ok (.iload 6, 2)) ∧ (decode cX4_mark 48 = .ok (.iload 5, 2)) ∧ (decode cX4_mark 50 = .ok (.if_icmp .ge 24, 3)) ∧ (decode cX4_mark 53 = .ok (.aload 4, 2)) ∧ (decode cX4_mark 55 = .ok (.iload 6, 2)) := by decide +kernel
theorem dX4_mark_27 : decode cX4_mark 27 = .ok (.goto 9, 3) := bX4_mark_27.1
theorem dX4_mark_30 : decode cX4_mark 30 = .ok (.aload_n 0, 1) := bX4_mark_27.2.1
theorem dX4_mark_31 : decode cX4_mark 31 = .ok (.getfield 11, 3) := bX4_mark_27.2.2.1
theorem dX4_mark_34 : decode cX4_mark 34 = .ok (.iload_n 1, 1) := bX4_mark_27.2.2.2.1
theorem dX4_mark_35 : decode cX4_mark 35 = .ok (.aaload, 1) := bX4_mark_27.2.2.2.2.1
theorem dX4_mark_36 : decode cX4_mark 36 = .ok (.astore 4, 2) := bX4_mark_27.2.2.2.2.2.1
theorem dX4_mark_38 : decode cX4_mark 38 = .ok (.aload 4, 2) := bX4_mark_27.2.2.2.2.2.2.1
theorem dX4_mark_40 : decode cX4_mark 40 = .ok (.arraylength, 1) := bX4_mark_27.2.2.2.2.2.2.2.1
theorem dX4_mark_41 : decode cX4_mark 41 = .ok (.istore 5, 2) := bX4_mark_27.2.2.2.2.2.2.2.2.1
theorem dX4_mark_43 : decode cX4_mark 43 = .ok (.iconst 0, 1) := bX4_mark_27.2.2.2.2.2.2.2.2.2.1
theorem dX4_mark_44 : decode cX4_mark 44 = .ok (.istore 6, 2) := bX4_mark_27.2.2.2.2.2.2.2.2.2.2.1
theorem dX4_mark_46 : decode cX4_mark 46 = .ok (.iload 6, 2) := bX4_mark_27.2.2.2.2.2.2.2.2.2.2.2.1
theorem dX4_mark_48 : decode cX4_mark 48 = .ok (.iload 5, 2) := bX4_mark_27.2.2.2.2.2.2.2.2.2.2.2.2.1
theorem dX4_mark_50 : decode cX4_mark 50 = .ok (.if_icmp .ge 24, 3) := bX4_mark_27.2.2.2.2.2.2.2.2.2.2.2.2.2.1
theorem dX4_mark_53 : decode cX4_mark 53 = .ok (.aload 4, 2) := bX4_mark_27.2.2.2.2.2.2.2.2.2.2.2.2.2.2.1
theorem dX4_mark_55 : decode cX4_mark 55 = .ok (.iload 6, 2) := bX4_mark_27.2.2.2.2.2.2.2.2.2.2.2.2.2.2.2
set_option maxRecDepth 100000 in
theorem bX4_mark_57 : (decode cX4_mark 57 = .ok (.iaload, 1)) ∧ (decode cX4_mark 58 = .ok (.istore 7, 2)) ∧ (decode cX4_mark 60 = .ok (.iload_n 3, 1)) ∧ (decode cX4_mark 61 = .ok (.bipush 31, 2)) ∧ (decode cX4_mark 63 = .ok (.imul, 1)) ∧ (decode cX4_mark 64 = .ok (.iload 7, 2)) ∧ (decode cX4_mark 66 = .ok (.iadd, 1)) ∧ (decode cX4_mark 67 = .ok (.istore_n 3, 1)) ∧ (decode cX4_mark 68 = .ok (.iinc 6 1, 3)) ∧ (decode cX4_mark 71 = .ok (.goto (-25), 3)) ∧ (decode cX4_mark 74 = .ok (.iload_n 3, 1)) ∧ (decode cX4_mark 75 = .ok (.ireturn, 1)) := by decide +kernel
theorem dX4_mark_57 : decode cX4_mark 57 = .ok (.iaload, 1) := bX4_mark_57.1
theorem dX4_mark_58 : decode cX4_mark 58 = .ok (.istore 7, 2) := bX4_mark_57.2.1
theorem dX4_mark_60 : decode cX4_mark 60 = .ok (.iload_n 3, 1) := bX4_mark_57.2.2.1
theorem dX4_mark_61 : decode cX4_mark 61 = .ok (.bipush 31, 2) := bX4_mark_57.2.2.2.1
theorem dX4_mark_63 : decode cX4_mark 63 = .ok (.imul, 1) := bX4_mark_57.2.2.2.2.1
theorem dX4_mark_64 : decode cX4_mark 64 = .ok (.iload 7, 2) := bX4_mark_57.2.2.2.2.2.1
theorem dX4_mark_66 : decode cX4_mark 66 = .ok (.iadd, 1) := bX4_mark_57.2.2.2.2.2.2.1
theorem dX4_mark_67 : decode cX4_mark 67 = .ok (.istore_n 3, 1) := bX4_mark_57.2.2.2.2.2.2.2.1
theorem dX4_mark_68 : decode cX4_mark 68 = .ok (.iinc 6 1, 3) := bX4_mark_57.2.2.2.2.2.2.2.2.1
theorem dX4_mark_71 : decode cX4_mark 71 = .ok (.goto (-25), 3) := bX4_mark_57.2.2.2.2.2.2.2.2.2.1
theorem dX4_mark_74 : decode cX4_mark 74 = .ok (.iload_n 3, 1) := bX4_mark_57.2.2.2.2.2.2.2.2.2.2.1
theorem dX4_mark_75 : decode cX4_mark 75 = .ok (.ireturn, 1) := bX4_mark_57.2.2.2.2.2.2.2.2.2.2.2
set_option maxRecDepth 100000 in
theorem bX4_house_0 : (decode cX4_house 0 = .ok (.aload_n 0, 1)) ∧ (decode cX4_house 1 = .ok (.iload_n 1, 1)) ∧ (decode cX4_house 2 = .ok (.iconst 0, 1)) ∧ (decode cX4_house 3 = .ok (.iconst 5, 1)) ∧ (decode cX4_house 4 = .ok (.invokestatic 21, 3)) ∧ (decode cX4_house 7 = .ok (.ifCond .eq 7, 3)) ∧ (decode cX4_house 10 = .ok (.iconst 0, 1)) ∧ (decode cX4_house 11 = .ok (.goto 4, 3)) ∧ (decode cX4_house 14 = .ok (.iconst 1, 1)) ∧ (decode cX4_house 15 = .ok (.putfield 17, 3)) ∧ (decode cX4_house 18 = .ok (.aload_n 0, 1)) ∧ (decode cX4_house 19 = .ok (.getfield 17, 3)) ∧ (decode cX4_house 22 = .ok (.iconst 1, 1)) ∧ (decode cX4_house 23 = .ok (.if_icmp .ne 5, 3)) ∧ (decode cX4_house 26 = .ok (.iconst 0, 1)) ∧ (decode cX4_house 27 = .ok (.ireturn, 1)) := by decide +kernel
theorem dX4_house_0 : decode cX4_house 0 = .ok (.aload_n 0, 1) := bX4_house_0.1
theorem dX4_house_1 : decode cX4_house 1 = .ok (.iload_n 1, 1) := bX4_house_0.2.1
theorem dX4_house_2 : decode cX4_house 2 = .ok (.iconst 0, 1) := bX4_house_0.2.2.1
theorem dX4_house_3 : decode cX4_house 3 = .ok (.iconst 5, 1) := bX4_house_0.2.2.2.1
theorem dX4_house_4 : decode cX4_house 4 = .ok (.invokestatic 21, 3) := bX4_house_0.2.2.2.2.1
theorem dX4_house_7 : decode cX4_house 7 = .ok (.ifCond .eq 7, 3) := bX4_house_0.2.2.2.2.2.1
theorem dX4_house_10 : decode cX4_house 10 = .ok (.iconst 0, 1) := bX4_house_0.2.2.2.2.2.2.1
theorem dX4_house_11 : decode cX4_house 11 = .ok (.goto 4, 3) := bX4_house_0.2.2.2.2.2.2.2.1
theorem dX4_house_14 : decode cX4_house 14 = .ok (.iconst 1, 1) := bX4_house_0.2.2.2.2.2.2.2.2.1
theorem dX4_house_15 : decode cX4_house 15 = .ok (.putfield 17, 3) := bX4_house_0.2.2.2.2.2.2.2.2.2.1
theorem dX4_house_18 : decode cX4_house 18 = .ok (.aload_n 0, 1) := bX4_house_0.2.2.2.2.2.2.2.2.2.2.1
theorem dX4_house_19 : decode cX4_house 19 = .ok (.getfield 17, 3) := bX4_house_0.2.2.2.2.2.2.2.2.2.2.2.1
theorem dX4_house_22 : decode cX4_house 22 = .ok (.iconst 1, 1) := bX4_house_0.2.2.2.2.2.2.2.2.2.2.2.2.1
theorem dX4_house_23 : decode cX4_house 23 = .ok (.if_icmp .ne 5, 3) := bX4_house_0.2.2.2.2.2.2.2.2.2.2.2.2.2.1
theorem dX4_house_26 : decode cX4_house 26 = .ok (.iconst 0, 1) := bX4_house_0.2.2.2.2.2.2.2.2.2.2.2.2.2.2.1
theorem dX4_house_27 : decode cX4_house 27 = .ok (.ireturn, 1) := bX4_house_0.2.2.2.2.2.2.2.2.2.2.2.2.2.2.2
set_option maxRecDepth 100000 in
theorem bX4_house_28 : (decode cX4_house 28 = .ok (.iconst 0, 1)) ∧ (decode cX4_house 29 = .ok (.istore_n 2, 1)) ∧ (decode cX4_house 30 = .ok (.iconst 0, 1)) ∧ (decode cX4_house 31 = .ok (.istore_n 3, 1)) ∧ (decode cX4_house 32 = .ok (.iconst 0, 1)) ∧ (decode cX4_house 33 = .ok (.istore 4, 2)) ∧ (decode cX4_house 35 = .ok (.iload 4, 2)) ∧ (decode cX4_house 37 = .ok (.iconst 4, 1)) ∧ (decode cX4_house 38 = .ok (.if_icmp .ge 38, 3)) ∧ (decode cX4_house 41 = .ok (.iload_n 2, 1)) ∧ (decode cX4_house 42 = .ok (.aload_n 0, 1)) ∧ (decode cX4_house 43 = .ok (.getfield 11, 3)) ∧ (decode cX4_house 46 = .ok (.iload 4, 2)) ∧ (decode cX4_house 48 = .ok (.aaload, 1)) ∧ (decode cX4_house 49 = .ok (.arraylength, 1)) ∧ (decode cX4_house 50 = .ok (.iadd, 1)) := by decide +kernel
theorem dX4_house_28 : decode cX4_house 28 = .ok (.iconst 0, 1) := bX4_house_28.1
theorem dX4_house_29 : decode cX4_house 29 = .ok (.istore_n 2, 1) := bX4_house_28.2.1
theorem dX4_house_30 : decode cX4_house 30 = .ok (.iconst 0, 1) := bX4_house_28.2.2.1
theorem dX4_house_31 : decode cX4_house 31 = .ok (.istore_n 3, 1) := bX4_house_28.2.2.2.1
theorem dX4_house_32 : decode cX4_house 32 = .ok (.iconst 0, 1) := bX4_house_28.2.2.2.2.1
theorem dX4_house_33 : decode cX4_house 33 = .ok (.istore 4, 2) := bX4_house_28.2.2.2.2.2.1
theorem dX4_house_35 : decode cX4_house 35 = .ok (.iload 4, 2) := bX4_house_28.2.2.2.2.2.2.1
theorem dX4_house_37 : decode cX4_house 37 = .ok (.iconst 4, 1) := bX4_house_28.2.2.2.2.2.2.2.1
theorem dX4_house_38 : decode cX4_house 38 = .ok (.if_icmp .ge 38, 3) := bX4_house_28.2.2.2.2.2.2.2.2.1
theorem dX4_house_41 : decode cX4_house 41 = .ok (.iload_n 2, 1) := bX4_house_28.2.2.2.2.2.2.2.2.2.1
theorem dX4_house_42 : decode cX4_house 42 = .ok (.aload_n 0, 1) := bX4_house_28.2.2.2.2.2.2.2.2.2.2.1
theorem dX4_house_43 : decode cX4_house 43 = .ok (.getfield 11, 3) := bX4_house_28.2.2.2.2.2.2.2.2.2.2.2.1
theorem dX4_house_46 : decode cX4_house 46 = .ok (.iload 4, 2) := bX4_house_28.2.2.2.2.2.2.2.2.2.2.2.2.1
theorem dX4_house_48 : decode cX4_house 48 = .ok (.aaload, 1) := bX4_house_28.2.2.2.2.2.2.2.2.2.2.2.2.2.1
theorem dX4_house_49 : decode cX4_house 49 = .ok (.arraylength, 1) := bX4_house_28.2.2.2.2.2.2.2.2.2.2.2.2.2.2.1
theorem dX4_house_50 : decode cX4_house 50 = .ok (.iadd, 1) := bX4_house_28.2.2.2.2.2.2.2.2.2.2.2.2.2.2.2
set_option maxRecDepth 100000 in
theorem bX4_house_51 : (decode cX4_house 51 = .ok (.istore_n 2, 1)) ∧ (decode cX4_house 52 = .ok (.iload_n 3, 1)) ∧ (decode cX4_house 53 = .ok (.aload_n 0, 1)) ∧ (decode cX4_house 54 = .ok (.iload 4, 2)) ∧ (decode cX4_house 56 = .ok (.iconst 1, 1)) ∧ (decode cX4_house 57 = .ok (.invokevirtual 86, 3)) ∧ (decode cX4_house 60 = .ok (.ifCond .ne 7, 3)) ∧ (decode cX4_house 63 = .ok (.iconst 1, 1)) ∧ (decode cX4_house 64 = .ok (.goto 4, 3)) ∧ (decode cX4_house 67 = .ok (.iconst 0, 1)) ∧ (decode cX4_house 68 = .ok (.iadd, 1)) ∧ (decode cX4_house 69 = .ok (.istore_n 3, 1)) ∧ (decode cX4_house 70 = .ok (.iinc 4 1, 3)) ∧ (decode cX4_house 73 = .ok (.goto (-38), 3)) ∧ (decode cX4_house 76 = .ok (.bipush 6, 2)) ∧ (decode cX4_house 78 = .ok (.newarray .int, 2)) := by decide +kernel
theorem dX4_house_51 : decode cX4_house 51 = .ok (.istore_n 2, 1) := bX4_house_51.1
theorem dX4_house_52 : decode cX4_house 52 = .ok (.iload_n 3, 1) := bX4_house_51.2.1
theorem dX4_house_53 : decode cX4_house 53 = .ok (.aload_n 0, 1) := bX4_house_51.2.2.1
theorem dX4_house_54 : decode cX4_house 54 = .ok (.iload 4, 2) := bX4_house_51.2.2.2.1
theorem dX4_house_56 : decode cX4_house 56 = .ok (.iconst 1, 1) := bX4_house_51.2.2.2.2.1
theorem dX4_house_57 : decode cX4_house 57 = .ok (.invokevirtual 86, 3) := bX4_house_51.2.2.2.2.2.1
theorem dX4_house_60 : decode cX4_house 60 = .ok (.ifCond .ne 7, 3) := bX4_house_51.2.2.2.2.2.2.1
theorem dX4_house_63 : decode cX4_house 63 = .ok (.iconst 1, 1) := bX4_house_51.2.2.2.2.2.2.2.1
theorem dX4_house_64 : decode cX4_house 64 = .ok (.goto 4, 3) := bX4_house_51.2.2.2.2.2.2.2.2.1
theorem dX4_house_67 : decode cX4_house 67 = .ok (.iconst 0, 1) := bX4_house_51.2.2.2.2.2.2.2.2.2.1
theorem dX4_house_68 : decode cX4_house 68 = .ok (.iadd, 1) := bX4_house_51.2.2.2.2.2.2.2.2.2.2.1
theorem dX4_house_69 : decode cX4_house 69 = .ok (.istore_n 3, 1) := bX4_house_51.2.2.2.2.2.2.2.2.2.2.2.1
theorem dX4_house_70 : decode cX4_house 70 = .ok (.iinc 4 1, 3) := bX4_house_51.2.2.2.2.2.2.2.2.2.2.2.2.1
theorem dX4_house_73 : decode cX4_house 73 = .ok (.goto (-38), 3) := bX4_house_51.2.2.2.2.2.2.2.2.2.2.2.2.2.1
theorem dX4_house_76 : decode cX4_house 76 = .ok (.bipush 6, 2) := bX4_house_51.2.2.2.2.2.2.2.2.2.2.2.2.2.2.1
theorem dX4_house_78 : decode cX4_house 78 = .ok (.newarray .int, 2) := bX4_house_51.2.2.2.2.2.2.2.2.2.2.2.2.2.2.2
set_option maxRecDepth 100000 in
theorem bX4_house_80 : (decode cX4_house 80 = .ok (.dup, 1)) ∧ (decode cX4_house 81 = .ok (.iconst 0, 1)) ∧ (decode cX4_house 82 = .ok (.iload_n 2, 1)) ∧ (decode cX4_house 83 = .ok (.iastore, 1)) ∧ (decode cX4_house 84 = .ok (.dup, 1)) ∧ (decode cX4_house 85 = .ok (.iconst 1, 1)) ∧ (decode cX4_house 86 = .ok (.aload_n 0, 1)) ∧ (decode cX4_house 87 = .ok (.getfield 29, 3)) ∧ (decode cX4_house 90 = .ok (.iastore, 1)) ∧ (decode cX4_house 91 = .ok (.dup, 1)) ∧ (decode cX4_house 92 = .ok (.iconst 2, 1)) ∧ (decode cX4_house 93 = .ok (.aload_n 0, 1)) ∧ (decode cX4_house 94 = .ok (.getfield 32, 3)) ∧ (decode cX4_house 97 = .ok (.iastore, 1)) ∧ (decode cX4_house 98 = .ok (.dup, 1)) ∧ (decode cX4_house 99 = .ok (.iconst 3, 1)) := by decide +kernel
theorem dX4_house_80 : decode cX4_house 80 = .ok (.dup, 1) := bX4_house_80.1
theorem dX4_house_81 : decode cX4_house 81 = .ok (.iconst 0, 1) := bX4_house_80.2.1
theorem dX4_house_82 : decode cX4_house 82 = .ok (.iload_n 2, 1) := bX4_house_80.2.2.1
theorem dX4_house_83 : decode cX4_house 83 = .ok (.iastore, 1) := bX4_house_80.2.2.2.1
theorem dX4_house_84 : decode cX4_house 84 = .ok (.dup, 1) := bX4_house_80.2.2.2.2.1
theorem dX4_house_85 : decode cX4_house 85 = .ok (.iconst 1, 1) := bX4_house_80.2.2.2.2.2.1
theorem dX4_house_86 : decode cX4_house 86 = .ok (.aload_n 0, 1) := bX4_house_80.2.2.2.2.2.2.1
theorem dX4_house_87 : decode cX4_house 87 = .ok (.getfield 29, 3) := bX4_house_80.2.2.2.2.2.2.2.1
theorem dX4_house_90 : decode cX4_house 90 = .ok (.iastore, 1) := bX4_house_80.2.2.2.2.2.2.2.2.1
theorem dX4_house_91 : decode cX4_house 91 = .ok (.dup, 1) := bX4_house_80.2.2.2.2.2.2.2.2.2.1
theorem dX4_house_92 : decode cX4_house 92 = .ok (.iconst 2, 1) := bX4_house_80.2.2.2.2.2.2.2.2.2.2.1
theorem dX4_house_93 : decode cX4_house 93 = .ok (.aload_n 0, 1) := bX4_house_80.2.2.2.2.2.2.2.2.2.2.2.1
theorem dX4_house_94 : decode cX4_house 94 = .ok (.getfield 32, 3) := bX4_house_80.2.2.2.2.2.2.2.2.2.2.2.2.1
theorem dX4_house_97 : decode cX4_house 97 = .ok (.iastore, 1) := bX4_house_80.2.2.2.2.2.2.2.2.2.2.2.2.2.1
theorem dX4_house_98 : decode cX4_house 98 = .ok (.dup, 1) := bX4_house_80.2.2.2.2.2.2.2.2.2.2.2.2.2.2.1
theorem dX4_house_99 : decode cX4_house 99 = .ok (.iconst 3, 1) := bX4_house_80.2.2.2.2.2.2.2.2.2.2.2.2.2.2.2
set_option maxRecDepth 100000 in
theorem bX4_house_100 : (decode cX4_house 100 = .ok (.aload_n 0, 1)) ∧ (decode cX4_house 101 = .ok (.getfield 146, 3)) ∧ (decode cX4_house 104 = .ok (.iastore, 1)) ∧ (decode cX4_house 105 = .ok (.dup, 1)) ∧ (decode cX4_house 106 = .ok (.iconst 4, 1)) ∧ (decode cX4_house 107 = .ok (.aload_n 0, 1)) ∧ (decode cX4_house 108 = .ok (.getfield 35, 3)) ∧ (decode cX4_house 111 = .ok (.iastore, 1)) ∧ (decode cX4_house 112 = .ok (.dup, 1)) ∧ (decode cX4_house 113 = .ok (.iconst 5, 1)) ∧ (decode cX4_house 114 = .ok (.iload_n 3, 1)) ∧ (decode cX4_house 115 = .ok (.iastore, 1)) ∧ (decode cX4_house 116 = .ok (.astore 4, 2)) ∧ (decode cX4_house 118 = .ok (.aload 4, 2)) ∧ (decode cX4_house 120 = .ok (.iload_n 1, 1)) ∧ (decode cX4_house 121 = .ok (.iaload, 1)) := by decide +kernel
theorem dX4_house_100 : decode cX4_house 100 = .ok (.aload_n 0, 1) := bX4_house_100.1
theorem dX4_house_101 : decode cX4_house 101 = .ok (.getfield 146, 3) := bX4_house_100.2.1
theorem dX4_house_104 : decode cX4_house 104 = .ok (.iastore, 1) := bX4_house_100.2.2.1
theorem dX4_house_105 : decode cX4_house 105 = .ok (.dup, 1) := bX4_house_100.2.2.2.1
theorem dX4_house_106 : decode cX4_house 106 = .ok (.iconst 4, 1) := bX4_house_100.2.2.2.2.1
theorem dX4_house_107 : decode cX4_house 107 = .ok (.aload_n 0, 1) := bX4_house_100.2.2.2.2.2.1
theorem dX4_house_108 : decode cX4_house 108 = .ok (.getfield 35, 3) := bX4_house_100.2.2.2.2.2.2.1
theorem dX4_house_111 : decode cX4_house 111 = .ok (.iastore, 1) := bX4_house_100.2.2.2.2.2.2.2.1
theorem dX4_house_112 : decode cX4_house 112 = .ok (.dup, 1) := bX4_house_100.2.2.2.2.2.2.2.2.1
theorem dX4_house_113 : decode cX4_house 113 = .ok (.iconst 5, 1) := bX4_house_100.2.2.2.2.2.2.2.2.2.1
theorem dX4_house_114 : decode cX4_house 114 = .ok (.iload_n 3, 1) := bX4_house_100.2.2.2.2.2.2.2.2.2.2.1
theorem dX4_house_115 : decode cX4_house 115 = .ok (.iastore, 1) := bX4_house_100.2.2.2.2.2.2.2.2.2.2.2.1
theorem dX4_house_116 : decode cX4_house 116 = .ok (.astore 4, 2) := bX4_house_100.2.2.2.2.2.2.2.2.2.2.2.2.1
theorem dX4_house_118 : decode cX4_house 118 = .ok (.aload 4, 2) := bX4_house_100.2.2.2.2.2.2.2.2.2.2.2.2.2.1
theorem dX4_house_120 : decode cX4_house 120 = .ok (.iload_n 1, 1) := bX4_house_100.2.2.2.2.2.2.2.2.2.2.2.2.2.2.1
theorem dX4_house_121 : decode cX4_house 121 = .ok (.iaload, 1) := bX4_house_100.2.2.2.2.2.2.2.2.2.2.2.2.2.2.2
theorem dX4_house_122 : decode cX4_house 122 = .ok (.ireturn, 1) := by decide +kernel
set_option maxRecDepth 100000 in
theorem bX4_knock_0 : (decode cX4_knock 0 = .ok (.aload_n 0, 1)) ∧ (decode cX4_knock 1 = .ok (.iconst 0, 1)) ∧ (decode cX4_knock 2 = .ok (.putfield 17, 3)) ∧ (decode cX4_knock 5 = .ok (.aload_n 0, 1)) ∧ (decode cX4_knock 6 = .ok (.dup, 1)) ∧ (decode cX4_knock 7 = .ok (.getfield 146, 3)) ∧ (decode cX4_knock 10 = .ok (.iconst 1, 1)) ∧ (decode cX4_knock 11 = .ok (.iadd, 1)) ∧ (decode cX4_knock 12 = .ok (.putfield 146, 3)) ∧ (decode cX4_knock 15 = .ok (.aload_n 0, 1)) ∧ (decode cX4_knock 16 = .ok (.getfield 146, 3)) ∧ (decode cX4_knock 19 = .ok (.ireturn, 1)) := by decide +kernel
theorem dX4_knock_0 : decode cX4_knock 0 = .ok (.aload_n 0, 1) := bX4_knock_0.1
theorem dX4_knock_1 : decode cX4_knock 1 = .ok (.iconst 0, 1) := bX4_knock_0.2.1
theorem dX4_knock_2 : decode cX4_knock 2 = .ok (.putfield 17, 3) := bX4_knock_0.2.2.1
theorem dX4_knock_5 : decode cX4_knock 5 = .ok (.aload_n 0, 1) := bX4_knock_0.2.2.2.1
theorem dX4_knock_6 : decode cX4_knock 6 = .ok (.dup, 1) := bX4_knock_0.2.2.2.2.1
theorem dX4_knock_7 : decode cX4_knock 7 = .ok (.getfield 146, 3) := bX4_knock_0.2.2.2.2.2.1
theorem dX4_knock_10 : decode cX4_knock 10 = .ok (.iconst 1, 1) := bX4_knock_0.2.2.2.2.2.2.1
theorem dX4_knock_11 : decode cX4_knock 11 = .ok (.iadd, 1) := bX4_knock_0.2.2.2.2.2.2.2.1
theorem dX4_knock_12 : decode cX4_knock 12 = .ok (.putfield 146, 3) := bX4_knock_0.2.2.2.2.2.2.2.2.1
theorem dX4_knock_15 : decode cX4_knock 15 = .ok (.aload_n 0, 1) := bX4_knock_0.2.2.2.2.2.2.2.2.2.1
theorem dX4_knock_16 : decode cX4_knock 16 = .ok (.getfield 146, 3) := bX4_knock_0.2.2.2.2.2.2.2.2.2.2.1
theorem dX4_knock_19 : decode cX4_knock 19 = .ok (.ireturn, 1) := bX4_knock_0.2.2.2.2.2.2.2.2.2.2.2
set_option maxRecDepth 100000 in
theorem bX4_isSound_0 : (decode cX4_isSound 0 = .ok (.aload_n 0, 1)) ∧ (decode cX4_isSound 1 = .ok (.iconst 0, 1)) ∧ (decode cX4_isSound 2 = .ok (.putfield 17, 3)) ∧ (decode cX4_isSound 5 = .ok (.iconst 1, 1)) ∧ (decode cX4_isSound 6 = .ok (.ireturn, 1)) := by decide +kernel
theorem dX4_isSound_0 : decode cX4_isSound 0 = .ok (.aload_n 0, 1) := bX4_isSound_0.1
theorem dX4_isSound_1 : decode cX4_isSound 1 = .ok (.iconst 0, 1) := bX4_isSound_0.2.1
theorem dX4_isSound_2 : decode cX4_isSound 2 = .ok (.putfield 17, 3) := bX4_isSound_0.2.2.1
theorem dX4_isSound_5 : decode cX4_isSound 5 = .ok (.iconst 1, 1) := bX4_isSound_0.2.2.2.1
theorem dX4_isSound_6 : decode cX4_isSound 6 = .ok (.ireturn, 1) := bX4_isSound_0.2.2.2.2
set_option maxRecDepth 100000 in
theorem bX4_digest_0 : (decode cX4_digest 0 = .ok (.ldc2_w 149, 3)) ∧ (decode cX4_digest 3 = .ok (.lstore_n 1, 1)) ∧ (decode cX4_digest 4 = .ok (.iconst 0, 1)) ∧ (decode cX4_digest 5 = .ok (.istore_n 3, 1)) ∧ (decode cX4_digest 6 = .ok (.iload_n 3, 1)) ∧ (decode cX4_digest 7 = .ok (.iconst 4, 1)) ∧ (decode cX4_digest 8 = .ok (.if_icmp .ge 135, 3)) ∧ (decode cX4_digest 11 = .ok (.bipush 9, 2)) ∧ (decode cX4_digest 13 = .ok (.newarray .int, 2)) ∧ (decode cX4_digest 15 = .ok (.dup, 1)) ∧ (decode cX4_digest 16 = .ok (.iconst 0, 1)) ∧ (decode cX4_digest 17 = .ok (.aload_n 0, 1)) ∧ (decode cX4_digest 18 = .ok (.iload_n 3, 1)) ∧ (decode cX4_digest 19 = .ok (.invokevirtual 151, 3)) ∧ (decode cX4_digest 22 = .ok (.iastore, 1)) ∧ (decode cX4_digest 23 = .ok (.dup, 1)) := by decide +kernel
theorem dX4_digest_0 : decode cX4_digest 0 = .ok (.ldc2_w 149, 3) := bX4_digest_0.1
theorem dX4_digest_3 : decode cX4_digest 3 = .ok (.lstore_n 1, 1) := bX4_digest_0.2.1
theorem dX4_digest_4 : decode cX4_digest 4 = .ok (.iconst 0, 1) := bX4_digest_0.2.2.1
theorem dX4_digest_5 : decode cX4_digest 5 = .ok (.istore_n 3, 1) := bX4_digest_0.2.2.2.1
theorem dX4_digest_6 : decode cX4_digest 6 = .ok (.iload_n 3, 1) := bX4_digest_0.2.2.2.2.1
theorem dX4_digest_7 : decode cX4_digest 7 = .ok (.iconst 4, 1) := bX4_digest_0.2.2.2.2.2.1
theorem dX4_digest_8 : decode cX4_digest 8 = .ok (.if_icmp .ge 135, 3) := bX4_digest_0.2.2.2.2.2.2.1
theorem dX4_digest_11 : decode cX4_digest 11 = .ok (.bipush 9, 2) := bX4_digest_0.2.2.2.2.2.2.2.1
theorem dX4_digest_13 : decode cX4_digest 13 = .ok (.newarray .int, 2) := bX4_digest_0.2.2.2.2.2.2.2.2.1
theorem dX4_digest_15 : decode cX4_digest 15 = .ok (.dup, 1) := bX4_digest_0.2.2.2.2.2.2.2.2.2.1
theorem dX4_digest_16 : decode cX4_digest 16 = .ok (.iconst 0, 1) := bX4_digest_0.2.2.2.2.2.2.2.2.2.2.1
theorem dX4_digest_17 : decode cX4_digest 17 = .ok (.aload_n 0, 1) := bX4_digest_0.2.2.2.2.2.2.2.2.2.2.2.1
theorem dX4_digest_18 : decode cX4_digest 18 = .ok (.iload_n 3, 1) := bX4_digest_0.2.2.2.2.2.2.2.2.2.2.2.2.1
theorem dX4_digest_19 : decode cX4_digest 19 = .ok (.invokevirtual 151, 3) := bX4_digest_0.2.2.2.2.2.2.2.2.2.2.2.2.2.1
theorem dX4_digest_22 : decode cX4_digest 22 = .ok (.iastore, 1) := bX4_digest_0.2.2.2.2.2.2.2.2.2.2.2.2.2.2.1
theorem dX4_digest_23 : decode cX4_digest 23 = .ok (.dup, 1) := bX4_digest_0.2.2.2.2.2.2.2.2.2.2.2.2.2.2.2
set_option maxRecDepth 100000 in
theorem bX4_digest_24 : (decode cX4_digest 24 = .ok (.iconst 1, 1)) ∧ (decode cX4_digest 25 = .ok (.aload_n 0, 1)) ∧ (decode cX4_digest 26 = .ok (.iload_n 3, 1)) ∧ (decode cX4_digest 27 = .ok (.iconst 0, 1)) ∧ (decode cX4_digest 28 = .ok (.invokevirtual 154, 3)) ∧ (decode cX4_digest 31 = .ok (.iastore, 1)) ∧ (decode cX4_digest 32 = .ok (.dup, 1)) ∧ (decode cX4_digest 33 = .ok (.iconst 2, 1)) ∧ (decode cX4_digest 34 = .ok (.aload_n 0, 1)) ∧ (decode cX4_digest 35 = .ok (.iload_n 3, 1)) ∧ (decode cX4_digest 36 = .ok (.iconst 1, 1)) ∧ (decode cX4_digest 37 = .ok (.invokevirtual 154, 3)) ∧ (decode cX4_digest 40 = .ok (.iastore, 1)) ∧ (decode cX4_digest 41 = .ok (.dup, 1)) ∧ (decode cX4_digest 42 = .ok (.iconst 3, 1)) ∧ (decode cX4_digest 43 = .ok (.aload_n 0, 1)) := by decide +kernel
theorem dX4_digest_24 : decode cX4_digest 24 = .ok (.iconst 1, 1) := bX4_digest_24.1
theorem dX4_digest_25 : decode cX4_digest 25 = .ok (.aload_n 0, 1) := bX4_digest_24.2.1
theorem dX4_digest_26 : decode cX4_digest 26 = .ok (.iload_n 3, 1) := bX4_digest_24.2.2.1
theorem dX4_digest_27 : decode cX4_digest 27 = .ok (.iconst 0, 1) := bX4_digest_24.2.2.2.1
theorem dX4_digest_28 : decode cX4_digest 28 = .ok (.invokevirtual 154, 3) := bX4_digest_24.2.2.2.2.1
theorem dX4_digest_31 : decode cX4_digest 31 = .ok (.iastore, 1) := bX4_digest_24.2.2.2.2.2.1
theorem dX4_digest_32 : decode cX4_digest 32 = .ok (.dup, 1) := bX4_digest_24.2.2.2.2.2.2.1
theorem dX4_digest_33 : decode cX4_digest 33 = .ok (.iconst 2, 1) := bX4_digest_24.2.2.2.2.2.2.2.1
theorem dX4_digest_34 : decode cX4_digest 34 = .ok (.aload_n 0, 1) := bX4_digest_24.2.2.2.2.2.2.2.2.1
theorem dX4_digest_35 : decode cX4_digest 35 = .ok (.iload_n 3, 1) := bX4_digest_24.2.2.2.2.2.2.2.2.2.1
theorem dX4_digest_36 : decode cX4_digest 36 = .ok (.iconst 1, 1) := bX4_digest_24.2.2.2.2.2.2.2.2.2.2.1
theorem dX4_digest_37 : decode cX4_digest 37 = .ok (.invokevirtual 154, 3) := bX4_digest_24.2.2.2.2.2.2.2.2.2.2.2.1
theorem dX4_digest_40 : decode cX4_digest 40 = .ok (.iastore, 1) := bX4_digest_24.2.2.2.2.2.2.2.2.2.2.2.2.1
theorem dX4_digest_41 : decode cX4_digest 41 = .ok (.dup, 1) := bX4_digest_24.2.2.2.2.2.2.2.2.2.2.2.2.2.1
theorem dX4_digest_42 : decode cX4_digest 42 = .ok (.iconst 3, 1) := bX4_digest_24.2.2.2.2.2.2.2.2.2.2.2.2.2.2.1
theorem dX4_digest_43 : decode cX4_digest 43 = .ok (.aload_n 0, 1) := bX4_digest_24.2.2.2.2.2.2.2.2.2.2.2.2.2.2.2
set_option maxRecDepth 100000 in
theorem bX4_digest_44 : (decode cX4_digest 44 = .ok (.iload_n 3, 1)) ∧ (decode cX4_digest 45 = .ok (.iconst 0, 1)) ∧ (decode cX4_digest 46 = .ok (.invokevirtual 158, 3)) ∧ (decode cX4_digest 49 = .ok (.iastore, 1)) ∧ (decode cX4_digest 50 = .ok (.dup, 1)) ∧ (decode cX4_digest 51 = .ok (.iconst 4, 1)) ∧ (decode cX4_digest 52 = .ok (.aload_n 0, 1)) ∧ (decode cX4_digest 53 = .ok (.iload_n 3, 1)) ∧ (decode cX4_digest 54 = .ok (.invokevirtual 161, 3)) ∧ (decode cX4_digest 57 = .ok (.iastore, 1)) ∧ (decode cX4_digest 58 = .ok (.dup, 1)) ∧ (decode cX4_digest 59 = .ok (.iconst 5, 1)) ∧ (decode cX4_digest 60 = .ok (.aload_n 0, 1)) ∧ (decode cX4_digest 61 = .ok (.iload_n 3, 1)) ∧ (decode cX4_digest 62 = .ok (.invokevirtual 164, 3)) ∧ (decode cX4_digest 65 = .ok (.iastore, 1)) := by decide +kernel
theorem dX4_digest_44 : decode cX4_digest 44 = .ok (.iload_n 3, 1) := bX4_digest_44.1
theorem dX4_digest_45 : decode cX4_digest 45 = .ok (.iconst 0, 1) := bX4_digest_44.2.1
theorem dX4_digest_46 : decode cX4_digest 46 = .ok (.invokevirtual 158, 3) := bX4_digest_44.2.2.1
theorem dX4_digest_49 : decode cX4_digest 49 = .ok (.iastore, 1) := bX4_digest_44.2.2.2.1
theorem dX4_digest_50 : decode cX4_digest 50 = .ok (.dup, 1) := bX4_digest_44.2.2.2.2.1
theorem dX4_digest_51 : decode cX4_digest 51 = .ok (.iconst 4, 1) := bX4_digest_44.2.2.2.2.2.1
theorem dX4_digest_52 : decode cX4_digest 52 = .ok (.aload_n 0, 1) := bX4_digest_44.2.2.2.2.2.2.1
theorem dX4_digest_53 : decode cX4_digest 53 = .ok (.iload_n 3, 1) := bX4_digest_44.2.2.2.2.2.2.2.1
theorem dX4_digest_54 : decode cX4_digest 54 = .ok (.invokevirtual 161, 3) := bX4_digest_44.2.2.2.2.2.2.2.2.1
theorem dX4_digest_57 : decode cX4_digest 57 = .ok (.iastore, 1) := bX4_digest_44.2.2.2.2.2.2.2.2.2.1
theorem dX4_digest_58 : decode cX4_digest 58 = .ok (.dup, 1) := bX4_digest_44.2.2.2.2.2.2.2.2.2.2.1
theorem dX4_digest_59 : decode cX4_digest 59 = .ok (.iconst 5, 1) := bX4_digest_44.2.2.2.2.2.2.2.2.2.2.2.1
theorem dX4_digest_60 : decode cX4_digest 60 = .ok (.aload_n 0, 1) := bX4_digest_44.2.2.2.2.2.2.2.2.2.2.2.2.1
theorem dX4_digest_61 : decode cX4_digest 61 = .ok (.iload_n 3, 1) := bX4_digest_44.2.2.2.2.2.2.2.2.2.2.2.2.2.1
theorem dX4_digest_62 : decode cX4_digest 62 = .ok (.invokevirtual 164, 3) := bX4_digest_44.2.2.2.2.2.2.2.2.2.2.2.2.2.2.1
theorem dX4_digest_65 : decode cX4_digest 65 = .ok (.iastore, 1) := bX4_digest_44.2.2.2.2.2.2.2.2.2.2.2.2.2.2.2
set_option maxRecDepth 100000 in
theorem bX4_digest_66 : (decode cX4_digest 66 = .ok (.dup, 1)) ∧ (decode cX4_digest 67 = .ok (.bipush 6, 2)) ∧ (decode cX4_digest 69 = .ok (.aload_n 0, 1)) ∧ (decode cX4_digest 70 = .ok (.iload_n 3, 1)) ∧ (decode cX4_digest 71 = .ok (.invokevirtual 167, 3)) ∧ (decode cX4_digest 74 = .ok (.iastore, 1)) ∧ (decode cX4_digest 75 = .ok (.dup, 1)) ∧ (decode cX4_digest 76 = .ok (.bipush 7, 2)) ∧ (decode cX4_digest 78 = .ok (.aload_n 0, 1)) ∧ (decode cX4_digest 79 = .ok (.iload_n 3, 1)) ∧ (decode cX4_digest 80 = .ok (.invokevirtual 170, 3)) ∧ (decode cX4_digest 83 = .ok (.iastore, 1)) ∧ (decode cX4_digest 84 = .ok (.dup, 1)) ∧ (decode cX4_digest 85 = .ok (.bipush 8, 2)) ∧ (decode cX4_digest 87 = .ok (.aload_n 0, 1)) ∧ (decode cX4_digest 88 = .ok (.iload_n 3, 1)) := by decide +kernel
theorem dX4_digest_66 : decode cX4_digest 66 = .ok (.dup, 1) := bX4_digest_66.1
theorem dX4_digest_67 : decode cX4_digest 67 = .ok (.bipush 6, 2) := bX4_digest_66.2.1
theorem dX4_digest_69 : decode cX4_digest 69 = .ok (.aload_n 0, 1) := bX4_digest_66.2.2.1
theorem dX4_digest_70 : decode cX4_digest 70 = .ok (.iload_n 3, 1) := bX4_digest_66.2.2.2.1
theorem dX4_digest_71 : decode cX4_digest 71 = .ok (.invokevirtual 167, 3) := bX4_digest_66.2.2.2.2.1
theorem dX4_digest_74 : decode cX4_digest 74 = .ok (.iastore, 1) := bX4_digest_66.2.2.2.2.2.1
theorem dX4_digest_75 : decode cX4_digest 75 = .ok (.dup, 1) := bX4_digest_66.2.2.2.2.2.2.1
theorem dX4_digest_76 : decode cX4_digest 76 = .ok (.bipush 7, 2) := bX4_digest_66.2.2.2.2.2.2.2.1
theorem dX4_digest_78 : decode cX4_digest 78 = .ok (.aload_n 0, 1) := bX4_digest_66.2.2.2.2.2.2.2.2.1
theorem dX4_digest_79 : decode cX4_digest 79 = .ok (.iload_n 3, 1) := bX4_digest_66.2.2.2.2.2.2.2.2.2.1
theorem dX4_digest_80 : decode cX4_digest 80 = .ok (.invokevirtual 170, 3) := bX4_digest_66.2.2.2.2.2.2.2.2.2.2.1
theorem dX4_digest_83 : decode cX4_digest 83 = .ok (.iastore, 1) := bX4_digest_66.2.2.2.2.2.2.2.2.2.2.2.1
theorem dX4_digest_84 : decode cX4_digest 84 = .ok (.dup, 1) := bX4_digest_66.2.2.2.2.2.2.2.2.2.2.2.2.1
theorem dX4_digest_85 : decode cX4_digest 85 = .ok (.bipush 8, 2) := bX4_digest_66.2.2.2.2.2.2.2.2.2.2.2.2.2.1
theorem dX4_digest_87 : decode cX4_digest 87 = .ok (.aload_n 0, 1) := bX4_digest_66.2.2.2.2.2.2.2.2.2.2.2.2.2.2.1
theorem dX4_digest_88 : decode cX4_digest 88 = .ok (.iload_n 3, 1) := bX4_digest_66.2.2.2.2.2.2.2.2.2.2.2.2.2.2.2
set_option maxRecDepth 100000 in
theorem bX4_digest_89 : (decode cX4_digest 89 = .ok (.invokevirtual 173, 3)) ∧ (decode cX4_digest 92 = .ok (.iastore, 1)) ∧ (decode cX4_digest 93 = .ok (.astore 4, 2)) ∧ (decode cX4_digest 95 = .ok (.aload 4, 2)) ∧ (decode cX4_digest 97 = .ok (.astore 5, 2)) ∧ (decode cX4_digest 99 = .ok (.aload 5, 2)) ∧ (decode cX4_digest 101 = .ok (.arraylength, 1)) ∧ (decode cX4_digest 102 = .ok (.istore 6, 2)) ∧ (decode cX4_digest 104 = .ok (.iconst 0, 1)) ∧ (decode cX4_digest 105 = .ok (.istore 7, 2)) ∧ (decode cX4_digest 107 = .ok (.iload 7, 2)) ∧ (decode cX4_digest 109 = .ok (.iload 6, 2)) ∧ (decode cX4_digest 111 = .ok (.if_icmp .ge 26, 3)) ∧ (decode cX4_digest 114 = .ok (.aload 5, 2)) ∧ (decode cX4_digest 116 = .ok (.iload 7, 2)) ∧ (decode cX4_digest 118 = .ok (.iaload, 1)) := by decide +kernel
theorem dX4_digest_89 : decode cX4_digest 89 = .ok (.invokevirtual 173, 3) := bX4_digest_89.1
theorem dX4_digest_92 : decode cX4_digest 92 = .ok (.iastore, 1) := bX4_digest_89.2.1
theorem dX4_digest_93 : decode cX4_digest 93 = .ok (.astore 4, 2) := bX4_digest_89.2.2.1
theorem dX4_digest_95 : decode cX4_digest 95 = .ok (.aload 4, 2) := bX4_digest_89.2.2.2.1
theorem dX4_digest_97 : decode cX4_digest 97 = .ok (.astore 5, 2) := bX4_digest_89.2.2.2.2.1
theorem dX4_digest_99 : decode cX4_digest 99 = .ok (.aload 5, 2) := bX4_digest_89.2.2.2.2.2.1
theorem dX4_digest_101 : decode cX4_digest 101 = .ok (.arraylength, 1) := bX4_digest_89.2.2.2.2.2.2.1
theorem dX4_digest_102 : decode cX4_digest 102 = .ok (.istore 6, 2) := bX4_digest_89.2.2.2.2.2.2.2.1
theorem dX4_digest_104 : decode cX4_digest 104 = .ok (.iconst 0, 1) := bX4_digest_89.2.2.2.2.2.2.2.2.1
theorem dX4_digest_105 : decode cX4_digest 105 = .ok (.istore 7, 2) := bX4_digest_89.2.2.2.2.2.2.2.2.2.1
theorem dX4_digest_107 : decode cX4_digest 107 = .ok (.iload 7, 2) := bX4_digest_89.2.2.2.2.2.2.2.2.2.2.1
theorem dX4_digest_109 : decode cX4_digest 109 = .ok (.iload 6, 2) := bX4_digest_89.2.2.2.2.2.2.2.2.2.2.2.1
theorem dX4_digest_111 : decode cX4_digest 111 = .ok (.if_icmp .ge 26, 3) := bX4_digest_89.2.2.2.2.2.2.2.2.2.2.2.2.1
theorem dX4_digest_114 : decode cX4_digest 114 = .ok (.aload 5, 2) := bX4_digest_89.2.2.2.2.2.2.2.2.2.2.2.2.2.1
theorem dX4_digest_116 : decode cX4_digest 116 = .ok (.iload 7, 2) := bX4_digest_89.2.2.2.2.2.2.2.2.2.2.2.2.2.2.1
theorem dX4_digest_118 : decode cX4_digest 118 = .ok (.iaload, 1) := bX4_digest_89.2.2.2.2.2.2.2.2.2.2.2.2.2.2.2
set_option maxRecDepth 100000 in
theorem bX4_digest_119 : (decode cX4_digest 119 = .ok (.istore 8, 2)) ∧ (decode cX4_digest 121 = .ok (.lload_n 1, 1)) ∧ (decode cX4_digest 122 = .ok (.ldc2_w 175, 3)) ∧ (decode cX4_digest 125 = .ok (.lmul, 1)) ∧ (decode cX4_digest 126 = .ok (.iload 8, 2)) ∧ (decode cX4_digest 128 = .ok (.i2l, 1)) ∧ (decode cX4_digest 129 = .ok (.ladd, 1)) ∧ (decode cX4_digest 130 = .ok (.lstore_n 1, 1)) ∧ (decode cX4_digest 131 = .ok (.iinc 7 1, 3)) ∧ (decode cX4_digest 134 = .ok (.goto (-27), 3)) ∧ (decode cX4_digest 137 = .ok (.iinc 3 1, 3)) ∧ (decode cX4_digest 140 = .ok (.goto (-134), 3)) ∧ (decode cX4_digest 143 = .ok (.iconst 0, 1)) ∧ (decode cX4_digest 144 = .ok (.istore_n 3, 1)) ∧ (decode cX4_digest 145 = .ok (.iload_n 3, 1)) ∧ (decode cX4_digest 146 = .ok (.bipush 6, 2)) := by decide +kernel
theorem dX4_digest_119 : decode cX4_digest 119 = .ok (.istore 8, 2) := bX4_digest_119.1
theorem dX4_digest_121 : decode cX4_digest 121 = .ok (.lload_n 1, 1) := bX4_digest_119.2.1
theorem dX4_digest_122 : decode cX4_digest 122 = .ok (.ldc2_w 175, 3) := bX4_digest_119.2.2.1
theorem dX4_digest_125 : decode cX4_digest 125 = .ok (.lmul, 1) := bX4_digest_119.2.2.2.1
theorem dX4_digest_126 : decode cX4_digest 126 = .ok (.iload 8, 2) := bX4_digest_119.2.2.2.2.1
theorem dX4_digest_128 : decode cX4_digest 128 = .ok (.i2l, 1) := bX4_digest_119.2.2.2.2.2.1
theorem dX4_digest_129 : decode cX4_digest 129 = .ok (.ladd, 1) := bX4_digest_119.2.2.2.2.2.2.1
theorem dX4_digest_130 : decode cX4_digest 130 = .ok (.lstore_n 1, 1) := bX4_digest_119.2.2.2.2.2.2.2.1
theorem dX4_digest_131 : decode cX4_digest 131 = .ok (.iinc 7 1, 3) := bX4_digest_119.2.2.2.2.2.2.2.2.1
theorem dX4_digest_134 : decode cX4_digest 134 = .ok (.goto (-27), 3) := bX4_digest_119.2.2.2.2.2.2.2.2.2.1
theorem dX4_digest_137 : decode cX4_digest 137 = .ok (.iinc 3 1, 3) := bX4_digest_119.2.2.2.2.2.2.2.2.2.2.1
theorem dX4_digest_140 : decode cX4_digest 140 = .ok (.goto (-134), 3) := bX4_digest_119.2.2.2.2.2.2.2.2.2.2.2.1
theorem dX4_digest_143 : decode cX4_digest 143 = .ok (.iconst 0, 1) := bX4_digest_119.2.2.2.2.2.2.2.2.2.2.2.2.1
theorem dX4_digest_144 : decode cX4_digest 144 = .ok (.istore_n 3, 1) := bX4_digest_119.2.2.2.2.2.2.2.2.2.2.2.2.2.1
theorem dX4_digest_145 : decode cX4_digest 145 = .ok (.iload_n 3, 1) := bX4_digest_119.2.2.2.2.2.2.2.2.2.2.2.2.2.2.1
theorem dX4_digest_146 : decode cX4_digest 146 = .ok (.bipush 6, 2) := bX4_digest_119.2.2.2.2.2.2.2.2.2.2.2.2.2.2.2
set_option maxRecDepth 100000 in
theorem bX4_digest_148 : (decode cX4_digest 148 = .ok (.if_icmp .ge 22, 3)) ∧ (decode cX4_digest 151 = .ok (.lload_n 1, 1)) ∧ (decode cX4_digest 152 = .ok (.ldc2_w 175, 3)) ∧ (decode cX4_digest 155 = .ok (.lmul, 1)) ∧ (decode cX4_digest 156 = .ok (.aload_n 0, 1)) ∧ (decode cX4_digest 157 = .ok (.iload_n 3, 1)) ∧ (decode cX4_digest 158 = .ok (.invokevirtual 177, 3)) ∧ (decode cX4_digest 161 = .ok (.i2l, 1)) ∧ (decode cX4_digest 162 = .ok (.ladd, 1)) ∧ (decode cX4_digest 163 = .ok (.lstore_n 1, 1)) ∧ (decode cX4_digest 164 = .ok (.iinc 3 1, 3)) ∧ (decode cX4_digest 167 = .ok (.goto (-22), 3)) ∧ (decode cX4_digest 170 = .ok (.aload_n 0, 1)) ∧ (decode cX4_digest 171 = .ok (.iconst 0, 1)) ∧ (decode cX4_digest 172 = .ok (.putfield 17, 3)) ∧ (decode cX4_digest 175 = .ok (.lload_n 1, 1)) := by decide +kernel
theorem dX4_digest_148 : decode cX4_digest 148 = .ok (.if_icmp .ge 22, 3) := bX4_digest_148.1
theorem dX4_digest_151 : decode cX4_digest 151 = .ok (.lload_n 1, 1) := bX4_digest_148.2.1
theorem dX4_digest_152 : decode cX4_digest 152 = .ok (.ldc2_w 175, 3) := bX4_digest_148.2.2.1
theorem dX4_digest_155 : decode cX4_digest 155 = .ok (.lmul, 1) := bX4_digest_148.2.2.2.1
theorem dX4_digest_156 : decode cX4_digest 156 = .ok (.aload_n 0, 1) := bX4_digest_148.2.2.2.2.1
theorem dX4_digest_157 : decode cX4_digest 157 = .ok (.iload_n 3, 1) := bX4_digest_148.2.2.2.2.2.1
theorem dX4_digest_158 : decode cX4_digest 158 = .ok (.invokevirtual 177, 3) := bX4_digest_148.2.2.2.2.2.2.1
theorem dX4_digest_161 : decode cX4_digest 161 = .ok (.i2l, 1) := bX4_digest_148.2.2.2.2.2.2.2.1
theorem dX4_digest_162 : decode cX4_digest 162 = .ok (.ladd, 1) := bX4_digest_148.2.2.2.2.2.2.2.2.1
theorem dX4_digest_163 : decode cX4_digest 163 = .ok (.lstore_n 1, 1) := bX4_digest_148.2.2.2.2.2.2.2.2.2.1
theorem dX4_digest_164 : decode cX4_digest 164 = .ok (.iinc 3 1, 3) := bX4_digest_148.2.2.2.2.2.2.2.2.2.2.1
theorem dX4_digest_167 : decode cX4_digest 167 = .ok (.goto (-22), 3) := bX4_digest_148.2.2.2.2.2.2.2.2.2.2.2.1
theorem dX4_digest_170 : decode cX4_digest 170 = .ok (.aload_n 0, 1) := bX4_digest_148.2.2.2.2.2.2.2.2.2.2.2.2.1
theorem dX4_digest_171 : decode cX4_digest 171 = .ok (.iconst 0, 1) := bX4_digest_148.2.2.2.2.2.2.2.2.2.2.2.2.2.1
theorem dX4_digest_172 : decode cX4_digest 172 = .ok (.putfield 17, 3) := bX4_digest_148.2.2.2.2.2.2.2.2.2.2.2.2.2.2.1
theorem dX4_digest_175 : decode cX4_digest 175 = .ok (.lload_n 1, 1) := bX4_digest_148.2.2.2.2.2.2.2.2.2.2.2.2.2.2.2
set_option maxRecDepth 100000 in
theorem bX4_digest_176 : (decode cX4_digest 176 = .ok (.ldc2_w 175, 3)) ∧ (decode cX4_digest 179 = .ok (.lmul, 1)) ∧ (decode cX4_digest 180 = .ok (.lconst 1, 1)) ∧ (decode cX4_digest 181 = .ok (.ladd, 1)) ∧ (decode cX4_digest 182 = .ok (.lreturn, 1)) := by decide +kernel
theorem dX4_digest_176 : decode cX4_digest 176 = .ok (.ldc2_w 175, 3) := bX4_digest_176.1
theorem dX4_digest_179 : decode cX4_digest 179 = .ok (.lmul, 1) := bX4_digest_176.2.1
theorem dX4_digest_180 : decode cX4_digest 180 = .ok (.lconst 1, 1) := bX4_digest_176.2.2.1
theorem dX4_digest_181 : decode cX4_digest 181 = .ok (.ladd, 1) := bX4_digest_176.2.2.2.1
theorem dX4_digest_182 : decode cX4_digest 182 = .ok (.lreturn, 1) := bX4_digest_176.2.2.2.2
