/-! ===== decode rows of the law's helpers ===== -/
set_option maxRecDepth 100000 in
theorem bL_fill_0 : (decode cL_fill 0 = .ok (.aload 6, 2)) ∧ (decode cL_fill 2 = .ok (.aload_n 0, 1)) ∧ (decode cL_fill 3 = .ok (.iload_n 1, 1)) ∧ (decode cL_fill 4 = .ok (.iload_n 2, 1)) ∧ (decode cL_fill 5 = .ok (.iload_n 3, 1)) ∧ (decode cL_fill 6 = .ok (.iload 4, 2)) ∧ (decode cL_fill 8 = .ok (.iload 5, 2)) ∧ (decode cL_fill 10 = .ok (.invokevirtual 7, 3)) ∧ (decode cL_fill 13 = .ok (.i2l, 1)) ∧ (decode cL_fill 14 = .ok (.putfield 13, 3)) ∧ (decode cL_fill 17 = .ok (.goto 11, 3)) ∧ (decode cL_fill 20 = .ok (.astore 7, 2)) ∧ (decode cL_fill 22 = .ok (.iconst 1, 1)) ∧ (decode cL_fill 23 = .ok (.ireturn, 1)) ∧ (decode cL_fill 24 = .ok (.astore 7, 2)) ∧ (decode cL_fill 26 = .ok (.iconst 2, 1)) := by decide +kernel
theorem dL_fill_0 : decode cL_fill 0 = .ok (.aload 6, 2) := bL_fill_0.1
theorem dL_fill_2 : decode cL_fill 2 = .ok (.aload_n 0, 1) := bL_fill_0.2.1
theorem dL_fill_3 : decode cL_fill 3 = .ok (.iload_n 1, 1) := bL_fill_0.2.2.1
theorem dL_fill_4 : decode cL_fill 4 = .ok (.iload_n 2, 1) := bL_fill_0.2.2.2.1
theorem dL_fill_5 : decode cL_fill 5 = .ok (.iload_n 3, 1) := bL_fill_0.2.2.2.2.1
theorem dL_fill_6 : decode cL_fill 6 = .ok (.iload 4, 2) := bL_fill_0.2.2.2.2.2.1
theorem dL_fill_8 : decode cL_fill 8 = .ok (.iload 5, 2) := bL_fill_0.2.2.2.2.2.2.1
theorem dL_fill_10 : decode cL_fill 10 = .ok (.invokevirtual 7, 3) := bL_fill_0.2.2.2.2.2.2.2.1
theorem dL_fill_13 : decode cL_fill 13 = .ok (.i2l, 1) := bL_fill_0.2.2.2.2.2.2.2.2.1
theorem dL_fill_14 : decode cL_fill 14 = .ok (.putfield 13, 3) := bL_fill_0.2.2.2.2.2.2.2.2.2.1
theorem dL_fill_17 : decode cL_fill 17 = .ok (.goto 11, 3) := bL_fill_0.2.2.2.2.2.2.2.2.2.2.1
theorem dL_fill_20 : decode cL_fill 20 = .ok (.astore 7, 2) := bL_fill_0.2.2.2.2.2.2.2.2.2.2.2.1
theorem dL_fill_22 : decode cL_fill 22 = .ok (.iconst 1, 1) := bL_fill_0.2.2.2.2.2.2.2.2.2.2.2.2.1
theorem dL_fill_23 : decode cL_fill 23 = .ok (.ireturn, 1) := bL_fill_0.2.2.2.2.2.2.2.2.2.2.2.2.2.1
theorem dL_fill_24 : decode cL_fill 24 = .ok (.astore 7, 2) := bL_fill_0.2.2.2.2.2.2.2.2.2.2.2.2.2.2.1
theorem dL_fill_26 : decode cL_fill 26 = .ok (.iconst 2, 1) := bL_fill_0.2.2.2.2.2.2.2.2.2.2.2.2.2.2.2
set_option maxRecDepth 100000 in
theorem bL_fill_27 : (decode cL_fill 27 = .ok (.ireturn, 1)) ∧ (decode cL_fill 28 = .ok (.iconst 0, 1)) ∧ (decode cL_fill 29 = .ok (.ireturn, 1)) := by decide +kernel
theorem dL_fill_27 : decode cL_fill 27 = .ok (.ireturn, 1) := bL_fill_27.1
theorem dL_fill_28 : decode cL_fill 28 = .ok (.iconst 0, 1) := bL_fill_27.2.1
theorem dL_fill_29 : decode cL_fill 29 = .ok (.ireturn, 1) := bL_fill_27.2.2
set_option maxRecDepth 100000 in
theorem bL_add_0 : (decode cL_add 0 = .ok (.aload_n 3, 1)) ∧ (decode cL_add 1 = .ok (.aload_n 0, 1)) ∧ (decode cL_add 2 = .ok (.iload_n 1, 1)) ∧ (decode cL_add 3 = .ok (.iload_n 2, 1)) ∧ (decode cL_add 4 = .ok (.invokevirtual 23, 3)) ∧ (decode cL_add 7 = .ok (.i2l, 1)) ∧ (decode cL_add 8 = .ok (.putfield 13, 3)) ∧ (decode cL_add 11 = .ok (.goto 11, 3)) ∧ (decode cL_add 14 = .ok (.astore 4, 2)) ∧ (decode cL_add 16 = .ok (.iconst 1, 1)) ∧ (decode cL_add 17 = .ok (.ireturn, 1)) ∧ (decode cL_add 18 = .ok (.astore 4, 2)) ∧ (decode cL_add 20 = .ok (.iconst 2, 1)) ∧ (decode cL_add 21 = .ok (.ireturn, 1)) ∧ (decode cL_add 22 = .ok (.iconst 0, 1)) ∧ (decode cL_add 23 = .ok (.ireturn, 1)) := by decide +kernel
theorem dL_add_0 : decode cL_add 0 = .ok (.aload_n 3, 1) := bL_add_0.1
theorem dL_add_1 : decode cL_add 1 = .ok (.aload_n 0, 1) := bL_add_0.2.1
theorem dL_add_2 : decode cL_add 2 = .ok (.iload_n 1, 1) := bL_add_0.2.2.1
theorem dL_add_3 : decode cL_add 3 = .ok (.iload_n 2, 1) := bL_add_0.2.2.2.1
theorem dL_add_4 : decode cL_add 4 = .ok (.invokevirtual 23, 3) := bL_add_0.2.2.2.2.1
theorem dL_add_7 : decode cL_add 7 = .ok (.i2l, 1) := bL_add_0.2.2.2.2.2.1
theorem dL_add_8 : decode cL_add 8 = .ok (.putfield 13, 3) := bL_add_0.2.2.2.2.2.2.1
theorem dL_add_11 : decode cL_add 11 = .ok (.goto 11, 3) := bL_add_0.2.2.2.2.2.2.2.1
theorem dL_add_14 : decode cL_add 14 = .ok (.astore 4, 2) := bL_add_0.2.2.2.2.2.2.2.2.1
theorem dL_add_16 : decode cL_add 16 = .ok (.iconst 1, 1) := bL_add_0.2.2.2.2.2.2.2.2.2.1
theorem dL_add_17 : decode cL_add 17 = .ok (.ireturn, 1) := bL_add_0.2.2.2.2.2.2.2.2.2.2.1
theorem dL_add_18 : decode cL_add 18 = .ok (.astore 4, 2) := bL_add_0.2.2.2.2.2.2.2.2.2.2.2.1
theorem dL_add_20 : decode cL_add 20 = .ok (.iconst 2, 1) := bL_add_0.2.2.2.2.2.2.2.2.2.2.2.2.1
theorem dL_add_21 : decode cL_add 21 = .ok (.ireturn, 1) := bL_add_0.2.2.2.2.2.2.2.2.2.2.2.2.2.1
theorem dL_add_22 : decode cL_add 22 = .ok (.iconst 0, 1) := bL_add_0.2.2.2.2.2.2.2.2.2.2.2.2.2.2.1
theorem dL_add_23 : decode cL_add 23 = .ok (.ireturn, 1) := bL_add_0.2.2.2.2.2.2.2.2.2.2.2.2.2.2.2
set_option maxRecDepth 100000 in
theorem bL_put_0 : (decode cL_put 0 = .ok (.aload 4, 2)) ∧ (decode cL_put 2 = .ok (.aload_n 0, 1)) ∧ (decode cL_put 3 = .ok (.iload_n 1, 1)) ∧ (decode cL_put 4 = .ok (.iload_n 2, 1)) ∧ (decode cL_put 5 = .ok (.iload_n 3, 1)) ∧ (decode cL_put 6 = .ok (.invokevirtual 27, 3)) ∧ (decode cL_put 9 = .ok (.i2l, 1)) ∧ (decode cL_put 10 = .ok (.putfield 13, 3)) ∧ (decode cL_put 13 = .ok (.goto 11, 3)) ∧ (decode cL_put 16 = .ok (.astore 5, 2)) ∧ (decode cL_put 18 = .ok (.iconst 1, 1)) ∧ (decode cL_put 19 = .ok (.ireturn, 1)) ∧ (decode cL_put 20 = .ok (.astore 5, 2)) ∧ (decode cL_put 22 = .ok (.iconst 2, 1)) ∧ (decode cL_put 23 = .ok (.ireturn, 1)) ∧ (decode cL_put 24 = .ok (.iconst 0, 1)) := by decide +kernel
theorem dL_put_0 : decode cL_put 0 = .ok (.aload 4, 2) := bL_put_0.1
theorem dL_put_2 : decode cL_put 2 = .ok (.aload_n 0, 1) := bL_put_0.2.1
theorem dL_put_3 : decode cL_put 3 = .ok (.iload_n 1, 1) := bL_put_0.2.2.1
theorem dL_put_4 : decode cL_put 4 = .ok (.iload_n 2, 1) := bL_put_0.2.2.2.1
theorem dL_put_5 : decode cL_put 5 = .ok (.iload_n 3, 1) := bL_put_0.2.2.2.2.1
theorem dL_put_6 : decode cL_put 6 = .ok (.invokevirtual 27, 3) := bL_put_0.2.2.2.2.2.1
theorem dL_put_9 : decode cL_put 9 = .ok (.i2l, 1) := bL_put_0.2.2.2.2.2.2.1
theorem dL_put_10 : decode cL_put 10 = .ok (.putfield 13, 3) := bL_put_0.2.2.2.2.2.2.2.1
theorem dL_put_13 : decode cL_put 13 = .ok (.goto 11, 3) := bL_put_0.2.2.2.2.2.2.2.2.1
theorem dL_put_16 : decode cL_put 16 = .ok (.astore 5, 2) := bL_put_0.2.2.2.2.2.2.2.2.2.1
theorem dL_put_18 : decode cL_put 18 = .ok (.iconst 1, 1) := bL_put_0.2.2.2.2.2.2.2.2.2.2.1
theorem dL_put_19 : decode cL_put 19 = .ok (.ireturn, 1) := bL_put_0.2.2.2.2.2.2.2.2.2.2.2.1
theorem dL_put_20 : decode cL_put 20 = .ok (.astore 5, 2) := bL_put_0.2.2.2.2.2.2.2.2.2.2.2.2.1
theorem dL_put_22 : decode cL_put 22 = .ok (.iconst 2, 1) := bL_put_0.2.2.2.2.2.2.2.2.2.2.2.2.2.1
theorem dL_put_23 : decode cL_put 23 = .ok (.ireturn, 1) := bL_put_0.2.2.2.2.2.2.2.2.2.2.2.2.2.2.1
theorem dL_put_24 : decode cL_put 24 = .ok (.iconst 0, 1) := bL_put_0.2.2.2.2.2.2.2.2.2.2.2.2.2.2.2
theorem dL_put_25 : decode cL_put 25 = .ok (.ireturn, 1) := by decide +kernel
set_option maxRecDepth 100000 in
theorem bL_drop_0 : (decode cL_drop 0 = .ok (.aload_n 3, 1)) ∧ (decode cL_drop 1 = .ok (.aload_n 0, 1)) ∧ (decode cL_drop 2 = .ok (.iload_n 1, 1)) ∧ (decode cL_drop 3 = .ok (.iload_n 2, 1)) ∧ (decode cL_drop 4 = .ok (.invokevirtual 31, 3)) ∧ (decode cL_drop 7 = .ok (.i2l, 1)) ∧ (decode cL_drop 8 = .ok (.putfield 13, 3)) ∧ (decode cL_drop 11 = .ok (.goto 7, 3)) ∧ (decode cL_drop 14 = .ok (.astore 4, 2)) ∧ (decode cL_drop 16 = .ok (.iconst 1, 1)) ∧ (decode cL_drop 17 = .ok (.ireturn, 1)) ∧ (decode cL_drop 18 = .ok (.iconst 0, 1)) ∧ (decode cL_drop 19 = .ok (.ireturn, 1)) := by decide +kernel
theorem dL_drop_0 : decode cL_drop 0 = .ok (.aload_n 3, 1) := bL_drop_0.1
theorem dL_drop_1 : decode cL_drop 1 = .ok (.aload_n 0, 1) := bL_drop_0.2.1
theorem dL_drop_2 : decode cL_drop 2 = .ok (.iload_n 1, 1) := bL_drop_0.2.2.1
theorem dL_drop_3 : decode cL_drop 3 = .ok (.iload_n 2, 1) := bL_drop_0.2.2.2.1
theorem dL_drop_4 : decode cL_drop 4 = .ok (.invokevirtual 31, 3) := bL_drop_0.2.2.2.2.1
theorem dL_drop_7 : decode cL_drop 7 = .ok (.i2l, 1) := bL_drop_0.2.2.2.2.2.1
theorem dL_drop_8 : decode cL_drop 8 = .ok (.putfield 13, 3) := bL_drop_0.2.2.2.2.2.2.1
theorem dL_drop_11 : decode cL_drop 11 = .ok (.goto 7, 3) := bL_drop_0.2.2.2.2.2.2.2.1
theorem dL_drop_14 : decode cL_drop 14 = .ok (.astore 4, 2) := bL_drop_0.2.2.2.2.2.2.2.2.1
theorem dL_drop_16 : decode cL_drop 16 = .ok (.iconst 1, 1) := bL_drop_0.2.2.2.2.2.2.2.2.2.1
theorem dL_drop_17 : decode cL_drop 17 = .ok (.ireturn, 1) := bL_drop_0.2.2.2.2.2.2.2.2.2.2.1
theorem dL_drop_18 : decode cL_drop 18 = .ok (.iconst 0, 1) := bL_drop_0.2.2.2.2.2.2.2.2.2.2.2.1
theorem dL_drop_19 : decode cL_drop 19 = .ok (.ireturn, 1) := bL_drop_0.2.2.2.2.2.2.2.2.2.2.2.2
set_option maxRecDepth 100000 in
theorem bL_clear_0 : (decode cL_clear 0 = .ok (.aload_n 2, 1)) ∧ (decode cL_clear 1 = .ok (.aload_n 0, 1)) ∧ (decode cL_clear 2 = .ok (.iload_n 1, 1)) ∧ (decode cL_clear 3 = .ok (.invokevirtual 34, 3)) ∧ (decode cL_clear 6 = .ok (.i2l, 1)) ∧ (decode cL_clear 7 = .ok (.putfield 13, 3)) ∧ (decode cL_clear 10 = .ok (.goto 6, 3)) ∧ (decode cL_clear 13 = .ok (.astore_n 3, 1)) ∧ (decode cL_clear 14 = .ok (.iconst 1, 1)) ∧ (decode cL_clear 15 = .ok (.ireturn, 1)) ∧ (decode cL_clear 16 = .ok (.iconst 0, 1)) ∧ (decode cL_clear 17 = .ok (.ireturn, 1)) := by decide +kernel
theorem dL_clear_0 : decode cL_clear 0 = .ok (.aload_n 2, 1) := bL_clear_0.1
theorem dL_clear_1 : decode cL_clear 1 = .ok (.aload_n 0, 1) := bL_clear_0.2.1
theorem dL_clear_2 : decode cL_clear 2 = .ok (.iload_n 1, 1) := bL_clear_0.2.2.1
theorem dL_clear_3 : decode cL_clear 3 = .ok (.invokevirtual 34, 3) := bL_clear_0.2.2.2.1
theorem dL_clear_6 : decode cL_clear 6 = .ok (.i2l, 1) := bL_clear_0.2.2.2.2.1
theorem dL_clear_7 : decode cL_clear 7 = .ok (.putfield 13, 3) := bL_clear_0.2.2.2.2.2.1
theorem dL_clear_10 : decode cL_clear 10 = .ok (.goto 6, 3) := bL_clear_0.2.2.2.2.2.2.1
theorem dL_clear_13 : decode cL_clear 13 = .ok (.astore_n 3, 1) := bL_clear_0.2.2.2.2.2.2.2.1
theorem dL_clear_14 : decode cL_clear 14 = .ok (.iconst 1, 1) := bL_clear_0.2.2.2.2.2.2.2.2.1
theorem dL_clear_15 : decode cL_clear 15 = .ok (.ireturn, 1) := bL_clear_0.2.2.2.2.2.2.2.2.2.1
theorem dL_clear_16 : decode cL_clear 16 = .ok (.iconst 0, 1) := bL_clear_0.2.2.2.2.2.2.2.2.2.2.1
theorem dL_clear_17 : decode cL_clear 17 = .ok (.ireturn, 1) := bL_clear_0.2.2.2.2.2.2.2.2.2.2.2
set_option maxRecDepth 100000 in
theorem bL_exchange_0 : (decode cL_exchange 0 = .ok (.aload_n 3, 1)) ∧ (decode cL_exchange 1 = .ok (.aload_n 0, 1)) ∧ (decode cL_exchange 2 = .ok (.iload_n 1, 1)) ∧ (decode cL_exchange 3 = .ok (.iload_n 2, 1)) ∧ (decode cL_exchange 4 = .ok (.invokevirtual 38, 3)) ∧ (decode cL_exchange 7 = .ok (.i2l, 1)) ∧ (decode cL_exchange 8 = .ok (.putfield 13, 3)) ∧ (decode cL_exchange 11 = .ok (.goto 7, 3)) ∧ (decode cL_exchange 14 = .ok (.astore 4, 2)) ∧ (decode cL_exchange 16 = .ok (.iconst 1, 1)) ∧ (decode cL_exchange 17 = .ok (.ireturn, 1)) ∧ (decode cL_exchange 18 = .ok (.iconst 0, 1)) ∧ (decode cL_exchange 19 = .ok (.ireturn, 1)) := by decide +kernel
theorem dL_exchange_0 : decode cL_exchange 0 = .ok (.aload_n 3, 1) := bL_exchange_0.1
theorem dL_exchange_1 : decode cL_exchange 1 = .ok (.aload_n 0, 1) := bL_exchange_0.2.1
theorem dL_exchange_2 : decode cL_exchange 2 = .ok (.iload_n 1, 1) := bL_exchange_0.2.2.1
theorem dL_exchange_3 : decode cL_exchange 3 = .ok (.iload_n 2, 1) := bL_exchange_0.2.2.2.1
theorem dL_exchange_4 : decode cL_exchange 4 = .ok (.invokevirtual 38, 3) := bL_exchange_0.2.2.2.2.1
theorem dL_exchange_7 : decode cL_exchange 7 = .ok (.i2l, 1) := bL_exchange_0.2.2.2.2.2.1
theorem dL_exchange_8 : decode cL_exchange 8 = .ok (.putfield 13, 3) := bL_exchange_0.2.2.2.2.2.2.1
theorem dL_exchange_11 : decode cL_exchange 11 = .ok (.goto 7, 3) := bL_exchange_0.2.2.2.2.2.2.2.1
theorem dL_exchange_14 : decode cL_exchange 14 = .ok (.astore 4, 2) := bL_exchange_0.2.2.2.2.2.2.2.2.1
theorem dL_exchange_16 : decode cL_exchange 16 = .ok (.iconst 1, 1) := bL_exchange_0.2.2.2.2.2.2.2.2.2.1
theorem dL_exchange_17 : decode cL_exchange 17 = .ok (.ireturn, 1) := bL_exchange_0.2.2.2.2.2.2.2.2.2.2.1
theorem dL_exchange_18 : decode cL_exchange 18 = .ok (.iconst 0, 1) := bL_exchange_0.2.2.2.2.2.2.2.2.2.2.2.1
theorem dL_exchange_19 : decode cL_exchange 19 = .ok (.ireturn, 1) := bL_exchange_0.2.2.2.2.2.2.2.2.2.2.2.2
set_option maxRecDepth 100000 in
theorem bL_swap_0 : (decode cL_swap 0 = .ok (.aload 4, 2)) ∧ (decode cL_swap 2 = .ok (.aload_n 0, 1)) ∧ (decode cL_swap 3 = .ok (.iload_n 1, 1)) ∧ (decode cL_swap 4 = .ok (.iload_n 2, 1)) ∧ (decode cL_swap 5 = .ok (.iload_n 3, 1)) ∧ (decode cL_swap 6 = .ok (.invokevirtual 41, 3)) ∧ (decode cL_swap 9 = .ok (.i2l, 1)) ∧ (decode cL_swap 10 = .ok (.putfield 13, 3)) ∧ (decode cL_swap 13 = .ok (.goto 7, 3)) ∧ (decode cL_swap 16 = .ok (.astore 5, 2)) ∧ (decode cL_swap 18 = .ok (.iconst 1, 1)) ∧ (decode cL_swap 19 = .ok (.ireturn, 1)) ∧ (decode cL_swap 20 = .ok (.iconst 0, 1)) ∧ (decode cL_swap 21 = .ok (.ireturn, 1)) := by decide +kernel
theorem dL_swap_0 : decode cL_swap 0 = .ok (.aload 4, 2) := bL_swap_0.1
theorem dL_swap_2 : decode cL_swap 2 = .ok (.aload_n 0, 1) := bL_swap_0.2.1
theorem dL_swap_3 : decode cL_swap 3 = .ok (.iload_n 1, 1) := bL_swap_0.2.2.1
theorem dL_swap_4 : decode cL_swap 4 = .ok (.iload_n 2, 1) := bL_swap_0.2.2.2.1
theorem dL_swap_5 : decode cL_swap 5 = .ok (.iload_n 3, 1) := bL_swap_0.2.2.2.2.1
theorem dL_swap_6 : decode cL_swap 6 = .ok (.invokevirtual 41, 3) := bL_swap_0.2.2.2.2.2.1
theorem dL_swap_9 : decode cL_swap 9 = .ok (.i2l, 1) := bL_swap_0.2.2.2.2.2.2.1
theorem dL_swap_10 : decode cL_swap 10 = .ok (.putfield 13, 3) := bL_swap_0.2.2.2.2.2.2.2.1
theorem dL_swap_13 : decode cL_swap 13 = .ok (.goto 7, 3) := bL_swap_0.2.2.2.2.2.2.2.2.1
theorem dL_swap_16 : decode cL_swap 16 = .ok (.astore 5, 2) := bL_swap_0.2.2.2.2.2.2.2.2.2.1
theorem dL_swap_18 : decode cL_swap 18 = .ok (.iconst 1, 1) := bL_swap_0.2.2.2.2.2.2.2.2.2.2.1
theorem dL_swap_19 : decode cL_swap 19 = .ok (.ireturn, 1) := bL_swap_0.2.2.2.2.2.2.2.2.2.2.2.1
theorem dL_swap_20 : decode cL_swap 20 = .ok (.iconst 0, 1) := bL_swap_0.2.2.2.2.2.2.2.2.2.2.2.2.1
theorem dL_swap_21 : decode cL_swap 21 = .ok (.ireturn, 1) := bL_swap_0.2.2.2.2.2.2.2.2.2.2.2.2.2
set_option maxRecDepth 100000 in
theorem bL_turn_0 : (decode cL_turn 0 = .ok (.aload_n 2, 1)) ∧ (decode cL_turn 1 = .ok (.aload_n 0, 1)) ∧ (decode cL_turn 2 = .ok (.iload_n 1, 1)) ∧ (decode cL_turn 3 = .ok (.invokevirtual 44, 3)) ∧ (decode cL_turn 6 = .ok (.i2l, 1)) ∧ (decode cL_turn 7 = .ok (.putfield 13, 3)) ∧ (decode cL_turn 10 = .ok (.goto 6, 3)) ∧ (decode cL_turn 13 = .ok (.astore_n 3, 1)) ∧ (decode cL_turn 14 = .ok (.iconst 1, 1)) ∧ (decode cL_turn 15 = .ok (.ireturn, 1)) ∧ (decode cL_turn 16 = .ok (.iconst 0, 1)) ∧ (decode cL_turn 17 = .ok (.ireturn, 1)) := by decide +kernel
theorem dL_turn_0 : decode cL_turn 0 = .ok (.aload_n 2, 1) := bL_turn_0.1
theorem dL_turn_1 : decode cL_turn 1 = .ok (.aload_n 0, 1) := bL_turn_0.2.1
theorem dL_turn_2 : decode cL_turn 2 = .ok (.iload_n 1, 1) := bL_turn_0.2.2.1
theorem dL_turn_3 : decode cL_turn 3 = .ok (.invokevirtual 44, 3) := bL_turn_0.2.2.2.1
theorem dL_turn_6 : decode cL_turn 6 = .ok (.i2l, 1) := bL_turn_0.2.2.2.2.1
theorem dL_turn_7 : decode cL_turn 7 = .ok (.putfield 13, 3) := bL_turn_0.2.2.2.2.2.1
theorem dL_turn_10 : decode cL_turn 10 = .ok (.goto 6, 3) := bL_turn_0.2.2.2.2.2.2.1
theorem dL_turn_13 : decode cL_turn 13 = .ok (.astore_n 3, 1) := bL_turn_0.2.2.2.2.2.2.2.1
theorem dL_turn_14 : decode cL_turn 14 = .ok (.iconst 1, 1) := bL_turn_0.2.2.2.2.2.2.2.2.1
theorem dL_turn_15 : decode cL_turn 15 = .ok (.ireturn, 1) := bL_turn_0.2.2.2.2.2.2.2.2.2.1
theorem dL_turn_16 : decode cL_turn 16 = .ok (.iconst 0, 1) := bL_turn_0.2.2.2.2.2.2.2.2.2.2.1
theorem dL_turn_17 : decode cL_turn 17 = .ok (.ireturn, 1) := bL_turn_0.2.2.2.2.2.2.2.2.2.2.2
set_option maxRecDepth 100000 in
theorem bL_roll_0 : (decode cL_roll 0 = .ok (.aload_n 3, 1)) ∧ (decode cL_roll 1 = .ok (.aload_n 0, 1)) ∧ (decode cL_roll 2 = .ok (.iload_n 1, 1)) ∧ (decode cL_roll 3 = .ok (.iload_n 2, 1)) ∧ (decode cL_roll 4 = .ok (.invokevirtual 47, 3)) ∧ (decode cL_roll 7 = .ok (.i2l, 1)) ∧ (decode cL_roll 8 = .ok (.putfield 13, 3)) ∧ (decode cL_roll 11 = .ok (.goto 11, 3)) ∧ (decode cL_roll 14 = .ok (.astore 4, 2)) ∧ (decode cL_roll 16 = .ok (.iconst 1, 1)) ∧ (decode cL_roll 17 = .ok (.ireturn, 1)) ∧ (decode cL_roll 18 = .ok (.astore 4, 2)) ∧ (decode cL_roll 20 = .ok (.iconst 2, 1)) ∧ (decode cL_roll 21 = .ok (.ireturn, 1)) ∧ (decode cL_roll 22 = .ok (.iconst 0, 1)) ∧ (decode cL_roll 23 = .ok (.ireturn, 1)) := by decide +kernel
theorem dL_roll_0 : decode cL_roll 0 = .ok (.aload_n 3, 1) := bL_roll_0.1
theorem dL_roll_1 : decode cL_roll 1 = .ok (.aload_n 0, 1) := bL_roll_0.2.1
theorem dL_roll_2 : decode cL_roll 2 = .ok (.iload_n 1, 1) := bL_roll_0.2.2.1
theorem dL_roll_3 : decode cL_roll 3 = .ok (.iload_n 2, 1) := bL_roll_0.2.2.2.1
theorem dL_roll_4 : decode cL_roll 4 = .ok (.invokevirtual 47, 3) := bL_roll_0.2.2.2.2.1
theorem dL_roll_7 : decode cL_roll 7 = .ok (.i2l, 1) := bL_roll_0.2.2.2.2.2.1
theorem dL_roll_8 : decode cL_roll 8 = .ok (.putfield 13, 3) := bL_roll_0.2.2.2.2.2.2.1
theorem dL_roll_11 : decode cL_roll 11 = .ok (.goto 11, 3) := bL_roll_0.2.2.2.2.2.2.2.1
theorem dL_roll_14 : decode cL_roll 14 = .ok (.astore 4, 2) := bL_roll_0.2.2.2.2.2.2.2.2.1
theorem dL_roll_16 : decode cL_roll 16 = .ok (.iconst 1, 1) := bL_roll_0.2.2.2.2.2.2.2.2.2.1
theorem dL_roll_17 : decode cL_roll 17 = .ok (.ireturn, 1) := bL_roll_0.2.2.2.2.2.2.2.2.2.2.1
theorem dL_roll_18 : decode cL_roll 18 = .ok (.astore 4, 2) := bL_roll_0.2.2.2.2.2.2.2.2.2.2.2.1
theorem dL_roll_20 : decode cL_roll 20 = .ok (.iconst 2, 1) := bL_roll_0.2.2.2.2.2.2.2.2.2.2.2.2.1
theorem dL_roll_21 : decode cL_roll 21 = .ok (.ireturn, 1) := bL_roll_0.2.2.2.2.2.2.2.2.2.2.2.2.2.1
theorem dL_roll_22 : decode cL_roll 22 = .ok (.iconst 0, 1) := bL_roll_0.2.2.2.2.2.2.2.2.2.2.2.2.2.2.1
theorem dL_roll_23 : decode cL_roll 23 = .ok (.ireturn, 1) := bL_roll_0.2.2.2.2.2.2.2.2.2.2.2.2.2.2.2
set_option maxRecDepth 100000 in
theorem bL_keep_0 : (decode cL_keep 0 = .ok (.aload 4, 2)) ∧ (decode cL_keep 2 = .ok (.aload_n 0, 1)) ∧ (decode cL_keep 3 = .ok (.iload_n 1, 1)) ∧ (decode cL_keep 4 = .ok (.iload_n 2, 1)) ∧ (decode cL_keep 5 = .ok (.iload_n 3, 1)) ∧ (decode cL_keep 6 = .ok (.invokevirtual 50, 3)) ∧ (decode cL_keep 9 = .ok (.i2l, 1)) ∧ (decode cL_keep 10 = .ok (.putfield 13, 3)) ∧ (decode cL_keep 13 = .ok (.goto 7, 3)) ∧ (decode cL_keep 16 = .ok (.astore 5, 2)) ∧ (decode cL_keep 18 = .ok (.iconst 1, 1)) ∧ (decode cL_keep 19 = .ok (.ireturn, 1)) ∧ (decode cL_keep 20 = .ok (.iconst 0, 1)) ∧ (decode cL_keep 21 = .ok (.ireturn, 1)) := by decide +kernel
theorem dL_keep_0 : decode cL_keep 0 = .ok (.aload 4, 2) := bL_keep_0.1
theorem dL_keep_2 : decode cL_keep 2 = .ok (.aload_n 0, 1) := bL_keep_0.2.1
theorem dL_keep_3 : decode cL_keep 3 = .ok (.iload_n 1, 1) := bL_keep_0.2.2.1
theorem dL_keep_4 : decode cL_keep 4 = .ok (.iload_n 2, 1) := bL_keep_0.2.2.2.1
theorem dL_keep_5 : decode cL_keep 5 = .ok (.iload_n 3, 1) := bL_keep_0.2.2.2.2.1
theorem dL_keep_6 : decode cL_keep 6 = .ok (.invokevirtual 50, 3) := bL_keep_0.2.2.2.2.2.1
theorem dL_keep_9 : decode cL_keep 9 = .ok (.i2l, 1) := bL_keep_0.2.2.2.2.2.2.1
theorem dL_keep_10 : decode cL_keep 10 = .ok (.putfield 13, 3) := bL_keep_0.2.2.2.2.2.2.2.1
theorem dL_keep_13 : decode cL_keep 13 = .ok (.goto 7, 3) := bL_keep_0.2.2.2.2.2.2.2.2.1
theorem dL_keep_16 : decode cL_keep 16 = .ok (.astore 5, 2) := bL_keep_0.2.2.2.2.2.2.2.2.2.1
theorem dL_keep_18 : decode cL_keep 18 = .ok (.iconst 1, 1) := bL_keep_0.2.2.2.2.2.2.2.2.2.2.1
theorem dL_keep_19 : decode cL_keep 19 = .ok (.ireturn, 1) := bL_keep_0.2.2.2.2.2.2.2.2.2.2.2.1
theorem dL_keep_20 : decode cL_keep 20 = .ok (.iconst 0, 1) := bL_keep_0.2.2.2.2.2.2.2.2.2.2.2.2.1
theorem dL_keep_21 : decode cL_keep 21 = .ok (.ireturn, 1) := bL_keep_0.2.2.2.2.2.2.2.2.2.2.2.2.2
set_option maxRecDepth 100000 in
theorem bL_sort_0 : (decode cL_sort 0 = .ok (.aload_n 2, 1)) ∧ (decode cL_sort 1 = .ok (.aload_n 0, 1)) ∧ (decode cL_sort 2 = .ok (.iload_n 1, 1)) ∧ (decode cL_sort 3 = .ok (.invokevirtual 53, 3)) ∧ (decode cL_sort 6 = .ok (.i2l, 1)) ∧ (decode cL_sort 7 = .ok (.putfield 13, 3)) ∧ (decode cL_sort 10 = .ok (.goto 6, 3)) ∧ (decode cL_sort 13 = .ok (.astore_n 3, 1)) ∧ (decode cL_sort 14 = .ok (.iconst 1, 1)) ∧ (decode cL_sort 15 = .ok (.ireturn, 1)) ∧ (decode cL_sort 16 = .ok (.iconst 0, 1)) ∧ (decode cL_sort 17 = .ok (.ireturn, 1)) := by decide +kernel
theorem dL_sort_0 : decode cL_sort 0 = .ok (.aload_n 2, 1) := bL_sort_0.1
theorem dL_sort_1 : decode cL_sort 1 = .ok (.aload_n 0, 1) := bL_sort_0.2.1
theorem dL_sort_2 : decode cL_sort 2 = .ok (.iload_n 1, 1) := bL_sort_0.2.2.1
theorem dL_sort_3 : decode cL_sort 3 = .ok (.invokevirtual 53, 3) := bL_sort_0.2.2.2.1
theorem dL_sort_6 : decode cL_sort 6 = .ok (.i2l, 1) := bL_sort_0.2.2.2.2.1
theorem dL_sort_7 : decode cL_sort 7 = .ok (.putfield 13, 3) := bL_sort_0.2.2.2.2.2.1
theorem dL_sort_10 : decode cL_sort 10 = .ok (.goto 6, 3) := bL_sort_0.2.2.2.2.2.2.1
theorem dL_sort_13 : decode cL_sort 13 = .ok (.astore_n 3, 1) := bL_sort_0.2.2.2.2.2.2.2.1
theorem dL_sort_14 : decode cL_sort 14 = .ok (.iconst 1, 1) := bL_sort_0.2.2.2.2.2.2.2.2.1
theorem dL_sort_15 : decode cL_sort 15 = .ok (.ireturn, 1) := bL_sort_0.2.2.2.2.2.2.2.2.2.1
theorem dL_sort_16 : decode cL_sort 16 = .ok (.iconst 0, 1) := bL_sort_0.2.2.2.2.2.2.2.2.2.2.1
theorem dL_sort_17 : decode cL_sort 17 = .ok (.ireturn, 1) := bL_sort_0.2.2.2.2.2.2.2.2.2.2.2
set_option maxRecDepth 100000 in
theorem bL_copy_0 : (decode cL_copy 0 = .ok (.aload_n 3, 1)) ∧ (decode cL_copy 1 = .ok (.aload_n 0, 1)) ∧ (decode cL_copy 2 = .ok (.iload_n 1, 1)) ∧ (decode cL_copy 3 = .ok (.iload_n 2, 1)) ∧ (decode cL_copy 4 = .ok (.invokevirtual 56, 3)) ∧ (decode cL_copy 7 = .ok (.i2l, 1)) ∧ (decode cL_copy 8 = .ok (.putfield 13, 3)) ∧ (decode cL_copy 11 = .ok (.goto 7, 3)) ∧ (decode cL_copy 14 = .ok (.astore 4, 2)) ∧ (decode cL_copy 16 = .ok (.iconst 1, 1)) ∧ (decode cL_copy 17 = .ok (.ireturn, 1)) ∧ (decode cL_copy 18 = .ok (.iconst 0, 1)) ∧ (decode cL_copy 19 = .ok (.ireturn, 1)) := by decide +kernel
theorem dL_copy_0 : decode cL_copy 0 = .ok (.aload_n 3, 1) := bL_copy_0.1
theorem dL_copy_1 : decode cL_copy 1 = .ok (.aload_n 0, 1) := bL_copy_0.2.1
theorem dL_copy_2 : decode cL_copy 2 = .ok (.iload_n 1, 1) := bL_copy_0.2.2.1
theorem dL_copy_3 : decode cL_copy 3 = .ok (.iload_n 2, 1) := bL_copy_0.2.2.2.1
theorem dL_copy_4 : decode cL_copy 4 = .ok (.invokevirtual 56, 3) := bL_copy_0.2.2.2.2.1
theorem dL_copy_7 : decode cL_copy 7 = .ok (.i2l, 1) := bL_copy_0.2.2.2.2.2.1
theorem dL_copy_8 : decode cL_copy 8 = .ok (.putfield 13, 3) := bL_copy_0.2.2.2.2.2.2.1
theorem dL_copy_11 : decode cL_copy 11 = .ok (.goto 7, 3) := bL_copy_0.2.2.2.2.2.2.2.1
theorem dL_copy_14 : decode cL_copy 14 = .ok (.astore 4, 2) := bL_copy_0.2.2.2.2.2.2.2.2.1
theorem dL_copy_16 : decode cL_copy 16 = .ok (.iconst 1, 1) := bL_copy_0.2.2.2.2.2.2.2.2.2.1
theorem dL_copy_17 : decode cL_copy 17 = .ok (.ireturn, 1) := bL_copy_0.2.2.2.2.2.2.2.2.2.2.1
theorem dL_copy_18 : decode cL_copy 18 = .ok (.iconst 0, 1) := bL_copy_0.2.2.2.2.2.2.2.2.2.2.2.1
theorem dL_copy_19 : decode cL_copy 19 = .ok (.ireturn, 1) := bL_copy_0.2.2.2.2.2.2.2.2.2.2.2.2
set_option maxRecDepth 100000 in
theorem bL_join_0 : (decode cL_join 0 = .ok (.aload_n 3, 1)) ∧ (decode cL_join 1 = .ok (.aload_n 0, 1)) ∧ (decode cL_join 2 = .ok (.iload_n 1, 1)) ∧ (decode cL_join 3 = .ok (.iload_n 2, 1)) ∧ (decode cL_join 4 = .ok (.invokevirtual 59, 3)) ∧ (decode cL_join 7 = .ok (.i2l, 1)) ∧ (decode cL_join 8 = .ok (.putfield 13, 3)) ∧ (decode cL_join 11 = .ok (.goto 7, 3)) ∧ (decode cL_join 14 = .ok (.astore 4, 2)) ∧ (decode cL_join 16 = .ok (.iconst 1, 1)) ∧ (decode cL_join 17 = .ok (.ireturn, 1)) ∧ (decode cL_join 18 = .ok (.iconst 0, 1)) ∧ (decode cL_join 19 = .ok (.ireturn, 1)) := by decide +kernel
theorem dL_join_0 : decode cL_join 0 = .ok (.aload_n 3, 1) := bL_join_0.1
theorem dL_join_1 : decode cL_join 1 = .ok (.aload_n 0, 1) := bL_join_0.2.1
theorem dL_join_2 : decode cL_join 2 = .ok (.iload_n 1, 1) := bL_join_0.2.2.1
theorem dL_join_3 : decode cL_join 3 = .ok (.iload_n 2, 1) := bL_join_0.2.2.2.1
theorem dL_join_4 : decode cL_join 4 = .ok (.invokevirtual 59, 3) := bL_join_0.2.2.2.2.1
theorem dL_join_7 : decode cL_join 7 = .ok (.i2l, 1) := bL_join_0.2.2.2.2.2.1
theorem dL_join_8 : decode cL_join 8 = .ok (.putfield 13, 3) := bL_join_0.2.2.2.2.2.2.1
theorem dL_join_11 : decode cL_join 11 = .ok (.goto 7, 3) := bL_join_0.2.2.2.2.2.2.2.1
theorem dL_join_14 : decode cL_join 14 = .ok (.astore 4, 2) := bL_join_0.2.2.2.2.2.2.2.2.1
theorem dL_join_16 : decode cL_join 16 = .ok (.iconst 1, 1) := bL_join_0.2.2.2.2.2.2.2.2.2.1
theorem dL_join_17 : decode cL_join 17 = .ok (.ireturn, 1) := bL_join_0.2.2.2.2.2.2.2.2.2.2.1
theorem dL_join_18 : decode cL_join 18 = .ok (.iconst 0, 1) := bL_join_0.2.2.2.2.2.2.2.2.2.2.2.1
theorem dL_join_19 : decode cL_join 19 = .ok (.ireturn, 1) := bL_join_0.2.2.2.2.2.2.2.2.2.2.2.2
set_option maxRecDepth 100000 in
theorem bL_merge_0 : (decode cL_merge 0 = .ok (.aload_n 3, 1)) ∧ (decode cL_merge 1 = .ok (.aload_n 0, 1)) ∧ (decode cL_merge 2 = .ok (.iload_n 1, 1)) ∧ (decode cL_merge 3 = .ok (.iload_n 2, 1)) ∧ (decode cL_merge 4 = .ok (.invokevirtual 62, 3)) ∧ (decode cL_merge 7 = .ok (.i2l, 1)) ∧ (decode cL_merge 8 = .ok (.putfield 13, 3)) ∧ (decode cL_merge 11 = .ok (.goto 7, 3)) ∧ (decode cL_merge 14 = .ok (.astore 4, 2)) ∧ (decode cL_merge 16 = .ok (.iconst 1, 1)) ∧ (decode cL_merge 17 = .ok (.ireturn, 1)) ∧ (decode cL_merge 18 = .ok (.iconst 0, 1)) ∧ (decode cL_merge 19 = .ok (.ireturn, 1)) := by decide +kernel
theorem dL_merge_0 : decode cL_merge 0 = .ok (.aload_n 3, 1) := bL_merge_0.1
theorem dL_merge_1 : decode cL_merge 1 = .ok (.aload_n 0, 1) := bL_merge_0.2.1
theorem dL_merge_2 : decode cL_merge 2 = .ok (.iload_n 1, 1) := bL_merge_0.2.2.1
theorem dL_merge_3 : decode cL_merge 3 = .ok (.iload_n 2, 1) := bL_merge_0.2.2.2.1
theorem dL_merge_4 : decode cL_merge 4 = .ok (.invokevirtual 62, 3) := bL_merge_0.2.2.2.2.1
theorem dL_merge_7 : decode cL_merge 7 = .ok (.i2l, 1) := bL_merge_0.2.2.2.2.2.1
theorem dL_merge_8 : decode cL_merge 8 = .ok (.putfield 13, 3) := bL_merge_0.2.2.2.2.2.2.1
theorem dL_merge_11 : decode cL_merge 11 = .ok (.goto 7, 3) := bL_merge_0.2.2.2.2.2.2.2.1
theorem dL_merge_14 : decode cL_merge 14 = .ok (.astore 4, 2) := bL_merge_0.2.2.2.2.2.2.2.2.1
theorem dL_merge_16 : decode cL_merge 16 = .ok (.iconst 1, 1) := bL_merge_0.2.2.2.2.2.2.2.2.2.1
theorem dL_merge_17 : decode cL_merge 17 = .ok (.ireturn, 1) := bL_merge_0.2.2.2.2.2.2.2.2.2.2.1
theorem dL_merge_18 : decode cL_merge 18 = .ok (.iconst 0, 1) := bL_merge_0.2.2.2.2.2.2.2.2.2.2.2.1
theorem dL_merge_19 : decode cL_merge 19 = .ok (.ireturn, 1) := bL_merge_0.2.2.2.2.2.2.2.2.2.2.2.2
set_option maxRecDepth 100000 in
theorem bL_many_0 : (decode cL_many 0 = .ok (.aload_n 2, 1)) ∧ (decode cL_many 1 = .ok (.aload_n 0, 1)) ∧ (decode cL_many 2 = .ok (.iload_n 1, 1)) ∧ (decode cL_many 3 = .ok (.invokevirtual 65, 3)) ∧ (decode cL_many 6 = .ok (.i2l, 1)) ∧ (decode cL_many 7 = .ok (.putfield 13, 3)) ∧ (decode cL_many 10 = .ok (.goto 6, 3)) ∧ (decode cL_many 13 = .ok (.astore_n 3, 1)) ∧ (decode cL_many 14 = .ok (.iconst 1, 1)) ∧ (decode cL_many 15 = .ok (.ireturn, 1)) ∧ (decode cL_many 16 = .ok (.iconst 0, 1)) ∧ (decode cL_many 17 = .ok (.ireturn, 1)) := by decide +kernel
theorem dL_many_0 : decode cL_many 0 = .ok (.aload_n 2, 1) := bL_many_0.1
theorem dL_many_1 : decode cL_many 1 = .ok (.aload_n 0, 1) := bL_many_0.2.1
theorem dL_many_2 : decode cL_many 2 = .ok (.iload_n 1, 1) := bL_many_0.2.2.1
theorem dL_many_3 : decode cL_many 3 = .ok (.invokevirtual 65, 3) := bL_many_0.2.2.2.1
theorem dL_many_6 : decode cL_many 6 = .ok (.i2l, 1) := bL_many_0.2.2.2.2.1
theorem dL_many_7 : decode cL_many 7 = .ok (.putfield 13, 3) := bL_many_0.2.2.2.2.2.1
theorem dL_many_10 : decode cL_many 10 = .ok (.goto 6, 3) := bL_many_0.2.2.2.2.2.2.1
theorem dL_many_13 : decode cL_many 13 = .ok (.astore_n 3, 1) := bL_many_0.2.2.2.2.2.2.2.1
theorem dL_many_14 : decode cL_many 14 = .ok (.iconst 1, 1) := bL_many_0.2.2.2.2.2.2.2.2.1
theorem dL_many_15 : decode cL_many 15 = .ok (.ireturn, 1) := bL_many_0.2.2.2.2.2.2.2.2.2.1
theorem dL_many_16 : decode cL_many 16 = .ok (.iconst 0, 1) := bL_many_0.2.2.2.2.2.2.2.2.2.2.1
theorem dL_many_17 : decode cL_many 17 = .ok (.ireturn, 1) := bL_many_0.2.2.2.2.2.2.2.2.2.2.2
set_option maxRecDepth 100000 in
theorem bL_key_0 : (decode cL_key 0 = .ok (.aload_n 3, 1)) ∧ (decode cL_key 1 = .ok (.aload_n 0, 1)) ∧ (decode cL_key 2 = .ok (.iload_n 1, 1)) ∧ (decode cL_key 3 = .ok (.iload_n 2, 1)) ∧ (decode cL_key 4 = .ok (.invokevirtual 68, 3)) ∧ (decode cL_key 7 = .ok (.i2l, 1)) ∧ (decode cL_key 8 = .ok (.putfield 13, 3)) ∧ (decode cL_key 11 = .ok (.goto 7, 3)) ∧ (decode cL_key 14 = .ok (.astore 4, 2)) ∧ (decode cL_key 16 = .ok (.iconst 1, 1)) ∧ (decode cL_key 17 = .ok (.ireturn, 1)) ∧ (decode cL_key 18 = .ok (.iconst 0, 1)) ∧ (decode cL_key 19 = .ok (.ireturn, 1)) := by decide +kernel
theorem dL_key_0 : decode cL_key 0 = .ok (.aload_n 3, 1) := bL_key_0.1
theorem dL_key_1 : decode cL_key 1 = .ok (.aload_n 0, 1) := bL_key_0.2.1
theorem dL_key_2 : decode cL_key 2 = .ok (.iload_n 1, 1) := bL_key_0.2.2.1
theorem dL_key_3 : decode cL_key 3 = .ok (.iload_n 2, 1) := bL_key_0.2.2.2.1
theorem dL_key_4 : decode cL_key 4 = .ok (.invokevirtual 68, 3) := bL_key_0.2.2.2.2.1
theorem dL_key_7 : decode cL_key 7 = .ok (.i2l, 1) := bL_key_0.2.2.2.2.2.1
theorem dL_key_8 : decode cL_key 8 = .ok (.putfield 13, 3) := bL_key_0.2.2.2.2.2.2.1
theorem dL_key_11 : decode cL_key 11 = .ok (.goto 7, 3) := bL_key_0.2.2.2.2.2.2.2.1
theorem dL_key_14 : decode cL_key 14 = .ok (.astore 4, 2) := bL_key_0.2.2.2.2.2.2.2.2.1
theorem dL_key_16 : decode cL_key 16 = .ok (.iconst 1, 1) := bL_key_0.2.2.2.2.2.2.2.2.2.1
theorem dL_key_17 : decode cL_key 17 = .ok (.ireturn, 1) := bL_key_0.2.2.2.2.2.2.2.2.2.2.1
theorem dL_key_18 : decode cL_key 18 = .ok (.iconst 0, 1) := bL_key_0.2.2.2.2.2.2.2.2.2.2.2.1
theorem dL_key_19 : decode cL_key 19 = .ok (.ireturn, 1) := bL_key_0.2.2.2.2.2.2.2.2.2.2.2.2
set_option maxRecDepth 100000 in
theorem bL_stamp_0 : (decode cL_stamp 0 = .ok (.aload_n 3, 1)) ∧ (decode cL_stamp 1 = .ok (.aload_n 0, 1)) ∧ (decode cL_stamp 2 = .ok (.iload_n 1, 1)) ∧ (decode cL_stamp 3 = .ok (.iload_n 2, 1)) ∧ (decode cL_stamp 4 = .ok (.invokevirtual 71, 3)) ∧ (decode cL_stamp 7 = .ok (.i2l, 1)) ∧ (decode cL_stamp 8 = .ok (.putfield 13, 3)) ∧ (decode cL_stamp 11 = .ok (.goto 7, 3)) ∧ (decode cL_stamp 14 = .ok (.astore 4, 2)) ∧ (decode cL_stamp 16 = .ok (.iconst 1, 1)) ∧ (decode cL_stamp 17 = .ok (.ireturn, 1)) ∧ (decode cL_stamp 18 = .ok (.iconst 0, 1)) ∧ (decode cL_stamp 19 = .ok (.ireturn, 1)) := by decide +kernel
theorem dL_stamp_0 : decode cL_stamp 0 = .ok (.aload_n 3, 1) := bL_stamp_0.1
theorem dL_stamp_1 : decode cL_stamp 1 = .ok (.aload_n 0, 1) := bL_stamp_0.2.1
theorem dL_stamp_2 : decode cL_stamp 2 = .ok (.iload_n 1, 1) := bL_stamp_0.2.2.1
theorem dL_stamp_3 : decode cL_stamp 3 = .ok (.iload_n 2, 1) := bL_stamp_0.2.2.2.1
theorem dL_stamp_4 : decode cL_stamp 4 = .ok (.invokevirtual 71, 3) := bL_stamp_0.2.2.2.2.1
theorem dL_stamp_7 : decode cL_stamp 7 = .ok (.i2l, 1) := bL_stamp_0.2.2.2.2.2.1
theorem dL_stamp_8 : decode cL_stamp 8 = .ok (.putfield 13, 3) := bL_stamp_0.2.2.2.2.2.2.1
theorem dL_stamp_11 : decode cL_stamp 11 = .ok (.goto 7, 3) := bL_stamp_0.2.2.2.2.2.2.2.1
theorem dL_stamp_14 : decode cL_stamp 14 = .ok (.astore 4, 2) := bL_stamp_0.2.2.2.2.2.2.2.2.1
theorem dL_stamp_16 : decode cL_stamp 16 = .ok (.iconst 1, 1) := bL_stamp_0.2.2.2.2.2.2.2.2.2.1
theorem dL_stamp_17 : decode cL_stamp 17 = .ok (.ireturn, 1) := bL_stamp_0.2.2.2.2.2.2.2.2.2.2.1
theorem dL_stamp_18 : decode cL_stamp 18 = .ok (.iconst 0, 1) := bL_stamp_0.2.2.2.2.2.2.2.2.2.2.2.1
theorem dL_stamp_19 : decode cL_stamp 19 = .ok (.ireturn, 1) := bL_stamp_0.2.2.2.2.2.2.2.2.2.2.2.2
set_option maxRecDepth 100000 in
theorem bL_rank_0 : (decode cL_rank 0 = .ok (.aload_n 3, 1)) ∧ (decode cL_rank 1 = .ok (.aload_n 0, 1)) ∧ (decode cL_rank 2 = .ok (.iload_n 1, 1)) ∧ (decode cL_rank 3 = .ok (.iload_n 2, 1)) ∧ (decode cL_rank 4 = .ok (.invokevirtual 74, 3)) ∧ (decode cL_rank 7 = .ok (.i2l, 1)) ∧ (decode cL_rank 8 = .ok (.putfield 13, 3)) ∧ (decode cL_rank 11 = .ok (.goto 7, 3)) ∧ (decode cL_rank 14 = .ok (.astore 4, 2)) ∧ (decode cL_rank 16 = .ok (.iconst 1, 1)) ∧ (decode cL_rank 17 = .ok (.ireturn, 1)) ∧ (decode cL_rank 18 = .ok (.iconst 0, 1)) ∧ (decode cL_rank 19 = .ok (.ireturn, 1)) := by decide +kernel
theorem dL_rank_0 : decode cL_rank 0 = .ok (.aload_n 3, 1) := bL_rank_0.1
theorem dL_rank_1 : decode cL_rank 1 = .ok (.aload_n 0, 1) := bL_rank_0.2.1
theorem dL_rank_2 : decode cL_rank 2 = .ok (.iload_n 1, 1) := bL_rank_0.2.2.1
theorem dL_rank_3 : decode cL_rank 3 = .ok (.iload_n 2, 1) := bL_rank_0.2.2.2.1
theorem dL_rank_4 : decode cL_rank 4 = .ok (.invokevirtual 74, 3) := bL_rank_0.2.2.2.2.1
theorem dL_rank_7 : decode cL_rank 7 = .ok (.i2l, 1) := bL_rank_0.2.2.2.2.2.1
theorem dL_rank_8 : decode cL_rank 8 = .ok (.putfield 13, 3) := bL_rank_0.2.2.2.2.2.2.1
theorem dL_rank_11 : decode cL_rank 11 = .ok (.goto 7, 3) := bL_rank_0.2.2.2.2.2.2.2.1
theorem dL_rank_14 : decode cL_rank 14 = .ok (.astore 4, 2) := bL_rank_0.2.2.2.2.2.2.2.2.1
theorem dL_rank_16 : decode cL_rank 16 = .ok (.iconst 1, 1) := bL_rank_0.2.2.2.2.2.2.2.2.2.1
theorem dL_rank_17 : decode cL_rank 17 = .ok (.ireturn, 1) := bL_rank_0.2.2.2.2.2.2.2.2.2.2.1
theorem dL_rank_18 : decode cL_rank 18 = .ok (.iconst 0, 1) := bL_rank_0.2.2.2.2.2.2.2.2.2.2.2.1
theorem dL_rank_19 : decode cL_rank 19 = .ok (.ireturn, 1) := bL_rank_0.2.2.2.2.2.2.2.2.2.2.2.2
set_option maxRecDepth 100000 in
theorem bL_would_0 : (decode cL_would 0 = .ok (.aload_n 3, 1)) ∧ (decode cL_would 1 = .ok (.aload_n 0, 1)) ∧ (decode cL_would 2 = .ok (.iload_n 1, 1)) ∧ (decode cL_would 3 = .ok (.iload_n 2, 1)) ∧ (decode cL_would 4 = .ok (.invokevirtual 77, 3)) ∧ (decode cL_would 7 = .ok (.i2l, 1)) ∧ (decode cL_would 8 = .ok (.putfield 13, 3)) ∧ (decode cL_would 11 = .ok (.goto 7, 3)) ∧ (decode cL_would 14 = .ok (.astore 4, 2)) ∧ (decode cL_would 16 = .ok (.iconst 1, 1)) ∧ (decode cL_would 17 = .ok (.ireturn, 1)) ∧ (decode cL_would 18 = .ok (.iconst 0, 1)) ∧ (decode cL_would 19 = .ok (.ireturn, 1)) := by decide +kernel
theorem dL_would_0 : decode cL_would 0 = .ok (.aload_n 3, 1) := bL_would_0.1
theorem dL_would_1 : decode cL_would 1 = .ok (.aload_n 0, 1) := bL_would_0.2.1
theorem dL_would_2 : decode cL_would 2 = .ok (.iload_n 1, 1) := bL_would_0.2.2.1
theorem dL_would_3 : decode cL_would 3 = .ok (.iload_n 2, 1) := bL_would_0.2.2.2.1
theorem dL_would_4 : decode cL_would 4 = .ok (.invokevirtual 77, 3) := bL_would_0.2.2.2.2.1
theorem dL_would_7 : decode cL_would 7 = .ok (.i2l, 1) := bL_would_0.2.2.2.2.2.1
theorem dL_would_8 : decode cL_would 8 = .ok (.putfield 13, 3) := bL_would_0.2.2.2.2.2.2.1
theorem dL_would_11 : decode cL_would 11 = .ok (.goto 7, 3) := bL_would_0.2.2.2.2.2.2.2.1
theorem dL_would_14 : decode cL_would 14 = .ok (.astore 4, 2) := bL_would_0.2.2.2.2.2.2.2.2.1
theorem dL_would_16 : decode cL_would 16 = .ok (.iconst 1, 1) := bL_would_0.2.2.2.2.2.2.2.2.2.1
theorem dL_would_17 : decode cL_would 17 = .ok (.ireturn, 1) := bL_would_0.2.2.2.2.2.2.2.2.2.2.1
theorem dL_would_18 : decode cL_would 18 = .ok (.iconst 0, 1) := bL_would_0.2.2.2.2.2.2.2.2.2.2.2.1
theorem dL_would_19 : decode cL_would 19 = .ok (.ireturn, 1) := bL_would_0.2.2.2.2.2.2.2.2.2.2.2.2
set_option maxRecDepth 100000 in
theorem bL_wouldStamp_0 : (decode cL_wouldStamp 0 = .ok (.aload_n 3, 1)) ∧ (decode cL_wouldStamp 1 = .ok (.aload_n 0, 1)) ∧ (decode cL_wouldStamp 2 = .ok (.iload_n 1, 1)) ∧ (decode cL_wouldStamp 3 = .ok (.iload_n 2, 1)) ∧ (decode cL_wouldStamp 4 = .ok (.invokevirtual 80, 3)) ∧ (decode cL_wouldStamp 7 = .ok (.i2l, 1)) ∧ (decode cL_wouldStamp 8 = .ok (.putfield 13, 3)) ∧ (decode cL_wouldStamp 11 = .ok (.goto 7, 3)) ∧ (decode cL_wouldStamp 14 = .ok (.astore 4, 2)) ∧ (decode cL_wouldStamp 16 = .ok (.iconst 1, 1)) ∧ (decode cL_wouldStamp 17 = .ok (.ireturn, 1)) ∧ (decode cL_wouldStamp 18 = .ok (.iconst 0, 1)) ∧ (decode cL_wouldStamp 19 = .ok (.ireturn, 1)) := by decide +kernel
theorem dL_wouldStamp_0 : decode cL_wouldStamp 0 = .ok (.aload_n 3, 1) := bL_wouldStamp_0.1
theorem dL_wouldStamp_1 : decode cL_wouldStamp 1 = .ok (.aload_n 0, 1) := bL_wouldStamp_0.2.1
theorem dL_wouldStamp_2 : decode cL_wouldStamp 2 = .ok (.iload_n 1, 1) := bL_wouldStamp_0.2.2.1
theorem dL_wouldStamp_3 : decode cL_wouldStamp 3 = .ok (.iload_n 2, 1) := bL_wouldStamp_0.2.2.2.1
theorem dL_wouldStamp_4 : decode cL_wouldStamp 4 = .ok (.invokevirtual 80, 3) := bL_wouldStamp_0.2.2.2.2.1
theorem dL_wouldStamp_7 : decode cL_wouldStamp 7 = .ok (.i2l, 1) := bL_wouldStamp_0.2.2.2.2.2.1
theorem dL_wouldStamp_8 : decode cL_wouldStamp 8 = .ok (.putfield 13, 3) := bL_wouldStamp_0.2.2.2.2.2.2.1
theorem dL_wouldStamp_11 : decode cL_wouldStamp 11 = .ok (.goto 7, 3) := bL_wouldStamp_0.2.2.2.2.2.2.2.1
theorem dL_wouldStamp_14 : decode cL_wouldStamp 14 = .ok (.astore 4, 2) := bL_wouldStamp_0.2.2.2.2.2.2.2.2.1
theorem dL_wouldStamp_16 : decode cL_wouldStamp 16 = .ok (.iconst 1, 1) := bL_wouldStamp_0.2.2.2.2.2.2.2.2.2.1
theorem dL_wouldStamp_17 : decode cL_wouldStamp 17 = .ok (.ireturn, 1) := bL_wouldStamp_0.2.2.2.2.2.2.2.2.2.2.1
theorem dL_wouldStamp_18 : decode cL_wouldStamp 18 = .ok (.iconst 0, 1) := bL_wouldStamp_0.2.2.2.2.2.2.2.2.2.2.2.1
theorem dL_wouldStamp_19 : decode cL_wouldStamp 19 = .ok (.ireturn, 1) := bL_wouldStamp_0.2.2.2.2.2.2.2.2.2.2.2.2
set_option maxRecDepth 100000 in
theorem bL_wrongAt_0 : (decode cL_wrongAt 0 = .ok (.aload_n 3, 1)) ∧ (decode cL_wrongAt 1 = .ok (.aload_n 0, 1)) ∧ (decode cL_wrongAt 2 = .ok (.iload_n 1, 1)) ∧ (decode cL_wrongAt 3 = .ok (.iload_n 2, 1)) ∧ (decode cL_wrongAt 4 = .ok (.invokevirtual 83, 3)) ∧ (decode cL_wrongAt 7 = .ok (.i2l, 1)) ∧ (decode cL_wrongAt 8 = .ok (.putfield 13, 3)) ∧ (decode cL_wrongAt 11 = .ok (.goto 7, 3)) ∧ (decode cL_wrongAt 14 = .ok (.astore 4, 2)) ∧ (decode cL_wrongAt 16 = .ok (.iconst 1, 1)) ∧ (decode cL_wrongAt 17 = .ok (.ireturn, 1)) ∧ (decode cL_wrongAt 18 = .ok (.iconst 0, 1)) ∧ (decode cL_wrongAt 19 = .ok (.ireturn, 1)) := by decide +kernel
theorem dL_wrongAt_0 : decode cL_wrongAt 0 = .ok (.aload_n 3, 1) := bL_wrongAt_0.1
theorem dL_wrongAt_1 : decode cL_wrongAt 1 = .ok (.aload_n 0, 1) := bL_wrongAt_0.2.1
theorem dL_wrongAt_2 : decode cL_wrongAt 2 = .ok (.iload_n 1, 1) := bL_wrongAt_0.2.2.1
theorem dL_wrongAt_3 : decode cL_wrongAt 3 = .ok (.iload_n 2, 1) := bL_wrongAt_0.2.2.2.1
theorem dL_wrongAt_4 : decode cL_wrongAt 4 = .ok (.invokevirtual 83, 3) := bL_wrongAt_0.2.2.2.2.1
theorem dL_wrongAt_7 : decode cL_wrongAt 7 = .ok (.i2l, 1) := bL_wrongAt_0.2.2.2.2.2.1
theorem dL_wrongAt_8 : decode cL_wrongAt 8 = .ok (.putfield 13, 3) := bL_wrongAt_0.2.2.2.2.2.2.1
theorem dL_wrongAt_11 : decode cL_wrongAt 11 = .ok (.goto 7, 3) := bL_wrongAt_0.2.2.2.2.2.2.2.1
theorem dL_wrongAt_14 : decode cL_wrongAt 14 = .ok (.astore 4, 2) := bL_wrongAt_0.2.2.2.2.2.2.2.2.1
theorem dL_wrongAt_16 : decode cL_wrongAt 16 = .ok (.iconst 1, 1) := bL_wrongAt_0.2.2.2.2.2.2.2.2.2.1
theorem dL_wrongAt_17 : decode cL_wrongAt 17 = .ok (.ireturn, 1) := bL_wrongAt_0.2.2.2.2.2.2.2.2.2.2.1
theorem dL_wrongAt_18 : decode cL_wrongAt 18 = .ok (.iconst 0, 1) := bL_wrongAt_0.2.2.2.2.2.2.2.2.2.2.2.1
theorem dL_wrongAt_19 : decode cL_wrongAt 19 = .ok (.ireturn, 1) := bL_wrongAt_0.2.2.2.2.2.2.2.2.2.2.2.2
set_option maxRecDepth 100000 in
theorem bL_after_0 : (decode cL_after 0 = .ok (.aload_n 3, 1)) ∧ (decode cL_after 1 = .ok (.aload_n 0, 1)) ∧ (decode cL_after 2 = .ok (.iload_n 1, 1)) ∧ (decode cL_after 3 = .ok (.iload_n 2, 1)) ∧ (decode cL_after 4 = .ok (.invokevirtual 86, 3)) ∧ (decode cL_after 7 = .ok (.i2l, 1)) ∧ (decode cL_after 8 = .ok (.putfield 13, 3)) ∧ (decode cL_after 11 = .ok (.goto 7, 3)) ∧ (decode cL_after 14 = .ok (.astore 4, 2)) ∧ (decode cL_after 16 = .ok (.iconst 1, 1)) ∧ (decode cL_after 17 = .ok (.ireturn, 1)) ∧ (decode cL_after 18 = .ok (.iconst 0, 1)) ∧ (decode cL_after 19 = .ok (.ireturn, 1)) := by decide +kernel
theorem dL_after_0 : decode cL_after 0 = .ok (.aload_n 3, 1) := bL_after_0.1
theorem dL_after_1 : decode cL_after 1 = .ok (.aload_n 0, 1) := bL_after_0.2.1
theorem dL_after_2 : decode cL_after 2 = .ok (.iload_n 1, 1) := bL_after_0.2.2.1
theorem dL_after_3 : decode cL_after 3 = .ok (.iload_n 2, 1) := bL_after_0.2.2.2.1
theorem dL_after_4 : decode cL_after 4 = .ok (.invokevirtual 86, 3) := bL_after_0.2.2.2.2.1
theorem dL_after_7 : decode cL_after 7 = .ok (.i2l, 1) := bL_after_0.2.2.2.2.2.1
theorem dL_after_8 : decode cL_after 8 = .ok (.putfield 13, 3) := bL_after_0.2.2.2.2.2.2.1
theorem dL_after_11 : decode cL_after 11 = .ok (.goto 7, 3) := bL_after_0.2.2.2.2.2.2.2.1
theorem dL_after_14 : decode cL_after 14 = .ok (.astore 4, 2) := bL_after_0.2.2.2.2.2.2.2.2.1
theorem dL_after_16 : decode cL_after 16 = .ok (.iconst 1, 1) := bL_after_0.2.2.2.2.2.2.2.2.2.1
theorem dL_after_17 : decode cL_after 17 = .ok (.ireturn, 1) := bL_after_0.2.2.2.2.2.2.2.2.2.2.1
theorem dL_after_18 : decode cL_after 18 = .ok (.iconst 0, 1) := bL_after_0.2.2.2.2.2.2.2.2.2.2.2.1
theorem dL_after_19 : decode cL_after 19 = .ok (.ireturn, 1) := bL_after_0.2.2.2.2.2.2.2.2.2.2.2.2
set_option maxRecDepth 100000 in
theorem bL_runAt_0 : (decode cL_runAt 0 = .ok (.aload_n 3, 1)) ∧ (decode cL_runAt 1 = .ok (.aload_n 0, 1)) ∧ (decode cL_runAt 2 = .ok (.iload_n 1, 1)) ∧ (decode cL_runAt 3 = .ok (.iload_n 2, 1)) ∧ (decode cL_runAt 4 = .ok (.invokevirtual 89, 3)) ∧ (decode cL_runAt 7 = .ok (.i2l, 1)) ∧ (decode cL_runAt 8 = .ok (.putfield 13, 3)) ∧ (decode cL_runAt 11 = .ok (.goto 7, 3)) ∧ (decode cL_runAt 14 = .ok (.astore 4, 2)) ∧ (decode cL_runAt 16 = .ok (.iconst 1, 1)) ∧ (decode cL_runAt 17 = .ok (.ireturn, 1)) ∧ (decode cL_runAt 18 = .ok (.iconst 0, 1)) ∧ (decode cL_runAt 19 = .ok (.ireturn, 1)) := by decide +kernel
theorem dL_runAt_0 : decode cL_runAt 0 = .ok (.aload_n 3, 1) := bL_runAt_0.1
theorem dL_runAt_1 : decode cL_runAt 1 = .ok (.aload_n 0, 1) := bL_runAt_0.2.1
theorem dL_runAt_2 : decode cL_runAt 2 = .ok (.iload_n 1, 1) := bL_runAt_0.2.2.1
theorem dL_runAt_3 : decode cL_runAt 3 = .ok (.iload_n 2, 1) := bL_runAt_0.2.2.2.1
theorem dL_runAt_4 : decode cL_runAt 4 = .ok (.invokevirtual 89, 3) := bL_runAt_0.2.2.2.2.1
theorem dL_runAt_7 : decode cL_runAt 7 = .ok (.i2l, 1) := bL_runAt_0.2.2.2.2.2.1
theorem dL_runAt_8 : decode cL_runAt 8 = .ok (.putfield 13, 3) := bL_runAt_0.2.2.2.2.2.2.1
theorem dL_runAt_11 : decode cL_runAt 11 = .ok (.goto 7, 3) := bL_runAt_0.2.2.2.2.2.2.2.1
theorem dL_runAt_14 : decode cL_runAt 14 = .ok (.astore 4, 2) := bL_runAt_0.2.2.2.2.2.2.2.2.1
theorem dL_runAt_16 : decode cL_runAt 16 = .ok (.iconst 1, 1) := bL_runAt_0.2.2.2.2.2.2.2.2.2.1
theorem dL_runAt_17 : decode cL_runAt 17 = .ok (.ireturn, 1) := bL_runAt_0.2.2.2.2.2.2.2.2.2.2.1
theorem dL_runAt_18 : decode cL_runAt 18 = .ok (.iconst 0, 1) := bL_runAt_0.2.2.2.2.2.2.2.2.2.2.2.1
theorem dL_runAt_19 : decode cL_runAt 19 = .ok (.ireturn, 1) := bL_runAt_0.2.2.2.2.2.2.2.2.2.2.2.2
set_option maxRecDepth 100000 in
theorem bL_text_0 : (decode cL_text 0 = .ok (.aload 4, 2)) ∧ (decode cL_text 2 = .ok (.aload_n 0, 1)) ∧ (decode cL_text 3 = .ok (.iload_n 1, 1)) ∧ (decode cL_text 4 = .ok (.iload_n 2, 1)) ∧ (decode cL_text 5 = .ok (.iload_n 3, 1)) ∧ (decode cL_text 6 = .ok (.invokevirtual 92, 3)) ∧ (decode cL_text 9 = .ok (.putfield 96, 3)) ∧ (decode cL_text 12 = .ok (.goto 11, 3)) ∧ (decode cL_text 15 = .ok (.astore 5, 2)) ∧ (decode cL_text 17 = .ok (.iconst 1, 1)) ∧ (decode cL_text 18 = .ok (.ireturn, 1)) ∧ (decode cL_text 19 = .ok (.astore 5, 2)) ∧ (decode cL_text 21 = .ok (.iconst 2, 1)) ∧ (decode cL_text 22 = .ok (.ireturn, 1)) ∧ (decode cL_text 23 = .ok (.iconst 0, 1)) ∧ (decode cL_text 24 = .ok (.ireturn, 1)) := by decide +kernel
theorem dL_text_0 : decode cL_text 0 = .ok (.aload 4, 2) := bL_text_0.1
theorem dL_text_2 : decode cL_text 2 = .ok (.aload_n 0, 1) := bL_text_0.2.1
theorem dL_text_3 : decode cL_text 3 = .ok (.iload_n 1, 1) := bL_text_0.2.2.1
theorem dL_text_4 : decode cL_text 4 = .ok (.iload_n 2, 1) := bL_text_0.2.2.2.1
theorem dL_text_5 : decode cL_text 5 = .ok (.iload_n 3, 1) := bL_text_0.2.2.2.2.1
theorem dL_text_6 : decode cL_text 6 = .ok (.invokevirtual 92, 3) := bL_text_0.2.2.2.2.2.1
theorem dL_text_9 : decode cL_text 9 = .ok (.putfield 96, 3) := bL_text_0.2.2.2.2.2.2.1
theorem dL_text_12 : decode cL_text 12 = .ok (.goto 11, 3) := bL_text_0.2.2.2.2.2.2.2.1
theorem dL_text_15 : decode cL_text 15 = .ok (.astore 5, 2) := bL_text_0.2.2.2.2.2.2.2.2.1
theorem dL_text_17 : decode cL_text 17 = .ok (.iconst 1, 1) := bL_text_0.2.2.2.2.2.2.2.2.2.1
theorem dL_text_18 : decode cL_text 18 = .ok (.ireturn, 1) := bL_text_0.2.2.2.2.2.2.2.2.2.2.1
theorem dL_text_19 : decode cL_text 19 = .ok (.astore 5, 2) := bL_text_0.2.2.2.2.2.2.2.2.2.2.2.1
theorem dL_text_21 : decode cL_text 21 = .ok (.iconst 2, 1) := bL_text_0.2.2.2.2.2.2.2.2.2.2.2.2.1
theorem dL_text_22 : decode cL_text 22 = .ok (.ireturn, 1) := bL_text_0.2.2.2.2.2.2.2.2.2.2.2.2.2.1
theorem dL_text_23 : decode cL_text 23 = .ok (.iconst 0, 1) := bL_text_0.2.2.2.2.2.2.2.2.2.2.2.2.2.2.1
theorem dL_text_24 : decode cL_text 24 = .ok (.ireturn, 1) := bL_text_0.2.2.2.2.2.2.2.2.2.2.2.2.2.2.2
set_option maxRecDepth 100000 in
theorem bL_isSorted_0 : (decode cL_isSorted 0 = .ok (.aload_n 2, 1)) ∧ (decode cL_isSorted 1 = .ok (.aload_n 0, 1)) ∧ (decode cL_isSorted 2 = .ok (.iload_n 1, 1)) ∧ (decode cL_isSorted 3 = .ok (.invokevirtual 100, 3)) ∧ (decode cL_isSorted 6 = .ok (.ifCond .eq 7, 3)) ∧ (decode cL_isSorted 9 = .ok (.lconst 1, 1)) ∧ (decode cL_isSorted 10 = .ok (.goto 4, 3)) ∧ (decode cL_isSorted 13 = .ok (.lconst 0, 1)) ∧ (decode cL_isSorted 14 = .ok (.putfield 13, 3)) ∧ (decode cL_isSorted 17 = .ok (.goto 6, 3)) ∧ (decode cL_isSorted 20 = .ok (.astore_n 3, 1)) ∧ (decode cL_isSorted 21 = .ok (.iconst 1, 1)) ∧ (decode cL_isSorted 22 = .ok (.ireturn, 1)) ∧ (decode cL_isSorted 23 = .ok (.iconst 0, 1)) ∧ (decode cL_isSorted 24 = .ok (.ireturn, 1)) := by decide +kernel
theorem dL_isSorted_0 : decode cL_isSorted 0 = .ok (.aload_n 2, 1) := bL_isSorted_0.1
theorem dL_isSorted_1 : decode cL_isSorted 1 = .ok (.aload_n 0, 1) := bL_isSorted_0.2.1
theorem dL_isSorted_2 : decode cL_isSorted 2 = .ok (.iload_n 1, 1) := bL_isSorted_0.2.2.1
theorem dL_isSorted_3 : decode cL_isSorted 3 = .ok (.invokevirtual 100, 3) := bL_isSorted_0.2.2.2.1
theorem dL_isSorted_6 : decode cL_isSorted 6 = .ok (.ifCond .eq 7, 3) := bL_isSorted_0.2.2.2.2.1
theorem dL_isSorted_9 : decode cL_isSorted 9 = .ok (.lconst 1, 1) := bL_isSorted_0.2.2.2.2.2.1
theorem dL_isSorted_10 : decode cL_isSorted 10 = .ok (.goto 4, 3) := bL_isSorted_0.2.2.2.2.2.2.1
theorem dL_isSorted_13 : decode cL_isSorted 13 = .ok (.lconst 0, 1) := bL_isSorted_0.2.2.2.2.2.2.2.1
theorem dL_isSorted_14 : decode cL_isSorted 14 = .ok (.putfield 13, 3) := bL_isSorted_0.2.2.2.2.2.2.2.2.1
theorem dL_isSorted_17 : decode cL_isSorted 17 = .ok (.goto 6, 3) := bL_isSorted_0.2.2.2.2.2.2.2.2.2.1
theorem dL_isSorted_20 : decode cL_isSorted 20 = .ok (.astore_n 3, 1) := bL_isSorted_0.2.2.2.2.2.2.2.2.2.2.1
theorem dL_isSorted_21 : decode cL_isSorted 21 = .ok (.iconst 1, 1) := bL_isSorted_0.2.2.2.2.2.2.2.2.2.2.2.1
theorem dL_isSorted_22 : decode cL_isSorted 22 = .ok (.ireturn, 1) := bL_isSorted_0.2.2.2.2.2.2.2.2.2.2.2.2.1
theorem dL_isSorted_23 : decode cL_isSorted 23 = .ok (.iconst 0, 1) := bL_isSorted_0.2.2.2.2.2.2.2.2.2.2.2.2.2.1
theorem dL_isSorted_24 : decode cL_isSorted 24 = .ok (.ireturn, 1) := bL_isSorted_0.2.2.2.2.2.2.2.2.2.2.2.2.2.2
set_option maxRecDepth 100000 in
theorem bL_isFalling_0 : (decode cL_isFalling 0 = .ok (.aload_n 2, 1)) ∧ (decode cL_isFalling 1 = .ok (.aload_n 0, 1)) ∧ (decode cL_isFalling 2 = .ok (.iload_n 1, 1)) ∧ (decode cL_isFalling 3 = .ok (.invokevirtual 104, 3)) ∧ (decode cL_isFalling 6 = .ok (.ifCond .eq 7, 3)) ∧ (decode cL_isFalling 9 = .ok (.lconst 1, 1)) ∧ (decode cL_isFalling 10 = .ok (.goto 4, 3)) ∧ (decode cL_isFalling 13 = .ok (.lconst 0, 1)) ∧ (decode cL_isFalling 14 = .ok (.putfield 13, 3)) ∧ (decode cL_isFalling 17 = .ok (.goto 6, 3)) ∧ (decode cL_isFalling 20 = .ok (.astore_n 3, 1)) ∧ (decode cL_isFalling 21 = .ok (.iconst 1, 1)) ∧ (decode cL_isFalling 22 = .ok (.ireturn, 1)) ∧ (decode cL_isFalling 23 = .ok (.iconst 0, 1)) ∧ (decode cL_isFalling 24 = .ok (.ireturn, 1)) := by decide +kernel
theorem dL_isFalling_0 : decode cL_isFalling 0 = .ok (.aload_n 2, 1) := bL_isFalling_0.1
theorem dL_isFalling_1 : decode cL_isFalling 1 = .ok (.aload_n 0, 1) := bL_isFalling_0.2.1
theorem dL_isFalling_2 : decode cL_isFalling 2 = .ok (.iload_n 1, 1) := bL_isFalling_0.2.2.1
theorem dL_isFalling_3 : decode cL_isFalling 3 = .ok (.invokevirtual 104, 3) := bL_isFalling_0.2.2.2.1
theorem dL_isFalling_6 : decode cL_isFalling 6 = .ok (.ifCond .eq 7, 3) := bL_isFalling_0.2.2.2.2.1
theorem dL_isFalling_9 : decode cL_isFalling 9 = .ok (.lconst 1, 1) := bL_isFalling_0.2.2.2.2.2.1
theorem dL_isFalling_10 : decode cL_isFalling 10 = .ok (.goto 4, 3) := bL_isFalling_0.2.2.2.2.2.2.1
theorem dL_isFalling_13 : decode cL_isFalling 13 = .ok (.lconst 0, 1) := bL_isFalling_0.2.2.2.2.2.2.2.1
theorem dL_isFalling_14 : decode cL_isFalling 14 = .ok (.putfield 13, 3) := bL_isFalling_0.2.2.2.2.2.2.2.2.1
theorem dL_isFalling_17 : decode cL_isFalling 17 = .ok (.goto 6, 3) := bL_isFalling_0.2.2.2.2.2.2.2.2.2.1
theorem dL_isFalling_20 : decode cL_isFalling 20 = .ok (.astore_n 3, 1) := bL_isFalling_0.2.2.2.2.2.2.2.2.2.2.1
theorem dL_isFalling_21 : decode cL_isFalling 21 = .ok (.iconst 1, 1) := bL_isFalling_0.2.2.2.2.2.2.2.2.2.2.2.1
theorem dL_isFalling_22 : decode cL_isFalling 22 = .ok (.ireturn, 1) := bL_isFalling_0.2.2.2.2.2.2.2.2.2.2.2.2.1
theorem dL_isFalling_23 : decode cL_isFalling 23 = .ok (.iconst 0, 1) := bL_isFalling_0.2.2.2.2.2.2.2.2.2.2.2.2.2.1
theorem dL_isFalling_24 : decode cL_isFalling 24 = .ok (.ireturn, 1) := bL_isFalling_0.2.2.2.2.2.2.2.2.2.2.2.2.2.2
set_option maxRecDepth 100000 in
theorem bL_isKept_0 : (decode cL_isKept 0 = .ok (.aload_n 2, 1)) ∧ (decode cL_isKept 1 = .ok (.aload_n 0, 1)) ∧ (decode cL_isKept 2 = .ok (.iload_n 1, 1)) ∧ (decode cL_isKept 3 = .ok (.invokevirtual 107, 3)) ∧ (decode cL_isKept 6 = .ok (.ifCond .eq 7, 3)) ∧ (decode cL_isKept 9 = .ok (.lconst 1, 1)) ∧ (decode cL_isKept 10 = .ok (.goto 4, 3)) ∧ (decode cL_isKept 13 = .ok (.lconst 0, 1)) ∧ (decode cL_isKept 14 = .ok (.putfield 13, 3)) ∧ (decode cL_isKept 17 = .ok (.goto 6, 3)) ∧ (decode cL_isKept 20 = .ok (.astore_n 3, 1)) ∧ (decode cL_isKept 21 = .ok (.iconst 1, 1)) ∧ (decode cL_isKept 22 = .ok (.ireturn, 1)) ∧ (decode cL_isKept 23 = .ok (.iconst 0, 1)) ∧ (decode cL_isKept 24 = .ok (.ireturn, 1)) := by decide +kernel
theorem dL_isKept_0 : decode cL_isKept 0 = .ok (.aload_n 2, 1) := bL_isKept_0.1
theorem dL_isKept_1 : decode cL_isKept 1 = .ok (.aload_n 0, 1) := bL_isKept_0.2.1
theorem dL_isKept_2 : decode cL_isKept 2 = .ok (.iload_n 1, 1) := bL_isKept_0.2.2.1
theorem dL_isKept_3 : decode cL_isKept 3 = .ok (.invokevirtual 107, 3) := bL_isKept_0.2.2.2.1
theorem dL_isKept_6 : decode cL_isKept 6 = .ok (.ifCond .eq 7, 3) := bL_isKept_0.2.2.2.2.1
theorem dL_isKept_9 : decode cL_isKept 9 = .ok (.lconst 1, 1) := bL_isKept_0.2.2.2.2.2.1
theorem dL_isKept_10 : decode cL_isKept 10 = .ok (.goto 4, 3) := bL_isKept_0.2.2.2.2.2.2.1
theorem dL_isKept_13 : decode cL_isKept 13 = .ok (.lconst 0, 1) := bL_isKept_0.2.2.2.2.2.2.2.1
theorem dL_isKept_14 : decode cL_isKept 14 = .ok (.putfield 13, 3) := bL_isKept_0.2.2.2.2.2.2.2.2.1
theorem dL_isKept_17 : decode cL_isKept 17 = .ok (.goto 6, 3) := bL_isKept_0.2.2.2.2.2.2.2.2.2.1
theorem dL_isKept_20 : decode cL_isKept 20 = .ok (.astore_n 3, 1) := bL_isKept_0.2.2.2.2.2.2.2.2.2.2.1
theorem dL_isKept_21 : decode cL_isKept 21 = .ok (.iconst 1, 1) := bL_isKept_0.2.2.2.2.2.2.2.2.2.2.2.1
theorem dL_isKept_22 : decode cL_isKept 22 = .ok (.ireturn, 1) := bL_isKept_0.2.2.2.2.2.2.2.2.2.2.2.2.1
theorem dL_isKept_23 : decode cL_isKept 23 = .ok (.iconst 0, 1) := bL_isKept_0.2.2.2.2.2.2.2.2.2.2.2.2.2.1
theorem dL_isKept_24 : decode cL_isKept 24 = .ok (.ireturn, 1) := bL_isKept_0.2.2.2.2.2.2.2.2.2.2.2.2.2.2
set_option maxRecDepth 100000 in
theorem bL_wrong_0 : (decode cL_wrong 0 = .ok (.aload_n 3, 1)) ∧ (decode cL_wrong 1 = .ok (.aload_n 0, 1)) ∧ (decode cL_wrong 2 = .ok (.iload_n 1, 1)) ∧ (decode cL_wrong 3 = .ok (.iload_n 2, 1)) ∧ (decode cL_wrong 4 = .ok (.invokevirtual 110, 3)) ∧ (decode cL_wrong 7 = .ok (.i2l, 1)) ∧ (decode cL_wrong 8 = .ok (.putfield 13, 3)) ∧ (decode cL_wrong 11 = .ok (.goto 11, 3)) ∧ (decode cL_wrong 14 = .ok (.astore 4, 2)) ∧ (decode cL_wrong 16 = .ok (.iconst 1, 1)) ∧ (decode cL_wrong 17 = .ok (.ireturn, 1)) ∧ (decode cL_wrong 18 = .ok (.astore 4, 2)) ∧ (decode cL_wrong 20 = .ok (.iconst 2, 1)) ∧ (decode cL_wrong 21 = .ok (.ireturn, 1)) ∧ (decode cL_wrong 22 = .ok (.iconst 0, 1)) ∧ (decode cL_wrong 23 = .ok (.ireturn, 1)) := by decide +kernel
theorem dL_wrong_0 : decode cL_wrong 0 = .ok (.aload_n 3, 1) := bL_wrong_0.1
theorem dL_wrong_1 : decode cL_wrong 1 = .ok (.aload_n 0, 1) := bL_wrong_0.2.1
theorem dL_wrong_2 : decode cL_wrong 2 = .ok (.iload_n 1, 1) := bL_wrong_0.2.2.1
theorem dL_wrong_3 : decode cL_wrong 3 = .ok (.iload_n 2, 1) := bL_wrong_0.2.2.2.1
theorem dL_wrong_4 : decode cL_wrong 4 = .ok (.invokevirtual 110, 3) := bL_wrong_0.2.2.2.2.1
theorem dL_wrong_7 : decode cL_wrong 7 = .ok (.i2l, 1) := bL_wrong_0.2.2.2.2.2.1
theorem dL_wrong_8 : decode cL_wrong 8 = .ok (.putfield 13, 3) := bL_wrong_0.2.2.2.2.2.2.1
theorem dL_wrong_11 : decode cL_wrong 11 = .ok (.goto 11, 3) := bL_wrong_0.2.2.2.2.2.2.2.1
theorem dL_wrong_14 : decode cL_wrong 14 = .ok (.astore 4, 2) := bL_wrong_0.2.2.2.2.2.2.2.2.1
theorem dL_wrong_16 : decode cL_wrong 16 = .ok (.iconst 1, 1) := bL_wrong_0.2.2.2.2.2.2.2.2.2.1
theorem dL_wrong_17 : decode cL_wrong 17 = .ok (.ireturn, 1) := bL_wrong_0.2.2.2.2.2.2.2.2.2.2.1
theorem dL_wrong_18 : decode cL_wrong 18 = .ok (.astore 4, 2) := bL_wrong_0.2.2.2.2.2.2.2.2.2.2.2.1
theorem dL_wrong_20 : decode cL_wrong 20 = .ok (.iconst 2, 1) := bL_wrong_0.2.2.2.2.2.2.2.2.2.2.2.2.1
theorem dL_wrong_21 : decode cL_wrong 21 = .ok (.ireturn, 1) := bL_wrong_0.2.2.2.2.2.2.2.2.2.2.2.2.2.1
theorem dL_wrong_22 : decode cL_wrong 22 = .ok (.iconst 0, 1) := bL_wrong_0.2.2.2.2.2.2.2.2.2.2.2.2.2.2.1
theorem dL_wrong_23 : decode cL_wrong 23 = .ok (.ireturn, 1) := bL_wrong_0.2.2.2.2.2.2.2.2.2.2.2.2.2.2.2
set_option maxRecDepth 100000 in
theorem bL_right_0 : (decode cL_right 0 = .ok (.aload_n 2, 1)) ∧ (decode cL_right 1 = .ok (.aload_n 0, 1)) ∧ (decode cL_right 2 = .ok (.iload_n 1, 1)) ∧ (decode cL_right 3 = .ok (.invokevirtual 113, 3)) ∧ (decode cL_right 6 = .ok (.i2l, 1)) ∧ (decode cL_right 7 = .ok (.putfield 13, 3)) ∧ (decode cL_right 10 = .ok (.goto 6, 3)) ∧ (decode cL_right 13 = .ok (.astore_n 3, 1)) ∧ (decode cL_right 14 = .ok (.iconst 1, 1)) ∧ (decode cL_right 15 = .ok (.ireturn, 1)) ∧ (decode cL_right 16 = .ok (.iconst 0, 1)) ∧ (decode cL_right 17 = .ok (.ireturn, 1)) := by decide +kernel
theorem dL_right_0 : decode cL_right 0 = .ok (.aload_n 2, 1) := bL_right_0.1
theorem dL_right_1 : decode cL_right 1 = .ok (.aload_n 0, 1) := bL_right_0.2.1
theorem dL_right_2 : decode cL_right 2 = .ok (.iload_n 1, 1) := bL_right_0.2.2.1
theorem dL_right_3 : decode cL_right 3 = .ok (.invokevirtual 113, 3) := bL_right_0.2.2.2.1
theorem dL_right_6 : decode cL_right 6 = .ok (.i2l, 1) := bL_right_0.2.2.2.2.1
theorem dL_right_7 : decode cL_right 7 = .ok (.putfield 13, 3) := bL_right_0.2.2.2.2.2.1
theorem dL_right_10 : decode cL_right 10 = .ok (.goto 6, 3) := bL_right_0.2.2.2.2.2.2.1
theorem dL_right_13 : decode cL_right 13 = .ok (.astore_n 3, 1) := bL_right_0.2.2.2.2.2.2.2.1
theorem dL_right_14 : decode cL_right 14 = .ok (.iconst 1, 1) := bL_right_0.2.2.2.2.2.2.2.2.1
theorem dL_right_15 : decode cL_right 15 = .ok (.ireturn, 1) := bL_right_0.2.2.2.2.2.2.2.2.2.1
theorem dL_right_16 : decode cL_right 16 = .ok (.iconst 0, 1) := bL_right_0.2.2.2.2.2.2.2.2.2.2.1
theorem dL_right_17 : decode cL_right 17 = .ok (.ireturn, 1) := bL_right_0.2.2.2.2.2.2.2.2.2.2.2
set_option maxRecDepth 100000 in
theorem bL_ties_0 : (decode cL_ties 0 = .ok (.aload_n 2, 1)) ∧ (decode cL_ties 1 = .ok (.aload_n 0, 1)) ∧ (decode cL_ties 2 = .ok (.iload_n 1, 1)) ∧ (decode cL_ties 3 = .ok (.invokevirtual 116, 3)) ∧ (decode cL_ties 6 = .ok (.i2l, 1)) ∧ (decode cL_ties 7 = .ok (.putfield 13, 3)) ∧ (decode cL_ties 10 = .ok (.goto 6, 3)) ∧ (decode cL_ties 13 = .ok (.astore_n 3, 1)) ∧ (decode cL_ties 14 = .ok (.iconst 1, 1)) ∧ (decode cL_ties 15 = .ok (.ireturn, 1)) ∧ (decode cL_ties 16 = .ok (.iconst 0, 1)) ∧ (decode cL_ties 17 = .ok (.ireturn, 1)) := by decide +kernel
theorem dL_ties_0 : decode cL_ties 0 = .ok (.aload_n 2, 1) := bL_ties_0.1
theorem dL_ties_1 : decode cL_ties 1 = .ok (.aload_n 0, 1) := bL_ties_0.2.1
theorem dL_ties_2 : decode cL_ties 2 = .ok (.iload_n 1, 1) := bL_ties_0.2.2.1
theorem dL_ties_3 : decode cL_ties 3 = .ok (.invokevirtual 116, 3) := bL_ties_0.2.2.2.1
theorem dL_ties_6 : decode cL_ties 6 = .ok (.i2l, 1) := bL_ties_0.2.2.2.2.1
theorem dL_ties_7 : decode cL_ties 7 = .ok (.putfield 13, 3) := bL_ties_0.2.2.2.2.2.1
theorem dL_ties_10 : decode cL_ties 10 = .ok (.goto 6, 3) := bL_ties_0.2.2.2.2.2.2.1
theorem dL_ties_13 : decode cL_ties 13 = .ok (.astore_n 3, 1) := bL_ties_0.2.2.2.2.2.2.2.1
theorem dL_ties_14 : decode cL_ties 14 = .ok (.iconst 1, 1) := bL_ties_0.2.2.2.2.2.2.2.2.1
theorem dL_ties_15 : decode cL_ties 15 = .ok (.ireturn, 1) := bL_ties_0.2.2.2.2.2.2.2.2.2.1
theorem dL_ties_16 : decode cL_ties 16 = .ok (.iconst 0, 1) := bL_ties_0.2.2.2.2.2.2.2.2.2.2.1
theorem dL_ties_17 : decode cL_ties 17 = .ok (.ireturn, 1) := bL_ties_0.2.2.2.2.2.2.2.2.2.2.2
set_option maxRecDepth 100000 in
theorem bL_runs_0 : (decode cL_runs 0 = .ok (.aload_n 2, 1)) ∧ (decode cL_runs 1 = .ok (.aload_n 0, 1)) ∧ (decode cL_runs 2 = .ok (.iload_n 1, 1)) ∧ (decode cL_runs 3 = .ok (.invokevirtual 119, 3)) ∧ (decode cL_runs 6 = .ok (.i2l, 1)) ∧ (decode cL_runs 7 = .ok (.putfield 13, 3)) ∧ (decode cL_runs 10 = .ok (.goto 6, 3)) ∧ (decode cL_runs 13 = .ok (.astore_n 3, 1)) ∧ (decode cL_runs 14 = .ok (.iconst 1, 1)) ∧ (decode cL_runs 15 = .ok (.ireturn, 1)) ∧ (decode cL_runs 16 = .ok (.iconst 0, 1)) ∧ (decode cL_runs 17 = .ok (.ireturn, 1)) := by decide +kernel
theorem dL_runs_0 : decode cL_runs 0 = .ok (.aload_n 2, 1) := bL_runs_0.1
theorem dL_runs_1 : decode cL_runs 1 = .ok (.aload_n 0, 1) := bL_runs_0.2.1
theorem dL_runs_2 : decode cL_runs 2 = .ok (.iload_n 1, 1) := bL_runs_0.2.2.1
theorem dL_runs_3 : decode cL_runs 3 = .ok (.invokevirtual 119, 3) := bL_runs_0.2.2.2.1
theorem dL_runs_6 : decode cL_runs 6 = .ok (.i2l, 1) := bL_runs_0.2.2.2.2.1
theorem dL_runs_7 : decode cL_runs 7 = .ok (.putfield 13, 3) := bL_runs_0.2.2.2.2.2.1
theorem dL_runs_10 : decode cL_runs 10 = .ok (.goto 6, 3) := bL_runs_0.2.2.2.2.2.2.1
theorem dL_runs_13 : decode cL_runs 13 = .ok (.astore_n 3, 1) := bL_runs_0.2.2.2.2.2.2.2.1
theorem dL_runs_14 : decode cL_runs 14 = .ok (.iconst 1, 1) := bL_runs_0.2.2.2.2.2.2.2.2.1
theorem dL_runs_15 : decode cL_runs 15 = .ok (.ireturn, 1) := bL_runs_0.2.2.2.2.2.2.2.2.2.1
theorem dL_runs_16 : decode cL_runs 16 = .ok (.iconst 0, 1) := bL_runs_0.2.2.2.2.2.2.2.2.2.2.1
theorem dL_runs_17 : decode cL_runs 17 = .ok (.ireturn, 1) := bL_runs_0.2.2.2.2.2.2.2.2.2.2.2
set_option maxRecDepth 100000 in
theorem bL_longest_0 : (decode cL_longest 0 = .ok (.aload_n 2, 1)) ∧ (decode cL_longest 1 = .ok (.aload_n 0, 1)) ∧ (decode cL_longest 2 = .ok (.iload_n 1, 1)) ∧ (decode cL_longest 3 = .ok (.invokevirtual 122, 3)) ∧ (decode cL_longest 6 = .ok (.i2l, 1)) ∧ (decode cL_longest 7 = .ok (.putfield 13, 3)) ∧ (decode cL_longest 10 = .ok (.goto 6, 3)) ∧ (decode cL_longest 13 = .ok (.astore_n 3, 1)) ∧ (decode cL_longest 14 = .ok (.iconst 1, 1)) ∧ (decode cL_longest 15 = .ok (.ireturn, 1)) ∧ (decode cL_longest 16 = .ok (.iconst 0, 1)) ∧ (decode cL_longest 17 = .ok (.ireturn, 1)) := by decide +kernel
theorem dL_longest_0 : decode cL_longest 0 = .ok (.aload_n 2, 1) := bL_longest_0.1
theorem dL_longest_1 : decode cL_longest 1 = .ok (.aload_n 0, 1) := bL_longest_0.2.1
theorem dL_longest_2 : decode cL_longest 2 = .ok (.iload_n 1, 1) := bL_longest_0.2.2.1
theorem dL_longest_3 : decode cL_longest 3 = .ok (.invokevirtual 122, 3) := bL_longest_0.2.2.2.1
theorem dL_longest_6 : decode cL_longest 6 = .ok (.i2l, 1) := bL_longest_0.2.2.2.2.1
theorem dL_longest_7 : decode cL_longest 7 = .ok (.putfield 13, 3) := bL_longest_0.2.2.2.2.2.1
theorem dL_longest_10 : decode cL_longest 10 = .ok (.goto 6, 3) := bL_longest_0.2.2.2.2.2.2.1
theorem dL_longest_13 : decode cL_longest 13 = .ok (.astore_n 3, 1) := bL_longest_0.2.2.2.2.2.2.2.1
theorem dL_longest_14 : decode cL_longest 14 = .ok (.iconst 1, 1) := bL_longest_0.2.2.2.2.2.2.2.2.1
theorem dL_longest_15 : decode cL_longest 15 = .ok (.ireturn, 1) := bL_longest_0.2.2.2.2.2.2.2.2.2.1
theorem dL_longest_16 : decode cL_longest 16 = .ok (.iconst 0, 1) := bL_longest_0.2.2.2.2.2.2.2.2.2.2.1
theorem dL_longest_17 : decode cL_longest 17 = .ok (.ireturn, 1) := bL_longest_0.2.2.2.2.2.2.2.2.2.2.2
set_option maxRecDepth 100000 in
theorem bL_count_0 : (decode cL_count 0 = .ok (.aload_n 3, 1)) ∧ (decode cL_count 1 = .ok (.aload_n 0, 1)) ∧ (decode cL_count 2 = .ok (.iload_n 1, 1)) ∧ (decode cL_count 3 = .ok (.iload_n 2, 1)) ∧ (decode cL_count 4 = .ok (.invokevirtual 125, 3)) ∧ (decode cL_count 7 = .ok (.i2l, 1)) ∧ (decode cL_count 8 = .ok (.putfield 13, 3)) ∧ (decode cL_count 11 = .ok (.goto 11, 3)) ∧ (decode cL_count 14 = .ok (.astore 4, 2)) ∧ (decode cL_count 16 = .ok (.iconst 1, 1)) ∧ (decode cL_count 17 = .ok (.ireturn, 1)) ∧ (decode cL_count 18 = .ok (.astore 4, 2)) ∧ (decode cL_count 20 = .ok (.iconst 2, 1)) ∧ (decode cL_count 21 = .ok (.ireturn, 1)) ∧ (decode cL_count 22 = .ok (.iconst 0, 1)) ∧ (decode cL_count 23 = .ok (.ireturn, 1)) := by decide +kernel
theorem dL_count_0 : decode cL_count 0 = .ok (.aload_n 3, 1) := bL_count_0.1
theorem dL_count_1 : decode cL_count 1 = .ok (.aload_n 0, 1) := bL_count_0.2.1
theorem dL_count_2 : decode cL_count 2 = .ok (.iload_n 1, 1) := bL_count_0.2.2.1
theorem dL_count_3 : decode cL_count 3 = .ok (.iload_n 2, 1) := bL_count_0.2.2.2.1
theorem dL_count_4 : decode cL_count 4 = .ok (.invokevirtual 125, 3) := bL_count_0.2.2.2.2.1
theorem dL_count_7 : decode cL_count 7 = .ok (.i2l, 1) := bL_count_0.2.2.2.2.2.1
theorem dL_count_8 : decode cL_count 8 = .ok (.putfield 13, 3) := bL_count_0.2.2.2.2.2.2.1
theorem dL_count_11 : decode cL_count 11 = .ok (.goto 11, 3) := bL_count_0.2.2.2.2.2.2.2.1
theorem dL_count_14 : decode cL_count 14 = .ok (.astore 4, 2) := bL_count_0.2.2.2.2.2.2.2.2.1
theorem dL_count_16 : decode cL_count 16 = .ok (.iconst 1, 1) := bL_count_0.2.2.2.2.2.2.2.2.2.1
theorem dL_count_17 : decode cL_count 17 = .ok (.ireturn, 1) := bL_count_0.2.2.2.2.2.2.2.2.2.2.1
theorem dL_count_18 : decode cL_count 18 = .ok (.astore 4, 2) := bL_count_0.2.2.2.2.2.2.2.2.2.2.2.1
theorem dL_count_20 : decode cL_count 20 = .ok (.iconst 2, 1) := bL_count_0.2.2.2.2.2.2.2.2.2.2.2.2.1
theorem dL_count_21 : decode cL_count 21 = .ok (.ireturn, 1) := bL_count_0.2.2.2.2.2.2.2.2.2.2.2.2.2.1
theorem dL_count_22 : decode cL_count 22 = .ok (.iconst 0, 1) := bL_count_0.2.2.2.2.2.2.2.2.2.2.2.2.2.2.1
theorem dL_count_23 : decode cL_count 23 = .ok (.ireturn, 1) := bL_count_0.2.2.2.2.2.2.2.2.2.2.2.2.2.2.2
set_option maxRecDepth 100000 in
theorem bL_below_0 : (decode cL_below 0 = .ok (.aload_n 3, 1)) ∧ (decode cL_below 1 = .ok (.aload_n 0, 1)) ∧ (decode cL_below 2 = .ok (.iload_n 1, 1)) ∧ (decode cL_below 3 = .ok (.iload_n 2, 1)) ∧ (decode cL_below 4 = .ok (.invokevirtual 128, 3)) ∧ (decode cL_below 7 = .ok (.i2l, 1)) ∧ (decode cL_below 8 = .ok (.putfield 13, 3)) ∧ (decode cL_below 11 = .ok (.goto 11, 3)) ∧ (decode cL_below 14 = .ok (.astore 4, 2)) ∧ (decode cL_below 16 = .ok (.iconst 1, 1)) ∧ (decode cL_below 17 = .ok (.ireturn, 1)) ∧ (decode cL_below 18 = .ok (.astore 4, 2)) ∧ (decode cL_below 20 = .ok (.iconst 2, 1)) ∧ (decode cL_below 21 = .ok (.ireturn, 1)) ∧ (decode cL_below 22 = .ok (.iconst 0, 1)) ∧ (decode cL_below 23 = .ok (.ireturn, 1)) := by decide +kernel
theorem dL_below_0 : decode cL_below 0 = .ok (.aload_n 3, 1) := bL_below_0.1
theorem dL_below_1 : decode cL_below 1 = .ok (.aload_n 0, 1) := bL_below_0.2.1
theorem dL_below_2 : decode cL_below 2 = .ok (.iload_n 1, 1) := bL_below_0.2.2.1
theorem dL_below_3 : decode cL_below 3 = .ok (.iload_n 2, 1) := bL_below_0.2.2.2.1
theorem dL_below_4 : decode cL_below 4 = .ok (.invokevirtual 128, 3) := bL_below_0.2.2.2.2.1
theorem dL_below_7 : decode cL_below 7 = .ok (.i2l, 1) := bL_below_0.2.2.2.2.2.1
theorem dL_below_8 : decode cL_below 8 = .ok (.putfield 13, 3) := bL_below_0.2.2.2.2.2.2.1
theorem dL_below_11 : decode cL_below 11 = .ok (.goto 11, 3) := bL_below_0.2.2.2.2.2.2.2.1
theorem dL_below_14 : decode cL_below 14 = .ok (.astore 4, 2) := bL_below_0.2.2.2.2.2.2.2.2.1
theorem dL_below_16 : decode cL_below 16 = .ok (.iconst 1, 1) := bL_below_0.2.2.2.2.2.2.2.2.2.1
theorem dL_below_17 : decode cL_below 17 = .ok (.ireturn, 1) := bL_below_0.2.2.2.2.2.2.2.2.2.2.1
theorem dL_below_18 : decode cL_below 18 = .ok (.astore 4, 2) := bL_below_0.2.2.2.2.2.2.2.2.2.2.2.1
theorem dL_below_20 : decode cL_below 20 = .ok (.iconst 2, 1) := bL_below_0.2.2.2.2.2.2.2.2.2.2.2.2.1
theorem dL_below_21 : decode cL_below 21 = .ok (.ireturn, 1) := bL_below_0.2.2.2.2.2.2.2.2.2.2.2.2.2.1
theorem dL_below_22 : decode cL_below 22 = .ok (.iconst 0, 1) := bL_below_0.2.2.2.2.2.2.2.2.2.2.2.2.2.2.1
theorem dL_below_23 : decode cL_below 23 = .ok (.ireturn, 1) := bL_below_0.2.2.2.2.2.2.2.2.2.2.2.2.2.2.2
set_option maxRecDepth 100000 in
theorem bL_first_0 : (decode cL_first 0 = .ok (.aload 4, 2)) ∧ (decode cL_first 2 = .ok (.aload_n 0, 1)) ∧ (decode cL_first 3 = .ok (.iload_n 1, 1)) ∧ (decode cL_first 4 = .ok (.iload_n 2, 1)) ∧ (decode cL_first 5 = .ok (.iload_n 3, 1)) ∧ (decode cL_first 6 = .ok (.invokevirtual 131, 3)) ∧ (decode cL_first 9 = .ok (.i2l, 1)) ∧ (decode cL_first 10 = .ok (.putfield 13, 3)) ∧ (decode cL_first 13 = .ok (.goto 11, 3)) ∧ (decode cL_first 16 = .ok (.astore 5, 2)) ∧ (decode cL_first 18 = .ok (.iconst 1, 1)) ∧ (decode cL_first 19 = .ok (.ireturn, 1)) ∧ (decode cL_first 20 = .ok (.astore 5, 2)) ∧ (decode cL_first 22 = .ok (.iconst 2, 1)) ∧ (decode cL_first 23 = .ok (.ireturn, 1)) ∧ (decode cL_first 24 = .ok (.iconst 0, 1)) := by decide +kernel
theorem dL_first_0 : decode cL_first 0 = .ok (.aload 4, 2) := bL_first_0.1
theorem dL_first_2 : decode cL_first 2 = .ok (.aload_n 0, 1) := bL_first_0.2.1
theorem dL_first_3 : decode cL_first 3 = .ok (.iload_n 1, 1) := bL_first_0.2.2.1
theorem dL_first_4 : decode cL_first 4 = .ok (.iload_n 2, 1) := bL_first_0.2.2.2.1
theorem dL_first_5 : decode cL_first 5 = .ok (.iload_n 3, 1) := bL_first_0.2.2.2.2.1
theorem dL_first_6 : decode cL_first 6 = .ok (.invokevirtual 131, 3) := bL_first_0.2.2.2.2.2.1
theorem dL_first_9 : decode cL_first 9 = .ok (.i2l, 1) := bL_first_0.2.2.2.2.2.2.1
theorem dL_first_10 : decode cL_first 10 = .ok (.putfield 13, 3) := bL_first_0.2.2.2.2.2.2.2.1
theorem dL_first_13 : decode cL_first 13 = .ok (.goto 11, 3) := bL_first_0.2.2.2.2.2.2.2.2.1
theorem dL_first_16 : decode cL_first 16 = .ok (.astore 5, 2) := bL_first_0.2.2.2.2.2.2.2.2.2.1
theorem dL_first_18 : decode cL_first 18 = .ok (.iconst 1, 1) := bL_first_0.2.2.2.2.2.2.2.2.2.2.1
theorem dL_first_19 : decode cL_first 19 = .ok (.ireturn, 1) := bL_first_0.2.2.2.2.2.2.2.2.2.2.2.1
theorem dL_first_20 : decode cL_first 20 = .ok (.astore 5, 2) := bL_first_0.2.2.2.2.2.2.2.2.2.2.2.2.1
theorem dL_first_22 : decode cL_first 22 = .ok (.iconst 2, 1) := bL_first_0.2.2.2.2.2.2.2.2.2.2.2.2.2.1
theorem dL_first_23 : decode cL_first 23 = .ok (.ireturn, 1) := bL_first_0.2.2.2.2.2.2.2.2.2.2.2.2.2.2.1
theorem dL_first_24 : decode cL_first 24 = .ok (.iconst 0, 1) := bL_first_0.2.2.2.2.2.2.2.2.2.2.2.2.2.2.2
theorem dL_first_25 : decode cL_first 25 = .ok (.ireturn, 1) := by decide +kernel
set_option maxRecDepth 100000 in
theorem bL_end_0 : (decode cL_end 0 = .ok (.aload_n 3, 1)) ∧ (decode cL_end 1 = .ok (.aload_n 0, 1)) ∧ (decode cL_end 2 = .ok (.iload_n 1, 1)) ∧ (decode cL_end 3 = .ok (.iload_n 2, 1)) ∧ (decode cL_end 4 = .ok (.invokevirtual 135, 3)) ∧ (decode cL_end 7 = .ok (.i2l, 1)) ∧ (decode cL_end 8 = .ok (.putfield 13, 3)) ∧ (decode cL_end 11 = .ok (.goto 7, 3)) ∧ (decode cL_end 14 = .ok (.astore 4, 2)) ∧ (decode cL_end 16 = .ok (.iconst 1, 1)) ∧ (decode cL_end 17 = .ok (.ireturn, 1)) ∧ (decode cL_end 18 = .ok (.iconst 0, 1)) ∧ (decode cL_end 19 = .ok (.ireturn, 1)) := by decide +kernel
theorem dL_end_0 : decode cL_end 0 = .ok (.aload_n 3, 1) := bL_end_0.1
theorem dL_end_1 : decode cL_end 1 = .ok (.aload_n 0, 1) := bL_end_0.2.1
theorem dL_end_2 : decode cL_end 2 = .ok (.iload_n 1, 1) := bL_end_0.2.2.1
theorem dL_end_3 : decode cL_end 3 = .ok (.iload_n 2, 1) := bL_end_0.2.2.2.1
theorem dL_end_4 : decode cL_end 4 = .ok (.invokevirtual 135, 3) := bL_end_0.2.2.2.2.1
theorem dL_end_7 : decode cL_end 7 = .ok (.i2l, 1) := bL_end_0.2.2.2.2.2.1
theorem dL_end_8 : decode cL_end 8 = .ok (.putfield 13, 3) := bL_end_0.2.2.2.2.2.2.1
theorem dL_end_11 : decode cL_end 11 = .ok (.goto 7, 3) := bL_end_0.2.2.2.2.2.2.2.1
theorem dL_end_14 : decode cL_end 14 = .ok (.astore 4, 2) := bL_end_0.2.2.2.2.2.2.2.2.1
theorem dL_end_16 : decode cL_end 16 = .ok (.iconst 1, 1) := bL_end_0.2.2.2.2.2.2.2.2.2.1
theorem dL_end_17 : decode cL_end 17 = .ok (.ireturn, 1) := bL_end_0.2.2.2.2.2.2.2.2.2.2.1
theorem dL_end_18 : decode cL_end 18 = .ok (.iconst 0, 1) := bL_end_0.2.2.2.2.2.2.2.2.2.2.2.1
theorem dL_end_19 : decode cL_end 19 = .ok (.ireturn, 1) := bL_end_0.2.2.2.2.2.2.2.2.2.2.2.2
set_option maxRecDepth 100000 in
theorem bL_unlike_0 : (decode cL_unlike 0 = .ok (.aload_n 2, 1)) ∧ (decode cL_unlike 1 = .ok (.aload_n 0, 1)) ∧ (decode cL_unlike 2 = .ok (.iload_n 1, 1)) ∧ (decode cL_unlike 3 = .ok (.invokevirtual 139, 3)) ∧ (decode cL_unlike 6 = .ok (.i2l, 1)) ∧ (decode cL_unlike 7 = .ok (.putfield 13, 3)) ∧ (decode cL_unlike 10 = .ok (.goto 6, 3)) ∧ (decode cL_unlike 13 = .ok (.astore_n 3, 1)) ∧ (decode cL_unlike 14 = .ok (.iconst 1, 1)) ∧ (decode cL_unlike 15 = .ok (.ireturn, 1)) ∧ (decode cL_unlike 16 = .ok (.iconst 0, 1)) ∧ (decode cL_unlike 17 = .ok (.ireturn, 1)) := by decide +kernel
theorem dL_unlike_0 : decode cL_unlike 0 = .ok (.aload_n 2, 1) := bL_unlike_0.1
theorem dL_unlike_1 : decode cL_unlike 1 = .ok (.aload_n 0, 1) := bL_unlike_0.2.1
theorem dL_unlike_2 : decode cL_unlike 2 = .ok (.iload_n 1, 1) := bL_unlike_0.2.2.1
theorem dL_unlike_3 : decode cL_unlike 3 = .ok (.invokevirtual 139, 3) := bL_unlike_0.2.2.2.1
theorem dL_unlike_6 : decode cL_unlike 6 = .ok (.i2l, 1) := bL_unlike_0.2.2.2.2.1
theorem dL_unlike_7 : decode cL_unlike 7 = .ok (.putfield 13, 3) := bL_unlike_0.2.2.2.2.2.1
theorem dL_unlike_10 : decode cL_unlike 10 = .ok (.goto 6, 3) := bL_unlike_0.2.2.2.2.2.2.1
theorem dL_unlike_13 : decode cL_unlike 13 = .ok (.astore_n 3, 1) := bL_unlike_0.2.2.2.2.2.2.2.1
theorem dL_unlike_14 : decode cL_unlike 14 = .ok (.iconst 1, 1) := bL_unlike_0.2.2.2.2.2.2.2.2.1
theorem dL_unlike_15 : decode cL_unlike 15 = .ok (.ireturn, 1) := bL_unlike_0.2.2.2.2.2.2.2.2.2.1
theorem dL_unlike_16 : decode cL_unlike 16 = .ok (.iconst 0, 1) := bL_unlike_0.2.2.2.2.2.2.2.2.2.2.1
theorem dL_unlike_17 : decode cL_unlike 17 = .ok (.ireturn, 1) := bL_unlike_0.2.2.2.2.2.2.2.2.2.2.2
set_option maxRecDepth 100000 in
theorem bL_most_0 : (decode cL_most 0 = .ok (.aload_n 2, 1)) ∧ (decode cL_most 1 = .ok (.aload_n 0, 1)) ∧ (decode cL_most 2 = .ok (.iload_n 1, 1)) ∧ (decode cL_most 3 = .ok (.invokevirtual 142, 3)) ∧ (decode cL_most 6 = .ok (.i2l, 1)) ∧ (decode cL_most 7 = .ok (.putfield 13, 3)) ∧ (decode cL_most 10 = .ok (.goto 6, 3)) ∧ (decode cL_most 13 = .ok (.astore_n 3, 1)) ∧ (decode cL_most 14 = .ok (.iconst 1, 1)) ∧ (decode cL_most 15 = .ok (.ireturn, 1)) ∧ (decode cL_most 16 = .ok (.iconst 0, 1)) ∧ (decode cL_most 17 = .ok (.ireturn, 1)) := by decide +kernel
theorem dL_most_0 : decode cL_most 0 = .ok (.aload_n 2, 1) := bL_most_0.1
theorem dL_most_1 : decode cL_most 1 = .ok (.aload_n 0, 1) := bL_most_0.2.1
theorem dL_most_2 : decode cL_most 2 = .ok (.iload_n 1, 1) := bL_most_0.2.2.1
theorem dL_most_3 : decode cL_most 3 = .ok (.invokevirtual 142, 3) := bL_most_0.2.2.2.1
theorem dL_most_6 : decode cL_most 6 = .ok (.i2l, 1) := bL_most_0.2.2.2.2.1
theorem dL_most_7 : decode cL_most 7 = .ok (.putfield 13, 3) := bL_most_0.2.2.2.2.2.1
theorem dL_most_10 : decode cL_most 10 = .ok (.goto 6, 3) := bL_most_0.2.2.2.2.2.2.1
theorem dL_most_13 : decode cL_most 13 = .ok (.astore_n 3, 1) := bL_most_0.2.2.2.2.2.2.2.1
theorem dL_most_14 : decode cL_most 14 = .ok (.iconst 1, 1) := bL_most_0.2.2.2.2.2.2.2.2.1
theorem dL_most_15 : decode cL_most 15 = .ok (.ireturn, 1) := bL_most_0.2.2.2.2.2.2.2.2.2.1
theorem dL_most_16 : decode cL_most 16 = .ok (.iconst 0, 1) := bL_most_0.2.2.2.2.2.2.2.2.2.2.1
theorem dL_most_17 : decode cL_most 17 = .ok (.ireturn, 1) := bL_most_0.2.2.2.2.2.2.2.2.2.2.2
set_option maxRecDepth 100000 in
theorem bL_sum_0 : (decode cL_sum 0 = .ok (.aload_n 2, 1)) ∧ (decode cL_sum 1 = .ok (.aload_n 0, 1)) ∧ (decode cL_sum 2 = .ok (.iload_n 1, 1)) ∧ (decode cL_sum 3 = .ok (.invokevirtual 145, 3)) ∧ (decode cL_sum 6 = .ok (.i2l, 1)) ∧ (decode cL_sum 7 = .ok (.putfield 13, 3)) ∧ (decode cL_sum 10 = .ok (.goto 6, 3)) ∧ (decode cL_sum 13 = .ok (.astore_n 3, 1)) ∧ (decode cL_sum 14 = .ok (.iconst 1, 1)) ∧ (decode cL_sum 15 = .ok (.ireturn, 1)) ∧ (decode cL_sum 16 = .ok (.iconst 0, 1)) ∧ (decode cL_sum 17 = .ok (.ireturn, 1)) := by decide +kernel
theorem dL_sum_0 : decode cL_sum 0 = .ok (.aload_n 2, 1) := bL_sum_0.1
theorem dL_sum_1 : decode cL_sum 1 = .ok (.aload_n 0, 1) := bL_sum_0.2.1
theorem dL_sum_2 : decode cL_sum 2 = .ok (.iload_n 1, 1) := bL_sum_0.2.2.1
theorem dL_sum_3 : decode cL_sum 3 = .ok (.invokevirtual 145, 3) := bL_sum_0.2.2.2.1
theorem dL_sum_6 : decode cL_sum 6 = .ok (.i2l, 1) := bL_sum_0.2.2.2.2.1
theorem dL_sum_7 : decode cL_sum 7 = .ok (.putfield 13, 3) := bL_sum_0.2.2.2.2.2.1
theorem dL_sum_10 : decode cL_sum 10 = .ok (.goto 6, 3) := bL_sum_0.2.2.2.2.2.2.1
theorem dL_sum_13 : decode cL_sum 13 = .ok (.astore_n 3, 1) := bL_sum_0.2.2.2.2.2.2.2.1
theorem dL_sum_14 : decode cL_sum 14 = .ok (.iconst 1, 1) := bL_sum_0.2.2.2.2.2.2.2.2.1
theorem dL_sum_15 : decode cL_sum 15 = .ok (.ireturn, 1) := bL_sum_0.2.2.2.2.2.2.2.2.2.1
theorem dL_sum_16 : decode cL_sum 16 = .ok (.iconst 0, 1) := bL_sum_0.2.2.2.2.2.2.2.2.2.2.1
theorem dL_sum_17 : decode cL_sum 17 = .ok (.ireturn, 1) := bL_sum_0.2.2.2.2.2.2.2.2.2.2.2
set_option maxRecDepth 100000 in
theorem bL_same_0 : (decode cL_same 0 = .ok (.aload_n 3, 1)) ∧ (decode cL_same 1 = .ok (.aload_n 0, 1)) ∧ (decode cL_same 2 = .ok (.iload_n 1, 1)) ∧ (decode cL_same 3 = .ok (.iload_n 2, 1)) ∧ (decode cL_same 4 = .ok (.invokevirtual 148, 3)) ∧ (decode cL_same 7 = .ok (.ifCond .eq 7, 3)) ∧ (decode cL_same 10 = .ok (.lconst 1, 1)) ∧ (decode cL_same 11 = .ok (.goto 4, 3)) ∧ (decode cL_same 14 = .ok (.lconst 0, 1)) ∧ (decode cL_same 15 = .ok (.putfield 13, 3)) ∧ (decode cL_same 18 = .ok (.goto 7, 3)) ∧ (decode cL_same 21 = .ok (.astore 4, 2)) ∧ (decode cL_same 23 = .ok (.iconst 1, 1)) ∧ (decode cL_same 24 = .ok (.ireturn, 1)) ∧ (decode cL_same 25 = .ok (.iconst 0, 1)) ∧ (decode cL_same 26 = .ok (.ireturn, 1)) := by decide +kernel
theorem dL_same_0 : decode cL_same 0 = .ok (.aload_n 3, 1) := bL_same_0.1
theorem dL_same_1 : decode cL_same 1 = .ok (.aload_n 0, 1) := bL_same_0.2.1
theorem dL_same_2 : decode cL_same 2 = .ok (.iload_n 1, 1) := bL_same_0.2.2.1
theorem dL_same_3 : decode cL_same 3 = .ok (.iload_n 2, 1) := bL_same_0.2.2.2.1
theorem dL_same_4 : decode cL_same 4 = .ok (.invokevirtual 148, 3) := bL_same_0.2.2.2.2.1
theorem dL_same_7 : decode cL_same 7 = .ok (.ifCond .eq 7, 3) := bL_same_0.2.2.2.2.2.1
theorem dL_same_10 : decode cL_same 10 = .ok (.lconst 1, 1) := bL_same_0.2.2.2.2.2.2.1
theorem dL_same_11 : decode cL_same 11 = .ok (.goto 4, 3) := bL_same_0.2.2.2.2.2.2.2.1
theorem dL_same_14 : decode cL_same 14 = .ok (.lconst 0, 1) := bL_same_0.2.2.2.2.2.2.2.2.1
theorem dL_same_15 : decode cL_same 15 = .ok (.putfield 13, 3) := bL_same_0.2.2.2.2.2.2.2.2.2.1
theorem dL_same_18 : decode cL_same 18 = .ok (.goto 7, 3) := bL_same_0.2.2.2.2.2.2.2.2.2.2.1
theorem dL_same_21 : decode cL_same 21 = .ok (.astore 4, 2) := bL_same_0.2.2.2.2.2.2.2.2.2.2.2.1
theorem dL_same_23 : decode cL_same 23 = .ok (.iconst 1, 1) := bL_same_0.2.2.2.2.2.2.2.2.2.2.2.2.1
theorem dL_same_24 : decode cL_same 24 = .ok (.ireturn, 1) := bL_same_0.2.2.2.2.2.2.2.2.2.2.2.2.2.1
theorem dL_same_25 : decode cL_same 25 = .ok (.iconst 0, 1) := bL_same_0.2.2.2.2.2.2.2.2.2.2.2.2.2.2.1
theorem dL_same_26 : decode cL_same 26 = .ok (.ireturn, 1) := bL_same_0.2.2.2.2.2.2.2.2.2.2.2.2.2.2.2
set_option maxRecDepth 100000 in
theorem bL_bag_0 : (decode cL_bag 0 = .ok (.aload_n 3, 1)) ∧ (decode cL_bag 1 = .ok (.aload_n 0, 1)) ∧ (decode cL_bag 2 = .ok (.iload_n 1, 1)) ∧ (decode cL_bag 3 = .ok (.iload_n 2, 1)) ∧ (decode cL_bag 4 = .ok (.invokevirtual 152, 3)) ∧ (decode cL_bag 7 = .ok (.ifCond .eq 7, 3)) ∧ (decode cL_bag 10 = .ok (.lconst 1, 1)) ∧ (decode cL_bag 11 = .ok (.goto 4, 3)) ∧ (decode cL_bag 14 = .ok (.lconst 0, 1)) ∧ (decode cL_bag 15 = .ok (.putfield 13, 3)) ∧ (decode cL_bag 18 = .ok (.goto 7, 3)) ∧ (decode cL_bag 21 = .ok (.astore 4, 2)) ∧ (decode cL_bag 23 = .ok (.iconst 1, 1)) ∧ (decode cL_bag 24 = .ok (.ireturn, 1)) ∧ (decode cL_bag 25 = .ok (.iconst 0, 1)) ∧ (decode cL_bag 26 = .ok (.ireturn, 1)) := by decide +kernel
theorem dL_bag_0 : decode cL_bag 0 = .ok (.aload_n 3, 1) := bL_bag_0.1
theorem dL_bag_1 : decode cL_bag 1 = .ok (.aload_n 0, 1) := bL_bag_0.2.1
theorem dL_bag_2 : decode cL_bag 2 = .ok (.iload_n 1, 1) := bL_bag_0.2.2.1
theorem dL_bag_3 : decode cL_bag 3 = .ok (.iload_n 2, 1) := bL_bag_0.2.2.2.1
theorem dL_bag_4 : decode cL_bag 4 = .ok (.invokevirtual 152, 3) := bL_bag_0.2.2.2.2.1
theorem dL_bag_7 : decode cL_bag 7 = .ok (.ifCond .eq 7, 3) := bL_bag_0.2.2.2.2.2.1
theorem dL_bag_10 : decode cL_bag 10 = .ok (.lconst 1, 1) := bL_bag_0.2.2.2.2.2.2.1
theorem dL_bag_11 : decode cL_bag 11 = .ok (.goto 4, 3) := bL_bag_0.2.2.2.2.2.2.2.1
theorem dL_bag_14 : decode cL_bag 14 = .ok (.lconst 0, 1) := bL_bag_0.2.2.2.2.2.2.2.2.1
theorem dL_bag_15 : decode cL_bag 15 = .ok (.putfield 13, 3) := bL_bag_0.2.2.2.2.2.2.2.2.2.1
theorem dL_bag_18 : decode cL_bag 18 = .ok (.goto 7, 3) := bL_bag_0.2.2.2.2.2.2.2.2.2.2.1
theorem dL_bag_21 : decode cL_bag 21 = .ok (.astore 4, 2) := bL_bag_0.2.2.2.2.2.2.2.2.2.2.2.1
theorem dL_bag_23 : decode cL_bag 23 = .ok (.iconst 1, 1) := bL_bag_0.2.2.2.2.2.2.2.2.2.2.2.2.1
theorem dL_bag_24 : decode cL_bag 24 = .ok (.ireturn, 1) := bL_bag_0.2.2.2.2.2.2.2.2.2.2.2.2.2.1
theorem dL_bag_25 : decode cL_bag 25 = .ok (.iconst 0, 1) := bL_bag_0.2.2.2.2.2.2.2.2.2.2.2.2.2.2.1
theorem dL_bag_26 : decode cL_bag 26 = .ok (.ireturn, 1) := bL_bag_0.2.2.2.2.2.2.2.2.2.2.2.2.2.2.2
set_option maxRecDepth 100000 in
theorem bL_mark_0 : (decode cL_mark 0 = .ok (.aload_n 3, 1)) ∧ (decode cL_mark 1 = .ok (.aload_n 0, 1)) ∧ (decode cL_mark 2 = .ok (.iload_n 1, 1)) ∧ (decode cL_mark 3 = .ok (.iload_n 2, 1)) ∧ (decode cL_mark 4 = .ok (.invokevirtual 155, 3)) ∧ (decode cL_mark 7 = .ok (.i2l, 1)) ∧ (decode cL_mark 8 = .ok (.putfield 13, 3)) ∧ (decode cL_mark 11 = .ok (.goto 7, 3)) ∧ (decode cL_mark 14 = .ok (.astore 4, 2)) ∧ (decode cL_mark 16 = .ok (.iconst 1, 1)) ∧ (decode cL_mark 17 = .ok (.ireturn, 1)) ∧ (decode cL_mark 18 = .ok (.iconst 0, 1)) ∧ (decode cL_mark 19 = .ok (.ireturn, 1)) := by decide +kernel
theorem dL_mark_0 : decode cL_mark 0 = .ok (.aload_n 3, 1) := bL_mark_0.1
theorem dL_mark_1 : decode cL_mark 1 = .ok (.aload_n 0, 1) := bL_mark_0.2.1
theorem dL_mark_2 : decode cL_mark 2 = .ok (.iload_n 1, 1) := bL_mark_0.2.2.1
theorem dL_mark_3 : decode cL_mark 3 = .ok (.iload_n 2, 1) := bL_mark_0.2.2.2.1
theorem dL_mark_4 : decode cL_mark 4 = .ok (.invokevirtual 155, 3) := bL_mark_0.2.2.2.2.1
theorem dL_mark_7 : decode cL_mark 7 = .ok (.i2l, 1) := bL_mark_0.2.2.2.2.2.1
theorem dL_mark_8 : decode cL_mark 8 = .ok (.putfield 13, 3) := bL_mark_0.2.2.2.2.2.2.1
theorem dL_mark_11 : decode cL_mark 11 = .ok (.goto 7, 3) := bL_mark_0.2.2.2.2.2.2.2.1
theorem dL_mark_14 : decode cL_mark 14 = .ok (.astore 4, 2) := bL_mark_0.2.2.2.2.2.2.2.2.1
theorem dL_mark_16 : decode cL_mark 16 = .ok (.iconst 1, 1) := bL_mark_0.2.2.2.2.2.2.2.2.2.1
theorem dL_mark_17 : decode cL_mark 17 = .ok (.ireturn, 1) := bL_mark_0.2.2.2.2.2.2.2.2.2.2.1
theorem dL_mark_18 : decode cL_mark 18 = .ok (.iconst 0, 1) := bL_mark_0.2.2.2.2.2.2.2.2.2.2.2.1
theorem dL_mark_19 : decode cL_mark 19 = .ok (.ireturn, 1) := bL_mark_0.2.2.2.2.2.2.2.2.2.2.2.2
set_option maxRecDepth 100000 in
theorem bL_house_0 : (decode cL_house 0 = .ok (.aload_n 2, 1)) ∧ (decode cL_house 1 = .ok (.aload_n 0, 1)) ∧ (decode cL_house 2 = .ok (.iload_n 1, 1)) ∧ (decode cL_house 3 = .ok (.invokevirtual 158, 3)) ∧ (decode cL_house 6 = .ok (.i2l, 1)) ∧ (decode cL_house 7 = .ok (.putfield 13, 3)) ∧ (decode cL_house 10 = .ok (.goto 6, 3)) ∧ (decode cL_house 13 = .ok (.astore_n 3, 1)) ∧ (decode cL_house 14 = .ok (.iconst 1, 1)) ∧ (decode cL_house 15 = .ok (.ireturn, 1)) ∧ (decode cL_house 16 = .ok (.iconst 0, 1)) ∧ (decode cL_house 17 = .ok (.ireturn, 1)) := by decide +kernel
theorem dL_house_0 : decode cL_house 0 = .ok (.aload_n 2, 1) := bL_house_0.1
theorem dL_house_1 : decode cL_house 1 = .ok (.aload_n 0, 1) := bL_house_0.2.1
theorem dL_house_2 : decode cL_house 2 = .ok (.iload_n 1, 1) := bL_house_0.2.2.1
theorem dL_house_3 : decode cL_house 3 = .ok (.invokevirtual 158, 3) := bL_house_0.2.2.2.1
theorem dL_house_6 : decode cL_house 6 = .ok (.i2l, 1) := bL_house_0.2.2.2.2.1
theorem dL_house_7 : decode cL_house 7 = .ok (.putfield 13, 3) := bL_house_0.2.2.2.2.2.1
theorem dL_house_10 : decode cL_house 10 = .ok (.goto 6, 3) := bL_house_0.2.2.2.2.2.2.1
theorem dL_house_13 : decode cL_house 13 = .ok (.astore_n 3, 1) := bL_house_0.2.2.2.2.2.2.2.1
theorem dL_house_14 : decode cL_house 14 = .ok (.iconst 1, 1) := bL_house_0.2.2.2.2.2.2.2.2.1
theorem dL_house_15 : decode cL_house 15 = .ok (.ireturn, 1) := bL_house_0.2.2.2.2.2.2.2.2.2.1
theorem dL_house_16 : decode cL_house 16 = .ok (.iconst 0, 1) := bL_house_0.2.2.2.2.2.2.2.2.2.2.1
theorem dL_house_17 : decode cL_house 17 = .ok (.ireturn, 1) := bL_house_0.2.2.2.2.2.2.2.2.2.2.2
