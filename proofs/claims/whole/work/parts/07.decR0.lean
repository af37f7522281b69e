/-! decode rows of FilterBench$Row, methods 0 to 99 (by program: wip/gen/decs.py) -/
theorem d_R_init_0 : decode b_R_init 0 = .ok (.aload_n 0, 1) := by decide +kernel
theorem d_R_init_1 : decode b_R_init 1 = .ok (.invokespecial 1, 3) := by decide +kernel
theorem d_R_init_4 : decode b_R_init 4 = .ok (.aload_n 0, 1) := by decide +kernel
theorem d_R_init_5 : decode b_R_init 5 = .ok (.bipush 16, 2) := by decide +kernel
theorem d_R_init_7 : decode b_R_init 7 = .ok (.newarray .int, 2) := by decide +kernel
theorem d_R_init_9 : decode b_R_init 9 = .ok (.putfield 9, 3) := by decide +kernel
theorem d_R_init_12 : decode b_R_init 12 = .ok (.aload_n 0, 1) := by decide +kernel
theorem d_R_init_13 : decode b_R_init 13 = .ok (.iconst (-1), 1) := by decide +kernel
theorem d_R_init_14 : decode b_R_init 14 = .ok (.putfield 13, 3) := by decide +kernel
theorem d_R_init_17 : decode b_R_init 17 = .ok (.return_, 1) := by decide +kernel
theorem d_R_clear_0 : decode b_R_clear 0 = .ok (.aload_n 0, 1) := by decide +kernel
theorem d_R_clear_1 : decode b_R_clear 1 = .ok (.iconst 0, 1) := by decide +kernel
theorem d_R_clear_2 : decode b_R_clear 2 = .ok (.putfield 17, 3) := by decide +kernel
theorem d_R_clear_5 : decode b_R_clear 5 = .ok (.aload_n 0, 1) := by decide +kernel
theorem d_R_clear_6 : decode b_R_clear 6 = .ok (.iconst (-1), 1) := by decide +kernel
theorem d_R_clear_7 : decode b_R_clear 7 = .ok (.putfield 13, 3) := by decide +kernel
theorem d_R_clear_10 : decode b_R_clear 10 = .ok (.return_, 1) := by decide +kernel
theorem d_R_put_0 : decode b_R_put 0 = .ok (.aload_n 0, 1) := by decide +kernel
theorem d_R_put_1 : decode b_R_put 1 = .ok (.getfield 17, 3) := by decide +kernel
theorem d_R_put_4 : decode b_R_put 4 = .ok (.bipush 16, 2) := by decide +kernel
theorem d_R_put_6 : decode b_R_put 6 = .ok (.if_icmp .ne 13, 3) := by decide +kernel
theorem d_R_put_9 : decode b_R_put 9 = .ok (.new 20, 3) := by decide +kernel
theorem d_R_put_12 : decode b_R_put 12 = .ok (.dup, 1) := by decide +kernel
theorem d_R_put_13 : decode b_R_put 13 = .ok (.ldc 22, 2) := by decide +kernel
theorem d_R_put_15 : decode b_R_put 15 = .ok (.invokespecial 24, 3) := by decide +kernel
theorem d_R_put_18 : decode b_R_put 18 = .ok (.athrow, 1) := by decide +kernel
theorem d_R_put_19 : decode b_R_put 19 = .ok (.aload_n 0, 1) := by decide +kernel
theorem d_R_put_20 : decode b_R_put 20 = .ok (.getfield 9, 3) := by decide +kernel
theorem d_R_put_23 : decode b_R_put 23 = .ok (.aload_n 0, 1) := by decide +kernel
theorem d_R_put_24 : decode b_R_put 24 = .ok (.getfield 17, 3) := by decide +kernel
theorem d_R_put_27 : decode b_R_put 27 = .ok (.iload_n 1, 1) := by decide +kernel
theorem d_R_put_28 : decode b_R_put 28 = .ok (.iastore, 1) := by decide +kernel
theorem d_R_put_29 : decode b_R_put 29 = .ok (.aload_n 0, 1) := by decide +kernel
theorem d_R_put_30 : decode b_R_put 30 = .ok (.dup, 1) := by decide +kernel
theorem d_R_put_31 : decode b_R_put 31 = .ok (.getfield 17, 3) := by decide +kernel
theorem d_R_put_34 : decode b_R_put 34 = .ok (.iconst 1, 1) := by decide +kernel
theorem d_R_put_35 : decode b_R_put 35 = .ok (.iadd, 1) := by decide +kernel
theorem d_R_put_36 : decode b_R_put 36 = .ok (.putfield 17, 3) := by decide +kernel
theorem d_R_put_39 : decode b_R_put 39 = .ok (.return_, 1) := by decide +kernel
theorem d_R_size_0 : decode b_R_size 0 = .ok (.aload_n 0, 1) := by decide +kernel
theorem d_R_size_1 : decode b_R_size 1 = .ok (.getfield 17, 3) := by decide +kernel
theorem d_R_size_4 : decode b_R_size 4 = .ok (.ireturn, 1) := by decide +kernel
theorem d_R_at_0 : decode b_R_at 0 = .ok (.aload_n 0, 1) := by decide +kernel
theorem d_R_at_1 : decode b_R_at 1 = .ok (.getfield 9, 3) := by decide +kernel
theorem d_R_at_4 : decode b_R_at 4 = .ok (.iload_n 1, 1) := by decide +kernel
theorem d_R_at_5 : decode b_R_at 5 = .ok (.iaload, 1) := by decide +kernel
theorem d_R_at_6 : decode b_R_at 6 = .ok (.ireturn, 1) := by decide +kernel
theorem d_R_items_0 : decode b_R_items 0 = .ok (.aload_n 0, 1) := by decide +kernel
theorem d_R_items_1 : decode b_R_items 1 = .ok (.getfield 9, 3) := by decide +kernel
theorem d_R_items_4 : decode b_R_items 4 = .ok (.areturn, 1) := by decide +kernel
theorem d_R_isEnded_0 : decode b_R_isEnded 0 = .ok (.aload_n 0, 1) := by decide +kernel
theorem d_R_isEnded_1 : decode b_R_isEnded 1 = .ok (.getfield 13, 3) := by decide +kernel
theorem d_R_isEnded_4 : decode b_R_isEnded 4 = .ok (.iconst (-1), 1) := by decide +kernel
theorem d_R_isEnded_5 : decode b_R_isEnded 5 = .ok (.if_icmp .eq 7, 3) := by decide +kernel
theorem d_R_isEnded_8 : decode b_R_isEnded 8 = .ok (.iconst 1, 1) := by decide +kernel
theorem d_R_isEnded_9 : decode b_R_isEnded 9 = .ok (.goto 4, 3) := by decide +kernel
theorem d_R_isEnded_12 : decode b_R_isEnded 12 = .ok (.iconst 0, 1) := by decide +kernel
theorem d_R_isEnded_13 : decode b_R_isEnded 13 = .ok (.ireturn, 1) := by decide +kernel
theorem d_R_error_0 : decode b_R_error 0 = .ok (.aload_n 0, 1) := by decide +kernel
theorem d_R_error_1 : decode b_R_error 1 = .ok (.getfield 13, 3) := by decide +kernel
theorem d_R_error_4 : decode b_R_error 4 = .ok (.ireturn, 1) := by decide +kernel
theorem d_R_end_0 : decode b_R_end 0 = .ok (.aload_n 0, 1) := by decide +kernel
theorem d_R_end_1 : decode b_R_end 1 = .ok (.iload_n 1, 1) := by decide +kernel
theorem d_R_end_2 : decode b_R_end 2 = .ok (.putfield 13, 3) := by decide +kernel
theorem d_R_end_5 : decode b_R_end 5 = .ok (.return_, 1) := by decide +kernel
theorem d_R_caught_0 : decode b_R_caught 0 = .ok (.aload_n 0, 1) := by decide +kernel
theorem d_R_caught_1 : decode b_R_caught 1 = .ok (.getfield 13, 3) := by decide +kernel
theorem d_R_caught_4 : decode b_R_caught 4 = .ok (.istore_n 1, 1) := by decide +kernel
theorem d_R_caught_5 : decode b_R_caught 5 = .ok (.aload_n 0, 1) := by decide +kernel
theorem d_R_caught_6 : decode b_R_caught 6 = .ok (.iconst (-1), 1) := by decide +kernel
theorem d_R_caught_7 : decode b_R_caught 7 = .ok (.putfield 13, 3) := by decide +kernel
theorem d_R_caught_10 : decode b_R_caught 10 = .ok (.iload_n 1, 1) := by decide +kernel
theorem d_R_caught_11 : decode b_R_caught 11 = .ok (.ireturn, 1) := by decide +kernel
theorem d_R_endAs_0 : decode b_R_endAs 0 = .ok (.aload_n 0, 1) := by decide +kernel
theorem d_R_endAs_1 : decode b_R_endAs 1 = .ok (.invokevirtual 27, 3) := by decide +kernel
theorem d_R_endAs_4 : decode b_R_endAs 4 = .ok (.ifCond .ne 11, 3) := by decide +kernel
theorem d_R_endAs_7 : decode b_R_endAs 7 = .ok (.aload_n 0, 1) := by decide +kernel
theorem d_R_endAs_8 : decode b_R_endAs 8 = .ok (.aload_n 1, 1) := by decide +kernel
theorem d_R_endAs_9 : decode b_R_endAs 9 = .ok (.getfield 13, 3) := by decide +kernel
theorem d_R_endAs_12 : decode b_R_endAs 12 = .ok (.putfield 13, 3) := by decide +kernel
theorem d_R_endAs_15 : decode b_R_endAs 15 = .ok (.return_, 1) := by decide +kernel
