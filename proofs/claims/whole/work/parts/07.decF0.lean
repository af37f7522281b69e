/-! decode rows of FilterBench$Filter, methods 0 to 99 (by program: wip/gen/decs.py) -/
theorem d_F_init_0 : decode b_F_init 0 = .ok (.aload_n 0, 1) := by decide +kernel
theorem d_F_init_1 : decode b_F_init 1 = .ok (.invokespecial 3, 3) := by decide +kernel
theorem d_F_init_4 : decode b_F_init 4 = .ok (.aload_n 0, 1) := by decide +kernel
theorem d_F_init_5 : decode b_F_init 5 = .ok (.bipush 32, 2) := by decide +kernel
theorem d_F_init_7 : decode b_F_init 7 = .ok (.newarray .int, 2) := by decide +kernel
theorem d_F_init_9 : decode b_F_init 9 = .ok (.putfield 9, 3) := by decide +kernel
theorem d_F_init_12 : decode b_F_init 12 = .ok (.aload_n 0, 1) := by decide +kernel
theorem d_F_init_13 : decode b_F_init 13 = .ok (.bipush 32, 2) := by decide +kernel
theorem d_F_init_15 : decode b_F_init 15 = .ok (.newarray .int, 2) := by decide +kernel
theorem d_F_init_17 : decode b_F_init 17 = .ok (.putfield 13, 3) := by decide +kernel
theorem d_F_init_20 : decode b_F_init 20 = .ok (.aload_n 0, 1) := by decide +kernel
theorem d_F_init_21 : decode b_F_init 21 = .ok (.bipush 32, 2) := by decide +kernel
theorem d_F_init_23 : decode b_F_init 23 = .ok (.newarray .int, 2) := by decide +kernel
theorem d_F_init_25 : decode b_F_init 25 = .ok (.putfield 16, 3) := by decide +kernel
theorem d_F_init_28 : decode b_F_init 28 = .ok (.return_, 1) := by decide +kernel
theorem d_F_size_0 : decode b_F_size 0 = .ok (.aload_n 0, 1) := by decide +kernel
theorem d_F_size_1 : decode b_F_size 1 = .ok (.getfield 19, 3) := by decide +kernel
theorem d_F_size_4 : decode b_F_size 4 = .ok (.ireturn, 1) := by decide +kernel
theorem d_F_add_0 : decode b_F_add 0 = .ok (.aload_n 0, 1) := by decide +kernel
theorem d_F_add_1 : decode b_F_add 1 = .ok (.getfield 9, 3) := by decide +kernel
theorem d_F_add_4 : decode b_F_add 4 = .ok (.aload_n 0, 1) := by decide +kernel
theorem d_F_add_5 : decode b_F_add 5 = .ok (.getfield 19, 3) := by decide +kernel
theorem d_F_add_8 : decode b_F_add 8 = .ok (.iload_n 1, 1) := by decide +kernel
theorem d_F_add_9 : decode b_F_add 9 = .ok (.iastore, 1) := by decide +kernel
theorem d_F_add_10 : decode b_F_add 10 = .ok (.aload_n 0, 1) := by decide +kernel
theorem d_F_add_11 : decode b_F_add 11 = .ok (.getfield 13, 3) := by decide +kernel
theorem d_F_add_14 : decode b_F_add 14 = .ok (.aload_n 0, 1) := by decide +kernel
theorem d_F_add_15 : decode b_F_add 15 = .ok (.getfield 19, 3) := by decide +kernel
theorem d_F_add_18 : decode b_F_add 18 = .ok (.iload_n 2, 1) := by decide +kernel
theorem d_F_add_19 : decode b_F_add 19 = .ok (.iastore, 1) := by decide +kernel
theorem d_F_add_20 : decode b_F_add 20 = .ok (.aload_n 0, 1) := by decide +kernel
theorem d_F_add_21 : decode b_F_add 21 = .ok (.dup, 1) := by decide +kernel
theorem d_F_add_22 : decode b_F_add 22 = .ok (.getfield 19, 3) := by decide +kernel
theorem d_F_add_25 : decode b_F_add 25 = .ok (.iconst 1, 1) := by decide +kernel
theorem d_F_add_26 : decode b_F_add 26 = .ok (.iadd, 1) := by decide +kernel
theorem d_F_add_27 : decode b_F_add 27 = .ok (.putfield 19, 3) := by decide +kernel
theorem d_F_add_30 : decode b_F_add 30 = .ok (.return_, 1) := by decide +kernel
theorem d_F_cleared_0 : decode b_F_cleared 0 = .ok (.aload_n 0, 1) := by decide +kernel
theorem d_F_cleared_1 : decode b_F_cleared 1 = .ok (.getfield 19, 3) := by decide +kernel
theorem d_F_cleared_4 : decode b_F_cleared 4 = .ok (.istore_n 1, 1) := by decide +kernel
theorem d_F_cleared_5 : decode b_F_cleared 5 = .ok (.aload_n 0, 1) := by decide +kernel
theorem d_F_cleared_6 : decode b_F_cleared 6 = .ok (.iconst 0, 1) := by decide +kernel
theorem d_F_cleared_7 : decode b_F_cleared 7 = .ok (.putfield 19, 3) := by decide +kernel
theorem d_F_cleared_10 : decode b_F_cleared 10 = .ok (.iload_n 1, 1) := by decide +kernel
theorem d_F_cleared_11 : decode b_F_cleared 11 = .ok (.ireturn, 1) := by decide +kernel
theorem d_F_isRight_0 : decode b_F_isRight 0 = .ok (.aload_n 0, 1) := by decide +kernel
theorem d_F_isRight_1 : decode b_F_isRight 1 = .ok (.iconst 0, 1) := by decide +kernel
theorem d_F_isRight_2 : decode b_F_isRight 2 = .ok (.iconst 0, 1) := by decide +kernel
theorem d_F_isRight_3 : decode b_F_isRight 3 = .ok (.invokevirtual 23, 3) := by decide +kernel
theorem d_F_isRight_6 : decode b_F_isRight 6 = .ok (.aload_n 0, 1) := by decide +kernel
theorem d_F_isRight_7 : decode b_F_isRight 7 = .ok (.getfield 19, 3) := by decide +kernel
theorem d_F_isRight_10 : decode b_F_isRight 10 = .ok (.if_icmp .ne 7, 3) := by decide +kernel
theorem d_F_isRight_13 : decode b_F_isRight 13 = .ok (.iconst 1, 1) := by decide +kernel
theorem d_F_isRight_14 : decode b_F_isRight 14 = .ok (.goto 4, 3) := by decide +kernel
theorem d_F_isRight_17 : decode b_F_isRight 17 = .ok (.iconst 0, 1) := by decide +kernel
theorem d_F_isRight_18 : decode b_F_isRight 18 = .ok (.ireturn, 1) := by decide +kernel
theorem d_F_opAt_0 : decode b_F_opAt 0 = .ok (.aload_n 0, 1) := by decide +kernel
theorem d_F_opAt_1 : decode b_F_opAt 1 = .ok (.getfield 9, 3) := by decide +kernel
theorem d_F_opAt_4 : decode b_F_opAt 4 = .ok (.iload_n 1, 1) := by decide +kernel
theorem d_F_opAt_5 : decode b_F_opAt 5 = .ok (.iaload, 1) := by decide +kernel
theorem d_F_opAt_6 : decode b_F_opAt 6 = .ok (.ireturn, 1) := by decide +kernel
theorem d_F_choiceAt_0 : decode b_F_choiceAt 0 = .ok (.aload_n 0, 1) := by decide +kernel
theorem d_F_choiceAt_1 : decode b_F_choiceAt 1 = .ok (.getfield 13, 3) := by decide +kernel
theorem d_F_choiceAt_4 : decode b_F_choiceAt 4 = .ok (.iload_n 1, 1) := by decide +kernel
theorem d_F_choiceAt_5 : decode b_F_choiceAt 5 = .ok (.iaload, 1) := by decide +kernel
theorem d_F_choiceAt_6 : decode b_F_choiceAt 6 = .ok (.ireturn, 1) := by decide +kernel
theorem d_F_firstPart_0 : decode b_F_firstPart 0 = .ok (.iload_n 1, 1) := by decide +kernel
theorem d_F_firstPart_1 : decode b_F_firstPart 1 = .ok (.iconst 1, 1) := by decide +kernel
theorem d_F_firstPart_2 : decode b_F_firstPart 2 = .ok (.iadd, 1) := by decide +kernel
theorem d_F_firstPart_3 : decode b_F_firstPart 3 = .ok (.ireturn, 1) := by decide +kernel
theorem d_F_secondPart_0 : decode b_F_secondPart 0 = .ok (.aload_n 0, 1) := by decide +kernel
theorem d_F_secondPart_1 : decode b_F_secondPart 1 = .ok (.getfield 16, 3) := by decide +kernel
theorem d_F_secondPart_4 : decode b_F_secondPart 4 = .ok (.iload_n 1, 1) := by decide +kernel
theorem d_F_secondPart_5 : decode b_F_secondPart 5 = .ok (.iconst 1, 1) := by decide +kernel
theorem d_F_secondPart_6 : decode b_F_secondPart 6 = .ok (.iadd, 1) := by decide +kernel
theorem d_F_secondPart_7 : decode b_F_secondPart 7 = .ok (.iaload, 1) := by decide +kernel
theorem d_F_secondPart_8 : decode b_F_secondPart 8 = .ok (.ireturn, 1) := by decide +kernel
theorem d_F_thirdPart_0 : decode b_F_thirdPart 0 = .ok (.aload_n 0, 1) := by decide +kernel
theorem d_F_thirdPart_1 : decode b_F_thirdPart 1 = .ok (.getfield 16, 3) := by decide +kernel
theorem d_F_thirdPart_4 : decode b_F_thirdPart 4 = .ok (.aload_n 0, 1) := by decide +kernel
theorem d_F_thirdPart_5 : decode b_F_thirdPart 5 = .ok (.getfield 16, 3) := by decide +kernel
theorem d_F_thirdPart_8 : decode b_F_thirdPart 8 = .ok (.iload_n 1, 1) := by decide +kernel
theorem d_F_thirdPart_9 : decode b_F_thirdPart 9 = .ok (.iconst 1, 1) := by decide +kernel
theorem d_F_thirdPart_10 : decode b_F_thirdPart 10 = .ok (.iadd, 1) := by decide +kernel
theorem d_F_thirdPart_11 : decode b_F_thirdPart 11 = .ok (.iaload, 1) := by decide +kernel
theorem d_F_thirdPart_12 : decode b_F_thirdPart 12 = .ok (.iaload, 1) := by decide +kernel
theorem d_F_thirdPart_13 : decode b_F_thirdPart 13 = .ok (.ireturn, 1) := by decide +kernel
theorem d_F_endOf_0 : decode b_F_endOf 0 = .ok (.iload_n 1, 1) := by decide +kernel
theorem d_F_endOf_1 : decode b_F_endOf 1 = .ok (.aload_n 0, 1) := by decide +kernel
theorem d_F_endOf_2 : decode b_F_endOf 2 = .ok (.getfield 19, 3) := by decide +kernel
theorem d_F_endOf_5 : decode b_F_endOf 5 = .ok (.if_icmp .ge 9, 3) := by decide +kernel
theorem d_F_endOf_8 : decode b_F_endOf 8 = .ok (.iload_n 2, 1) := by decide +kernel
theorem d_F_endOf_9 : decode b_F_endOf 9 = .ok (.bipush 7, 2) := by decide +kernel
theorem d_F_endOf_11 : decode b_F_endOf 11 = .ok (.if_icmp .le 6, 3) := by decide +kernel
theorem d_F_endOf_14 : decode b_F_endOf 14 = .ok (.bipush 33, 2) := by decide +kernel
theorem d_F_endOf_16 : decode b_F_endOf 16 = .ok (.ireturn, 1) := by decide +kernel
theorem d_F_endOf_17 : decode b_F_endOf 17 = .ok (.iload_n 1, 1) := by decide +kernel
theorem d_F_endOf_18 : decode b_F_endOf 18 = .ok (.iconst 1, 1) := by decide +kernel
theorem d_F_endOf_19 : decode b_F_endOf 19 = .ok (.iadd, 1) := by decide +kernel
theorem d_F_endOf_20 : decode b_F_endOf 20 = .ok (.istore_n 3, 1) := by decide +kernel
theorem d_F_endOf_21 : decode b_F_endOf 21 = .ok (.iconst 0, 1) := by decide +kernel
theorem d_F_endOf_22 : decode b_F_endOf 22 = .ok (.istore 4, 2) := by decide +kernel
theorem d_F_endOf_24 : decode b_F_endOf 24 = .ok (.iload 4, 2) := by decide +kernel
theorem d_F_endOf_26 : decode b_F_endOf 26 = .ok (.aload_n 0, 1) := by decide +kernel
theorem d_F_endOf_27 : decode b_F_endOf 27 = .ok (.getfield 9, 3) := by decide +kernel
theorem d_F_endOf_30 : decode b_F_endOf 30 = .ok (.iload_n 1, 1) := by decide +kernel
theorem d_F_endOf_31 : decode b_F_endOf 31 = .ok (.iaload, 1) := by decide +kernel
theorem d_F_endOf_32 : decode b_F_endOf 32 = .ok (.invokestatic 27, 3) := by decide +kernel
theorem d_F_endOf_35 : decode b_F_endOf 35 = .ok (.if_icmp .ge 18, 3) := by decide +kernel
theorem d_F_endOf_38 : decode b_F_endOf 38 = .ok (.aload_n 0, 1) := by decide +kernel
theorem d_F_endOf_39 : decode b_F_endOf 39 = .ok (.iload_n 3, 1) := by decide +kernel
theorem d_F_endOf_40 : decode b_F_endOf 40 = .ok (.iload_n 2, 1) := by decide +kernel
theorem d_F_endOf_41 : decode b_F_endOf 41 = .ok (.iconst 1, 1) := by decide +kernel
theorem d_F_endOf_42 : decode b_F_endOf 42 = .ok (.iadd, 1) := by decide +kernel
theorem d_F_endOf_43 : decode b_F_endOf 43 = .ok (.invokevirtual 23, 3) := by decide +kernel
theorem d_F_endOf_46 : decode b_F_endOf 46 = .ok (.istore_n 3, 1) := by decide +kernel
theorem d_F_endOf_47 : decode b_F_endOf 47 = .ok (.iinc 4 1, 3) := by decide +kernel
theorem d_F_endOf_50 : decode b_F_endOf 50 = .ok (.goto (-26), 3) := by decide +kernel
theorem d_F_endOf_53 : decode b_F_endOf 53 = .ok (.aload_n 0, 1) := by decide +kernel
theorem d_F_endOf_54 : decode b_F_endOf 54 = .ok (.getfield 16, 3) := by decide +kernel
theorem d_F_endOf_57 : decode b_F_endOf 57 = .ok (.iload_n 1, 1) := by decide +kernel
theorem d_F_endOf_58 : decode b_F_endOf 58 = .ok (.iload_n 3, 1) := by decide +kernel
theorem d_F_endOf_59 : decode b_F_endOf 59 = .ok (.iastore, 1) := by decide +kernel
theorem d_F_endOf_60 : decode b_F_endOf 60 = .ok (.iload_n 3, 1) := by decide +kernel
theorem d_F_endOf_61 : decode b_F_endOf 61 = .ok (.ireturn, 1) := by decide +kernel
