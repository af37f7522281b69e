/-! decode rows of FilterBench$Values, methods 0 to 99 (by program: wip/gen/decs.py) -/
theorem d_V_init_0 : decode b_V_init 0 = .ok (.aload_n 0, 1) := by decide +kernel
theorem d_V_init_1 : decode b_V_init 1 = .ok (.invokespecial 7, 3) := by decide +kernel
theorem d_V_init_4 : decode b_V_init 4 = .ok (.aload_n 0, 1) := by decide +kernel
theorem d_V_init_5 : decode b_V_init 5 = .ok (.bipush 24, 2) := by decide +kernel
theorem d_V_init_7 : decode b_V_init 7 = .ok (.newarray .int, 2) := by decide +kernel
theorem d_V_init_9 : decode b_V_init 9 = .ok (.putfield 13, 3) := by decide +kernel
theorem d_V_init_12 : decode b_V_init 12 = .ok (.aload_n 0, 1) := by decide +kernel
theorem d_V_init_13 : decode b_V_init 13 = .ok (.bipush 12, 2) := by decide +kernel
theorem d_V_init_15 : decode b_V_init 15 = .ok (.newarray .int, 2) := by decide +kernel
theorem d_V_init_17 : decode b_V_init 17 = .ok (.putfield 17, 3) := by decide +kernel
theorem d_V_init_20 : decode b_V_init 20 = .ok (.aload_n 0, 1) := by decide +kernel
theorem d_V_init_21 : decode b_V_init 21 = .ok (.sipush 512, 3) := by decide +kernel
theorem d_V_init_24 : decode b_V_init 24 = .ok (.newarray .int, 2) := by decide +kernel
theorem d_V_init_26 : decode b_V_init 26 = .ok (.putfield 20, 3) := by decide +kernel
theorem d_V_init_29 : decode b_V_init 29 = .ok (.aload_n 0, 1) := by decide +kernel
theorem d_V_init_30 : decode b_V_init 30 = .ok (.bipush 118, 2) := by decide +kernel
theorem d_V_init_32 : decode b_V_init 32 = .ok (.putfield 23, 3) := by decide +kernel
theorem d_V_init_35 : decode b_V_init 35 = .ok (.iconst 0, 1) := by decide +kernel
theorem d_V_init_36 : decode b_V_init 36 = .ok (.istore_n 1, 1) := by decide +kernel
theorem d_V_init_37 : decode b_V_init 37 = .ok (.iload_n 1, 1) := by decide +kernel
theorem d_V_init_38 : decode b_V_init 38 = .ok (.iconst 2, 1) := by decide +kernel
theorem d_V_init_39 : decode b_V_init 39 = .ok (.if_icmp .gt 18, 3) := by decide +kernel
theorem d_V_init_42 : decode b_V_init 42 = .ok (.aload_n 0, 1) := by decide +kernel
theorem d_V_init_43 : decode b_V_init 43 = .ok (.iload_n 1, 1) := by decide +kernel
theorem d_V_init_44 : decode b_V_init 44 = .ok (.iconst 4, 1) := by decide +kernel
theorem d_V_init_45 : decode b_V_init 45 = .ok (.imul, 1) := by decide +kernel
theorem d_V_init_46 : decode b_V_init 46 = .ok (.iload_n 1, 1) := by decide +kernel
theorem d_V_init_47 : decode b_V_init 47 = .ok (.iconst 0, 1) := by decide +kernel
theorem d_V_init_48 : decode b_V_init 48 = .ok (.invokevirtual 27, 3) := by decide +kernel
theorem d_V_init_51 : decode b_V_init 51 = .ok (.iinc 1 1, 3) := by decide +kernel
theorem d_V_init_54 : decode b_V_init 54 = .ok (.goto (-17), 3) := by decide +kernel
theorem d_V_init_57 : decode b_V_init 57 = .ok (.aload_n 0, 1) := by decide +kernel
theorem d_V_init_58 : decode b_V_init 58 = .ok (.bipush 12, 2) := by decide +kernel
theorem d_V_init_60 : decode b_V_init 60 = .ok (.iconst 4, 1) := by decide +kernel
theorem d_V_init_61 : decode b_V_init 61 = .ok (.iconst 0, 1) := by decide +kernel
theorem d_V_init_62 : decode b_V_init 62 = .ok (.invokevirtual 27, 3) := by decide +kernel
theorem d_V_init_65 : decode b_V_init 65 = .ok (.iconst 0, 1) := by decide +kernel
theorem d_V_init_66 : decode b_V_init 66 = .ok (.istore_n 1, 1) := by decide +kernel
theorem d_V_init_67 : decode b_V_init 67 = .ok (.iload_n 1, 1) := by decide +kernel
theorem d_V_init_68 : decode b_V_init 68 = .ok (.bipush 16, 2) := by decide +kernel
theorem d_V_init_70 : decode b_V_init 70 = .ok (.if_icmp .gt 33, 3) := by decide +kernel
theorem d_V_init_73 : decode b_V_init 73 = .ok (.aload_n 0, 1) := by decide +kernel
theorem d_V_init_74 : decode b_V_init 74 = .ok (.aload_n 0, 1) := by decide +kernel
theorem d_V_init_75 : decode b_V_init 75 = .ok (.iload_n 1, 1) := by decide +kernel
theorem d_V_init_76 : decode b_V_init 76 = .ok (.invokevirtual 31, 3) := by decide +kernel
theorem d_V_init_79 : decode b_V_init 79 = .ok (.iconst 3, 1) := by decide +kernel
theorem d_V_init_80 : decode b_V_init 80 = .ok (.iconst 0, 1) := by decide +kernel
theorem d_V_init_81 : decode b_V_init 81 = .ok (.invokevirtual 27, 3) := by decide +kernel
theorem d_V_init_84 : decode b_V_init 84 = .ok (.aload_n 0, 1) := by decide +kernel
theorem d_V_init_85 : decode b_V_init 85 = .ok (.getfield 20, 3) := by decide +kernel
theorem d_V_init_88 : decode b_V_init 88 = .ok (.aload_n 0, 1) := by decide +kernel
theorem d_V_init_89 : decode b_V_init 89 = .ok (.iload_n 1, 1) := by decide +kernel
theorem d_V_init_90 : decode b_V_init 90 = .ok (.invokevirtual 31, 3) := by decide +kernel
theorem d_V_init_93 : decode b_V_init 93 = .ok (.iconst 4, 1) := by decide +kernel
theorem d_V_init_94 : decode b_V_init 94 = .ok (.iadd, 1) := by decide +kernel
theorem d_V_init_95 : decode b_V_init 95 = .ok (.iload_n 1, 1) := by decide +kernel
theorem d_V_init_96 : decode b_V_init 96 = .ok (.iastore, 1) := by decide +kernel
theorem d_V_init_97 : decode b_V_init 97 = .ok (.iinc 1 1, 3) := by decide +kernel
theorem d_V_init_100 : decode b_V_init 100 = .ok (.goto (-33), 3) := by decide +kernel
theorem d_V_init_103 : decode b_V_init 103 = .ok (.aload_n 0, 1) := by decide +kernel
theorem d_V_init_104 : decode b_V_init 104 = .ok (.aload_n 0, 1) := by decide +kernel
theorem d_V_init_105 : decode b_V_init 105 = .ok (.getfield 20, 3) := by decide +kernel
theorem d_V_init_108 : decode b_V_init 108 = .ok (.invokevirtual 35, 3) := by decide +kernel
theorem d_V_init_111 : decode b_V_init 111 = .ok (.checkcast 36, 3) := by decide +kernel
theorem d_V_init_114 : decode b_V_init 114 = .ok (.putfield 40, 3) := by decide +kernel
theorem d_V_init_117 : decode b_V_init 117 = .ok (.return_, 1) := by decide +kernel
theorem d_V_kindOf_0 : decode b_V_kindOf 0 = .ok (.aload_n 0, 1) := by decide +kernel
theorem d_V_kindOf_1 : decode b_V_kindOf 1 = .ok (.getfield 20, 3) := by decide +kernel
theorem d_V_kindOf_4 : decode b_V_kindOf 4 = .ok (.iload_n 1, 1) := by decide +kernel
theorem d_V_kindOf_5 : decode b_V_kindOf 5 = .ok (.iaload, 1) := by decide +kernel
theorem d_V_kindOf_6 : decode b_V_kindOf 6 = .ok (.ireturn, 1) := by decide +kernel
theorem d_V_lengthOf_0 : decode b_V_lengthOf 0 = .ok (.aload_n 0, 1) := by decide +kernel
theorem d_V_lengthOf_1 : decode b_V_lengthOf 1 = .ok (.getfield 20, 3) := by decide +kernel
theorem d_V_lengthOf_4 : decode b_V_lengthOf 4 = .ok (.iload_n 1, 1) := by decide +kernel
theorem d_V_lengthOf_5 : decode b_V_lengthOf 5 = .ok (.iconst 1, 1) := by decide +kernel
theorem d_V_lengthOf_6 : decode b_V_lengthOf 6 = .ok (.iadd, 1) := by decide +kernel
theorem d_V_lengthOf_7 : decode b_V_lengthOf 7 = .ok (.iaload, 1) := by decide +kernel
theorem d_V_lengthOf_8 : decode b_V_lengthOf 8 = .ok (.ireturn, 1) := by decide +kernel
theorem d_V_sizeOf_0 : decode b_V_sizeOf 0 = .ok (.aload_n 0, 1) := by decide +kernel
theorem d_V_sizeOf_1 : decode b_V_sizeOf 1 = .ok (.getfield 20, 3) := by decide +kernel
theorem d_V_sizeOf_4 : decode b_V_sizeOf 4 = .ok (.iload_n 1, 1) := by decide +kernel
theorem d_V_sizeOf_5 : decode b_V_sizeOf 5 = .ok (.iconst 2, 1) := by decide +kernel
theorem d_V_sizeOf_6 : decode b_V_sizeOf 6 = .ok (.iadd, 1) := by decide +kernel
theorem d_V_sizeOf_7 : decode b_V_sizeOf 7 = .ok (.iaload, 1) := by decide +kernel
theorem d_V_sizeOf_8 : decode b_V_sizeOf 8 = .ok (.ireturn, 1) := by decide +kernel
theorem d_V_wholeOf_0 : decode b_V_wholeOf 0 = .ok (.aload_n 0, 1) := by decide +kernel
theorem d_V_wholeOf_1 : decode b_V_wholeOf 1 = .ok (.getfield 20, 3) := by decide +kernel
theorem d_V_wholeOf_4 : decode b_V_wholeOf 4 = .ok (.iload_n 1, 1) := by decide +kernel
theorem d_V_wholeOf_5 : decode b_V_wholeOf 5 = .ok (.iconst 4, 1) := by decide +kernel
theorem d_V_wholeOf_6 : decode b_V_wholeOf 6 = .ok (.iadd, 1) := by decide +kernel
theorem d_V_wholeOf_7 : decode b_V_wholeOf 7 = .ok (.iaload, 1) := by decide +kernel
theorem d_V_wholeOf_8 : decode b_V_wholeOf 8 = .ok (.ireturn, 1) := by decide +kernel
theorem d_V_scaleOf_0 : decode b_V_scaleOf 0 = .ok (.aload_n 0, 1) := by decide +kernel
theorem d_V_scaleOf_1 : decode b_V_scaleOf 1 = .ok (.getfield 20, 3) := by decide +kernel
theorem d_V_scaleOf_4 : decode b_V_scaleOf 4 = .ok (.iload_n 1, 1) := by decide +kernel
theorem d_V_scaleOf_5 : decode b_V_scaleOf 5 = .ok (.iconst 4, 1) := by decide +kernel
theorem d_V_scaleOf_6 : decode b_V_scaleOf 6 = .ok (.iadd, 1) := by decide +kernel
theorem d_V_scaleOf_7 : decode b_V_scaleOf 7 = .ok (.iconst 1, 1) := by decide +kernel
theorem d_V_scaleOf_8 : decode b_V_scaleOf 8 = .ok (.iadd, 1) := by decide +kernel
theorem d_V_scaleOf_9 : decode b_V_scaleOf 9 = .ok (.iaload, 1) := by decide +kernel
theorem d_V_scaleOf_10 : decode b_V_scaleOf 10 = .ok (.ireturn, 1) := by decide +kernel
theorem d_V_letterAt_0 : decode b_V_letterAt 0 = .ok (.aload_n 0, 1) := by decide +kernel
theorem d_V_letterAt_1 : decode b_V_letterAt 1 = .ok (.getfield 20, 3) := by decide +kernel
theorem d_V_letterAt_4 : decode b_V_letterAt 4 = .ok (.iload_n 1, 1) := by decide +kernel
theorem d_V_letterAt_5 : decode b_V_letterAt 5 = .ok (.iconst 4, 1) := by decide +kernel
theorem d_V_letterAt_6 : decode b_V_letterAt 6 = .ok (.iadd, 1) := by decide +kernel
theorem d_V_letterAt_7 : decode b_V_letterAt 7 = .ok (.iload_n 2, 1) := by decide +kernel
theorem d_V_letterAt_8 : decode b_V_letterAt 8 = .ok (.iadd, 1) := by decide +kernel
theorem d_V_letterAt_9 : decode b_V_letterAt 9 = .ok (.iaload, 1) := by decide +kernel
theorem d_V_letterAt_10 : decode b_V_letterAt 10 = .ok (.ireturn, 1) := by decide +kernel
theorem d_V_itemAt_0 : decode b_V_itemAt 0 = .ok (.aload_n 0, 1) := by decide +kernel
theorem d_V_itemAt_1 : decode b_V_itemAt 1 = .ok (.getfield 20, 3) := by decide +kernel
theorem d_V_itemAt_4 : decode b_V_itemAt 4 = .ok (.iload_n 1, 1) := by decide +kernel
theorem d_V_itemAt_5 : decode b_V_itemAt 5 = .ok (.iconst 4, 1) := by decide +kernel
theorem d_V_itemAt_6 : decode b_V_itemAt 6 = .ok (.iadd, 1) := by decide +kernel
theorem d_V_itemAt_7 : decode b_V_itemAt 7 = .ok (.iload_n 2, 1) := by decide +kernel
theorem d_V_itemAt_8 : decode b_V_itemAt 8 = .ok (.iadd, 1) := by decide +kernel
theorem d_V_itemAt_9 : decode b_V_itemAt 9 = .ok (.iaload, 1) := by decide +kernel
theorem d_V_itemAt_10 : decode b_V_itemAt 10 = .ok (.ireturn, 1) := by decide +kernel
theorem d_V_nameAt_0 : decode b_V_nameAt 0 = .ok (.aload_n 0, 1) := by decide +kernel
theorem d_V_nameAt_1 : decode b_V_nameAt 1 = .ok (.getfield 20, 3) := by decide +kernel
theorem d_V_nameAt_4 : decode b_V_nameAt 4 = .ok (.iload_n 1, 1) := by decide +kernel
theorem d_V_nameAt_5 : decode b_V_nameAt 5 = .ok (.iconst 4, 1) := by decide +kernel
theorem d_V_nameAt_6 : decode b_V_nameAt 6 = .ok (.iadd, 1) := by decide +kernel
theorem d_V_nameAt_7 : decode b_V_nameAt 7 = .ok (.aload_n 0, 1) := by decide +kernel
theorem d_V_nameAt_8 : decode b_V_nameAt 8 = .ok (.getfield 20, 3) := by decide +kernel
theorem d_V_nameAt_11 : decode b_V_nameAt 11 = .ok (.iload_n 1, 1) := by decide +kernel
theorem d_V_nameAt_12 : decode b_V_nameAt 12 = .ok (.iconst 1, 1) := by decide +kernel
theorem d_V_nameAt_13 : decode b_V_nameAt 13 = .ok (.iadd, 1) := by decide +kernel
theorem d_V_nameAt_14 : decode b_V_nameAt 14 = .ok (.iaload, 1) := by decide +kernel
theorem d_V_nameAt_15 : decode b_V_nameAt 15 = .ok (.iadd, 1) := by decide +kernel
theorem d_V_nameAt_16 : decode b_V_nameAt 16 = .ok (.iload_n 2, 1) := by decide +kernel
theorem d_V_nameAt_17 : decode b_V_nameAt 17 = .ok (.iadd, 1) := by decide +kernel
theorem d_V_nameAt_18 : decode b_V_nameAt 18 = .ok (.iaload, 1) := by decide +kernel
theorem d_V_nameAt_19 : decode b_V_nameAt 19 = .ok (.ireturn, 1) := by decide +kernel
theorem d_V_hasParts_0 : decode b_V_hasParts 0 = .ok (.aload_n 0, 1) := by decide +kernel
theorem d_V_hasParts_1 : decode b_V_hasParts 1 = .ok (.iload_n 1, 1) := by decide +kernel
theorem d_V_hasParts_2 : decode b_V_hasParts 2 = .ok (.invokevirtual 43, 3) := by decide +kernel
theorem d_V_hasParts_5 : decode b_V_hasParts 5 = .ok (.iconst 5, 1) := by decide +kernel
theorem d_V_hasParts_6 : decode b_V_hasParts 6 = .ok (.if_icmp .lt 7, 3) := by decide +kernel
theorem d_V_hasParts_9 : decode b_V_hasParts 9 = .ok (.iconst 1, 1) := by decide +kernel
theorem d_V_hasParts_10 : decode b_V_hasParts 10 = .ok (.goto 4, 3) := by decide +kernel
theorem d_V_hasParts_13 : decode b_V_hasParts 13 = .ok (.iconst 0, 1) := by decide +kernel
theorem d_V_hasParts_14 : decode b_V_hasParts 14 = .ok (.ireturn, 1) := by decide +kernel
theorem d_V_isGood_0 : decode b_V_isGood 0 = .ok (.aload_n 0, 1) := by decide +kernel
theorem d_V_isGood_1 : decode b_V_isGood 1 = .ok (.iload_n 1, 1) := by decide +kernel
theorem d_V_isGood_2 : decode b_V_isGood 2 = .ok (.invokevirtual 43, 3) := by decide +kernel
theorem d_V_isGood_5 : decode b_V_isGood 5 = .ok (.iconst 2, 1) := by decide +kernel
theorem d_V_isGood_6 : decode b_V_isGood 6 = .ok (.if_icmp .lt 7, 3) := by decide +kernel
theorem d_V_isGood_9 : decode b_V_isGood 9 = .ok (.iconst 1, 1) := by decide +kernel
theorem d_V_isGood_10 : decode b_V_isGood 10 = .ok (.goto 4, 3) := by decide +kernel
theorem d_V_isGood_13 : decode b_V_isGood 13 = .ok (.iconst 0, 1) := by decide +kernel
theorem d_V_isGood_14 : decode b_V_isGood 14 = .ok (.ireturn, 1) := by decide +kernel
theorem d_V_partAt_0 : decode b_V_partAt 0 = .ok (.aload_n 0, 1) := by decide +kernel
theorem d_V_partAt_1 : decode b_V_partAt 1 = .ok (.iload_n 1, 1) := by decide +kernel
theorem d_V_partAt_2 : decode b_V_partAt 2 = .ok (.iload_n 2, 1) := by decide +kernel
theorem d_V_partAt_3 : decode b_V_partAt 3 = .ok (.iconst 0, 1) := by decide +kernel
theorem d_V_partAt_4 : decode b_V_partAt 4 = .ok (.invokevirtual 46, 3) := by decide +kernel
theorem d_V_partAt_7 : decode b_V_partAt 7 = .ok (.ireturn, 1) := by decide +kernel
theorem d_V_nameOfPart_0 : decode b_V_nameOfPart 0 = .ok (.aload_n 0, 1) := by decide +kernel
theorem d_V_nameOfPart_1 : decode b_V_nameOfPart 1 = .ok (.iload_n 1, 1) := by decide +kernel
theorem d_V_nameOfPart_2 : decode b_V_nameOfPart 2 = .ok (.iload_n 2, 1) := by decide +kernel
theorem d_V_nameOfPart_3 : decode b_V_nameOfPart 3 = .ok (.iconst 1, 1) := by decide +kernel
theorem d_V_nameOfPart_4 : decode b_V_nameOfPart 4 = .ok (.invokevirtual 46, 3) := by decide +kernel
theorem d_V_nameOfPart_7 : decode b_V_nameOfPart 7 = .ok (.ireturn, 1) := by decide +kernel
theorem d_V_found_0 : decode b_V_found 0 = .ok (.iload_n 1, 1) := by decide +kernel
theorem d_V_found_1 : decode b_V_found 1 = .ok (.istore 4, 2) := by decide +kernel
theorem d_V_found_3 : decode b_V_found 3 = .ok (.iconst 0, 1) := by decide +kernel
theorem d_V_found_4 : decode b_V_found 4 = .ok (.istore 5, 2) := by decide +kernel
theorem d_V_found_6 : decode b_V_found 6 = .ok (.iload_n 2, 1) := by decide +kernel
theorem d_V_found_7 : decode b_V_found 7 = .ok (.istore 6, 2) := by decide +kernel
theorem d_V_found_9 : decode b_V_found 9 = .ok (.iconst 0, 1) := by decide +kernel
theorem d_V_found_10 : decode b_V_found 10 = .ok (.istore 7, 2) := by decide +kernel
theorem d_V_found_12 : decode b_V_found 12 = .ok (.iload 7, 2) := by decide +kernel
theorem d_V_found_14 : decode b_V_found 14 = .ok (.iconst 5, 1) := by decide +kernel
theorem d_V_found_15 : decode b_V_found 15 = .ok (.if_icmp .ge 108, 3) := by decide +kernel
theorem d_V_found_18 : decode b_V_found 18 = .ok (.iload 6, 2) := by decide +kernel
theorem d_V_found_20 : decode b_V_found 20 = .ok (.ifCond .le 103, 3) := by decide +kernel
theorem d_V_found_23 : decode b_V_found 23 = .ok (.iinc 6 (-1), 3) := by decide +kernel
theorem d_V_found_26 : decode b_V_found 26 = .ok (.iconst 0, 1) := by decide +kernel
theorem d_V_found_27 : decode b_V_found 27 = .ok (.istore 8, 2) := by decide +kernel
theorem d_V_found_29 : decode b_V_found 29 = .ok (.iload 8, 2) := by decide +kernel
theorem d_V_found_31 : decode b_V_found 31 = .ok (.aload_n 0, 1) := by decide +kernel
theorem d_V_found_32 : decode b_V_found 32 = .ok (.iload 4, 2) := by decide +kernel
theorem d_V_found_34 : decode b_V_found 34 = .ok (.invokevirtual 50, 3) := by decide +kernel
theorem d_V_found_37 : decode b_V_found 37 = .ok (.iconst 1, 1) := by decide +kernel
theorem d_V_found_38 : decode b_V_found 38 = .ok (.isub, 1) := by decide +kernel
theorem d_V_found_39 : decode b_V_found 39 = .ok (.if_icmp .ge 43, 3) := by decide +kernel
theorem d_V_found_42 : decode b_V_found 42 = .ok (.iload 6, 2) := by decide +kernel
theorem d_V_found_44 : decode b_V_found 44 = .ok (.aload_n 0, 1) := by decide +kernel
theorem d_V_found_45 : decode b_V_found 45 = .ok (.aload_n 0, 1) := by decide +kernel
theorem d_V_found_46 : decode b_V_found 46 = .ok (.iload 4, 2) := by decide +kernel
theorem d_V_found_48 : decode b_V_found 48 = .ok (.iload 8, 2) := by decide +kernel
theorem d_V_found_50 : decode b_V_found 50 = .ok (.invokevirtual 53, 3) := by decide +kernel
theorem d_V_found_53 : decode b_V_found 53 = .ok (.invokevirtual 57, 3) := by decide +kernel
theorem d_V_found_56 : decode b_V_found 56 = .ok (.if_icmp .lt 26, 3) := by decide +kernel
theorem d_V_found_59 : decode b_V_found 59 = .ok (.iload 6, 2) := by decide +kernel
theorem d_V_found_61 : decode b_V_found 61 = .ok (.aload_n 0, 1) := by decide +kernel
theorem d_V_found_62 : decode b_V_found 62 = .ok (.aload_n 0, 1) := by decide +kernel
theorem d_V_found_63 : decode b_V_found 63 = .ok (.iload 4, 2) := by decide +kernel
theorem d_V_found_65 : decode b_V_found 65 = .ok (.iload 8, 2) := by decide +kernel
theorem d_V_found_67 : decode b_V_found 67 = .ok (.invokevirtual 53, 3) := by decide +kernel
theorem d_V_found_70 : decode b_V_found 70 = .ok (.invokevirtual 57, 3) := by decide +kernel
theorem d_V_found_73 : decode b_V_found 73 = .ok (.isub, 1) := by decide +kernel
theorem d_V_found_74 : decode b_V_found 74 = .ok (.istore 6, 2) := by decide +kernel
theorem d_V_found_76 : decode b_V_found 76 = .ok (.iinc 8 1, 3) := by decide +kernel
theorem d_V_found_79 : decode b_V_found 79 = .ok (.goto (-50), 3) := by decide +kernel
theorem d_V_found_82 : decode b_V_found 82 = .ok (.aload_n 0, 1) := by decide +kernel
theorem d_V_found_83 : decode b_V_found 83 = .ok (.iload 4, 2) := by decide +kernel
theorem d_V_found_85 : decode b_V_found 85 = .ok (.invokevirtual 43, 3) := by decide +kernel
theorem d_V_found_88 : decode b_V_found 88 = .ok (.bipush 6, 2) := by decide +kernel
theorem d_V_found_90 : decode b_V_found 90 = .ok (.if_icmp .ne 14, 3) := by decide +kernel
theorem d_V_found_93 : decode b_V_found 93 = .ok (.aload_n 0, 1) := by decide +kernel
theorem d_V_found_94 : decode b_V_found 94 = .ok (.iload 4, 2) := by decide +kernel
theorem d_V_found_96 : decode b_V_found 96 = .ok (.iload 8, 2) := by decide +kernel
theorem d_V_found_98 : decode b_V_found 98 = .ok (.invokevirtual 60, 3) := by decide +kernel
theorem d_V_found_101 : decode b_V_found 101 = .ok (.goto 4, 3) := by decide +kernel
theorem d_V_found_104 : decode b_V_found 104 = .ok (.iconst 0, 1) := by decide +kernel
theorem d_V_found_105 : decode b_V_found 105 = .ok (.istore 5, 2) := by decide +kernel
theorem d_V_found_107 : decode b_V_found 107 = .ok (.aload_n 0, 1) := by decide +kernel
theorem d_V_found_108 : decode b_V_found 108 = .ok (.iload 4, 2) := by decide +kernel
theorem d_V_found_110 : decode b_V_found 110 = .ok (.iload 8, 2) := by decide +kernel
theorem d_V_found_112 : decode b_V_found 112 = .ok (.invokevirtual 53, 3) := by decide +kernel
theorem d_V_found_115 : decode b_V_found 115 = .ok (.istore 4, 2) := by decide +kernel
theorem d_V_found_117 : decode b_V_found 117 = .ok (.iinc 7 1, 3) := by decide +kernel
theorem d_V_found_120 : decode b_V_found 120 = .ok (.goto (-108), 3) := by decide +kernel
theorem d_V_found_123 : decode b_V_found 123 = .ok (.iload_n 3, 1) := by decide +kernel
theorem d_V_found_124 : decode b_V_found 124 = .ok (.ifCond .eq 8, 3) := by decide +kernel
theorem d_V_found_127 : decode b_V_found 127 = .ok (.iload 5, 2) := by decide +kernel
theorem d_V_found_129 : decode b_V_found 129 = .ok (.goto 5, 3) := by decide +kernel
theorem d_V_found_132 : decode b_V_found 132 = .ok (.iload 4, 2) := by decide +kernel
theorem d_V_found_134 : decode b_V_found 134 = .ok (.ireturn, 1) := by decide +kernel
theorem d_V_turnOver_0 : decode b_V_turnOver 0 = .ok (.aload_n 0, 1) := by decide +kernel
theorem d_V_turnOver_1 : decode b_V_turnOver 1 = .ok (.getfield 40, 3) := by decide +kernel
theorem d_V_turnOver_4 : decode b_V_turnOver 4 = .ok (.astore_n 1, 1) := by decide +kernel
theorem d_V_turnOver_5 : decode b_V_turnOver 5 = .ok (.aload_n 0, 1) := by decide +kernel
theorem d_V_turnOver_6 : decode b_V_turnOver 6 = .ok (.aload_n 0, 1) := by decide +kernel
theorem d_V_turnOver_7 : decode b_V_turnOver 7 = .ok (.getfield 20, 3) := by decide +kernel
theorem d_V_turnOver_10 : decode b_V_turnOver 10 = .ok (.putfield 40, 3) := by decide +kernel
theorem d_V_turnOver_13 : decode b_V_turnOver 13 = .ok (.aload_n 0, 1) := by decide +kernel
theorem d_V_turnOver_14 : decode b_V_turnOver 14 = .ok (.aload_n 1, 1) := by decide +kernel
theorem d_V_turnOver_15 : decode b_V_turnOver 15 = .ok (.putfield 20, 3) := by decide +kernel
theorem d_V_turnOver_18 : decode b_V_turnOver 18 = .ok (.aload_n 0, 1) := by decide +kernel
theorem d_V_turnOver_19 : decode b_V_turnOver 19 = .ok (.bipush 118, 2) := by decide +kernel
theorem d_V_turnOver_21 : decode b_V_turnOver 21 = .ok (.putfield 23, 3) := by decide +kernel
theorem d_V_turnOver_24 : decode b_V_turnOver 24 = .ok (.return_, 1) := by decide +kernel
theorem d_V_moved_0 : decode b_V_moved 0 = .ok (.iload_n 1, 1) := by decide +kernel
theorem d_V_moved_1 : decode b_V_moved 1 = .ok (.bipush 118, 2) := by decide +kernel
theorem d_V_moved_3 : decode b_V_moved 3 = .ok (.if_icmp .ge 5, 3) := by decide +kernel
theorem d_V_moved_6 : decode b_V_moved 6 = .ok (.iload_n 1, 1) := by decide +kernel
theorem d_V_moved_7 : decode b_V_moved 7 = .ok (.ireturn, 1) := by decide +kernel
theorem d_V_moved_8 : decode b_V_moved 8 = .ok (.aload_n 0, 1) := by decide +kernel
theorem d_V_moved_9 : decode b_V_moved 9 = .ok (.getfield 40, 3) := by decide +kernel
theorem d_V_moved_12 : decode b_V_moved 12 = .ok (.iload_n 1, 1) := by decide +kernel
theorem d_V_moved_13 : decode b_V_moved 13 = .ok (.iaload, 1) := by decide +kernel
theorem d_V_moved_14 : decode b_V_moved 14 = .ok (.istore_n 2, 1) := by decide +kernel
theorem d_V_moved_15 : decode b_V_moved 15 = .ok (.aload_n 0, 1) := by decide +kernel
theorem d_V_moved_16 : decode b_V_moved 16 = .ok (.iload_n 2, 1) := by decide +kernel
theorem d_V_moved_17 : decode b_V_moved 17 = .ok (.aload_n 0, 1) := by decide +kernel
theorem d_V_moved_18 : decode b_V_moved 18 = .ok (.getfield 40, 3) := by decide +kernel
theorem d_V_moved_21 : decode b_V_moved 21 = .ok (.iload_n 1, 1) := by decide +kernel
theorem d_V_moved_22 : decode b_V_moved 22 = .ok (.iconst 1, 1) := by decide +kernel
theorem d_V_moved_23 : decode b_V_moved 23 = .ok (.iadd, 1) := by decide +kernel
theorem d_V_moved_24 : decode b_V_moved 24 = .ok (.iaload, 1) := by decide +kernel
theorem d_V_moved_25 : decode b_V_moved 25 = .ok (.invokevirtual 63, 3) := by decide +kernel
theorem d_V_moved_28 : decode b_V_moved 28 = .ok (.istore_n 3, 1) := by decide +kernel
theorem d_V_moved_29 : decode b_V_moved 29 = .ok (.aload_n 0, 1) := by decide +kernel
theorem d_V_moved_30 : decode b_V_moved 30 = .ok (.getfield 20, 3) := by decide +kernel
theorem d_V_moved_33 : decode b_V_moved 33 = .ok (.iload_n 3, 1) := by decide +kernel
theorem d_V_moved_34 : decode b_V_moved 34 = .ok (.iconst 2, 1) := by decide +kernel
theorem d_V_moved_35 : decode b_V_moved 35 = .ok (.iadd, 1) := by decide +kernel
theorem d_V_moved_36 : decode b_V_moved 36 = .ok (.aload_n 0, 1) := by decide +kernel
theorem d_V_moved_37 : decode b_V_moved 37 = .ok (.getfield 40, 3) := by decide +kernel
theorem d_V_moved_40 : decode b_V_moved 40 = .ok (.iload_n 1, 1) := by decide +kernel
theorem d_V_moved_41 : decode b_V_moved 41 = .ok (.iconst 2, 1) := by decide +kernel
theorem d_V_moved_42 : decode b_V_moved 42 = .ok (.iadd, 1) := by decide +kernel
theorem d_V_moved_43 : decode b_V_moved 43 = .ok (.iaload, 1) := by decide +kernel
theorem d_V_moved_44 : decode b_V_moved 44 = .ok (.iastore, 1) := by decide +kernel
theorem d_V_moved_45 : decode b_V_moved 45 = .ok (.aload_n 0, 1) := by decide +kernel
theorem d_V_moved_46 : decode b_V_moved 46 = .ok (.getfield 20, 3) := by decide +kernel
theorem d_V_moved_49 : decode b_V_moved 49 = .ok (.iload_n 3, 1) := by decide +kernel
theorem d_V_moved_50 : decode b_V_moved 50 = .ok (.iconst 3, 1) := by decide +kernel
theorem d_V_moved_51 : decode b_V_moved 51 = .ok (.iadd, 1) := by decide +kernel
theorem d_V_moved_52 : decode b_V_moved 52 = .ok (.aload_n 0, 1) := by decide +kernel
theorem d_V_moved_53 : decode b_V_moved 53 = .ok (.getfield 40, 3) := by decide +kernel
theorem d_V_moved_56 : decode b_V_moved 56 = .ok (.iload_n 1, 1) := by decide +kernel
theorem d_V_moved_57 : decode b_V_moved 57 = .ok (.iconst 3, 1) := by decide +kernel
theorem d_V_moved_58 : decode b_V_moved 58 = .ok (.iadd, 1) := by decide +kernel
theorem d_V_moved_59 : decode b_V_moved 59 = .ok (.iaload, 1) := by decide +kernel
theorem d_V_moved_60 : decode b_V_moved 60 = .ok (.iastore, 1) := by decide +kernel
theorem d_V_moved_61 : decode b_V_moved 61 = .ok (.iload_n 1, 1) := by decide +kernel
theorem d_V_moved_62 : decode b_V_moved 62 = .ok (.iconst 4, 1) := by decide +kernel
theorem d_V_moved_63 : decode b_V_moved 63 = .ok (.iadd, 1) := by decide +kernel
theorem d_V_moved_64 : decode b_V_moved 64 = .ok (.istore 4, 2) := by decide +kernel
theorem d_V_moved_66 : decode b_V_moved 66 = .ok (.iload 4, 2) := by decide +kernel
theorem d_V_moved_68 : decode b_V_moved 68 = .ok (.iload_n 1, 1) := by decide +kernel
theorem d_V_moved_69 : decode b_V_moved 69 = .ok (.iload_n 2, 1) := by decide +kernel
theorem d_V_moved_70 : decode b_V_moved 70 = .ok (.aload_n 0, 1) := by decide +kernel
theorem d_V_moved_71 : decode b_V_moved 71 = .ok (.getfield 40, 3) := by decide +kernel
theorem d_V_moved_74 : decode b_V_moved 74 = .ok (.iload_n 1, 1) := by decide +kernel
theorem d_V_moved_75 : decode b_V_moved 75 = .ok (.iconst 1, 1) := by decide +kernel
theorem d_V_moved_76 : decode b_V_moved 76 = .ok (.iadd, 1) := by decide +kernel
theorem d_V_moved_77 : decode b_V_moved 77 = .ok (.iaload, 1) := by decide +kernel
theorem d_V_moved_78 : decode b_V_moved 78 = .ok (.invokestatic 66, 3) := by decide +kernel
theorem d_V_moved_81 : decode b_V_moved 81 = .ok (.iadd, 1) := by decide +kernel
theorem d_V_moved_82 : decode b_V_moved 82 = .ok (.if_icmp .ge 50, 3) := by decide +kernel
theorem d_V_moved_85 : decode b_V_moved 85 = .ok (.iload_n 2, 1) := by decide +kernel
theorem d_V_moved_86 : decode b_V_moved 86 = .ok (.iconst 5, 1) := by decide +kernel
theorem d_V_moved_87 : decode b_V_moved 87 = .ok (.if_icmp .lt 17, 3) := by decide +kernel
theorem d_V_moved_90 : decode b_V_moved 90 = .ok (.aload_n 0, 1) := by decide +kernel
theorem d_V_moved_91 : decode b_V_moved 91 = .ok (.aload_n 0, 1) := by decide +kernel
theorem d_V_moved_92 : decode b_V_moved 92 = .ok (.getfield 40, 3) := by decide +kernel
theorem d_V_moved_95 : decode b_V_moved 95 = .ok (.iload 4, 2) := by decide +kernel
theorem d_V_moved_97 : decode b_V_moved 97 = .ok (.iaload, 1) := by decide +kernel
theorem d_V_moved_98 : decode b_V_moved 98 = .ok (.invokevirtual 69, 3) := by decide +kernel
theorem d_V_moved_101 : decode b_V_moved 101 = .ok (.goto 10, 3) := by decide +kernel
theorem d_V_moved_104 : decode b_V_moved 104 = .ok (.aload_n 0, 1) := by decide +kernel
theorem d_V_moved_105 : decode b_V_moved 105 = .ok (.getfield 40, 3) := by decide +kernel
theorem d_V_moved_108 : decode b_V_moved 108 = .ok (.iload 4, 2) := by decide +kernel
theorem d_V_moved_110 : decode b_V_moved 110 = .ok (.iaload, 1) := by decide +kernel
theorem d_V_moved_111 : decode b_V_moved 111 = .ok (.istore 5, 2) := by decide +kernel
theorem d_V_moved_113 : decode b_V_moved 113 = .ok (.aload_n 0, 1) := by decide +kernel
theorem d_V_moved_114 : decode b_V_moved 114 = .ok (.getfield 20, 3) := by decide +kernel
theorem d_V_moved_117 : decode b_V_moved 117 = .ok (.iload_n 3, 1) := by decide +kernel
theorem d_V_moved_118 : decode b_V_moved 118 = .ok (.iload_n 1, 1) := by decide +kernel
theorem d_V_moved_119 : decode b_V_moved 119 = .ok (.isub, 1) := by decide +kernel
theorem d_V_moved_120 : decode b_V_moved 120 = .ok (.iload 4, 2) := by decide +kernel
theorem d_V_moved_122 : decode b_V_moved 122 = .ok (.iadd, 1) := by decide +kernel
theorem d_V_moved_123 : decode b_V_moved 123 = .ok (.iload 5, 2) := by decide +kernel
theorem d_V_moved_125 : decode b_V_moved 125 = .ok (.iastore, 1) := by decide +kernel
theorem d_V_moved_126 : decode b_V_moved 126 = .ok (.iinc 4 1, 3) := by decide +kernel
theorem d_V_moved_129 : decode b_V_moved 129 = .ok (.goto (-63), 3) := by decide +kernel
theorem d_V_moved_132 : decode b_V_moved 132 = .ok (.iload_n 3, 1) := by decide +kernel
theorem d_V_moved_133 : decode b_V_moved 133 = .ok (.ireturn, 1) := by decide +kernel
theorem d_V_cellsFor_0 : decode b_V_cellsFor 0 = .ok (.iload_n 0, 1) := by decide +kernel
theorem d_V_cellsFor_1 : decode b_V_cellsFor 1 = .ok (.lookupswitch 36 #[(3, 27), (6, 30)], 27) := by decide +kernel
theorem d_V_cellsFor_28 : decode b_V_cellsFor 28 = .ok (.bipush 6, 2) := by decide +kernel
theorem d_V_cellsFor_30 : decode b_V_cellsFor 30 = .ok (.ireturn, 1) := by decide +kernel
theorem d_V_cellsFor_31 : decode b_V_cellsFor 31 = .ok (.iconst 4, 1) := by decide +kernel
theorem d_V_cellsFor_32 : decode b_V_cellsFor 32 = .ok (.iconst 2, 1) := by decide +kernel
theorem d_V_cellsFor_33 : decode b_V_cellsFor 33 = .ok (.iload_n 1, 1) := by decide +kernel
theorem d_V_cellsFor_34 : decode b_V_cellsFor 34 = .ok (.imul, 1) := by decide +kernel
theorem d_V_cellsFor_35 : decode b_V_cellsFor 35 = .ok (.iadd, 1) := by decide +kernel
theorem d_V_cellsFor_36 : decode b_V_cellsFor 36 = .ok (.ireturn, 1) := by decide +kernel
theorem d_V_cellsFor_37 : decode b_V_cellsFor 37 = .ok (.iconst 4, 1) := by decide +kernel
theorem d_V_cellsFor_38 : decode b_V_cellsFor 38 = .ok (.iload_n 1, 1) := by decide +kernel
theorem d_V_cellsFor_39 : decode b_V_cellsFor 39 = .ok (.iadd, 1) := by decide +kernel
theorem d_V_cellsFor_40 : decode b_V_cellsFor 40 = .ok (.ireturn, 1) := by decide +kernel
theorem d_V_setHead_0 : decode b_V_setHead 0 = .ok (.aload_n 0, 1) := by decide +kernel
theorem d_V_setHead_1 : decode b_V_setHead 1 = .ok (.getfield 20, 3) := by decide +kernel
theorem d_V_setHead_4 : decode b_V_setHead 4 = .ok (.iload_n 1, 1) := by decide +kernel
theorem d_V_setHead_5 : decode b_V_setHead 5 = .ok (.iload_n 2, 1) := by decide +kernel
theorem d_V_setHead_6 : decode b_V_setHead 6 = .ok (.iastore, 1) := by decide +kernel
theorem d_V_setHead_7 : decode b_V_setHead 7 = .ok (.aload_n 0, 1) := by decide +kernel
theorem d_V_setHead_8 : decode b_V_setHead 8 = .ok (.getfield 20, 3) := by decide +kernel
theorem d_V_setHead_11 : decode b_V_setHead 11 = .ok (.iload_n 1, 1) := by decide +kernel
theorem d_V_setHead_12 : decode b_V_setHead 12 = .ok (.iconst 1, 1) := by decide +kernel
theorem d_V_setHead_13 : decode b_V_setHead 13 = .ok (.iadd, 1) := by decide +kernel
theorem d_V_setHead_14 : decode b_V_setHead 14 = .ok (.iload_n 3, 1) := by decide +kernel
theorem d_V_setHead_15 : decode b_V_setHead 15 = .ok (.iastore, 1) := by decide +kernel
theorem d_V_setHead_16 : decode b_V_setHead 16 = .ok (.aload_n 0, 1) := by decide +kernel
theorem d_V_setHead_17 : decode b_V_setHead 17 = .ok (.getfield 20, 3) := by decide +kernel
theorem d_V_setHead_20 : decode b_V_setHead 20 = .ok (.iload_n 1, 1) := by decide +kernel
theorem d_V_setHead_21 : decode b_V_setHead 21 = .ok (.iconst 2, 1) := by decide +kernel
theorem d_V_setHead_22 : decode b_V_setHead 22 = .ok (.iadd, 1) := by decide +kernel
theorem d_V_setHead_23 : decode b_V_setHead 23 = .ok (.iconst 1, 1) := by decide +kernel
theorem d_V_setHead_24 : decode b_V_setHead 24 = .ok (.iastore, 1) := by decide +kernel
theorem d_V_setHead_25 : decode b_V_setHead 25 = .ok (.aload_n 0, 1) := by decide +kernel
theorem d_V_setHead_26 : decode b_V_setHead 26 = .ok (.getfield 20, 3) := by decide +kernel
theorem d_V_setHead_29 : decode b_V_setHead 29 = .ok (.iload_n 1, 1) := by decide +kernel
theorem d_V_setHead_30 : decode b_V_setHead 30 = .ok (.iconst 3, 1) := by decide +kernel
theorem d_V_setHead_31 : decode b_V_setHead 31 = .ok (.iadd, 1) := by decide +kernel
theorem d_V_setHead_32 : decode b_V_setHead 32 = .ok (.iconst 0, 1) := by decide +kernel
theorem d_V_setHead_33 : decode b_V_setHead 33 = .ok (.iastore, 1) := by decide +kernel
theorem d_V_setHead_34 : decode b_V_setHead 34 = .ok (.return_, 1) := by decide +kernel
theorem d_V_open_0 : decode b_V_open 0 = .ok (.iload_n 2, 1) := by decide +kernel
theorem d_V_open_1 : decode b_V_open 1 = .ok (.iload_n 1, 1) := by decide +kernel
theorem d_V_open_2 : decode b_V_open 2 = .ok (.bipush 6, 2) := by decide +kernel
theorem d_V_open_4 : decode b_V_open 4 = .ok (.if_icmp .ne 8, 3) := by decide +kernel
theorem d_V_open_7 : decode b_V_open 7 = .ok (.bipush 6, 2) := by decide +kernel
theorem d_V_open_9 : decode b_V_open 9 = .ok (.goto 5, 3) := by decide +kernel
theorem d_V_open_12 : decode b_V_open 12 = .ok (.bipush 12, 2) := by decide +kernel
theorem d_V_open_14 : decode b_V_open 14 = .ok (.if_icmp .le 13, 3) := by decide +kernel
theorem d_V_open_17 : decode b_V_open 17 = .ok (.new 72, 3) := by decide +kernel
theorem d_V_open_20 : decode b_V_open 20 = .ok (.dup, 1) := by decide +kernel
theorem d_V_open_21 : decode b_V_open 21 = .ok (.ldc 74, 2) := by decide +kernel
theorem d_V_open_23 : decode b_V_open 23 = .ok (.invokespecial 76, 3) := by decide +kernel
theorem d_V_open_26 : decode b_V_open 26 = .ok (.athrow, 1) := by decide +kernel
theorem d_V_open_27 : decode b_V_open 27 = .ok (.aload_n 0, 1) := by decide +kernel
theorem d_V_open_28 : decode b_V_open 28 = .ok (.getfield 23, 3) := by decide +kernel
theorem d_V_open_31 : decode b_V_open 31 = .ok (.istore_n 3, 1) := by decide +kernel
theorem d_V_open_32 : decode b_V_open 32 = .ok (.aload_n 0, 1) := by decide +kernel
theorem d_V_open_33 : decode b_V_open 33 = .ok (.dup, 1) := by decide +kernel
theorem d_V_open_34 : decode b_V_open 34 = .ok (.getfield 23, 3) := by decide +kernel
theorem d_V_open_37 : decode b_V_open 37 = .ok (.iload_n 1, 1) := by decide +kernel
theorem d_V_open_38 : decode b_V_open 38 = .ok (.iload_n 2, 1) := by decide +kernel
theorem d_V_open_39 : decode b_V_open 39 = .ok (.invokestatic 66, 3) := by decide +kernel
theorem d_V_open_42 : decode b_V_open 42 = .ok (.iadd, 1) := by decide +kernel
theorem d_V_open_43 : decode b_V_open 43 = .ok (.putfield 23, 3) := by decide +kernel
theorem d_V_open_46 : decode b_V_open 46 = .ok (.aload_n 0, 1) := by decide +kernel
theorem d_V_open_47 : decode b_V_open 47 = .ok (.getfield 23, 3) := by decide +kernel
theorem d_V_open_50 : decode b_V_open 50 = .ok (.aload_n 0, 1) := by decide +kernel
theorem d_V_open_51 : decode b_V_open 51 = .ok (.getfield 20, 3) := by decide +kernel
theorem d_V_open_54 : decode b_V_open 54 = .ok (.arraylength, 1) := by decide +kernel
theorem d_V_open_55 : decode b_V_open 55 = .ok (.if_icmp .le 20, 3) := by decide +kernel
theorem d_V_open_58 : decode b_V_open 58 = .ok (.aload_n 0, 1) := by decide +kernel
theorem d_V_open_59 : decode b_V_open 59 = .ok (.aload_n 0, 1) := by decide +kernel
theorem d_V_open_60 : decode b_V_open 60 = .ok (.getfield 20, 3) := by decide +kernel
theorem d_V_open_63 : decode b_V_open 63 = .ok (.iconst 2, 1) := by decide +kernel
theorem d_V_open_64 : decode b_V_open 64 = .ok (.aload_n 0, 1) := by decide +kernel
theorem d_V_open_65 : decode b_V_open 65 = .ok (.getfield 23, 3) := by decide +kernel
theorem d_V_open_68 : decode b_V_open 68 = .ok (.imul, 1) := by decide +kernel
theorem d_V_open_69 : decode b_V_open 69 = .ok (.invokestatic 79, 3) := by decide +kernel
theorem d_V_open_72 : decode b_V_open 72 = .ok (.putfield 20, 3) := by decide +kernel
theorem d_V_open_75 : decode b_V_open 75 = .ok (.aload_n 0, 1) := by decide +kernel
theorem d_V_open_76 : decode b_V_open 76 = .ok (.iload_n 3, 1) := by decide +kernel
theorem d_V_open_77 : decode b_V_open 77 = .ok (.iload_n 1, 1) := by decide +kernel
theorem d_V_open_78 : decode b_V_open 78 = .ok (.iload_n 2, 1) := by decide +kernel
theorem d_V_open_79 : decode b_V_open 79 = .ok (.invokevirtual 27, 3) := by decide +kernel
theorem d_V_open_82 : decode b_V_open 82 = .ok (.iload_n 3, 1) := by decide +kernel
theorem d_V_open_83 : decode b_V_open 83 = .ok (.ireturn, 1) := by decide +kernel
theorem d_V_closed_0 : decode b_V_closed 0 = .ok (.iconst 1, 1) := by decide +kernel
theorem d_V_closed_1 : decode b_V_closed 1 = .ok (.istore_n 2, 1) := by decide +kernel
theorem d_V_closed_2 : decode b_V_closed 2 = .ok (.iconst 0, 1) := by decide +kernel
theorem d_V_closed_3 : decode b_V_closed 3 = .ok (.istore_n 3, 1) := by decide +kernel
theorem d_V_closed_4 : decode b_V_closed 4 = .ok (.iload_n 1, 1) := by decide +kernel
theorem d_V_closed_5 : decode b_V_closed 5 = .ok (.iconst 4, 1) := by decide +kernel
theorem d_V_closed_6 : decode b_V_closed 6 = .ok (.iadd, 1) := by decide +kernel
theorem d_V_closed_7 : decode b_V_closed 7 = .ok (.istore 4, 2) := by decide +kernel
theorem d_V_closed_9 : decode b_V_closed 9 = .ok (.iload 4, 2) := by decide +kernel
theorem d_V_closed_11 : decode b_V_closed 11 = .ok (.iload_n 1, 1) := by decide +kernel
theorem d_V_closed_12 : decode b_V_closed 12 = .ok (.iconst 4, 1) := by decide +kernel
theorem d_V_closed_13 : decode b_V_closed 13 = .ok (.iadd, 1) := by decide +kernel
theorem d_V_closed_14 : decode b_V_closed 14 = .ok (.aload_n 0, 1) := by decide +kernel
theorem d_V_closed_15 : decode b_V_closed 15 = .ok (.getfield 20, 3) := by decide +kernel
theorem d_V_closed_18 : decode b_V_closed 18 = .ok (.iload_n 1, 1) := by decide +kernel
theorem d_V_closed_19 : decode b_V_closed 19 = .ok (.iconst 1, 1) := by decide +kernel
theorem d_V_closed_20 : decode b_V_closed 20 = .ok (.iadd, 1) := by decide +kernel
theorem d_V_closed_21 : decode b_V_closed 21 = .ok (.iaload, 1) := by decide +kernel
theorem d_V_closed_22 : decode b_V_closed 22 = .ok (.iadd, 1) := by decide +kernel
theorem d_V_closed_23 : decode b_V_closed 23 = .ok (.if_icmp .ge 45, 3) := by decide +kernel
theorem d_V_closed_26 : decode b_V_closed 26 = .ok (.iload_n 2, 1) := by decide +kernel
theorem d_V_closed_27 : decode b_V_closed 27 = .ok (.aload_n 0, 1) := by decide +kernel
theorem d_V_closed_28 : decode b_V_closed 28 = .ok (.getfield 20, 3) := by decide +kernel
theorem d_V_closed_31 : decode b_V_closed 31 = .ok (.aload_n 0, 1) := by decide +kernel
theorem d_V_closed_32 : decode b_V_closed 32 = .ok (.getfield 20, 3) := by decide +kernel
theorem d_V_closed_35 : decode b_V_closed 35 = .ok (.iload 4, 2) := by decide +kernel
theorem d_V_closed_37 : decode b_V_closed 37 = .ok (.iaload, 1) := by decide +kernel
theorem d_V_closed_38 : decode b_V_closed 38 = .ok (.iconst 2, 1) := by decide +kernel
theorem d_V_closed_39 : decode b_V_closed 39 = .ok (.iadd, 1) := by decide +kernel
theorem d_V_closed_40 : decode b_V_closed 40 = .ok (.iaload, 1) := by decide +kernel
theorem d_V_closed_41 : decode b_V_closed 41 = .ok (.iadd, 1) := by decide +kernel
theorem d_V_closed_42 : decode b_V_closed 42 = .ok (.istore_n 2, 1) := by decide +kernel
theorem d_V_closed_43 : decode b_V_closed 43 = .ok (.iload_n 3, 1) := by decide +kernel
theorem d_V_closed_44 : decode b_V_closed 44 = .ok (.aload_n 0, 1) := by decide +kernel
theorem d_V_closed_45 : decode b_V_closed 45 = .ok (.getfield 20, 3) := by decide +kernel
theorem d_V_closed_48 : decode b_V_closed 48 = .ok (.aload_n 0, 1) := by decide +kernel
theorem d_V_closed_49 : decode b_V_closed 49 = .ok (.getfield 20, 3) := by decide +kernel
theorem d_V_closed_52 : decode b_V_closed 52 = .ok (.iload 4, 2) := by decide +kernel
theorem d_V_closed_54 : decode b_V_closed 54 = .ok (.iaload, 1) := by decide +kernel
theorem d_V_closed_55 : decode b_V_closed 55 = .ok (.iconst 3, 1) := by decide +kernel
theorem d_V_closed_56 : decode b_V_closed 56 = .ok (.iadd, 1) := by decide +kernel
theorem d_V_closed_57 : decode b_V_closed 57 = .ok (.iaload, 1) := by decide +kernel
theorem d_V_closed_58 : decode b_V_closed 58 = .ok (.invokestatic 85, 3) := by decide +kernel
theorem d_V_closed_61 : decode b_V_closed 61 = .ok (.istore_n 3, 1) := by decide +kernel
theorem d_V_closed_62 : decode b_V_closed 62 = .ok (.iinc 4 1, 3) := by decide +kernel
theorem d_V_closed_65 : decode b_V_closed 65 = .ok (.goto (-56), 3) := by decide +kernel
theorem d_V_closed_68 : decode b_V_closed 68 = .ok (.iload_n 2, 1) := by decide +kernel
theorem d_V_closed_69 : decode b_V_closed 69 = .ok (.bipush 24, 2) := by decide +kernel
theorem d_V_closed_71 : decode b_V_closed 71 = .ok (.if_icmp .gt 8, 3) := by decide +kernel
theorem d_V_closed_74 : decode b_V_closed 74 = .ok (.iload_n 3, 1) := by decide +kernel
theorem d_V_closed_75 : decode b_V_closed 75 = .ok (.iconst 5, 1) := by decide +kernel
theorem d_V_closed_76 : decode b_V_closed 76 = .ok (.if_icmp .ne 13, 3) := by decide +kernel
theorem d_V_closed_79 : decode b_V_closed 79 = .ok (.new 72, 3) := by decide +kernel
theorem d_V_closed_82 : decode b_V_closed 82 = .ok (.dup, 1) := by decide +kernel
theorem d_V_closed_83 : decode b_V_closed 83 = .ok (.ldc 90, 2) := by decide +kernel
theorem d_V_closed_85 : decode b_V_closed 85 = .ok (.invokespecial 76, 3) := by decide +kernel
theorem d_V_closed_88 : decode b_V_closed 88 = .ok (.athrow, 1) := by decide +kernel
theorem d_V_closed_89 : decode b_V_closed 89 = .ok (.aload_n 0, 1) := by decide +kernel
theorem d_V_closed_90 : decode b_V_closed 90 = .ok (.getfield 20, 3) := by decide +kernel
theorem d_V_closed_93 : decode b_V_closed 93 = .ok (.iload_n 1, 1) := by decide +kernel
theorem d_V_closed_94 : decode b_V_closed 94 = .ok (.iconst 2, 1) := by decide +kernel
theorem d_V_closed_95 : decode b_V_closed 95 = .ok (.iadd, 1) := by decide +kernel
theorem d_V_closed_96 : decode b_V_closed 96 = .ok (.iload_n 2, 1) := by decide +kernel
theorem d_V_closed_97 : decode b_V_closed 97 = .ok (.iastore, 1) := by decide +kernel
theorem d_V_closed_98 : decode b_V_closed 98 = .ok (.aload_n 0, 1) := by decide +kernel
theorem d_V_closed_99 : decode b_V_closed 99 = .ok (.getfield 20, 3) := by decide +kernel
theorem d_V_closed_102 : decode b_V_closed 102 = .ok (.iload_n 1, 1) := by decide +kernel
theorem d_V_closed_103 : decode b_V_closed 103 = .ok (.iconst 3, 1) := by decide +kernel
theorem d_V_closed_104 : decode b_V_closed 104 = .ok (.iadd, 1) := by decide +kernel
theorem d_V_closed_105 : decode b_V_closed 105 = .ok (.iload_n 3, 1) := by decide +kernel
theorem d_V_closed_106 : decode b_V_closed 106 = .ok (.iconst 1, 1) := by decide +kernel
theorem d_V_closed_107 : decode b_V_closed 107 = .ok (.iadd, 1) := by decide +kernel
theorem d_V_closed_108 : decode b_V_closed 108 = .ok (.iastore, 1) := by decide +kernel
theorem d_V_closed_109 : decode b_V_closed 109 = .ok (.iload_n 1, 1) := by decide +kernel
theorem d_V_closed_110 : decode b_V_closed 110 = .ok (.ireturn, 1) := by decide +kernel
theorem d_V_truth_0 : decode b_V_truth 0 = .ok (.iload_n 1, 1) := by decide +kernel
theorem d_V_truth_1 : decode b_V_truth 1 = .ok (.ifCond .eq 8, 3) := by decide +kernel
theorem d_V_truth_4 : decode b_V_truth 4 = .ok (.bipush 8, 2) := by decide +kernel
theorem d_V_truth_6 : decode b_V_truth 6 = .ok (.goto 4, 3) := by decide +kernel
theorem d_V_truth_9 : decode b_V_truth 9 = .ok (.iconst 4, 1) := by decide +kernel
theorem d_V_truth_10 : decode b_V_truth 10 = .ok (.ireturn, 1) := by decide +kernel
theorem d_V_wordFor_0 : decode b_V_wordFor 0 = .ok (.iload_n 1, 1) := by decide +kernel
theorem d_V_wordFor_1 : decode b_V_wordFor 1 = .ok (.iconst 4, 1) := by decide +kernel
theorem d_V_wordFor_2 : decode b_V_wordFor 2 = .ok (.imul, 1) := by decide +kernel
theorem d_V_wordFor_3 : decode b_V_wordFor 3 = .ok (.ireturn, 1) := by decide +kernel
theorem d_V_small_0 : decode b_V_small 0 = .ok (.bipush 16, 2) := by decide +kernel
theorem d_V_small_2 : decode b_V_small 2 = .ok (.iload_n 1, 1) := by decide +kernel
theorem d_V_small_3 : decode b_V_small 3 = .ok (.bipush 6, 2) := by decide +kernel
theorem d_V_small_5 : decode b_V_small 5 = .ok (.imul, 1) := by decide +kernel
theorem d_V_small_6 : decode b_V_small 6 = .ok (.iadd, 1) := by decide +kernel
theorem d_V_small_7 : decode b_V_small 7 = .ok (.ireturn, 1) := by decide +kernel
theorem d_V_numberOf_0 : decode b_V_numberOf 0 = .ok (.lload_n 1, 1) := by decide +kernel
theorem d_V_numberOf_1 : decode b_V_numberOf 1 = .ok (.lstore 4, 2) := by decide +kernel
theorem d_V_numberOf_3 : decode b_V_numberOf 3 = .ok (.iload_n 3, 1) := by decide +kernel
theorem d_V_numberOf_4 : decode b_V_numberOf 4 = .ok (.istore 6, 2) := by decide +kernel
theorem d_V_numberOf_6 : decode b_V_numberOf 6 = .ok (.iload 6, 2) := by decide +kernel
theorem d_V_numberOf_8 : decode b_V_numberOf 8 = .ok (.ifCond .le 28, 3) := by decide +kernel
theorem d_V_numberOf_11 : decode b_V_numberOf 11 = .ok (.lload 4, 2) := by decide +kernel
theorem d_V_numberOf_13 : decode b_V_numberOf 13 = .ok (.ldc2_w 92, 3) := by decide +kernel
theorem d_V_numberOf_16 : decode b_V_numberOf 16 = .ok (.lrem, 1) := by decide +kernel
theorem d_V_numberOf_17 : decode b_V_numberOf 17 = .ok (.lconst 0, 1) := by decide +kernel
theorem d_V_numberOf_18 : decode b_V_numberOf 18 = .ok (.lcmp, 1) := by decide +kernel
theorem d_V_numberOf_19 : decode b_V_numberOf 19 = .ok (.ifCond .ne 17, 3) := by decide +kernel
theorem d_V_numberOf_22 : decode b_V_numberOf 22 = .ok (.lload 4, 2) := by decide +kernel
theorem d_V_numberOf_24 : decode b_V_numberOf 24 = .ok (.ldc2_w 92, 3) := by decide +kernel
theorem d_V_numberOf_27 : decode b_V_numberOf 27 = .ok (.ldiv, 1) := by decide +kernel
theorem d_V_numberOf_28 : decode b_V_numberOf 28 = .ok (.lstore 4, 2) := by decide +kernel
theorem d_V_numberOf_30 : decode b_V_numberOf 30 = .ok (.iinc 6 (-1), 3) := by decide +kernel
theorem d_V_numberOf_33 : decode b_V_numberOf 33 = .ok (.goto (-27), 3) := by decide +kernel
theorem d_V_numberOf_36 : decode b_V_numberOf 36 = .ok (.iload 6, 2) := by decide +kernel
theorem d_V_numberOf_38 : decode b_V_numberOf 38 = .ok (.bipush 6, 2) := by decide +kernel
theorem d_V_numberOf_40 : decode b_V_numberOf 40 = .ok (.if_icmp .gt 21, 3) := by decide +kernel
theorem d_V_numberOf_43 : decode b_V_numberOf 43 = .ok (.lload 4, 2) := by decide +kernel
theorem d_V_numberOf_45 : decode b_V_numberOf 45 = .ok (.ldc2_w 94, 3) := by decide +kernel
theorem d_V_numberOf_48 : decode b_V_numberOf 48 = .ok (.lcmp, 1) := by decide +kernel
theorem d_V_numberOf_49 : decode b_V_numberOf 49 = .ok (.ifCond .gt 12, 3) := by decide +kernel
theorem d_V_numberOf_52 : decode b_V_numberOf 52 = .ok (.lload 4, 2) := by decide +kernel
theorem d_V_numberOf_54 : decode b_V_numberOf 54 = .ok (.ldc2_w 96, 3) := by decide +kernel
theorem d_V_numberOf_57 : decode b_V_numberOf 57 = .ok (.lcmp, 1) := by decide +kernel
theorem d_V_numberOf_58 : decode b_V_numberOf 58 = .ok (.ifCond .ge 13, 3) := by decide +kernel
theorem d_V_numberOf_61 : decode b_V_numberOf 61 = .ok (.new 72, 3) := by decide +kernel
theorem d_V_numberOf_64 : decode b_V_numberOf 64 = .ok (.dup, 1) := by decide +kernel
theorem d_V_numberOf_65 : decode b_V_numberOf 65 = .ok (.ldc 98, 2) := by decide +kernel
theorem d_V_numberOf_67 : decode b_V_numberOf 67 = .ok (.invokespecial 76, 3) := by decide +kernel
theorem d_V_numberOf_70 : decode b_V_numberOf 70 = .ok (.athrow, 1) := by decide +kernel
theorem d_V_numberOf_71 : decode b_V_numberOf 71 = .ok (.aload_n 0, 1) := by decide +kernel
theorem d_V_numberOf_72 : decode b_V_numberOf 72 = .ok (.iconst 3, 1) := by decide +kernel
theorem d_V_numberOf_73 : decode b_V_numberOf 73 = .ok (.iconst 0, 1) := by decide +kernel
theorem d_V_numberOf_74 : decode b_V_numberOf 74 = .ok (.invokevirtual 63, 3) := by decide +kernel
theorem d_V_numberOf_77 : decode b_V_numberOf 77 = .ok (.istore 7, 2) := by decide +kernel
theorem d_V_numberOf_79 : decode b_V_numberOf 79 = .ok (.aload_n 0, 1) := by decide +kernel
theorem d_V_numberOf_80 : decode b_V_numberOf 80 = .ok (.getfield 20, 3) := by decide +kernel
theorem d_V_numberOf_83 : decode b_V_numberOf 83 = .ok (.iload 7, 2) := by decide +kernel
theorem d_V_numberOf_85 : decode b_V_numberOf 85 = .ok (.iconst 4, 1) := by decide +kernel
theorem d_V_numberOf_86 : decode b_V_numberOf 86 = .ok (.iadd, 1) := by decide +kernel
theorem d_V_numberOf_87 : decode b_V_numberOf 87 = .ok (.lload 4, 2) := by decide +kernel
theorem d_V_numberOf_89 : decode b_V_numberOf 89 = .ok (.l2i, 1) := by decide +kernel
theorem d_V_numberOf_90 : decode b_V_numberOf 90 = .ok (.iastore, 1) := by decide +kernel
theorem d_V_numberOf_91 : decode b_V_numberOf 91 = .ok (.aload_n 0, 1) := by decide +kernel
theorem d_V_numberOf_92 : decode b_V_numberOf 92 = .ok (.getfield 20, 3) := by decide +kernel
theorem d_V_numberOf_95 : decode b_V_numberOf 95 = .ok (.iload 7, 2) := by decide +kernel
theorem d_V_numberOf_97 : decode b_V_numberOf 97 = .ok (.iconst 4, 1) := by decide +kernel
theorem d_V_numberOf_98 : decode b_V_numberOf 98 = .ok (.iadd, 1) := by decide +kernel
theorem d_V_numberOf_99 : decode b_V_numberOf 99 = .ok (.iconst 1, 1) := by decide +kernel
theorem d_V_numberOf_100 : decode b_V_numberOf 100 = .ok (.iadd, 1) := by decide +kernel
theorem d_V_numberOf_101 : decode b_V_numberOf 101 = .ok (.iload 6, 2) := by decide +kernel
theorem d_V_numberOf_103 : decode b_V_numberOf 103 = .ok (.iastore, 1) := by decide +kernel
theorem d_V_numberOf_104 : decode b_V_numberOf 104 = .ok (.iload 7, 2) := by decide +kernel
theorem d_V_numberOf_106 : decode b_V_numberOf 106 = .ok (.ireturn, 1) := by decide +kernel
theorem d_V_longer_0 : decode b_V_longer 0 = .ok (.aload_n 0, 1) := by decide +kernel
theorem d_V_longer_1 : decode b_V_longer 1 = .ok (.iload_n 1, 1) := by decide +kernel
theorem d_V_longer_2 : decode b_V_longer 2 = .ok (.invokevirtual 50, 3) := by decide +kernel
theorem d_V_longer_5 : decode b_V_longer 5 = .ok (.istore_n 3, 1) := by decide +kernel
theorem d_V_longer_6 : decode b_V_longer 6 = .ok (.aload_n 0, 1) := by decide +kernel
theorem d_V_longer_7 : decode b_V_longer 7 = .ok (.iconst 4, 1) := by decide +kernel
theorem d_V_longer_8 : decode b_V_longer 8 = .ok (.iload_n 3, 1) := by decide +kernel
theorem d_V_longer_9 : decode b_V_longer 9 = .ok (.iconst 1, 1) := by decide +kernel
theorem d_V_longer_10 : decode b_V_longer 10 = .ok (.iadd, 1) := by decide +kernel
theorem d_V_longer_11 : decode b_V_longer 11 = .ok (.invokevirtual 63, 3) := by decide +kernel
theorem d_V_longer_14 : decode b_V_longer 14 = .ok (.istore 4, 2) := by decide +kernel
theorem d_V_longer_16 : decode b_V_longer 16 = .ok (.aload_n 0, 1) := by decide +kernel
theorem d_V_longer_17 : decode b_V_longer 17 = .ok (.getfield 20, 3) := by decide +kernel
theorem d_V_longer_20 : decode b_V_longer 20 = .ok (.iload_n 1, 1) := by decide +kernel
theorem d_V_longer_21 : decode b_V_longer 21 = .ok (.iconst 4, 1) := by decide +kernel
theorem d_V_longer_22 : decode b_V_longer 22 = .ok (.iadd, 1) := by decide +kernel
theorem d_V_longer_23 : decode b_V_longer 23 = .ok (.aload_n 0, 1) := by decide +kernel
theorem d_V_longer_24 : decode b_V_longer 24 = .ok (.getfield 20, 3) := by decide +kernel
theorem d_V_longer_27 : decode b_V_longer 27 = .ok (.iload 4, 2) := by decide +kernel
theorem d_V_longer_29 : decode b_V_longer 29 = .ok (.iconst 4, 1) := by decide +kernel
theorem d_V_longer_30 : decode b_V_longer 30 = .ok (.iadd, 1) := by decide +kernel
theorem d_V_longer_31 : decode b_V_longer 31 = .ok (.iload_n 3, 1) := by decide +kernel
theorem d_V_longer_32 : decode b_V_longer 32 = .ok (.invokestatic 100, 3) := by decide +kernel
theorem d_V_longer_35 : decode b_V_longer 35 = .ok (.aload_n 0, 1) := by decide +kernel
theorem d_V_longer_36 : decode b_V_longer 36 = .ok (.getfield 20, 3) := by decide +kernel
theorem d_V_longer_39 : decode b_V_longer 39 = .ok (.iload 4, 2) := by decide +kernel
theorem d_V_longer_41 : decode b_V_longer 41 = .ok (.iconst 4, 1) := by decide +kernel
theorem d_V_longer_42 : decode b_V_longer 42 = .ok (.iadd, 1) := by decide +kernel
theorem d_V_longer_43 : decode b_V_longer 43 = .ok (.iload_n 3, 1) := by decide +kernel
theorem d_V_longer_44 : decode b_V_longer 44 = .ok (.iadd, 1) := by decide +kernel
theorem d_V_longer_45 : decode b_V_longer 45 = .ok (.iload_n 2, 1) := by decide +kernel
theorem d_V_longer_46 : decode b_V_longer 46 = .ok (.iastore, 1) := by decide +kernel
theorem d_V_longer_47 : decode b_V_longer 47 = .ok (.iload 4, 2) := by decide +kernel
theorem d_V_longer_49 : decode b_V_longer 49 = .ok (.ireturn, 1) := by decide +kernel
theorem d_V_arrayOf_0 : decode b_V_arrayOf 0 = .ok (.aload_n 0, 1) := by decide +kernel
theorem d_V_arrayOf_1 : decode b_V_arrayOf 1 = .ok (.iconst 5, 1) := by decide +kernel
theorem d_V_arrayOf_2 : decode b_V_arrayOf 2 = .ok (.iload_n 2, 1) := by decide +kernel
theorem d_V_arrayOf_3 : decode b_V_arrayOf 3 = .ok (.invokevirtual 63, 3) := by decide +kernel
theorem d_V_arrayOf_6 : decode b_V_arrayOf 6 = .ok (.istore_n 3, 1) := by decide +kernel
theorem d_V_arrayOf_7 : decode b_V_arrayOf 7 = .ok (.aload_n 1, 1) := by decide +kernel
theorem d_V_arrayOf_8 : decode b_V_arrayOf 8 = .ok (.iconst 0, 1) := by decide +kernel
theorem d_V_arrayOf_9 : decode b_V_arrayOf 9 = .ok (.aload_n 0, 1) := by decide +kernel
theorem d_V_arrayOf_10 : decode b_V_arrayOf 10 = .ok (.getfield 20, 3) := by decide +kernel
theorem d_V_arrayOf_13 : decode b_V_arrayOf 13 = .ok (.iload_n 3, 1) := by decide +kernel
theorem d_V_arrayOf_14 : decode b_V_arrayOf 14 = .ok (.iconst 4, 1) := by decide +kernel
theorem d_V_arrayOf_15 : decode b_V_arrayOf 15 = .ok (.iadd, 1) := by decide +kernel
theorem d_V_arrayOf_16 : decode b_V_arrayOf 16 = .ok (.iload_n 2, 1) := by decide +kernel
theorem d_V_arrayOf_17 : decode b_V_arrayOf 17 = .ok (.invokestatic 100, 3) := by decide +kernel
theorem d_V_arrayOf_20 : decode b_V_arrayOf 20 = .ok (.aload_n 0, 1) := by decide +kernel
theorem d_V_arrayOf_21 : decode b_V_arrayOf 21 = .ok (.iload_n 3, 1) := by decide +kernel
theorem d_V_arrayOf_22 : decode b_V_arrayOf 22 = .ok (.invokevirtual 106, 3) := by decide +kernel
theorem d_V_arrayOf_25 : decode b_V_arrayOf 25 = .ok (.ireturn, 1) := by decide +kernel
theorem d_V_emptyArray_0 : decode b_V_emptyArray 0 = .ok (.aload_n 0, 1) := by decide +kernel
theorem d_V_emptyArray_1 : decode b_V_emptyArray 1 = .ok (.aload_n 0, 1) := by decide +kernel
theorem d_V_emptyArray_2 : decode b_V_emptyArray 2 = .ok (.iconst 5, 1) := by decide +kernel
theorem d_V_emptyArray_3 : decode b_V_emptyArray 3 = .ok (.iconst 0, 1) := by decide +kernel
theorem d_V_emptyArray_4 : decode b_V_emptyArray 4 = .ok (.invokevirtual 63, 3) := by decide +kernel
theorem d_V_emptyArray_7 : decode b_V_emptyArray 7 = .ok (.invokevirtual 106, 3) := by decide +kernel
theorem d_V_emptyArray_10 : decode b_V_emptyArray 10 = .ok (.ireturn, 1) := by decide +kernel
theorem d_V_objectOf_0 : decode b_V_objectOf 0 = .ok (.aload_n 0, 1) := by decide +kernel
theorem d_V_objectOf_1 : decode b_V_objectOf 1 = .ok (.bipush 6, 2) := by decide +kernel
theorem d_V_objectOf_3 : decode b_V_objectOf 3 = .ok (.iconst 1, 1) := by decide +kernel
theorem d_V_objectOf_4 : decode b_V_objectOf 4 = .ok (.invokevirtual 63, 3) := by decide +kernel
theorem d_V_objectOf_7 : decode b_V_objectOf 7 = .ok (.istore_n 3, 1) := by decide +kernel
theorem d_V_objectOf_8 : decode b_V_objectOf 8 = .ok (.aload_n 0, 1) := by decide +kernel
theorem d_V_objectOf_9 : decode b_V_objectOf 9 = .ok (.getfield 20, 3) := by decide +kernel
theorem d_V_objectOf_12 : decode b_V_objectOf 12 = .ok (.iload_n 3, 1) := by decide +kernel
theorem d_V_objectOf_13 : decode b_V_objectOf 13 = .ok (.iconst 4, 1) := by decide +kernel
theorem d_V_objectOf_14 : decode b_V_objectOf 14 = .ok (.iadd, 1) := by decide +kernel
theorem d_V_objectOf_15 : decode b_V_objectOf 15 = .ok (.iload_n 2, 1) := by decide +kernel
theorem d_V_objectOf_16 : decode b_V_objectOf 16 = .ok (.iastore, 1) := by decide +kernel
theorem d_V_objectOf_17 : decode b_V_objectOf 17 = .ok (.aload_n 0, 1) := by decide +kernel
theorem d_V_objectOf_18 : decode b_V_objectOf 18 = .ok (.getfield 20, 3) := by decide +kernel
theorem d_V_objectOf_21 : decode b_V_objectOf 21 = .ok (.iload_n 3, 1) := by decide +kernel
theorem d_V_objectOf_22 : decode b_V_objectOf 22 = .ok (.iconst 4, 1) := by decide +kernel
theorem d_V_objectOf_23 : decode b_V_objectOf 23 = .ok (.iadd, 1) := by decide +kernel
theorem d_V_objectOf_24 : decode b_V_objectOf 24 = .ok (.iconst 1, 1) := by decide +kernel
theorem d_V_objectOf_25 : decode b_V_objectOf 25 = .ok (.iadd, 1) := by decide +kernel
theorem d_V_objectOf_26 : decode b_V_objectOf 26 = .ok (.iload_n 1, 1) := by decide +kernel
theorem d_V_objectOf_27 : decode b_V_objectOf 27 = .ok (.iastore, 1) := by decide +kernel
theorem d_V_objectOf_28 : decode b_V_objectOf 28 = .ok (.aload_n 0, 1) := by decide +kernel
theorem d_V_objectOf_29 : decode b_V_objectOf 29 = .ok (.iload_n 3, 1) := by decide +kernel
theorem d_V_objectOf_30 : decode b_V_objectOf 30 = .ok (.invokevirtual 106, 3) := by decide +kernel
theorem d_V_objectOf_33 : decode b_V_objectOf 33 = .ok (.ireturn, 1) := by decide +kernel
theorem d_V_compared_0 : decode b_V_compared 0 = .ok (.aload_n 0, 1) := by decide +kernel
theorem d_V_compared_1 : decode b_V_compared 1 = .ok (.iload_n 1, 1) := by decide +kernel
theorem d_V_compared_2 : decode b_V_compared 2 = .ok (.invokevirtual 43, 3) := by decide +kernel
theorem d_V_compared_5 : decode b_V_compared 5 = .ok (.aload_n 0, 1) := by decide +kernel
theorem d_V_compared_6 : decode b_V_compared 6 = .ok (.iload_n 2, 1) := by decide +kernel
theorem d_V_compared_7 : decode b_V_compared 7 = .ok (.invokevirtual 43, 3) := by decide +kernel
theorem d_V_compared_10 : decode b_V_compared 10 = .ok (.if_icmp .eq 22, 3) := by decide +kernel
theorem d_V_compared_13 : decode b_V_compared 13 = .ok (.aload_n 0, 1) := by decide +kernel
theorem d_V_compared_14 : decode b_V_compared 14 = .ok (.iload_n 1, 1) := by decide +kernel
theorem d_V_compared_15 : decode b_V_compared 15 = .ok (.invokevirtual 43, 3) := by decide +kernel
theorem d_V_compared_18 : decode b_V_compared 18 = .ok (.aload_n 0, 1) := by decide +kernel
theorem d_V_compared_19 : decode b_V_compared 19 = .ok (.iload_n 2, 1) := by decide +kernel
theorem d_V_compared_20 : decode b_V_compared 20 = .ok (.invokevirtual 43, 3) := by decide +kernel
theorem d_V_compared_23 : decode b_V_compared 23 = .ok (.if_icmp .ge 7, 3) := by decide +kernel
theorem d_V_compared_26 : decode b_V_compared 26 = .ok (.iconst (-1), 1) := by decide +kernel
theorem d_V_compared_27 : decode b_V_compared 27 = .ok (.goto 4, 3) := by decide +kernel
theorem d_V_compared_30 : decode b_V_compared 30 = .ok (.iconst 1, 1) := by decide +kernel
theorem d_V_compared_31 : decode b_V_compared 31 = .ok (.ireturn, 1) := by decide +kernel
theorem d_V_compared_32 : decode b_V_compared 32 = .ok (.aload_n 0, 1) := by decide +kernel
theorem d_V_compared_33 : decode b_V_compared 33 = .ok (.iload_n 1, 1) := by decide +kernel
theorem d_V_compared_34 : decode b_V_compared 34 = .ok (.invokevirtual 43, 3) := by decide +kernel
theorem d_V_compared_37 : decode b_V_compared 37 = .ok (.tableswitch 95 3 6 #[31, 45, 52, 61], 31) := by decide +kernel
theorem d_V_compared_68 : decode b_V_compared 68 = .ok (.aload_n 0, 1) := by decide +kernel
theorem d_V_compared_69 : decode b_V_compared 69 = .ok (.iload_n 1, 1) := by decide +kernel
theorem d_V_compared_70 : decode b_V_compared 70 = .ok (.invokevirtual 109, 3) := by decide +kernel
theorem d_V_compared_73 : decode b_V_compared 73 = .ok (.aload_n 0, 1) := by decide +kernel
theorem d_V_compared_74 : decode b_V_compared 74 = .ok (.iload_n 2, 1) := by decide +kernel
theorem d_V_compared_75 : decode b_V_compared 75 = .ok (.invokevirtual 109, 3) := by decide +kernel
theorem d_V_compared_78 : decode b_V_compared 78 = .ok (.invokestatic 113, 3) := by decide +kernel
theorem d_V_compared_81 : decode b_V_compared 81 = .ok (.ireturn, 1) := by decide +kernel
theorem d_V_compared_82 : decode b_V_compared 82 = .ok (.aload_n 0, 1) := by decide +kernel
theorem d_V_compared_83 : decode b_V_compared 83 = .ok (.iload_n 1, 1) := by decide +kernel
theorem d_V_compared_84 : decode b_V_compared 84 = .ok (.iload_n 2, 1) := by decide +kernel
theorem d_V_compared_85 : decode b_V_compared 85 = .ok (.invokevirtual 119, 3) := by decide +kernel
theorem d_V_compared_88 : decode b_V_compared 88 = .ok (.ireturn, 1) := by decide +kernel
theorem d_V_compared_89 : decode b_V_compared 89 = .ok (.aload_n 0, 1) := by decide +kernel
theorem d_V_compared_90 : decode b_V_compared 90 = .ok (.iload_n 1, 1) := by decide +kernel
theorem d_V_compared_91 : decode b_V_compared 91 = .ok (.iload_n 2, 1) := by decide +kernel
theorem d_V_compared_92 : decode b_V_compared 92 = .ok (.iconst 0, 1) := by decide +kernel
theorem d_V_compared_93 : decode b_V_compared 93 = .ok (.iconst 0, 1) := by decide +kernel
theorem d_V_compared_94 : decode b_V_compared 94 = .ok (.invokevirtual 122, 3) := by decide +kernel
theorem d_V_compared_97 : decode b_V_compared 97 = .ok (.ireturn, 1) := by decide +kernel
theorem d_V_compared_98 : decode b_V_compared 98 = .ok (.aload_n 0, 1) := by decide +kernel
theorem d_V_compared_99 : decode b_V_compared 99 = .ok (.iload_n 1, 1) := by decide +kernel
theorem d_V_compared_100 : decode b_V_compared 100 = .ok (.iload_n 2, 1) := by decide +kernel
theorem d_V_compared_101 : decode b_V_compared 101 = .ok (.aload_n 0, 1) := by decide +kernel
theorem d_V_compared_102 : decode b_V_compared 102 = .ok (.iload_n 1, 1) := by decide +kernel
theorem d_V_compared_103 : decode b_V_compared 103 = .ok (.invokevirtual 50, 3) := by decide +kernel
theorem d_V_compared_106 : decode b_V_compared 106 = .ok (.aload_n 0, 1) := by decide +kernel
theorem d_V_compared_107 : decode b_V_compared 107 = .ok (.iload_n 2, 1) := by decide +kernel
theorem d_V_compared_108 : decode b_V_compared 108 = .ok (.invokevirtual 50, 3) := by decide +kernel
theorem d_V_compared_111 : decode b_V_compared 111 = .ok (.invokevirtual 122, 3) := by decide +kernel
theorem d_V_compared_114 : decode b_V_compared 114 = .ok (.istore_n 3, 1) := by decide +kernel
theorem d_V_compared_115 : decode b_V_compared 115 = .ok (.iload_n 3, 1) := by decide +kernel
theorem d_V_compared_116 : decode b_V_compared 116 = .ok (.ifCond .eq 7, 3) := by decide +kernel
theorem d_V_compared_119 : decode b_V_compared 119 = .ok (.iload_n 3, 1) := by decide +kernel
theorem d_V_compared_120 : decode b_V_compared 120 = .ok (.goto 11, 3) := by decide +kernel
theorem d_V_compared_123 : decode b_V_compared 123 = .ok (.aload_n 0, 1) := by decide +kernel
theorem d_V_compared_124 : decode b_V_compared 124 = .ok (.iload_n 1, 1) := by decide +kernel
theorem d_V_compared_125 : decode b_V_compared 125 = .ok (.iload_n 2, 1) := by decide +kernel
theorem d_V_compared_126 : decode b_V_compared 126 = .ok (.iconst 0, 1) := by decide +kernel
theorem d_V_compared_127 : decode b_V_compared 127 = .ok (.iconst 0, 1) := by decide +kernel
theorem d_V_compared_128 : decode b_V_compared 128 = .ok (.invokevirtual 122, 3) := by decide +kernel
theorem d_V_compared_131 : decode b_V_compared 131 = .ok (.ireturn, 1) := by decide +kernel
theorem d_V_compared_132 : decode b_V_compared 132 = .ok (.iconst 0, 1) := by decide +kernel
theorem d_V_compared_133 : decode b_V_compared 133 = .ok (.ireturn, 1) := by decide +kernel
theorem d_V_comparedTexts_0 : decode b_V_comparedTexts 0 = .ok (.aload_n 0, 1) := by decide +kernel
theorem d_V_comparedTexts_1 : decode b_V_comparedTexts 1 = .ok (.iload_n 1, 1) := by decide +kernel
theorem d_V_comparedTexts_2 : decode b_V_comparedTexts 2 = .ok (.invokevirtual 50, 3) := by decide +kernel
theorem d_V_comparedTexts_5 : decode b_V_comparedTexts 5 = .ok (.aload_n 0, 1) := by decide +kernel
theorem d_V_comparedTexts_6 : decode b_V_comparedTexts 6 = .ok (.iload_n 2, 1) := by decide +kernel
theorem d_V_comparedTexts_7 : decode b_V_comparedTexts 7 = .ok (.invokevirtual 50, 3) := by decide +kernel
theorem d_V_comparedTexts_10 : decode b_V_comparedTexts 10 = .ok (.invokestatic 126, 3) := by decide +kernel
theorem d_V_comparedTexts_13 : decode b_V_comparedTexts 13 = .ok (.istore_n 3, 1) := by decide +kernel
theorem d_V_comparedTexts_14 : decode b_V_comparedTexts 14 = .ok (.iconst 0, 1) := by decide +kernel
theorem d_V_comparedTexts_15 : decode b_V_comparedTexts 15 = .ok (.istore 4, 2) := by decide +kernel
theorem d_V_comparedTexts_17 : decode b_V_comparedTexts 17 = .ok (.iload 4, 2) := by decide +kernel
theorem d_V_comparedTexts_19 : decode b_V_comparedTexts 19 = .ok (.iload_n 3, 1) := by decide +kernel
theorem d_V_comparedTexts_20 : decode b_V_comparedTexts 20 = .ok (.if_icmp .ge 49, 3) := by decide +kernel
theorem d_V_comparedTexts_23 : decode b_V_comparedTexts 23 = .ok (.aload_n 0, 1) := by decide +kernel
theorem d_V_comparedTexts_24 : decode b_V_comparedTexts 24 = .ok (.iload_n 1, 1) := by decide +kernel
theorem d_V_comparedTexts_25 : decode b_V_comparedTexts 25 = .ok (.iload 4, 2) := by decide +kernel
theorem d_V_comparedTexts_27 : decode b_V_comparedTexts 27 = .ok (.invokevirtual 129, 3) := by decide +kernel
theorem d_V_comparedTexts_30 : decode b_V_comparedTexts 30 = .ok (.aload_n 0, 1) := by decide +kernel
theorem d_V_comparedTexts_31 : decode b_V_comparedTexts 31 = .ok (.iload_n 2, 1) := by decide +kernel
theorem d_V_comparedTexts_32 : decode b_V_comparedTexts 32 = .ok (.iload 4, 2) := by decide +kernel
theorem d_V_comparedTexts_34 : decode b_V_comparedTexts 34 = .ok (.invokevirtual 129, 3) := by decide +kernel
theorem d_V_comparedTexts_37 : decode b_V_comparedTexts 37 = .ok (.if_icmp .eq 26, 3) := by decide +kernel
theorem d_V_comparedTexts_40 : decode b_V_comparedTexts 40 = .ok (.aload_n 0, 1) := by decide +kernel
theorem d_V_comparedTexts_41 : decode b_V_comparedTexts 41 = .ok (.iload_n 1, 1) := by decide +kernel
theorem d_V_comparedTexts_42 : decode b_V_comparedTexts 42 = .ok (.iload 4, 2) := by decide +kernel
theorem d_V_comparedTexts_44 : decode b_V_comparedTexts 44 = .ok (.invokevirtual 129, 3) := by decide +kernel
theorem d_V_comparedTexts_47 : decode b_V_comparedTexts 47 = .ok (.aload_n 0, 1) := by decide +kernel
theorem d_V_comparedTexts_48 : decode b_V_comparedTexts 48 = .ok (.iload_n 2, 1) := by decide +kernel
theorem d_V_comparedTexts_49 : decode b_V_comparedTexts 49 = .ok (.iload 4, 2) := by decide +kernel
theorem d_V_comparedTexts_51 : decode b_V_comparedTexts 51 = .ok (.invokevirtual 129, 3) := by decide +kernel
theorem d_V_comparedTexts_54 : decode b_V_comparedTexts 54 = .ok (.if_icmp .ge 7, 3) := by decide +kernel
theorem d_V_comparedTexts_57 : decode b_V_comparedTexts 57 = .ok (.iconst (-1), 1) := by decide +kernel
theorem d_V_comparedTexts_58 : decode b_V_comparedTexts 58 = .ok (.goto 4, 3) := by decide +kernel
theorem d_V_comparedTexts_61 : decode b_V_comparedTexts 61 = .ok (.iconst 1, 1) := by decide +kernel
theorem d_V_comparedTexts_62 : decode b_V_comparedTexts 62 = .ok (.ireturn, 1) := by decide +kernel
theorem d_V_comparedTexts_63 : decode b_V_comparedTexts 63 = .ok (.iinc 4 1, 3) := by decide +kernel
theorem d_V_comparedTexts_66 : decode b_V_comparedTexts 66 = .ok (.goto (-49), 3) := by decide +kernel
theorem d_V_comparedTexts_69 : decode b_V_comparedTexts 69 = .ok (.aload_n 0, 1) := by decide +kernel
theorem d_V_comparedTexts_70 : decode b_V_comparedTexts 70 = .ok (.iload_n 1, 1) := by decide +kernel
theorem d_V_comparedTexts_71 : decode b_V_comparedTexts 71 = .ok (.invokevirtual 50, 3) := by decide +kernel
theorem d_V_comparedTexts_74 : decode b_V_comparedTexts 74 = .ok (.aload_n 0, 1) := by decide +kernel
theorem d_V_comparedTexts_75 : decode b_V_comparedTexts 75 = .ok (.iload_n 2, 1) := by decide +kernel
theorem d_V_comparedTexts_76 : decode b_V_comparedTexts 76 = .ok (.invokevirtual 50, 3) := by decide +kernel
theorem d_V_comparedTexts_79 : decode b_V_comparedTexts 79 = .ok (.invokestatic 132, 3) := by decide +kernel
theorem d_V_comparedTexts_82 : decode b_V_comparedTexts 82 = .ok (.ireturn, 1) := by decide +kernel
theorem d_V_comparedParts_0 : decode b_V_comparedParts 0 = .ok (.aload_n 0, 1) := by decide +kernel
theorem d_V_comparedParts_1 : decode b_V_comparedParts 1 = .ok (.iload_n 1, 1) := by decide +kernel
theorem d_V_comparedParts_2 : decode b_V_comparedParts 2 = .ok (.invokevirtual 50, 3) := by decide +kernel
theorem d_V_comparedParts_5 : decode b_V_comparedParts 5 = .ok (.aload_n 0, 1) := by decide +kernel
theorem d_V_comparedParts_6 : decode b_V_comparedParts 6 = .ok (.iload_n 2, 1) := by decide +kernel
theorem d_V_comparedParts_7 : decode b_V_comparedParts 7 = .ok (.invokevirtual 50, 3) := by decide +kernel
theorem d_V_comparedParts_10 : decode b_V_comparedParts 10 = .ok (.invokestatic 126, 3) := by decide +kernel
theorem d_V_comparedParts_13 : decode b_V_comparedParts 13 = .ok (.istore 5, 2) := by decide +kernel
theorem d_V_comparedParts_15 : decode b_V_comparedParts 15 = .ok (.iconst 0, 1) := by decide +kernel
theorem d_V_comparedParts_16 : decode b_V_comparedParts 16 = .ok (.istore 6, 2) := by decide +kernel
theorem d_V_comparedParts_18 : decode b_V_comparedParts 18 = .ok (.iload 6, 2) := by decide +kernel
theorem d_V_comparedParts_20 : decode b_V_comparedParts 20 = .ok (.iload 5, 2) := by decide +kernel
theorem d_V_comparedParts_22 : decode b_V_comparedParts 22 = .ok (.if_icmp .ge 42, 3) := by decide +kernel
theorem d_V_comparedParts_25 : decode b_V_comparedParts 25 = .ok (.aload_n 0, 1) := by decide +kernel
theorem d_V_comparedParts_26 : decode b_V_comparedParts 26 = .ok (.aload_n 0, 1) := by decide +kernel
theorem d_V_comparedParts_27 : decode b_V_comparedParts 27 = .ok (.iload_n 1, 1) := by decide +kernel
theorem d_V_comparedParts_28 : decode b_V_comparedParts 28 = .ok (.iload_n 3, 1) := by decide +kernel
theorem d_V_comparedParts_29 : decode b_V_comparedParts 29 = .ok (.iload 6, 2) := by decide +kernel
theorem d_V_comparedParts_31 : decode b_V_comparedParts 31 = .ok (.iadd, 1) := by decide +kernel
theorem d_V_comparedParts_32 : decode b_V_comparedParts 32 = .ok (.invokevirtual 53, 3) := by decide +kernel
theorem d_V_comparedParts_35 : decode b_V_comparedParts 35 = .ok (.aload_n 0, 1) := by decide +kernel
theorem d_V_comparedParts_36 : decode b_V_comparedParts 36 = .ok (.iload_n 2, 1) := by decide +kernel
theorem d_V_comparedParts_37 : decode b_V_comparedParts 37 = .ok (.iload 4, 2) := by decide +kernel
theorem d_V_comparedParts_39 : decode b_V_comparedParts 39 = .ok (.iload 6, 2) := by decide +kernel
theorem d_V_comparedParts_41 : decode b_V_comparedParts 41 = .ok (.iadd, 1) := by decide +kernel
theorem d_V_comparedParts_42 : decode b_V_comparedParts 42 = .ok (.invokevirtual 53, 3) := by decide +kernel
theorem d_V_comparedParts_45 : decode b_V_comparedParts 45 = .ok (.invokevirtual 136, 3) := by decide +kernel
theorem d_V_comparedParts_48 : decode b_V_comparedParts 48 = .ok (.istore 7, 2) := by decide +kernel
theorem d_V_comparedParts_50 : decode b_V_comparedParts 50 = .ok (.iload 7, 2) := by decide +kernel
theorem d_V_comparedParts_52 : decode b_V_comparedParts 52 = .ok (.ifCond .eq 6, 3) := by decide +kernel
theorem d_V_comparedParts_55 : decode b_V_comparedParts 55 = .ok (.iload 7, 2) := by decide +kernel
theorem d_V_comparedParts_57 : decode b_V_comparedParts 57 = .ok (.ireturn, 1) := by decide +kernel
theorem d_V_comparedParts_58 : decode b_V_comparedParts 58 = .ok (.iinc 6 1, 3) := by decide +kernel
theorem d_V_comparedParts_61 : decode b_V_comparedParts 61 = .ok (.goto (-43), 3) := by decide +kernel
theorem d_V_comparedParts_64 : decode b_V_comparedParts 64 = .ok (.aload_n 0, 1) := by decide +kernel
theorem d_V_comparedParts_65 : decode b_V_comparedParts 65 = .ok (.iload_n 1, 1) := by decide +kernel
theorem d_V_comparedParts_66 : decode b_V_comparedParts 66 = .ok (.invokevirtual 50, 3) := by decide +kernel
theorem d_V_comparedParts_69 : decode b_V_comparedParts 69 = .ok (.aload_n 0, 1) := by decide +kernel
theorem d_V_comparedParts_70 : decode b_V_comparedParts 70 = .ok (.iload_n 2, 1) := by decide +kernel
theorem d_V_comparedParts_71 : decode b_V_comparedParts 71 = .ok (.invokevirtual 50, 3) := by decide +kernel
theorem d_V_comparedParts_74 : decode b_V_comparedParts 74 = .ok (.invokestatic 132, 3) := by decide +kernel
theorem d_V_comparedParts_77 : decode b_V_comparedParts 77 = .ok (.ireturn, 1) := by decide +kernel
theorem d_V_millionthsOf_0 : decode b_V_millionthsOf 0 = .ok (.aload_n 0, 1) := by decide +kernel
theorem d_V_millionthsOf_1 : decode b_V_millionthsOf 1 = .ok (.iload_n 1, 1) := by decide +kernel
theorem d_V_millionthsOf_2 : decode b_V_millionthsOf 2 = .ok (.invokevirtual 139, 3) := by decide +kernel
theorem d_V_millionthsOf_5 : decode b_V_millionthsOf 5 = .ok (.i2l, 1) := by decide +kernel
theorem d_V_millionthsOf_6 : decode b_V_millionthsOf 6 = .ok (.getstatic 142, 3) := by decide +kernel
theorem d_V_millionthsOf_9 : decode b_V_millionthsOf 9 = .ok (.bipush 6, 2) := by decide +kernel
theorem d_V_millionthsOf_11 : decode b_V_millionthsOf 11 = .ok (.aload_n 0, 1) := by decide +kernel
theorem d_V_millionthsOf_12 : decode b_V_millionthsOf 12 = .ok (.iload_n 1, 1) := by decide +kernel
theorem d_V_millionthsOf_13 : decode b_V_millionthsOf 13 = .ok (.invokevirtual 145, 3) := by decide +kernel
theorem d_V_millionthsOf_16 : decode b_V_millionthsOf 16 = .ok (.isub, 1) := by decide +kernel
theorem d_V_millionthsOf_17 : decode b_V_millionthsOf 17 = .ok (.iaload, 1) := by decide +kernel
theorem d_V_millionthsOf_18 : decode b_V_millionthsOf 18 = .ok (.i2l, 1) := by decide +kernel
theorem d_V_millionthsOf_19 : decode b_V_millionthsOf 19 = .ok (.lmul, 1) := by decide +kernel
theorem d_V_millionthsOf_20 : decode b_V_millionthsOf 20 = .ok (.lreturn, 1) := by decide +kernel
theorem d_V_floorOf_0 : decode b_V_floorOf 0 = .ok (.aload_n 0, 1) := by decide +kernel
theorem d_V_floorOf_1 : decode b_V_floorOf 1 = .ok (.iload_n 1, 1) := by decide +kernel
theorem d_V_floorOf_2 : decode b_V_floorOf 2 = .ok (.invokevirtual 139, 3) := by decide +kernel
theorem d_V_floorOf_5 : decode b_V_floorOf 5 = .ok (.getstatic 142, 3) := by decide +kernel
theorem d_V_floorOf_8 : decode b_V_floorOf 8 = .ok (.aload_n 0, 1) := by decide +kernel
theorem d_V_floorOf_9 : decode b_V_floorOf 9 = .ok (.iload_n 1, 1) := by decide +kernel
theorem d_V_floorOf_10 : decode b_V_floorOf 10 = .ok (.invokevirtual 145, 3) := by decide +kernel
theorem d_V_floorOf_13 : decode b_V_floorOf 13 = .ok (.iaload, 1) := by decide +kernel
theorem d_V_floorOf_14 : decode b_V_floorOf 14 = .ok (.invokestatic 148, 3) := by decide +kernel
theorem d_V_floorOf_17 : decode b_V_floorOf 17 = .ok (.ireturn, 1) := by decide +kernel
theorem d_V_towardZero_0 : decode b_V_towardZero 0 = .ok (.aload_n 0, 1) := by decide +kernel
theorem d_V_towardZero_1 : decode b_V_towardZero 1 = .ok (.iload_n 1, 1) := by decide +kernel
theorem d_V_towardZero_2 : decode b_V_towardZero 2 = .ok (.invokevirtual 139, 3) := by decide +kernel
theorem d_V_towardZero_5 : decode b_V_towardZero 5 = .ok (.getstatic 142, 3) := by decide +kernel
theorem d_V_towardZero_8 : decode b_V_towardZero 8 = .ok (.aload_n 0, 1) := by decide +kernel
theorem d_V_towardZero_9 : decode b_V_towardZero 9 = .ok (.iload_n 1, 1) := by decide +kernel
theorem d_V_towardZero_10 : decode b_V_towardZero 10 = .ok (.invokevirtual 145, 3) := by decide +kernel
theorem d_V_towardZero_13 : decode b_V_towardZero 13 = .ok (.iaload, 1) := by decide +kernel
theorem d_V_towardZero_14 : decode b_V_towardZero 14 = .ok (.idiv, 1) := by decide +kernel
theorem d_V_towardZero_15 : decode b_V_towardZero 15 = .ok (.ireturn, 1) := by decide +kernel
theorem d_V_fieldOf_0 : decode b_V_fieldOf 0 = .ok (.aload_n 0, 1) := by decide +kernel
theorem d_V_fieldOf_1 : decode b_V_fieldOf 1 = .ok (.iload_n 1, 1) := by decide +kernel
theorem d_V_fieldOf_2 : decode b_V_fieldOf 2 = .ok (.invokevirtual 43, 3) := by decide +kernel
theorem d_V_fieldOf_5 : decode b_V_fieldOf 5 = .ok (.ifCond .ne 5, 3) := by decide +kernel
theorem d_V_fieldOf_8 : decode b_V_fieldOf 8 = .ok (.iconst 0, 1) := by decide +kernel
theorem d_V_fieldOf_9 : decode b_V_fieldOf 9 = .ok (.ireturn, 1) := by decide +kernel
theorem d_V_fieldOf_10 : decode b_V_fieldOf 10 = .ok (.aload_n 0, 1) := by decide +kernel
theorem d_V_fieldOf_11 : decode b_V_fieldOf 11 = .ok (.iload_n 1, 1) := by decide +kernel
theorem d_V_fieldOf_12 : decode b_V_fieldOf 12 = .ok (.invokevirtual 43, 3) := by decide +kernel
theorem d_V_fieldOf_15 : decode b_V_fieldOf 15 = .ok (.bipush 6, 2) := by decide +kernel
theorem d_V_fieldOf_17 : decode b_V_fieldOf 17 = .ok (.if_icmp .eq 5, 3) := by decide +kernel
theorem d_V_fieldOf_20 : decode b_V_fieldOf 20 = .ok (.iconst (-1), 1) := by decide +kernel
theorem d_V_fieldOf_21 : decode b_V_fieldOf 21 = .ok (.ireturn, 1) := by decide +kernel
theorem d_V_fieldOf_22 : decode b_V_fieldOf 22 = .ok (.aload_n 0, 1) := by decide +kernel
theorem d_V_fieldOf_23 : decode b_V_fieldOf 23 = .ok (.iload_n 1, 1) := by decide +kernel
theorem d_V_fieldOf_24 : decode b_V_fieldOf 24 = .ok (.iload_n 2, 1) := by decide +kernel
theorem d_V_fieldOf_25 : decode b_V_fieldOf 25 = .ok (.iconst 0, 1) := by decide +kernel
theorem d_V_fieldOf_26 : decode b_V_fieldOf 26 = .ok (.invokevirtual 151, 3) := by decide +kernel
theorem d_V_fieldOf_29 : decode b_V_fieldOf 29 = .ok (.ireturn, 1) := by decide +kernel
theorem d_V_memberOf_0 : decode b_V_memberOf 0 = .ok (.iconst 0, 1) := by decide +kernel
theorem d_V_memberOf_1 : decode b_V_memberOf 1 = .ok (.istore 4, 2) := by decide +kernel
theorem d_V_memberOf_3 : decode b_V_memberOf 3 = .ok (.iload 4, 2) := by decide +kernel
theorem d_V_memberOf_5 : decode b_V_memberOf 5 = .ok (.aload_n 0, 1) := by decide +kernel
theorem d_V_memberOf_6 : decode b_V_memberOf 6 = .ok (.iload_n 1, 1) := by decide +kernel
theorem d_V_memberOf_7 : decode b_V_memberOf 7 = .ok (.invokevirtual 50, 3) := by decide +kernel
theorem d_V_memberOf_10 : decode b_V_memberOf 10 = .ok (.if_icmp .ge 32, 3) := by decide +kernel
theorem d_V_memberOf_13 : decode b_V_memberOf 13 = .ok (.aload_n 0, 1) := by decide +kernel
theorem d_V_memberOf_14 : decode b_V_memberOf 14 = .ok (.aload_n 0, 1) := by decide +kernel
theorem d_V_memberOf_15 : decode b_V_memberOf 15 = .ok (.iload_n 1, 1) := by decide +kernel
theorem d_V_memberOf_16 : decode b_V_memberOf 16 = .ok (.iload 4, 2) := by decide +kernel
theorem d_V_memberOf_18 : decode b_V_memberOf 18 = .ok (.invokevirtual 60, 3) := by decide +kernel
theorem d_V_memberOf_21 : decode b_V_memberOf 21 = .ok (.iload_n 2, 1) := by decide +kernel
theorem d_V_memberOf_22 : decode b_V_memberOf 22 = .ok (.invokevirtual 119, 3) := by decide +kernel
theorem d_V_memberOf_25 : decode b_V_memberOf 25 = .ok (.ifCond .ne 11, 3) := by decide +kernel
theorem d_V_memberOf_28 : decode b_V_memberOf 28 = .ok (.aload_n 0, 1) := by decide +kernel
theorem d_V_memberOf_29 : decode b_V_memberOf 29 = .ok (.iload_n 1, 1) := by decide +kernel
theorem d_V_memberOf_30 : decode b_V_memberOf 30 = .ok (.iload 4, 2) := by decide +kernel
theorem d_V_memberOf_32 : decode b_V_memberOf 32 = .ok (.invokevirtual 53, 3) := by decide +kernel
theorem d_V_memberOf_35 : decode b_V_memberOf 35 = .ok (.ireturn, 1) := by decide +kernel
theorem d_V_memberOf_36 : decode b_V_memberOf 36 = .ok (.iinc 4 1, 3) := by decide +kernel
theorem d_V_memberOf_39 : decode b_V_memberOf 39 = .ok (.goto (-36), 3) := by decide +kernel
theorem d_V_memberOf_42 : decode b_V_memberOf 42 = .ok (.iload_n 3, 1) := by decide +kernel
theorem d_V_memberOf_43 : decode b_V_memberOf 43 = .ok (.ireturn, 1) := by decide +kernel
theorem d_V_indexed_0 : decode b_V_indexed 0 = .ok (.aload_n 0, 1) := by decide +kernel
theorem d_V_indexed_1 : decode b_V_indexed 1 = .ok (.iload_n 1, 1) := by decide +kernel
theorem d_V_indexed_2 : decode b_V_indexed 2 = .ok (.invokevirtual 43, 3) := by decide +kernel
theorem d_V_indexed_5 : decode b_V_indexed 5 = .ok (.ifCond .ne 5, 3) := by decide +kernel
theorem d_V_indexed_8 : decode b_V_indexed 8 = .ok (.iconst 0, 1) := by decide +kernel
theorem d_V_indexed_9 : decode b_V_indexed 9 = .ok (.ireturn, 1) := by decide +kernel
theorem d_V_indexed_10 : decode b_V_indexed 10 = .ok (.aload_n 0, 1) := by decide +kernel
theorem d_V_indexed_11 : decode b_V_indexed 11 = .ok (.iload_n 1, 1) := by decide +kernel
theorem d_V_indexed_12 : decode b_V_indexed 12 = .ok (.invokevirtual 43, 3) := by decide +kernel
theorem d_V_indexed_15 : decode b_V_indexed 15 = .ok (.bipush 6, 2) := by decide +kernel
theorem d_V_indexed_17 : decode b_V_indexed 17 = .ok (.if_icmp .ne 20, 3) := by decide +kernel
theorem d_V_indexed_20 : decode b_V_indexed 20 = .ok (.aload_n 0, 1) := by decide +kernel
theorem d_V_indexed_21 : decode b_V_indexed 21 = .ok (.iload_n 2, 1) := by decide +kernel
theorem d_V_indexed_22 : decode b_V_indexed 22 = .ok (.invokevirtual 43, 3) := by decide +kernel
theorem d_V_indexed_25 : decode b_V_indexed 25 = .ok (.iconst 4, 1) := by decide +kernel
theorem d_V_indexed_26 : decode b_V_indexed 26 = .ok (.if_icmp .ne 11, 3) := by decide +kernel
theorem d_V_indexed_29 : decode b_V_indexed 29 = .ok (.aload_n 0, 1) := by decide +kernel
theorem d_V_indexed_30 : decode b_V_indexed 30 = .ok (.iload_n 1, 1) := by decide +kernel
theorem d_V_indexed_31 : decode b_V_indexed 31 = .ok (.iload_n 2, 1) := by decide +kernel
theorem d_V_indexed_32 : decode b_V_indexed 32 = .ok (.iconst 0, 1) := by decide +kernel
theorem d_V_indexed_33 : decode b_V_indexed 33 = .ok (.invokevirtual 151, 3) := by decide +kernel
theorem d_V_indexed_36 : decode b_V_indexed 36 = .ok (.ireturn, 1) := by decide +kernel
theorem d_V_indexed_37 : decode b_V_indexed 37 = .ok (.aload_n 0, 1) := by decide +kernel
theorem d_V_indexed_38 : decode b_V_indexed 38 = .ok (.iload_n 1, 1) := by decide +kernel
theorem d_V_indexed_39 : decode b_V_indexed 39 = .ok (.invokevirtual 43, 3) := by decide +kernel
theorem d_V_indexed_42 : decode b_V_indexed 42 = .ok (.iconst 5, 1) := by decide +kernel
theorem d_V_indexed_43 : decode b_V_indexed 43 = .ok (.if_icmp .ne 12, 3) := by decide +kernel
theorem d_V_indexed_46 : decode b_V_indexed 46 = .ok (.aload_n 0, 1) := by decide +kernel
theorem d_V_indexed_47 : decode b_V_indexed 47 = .ok (.iload_n 2, 1) := by decide +kernel
theorem d_V_indexed_48 : decode b_V_indexed 48 = .ok (.invokevirtual 43, 3) := by decide +kernel
theorem d_V_indexed_51 : decode b_V_indexed 51 = .ok (.iconst 3, 1) := by decide +kernel
theorem d_V_indexed_52 : decode b_V_indexed 52 = .ok (.if_icmp .eq 5, 3) := by decide +kernel
theorem d_V_indexed_55 : decode b_V_indexed 55 = .ok (.iconst (-1), 1) := by decide +kernel
theorem d_V_indexed_56 : decode b_V_indexed 56 = .ok (.ireturn, 1) := by decide +kernel
theorem d_V_indexed_57 : decode b_V_indexed 57 = .ok (.aload_n 0, 1) := by decide +kernel
theorem d_V_indexed_58 : decode b_V_indexed 58 = .ok (.iload_n 2, 1) := by decide +kernel
theorem d_V_indexed_59 : decode b_V_indexed 59 = .ok (.invokevirtual 155, 3) := by decide +kernel
theorem d_V_indexed_62 : decode b_V_indexed 62 = .ok (.ifCond .ge 17, 3) := by decide +kernel
theorem d_V_indexed_65 : decode b_V_indexed 65 = .ok (.aload_n 0, 1) := by decide +kernel
theorem d_V_indexed_66 : decode b_V_indexed 66 = .ok (.iload_n 2, 1) := by decide +kernel
theorem d_V_indexed_67 : decode b_V_indexed 67 = .ok (.invokevirtual 155, 3) := by decide +kernel
theorem d_V_indexed_70 : decode b_V_indexed 70 = .ok (.aload_n 0, 1) := by decide +kernel
theorem d_V_indexed_71 : decode b_V_indexed 71 = .ok (.iload_n 1, 1) := by decide +kernel
theorem d_V_indexed_72 : decode b_V_indexed 72 = .ok (.invokevirtual 50, 3) := by decide +kernel
theorem d_V_indexed_75 : decode b_V_indexed 75 = .ok (.iadd, 1) := by decide +kernel
theorem d_V_indexed_76 : decode b_V_indexed 76 = .ok (.goto 8, 3) := by decide +kernel
theorem d_V_indexed_79 : decode b_V_indexed 79 = .ok (.aload_n 0, 1) := by decide +kernel
theorem d_V_indexed_80 : decode b_V_indexed 80 = .ok (.iload_n 2, 1) := by decide +kernel
theorem d_V_indexed_81 : decode b_V_indexed 81 = .ok (.invokevirtual 155, 3) := by decide +kernel
theorem d_V_indexed_84 : decode b_V_indexed 84 = .ok (.istore_n 3, 1) := by decide +kernel
theorem d_V_indexed_85 : decode b_V_indexed 85 = .ok (.iload_n 3, 1) := by decide +kernel
theorem d_V_indexed_86 : decode b_V_indexed 86 = .ok (.aload_n 0, 1) := by decide +kernel
theorem d_V_indexed_87 : decode b_V_indexed 87 = .ok (.iload_n 1, 1) := by decide +kernel
theorem d_V_indexed_88 : decode b_V_indexed 88 = .ok (.invokevirtual 50, 3) := by decide +kernel
theorem d_V_indexed_91 : decode b_V_indexed 91 = .ok (.invokestatic 158, 3) := by decide +kernel
theorem d_V_indexed_94 : decode b_V_indexed 94 = .ok (.ifCond .eq 12, 3) := by decide +kernel
theorem d_V_indexed_97 : decode b_V_indexed 97 = .ok (.aload_n 0, 1) := by decide +kernel
theorem d_V_indexed_98 : decode b_V_indexed 98 = .ok (.iload_n 1, 1) := by decide +kernel
theorem d_V_indexed_99 : decode b_V_indexed 99 = .ok (.iload_n 3, 1) := by decide +kernel
theorem d_V_indexed_100 : decode b_V_indexed 100 = .ok (.invokevirtual 53, 3) := by decide +kernel
theorem d_V_indexed_103 : decode b_V_indexed 103 = .ok (.goto 4, 3) := by decide +kernel
theorem d_V_indexed_106 : decode b_V_indexed 106 = .ok (.iconst 0, 1) := by decide +kernel
theorem d_V_indexed_107 : decode b_V_indexed 107 = .ok (.ireturn, 1) := by decide +kernel
theorem d_V_has_0 : decode b_V_has 0 = .ok (.aload_n 0, 1) := by decide +kernel
theorem d_V_has_1 : decode b_V_has 1 = .ok (.iload_n 1, 1) := by decide +kernel
theorem d_V_has_2 : decode b_V_has 2 = .ok (.invokevirtual 43, 3) := by decide +kernel
theorem d_V_has_5 : decode b_V_has 5 = .ok (.bipush 6, 2) := by decide +kernel
theorem d_V_has_7 : decode b_V_has 7 = .ok (.if_icmp .ne 33, 3) := by decide +kernel
theorem d_V_has_10 : decode b_V_has 10 = .ok (.aload_n 0, 1) := by decide +kernel
theorem d_V_has_11 : decode b_V_has 11 = .ok (.iload_n 2, 1) := by decide +kernel
theorem d_V_has_12 : decode b_V_has 12 = .ok (.invokevirtual 43, 3) := by decide +kernel
theorem d_V_has_15 : decode b_V_has 15 = .ok (.iconst 4, 1) := by decide +kernel
theorem d_V_has_16 : decode b_V_has 16 = .ok (.if_icmp .ne 24, 3) := by decide +kernel
theorem d_V_has_19 : decode b_V_has 19 = .ok (.aload_n 0, 1) := by decide +kernel
theorem d_V_has_20 : decode b_V_has 20 = .ok (.aload_n 0, 1) := by decide +kernel
theorem d_V_has_21 : decode b_V_has 21 = .ok (.iload_n 1, 1) := by decide +kernel
theorem d_V_has_22 : decode b_V_has 22 = .ok (.iload_n 2, 1) := by decide +kernel
theorem d_V_has_23 : decode b_V_has 23 = .ok (.iconst (-1), 1) := by decide +kernel
theorem d_V_has_24 : decode b_V_has 24 = .ok (.invokevirtual 151, 3) := by decide +kernel
theorem d_V_has_27 : decode b_V_has 27 = .ok (.iconst (-1), 1) := by decide +kernel
theorem d_V_has_28 : decode b_V_has 28 = .ok (.if_icmp .eq 7, 3) := by decide +kernel
theorem d_V_has_31 : decode b_V_has 31 = .ok (.iconst 1, 1) := by decide +kernel
theorem d_V_has_32 : decode b_V_has 32 = .ok (.goto 4, 3) := by decide +kernel
theorem d_V_has_35 : decode b_V_has 35 = .ok (.iconst 0, 1) := by decide +kernel
theorem d_V_has_36 : decode b_V_has 36 = .ok (.invokevirtual 164, 3) := by decide +kernel
theorem d_V_has_39 : decode b_V_has 39 = .ok (.ireturn, 1) := by decide +kernel
theorem d_V_has_40 : decode b_V_has 40 = .ok (.aload_n 0, 1) := by decide +kernel
theorem d_V_has_41 : decode b_V_has 41 = .ok (.iload_n 1, 1) := by decide +kernel
theorem d_V_has_42 : decode b_V_has 42 = .ok (.invokevirtual 43, 3) := by decide +kernel
theorem d_V_has_45 : decode b_V_has 45 = .ok (.iconst 5, 1) := by decide +kernel
theorem d_V_has_46 : decode b_V_has 46 = .ok (.if_icmp .ne 30, 3) := by decide +kernel
theorem d_V_has_49 : decode b_V_has 49 = .ok (.aload_n 0, 1) := by decide +kernel
theorem d_V_has_50 : decode b_V_has 50 = .ok (.iload_n 2, 1) := by decide +kernel
theorem d_V_has_51 : decode b_V_has 51 = .ok (.invokevirtual 43, 3) := by decide +kernel
theorem d_V_has_54 : decode b_V_has 54 = .ok (.iconst 3, 1) := by decide +kernel
theorem d_V_has_55 : decode b_V_has 55 = .ok (.if_icmp .ne 21, 3) := by decide +kernel
theorem d_V_has_58 : decode b_V_has 58 = .ok (.aload_n 0, 1) := by decide +kernel
theorem d_V_has_59 : decode b_V_has 59 = .ok (.aload_n 0, 1) := by decide +kernel
theorem d_V_has_60 : decode b_V_has 60 = .ok (.iload_n 2, 1) := by decide +kernel
theorem d_V_has_61 : decode b_V_has 61 = .ok (.invokevirtual 155, 3) := by decide +kernel
theorem d_V_has_64 : decode b_V_has 64 = .ok (.aload_n 0, 1) := by decide +kernel
theorem d_V_has_65 : decode b_V_has 65 = .ok (.iload_n 1, 1) := by decide +kernel
theorem d_V_has_66 : decode b_V_has 66 = .ok (.invokevirtual 50, 3) := by decide +kernel
theorem d_V_has_69 : decode b_V_has 69 = .ok (.invokestatic 158, 3) := by decide +kernel
theorem d_V_has_72 : decode b_V_has 72 = .ok (.invokevirtual 164, 3) := by decide +kernel
theorem d_V_has_75 : decode b_V_has 75 = .ok (.ireturn, 1) := by decide +kernel
theorem d_V_has_76 : decode b_V_has 76 = .ok (.iconst (-1), 1) := by decide +kernel
theorem d_V_has_77 : decode b_V_has 77 = .ok (.ireturn, 1) := by decide +kernel
theorem d_V_plus_0 : decode b_V_plus 0 = .ok (.aload_n 0, 1) := by decide +kernel
theorem d_V_plus_1 : decode b_V_plus 1 = .ok (.iload_n 1, 1) := by decide +kernel
theorem d_V_plus_2 : decode b_V_plus 2 = .ok (.invokevirtual 43, 3) := by decide +kernel
theorem d_V_plus_5 : decode b_V_plus 5 = .ok (.ifCond .ne 5, 3) := by decide +kernel
theorem d_V_plus_8 : decode b_V_plus 8 = .ok (.iload_n 2, 1) := by decide +kernel
theorem d_V_plus_9 : decode b_V_plus 9 = .ok (.ireturn, 1) := by decide +kernel
theorem d_V_plus_10 : decode b_V_plus 10 = .ok (.aload_n 0, 1) := by decide +kernel
theorem d_V_plus_11 : decode b_V_plus 11 = .ok (.iload_n 2, 1) := by decide +kernel
theorem d_V_plus_12 : decode b_V_plus 12 = .ok (.invokevirtual 43, 3) := by decide +kernel
theorem d_V_plus_15 : decode b_V_plus 15 = .ok (.ifCond .ne 5, 3) := by decide +kernel
theorem d_V_plus_18 : decode b_V_plus 18 = .ok (.iload_n 1, 1) := by decide +kernel
theorem d_V_plus_19 : decode b_V_plus 19 = .ok (.ireturn, 1) := by decide +kernel
theorem d_V_plus_20 : decode b_V_plus 20 = .ok (.aload_n 0, 1) := by decide +kernel
theorem d_V_plus_21 : decode b_V_plus 21 = .ok (.iload_n 1, 1) := by decide +kernel
theorem d_V_plus_22 : decode b_V_plus 22 = .ok (.invokevirtual 43, 3) := by decide +kernel
theorem d_V_plus_25 : decode b_V_plus 25 = .ok (.aload_n 0, 1) := by decide +kernel
theorem d_V_plus_26 : decode b_V_plus 26 = .ok (.iload_n 2, 1) := by decide +kernel
theorem d_V_plus_27 : decode b_V_plus 27 = .ok (.invokevirtual 43, 3) := by decide +kernel
theorem d_V_plus_30 : decode b_V_plus 30 = .ok (.if_icmp .eq 5, 3) := by decide +kernel
theorem d_V_plus_33 : decode b_V_plus 33 = .ok (.iconst (-1), 1) := by decide +kernel
theorem d_V_plus_34 : decode b_V_plus 34 = .ok (.ireturn, 1) := by decide +kernel
theorem d_V_plus_35 : decode b_V_plus 35 = .ok (.aload_n 0, 1) := by decide +kernel
theorem d_V_plus_36 : decode b_V_plus 36 = .ok (.iload_n 1, 1) := by decide +kernel
theorem d_V_plus_37 : decode b_V_plus 37 = .ok (.invokevirtual 43, 3) := by decide +kernel
theorem d_V_plus_40 : decode b_V_plus 40 = .ok (.tableswitch 64 3 6 #[32, 50, 50, 57], 32) := by decide +kernel
theorem d_V_plus_72 : decode b_V_plus 72 = .ok (.aload_n 0, 1) := by decide +kernel
theorem d_V_plus_73 : decode b_V_plus 73 = .ok (.aload_n 0, 1) := by decide +kernel
theorem d_V_plus_74 : decode b_V_plus 74 = .ok (.iload_n 1, 1) := by decide +kernel
theorem d_V_plus_75 : decode b_V_plus 75 = .ok (.invokevirtual 109, 3) := by decide +kernel
theorem d_V_plus_78 : decode b_V_plus 78 = .ok (.aload_n 0, 1) := by decide +kernel
theorem d_V_plus_79 : decode b_V_plus 79 = .ok (.iload_n 2, 1) := by decide +kernel
theorem d_V_plus_80 : decode b_V_plus 80 = .ok (.invokevirtual 109, 3) := by decide +kernel
theorem d_V_plus_83 : decode b_V_plus 83 = .ok (.ladd, 1) := by decide +kernel
theorem d_V_plus_84 : decode b_V_plus 84 = .ok (.bipush 6, 2) := by decide +kernel
theorem d_V_plus_86 : decode b_V_plus 86 = .ok (.invokevirtual 168, 3) := by decide +kernel
theorem d_V_plus_89 : decode b_V_plus 89 = .ok (.ireturn, 1) := by decide +kernel
theorem d_V_plus_90 : decode b_V_plus 90 = .ok (.aload_n 0, 1) := by decide +kernel
theorem d_V_plus_91 : decode b_V_plus 91 = .ok (.iload_n 1, 1) := by decide +kernel
theorem d_V_plus_92 : decode b_V_plus 92 = .ok (.iload_n 2, 1) := by decide +kernel
theorem d_V_plus_93 : decode b_V_plus 93 = .ok (.invokevirtual 172, 3) := by decide +kernel
theorem d_V_plus_96 : decode b_V_plus 96 = .ok (.ireturn, 1) := by decide +kernel
theorem d_V_plus_97 : decode b_V_plus 97 = .ok (.aload_n 0, 1) := by decide +kernel
theorem d_V_plus_98 : decode b_V_plus 98 = .ok (.iload_n 1, 1) := by decide +kernel
theorem d_V_plus_99 : decode b_V_plus 99 = .ok (.iload_n 2, 1) := by decide +kernel
theorem d_V_plus_100 : decode b_V_plus 100 = .ok (.invokevirtual 175, 3) := by decide +kernel
theorem d_V_plus_103 : decode b_V_plus 103 = .ok (.ireturn, 1) := by decide +kernel
theorem d_V_plus_104 : decode b_V_plus 104 = .ok (.iconst (-1), 1) := by decide +kernel
theorem d_V_plus_105 : decode b_V_plus 105 = .ok (.ireturn, 1) := by decide +kernel
theorem d_V_joined_0 : decode b_V_joined 0 = .ok (.aload_n 0, 1) := by decide +kernel
theorem d_V_joined_1 : decode b_V_joined 1 = .ok (.aload_n 0, 1) := by decide +kernel
theorem d_V_joined_2 : decode b_V_joined 2 = .ok (.iload_n 1, 1) := by decide +kernel
theorem d_V_joined_3 : decode b_V_joined 3 = .ok (.invokevirtual 43, 3) := by decide +kernel
theorem d_V_joined_6 : decode b_V_joined 6 = .ok (.aload_n 0, 1) := by decide +kernel
theorem d_V_joined_7 : decode b_V_joined 7 = .ok (.iload_n 1, 1) := by decide +kernel
theorem d_V_joined_8 : decode b_V_joined 8 = .ok (.invokevirtual 50, 3) := by decide +kernel
theorem d_V_joined_11 : decode b_V_joined 11 = .ok (.aload_n 0, 1) := by decide +kernel
theorem d_V_joined_12 : decode b_V_joined 12 = .ok (.iload_n 2, 1) := by decide +kernel
theorem d_V_joined_13 : decode b_V_joined 13 = .ok (.invokevirtual 50, 3) := by decide +kernel
theorem d_V_joined_16 : decode b_V_joined 16 = .ok (.iadd, 1) := by decide +kernel
theorem d_V_joined_17 : decode b_V_joined 17 = .ok (.invokevirtual 63, 3) := by decide +kernel
theorem d_V_joined_20 : decode b_V_joined 20 = .ok (.istore_n 3, 1) := by decide +kernel
theorem d_V_joined_21 : decode b_V_joined 21 = .ok (.aload_n 0, 1) := by decide +kernel
theorem d_V_joined_22 : decode b_V_joined 22 = .ok (.getfield 20, 3) := by decide +kernel
theorem d_V_joined_25 : decode b_V_joined 25 = .ok (.iload_n 1, 1) := by decide +kernel
theorem d_V_joined_26 : decode b_V_joined 26 = .ok (.iconst 4, 1) := by decide +kernel
theorem d_V_joined_27 : decode b_V_joined 27 = .ok (.iadd, 1) := by decide +kernel
theorem d_V_joined_28 : decode b_V_joined 28 = .ok (.aload_n 0, 1) := by decide +kernel
theorem d_V_joined_29 : decode b_V_joined 29 = .ok (.getfield 20, 3) := by decide +kernel
theorem d_V_joined_32 : decode b_V_joined 32 = .ok (.iload_n 3, 1) := by decide +kernel
theorem d_V_joined_33 : decode b_V_joined 33 = .ok (.iconst 4, 1) := by decide +kernel
theorem d_V_joined_34 : decode b_V_joined 34 = .ok (.iadd, 1) := by decide +kernel
theorem d_V_joined_35 : decode b_V_joined 35 = .ok (.aload_n 0, 1) := by decide +kernel
theorem d_V_joined_36 : decode b_V_joined 36 = .ok (.iload_n 1, 1) := by decide +kernel
theorem d_V_joined_37 : decode b_V_joined 37 = .ok (.invokevirtual 50, 3) := by decide +kernel
theorem d_V_joined_40 : decode b_V_joined 40 = .ok (.invokestatic 100, 3) := by decide +kernel
theorem d_V_joined_43 : decode b_V_joined 43 = .ok (.aload_n 0, 1) := by decide +kernel
theorem d_V_joined_44 : decode b_V_joined 44 = .ok (.getfield 20, 3) := by decide +kernel
theorem d_V_joined_47 : decode b_V_joined 47 = .ok (.iload_n 2, 1) := by decide +kernel
theorem d_V_joined_48 : decode b_V_joined 48 = .ok (.iconst 4, 1) := by decide +kernel
theorem d_V_joined_49 : decode b_V_joined 49 = .ok (.iadd, 1) := by decide +kernel
theorem d_V_joined_50 : decode b_V_joined 50 = .ok (.aload_n 0, 1) := by decide +kernel
theorem d_V_joined_51 : decode b_V_joined 51 = .ok (.getfield 20, 3) := by decide +kernel
theorem d_V_joined_54 : decode b_V_joined 54 = .ok (.iload_n 3, 1) := by decide +kernel
theorem d_V_joined_55 : decode b_V_joined 55 = .ok (.iconst 4, 1) := by decide +kernel
theorem d_V_joined_56 : decode b_V_joined 56 = .ok (.iadd, 1) := by decide +kernel
theorem d_V_joined_57 : decode b_V_joined 57 = .ok (.aload_n 0, 1) := by decide +kernel
theorem d_V_joined_58 : decode b_V_joined 58 = .ok (.iload_n 1, 1) := by decide +kernel
theorem d_V_joined_59 : decode b_V_joined 59 = .ok (.invokevirtual 50, 3) := by decide +kernel
theorem d_V_joined_62 : decode b_V_joined 62 = .ok (.iadd, 1) := by decide +kernel
theorem d_V_joined_63 : decode b_V_joined 63 = .ok (.aload_n 0, 1) := by decide +kernel
theorem d_V_joined_64 : decode b_V_joined 64 = .ok (.iload_n 2, 1) := by decide +kernel
theorem d_V_joined_65 : decode b_V_joined 65 = .ok (.invokevirtual 50, 3) := by decide +kernel
theorem d_V_joined_68 : decode b_V_joined 68 = .ok (.invokestatic 100, 3) := by decide +kernel
theorem d_V_joined_71 : decode b_V_joined 71 = .ok (.aload_n 0, 1) := by decide +kernel
theorem d_V_joined_72 : decode b_V_joined 72 = .ok (.iload_n 1, 1) := by decide +kernel
theorem d_V_joined_73 : decode b_V_joined 73 = .ok (.invokevirtual 43, 3) := by decide +kernel
theorem d_V_joined_76 : decode b_V_joined 76 = .ok (.iconst 5, 1) := by decide +kernel
theorem d_V_joined_77 : decode b_V_joined 77 = .ok (.if_icmp .ne 11, 3) := by decide +kernel
theorem d_V_joined_80 : decode b_V_joined 80 = .ok (.aload_n 0, 1) := by decide +kernel
theorem d_V_joined_81 : decode b_V_joined 81 = .ok (.iload_n 3, 1) := by decide +kernel
theorem d_V_joined_82 : decode b_V_joined 82 = .ok (.invokevirtual 106, 3) := by decide +kernel
theorem d_V_joined_85 : decode b_V_joined 85 = .ok (.goto 4, 3) := by decide +kernel
theorem d_V_joined_88 : decode b_V_joined 88 = .ok (.iload_n 3, 1) := by decide +kernel
theorem d_V_joined_89 : decode b_V_joined 89 = .ok (.ireturn, 1) := by decide +kernel
theorem d_V_merged_0 : decode b_V_merged 0 = .ok (.iconst 0, 1) := by decide +kernel
theorem d_V_merged_1 : decode b_V_merged 1 = .ok (.istore_n 3, 1) := by decide +kernel
theorem d_V_merged_2 : decode b_V_merged 2 = .ok (.iconst 0, 1) := by decide +kernel
theorem d_V_merged_3 : decode b_V_merged 3 = .ok (.istore 4, 2) := by decide +kernel
theorem d_V_merged_5 : decode b_V_merged 5 = .ok (.iconst 0, 1) := by decide +kernel
theorem d_V_merged_6 : decode b_V_merged 6 = .ok (.istore 5, 2) := by decide +kernel
theorem d_V_merged_8 : decode b_V_merged 8 = .ok (.iload_n 3, 1) := by decide +kernel
theorem d_V_merged_9 : decode b_V_merged 9 = .ok (.aload_n 0, 1) := by decide +kernel
theorem d_V_merged_10 : decode b_V_merged 10 = .ok (.iload_n 1, 1) := by decide +kernel
theorem d_V_merged_11 : decode b_V_merged 11 = .ok (.invokevirtual 50, 3) := by decide +kernel
theorem d_V_merged_14 : decode b_V_merged 14 = .ok (.if_icmp .lt 13, 3) := by decide +kernel
theorem d_V_merged_17 : decode b_V_merged 17 = .ok (.iload 4, 2) := by decide +kernel
theorem d_V_merged_19 : decode b_V_merged 19 = .ok (.aload_n 0, 1) := by decide +kernel
theorem d_V_merged_20 : decode b_V_merged 20 = .ok (.iload_n 2, 1) := by decide +kernel
theorem d_V_merged_21 : decode b_V_merged 21 = .ok (.invokevirtual 50, 3) := by decide +kernel
theorem d_V_merged_24 : decode b_V_merged 24 = .ok (.if_icmp .ge 163, 3) := by decide +kernel
theorem d_V_merged_27 : decode b_V_merged 27 = .ok (.iload 4, 2) := by decide +kernel
theorem d_V_merged_29 : decode b_V_merged 29 = .ok (.aload_n 0, 1) := by decide +kernel
theorem d_V_merged_30 : decode b_V_merged 30 = .ok (.iload_n 2, 1) := by decide +kernel
theorem d_V_merged_31 : decode b_V_merged 31 = .ok (.invokevirtual 50, 3) := by decide +kernel
theorem d_V_merged_34 : decode b_V_merged 34 = .ok (.if_icmp .ne 7, 3) := by decide +kernel
theorem d_V_merged_37 : decode b_V_merged 37 = .ok (.iconst 1, 1) := by decide +kernel
theorem d_V_merged_38 : decode b_V_merged 38 = .ok (.goto 4, 3) := by decide +kernel
theorem d_V_merged_41 : decode b_V_merged 41 = .ok (.iconst 0, 1) := by decide +kernel
theorem d_V_merged_42 : decode b_V_merged 42 = .ok (.istore 6, 2) := by decide +kernel
theorem d_V_merged_44 : decode b_V_merged 44 = .ok (.iload_n 3, 1) := by decide +kernel
theorem d_V_merged_45 : decode b_V_merged 45 = .ok (.aload_n 0, 1) := by decide +kernel
theorem d_V_merged_46 : decode b_V_merged 46 = .ok (.iload_n 1, 1) := by decide +kernel
theorem d_V_merged_47 : decode b_V_merged 47 = .ok (.invokevirtual 50, 3) := by decide +kernel
theorem d_V_merged_50 : decode b_V_merged 50 = .ok (.if_icmp .ne 7, 3) := by decide +kernel
theorem d_V_merged_53 : decode b_V_merged 53 = .ok (.iconst 1, 1) := by decide +kernel
theorem d_V_merged_54 : decode b_V_merged 54 = .ok (.goto 4, 3) := by decide +kernel
theorem d_V_merged_57 : decode b_V_merged 57 = .ok (.iconst 0, 1) := by decide +kernel
theorem d_V_merged_58 : decode b_V_merged 58 = .ok (.istore 7, 2) := by decide +kernel
theorem d_V_merged_60 : decode b_V_merged 60 = .ok (.iload 6, 2) := by decide +kernel
theorem d_V_merged_62 : decode b_V_merged 62 = .ok (.ifCond .eq 7, 3) := by decide +kernel
theorem d_V_merged_65 : decode b_V_merged 65 = .ok (.iconst (-1), 1) := by decide +kernel
theorem d_V_merged_66 : decode b_V_merged 66 = .ok (.goto 29, 3) := by decide +kernel
theorem d_V_merged_69 : decode b_V_merged 69 = .ok (.iload 7, 2) := by decide +kernel
theorem d_V_merged_71 : decode b_V_merged 71 = .ok (.ifCond .eq 7, 3) := by decide +kernel
theorem d_V_merged_74 : decode b_V_merged 74 = .ok (.iconst 1, 1) := by decide +kernel
theorem d_V_merged_75 : decode b_V_merged 75 = .ok (.goto 20, 3) := by decide +kernel
theorem d_V_merged_78 : decode b_V_merged 78 = .ok (.aload_n 0, 1) := by decide +kernel
theorem d_V_merged_79 : decode b_V_merged 79 = .ok (.aload_n 0, 1) := by decide +kernel
theorem d_V_merged_80 : decode b_V_merged 80 = .ok (.iload_n 1, 1) := by decide +kernel
theorem d_V_merged_81 : decode b_V_merged 81 = .ok (.iload_n 3, 1) := by decide +kernel
theorem d_V_merged_82 : decode b_V_merged 82 = .ok (.invokevirtual 60, 3) := by decide +kernel
theorem d_V_merged_85 : decode b_V_merged 85 = .ok (.aload_n 0, 1) := by decide +kernel
theorem d_V_merged_86 : decode b_V_merged 86 = .ok (.iload_n 2, 1) := by decide +kernel
theorem d_V_merged_87 : decode b_V_merged 87 = .ok (.iload 4, 2) := by decide +kernel
theorem d_V_merged_89 : decode b_V_merged 89 = .ok (.invokevirtual 60, 3) := by decide +kernel
theorem d_V_merged_92 : decode b_V_merged 92 = .ok (.invokevirtual 119, 3) := by decide +kernel
theorem d_V_merged_95 : decode b_V_merged 95 = .ok (.istore 8, 2) := by decide +kernel
theorem d_V_merged_97 : decode b_V_merged 97 = .ok (.aload_n 0, 1) := by decide +kernel
theorem d_V_merged_98 : decode b_V_merged 98 = .ok (.getfield 17, 3) := by decide +kernel
theorem d_V_merged_101 : decode b_V_merged 101 = .ok (.iload 5, 2) := by decide +kernel
theorem d_V_merged_103 : decode b_V_merged 103 = .ok (.iload 8, 2) := by decide +kernel
theorem d_V_merged_105 : decode b_V_merged 105 = .ok (.ifCond .ge 12, 3) := by decide +kernel
theorem d_V_merged_108 : decode b_V_merged 108 = .ok (.aload_n 0, 1) := by decide +kernel
theorem d_V_merged_109 : decode b_V_merged 109 = .ok (.iload_n 1, 1) := by decide +kernel
theorem d_V_merged_110 : decode b_V_merged 110 = .ok (.iload_n 3, 1) := by decide +kernel
theorem d_V_merged_111 : decode b_V_merged 111 = .ok (.invokevirtual 60, 3) := by decide +kernel
theorem d_V_merged_114 : decode b_V_merged 114 = .ok (.goto 10, 3) := by decide +kernel
theorem d_V_merged_117 : decode b_V_merged 117 = .ok (.aload_n 0, 1) := by decide +kernel
theorem d_V_merged_118 : decode b_V_merged 118 = .ok (.iload_n 2, 1) := by decide +kernel
theorem d_V_merged_119 : decode b_V_merged 119 = .ok (.iload 4, 2) := by decide +kernel
theorem d_V_merged_121 : decode b_V_merged 121 = .ok (.invokevirtual 60, 3) := by decide +kernel
theorem d_V_merged_124 : decode b_V_merged 124 = .ok (.iastore, 1) := by decide +kernel
theorem d_V_merged_125 : decode b_V_merged 125 = .ok (.aload_n 0, 1) := by decide +kernel
theorem d_V_merged_126 : decode b_V_merged 126 = .ok (.getfield 13, 3) := by decide +kernel
theorem d_V_merged_129 : decode b_V_merged 129 = .ok (.iload 5, 2) := by decide +kernel
theorem d_V_merged_131 : decode b_V_merged 131 = .ok (.iload 8, 2) := by decide +kernel
theorem d_V_merged_133 : decode b_V_merged 133 = .ok (.ifCond .ge 12, 3) := by decide +kernel
theorem d_V_merged_136 : decode b_V_merged 136 = .ok (.aload_n 0, 1) := by decide +kernel
theorem d_V_merged_137 : decode b_V_merged 137 = .ok (.iload_n 1, 1) := by decide +kernel
theorem d_V_merged_138 : decode b_V_merged 138 = .ok (.iload_n 3, 1) := by decide +kernel
theorem d_V_merged_139 : decode b_V_merged 139 = .ok (.invokevirtual 53, 3) := by decide +kernel
theorem d_V_merged_142 : decode b_V_merged 142 = .ok (.goto 10, 3) := by decide +kernel
theorem d_V_merged_145 : decode b_V_merged 145 = .ok (.aload_n 0, 1) := by decide +kernel
theorem d_V_merged_146 : decode b_V_merged 146 = .ok (.iload_n 2, 1) := by decide +kernel
theorem d_V_merged_147 : decode b_V_merged 147 = .ok (.iload 4, 2) := by decide +kernel
theorem d_V_merged_149 : decode b_V_merged 149 = .ok (.invokevirtual 53, 3) := by decide +kernel
theorem d_V_merged_152 : decode b_V_merged 152 = .ok (.iastore, 1) := by decide +kernel
theorem d_V_merged_153 : decode b_V_merged 153 = .ok (.iinc 5 1, 3) := by decide +kernel
theorem d_V_merged_156 : decode b_V_merged 156 = .ok (.iload_n 3, 1) := by decide +kernel
theorem d_V_merged_157 : decode b_V_merged 157 = .ok (.iload 8, 2) := by decide +kernel
theorem d_V_merged_159 : decode b_V_merged 159 = .ok (.ifCond .gt 7, 3) := by decide +kernel
theorem d_V_merged_162 : decode b_V_merged 162 = .ok (.iconst 1, 1) := by decide +kernel
theorem d_V_merged_163 : decode b_V_merged 163 = .ok (.goto 4, 3) := by decide +kernel
theorem d_V_merged_166 : decode b_V_merged 166 = .ok (.iconst 0, 1) := by decide +kernel
theorem d_V_merged_167 : decode b_V_merged 167 = .ok (.iadd, 1) := by decide +kernel
theorem d_V_merged_168 : decode b_V_merged 168 = .ok (.istore_n 3, 1) := by decide +kernel
theorem d_V_merged_169 : decode b_V_merged 169 = .ok (.iload 4, 2) := by decide +kernel
theorem d_V_merged_171 : decode b_V_merged 171 = .ok (.iload 8, 2) := by decide +kernel
theorem d_V_merged_173 : decode b_V_merged 173 = .ok (.ifCond .lt 7, 3) := by decide +kernel
theorem d_V_merged_176 : decode b_V_merged 176 = .ok (.iconst 1, 1) := by decide +kernel
theorem d_V_merged_177 : decode b_V_merged 177 = .ok (.goto 4, 3) := by decide +kernel
theorem d_V_merged_180 : decode b_V_merged 180 = .ok (.iconst 0, 1) := by decide +kernel
theorem d_V_merged_181 : decode b_V_merged 181 = .ok (.iadd, 1) := by decide +kernel
theorem d_V_merged_182 : decode b_V_merged 182 = .ok (.istore 4, 2) := by decide +kernel
theorem d_V_merged_184 : decode b_V_merged 184 = .ok (.goto (-176), 3) := by decide +kernel
theorem d_V_merged_187 : decode b_V_merged 187 = .ok (.aload_n 0, 1) := by decide +kernel
theorem d_V_merged_188 : decode b_V_merged 188 = .ok (.bipush 6, 2) := by decide +kernel
theorem d_V_merged_190 : decode b_V_merged 190 = .ok (.iload 5, 2) := by decide +kernel
theorem d_V_merged_192 : decode b_V_merged 192 = .ok (.invokevirtual 63, 3) := by decide +kernel
theorem d_V_merged_195 : decode b_V_merged 195 = .ok (.istore 6, 2) := by decide +kernel
theorem d_V_merged_197 : decode b_V_merged 197 = .ok (.aload_n 0, 1) := by decide +kernel
theorem d_V_merged_198 : decode b_V_merged 198 = .ok (.getfield 13, 3) := by decide +kernel
theorem d_V_merged_201 : decode b_V_merged 201 = .ok (.iconst 0, 1) := by decide +kernel
theorem d_V_merged_202 : decode b_V_merged 202 = .ok (.aload_n 0, 1) := by decide +kernel
theorem d_V_merged_203 : decode b_V_merged 203 = .ok (.getfield 20, 3) := by decide +kernel
theorem d_V_merged_206 : decode b_V_merged 206 = .ok (.iload 6, 2) := by decide +kernel
theorem d_V_merged_208 : decode b_V_merged 208 = .ok (.iconst 4, 1) := by decide +kernel
theorem d_V_merged_209 : decode b_V_merged 209 = .ok (.iadd, 1) := by decide +kernel
theorem d_V_merged_210 : decode b_V_merged 210 = .ok (.iload 5, 2) := by decide +kernel
theorem d_V_merged_212 : decode b_V_merged 212 = .ok (.invokestatic 100, 3) := by decide +kernel
theorem d_V_merged_215 : decode b_V_merged 215 = .ok (.aload_n 0, 1) := by decide +kernel
theorem d_V_merged_216 : decode b_V_merged 216 = .ok (.getfield 17, 3) := by decide +kernel
theorem d_V_merged_219 : decode b_V_merged 219 = .ok (.iconst 0, 1) := by decide +kernel
theorem d_V_merged_220 : decode b_V_merged 220 = .ok (.aload_n 0, 1) := by decide +kernel
theorem d_V_merged_221 : decode b_V_merged 221 = .ok (.getfield 20, 3) := by decide +kernel
theorem d_V_merged_224 : decode b_V_merged 224 = .ok (.iload 6, 2) := by decide +kernel
theorem d_V_merged_226 : decode b_V_merged 226 = .ok (.iconst 4, 1) := by decide +kernel
theorem d_V_merged_227 : decode b_V_merged 227 = .ok (.iadd, 1) := by decide +kernel
theorem d_V_merged_228 : decode b_V_merged 228 = .ok (.iload 5, 2) := by decide +kernel
theorem d_V_merged_230 : decode b_V_merged 230 = .ok (.iadd, 1) := by decide +kernel
theorem d_V_merged_231 : decode b_V_merged 231 = .ok (.iload 5, 2) := by decide +kernel
theorem d_V_merged_233 : decode b_V_merged 233 = .ok (.invokestatic 100, 3) := by decide +kernel
theorem d_V_merged_236 : decode b_V_merged 236 = .ok (.aload_n 0, 1) := by decide +kernel
theorem d_V_merged_237 : decode b_V_merged 237 = .ok (.iload 6, 2) := by decide +kernel
theorem d_V_merged_239 : decode b_V_merged 239 = .ok (.invokevirtual 106, 3) := by decide +kernel
theorem d_V_merged_242 : decode b_V_merged 242 = .ok (.ireturn, 1) := by decide +kernel
theorem d_V_minus_0 : decode b_V_minus 0 = .ok (.aload_n 0, 1) := by decide +kernel
theorem d_V_minus_1 : decode b_V_minus 1 = .ok (.iload_n 1, 1) := by decide +kernel
theorem d_V_minus_2 : decode b_V_minus 2 = .ok (.invokevirtual 43, 3) := by decide +kernel
theorem d_V_minus_5 : decode b_V_minus 5 = .ok (.iconst 3, 1) := by decide +kernel
theorem d_V_minus_6 : decode b_V_minus 6 = .ok (.if_icmp .ne 30, 3) := by decide +kernel
theorem d_V_minus_9 : decode b_V_minus 9 = .ok (.aload_n 0, 1) := by decide +kernel
theorem d_V_minus_10 : decode b_V_minus 10 = .ok (.iload_n 2, 1) := by decide +kernel
theorem d_V_minus_11 : decode b_V_minus 11 = .ok (.invokevirtual 43, 3) := by decide +kernel
theorem d_V_minus_14 : decode b_V_minus 14 = .ok (.iconst 3, 1) := by decide +kernel
theorem d_V_minus_15 : decode b_V_minus 15 = .ok (.if_icmp .ne 21, 3) := by decide +kernel
theorem d_V_minus_18 : decode b_V_minus 18 = .ok (.aload_n 0, 1) := by decide +kernel
theorem d_V_minus_19 : decode b_V_minus 19 = .ok (.aload_n 0, 1) := by decide +kernel
theorem d_V_minus_20 : decode b_V_minus 20 = .ok (.iload_n 1, 1) := by decide +kernel
theorem d_V_minus_21 : decode b_V_minus 21 = .ok (.invokevirtual 109, 3) := by decide +kernel
theorem d_V_minus_24 : decode b_V_minus 24 = .ok (.aload_n 0, 1) := by decide +kernel
theorem d_V_minus_25 : decode b_V_minus 25 = .ok (.iload_n 2, 1) := by decide +kernel
theorem d_V_minus_26 : decode b_V_minus 26 = .ok (.invokevirtual 109, 3) := by decide +kernel
theorem d_V_minus_29 : decode b_V_minus 29 = .ok (.lsub, 1) := by decide +kernel
theorem d_V_minus_30 : decode b_V_minus 30 = .ok (.bipush 6, 2) := by decide +kernel
theorem d_V_minus_32 : decode b_V_minus 32 = .ok (.invokevirtual 168, 3) := by decide +kernel
theorem d_V_minus_35 : decode b_V_minus 35 = .ok (.ireturn, 1) := by decide +kernel
theorem d_V_minus_36 : decode b_V_minus 36 = .ok (.aload_n 0, 1) := by decide +kernel
theorem d_V_minus_37 : decode b_V_minus 37 = .ok (.iload_n 1, 1) := by decide +kernel
theorem d_V_minus_38 : decode b_V_minus 38 = .ok (.invokevirtual 43, 3) := by decide +kernel
theorem d_V_minus_41 : decode b_V_minus 41 = .ok (.iconst 5, 1) := by decide +kernel
theorem d_V_minus_42 : decode b_V_minus 42 = .ok (.if_icmp .ne 12, 3) := by decide +kernel
theorem d_V_minus_45 : decode b_V_minus 45 = .ok (.aload_n 0, 1) := by decide +kernel
theorem d_V_minus_46 : decode b_V_minus 46 = .ok (.iload_n 2, 1) := by decide +kernel
theorem d_V_minus_47 : decode b_V_minus 47 = .ok (.invokevirtual 43, 3) := by decide +kernel
theorem d_V_minus_50 : decode b_V_minus 50 = .ok (.iconst 5, 1) := by decide +kernel
theorem d_V_minus_51 : decode b_V_minus 51 = .ok (.if_icmp .eq 5, 3) := by decide +kernel
theorem d_V_minus_54 : decode b_V_minus 54 = .ok (.iconst (-1), 1) := by decide +kernel
theorem d_V_minus_55 : decode b_V_minus 55 = .ok (.ireturn, 1) := by decide +kernel
theorem d_V_minus_56 : decode b_V_minus 56 = .ok (.iconst 0, 1) := by decide +kernel
theorem d_V_minus_57 : decode b_V_minus 57 = .ok (.istore_n 3, 1) := by decide +kernel
theorem d_V_minus_58 : decode b_V_minus 58 = .ok (.iconst 0, 1) := by decide +kernel
theorem d_V_minus_59 : decode b_V_minus 59 = .ok (.istore 4, 2) := by decide +kernel
theorem d_V_minus_61 : decode b_V_minus 61 = .ok (.iload 4, 2) := by decide +kernel
theorem d_V_minus_63 : decode b_V_minus 63 = .ok (.aload_n 0, 1) := by decide +kernel
theorem d_V_minus_64 : decode b_V_minus 64 = .ok (.iload_n 1, 1) := by decide +kernel
theorem d_V_minus_65 : decode b_V_minus 65 = .ok (.invokevirtual 50, 3) := by decide +kernel
theorem d_V_minus_68 : decode b_V_minus 68 = .ok (.if_icmp .ge 75, 3) := by decide +kernel
theorem d_V_minus_71 : decode b_V_minus 71 = .ok (.iconst 0, 1) := by decide +kernel
theorem d_V_minus_72 : decode b_V_minus 72 = .ok (.istore 5, 2) := by decide +kernel
theorem d_V_minus_74 : decode b_V_minus 74 = .ok (.iload 5, 2) := by decide +kernel
theorem d_V_minus_76 : decode b_V_minus 76 = .ok (.aload_n 0, 1) := by decide +kernel
theorem d_V_minus_77 : decode b_V_minus 77 = .ok (.iload_n 2, 1) := by decide +kernel
theorem d_V_minus_78 : decode b_V_minus 78 = .ok (.invokevirtual 50, 3) := by decide +kernel
theorem d_V_minus_81 : decode b_V_minus 81 = .ok (.if_icmp .ge 30, 3) := by decide +kernel
theorem d_V_minus_84 : decode b_V_minus 84 = .ok (.aload_n 0, 1) := by decide +kernel
theorem d_V_minus_85 : decode b_V_minus 85 = .ok (.aload_n 0, 1) := by decide +kernel
theorem d_V_minus_86 : decode b_V_minus 86 = .ok (.iload_n 1, 1) := by decide +kernel
theorem d_V_minus_87 : decode b_V_minus 87 = .ok (.iload 4, 2) := by decide +kernel
theorem d_V_minus_89 : decode b_V_minus 89 = .ok (.invokevirtual 53, 3) := by decide +kernel
theorem d_V_minus_92 : decode b_V_minus 92 = .ok (.aload_n 0, 1) := by decide +kernel
theorem d_V_minus_93 : decode b_V_minus 93 = .ok (.iload_n 2, 1) := by decide +kernel
theorem d_V_minus_94 : decode b_V_minus 94 = .ok (.iload 5, 2) := by decide +kernel
theorem d_V_minus_96 : decode b_V_minus 96 = .ok (.invokevirtual 53, 3) := by decide +kernel
theorem d_V_minus_99 : decode b_V_minus 99 = .ok (.invokevirtual 136, 3) := by decide +kernel
theorem d_V_minus_102 : decode b_V_minus 102 = .ok (.ifCond .eq 9, 3) := by decide +kernel
theorem d_V_minus_105 : decode b_V_minus 105 = .ok (.iinc 5 1, 3) := by decide +kernel
theorem d_V_minus_108 : decode b_V_minus 108 = .ok (.goto (-34), 3) := by decide +kernel
theorem d_V_minus_111 : decode b_V_minus 111 = .ok (.iload 5, 2) := by decide +kernel
theorem d_V_minus_113 : decode b_V_minus 113 = .ok (.aload_n 0, 1) := by decide +kernel
theorem d_V_minus_114 : decode b_V_minus 114 = .ok (.iload_n 2, 1) := by decide +kernel
theorem d_V_minus_115 : decode b_V_minus 115 = .ok (.invokevirtual 50, 3) := by decide +kernel
theorem d_V_minus_118 : decode b_V_minus 118 = .ok (.if_icmp .ne 19, 3) := by decide +kernel
theorem d_V_minus_121 : decode b_V_minus 121 = .ok (.aload_n 0, 1) := by decide +kernel
theorem d_V_minus_122 : decode b_V_minus 122 = .ok (.getfield 13, 3) := by decide +kernel
theorem d_V_minus_125 : decode b_V_minus 125 = .ok (.iload_n 3, 1) := by decide +kernel
theorem d_V_minus_126 : decode b_V_minus 126 = .ok (.aload_n 0, 1) := by decide +kernel
theorem d_V_minus_127 : decode b_V_minus 127 = .ok (.iload_n 1, 1) := by decide +kernel
theorem d_V_minus_128 : decode b_V_minus 128 = .ok (.iload 4, 2) := by decide +kernel
theorem d_V_minus_130 : decode b_V_minus 130 = .ok (.invokevirtual 53, 3) := by decide +kernel
theorem d_V_minus_133 : decode b_V_minus 133 = .ok (.iastore, 1) := by decide +kernel
theorem d_V_minus_134 : decode b_V_minus 134 = .ok (.iinc 3 1, 3) := by decide +kernel
theorem d_V_minus_137 : decode b_V_minus 137 = .ok (.iinc 4 1, 3) := by decide +kernel
theorem d_V_minus_140 : decode b_V_minus 140 = .ok (.goto (-79), 3) := by decide +kernel
theorem d_V_minus_143 : decode b_V_minus 143 = .ok (.aload_n 0, 1) := by decide +kernel
theorem d_V_minus_144 : decode b_V_minus 144 = .ok (.aload_n 0, 1) := by decide +kernel
theorem d_V_minus_145 : decode b_V_minus 145 = .ok (.getfield 13, 3) := by decide +kernel
theorem d_V_minus_148 : decode b_V_minus 148 = .ok (.iload_n 3, 1) := by decide +kernel
theorem d_V_minus_149 : decode b_V_minus 149 = .ok (.invokevirtual 178, 3) := by decide +kernel
theorem d_V_minus_152 : decode b_V_minus 152 = .ok (.ireturn, 1) := by decide +kernel
theorem d_V_times_0 : decode b_V_times 0 = .ok (.aload_n 0, 1) := by decide +kernel
theorem d_V_times_1 : decode b_V_times 1 = .ok (.iload_n 1, 1) := by decide +kernel
theorem d_V_times_2 : decode b_V_times 2 = .ok (.invokevirtual 43, 3) := by decide +kernel
theorem d_V_times_5 : decode b_V_times 5 = .ok (.iconst 3, 1) := by decide +kernel
theorem d_V_times_6 : decode b_V_times 6 = .ok (.if_icmp .ne 12, 3) := by decide +kernel
theorem d_V_times_9 : decode b_V_times 9 = .ok (.aload_n 0, 1) := by decide +kernel
theorem d_V_times_10 : decode b_V_times 10 = .ok (.iload_n 2, 1) := by decide +kernel
theorem d_V_times_11 : decode b_V_times 11 = .ok (.invokevirtual 43, 3) := by decide +kernel
theorem d_V_times_14 : decode b_V_times 14 = .ok (.iconst 3, 1) := by decide +kernel
theorem d_V_times_15 : decode b_V_times 15 = .ok (.if_icmp .eq 5, 3) := by decide +kernel
theorem d_V_times_18 : decode b_V_times 18 = .ok (.iconst (-1), 1) := by decide +kernel
theorem d_V_times_19 : decode b_V_times 19 = .ok (.ireturn, 1) := by decide +kernel
theorem d_V_times_20 : decode b_V_times 20 = .ok (.aload_n 0, 1) := by decide +kernel
theorem d_V_times_21 : decode b_V_times 21 = .ok (.aload_n 0, 1) := by decide +kernel
theorem d_V_times_22 : decode b_V_times 22 = .ok (.iload_n 1, 1) := by decide +kernel
theorem d_V_times_23 : decode b_V_times 23 = .ok (.invokevirtual 139, 3) := by decide +kernel
theorem d_V_times_26 : decode b_V_times 26 = .ok (.i2l, 1) := by decide +kernel
theorem d_V_times_27 : decode b_V_times 27 = .ok (.aload_n 0, 1) := by decide +kernel
theorem d_V_times_28 : decode b_V_times 28 = .ok (.iload_n 2, 1) := by decide +kernel
theorem d_V_times_29 : decode b_V_times 29 = .ok (.invokevirtual 139, 3) := by decide +kernel
theorem d_V_times_32 : decode b_V_times 32 = .ok (.i2l, 1) := by decide +kernel
theorem d_V_times_33 : decode b_V_times 33 = .ok (.lmul, 1) := by decide +kernel
theorem d_V_times_34 : decode b_V_times 34 = .ok (.aload_n 0, 1) := by decide +kernel
theorem d_V_times_35 : decode b_V_times 35 = .ok (.iload_n 1, 1) := by decide +kernel
theorem d_V_times_36 : decode b_V_times 36 = .ok (.invokevirtual 145, 3) := by decide +kernel
theorem d_V_times_39 : decode b_V_times 39 = .ok (.aload_n 0, 1) := by decide +kernel
theorem d_V_times_40 : decode b_V_times 40 = .ok (.iload_n 2, 1) := by decide +kernel
theorem d_V_times_41 : decode b_V_times 41 = .ok (.invokevirtual 145, 3) := by decide +kernel
theorem d_V_times_44 : decode b_V_times 44 = .ok (.iadd, 1) := by decide +kernel
theorem d_V_times_45 : decode b_V_times 45 = .ok (.invokevirtual 168, 3) := by decide +kernel
theorem d_V_times_48 : decode b_V_times 48 = .ok (.ireturn, 1) := by decide +kernel
theorem d_V_rest_0 : decode b_V_rest 0 = .ok (.aload_n 0, 1) := by decide +kernel
theorem d_V_rest_1 : decode b_V_rest 1 = .ok (.iload_n 1, 1) := by decide +kernel
theorem d_V_rest_2 : decode b_V_rest 2 = .ok (.invokevirtual 43, 3) := by decide +kernel
theorem d_V_rest_5 : decode b_V_rest 5 = .ok (.iconst 3, 1) := by decide +kernel
theorem d_V_rest_6 : decode b_V_rest 6 = .ok (.if_icmp .ne 12, 3) := by decide +kernel
theorem d_V_rest_9 : decode b_V_rest 9 = .ok (.aload_n 0, 1) := by decide +kernel
theorem d_V_rest_10 : decode b_V_rest 10 = .ok (.iload_n 2, 1) := by decide +kernel
theorem d_V_rest_11 : decode b_V_rest 11 = .ok (.invokevirtual 43, 3) := by decide +kernel
theorem d_V_rest_14 : decode b_V_rest 14 = .ok (.iconst 3, 1) := by decide +kernel
theorem d_V_rest_15 : decode b_V_rest 15 = .ok (.if_icmp .eq 5, 3) := by decide +kernel
theorem d_V_rest_18 : decode b_V_rest 18 = .ok (.iconst (-1), 1) := by decide +kernel
theorem d_V_rest_19 : decode b_V_rest 19 = .ok (.ireturn, 1) := by decide +kernel
theorem d_V_rest_20 : decode b_V_rest 20 = .ok (.aload_n 0, 1) := by decide +kernel
theorem d_V_rest_21 : decode b_V_rest 21 = .ok (.iload_n 2, 1) := by decide +kernel
theorem d_V_rest_22 : decode b_V_rest 22 = .ok (.invokevirtual 182, 3) := by decide +kernel
theorem d_V_rest_25 : decode b_V_rest 25 = .ok (.istore_n 3, 1) := by decide +kernel
theorem d_V_rest_26 : decode b_V_rest 26 = .ok (.iload_n 3, 1) := by decide +kernel
theorem d_V_rest_27 : decode b_V_rest 27 = .ok (.ifCond .ne 8, 3) := by decide +kernel
theorem d_V_rest_30 : decode b_V_rest 30 = .ok (.bipush (-2), 2) := by decide +kernel
theorem d_V_rest_32 : decode b_V_rest 32 = .ok (.goto 16, 3) := by decide +kernel
theorem d_V_rest_35 : decode b_V_rest 35 = .ok (.aload_n 0, 1) := by decide +kernel
theorem d_V_rest_36 : decode b_V_rest 36 = .ok (.aload_n 0, 1) := by decide +kernel
theorem d_V_rest_37 : decode b_V_rest 37 = .ok (.iload_n 1, 1) := by decide +kernel
theorem d_V_rest_38 : decode b_V_rest 38 = .ok (.invokevirtual 182, 3) := by decide +kernel
theorem d_V_rest_41 : decode b_V_rest 41 = .ok (.iload_n 3, 1) := by decide +kernel
theorem d_V_rest_42 : decode b_V_rest 42 = .ok (.irem, 1) := by decide +kernel
theorem d_V_rest_43 : decode b_V_rest 43 = .ok (.i2l, 1) := by decide +kernel
theorem d_V_rest_44 : decode b_V_rest 44 = .ok (.iconst 0, 1) := by decide +kernel
theorem d_V_rest_45 : decode b_V_rest 45 = .ok (.invokevirtual 168, 3) := by decide +kernel
theorem d_V_rest_48 : decode b_V_rest 48 = .ok (.ireturn, 1) := by decide +kernel
theorem d_V_sumOf_0 : decode b_V_sumOf 0 = .ok (.aload_n 0, 1) := by decide +kernel
theorem d_V_sumOf_1 : decode b_V_sumOf 1 = .ok (.iload_n 1, 1) := by decide +kernel
theorem d_V_sumOf_2 : decode b_V_sumOf 2 = .ok (.invokevirtual 43, 3) := by decide +kernel
theorem d_V_sumOf_5 : decode b_V_sumOf 5 = .ok (.iconst 5, 1) := by decide +kernel
theorem d_V_sumOf_6 : decode b_V_sumOf 6 = .ok (.if_icmp .eq 5, 3) := by decide +kernel
theorem d_V_sumOf_9 : decode b_V_sumOf 9 = .ok (.iconst (-1), 1) := by decide +kernel
theorem d_V_sumOf_10 : decode b_V_sumOf 10 = .ok (.ireturn, 1) := by decide +kernel
theorem d_V_sumOf_11 : decode b_V_sumOf 11 = .ok (.iconst 0, 1) := by decide +kernel
theorem d_V_sumOf_12 : decode b_V_sumOf 12 = .ok (.istore_n 2, 1) := by decide +kernel
theorem d_V_sumOf_13 : decode b_V_sumOf 13 = .ok (.iconst 0, 1) := by decide +kernel
theorem d_V_sumOf_14 : decode b_V_sumOf 14 = .ok (.istore_n 3, 1) := by decide +kernel
theorem d_V_sumOf_15 : decode b_V_sumOf 15 = .ok (.iload_n 3, 1) := by decide +kernel
theorem d_V_sumOf_16 : decode b_V_sumOf 16 = .ok (.aload_n 0, 1) := by decide +kernel
theorem d_V_sumOf_17 : decode b_V_sumOf 17 = .ok (.iload_n 1, 1) := by decide +kernel
theorem d_V_sumOf_18 : decode b_V_sumOf 18 = .ok (.invokevirtual 50, 3) := by decide +kernel
theorem d_V_sumOf_21 : decode b_V_sumOf 21 = .ok (.if_icmp .ge 26, 3) := by decide +kernel
theorem d_V_sumOf_24 : decode b_V_sumOf 24 = .ok (.iload_n 2, 1) := by decide +kernel
theorem d_V_sumOf_25 : decode b_V_sumOf 25 = .ok (.iconst (-1), 1) := by decide +kernel
theorem d_V_sumOf_26 : decode b_V_sumOf 26 = .ok (.if_icmp .eq 21, 3) := by decide +kernel
theorem d_V_sumOf_29 : decode b_V_sumOf 29 = .ok (.aload_n 0, 1) := by decide +kernel
theorem d_V_sumOf_30 : decode b_V_sumOf 30 = .ok (.iload_n 2, 1) := by decide +kernel
theorem d_V_sumOf_31 : decode b_V_sumOf 31 = .ok (.aload_n 0, 1) := by decide +kernel
theorem d_V_sumOf_32 : decode b_V_sumOf 32 = .ok (.iload_n 1, 1) := by decide +kernel
theorem d_V_sumOf_33 : decode b_V_sumOf 33 = .ok (.iload_n 3, 1) := by decide +kernel
theorem d_V_sumOf_34 : decode b_V_sumOf 34 = .ok (.invokevirtual 53, 3) := by decide +kernel
theorem d_V_sumOf_37 : decode b_V_sumOf 37 = .ok (.invokevirtual 185, 3) := by decide +kernel
theorem d_V_sumOf_40 : decode b_V_sumOf 40 = .ok (.istore_n 2, 1) := by decide +kernel
theorem d_V_sumOf_41 : decode b_V_sumOf 41 = .ok (.iinc 3 1, 3) := by decide +kernel
theorem d_V_sumOf_44 : decode b_V_sumOf 44 = .ok (.goto (-29), 3) := by decide +kernel
theorem d_V_sumOf_47 : decode b_V_sumOf 47 = .ok (.iload_n 2, 1) := by decide +kernel
theorem d_V_sumOf_48 : decode b_V_sumOf 48 = .ok (.ireturn, 1) := by decide +kernel
theorem d_V_measured_0 : decode b_V_measured 0 = .ok (.aload_n 0, 1) := by decide +kernel
theorem d_V_measured_1 : decode b_V_measured 1 = .ok (.iload_n 1, 1) := by decide +kernel
theorem d_V_measured_2 : decode b_V_measured 2 = .ok (.invokevirtual 43, 3) := by decide +kernel
theorem d_V_measured_5 : decode b_V_measured 5 = .ok (.tableswitch 48 1 3 #[27, 27, 29], 27) := by decide +kernel
theorem d_V_measured_32 : decode b_V_measured 32 = .ok (.iconst (-1), 1) := by decide +kernel
theorem d_V_measured_33 : decode b_V_measured 33 = .ok (.ireturn, 1) := by decide +kernel
theorem d_V_measured_34 : decode b_V_measured 34 = .ok (.aload_n 0, 1) := by decide +kernel
theorem d_V_measured_35 : decode b_V_measured 35 = .ok (.aload_n 0, 1) := by decide +kernel
theorem d_V_measured_36 : decode b_V_measured 36 = .ok (.iload_n 1, 1) := by decide +kernel
theorem d_V_measured_37 : decode b_V_measured 37 = .ok (.invokevirtual 139, 3) := by decide +kernel
theorem d_V_measured_40 : decode b_V_measured 40 = .ok (.invokestatic 188, 3) := by decide +kernel
theorem d_V_measured_43 : decode b_V_measured 43 = .ok (.i2l, 1) := by decide +kernel
theorem d_V_measured_44 : decode b_V_measured 44 = .ok (.aload_n 0, 1) := by decide +kernel
theorem d_V_measured_45 : decode b_V_measured 45 = .ok (.iload_n 1, 1) := by decide +kernel
theorem d_V_measured_46 : decode b_V_measured 46 = .ok (.invokevirtual 145, 3) := by decide +kernel
theorem d_V_measured_49 : decode b_V_measured 49 = .ok (.invokevirtual 168, 3) := by decide +kernel
theorem d_V_measured_52 : decode b_V_measured 52 = .ok (.ireturn, 1) := by decide +kernel
theorem d_V_measured_53 : decode b_V_measured 53 = .ok (.aload_n 0, 1) := by decide +kernel
theorem d_V_measured_54 : decode b_V_measured 54 = .ok (.aload_n 0, 1) := by decide +kernel
theorem d_V_measured_55 : decode b_V_measured 55 = .ok (.iload_n 1, 1) := by decide +kernel
theorem d_V_measured_56 : decode b_V_measured 56 = .ok (.invokevirtual 50, 3) := by decide +kernel
theorem d_V_measured_59 : decode b_V_measured 59 = .ok (.invokevirtual 31, 3) := by decide +kernel
theorem d_V_measured_62 : decode b_V_measured 62 = .ok (.ireturn, 1) := by decide +kernel
theorem d_V_floored_0 : decode b_V_floored 0 = .ok (.aload_n 0, 1) := by decide +kernel
theorem d_V_floored_1 : decode b_V_floored 1 = .ok (.iload_n 1, 1) := by decide +kernel
theorem d_V_floored_2 : decode b_V_floored 2 = .ok (.invokevirtual 43, 3) := by decide +kernel
theorem d_V_floored_5 : decode b_V_floored 5 = .ok (.iconst 3, 1) := by decide +kernel
theorem d_V_floored_6 : decode b_V_floored 6 = .ok (.if_icmp .ne 17, 3) := by decide +kernel
theorem d_V_floored_9 : decode b_V_floored 9 = .ok (.aload_n 0, 1) := by decide +kernel
theorem d_V_floored_10 : decode b_V_floored 10 = .ok (.aload_n 0, 1) := by decide +kernel
theorem d_V_floored_11 : decode b_V_floored 11 = .ok (.iload_n 1, 1) := by decide +kernel
theorem d_V_floored_12 : decode b_V_floored 12 = .ok (.invokevirtual 155, 3) := by decide +kernel
theorem d_V_floored_15 : decode b_V_floored 15 = .ok (.i2l, 1) := by decide +kernel
theorem d_V_floored_16 : decode b_V_floored 16 = .ok (.iconst 0, 1) := by decide +kernel
theorem d_V_floored_17 : decode b_V_floored 17 = .ok (.invokevirtual 168, 3) := by decide +kernel
theorem d_V_floored_20 : decode b_V_floored 20 = .ok (.goto 4, 3) := by decide +kernel
theorem d_V_floored_23 : decode b_V_floored 23 = .ok (.iconst (-1), 1) := by decide +kernel
theorem d_V_floored_24 : decode b_V_floored 24 = .ok (.ireturn, 1) := by decide +kernel
theorem d_V_keysOf_0 : decode b_V_keysOf 0 = .ok (.aload_n 0, 1) := by decide +kernel
theorem d_V_keysOf_1 : decode b_V_keysOf 1 = .ok (.iload_n 1, 1) := by decide +kernel
theorem d_V_keysOf_2 : decode b_V_keysOf 2 = .ok (.invokevirtual 191, 3) := by decide +kernel
theorem d_V_keysOf_5 : decode b_V_keysOf 5 = .ok (.ifCond .ne 5, 3) := by decide +kernel
theorem d_V_keysOf_8 : decode b_V_keysOf 8 = .ok (.iconst (-1), 1) := by decide +kernel
theorem d_V_keysOf_9 : decode b_V_keysOf 9 = .ok (.ireturn, 1) := by decide +kernel
theorem d_V_keysOf_10 : decode b_V_keysOf 10 = .ok (.iconst 0, 1) := by decide +kernel
theorem d_V_keysOf_11 : decode b_V_keysOf 11 = .ok (.istore_n 2, 1) := by decide +kernel
theorem d_V_keysOf_12 : decode b_V_keysOf 12 = .ok (.iload_n 2, 1) := by decide +kernel
theorem d_V_keysOf_13 : decode b_V_keysOf 13 = .ok (.aload_n 0, 1) := by decide +kernel
theorem d_V_keysOf_14 : decode b_V_keysOf 14 = .ok (.iload_n 1, 1) := by decide +kernel
theorem d_V_keysOf_15 : decode b_V_keysOf 15 = .ok (.invokevirtual 50, 3) := by decide +kernel
theorem d_V_keysOf_18 : decode b_V_keysOf 18 = .ok (.if_icmp .ge 39, 3) := by decide +kernel
theorem d_V_keysOf_21 : decode b_V_keysOf 21 = .ok (.aload_n 0, 1) := by decide +kernel
theorem d_V_keysOf_22 : decode b_V_keysOf 22 = .ok (.getfield 13, 3) := by decide +kernel
theorem d_V_keysOf_25 : decode b_V_keysOf 25 = .ok (.iload_n 2, 1) := by decide +kernel
theorem d_V_keysOf_26 : decode b_V_keysOf 26 = .ok (.aload_n 0, 1) := by decide +kernel
theorem d_V_keysOf_27 : decode b_V_keysOf 27 = .ok (.iload_n 1, 1) := by decide +kernel
theorem d_V_keysOf_28 : decode b_V_keysOf 28 = .ok (.invokevirtual 43, 3) := by decide +kernel
theorem d_V_keysOf_31 : decode b_V_keysOf 31 = .ok (.bipush 6, 2) := by decide +kernel
theorem d_V_keysOf_33 : decode b_V_keysOf 33 = .ok (.if_icmp .ne 12, 3) := by decide +kernel
theorem d_V_keysOf_36 : decode b_V_keysOf 36 = .ok (.aload_n 0, 1) := by decide +kernel
theorem d_V_keysOf_37 : decode b_V_keysOf 37 = .ok (.iload_n 1, 1) := by decide +kernel
theorem d_V_keysOf_38 : decode b_V_keysOf 38 = .ok (.iload_n 2, 1) := by decide +kernel
theorem d_V_keysOf_39 : decode b_V_keysOf 39 = .ok (.invokevirtual 60, 3) := by decide +kernel
theorem d_V_keysOf_42 : decode b_V_keysOf 42 = .ok (.goto 8, 3) := by decide +kernel
theorem d_V_keysOf_45 : decode b_V_keysOf 45 = .ok (.aload_n 0, 1) := by decide +kernel
theorem d_V_keysOf_46 : decode b_V_keysOf 46 = .ok (.iload_n 2, 1) := by decide +kernel
theorem d_V_keysOf_47 : decode b_V_keysOf 47 = .ok (.invokevirtual 31, 3) := by decide +kernel
theorem d_V_keysOf_50 : decode b_V_keysOf 50 = .ok (.iastore, 1) := by decide +kernel
theorem d_V_keysOf_51 : decode b_V_keysOf 51 = .ok (.iinc 2 1, 3) := by decide +kernel
theorem d_V_keysOf_54 : decode b_V_keysOf 54 = .ok (.goto (-42), 3) := by decide +kernel
theorem d_V_keysOf_57 : decode b_V_keysOf 57 = .ok (.aload_n 0, 1) := by decide +kernel
theorem d_V_keysOf_58 : decode b_V_keysOf 58 = .ok (.aload_n 0, 1) := by decide +kernel
theorem d_V_keysOf_59 : decode b_V_keysOf 59 = .ok (.getfield 13, 3) := by decide +kernel
theorem d_V_keysOf_62 : decode b_V_keysOf 62 = .ok (.aload_n 0, 1) := by decide +kernel
theorem d_V_keysOf_63 : decode b_V_keysOf 63 = .ok (.iload_n 1, 1) := by decide +kernel
theorem d_V_keysOf_64 : decode b_V_keysOf 64 = .ok (.invokevirtual 50, 3) := by decide +kernel
theorem d_V_keysOf_67 : decode b_V_keysOf 67 = .ok (.invokevirtual 178, 3) := by decide +kernel
theorem d_V_keysOf_70 : decode b_V_keysOf 70 = .ok (.ireturn, 1) := by decide +kernel
theorem d_V_sorted_0 : decode b_V_sorted 0 = .ok (.aload_n 0, 1) := by decide +kernel
theorem d_V_sorted_1 : decode b_V_sorted 1 = .ok (.iload_n 1, 1) := by decide +kernel
theorem d_V_sorted_2 : decode b_V_sorted 2 = .ok (.invokevirtual 43, 3) := by decide +kernel
theorem d_V_sorted_5 : decode b_V_sorted 5 = .ok (.iconst 5, 1) := by decide +kernel
theorem d_V_sorted_6 : decode b_V_sorted 6 = .ok (.if_icmp .eq 5, 3) := by decide +kernel
theorem d_V_sorted_9 : decode b_V_sorted 9 = .ok (.iconst (-1), 1) := by decide +kernel
theorem d_V_sorted_10 : decode b_V_sorted 10 = .ok (.ireturn, 1) := by decide +kernel
theorem d_V_sorted_11 : decode b_V_sorted 11 = .ok (.iconst 0, 1) := by decide +kernel
theorem d_V_sorted_12 : decode b_V_sorted 12 = .ok (.istore_n 2, 1) := by decide +kernel
theorem d_V_sorted_13 : decode b_V_sorted 13 = .ok (.iload_n 2, 1) := by decide +kernel
theorem d_V_sorted_14 : decode b_V_sorted 14 = .ok (.aload_n 0, 1) := by decide +kernel
theorem d_V_sorted_15 : decode b_V_sorted 15 = .ok (.iload_n 1, 1) := by decide +kernel
theorem d_V_sorted_16 : decode b_V_sorted 16 = .ok (.invokevirtual 50, 3) := by decide +kernel
theorem d_V_sorted_19 : decode b_V_sorted 19 = .ok (.if_icmp .ge 68, 3) := by decide +kernel
theorem d_V_sorted_22 : decode b_V_sorted 22 = .ok (.iload_n 2, 1) := by decide +kernel
theorem d_V_sorted_23 : decode b_V_sorted 23 = .ok (.istore_n 3, 1) := by decide +kernel
theorem d_V_sorted_24 : decode b_V_sorted 24 = .ok (.iload_n 3, 1) := by decide +kernel
theorem d_V_sorted_25 : decode b_V_sorted 25 = .ok (.ifCond .le 44, 3) := by decide +kernel
theorem d_V_sorted_28 : decode b_V_sorted 28 = .ok (.aload_n 0, 1) := by decide +kernel
theorem d_V_sorted_29 : decode b_V_sorted 29 = .ok (.aload_n 0, 1) := by decide +kernel
theorem d_V_sorted_30 : decode b_V_sorted 30 = .ok (.getfield 13, 3) := by decide +kernel
theorem d_V_sorted_33 : decode b_V_sorted 33 = .ok (.iload_n 3, 1) := by decide +kernel
theorem d_V_sorted_34 : decode b_V_sorted 34 = .ok (.iconst 1, 1) := by decide +kernel
theorem d_V_sorted_35 : decode b_V_sorted 35 = .ok (.isub, 1) := by decide +kernel
theorem d_V_sorted_36 : decode b_V_sorted 36 = .ok (.iaload, 1) := by decide +kernel
theorem d_V_sorted_37 : decode b_V_sorted 37 = .ok (.aload_n 0, 1) := by decide +kernel
theorem d_V_sorted_38 : decode b_V_sorted 38 = .ok (.iload_n 1, 1) := by decide +kernel
theorem d_V_sorted_39 : decode b_V_sorted 39 = .ok (.iload_n 2, 1) := by decide +kernel
theorem d_V_sorted_40 : decode b_V_sorted 40 = .ok (.invokevirtual 53, 3) := by decide +kernel
theorem d_V_sorted_43 : decode b_V_sorted 43 = .ok (.invokevirtual 136, 3) := by decide +kernel
theorem d_V_sorted_46 : decode b_V_sorted 46 = .ok (.ifCond .le 23, 3) := by decide +kernel
theorem d_V_sorted_49 : decode b_V_sorted 49 = .ok (.aload_n 0, 1) := by decide +kernel
theorem d_V_sorted_50 : decode b_V_sorted 50 = .ok (.getfield 13, 3) := by decide +kernel
theorem d_V_sorted_53 : decode b_V_sorted 53 = .ok (.iload_n 3, 1) := by decide +kernel
theorem d_V_sorted_54 : decode b_V_sorted 54 = .ok (.aload_n 0, 1) := by decide +kernel
theorem d_V_sorted_55 : decode b_V_sorted 55 = .ok (.getfield 13, 3) := by decide +kernel
theorem d_V_sorted_58 : decode b_V_sorted 58 = .ok (.iload_n 3, 1) := by decide +kernel
theorem d_V_sorted_59 : decode b_V_sorted 59 = .ok (.iconst 1, 1) := by decide +kernel
theorem d_V_sorted_60 : decode b_V_sorted 60 = .ok (.isub, 1) := by decide +kernel
theorem d_V_sorted_61 : decode b_V_sorted 61 = .ok (.iaload, 1) := by decide +kernel
theorem d_V_sorted_62 : decode b_V_sorted 62 = .ok (.iastore, 1) := by decide +kernel
theorem d_V_sorted_63 : decode b_V_sorted 63 = .ok (.iinc 3 (-1), 3) := by decide +kernel
theorem d_V_sorted_66 : decode b_V_sorted 66 = .ok (.goto (-42), 3) := by decide +kernel
theorem d_V_sorted_69 : decode b_V_sorted 69 = .ok (.aload_n 0, 1) := by decide +kernel
theorem d_V_sorted_70 : decode b_V_sorted 70 = .ok (.getfield 13, 3) := by decide +kernel
theorem d_V_sorted_73 : decode b_V_sorted 73 = .ok (.iload_n 3, 1) := by decide +kernel
theorem d_V_sorted_74 : decode b_V_sorted 74 = .ok (.aload_n 0, 1) := by decide +kernel
theorem d_V_sorted_75 : decode b_V_sorted 75 = .ok (.iload_n 1, 1) := by decide +kernel
theorem d_V_sorted_76 : decode b_V_sorted 76 = .ok (.iload_n 2, 1) := by decide +kernel
theorem d_V_sorted_77 : decode b_V_sorted 77 = .ok (.invokevirtual 53, 3) := by decide +kernel
theorem d_V_sorted_80 : decode b_V_sorted 80 = .ok (.iastore, 1) := by decide +kernel
theorem d_V_sorted_81 : decode b_V_sorted 81 = .ok (.iinc 2 1, 3) := by decide +kernel
theorem d_V_sorted_84 : decode b_V_sorted 84 = .ok (.goto (-71), 3) := by decide +kernel
theorem d_V_sorted_87 : decode b_V_sorted 87 = .ok (.aload_n 0, 1) := by decide +kernel
theorem d_V_sorted_88 : decode b_V_sorted 88 = .ok (.aload_n 0, 1) := by decide +kernel
theorem d_V_sorted_89 : decode b_V_sorted 89 = .ok (.getfield 13, 3) := by decide +kernel
theorem d_V_sorted_92 : decode b_V_sorted 92 = .ok (.aload_n 0, 1) := by decide +kernel
theorem d_V_sorted_93 : decode b_V_sorted 93 = .ok (.iload_n 1, 1) := by decide +kernel
theorem d_V_sorted_94 : decode b_V_sorted 94 = .ok (.invokevirtual 50, 3) := by decide +kernel
theorem d_V_sorted_97 : decode b_V_sorted 97 = .ok (.invokevirtual 178, 3) := by decide +kernel
theorem d_V_sorted_100 : decode b_V_sorted 100 = .ok (.ireturn, 1) := by decide +kernel
