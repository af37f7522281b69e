/-! decode rows of FilterBenchModel, methods 56 to 82 (by program: wip/gen/decs.py) -/
theorem d_M_without_0 : decode b_M_without 0 = .ok (.iconst 0, 1) := by decide +kernel
theorem d_M_without_1 : decode b_M_without 1 = .ok (.istore_n 3, 1) := by decide +kernel
theorem d_M_without_2 : decode b_M_without 2 = .ok (.iconst 0, 1) := by decide +kernel
theorem d_M_without_3 : decode b_M_without 3 = .ok (.istore 4, 2) := by decide +kernel
theorem d_M_without_5 : decode b_M_without 5 = .ok (.iload 4, 2) := by decide +kernel
theorem d_M_without_7 : decode b_M_without 7 = .ok (.aload_n 0, 1) := by decide +kernel
theorem d_M_without_8 : decode b_M_without 8 = .ok (.iload_n 1, 1) := by decide +kernel
theorem d_M_without_9 : decode b_M_without 9 = .ok (.invokevirtual 136, 3) := by decide +kernel
theorem d_M_without_12 : decode b_M_without 12 = .ok (.if_icmp .ge 79, 3) := by decide +kernel
theorem d_M_without_15 : decode b_M_without 15 = .ok (.iconst 0, 1) := by decide +kernel
theorem d_M_without_16 : decode b_M_without 16 = .ok (.istore 5, 2) := by decide +kernel
theorem d_M_without_18 : decode b_M_without 18 = .ok (.iconst 0, 1) := by decide +kernel
theorem d_M_without_19 : decode b_M_without 19 = .ok (.istore 6, 2) := by decide +kernel
theorem d_M_without_21 : decode b_M_without 21 = .ok (.iload 6, 2) := by decide +kernel
theorem d_M_without_23 : decode b_M_without 23 = .ok (.aload_n 0, 1) := by decide +kernel
theorem d_M_without_24 : decode b_M_without 24 = .ok (.iload_n 2, 1) := by decide +kernel
theorem d_M_without_25 : decode b_M_without 25 = .ok (.invokevirtual 136, 3) := by decide +kernel
theorem d_M_without_28 : decode b_M_without 28 = .ok (.if_icmp .ge 33, 3) := by decide +kernel
theorem d_M_without_31 : decode b_M_without 31 = .ok (.aload_n 0, 1) := by decide +kernel
theorem d_M_without_32 : decode b_M_without 32 = .ok (.aload_n 0, 1) := by decide +kernel
theorem d_M_without_33 : decode b_M_without 33 = .ok (.iload_n 1, 1) := by decide +kernel
theorem d_M_without_34 : decode b_M_without 34 = .ok (.iload 4, 2) := by decide +kernel
theorem d_M_without_36 : decode b_M_without 36 = .ok (.invokevirtual 139, 3) := by decide +kernel
theorem d_M_without_39 : decode b_M_without 39 = .ok (.aload_n 0, 1) := by decide +kernel
theorem d_M_without_40 : decode b_M_without 40 = .ok (.iload_n 2, 1) := by decide +kernel
theorem d_M_without_41 : decode b_M_without 41 = .ok (.iload 6, 2) := by decide +kernel
theorem d_M_without_43 : decode b_M_without 43 = .ok (.invokevirtual 139, 3) := by decide +kernel
theorem d_M_without_46 : decode b_M_without 46 = .ok (.invokevirtual 286, 3) := by decide +kernel
theorem d_M_without_49 : decode b_M_without 49 = .ok (.ifCond .eq 6, 3) := by decide +kernel
theorem d_M_without_52 : decode b_M_without 52 = .ok (.iconst 1, 1) := by decide +kernel
theorem d_M_without_53 : decode b_M_without 53 = .ok (.istore 5, 2) := by decide +kernel
theorem d_M_without_55 : decode b_M_without 55 = .ok (.iinc 6 1, 3) := by decide +kernel
theorem d_M_without_58 : decode b_M_without 58 = .ok (.goto (-37), 3) := by decide +kernel
theorem d_M_without_61 : decode b_M_without 61 = .ok (.iload 5, 2) := by decide +kernel
theorem d_M_without_63 : decode b_M_without 63 = .ok (.ifCond .eq 6, 3) := by decide +kernel
theorem d_M_without_66 : decode b_M_without 66 = .ok (.goto 19, 3) := by decide +kernel
theorem d_M_without_69 : decode b_M_without 69 = .ok (.aload_n 0, 1) := by decide +kernel
theorem d_M_without_70 : decode b_M_without 70 = .ok (.getfield 42, 3) := by decide +kernel
theorem d_M_without_73 : decode b_M_without 73 = .ok (.iload_n 3, 1) := by decide +kernel
theorem d_M_without_74 : decode b_M_without 74 = .ok (.aload_n 0, 1) := by decide +kernel
theorem d_M_without_75 : decode b_M_without 75 = .ok (.iload_n 1, 1) := by decide +kernel
theorem d_M_without_76 : decode b_M_without 76 = .ok (.iload 4, 2) := by decide +kernel
theorem d_M_without_78 : decode b_M_without 78 = .ok (.invokevirtual 139, 3) := by decide +kernel
theorem d_M_without_81 : decode b_M_without 81 = .ok (.iastore, 1) := by decide +kernel
theorem d_M_without_82 : decode b_M_without 82 = .ok (.iinc 3 1, 3) := by decide +kernel
theorem d_M_without_85 : decode b_M_without 85 = .ok (.iinc 4 1, 3) := by decide +kernel
theorem d_M_without_88 : decode b_M_without 88 = .ok (.goto (-83), 3) := by decide +kernel
theorem d_M_without_91 : decode b_M_without 91 = .ok (.aload_n 0, 1) := by decide +kernel
theorem d_M_without_92 : decode b_M_without 92 = .ok (.iload_n 3, 1) := by decide +kernel
theorem d_M_without_93 : decode b_M_without 93 = .ok (.invokevirtual 242, 3) := by decide +kernel
theorem d_M_without_96 : decode b_M_without 96 = .ok (.ireturn, 1) := by decide +kernel
theorem d_M_product_0 : decode b_M_product 0 = .ok (.aload_n 0, 1) := by decide +kernel
theorem d_M_product_1 : decode b_M_product 1 = .ok (.iload_n 1, 1) := by decide +kernel
theorem d_M_product_2 : decode b_M_product 2 = .ok (.invokevirtual 289, 3) := by decide +kernel
theorem d_M_product_5 : decode b_M_product 5 = .ok (.aload_n 0, 1) := by decide +kernel
theorem d_M_product_6 : decode b_M_product 6 = .ok (.iload_n 2, 1) := by decide +kernel
theorem d_M_product_7 : decode b_M_product 7 = .ok (.invokevirtual 289, 3) := by decide +kernel
theorem d_M_product_10 : decode b_M_product 10 = .ok (.lmul, 1) := by decide +kernel
theorem d_M_product_11 : decode b_M_product 11 = .ok (.lstore_n 3, 1) := by decide +kernel
theorem d_M_product_12 : decode b_M_product 12 = .ok (.aload_n 0, 1) := by decide +kernel
theorem d_M_product_13 : decode b_M_product 13 = .ok (.iload_n 1, 1) := by decide +kernel
theorem d_M_product_14 : decode b_M_product 14 = .ok (.invokevirtual 126, 3) := by decide +kernel
theorem d_M_product_17 : decode b_M_product 17 = .ok (.aload_n 0, 1) := by decide +kernel
theorem d_M_product_18 : decode b_M_product 18 = .ok (.iload_n 2, 1) := by decide +kernel
theorem d_M_product_19 : decode b_M_product 19 = .ok (.invokevirtual 126, 3) := by decide +kernel
theorem d_M_product_22 : decode b_M_product 22 = .ok (.iadd, 1) := by decide +kernel
theorem d_M_product_23 : decode b_M_product 23 = .ok (.istore 5, 2) := by decide +kernel
theorem d_M_product_25 : decode b_M_product 25 = .ok (.iload 5, 2) := by decide +kernel
theorem d_M_product_27 : decode b_M_product 27 = .ok (.ifCond .le 25, 3) := by decide +kernel
theorem d_M_product_30 : decode b_M_product 30 = .ok (.lload_n 3, 1) := by decide +kernel
theorem d_M_product_31 : decode b_M_product 31 = .ok (.ldc2_w 108, 3) := by decide +kernel
theorem d_M_product_34 : decode b_M_product 34 = .ok (.lrem, 1) := by decide +kernel
theorem d_M_product_35 : decode b_M_product 35 = .ok (.lconst 0, 1) := by decide +kernel
theorem d_M_product_36 : decode b_M_product 36 = .ok (.lcmp, 1) := by decide +kernel
theorem d_M_product_37 : decode b_M_product 37 = .ok (.ifCond .ne 15, 3) := by decide +kernel
theorem d_M_product_40 : decode b_M_product 40 = .ok (.lload_n 3, 1) := by decide +kernel
theorem d_M_product_41 : decode b_M_product 41 = .ok (.ldc2_w 108, 3) := by decide +kernel
theorem d_M_product_44 : decode b_M_product 44 = .ok (.ldiv, 1) := by decide +kernel
theorem d_M_product_45 : decode b_M_product 45 = .ok (.lstore_n 3, 1) := by decide +kernel
theorem d_M_product_46 : decode b_M_product 46 = .ok (.iinc 5 (-1), 3) := by decide +kernel
theorem d_M_product_49 : decode b_M_product 49 = .ok (.goto (-24), 3) := by decide +kernel
theorem d_M_product_52 : decode b_M_product 52 = .ok (.iload 5, 2) := by decide +kernel
theorem d_M_product_54 : decode b_M_product 54 = .ok (.bipush 6, 2) := by decide +kernel
theorem d_M_product_56 : decode b_M_product 56 = .ok (.if_icmp .gt 19, 3) := by decide +kernel
theorem d_M_product_59 : decode b_M_product 59 = .ok (.lload_n 3, 1) := by decide +kernel
theorem d_M_product_60 : decode b_M_product 60 = .ok (.ldc2_w 110, 3) := by decide +kernel
theorem d_M_product_63 : decode b_M_product 63 = .ok (.lcmp, 1) := by decide +kernel
theorem d_M_product_64 : decode b_M_product 64 = .ok (.ifCond .gt 11, 3) := by decide +kernel
theorem d_M_product_67 : decode b_M_product 67 = .ok (.lload_n 3, 1) := by decide +kernel
theorem d_M_product_68 : decode b_M_product 68 = .ok (.ldc2_w 112, 3) := by decide +kernel
theorem d_M_product_71 : decode b_M_product 71 = .ok (.lcmp, 1) := by decide +kernel
theorem d_M_product_72 : decode b_M_product 72 = .ok (.ifCond .ge 8, 3) := by decide +kernel
theorem d_M_product_75 : decode b_M_product 75 = .ok (.aload_n 0, 1) := by decide +kernel
theorem d_M_product_76 : decode b_M_product 76 = .ok (.invokevirtual 114, 3) := by decide +kernel
theorem d_M_product_79 : decode b_M_product 79 = .ok (.ireturn, 1) := by decide +kernel
theorem d_M_product_80 : decode b_M_product 80 = .ok (.iload 5, 2) := by decide +kernel
theorem d_M_product_82 : decode b_M_product 82 = .ok (.istore 6, 2) := by decide +kernel
theorem d_M_product_84 : decode b_M_product 84 = .ok (.iload 6, 2) := by decide +kernel
theorem d_M_product_86 : decode b_M_product 86 = .ok (.bipush 6, 2) := by decide +kernel
theorem d_M_product_88 : decode b_M_product 88 = .ok (.if_icmp .ge 15, 3) := by decide +kernel
theorem d_M_product_91 : decode b_M_product 91 = .ok (.lload_n 3, 1) := by decide +kernel
theorem d_M_product_92 : decode b_M_product 92 = .ok (.ldc2_w 108, 3) := by decide +kernel
theorem d_M_product_95 : decode b_M_product 95 = .ok (.lmul, 1) := by decide +kernel
theorem d_M_product_96 : decode b_M_product 96 = .ok (.lstore_n 3, 1) := by decide +kernel
theorem d_M_product_97 : decode b_M_product 97 = .ok (.iinc 6 1, 3) := by decide +kernel
theorem d_M_product_100 : decode b_M_product 100 = .ok (.goto (-16), 3) := by decide +kernel
theorem d_M_product_103 : decode b_M_product 103 = .ok (.aload_n 0, 1) := by decide +kernel
theorem d_M_product_104 : decode b_M_product 104 = .ok (.lload_n 3, 1) := by decide +kernel
theorem d_M_product_105 : decode b_M_product 105 = .ok (.invokevirtual 132, 3) := by decide +kernel
theorem d_M_product_108 : decode b_M_product 108 = .ok (.ireturn, 1) := by decide +kernel
theorem d_M_calc_0 : decode b_M_calc 0 = .ok (.iload_n 1, 1) := by decide +kernel
theorem d_M_calc_1 : decode b_M_calc 1 = .ok (.ifCond .ne 10, 3) := by decide +kernel
theorem d_M_calc_4 : decode b_M_calc 4 = .ok (.aload_n 0, 1) := by decide +kernel
theorem d_M_calc_5 : decode b_M_calc 5 = .ok (.iload_n 2, 1) := by decide +kernel
theorem d_M_calc_6 : decode b_M_calc 6 = .ok (.iload_n 3, 1) := by decide +kernel
theorem d_M_calc_7 : decode b_M_calc 7 = .ok (.invokevirtual 277, 3) := by decide +kernel
theorem d_M_calc_10 : decode b_M_calc 10 = .ok (.ireturn, 1) := by decide +kernel
theorem d_M_calc_11 : decode b_M_calc 11 = .ok (.iload_n 1, 1) := by decide +kernel
theorem d_M_calc_12 : decode b_M_calc 12 = .ok (.iconst 1, 1) := by decide +kernel
theorem d_M_calc_13 : decode b_M_calc 13 = .ok (.if_icmp .ne 28, 3) := by decide +kernel
theorem d_M_calc_16 : decode b_M_calc 16 = .ok (.aload_n 0, 1) := by decide +kernel
theorem d_M_calc_17 : decode b_M_calc 17 = .ok (.iload_n 2, 1) := by decide +kernel
theorem d_M_calc_18 : decode b_M_calc 18 = .ok (.invokevirtual 156, 3) := by decide +kernel
theorem d_M_calc_21 : decode b_M_calc 21 = .ok (.iconst 5, 1) := by decide +kernel
theorem d_M_calc_22 : decode b_M_calc 22 = .ok (.if_icmp .ne 19, 3) := by decide +kernel
theorem d_M_calc_25 : decode b_M_calc 25 = .ok (.aload_n 0, 1) := by decide +kernel
theorem d_M_calc_26 : decode b_M_calc 26 = .ok (.iload_n 3, 1) := by decide +kernel
theorem d_M_calc_27 : decode b_M_calc 27 = .ok (.invokevirtual 156, 3) := by decide +kernel
theorem d_M_calc_30 : decode b_M_calc 30 = .ok (.iconst 5, 1) := by decide +kernel
theorem d_M_calc_31 : decode b_M_calc 31 = .ok (.if_icmp .ne 10, 3) := by decide +kernel
theorem d_M_calc_34 : decode b_M_calc 34 = .ok (.aload_n 0, 1) := by decide +kernel
theorem d_M_calc_35 : decode b_M_calc 35 = .ok (.iload_n 2, 1) := by decide +kernel
theorem d_M_calc_36 : decode b_M_calc 36 = .ok (.iload_n 3, 1) := by decide +kernel
theorem d_M_calc_37 : decode b_M_calc 37 = .ok (.invokevirtual 292, 3) := by decide +kernel
theorem d_M_calc_40 : decode b_M_calc 40 = .ok (.ireturn, 1) := by decide +kernel
theorem d_M_calc_41 : decode b_M_calc 41 = .ok (.aload_n 0, 1) := by decide +kernel
theorem d_M_calc_42 : decode b_M_calc 42 = .ok (.iload_n 2, 1) := by decide +kernel
theorem d_M_calc_43 : decode b_M_calc 43 = .ok (.invokevirtual 156, 3) := by decide +kernel
theorem d_M_calc_46 : decode b_M_calc 46 = .ok (.iconst 3, 1) := by decide +kernel
theorem d_M_calc_47 : decode b_M_calc 47 = .ok (.if_icmp .ne 12, 3) := by decide +kernel
theorem d_M_calc_50 : decode b_M_calc 50 = .ok (.aload_n 0, 1) := by decide +kernel
theorem d_M_calc_51 : decode b_M_calc 51 = .ok (.iload_n 3, 1) := by decide +kernel
theorem d_M_calc_52 : decode b_M_calc 52 = .ok (.invokevirtual 156, 3) := by decide +kernel
theorem d_M_calc_55 : decode b_M_calc 55 = .ok (.iconst 3, 1) := by decide +kernel
theorem d_M_calc_56 : decode b_M_calc 56 = .ok (.if_icmp .eq 5, 3) := by decide +kernel
theorem d_M_calc_59 : decode b_M_calc 59 = .ok (.iconst (-1), 1) := by decide +kernel
theorem d_M_calc_60 : decode b_M_calc 60 = .ok (.ireturn, 1) := by decide +kernel
theorem d_M_calc_61 : decode b_M_calc 61 = .ok (.iload_n 1, 1) := by decide +kernel
theorem d_M_calc_62 : decode b_M_calc 62 = .ok (.iconst 1, 1) := by decide +kernel
theorem d_M_calc_63 : decode b_M_calc 63 = .ok (.if_icmp .ne 19, 3) := by decide +kernel
theorem d_M_calc_66 : decode b_M_calc 66 = .ok (.aload_n 0, 1) := by decide +kernel
theorem d_M_calc_67 : decode b_M_calc 67 = .ok (.aload_n 0, 1) := by decide +kernel
theorem d_M_calc_68 : decode b_M_calc 68 = .ok (.iload_n 2, 1) := by decide +kernel
theorem d_M_calc_69 : decode b_M_calc 69 = .ok (.invokevirtual 122, 3) := by decide +kernel
theorem d_M_calc_72 : decode b_M_calc 72 = .ok (.aload_n 0, 1) := by decide +kernel
theorem d_M_calc_73 : decode b_M_calc 73 = .ok (.iload_n 3, 1) := by decide +kernel
theorem d_M_calc_74 : decode b_M_calc 74 = .ok (.invokevirtual 122, 3) := by decide +kernel
theorem d_M_calc_77 : decode b_M_calc 77 = .ok (.lsub, 1) := by decide +kernel
theorem d_M_calc_78 : decode b_M_calc 78 = .ok (.invokevirtual 132, 3) := by decide +kernel
theorem d_M_calc_81 : decode b_M_calc 81 = .ok (.ireturn, 1) := by decide +kernel
theorem d_M_calc_82 : decode b_M_calc 82 = .ok (.iload_n 1, 1) := by decide +kernel
theorem d_M_calc_83 : decode b_M_calc 83 = .ok (.iconst 2, 1) := by decide +kernel
theorem d_M_calc_84 : decode b_M_calc 84 = .ok (.if_icmp .ne 10, 3) := by decide +kernel
theorem d_M_calc_87 : decode b_M_calc 87 = .ok (.aload_n 0, 1) := by decide +kernel
theorem d_M_calc_88 : decode b_M_calc 88 = .ok (.iload_n 2, 1) := by decide +kernel
theorem d_M_calc_89 : decode b_M_calc 89 = .ok (.iload_n 3, 1) := by decide +kernel
theorem d_M_calc_90 : decode b_M_calc 90 = .ok (.invokevirtual 295, 3) := by decide +kernel
theorem d_M_calc_93 : decode b_M_calc 93 = .ok (.ireturn, 1) := by decide +kernel
theorem d_M_calc_94 : decode b_M_calc 94 = .ok (.aload_n 0, 1) := by decide +kernel
theorem d_M_calc_95 : decode b_M_calc 95 = .ok (.iload_n 3, 1) := by decide +kernel
theorem d_M_calc_96 : decode b_M_calc 96 = .ok (.invokevirtual 122, 3) := by decide +kernel
theorem d_M_calc_99 : decode b_M_calc 99 = .ok (.ldc2_w 130, 3) := by decide +kernel
theorem d_M_calc_102 : decode b_M_calc 102 = .ok (.ldiv, 1) := by decide +kernel
theorem d_M_calc_103 : decode b_M_calc 103 = .ok (.lstore 4, 2) := by decide +kernel
theorem d_M_calc_105 : decode b_M_calc 105 = .ok (.lload 4, 2) := by decide +kernel
theorem d_M_calc_107 : decode b_M_calc 107 = .ok (.lconst 0, 1) := by decide +kernel
theorem d_M_calc_108 : decode b_M_calc 108 = .ok (.lcmp, 1) := by decide +kernel
theorem d_M_calc_109 : decode b_M_calc 109 = .ok (.ifCond .ne 8, 3) := by decide +kernel
theorem d_M_calc_112 : decode b_M_calc 112 = .ok (.bipush (-2), 2) := by decide +kernel
theorem d_M_calc_114 : decode b_M_calc 114 = .ok (.goto 19, 3) := by decide +kernel
theorem d_M_calc_117 : decode b_M_calc 117 = .ok (.aload_n 0, 1) := by decide +kernel
theorem d_M_calc_118 : decode b_M_calc 118 = .ok (.aload_n 0, 1) := by decide +kernel
theorem d_M_calc_119 : decode b_M_calc 119 = .ok (.iload_n 2, 1) := by decide +kernel
theorem d_M_calc_120 : decode b_M_calc 120 = .ok (.invokevirtual 122, 3) := by decide +kernel
theorem d_M_calc_123 : decode b_M_calc 123 = .ok (.ldc2_w 130, 3) := by decide +kernel
theorem d_M_calc_126 : decode b_M_calc 126 = .ok (.ldiv, 1) := by decide +kernel
theorem d_M_calc_127 : decode b_M_calc 127 = .ok (.lload 4, 2) := by decide +kernel
theorem d_M_calc_129 : decode b_M_calc 129 = .ok (.lrem, 1) := by decide +kernel
theorem d_M_calc_130 : decode b_M_calc 130 = .ok (.invokevirtual 202, 3) := by decide +kernel
theorem d_M_calc_133 : decode b_M_calc 133 = .ok (.ireturn, 1) := by decide +kernel
theorem d_M_compared_0 : decode b_M_compared 0 = .ok (.aload_n 0, 1) := by decide +kernel
theorem d_M_compared_1 : decode b_M_compared 1 = .ok (.iload_n 2, 1) := by decide +kernel
theorem d_M_compared_2 : decode b_M_compared 2 = .ok (.iload_n 3, 1) := by decide +kernel
theorem d_M_compared_3 : decode b_M_compared 3 = .ok (.invokevirtual 168, 3) := by decide +kernel
theorem d_M_compared_6 : decode b_M_compared 6 = .ok (.istore 4, 2) := by decide +kernel
theorem d_M_compared_8 : decode b_M_compared 8 = .ok (.iload_n 1, 1) := by decide +kernel
theorem d_M_compared_9 : decode b_M_compared 9 = .ok (.ifCond .ne 16, 3) := by decide +kernel
theorem d_M_compared_12 : decode b_M_compared 12 = .ok (.iload 4, 2) := by decide +kernel
theorem d_M_compared_14 : decode b_M_compared 14 = .ok (.ifCond .ne 7, 3) := by decide +kernel
theorem d_M_compared_17 : decode b_M_compared 17 = .ok (.iconst 1, 1) := by decide +kernel
theorem d_M_compared_18 : decode b_M_compared 18 = .ok (.goto 89, 3) := by decide +kernel
theorem d_M_compared_21 : decode b_M_compared 21 = .ok (.iconst 0, 1) := by decide +kernel
theorem d_M_compared_22 : decode b_M_compared 22 = .ok (.goto 85, 3) := by decide +kernel
theorem d_M_compared_25 : decode b_M_compared 25 = .ok (.iload_n 1, 1) := by decide +kernel
theorem d_M_compared_26 : decode b_M_compared 26 = .ok (.iconst 1, 1) := by decide +kernel
theorem d_M_compared_27 : decode b_M_compared 27 = .ok (.if_icmp .ne 16, 3) := by decide +kernel
theorem d_M_compared_30 : decode b_M_compared 30 = .ok (.iload 4, 2) := by decide +kernel
theorem d_M_compared_32 : decode b_M_compared 32 = .ok (.ifCond .eq 7, 3) := by decide +kernel
theorem d_M_compared_35 : decode b_M_compared 35 = .ok (.iconst 1, 1) := by decide +kernel
theorem d_M_compared_36 : decode b_M_compared 36 = .ok (.goto 71, 3) := by decide +kernel
theorem d_M_compared_39 : decode b_M_compared 39 = .ok (.iconst 0, 1) := by decide +kernel
theorem d_M_compared_40 : decode b_M_compared 40 = .ok (.goto 67, 3) := by decide +kernel
theorem d_M_compared_43 : decode b_M_compared 43 = .ok (.iload_n 1, 1) := by decide +kernel
theorem d_M_compared_44 : decode b_M_compared 44 = .ok (.iconst 2, 1) := by decide +kernel
theorem d_M_compared_45 : decode b_M_compared 45 = .ok (.if_icmp .ne 16, 3) := by decide +kernel
theorem d_M_compared_48 : decode b_M_compared 48 = .ok (.iload 4, 2) := by decide +kernel
theorem d_M_compared_50 : decode b_M_compared 50 = .ok (.ifCond .ge 7, 3) := by decide +kernel
theorem d_M_compared_53 : decode b_M_compared 53 = .ok (.iconst 1, 1) := by decide +kernel
theorem d_M_compared_54 : decode b_M_compared 54 = .ok (.goto 53, 3) := by decide +kernel
theorem d_M_compared_57 : decode b_M_compared 57 = .ok (.iconst 0, 1) := by decide +kernel
theorem d_M_compared_58 : decode b_M_compared 58 = .ok (.goto 49, 3) := by decide +kernel
theorem d_M_compared_61 : decode b_M_compared 61 = .ok (.iload_n 1, 1) := by decide +kernel
theorem d_M_compared_62 : decode b_M_compared 62 = .ok (.iconst 3, 1) := by decide +kernel
theorem d_M_compared_63 : decode b_M_compared 63 = .ok (.if_icmp .ne 16, 3) := by decide +kernel
theorem d_M_compared_66 : decode b_M_compared 66 = .ok (.iload 4, 2) := by decide +kernel
theorem d_M_compared_68 : decode b_M_compared 68 = .ok (.ifCond .gt 7, 3) := by decide +kernel
theorem d_M_compared_71 : decode b_M_compared 71 = .ok (.iconst 1, 1) := by decide +kernel
theorem d_M_compared_72 : decode b_M_compared 72 = .ok (.goto 35, 3) := by decide +kernel
theorem d_M_compared_75 : decode b_M_compared 75 = .ok (.iconst 0, 1) := by decide +kernel
theorem d_M_compared_76 : decode b_M_compared 76 = .ok (.goto 31, 3) := by decide +kernel
theorem d_M_compared_79 : decode b_M_compared 79 = .ok (.iload_n 1, 1) := by decide +kernel
theorem d_M_compared_80 : decode b_M_compared 80 = .ok (.iconst 4, 1) := by decide +kernel
theorem d_M_compared_81 : decode b_M_compared 81 = .ok (.if_icmp .ne 16, 3) := by decide +kernel
theorem d_M_compared_84 : decode b_M_compared 84 = .ok (.iload 4, 2) := by decide +kernel
theorem d_M_compared_86 : decode b_M_compared 86 = .ok (.ifCond .le 7, 3) := by decide +kernel
theorem d_M_compared_89 : decode b_M_compared 89 = .ok (.iconst 1, 1) := by decide +kernel
theorem d_M_compared_90 : decode b_M_compared 90 = .ok (.goto 17, 3) := by decide +kernel
theorem d_M_compared_93 : decode b_M_compared 93 = .ok (.iconst 0, 1) := by decide +kernel
theorem d_M_compared_94 : decode b_M_compared 94 = .ok (.goto 13, 3) := by decide +kernel
theorem d_M_compared_97 : decode b_M_compared 97 = .ok (.iload 4, 2) := by decide +kernel
theorem d_M_compared_99 : decode b_M_compared 99 = .ok (.ifCond .lt 7, 3) := by decide +kernel
theorem d_M_compared_102 : decode b_M_compared 102 = .ok (.iconst 1, 1) := by decide +kernel
theorem d_M_compared_103 : decode b_M_compared 103 = .ok (.goto 4, 3) := by decide +kernel
theorem d_M_compared_106 : decode b_M_compared 106 = .ok (.iconst 0, 1) := by decide +kernel
theorem d_M_compared_107 : decode b_M_compared 107 = .ok (.istore 5, 2) := by decide +kernel
theorem d_M_compared_109 : decode b_M_compared 109 = .ok (.iload 5, 2) := by decide +kernel
theorem d_M_compared_111 : decode b_M_compared 111 = .ok (.ifCond .eq 8, 3) := by decide +kernel
theorem d_M_compared_114 : decode b_M_compared 114 = .ok (.bipush 12, 2) := by decide +kernel
theorem d_M_compared_116 : decode b_M_compared 116 = .ok (.goto 5, 3) := by decide +kernel
theorem d_M_compared_119 : decode b_M_compared 119 = .ok (.bipush 8, 2) := by decide +kernel
theorem d_M_compared_121 : decode b_M_compared 121 = .ok (.ireturn, 1) := by decide +kernel
theorem d_M_first_0 : decode b_M_first 0 = .ok (.iload_n 2, 1) := by decide +kernel
theorem d_M_first_1 : decode b_M_first 1 = .ok (.bipush 12, 2) := by decide +kernel
theorem d_M_first_3 : decode b_M_first 3 = .ok (.if_icmp .eq 15, 3) := by decide +kernel
theorem d_M_first_6 : decode b_M_first 6 = .ok (.iload_n 2, 1) := by decide +kernel
theorem d_M_first_7 : decode b_M_first 7 = .ok (.bipush 13, 2) := by decide +kernel
theorem d_M_first_9 : decode b_M_first 9 = .ok (.if_icmp .eq 9, 3) := by decide +kernel
theorem d_M_first_12 : decode b_M_first 12 = .ok (.iload_n 2, 1) := by decide +kernel
theorem d_M_first_13 : decode b_M_first 13 = .ok (.bipush 22, 2) := by decide +kernel
theorem d_M_first_15 : decode b_M_first 15 = .ok (.if_icmp .ne 7, 3) := by decide +kernel
theorem d_M_first_18 : decode b_M_first 18 = .ok (.iconst 1, 1) := by decide +kernel
theorem d_M_first_19 : decode b_M_first 19 = .ok (.goto 4, 3) := by decide +kernel
theorem d_M_first_22 : decode b_M_first 22 = .ok (.iconst 0, 1) := by decide +kernel
theorem d_M_first_23 : decode b_M_first 23 = .ok (.istore_n 3, 1) := by decide +kernel
theorem d_M_first_24 : decode b_M_first 24 = .ok (.iload_n 2, 1) := by decide +kernel
theorem d_M_first_25 : decode b_M_first 25 = .ok (.bipush 31, 2) := by decide +kernel
theorem d_M_first_27 : decode b_M_first 27 = .ok (.if_icmp .ne 24, 3) := by decide +kernel
theorem d_M_first_30 : decode b_M_first 30 = .ok (.aload_n 0, 1) := by decide +kernel
theorem d_M_first_31 : decode b_M_first 31 = .ok (.getfield 19, 3) := by decide +kernel
theorem d_M_first_34 : decode b_M_first 34 = .ok (.aload_n 0, 1) := by decide +kernel
theorem d_M_first_35 : decode b_M_first 35 = .ok (.getfield 57, 3) := by decide +kernel
theorem d_M_first_38 : decode b_M_first 38 = .ok (.iload_n 1, 1) := by decide +kernel
theorem d_M_first_39 : decode b_M_first 39 = .ok (.iaload, 1) := by decide +kernel
theorem d_M_first_40 : decode b_M_first 40 = .ok (.iaload, 1) := by decide +kernel
theorem d_M_first_41 : decode b_M_first 41 = .ok (.ifCond .ne 10, 3) := by decide +kernel
theorem d_M_first_44 : decode b_M_first 44 = .ok (.aload_n 0, 1) := by decide +kernel
theorem d_M_first_45 : decode b_M_first 45 = .ok (.iload_n 1, 1) := by decide +kernel
theorem d_M_first_46 : decode b_M_first 46 = .ok (.iconst 0, 1) := by decide +kernel
theorem d_M_first_47 : decode b_M_first 47 = .ok (.invokevirtual 205, 3) := by decide +kernel
theorem d_M_first_50 : decode b_M_first 50 = .ok (.return_, 1) := by decide +kernel
theorem d_M_first_51 : decode b_M_first 51 = .ok (.aload_n 0, 1) := by decide +kernel
theorem d_M_first_52 : decode b_M_first 52 = .ok (.iload_n 1, 1) := by decide +kernel
theorem d_M_first_53 : decode b_M_first 53 = .ok (.iload_n 3, 1) := by decide +kernel
theorem d_M_first_54 : decode b_M_first 54 = .ok (.ifCond .eq 7, 3) := by decide +kernel
theorem d_M_first_57 : decode b_M_first 57 = .ok (.iconst 1, 1) := by decide +kernel
theorem d_M_first_58 : decode b_M_first 58 = .ok (.goto 4, 3) := by decide +kernel
theorem d_M_first_61 : decode b_M_first 61 = .ok (.iconst 0, 1) := by decide +kernel
theorem d_M_first_62 : decode b_M_first 62 = .ok (.aload_n 0, 1) := by decide +kernel
theorem d_M_first_63 : decode b_M_first 63 = .ok (.getfield 60, 3) := by decide +kernel
theorem d_M_first_66 : decode b_M_first 66 = .ok (.iload_n 1, 1) := by decide +kernel
theorem d_M_first_67 : decode b_M_first 67 = .ok (.iaload, 1) := by decide +kernel
theorem d_M_first_68 : decode b_M_first 68 = .ok (.iconst 1, 1) := by decide +kernel
theorem d_M_first_69 : decode b_M_first 69 = .ok (.invokevirtual 298, 3) := by decide +kernel
theorem d_M_first_72 : decode b_M_first 72 = .ok (.return_, 1) := by decide +kernel
theorem d_M_came_0 : decode b_M_came 0 = .ok (.iload_n 2, 1) := by decide +kernel
theorem d_M_came_1 : decode b_M_came 1 = .ok (.lookupswitch 316 #[(5, 59), (9, 99), (18, 130), (19, 165), (22, 239), (31, 297)], 59) := by decide +kernel
theorem d_M_came_60 : decode b_M_came 60 = .ok (.aload_n 0, 1) := by decide +kernel
theorem d_M_came_61 : decode b_M_came 61 = .ok (.iload_n 1, 1) := by decide +kernel
theorem d_M_came_62 : decode b_M_came 62 = .ok (.invokevirtual 226, 3) := by decide +kernel
theorem d_M_came_65 : decode b_M_came 65 = .ok (.aload_n 0, 1) := by decide +kernel
theorem d_M_came_66 : decode b_M_came 66 = .ok (.getfield 199, 3) := by decide +kernel
theorem d_M_came_69 : decode b_M_came 69 = .ok (.ifCond .le 15, 3) := by decide +kernel
theorem d_M_came_72 : decode b_M_came 72 = .ok (.aload_n 0, 1) := by decide +kernel
theorem d_M_came_73 : decode b_M_came 73 = .ok (.iload_n 1, 1) := by decide +kernel
theorem d_M_came_74 : decode b_M_came 74 = .ok (.aload_n 0, 1) := by decide +kernel
theorem d_M_came_75 : decode b_M_came 75 = .ok (.getfield 199, 3) := by decide +kernel
theorem d_M_came_78 : decode b_M_came 78 = .ok (.invokevirtual 205, 3) := by decide +kernel
theorem d_M_came_81 : decode b_M_came 81 = .ok (.goto 241, 3) := by decide +kernel
theorem d_M_came_84 : decode b_M_came 84 = .ok (.aload_n 0, 1) := by decide +kernel
theorem d_M_came_85 : decode b_M_came 85 = .ok (.iload_n 1, 1) := by decide +kernel
theorem d_M_came_86 : decode b_M_came 86 = .ok (.iconst 1, 1) := by decide +kernel
theorem d_M_came_87 : decode b_M_came 87 = .ok (.aload_n 0, 1) := by decide +kernel
theorem d_M_came_88 : decode b_M_came 88 = .ok (.getfield 60, 3) := by decide +kernel
theorem d_M_came_91 : decode b_M_came 91 = .ok (.iload_n 1, 1) := by decide +kernel
theorem d_M_came_92 : decode b_M_came 92 = .ok (.iaload, 1) := by decide +kernel
theorem d_M_came_93 : decode b_M_came 93 = .ok (.iconst 4, 1) := by decide +kernel
theorem d_M_came_94 : decode b_M_came 94 = .ok (.invokevirtual 298, 3) := by decide +kernel
theorem d_M_came_97 : decode b_M_came 97 = .ok (.goto 225, 3) := by decide +kernel
theorem d_M_came_100 : decode b_M_came 100 = .ok (.aload_n 0, 1) := by decide +kernel
theorem d_M_came_101 : decode b_M_came 101 = .ok (.getfield 199, 3) := by decide +kernel
theorem d_M_came_104 : decode b_M_came 104 = .ok (.ifCond .le 15, 3) := by decide +kernel
theorem d_M_came_107 : decode b_M_came 107 = .ok (.aload_n 0, 1) := by decide +kernel
theorem d_M_came_108 : decode b_M_came 108 = .ok (.iload_n 1, 1) := by decide +kernel
theorem d_M_came_109 : decode b_M_came 109 = .ok (.aload_n 0, 1) := by decide +kernel
theorem d_M_came_110 : decode b_M_came 110 = .ok (.getfield 199, 3) := by decide +kernel
theorem d_M_came_113 : decode b_M_came 113 = .ok (.invokevirtual 205, 3) := by decide +kernel
theorem d_M_came_116 : decode b_M_came 116 = .ok (.goto 206, 3) := by decide +kernel
theorem d_M_came_119 : decode b_M_came 119 = .ok (.aload_n 0, 1) := by decide +kernel
theorem d_M_came_120 : decode b_M_came 120 = .ok (.iload_n 1, 1) := by decide +kernel
theorem d_M_came_121 : decode b_M_came 121 = .ok (.aload_n 0, 1) := by decide +kernel
theorem d_M_came_122 : decode b_M_came 122 = .ok (.invokevirtual 302, 3) := by decide +kernel
theorem d_M_came_125 : decode b_M_came 125 = .ok (.invokevirtual 305, 3) := by decide +kernel
theorem d_M_came_128 : decode b_M_came 128 = .ok (.goto 194, 3) := by decide +kernel
theorem d_M_came_131 : decode b_M_came 131 = .ok (.aload_n 0, 1) := by decide +kernel
theorem d_M_came_132 : decode b_M_came 132 = .ok (.iload_n 1, 1) := by decide +kernel
theorem d_M_came_133 : decode b_M_came 133 = .ok (.invokevirtual 226, 3) := by decide +kernel
theorem d_M_came_136 : decode b_M_came 136 = .ok (.aload_n 0, 1) := by decide +kernel
theorem d_M_came_137 : decode b_M_came 137 = .ok (.getfield 199, 3) := by decide +kernel
theorem d_M_came_140 : decode b_M_came 140 = .ok (.ifCond .le 17, 3) := by decide +kernel
theorem d_M_came_143 : decode b_M_came 143 = .ok (.aload_n 0, 1) := by decide +kernel
theorem d_M_came_144 : decode b_M_came 144 = .ok (.iload_n 1, 1) := by decide +kernel
theorem d_M_came_145 : decode b_M_came 145 = .ok (.iconst 1, 1) := by decide +kernel
theorem d_M_came_146 : decode b_M_came 146 = .ok (.aload_n 0, 1) := by decide +kernel
theorem d_M_came_147 : decode b_M_came 147 = .ok (.getfield 199, 3) := by decide +kernel
theorem d_M_came_150 : decode b_M_came 150 = .ok (.iconst 4, 1) := by decide +kernel
theorem d_M_came_151 : decode b_M_came 151 = .ok (.invokevirtual 298, 3) := by decide +kernel
theorem d_M_came_154 : decode b_M_came 154 = .ok (.goto 168, 3) := by decide +kernel
theorem d_M_came_157 : decode b_M_came 157 = .ok (.aload_n 0, 1) := by decide +kernel
theorem d_M_came_158 : decode b_M_came 158 = .ok (.iload_n 1, 1) := by decide +kernel
theorem d_M_came_159 : decode b_M_came 159 = .ok (.iconst 0, 1) := by decide +kernel
theorem d_M_came_160 : decode b_M_came 160 = .ok (.invokevirtual 205, 3) := by decide +kernel
theorem d_M_came_163 : decode b_M_came 163 = .ok (.goto 159, 3) := by decide +kernel
theorem d_M_came_166 : decode b_M_came 166 = .ok (.iconst 0, 1) := by decide +kernel
theorem d_M_came_167 : decode b_M_came 167 = .ok (.istore_n 3, 1) := by decide +kernel
theorem d_M_came_168 : decode b_M_came 168 = .ok (.iload_n 3, 1) := by decide +kernel
theorem d_M_came_169 : decode b_M_came 169 = .ok (.aload_n 0, 1) := by decide +kernel
theorem d_M_came_170 : decode b_M_came 170 = .ok (.getfield 196, 3) := by decide +kernel
theorem d_M_came_173 : decode b_M_came 173 = .ok (.if_icmp .ge 33, 3) := by decide +kernel
theorem d_M_came_176 : decode b_M_came 176 = .ok (.aload_n 0, 1) := by decide +kernel
theorem d_M_came_177 : decode b_M_came 177 = .ok (.aload_n 0, 1) := by decide +kernel
theorem d_M_came_178 : decode b_M_came 178 = .ok (.getfield 90, 3) := by decide +kernel
theorem d_M_came_181 : decode b_M_came 181 = .ok (.iload_n 3, 1) := by decide +kernel
theorem d_M_came_182 : decode b_M_came 182 = .ok (.iaload, 1) := by decide +kernel
theorem d_M_came_183 : decode b_M_came 183 = .ok (.invokevirtual 245, 3) := by decide +kernel
theorem d_M_came_186 : decode b_M_came 186 = .ok (.ifCond .eq 14, 3) := by decide +kernel
theorem d_M_came_189 : decode b_M_came 189 = .ok (.aload_n 0, 1) := by decide +kernel
theorem d_M_came_190 : decode b_M_came 190 = .ok (.iload_n 1, 1) := by decide +kernel
theorem d_M_came_191 : decode b_M_came 191 = .ok (.aload_n 0, 1) := by decide +kernel
theorem d_M_came_192 : decode b_M_came 192 = .ok (.getfield 90, 3) := by decide +kernel
theorem d_M_came_195 : decode b_M_came 195 = .ok (.iload_n 3, 1) := by decide +kernel
theorem d_M_came_196 : decode b_M_came 196 = .ok (.iaload, 1) := by decide +kernel
theorem d_M_came_197 : decode b_M_came 197 = .ok (.invokevirtual 208, 3) := by decide +kernel
theorem d_M_came_200 : decode b_M_came 200 = .ok (.iinc 3 1, 3) := by decide +kernel
theorem d_M_came_203 : decode b_M_came 203 = .ok (.goto (-35), 3) := by decide +kernel
theorem d_M_came_206 : decode b_M_came 206 = .ok (.aload_n 0, 1) := by decide +kernel
theorem d_M_came_207 : decode b_M_came 207 = .ok (.getfield 84, 3) := by decide +kernel
theorem d_M_came_210 : decode b_M_came 210 = .ok (.iload_n 1, 1) := by decide +kernel
theorem d_M_came_211 : decode b_M_came 211 = .ok (.iaload, 1) := by decide +kernel
theorem d_M_came_212 : decode b_M_came 212 = .ok (.ifCond .ne 19, 3) := by decide +kernel
theorem d_M_came_215 : decode b_M_came 215 = .ok (.aload_n 0, 1) := by decide +kernel
theorem d_M_came_216 : decode b_M_came 216 = .ok (.iload_n 1, 1) := by decide +kernel
theorem d_M_came_217 : decode b_M_came 217 = .ok (.iconst 1, 1) := by decide +kernel
theorem d_M_came_218 : decode b_M_came 218 = .ok (.aload_n 0, 1) := by decide +kernel
theorem d_M_came_219 : decode b_M_came 219 = .ok (.getfield 60, 3) := by decide +kernel
theorem d_M_came_222 : decode b_M_came 222 = .ok (.iload_n 1, 1) := by decide +kernel
theorem d_M_came_223 : decode b_M_came 223 = .ok (.iaload, 1) := by decide +kernel
theorem d_M_came_224 : decode b_M_came 224 = .ok (.iconst 4, 1) := by decide +kernel
theorem d_M_came_225 : decode b_M_came 225 = .ok (.invokevirtual 298, 3) := by decide +kernel
theorem d_M_came_228 : decode b_M_came 228 = .ok (.goto 94, 3) := by decide +kernel
theorem d_M_came_231 : decode b_M_came 231 = .ok (.aload_n 0, 1) := by decide +kernel
theorem d_M_came_232 : decode b_M_came 232 = .ok (.iload_n 1, 1) := by decide +kernel
theorem d_M_came_233 : decode b_M_came 233 = .ok (.iconst 0, 1) := by decide +kernel
theorem d_M_came_234 : decode b_M_came 234 = .ok (.invokevirtual 205, 3) := by decide +kernel
theorem d_M_came_237 : decode b_M_came 237 = .ok (.goto 85, 3) := by decide +kernel
theorem d_M_came_240 : decode b_M_came 240 = .ok (.aload_n 0, 1) := by decide +kernel
theorem d_M_came_241 : decode b_M_came 241 = .ok (.getfield 75, 3) := by decide +kernel
theorem d_M_came_244 : decode b_M_came 244 = .ok (.iload_n 1, 1) := by decide +kernel
theorem d_M_came_245 : decode b_M_came 245 = .ok (.aload_n 0, 1) := by decide +kernel
theorem d_M_came_246 : decode b_M_came 246 = .ok (.getfield 196, 3) := by decide +kernel
theorem d_M_came_249 : decode b_M_came 249 = .ok (.ifCond .le 12, 3) := by decide +kernel
theorem d_M_came_252 : decode b_M_came 252 = .ok (.aload_n 0, 1) := by decide +kernel
theorem d_M_came_253 : decode b_M_came 253 = .ok (.getfield 90, 3) := by decide +kernel
theorem d_M_came_256 : decode b_M_came 256 = .ok (.iconst 0, 1) := by decide +kernel
theorem d_M_came_257 : decode b_M_came 257 = .ok (.iaload, 1) := by decide +kernel
theorem d_M_came_258 : decode b_M_came 258 = .ok (.goto 4, 3) := by decide +kernel
theorem d_M_came_261 : decode b_M_came 261 = .ok (.iconst 4, 1) := by decide +kernel
theorem d_M_came_262 : decode b_M_came 262 = .ok (.iastore, 1) := by decide +kernel
theorem d_M_came_263 : decode b_M_came 263 = .ok (.aload_n 0, 1) := by decide +kernel
theorem d_M_came_264 : decode b_M_came 264 = .ok (.getfield 199, 3) := by decide +kernel
theorem d_M_came_267 : decode b_M_came 267 = .ok (.ifCond .le 15, 3) := by decide +kernel
theorem d_M_came_270 : decode b_M_came 270 = .ok (.aload_n 0, 1) := by decide +kernel
theorem d_M_came_271 : decode b_M_came 271 = .ok (.iload_n 1, 1) := by decide +kernel
theorem d_M_came_272 : decode b_M_came 272 = .ok (.aload_n 0, 1) := by decide +kernel
theorem d_M_came_273 : decode b_M_came 273 = .ok (.getfield 199, 3) := by decide +kernel
theorem d_M_came_276 : decode b_M_came 276 = .ok (.invokevirtual 205, 3) := by decide +kernel
theorem d_M_came_279 : decode b_M_came 279 = .ok (.goto 43, 3) := by decide +kernel
theorem d_M_came_282 : decode b_M_came 282 = .ok (.aload_n 0, 1) := by decide +kernel
theorem d_M_came_283 : decode b_M_came 283 = .ok (.iload_n 1, 1) := by decide +kernel
theorem d_M_came_284 : decode b_M_came 284 = .ok (.iconst 0, 1) := by decide +kernel
theorem d_M_came_285 : decode b_M_came 285 = .ok (.aload_n 0, 1) := by decide +kernel
theorem d_M_came_286 : decode b_M_came 286 = .ok (.getfield 60, 3) := by decide +kernel
theorem d_M_came_289 : decode b_M_came 289 = .ok (.iload_n 1, 1) := by decide +kernel
theorem d_M_came_290 : decode b_M_came 290 = .ok (.iaload, 1) := by decide +kernel
theorem d_M_came_291 : decode b_M_came 291 = .ok (.iconst 5, 1) := by decide +kernel
theorem d_M_came_292 : decode b_M_came 292 = .ok (.invokevirtual 298, 3) := by decide +kernel
theorem d_M_came_295 : decode b_M_came 295 = .ok (.goto 27, 3) := by decide +kernel
theorem d_M_came_298 : decode b_M_came 298 = .ok (.aload_n 0, 1) := by decide +kernel
theorem d_M_came_299 : decode b_M_came 299 = .ok (.iload_n 1, 1) := by decide +kernel
theorem d_M_came_300 : decode b_M_came 300 = .ok (.aload_n 0, 1) := by decide +kernel
theorem d_M_came_301 : decode b_M_came 301 = .ok (.getfield 19, 3) := by decide +kernel
theorem d_M_came_304 : decode b_M_came 304 = .ok (.aload_n 0, 1) := by decide +kernel
theorem d_M_came_305 : decode b_M_came 305 = .ok (.getfield 57, 3) := by decide +kernel
theorem d_M_came_308 : decode b_M_came 308 = .ok (.iload_n 1, 1) := by decide +kernel
theorem d_M_came_309 : decode b_M_came 309 = .ok (.iaload, 1) := by decide +kernel
theorem d_M_came_310 : decode b_M_came 310 = .ok (.iaload, 1) := by decide +kernel
theorem d_M_came_311 : decode b_M_came 311 = .ok (.invokevirtual 308, 3) := by decide +kernel
theorem d_M_came_314 : decode b_M_came 314 = .ok (.goto 8, 3) := by decide +kernel
theorem d_M_came_317 : decode b_M_came 317 = .ok (.aload_n 0, 1) := by decide +kernel
theorem d_M_came_318 : decode b_M_came 318 = .ok (.iload_n 1, 1) := by decide +kernel
theorem d_M_came_319 : decode b_M_came 319 = .ok (.invokevirtual 311, 3) := by decide +kernel
theorem d_M_came_322 : decode b_M_came 322 = .ok (.return_, 1) := by decide +kernel
theorem d_M_arrayOfGot_0 : decode b_M_arrayOfGot 0 = .ok (.aload_n 0, 1) := by decide +kernel
theorem d_M_arrayOfGot_1 : decode b_M_arrayOfGot 1 = .ok (.getfield 196, 3) := by decide +kernel
theorem d_M_arrayOfGot_4 : decode b_M_arrayOfGot 4 = .ok (.bipush 12, 2) := by decide +kernel
theorem d_M_arrayOfGot_6 : decode b_M_arrayOfGot 6 = .ok (.if_icmp .le 8, 3) := by decide +kernel
theorem d_M_arrayOfGot_9 : decode b_M_arrayOfGot 9 = .ok (.aload_n 0, 1) := by decide +kernel
theorem d_M_arrayOfGot_10 : decode b_M_arrayOfGot 10 = .ok (.invokevirtual 114, 3) := by decide +kernel
theorem d_M_arrayOfGot_13 : decode b_M_arrayOfGot 13 = .ok (.ireturn, 1) := by decide +kernel
theorem d_M_arrayOfGot_14 : decode b_M_arrayOfGot 14 = .ok (.iconst 0, 1) := by decide +kernel
theorem d_M_arrayOfGot_15 : decode b_M_arrayOfGot 15 = .ok (.istore_n 1, 1) := by decide +kernel
theorem d_M_arrayOfGot_16 : decode b_M_arrayOfGot 16 = .ok (.iload_n 1, 1) := by decide +kernel
theorem d_M_arrayOfGot_17 : decode b_M_arrayOfGot 17 = .ok (.aload_n 0, 1) := by decide +kernel
theorem d_M_arrayOfGot_18 : decode b_M_arrayOfGot 18 = .ok (.getfield 196, 3) := by decide +kernel
theorem d_M_arrayOfGot_21 : decode b_M_arrayOfGot 21 = .ok (.if_icmp .ge 21, 3) := by decide +kernel
theorem d_M_arrayOfGot_24 : decode b_M_arrayOfGot 24 = .ok (.aload_n 0, 1) := by decide +kernel
theorem d_M_arrayOfGot_25 : decode b_M_arrayOfGot 25 = .ok (.getfield 42, 3) := by decide +kernel
theorem d_M_arrayOfGot_28 : decode b_M_arrayOfGot 28 = .ok (.iload_n 1, 1) := by decide +kernel
theorem d_M_arrayOfGot_29 : decode b_M_arrayOfGot 29 = .ok (.aload_n 0, 1) := by decide +kernel
theorem d_M_arrayOfGot_30 : decode b_M_arrayOfGot 30 = .ok (.getfield 90, 3) := by decide +kernel
theorem d_M_arrayOfGot_33 : decode b_M_arrayOfGot 33 = .ok (.iload_n 1, 1) := by decide +kernel
theorem d_M_arrayOfGot_34 : decode b_M_arrayOfGot 34 = .ok (.iaload, 1) := by decide +kernel
theorem d_M_arrayOfGot_35 : decode b_M_arrayOfGot 35 = .ok (.iastore, 1) := by decide +kernel
theorem d_M_arrayOfGot_36 : decode b_M_arrayOfGot 36 = .ok (.iinc 1 1, 3) := by decide +kernel
theorem d_M_arrayOfGot_39 : decode b_M_arrayOfGot 39 = .ok (.goto (-23), 3) := by decide +kernel
theorem d_M_arrayOfGot_42 : decode b_M_arrayOfGot 42 = .ok (.aload_n 0, 1) := by decide +kernel
theorem d_M_arrayOfGot_43 : decode b_M_arrayOfGot 43 = .ok (.aload_n 0, 1) := by decide +kernel
theorem d_M_arrayOfGot_44 : decode b_M_arrayOfGot 44 = .ok (.getfield 196, 3) := by decide +kernel
theorem d_M_arrayOfGot_47 : decode b_M_arrayOfGot 47 = .ok (.invokevirtual 242, 3) := by decide +kernel
theorem d_M_arrayOfGot_50 : decode b_M_arrayOfGot 50 = .ok (.ireturn, 1) := by decide +kernel
theorem d_M_finish_0 : decode b_M_finish 0 = .ok (.aload_n 0, 1) := by decide +kernel
theorem d_M_finish_1 : decode b_M_finish 1 = .ok (.iload_n 1, 1) := by decide +kernel
theorem d_M_finish_2 : decode b_M_finish 2 = .ok (.iload_n 2, 1) := by decide +kernel
theorem d_M_finish_3 : decode b_M_finish 3 = .ok (.invokevirtual 208, 3) := by decide +kernel
theorem d_M_finish_6 : decode b_M_finish 6 = .ok (.aload_n 0, 1) := by decide +kernel
theorem d_M_finish_7 : decode b_M_finish 7 = .ok (.iload_n 1, 1) := by decide +kernel
theorem d_M_finish_8 : decode b_M_finish 8 = .ok (.iconst 0, 1) := by decide +kernel
theorem d_M_finish_9 : decode b_M_finish 9 = .ok (.invokevirtual 205, 3) := by decide +kernel
theorem d_M_finish_12 : decode b_M_finish 12 = .ok (.return_, 1) := by decide +kernel
theorem d_M_limited_0 : decode b_M_limited 0 = .ok (.iconst 0, 1) := by decide +kernel
theorem d_M_limited_1 : decode b_M_limited 1 = .ok (.istore_n 3, 1) := by decide +kernel
theorem d_M_limited_2 : decode b_M_limited 2 = .ok (.iload_n 3, 1) := by decide +kernel
theorem d_M_limited_3 : decode b_M_limited 3 = .ok (.aload_n 0, 1) := by decide +kernel
theorem d_M_limited_4 : decode b_M_limited 4 = .ok (.getfield 196, 3) := by decide +kernel
theorem d_M_limited_7 : decode b_M_limited 7 = .ok (.if_icmp .ge 25, 3) := by decide +kernel
theorem d_M_limited_10 : decode b_M_limited 10 = .ok (.iload_n 3, 1) := by decide +kernel
theorem d_M_limited_11 : decode b_M_limited 11 = .ok (.iload_n 2, 1) := by decide +kernel
theorem d_M_limited_12 : decode b_M_limited 12 = .ok (.if_icmp .ge 20, 3) := by decide +kernel
theorem d_M_limited_15 : decode b_M_limited 15 = .ok (.aload_n 0, 1) := by decide +kernel
theorem d_M_limited_16 : decode b_M_limited 16 = .ok (.iload_n 1, 1) := by decide +kernel
theorem d_M_limited_17 : decode b_M_limited 17 = .ok (.aload_n 0, 1) := by decide +kernel
theorem d_M_limited_18 : decode b_M_limited 18 = .ok (.getfield 90, 3) := by decide +kernel
theorem d_M_limited_21 : decode b_M_limited 21 = .ok (.iload_n 3, 1) := by decide +kernel
theorem d_M_limited_22 : decode b_M_limited 22 = .ok (.iaload, 1) := by decide +kernel
theorem d_M_limited_23 : decode b_M_limited 23 = .ok (.invokevirtual 208, 3) := by decide +kernel
theorem d_M_limited_26 : decode b_M_limited 26 = .ok (.iinc 3 1, 3) := by decide +kernel
theorem d_M_limited_29 : decode b_M_limited 29 = .ok (.goto (-27), 3) := by decide +kernel
theorem d_M_limited_32 : decode b_M_limited 32 = .ok (.aload_n 0, 1) := by decide +kernel
theorem d_M_limited_33 : decode b_M_limited 33 = .ok (.iload_n 1, 1) := by decide +kernel
theorem d_M_limited_34 : decode b_M_limited 34 = .ok (.aload_n 0, 1) := by decide +kernel
theorem d_M_limited_35 : decode b_M_limited 35 = .ok (.getfield 196, 3) := by decide +kernel
theorem d_M_limited_38 : decode b_M_limited 38 = .ok (.iload_n 2, 1) := by decide +kernel
theorem d_M_limited_39 : decode b_M_limited 39 = .ok (.if_icmp .ge 10, 3) := by decide +kernel
theorem d_M_limited_42 : decode b_M_limited 42 = .ok (.aload_n 0, 1) := by decide +kernel
theorem d_M_limited_43 : decode b_M_limited 43 = .ok (.getfield 199, 3) := by decide +kernel
theorem d_M_limited_46 : decode b_M_limited 46 = .ok (.goto 4, 3) := by decide +kernel
theorem d_M_limited_49 : decode b_M_limited 49 = .ok (.iconst 0, 1) := by decide +kernel
theorem d_M_limited_50 : decode b_M_limited 50 = .ok (.invokevirtual 205, 3) := by decide +kernel
theorem d_M_limited_53 : decode b_M_limited 53 = .ok (.return_, 1) := by decide +kernel
theorem d_M_next_0 : decode b_M_next 0 = .ok (.aload_n 0, 1) := by decide +kernel
theorem d_M_next_1 : decode b_M_next 1 = .ok (.getfield 66, 3) := by decide +kernel
theorem d_M_next_4 : decode b_M_next 4 = .ok (.iload_n 1, 1) := by decide +kernel
theorem d_M_next_5 : decode b_M_next 5 = .ok (.iaload, 1) := by decide +kernel
theorem d_M_next_6 : decode b_M_next 6 = .ok (.aload_n 0, 1) := by decide +kernel
theorem d_M_next_7 : decode b_M_next 7 = .ok (.getfield 69, 3) := by decide +kernel
theorem d_M_next_10 : decode b_M_next 10 = .ok (.iload_n 1, 1) := by decide +kernel
theorem d_M_next_11 : decode b_M_next 11 = .ok (.iaload, 1) := by decide +kernel
theorem d_M_next_12 : decode b_M_next 12 = .ok (.if_icmp .ne 10, 3) := by decide +kernel
theorem d_M_next_15 : decode b_M_next 15 = .ok (.aload_n 0, 1) := by decide +kernel
theorem d_M_next_16 : decode b_M_next 16 = .ok (.iload_n 1, 1) := by decide +kernel
theorem d_M_next_17 : decode b_M_next 17 = .ok (.iload_n 2, 1) := by decide +kernel
theorem d_M_next_18 : decode b_M_next 18 = .ok (.invokevirtual 314, 3) := by decide +kernel
theorem d_M_next_21 : decode b_M_next 21 = .ok (.return_, 1) := by decide +kernel
theorem d_M_next_22 : decode b_M_next 22 = .ok (.aload_n 0, 1) := by decide +kernel
theorem d_M_next_23 : decode b_M_next 23 = .ok (.getfield 81, 3) := by decide +kernel
theorem d_M_next_26 : decode b_M_next 26 = .ok (.bipush 17, 2) := by decide +kernel
theorem d_M_next_28 : decode b_M_next 28 = .ok (.iload_n 1, 1) := by decide +kernel
theorem d_M_next_29 : decode b_M_next 29 = .ok (.imul, 1) := by decide +kernel
theorem d_M_next_30 : decode b_M_next 30 = .ok (.aload_n 0, 1) := by decide +kernel
theorem d_M_next_31 : decode b_M_next 31 = .ok (.getfield 66, 3) := by decide +kernel
theorem d_M_next_34 : decode b_M_next 34 = .ok (.iload_n 1, 1) := by decide +kernel
theorem d_M_next_35 : decode b_M_next 35 = .ok (.iaload, 1) := by decide +kernel
theorem d_M_next_36 : decode b_M_next 36 = .ok (.iadd, 1) := by decide +kernel
theorem d_M_next_37 : decode b_M_next 37 = .ok (.iaload, 1) := by decide +kernel
theorem d_M_next_38 : decode b_M_next 38 = .ok (.istore_n 3, 1) := by decide +kernel
theorem d_M_next_39 : decode b_M_next 39 = .ok (.aload_n 0, 1) := by decide +kernel
theorem d_M_next_40 : decode b_M_next 40 = .ok (.getfield 19, 3) := by decide +kernel
theorem d_M_next_43 : decode b_M_next 43 = .ok (.aload_n 0, 1) := by decide +kernel
theorem d_M_next_44 : decode b_M_next 44 = .ok (.getfield 57, 3) := by decide +kernel
theorem d_M_next_47 : decode b_M_next 47 = .ok (.iload_n 1, 1) := by decide +kernel
theorem d_M_next_48 : decode b_M_next 48 = .ok (.iaload, 1) := by decide +kernel
theorem d_M_next_49 : decode b_M_next 49 = .ok (.iaload, 1) := by decide +kernel
theorem d_M_next_50 : decode b_M_next 50 = .ok (.istore 4, 2) := by decide +kernel
theorem d_M_next_52 : decode b_M_next 52 = .ok (.aload_n 0, 1) := by decide +kernel
theorem d_M_next_53 : decode b_M_next 53 = .ok (.getfield 60, 3) := by decide +kernel
theorem d_M_next_56 : decode b_M_next 56 = .ok (.iload_n 1, 1) := by decide +kernel
theorem d_M_next_57 : decode b_M_next 57 = .ok (.iaload, 1) := by decide +kernel
theorem d_M_next_58 : decode b_M_next 58 = .ok (.istore 5, 2) := by decide +kernel
theorem d_M_next_60 : decode b_M_next 60 = .ok (.iload_n 2, 1) := by decide +kernel
theorem d_M_next_61 : decode b_M_next 61 = .ok (.tableswitch 320 4 33 #[135, 320, 320, 320, 320, 320, 320, 320, 146, 146, 158, 158, 320, 210, 320, 320, 234, 320, 234, 320, 320, 320, 320, 320, 320, 320, 320, 320, 320, 292], 135) := by decide +kernel
theorem d_M_next_196 : decode b_M_next 196 = .ok (.aload_n 0, 1) := by decide +kernel
theorem d_M_next_197 : decode b_M_next 197 = .ok (.iload_n 1, 1) := by decide +kernel
theorem d_M_next_198 : decode b_M_next 198 = .ok (.iconst 1, 1) := by decide +kernel
theorem d_M_next_199 : decode b_M_next 199 = .ok (.iload_n 3, 1) := by decide +kernel
theorem d_M_next_200 : decode b_M_next 200 = .ok (.iconst 3, 1) := by decide +kernel
theorem d_M_next_201 : decode b_M_next 201 = .ok (.invokevirtual 298, 3) := by decide +kernel
theorem d_M_next_204 : decode b_M_next 204 = .ok (.goto 184, 3) := by decide +kernel
theorem d_M_next_207 : decode b_M_next 207 = .ok (.aload_n 0, 1) := by decide +kernel
theorem d_M_next_208 : decode b_M_next 208 = .ok (.iload_n 1, 1) := by decide +kernel
theorem d_M_next_209 : decode b_M_next 209 = .ok (.iconst 0, 1) := by decide +kernel
theorem d_M_next_210 : decode b_M_next 210 = .ok (.iload 5, 2) := by decide +kernel
theorem d_M_next_212 : decode b_M_next 212 = .ok (.iconst 3, 1) := by decide +kernel
theorem d_M_next_213 : decode b_M_next 213 = .ok (.invokevirtual 298, 3) := by decide +kernel
theorem d_M_next_216 : decode b_M_next 216 = .ok (.goto 172, 3) := by decide +kernel
theorem d_M_next_219 : decode b_M_next 219 = .ok (.aload_n 0, 1) := by decide +kernel
theorem d_M_next_220 : decode b_M_next 220 = .ok (.iload_n 3, 1) := by decide +kernel
theorem d_M_next_221 : decode b_M_next 221 = .ok (.invokevirtual 245, 3) := by decide +kernel
theorem d_M_next_224 : decode b_M_next 224 = .ok (.iload_n 2, 1) := by decide +kernel
theorem d_M_next_225 : decode b_M_next 225 = .ok (.bipush 14, 2) := by decide +kernel
theorem d_M_next_227 : decode b_M_next 227 = .ok (.if_icmp .ne 7, 3) := by decide +kernel
theorem d_M_next_230 : decode b_M_next 230 = .ok (.iconst 1, 1) := by decide +kernel
theorem d_M_next_231 : decode b_M_next 231 = .ok (.goto 4, 3) := by decide +kernel
theorem d_M_next_234 : decode b_M_next 234 = .ok (.iconst 0, 1) := by decide +kernel
theorem d_M_next_235 : decode b_M_next 235 = .ok (.if_icmp .ne 15, 3) := by decide +kernel
theorem d_M_next_238 : decode b_M_next 238 = .ok (.aload_n 0, 1) := by decide +kernel
theorem d_M_next_239 : decode b_M_next 239 = .ok (.iload_n 1, 1) := by decide +kernel
theorem d_M_next_240 : decode b_M_next 240 = .ok (.iconst 1, 1) := by decide +kernel
theorem d_M_next_241 : decode b_M_next 241 = .ok (.iload 5, 2) := by decide +kernel
theorem d_M_next_243 : decode b_M_next 243 = .ok (.iconst 3, 1) := by decide +kernel
theorem d_M_next_244 : decode b_M_next 244 = .ok (.invokevirtual 298, 3) := by decide +kernel
theorem d_M_next_247 : decode b_M_next 247 = .ok (.goto 141, 3) := by decide +kernel
theorem d_M_next_250 : decode b_M_next 250 = .ok (.aload_n 0, 1) := by decide +kernel
theorem d_M_next_251 : decode b_M_next 251 = .ok (.iload_n 1, 1) := by decide +kernel
theorem d_M_next_252 : decode b_M_next 252 = .ok (.iload_n 2, 1) := by decide +kernel
theorem d_M_next_253 : decode b_M_next 253 = .ok (.bipush 14, 2) := by decide +kernel
theorem d_M_next_255 : decode b_M_next 255 = .ok (.if_icmp .ne 8, 3) := by decide +kernel
theorem d_M_next_258 : decode b_M_next 258 = .ok (.bipush 8, 2) := by decide +kernel
theorem d_M_next_260 : decode b_M_next 260 = .ok (.goto 5, 3) := by decide +kernel
theorem d_M_next_263 : decode b_M_next 263 = .ok (.bipush 12, 2) := by decide +kernel
theorem d_M_next_265 : decode b_M_next 265 = .ok (.invokevirtual 317, 3) := by decide +kernel
theorem d_M_next_268 : decode b_M_next 268 = .ok (.goto 120, 3) := by decide +kernel
theorem d_M_next_271 : decode b_M_next 271 = .ok (.aload_n 0, 1) := by decide +kernel
theorem d_M_next_272 : decode b_M_next 272 = .ok (.iload_n 1, 1) := by decide +kernel
theorem d_M_next_273 : decode b_M_next 273 = .ok (.aload_n 0, 1) := by decide +kernel
theorem d_M_next_274 : decode b_M_next 274 = .ok (.iload_n 3, 1) := by decide +kernel
theorem d_M_next_275 : decode b_M_next 275 = .ok (.invokevirtual 245, 3) := by decide +kernel
theorem d_M_next_278 : decode b_M_next 278 = .ok (.ifCond .eq 7, 3) := by decide +kernel
theorem d_M_next_281 : decode b_M_next 281 = .ok (.iconst 1, 1) := by decide +kernel
theorem d_M_next_282 : decode b_M_next 282 = .ok (.goto 4, 3) := by decide +kernel
theorem d_M_next_285 : decode b_M_next 285 = .ok (.iconst 2, 1) := by decide +kernel
theorem d_M_next_286 : decode b_M_next 286 = .ok (.iload 5, 2) := by decide +kernel
theorem d_M_next_288 : decode b_M_next 288 = .ok (.iconst 3, 1) := by decide +kernel
theorem d_M_next_289 : decode b_M_next 289 = .ok (.invokevirtual 298, 3) := by decide +kernel
theorem d_M_next_292 : decode b_M_next 292 = .ok (.goto 96, 3) := by decide +kernel
theorem d_M_next_295 : decode b_M_next 295 = .ok (.aload_n 0, 1) := by decide +kernel
theorem d_M_next_296 : decode b_M_next 296 = .ok (.getfield 78, 3) := by decide +kernel
theorem d_M_next_299 : decode b_M_next 299 = .ok (.iload_n 1, 1) := by decide +kernel
theorem d_M_next_300 : decode b_M_next 300 = .ok (.aload_n 0, 1) := by decide +kernel
theorem d_M_next_301 : decode b_M_next 301 = .ok (.getfield 54, 3) := by decide +kernel
theorem d_M_next_304 : decode b_M_next 304 = .ok (.iload 4, 2) := by decide +kernel
theorem d_M_next_306 : decode b_M_next 306 = .ok (.iaload, 1) := by decide +kernel
theorem d_M_next_307 : decode b_M_next 307 = .ok (.iastore, 1) := by decide +kernel
theorem d_M_next_308 : decode b_M_next 308 = .ok (.aload_n 0, 1) := by decide +kernel
theorem d_M_next_309 : decode b_M_next 309 = .ok (.getfield 54, 3) := by decide +kernel
theorem d_M_next_312 : decode b_M_next 312 = .ok (.iload 4, 2) := by decide +kernel
theorem d_M_next_314 : decode b_M_next 314 = .ok (.iload_n 3, 1) := by decide +kernel
theorem d_M_next_315 : decode b_M_next 315 = .ok (.iastore, 1) := by decide +kernel
theorem d_M_next_316 : decode b_M_next 316 = .ok (.aload_n 0, 1) := by decide +kernel
theorem d_M_next_317 : decode b_M_next 317 = .ok (.iload_n 1, 1) := by decide +kernel
theorem d_M_next_318 : decode b_M_next 318 = .ok (.iload_n 2, 1) := by decide +kernel
theorem d_M_next_319 : decode b_M_next 319 = .ok (.bipush 20, 2) := by decide +kernel
theorem d_M_next_321 : decode b_M_next 321 = .ok (.if_icmp .ne 7, 3) := by decide +kernel
theorem d_M_next_324 : decode b_M_next 324 = .ok (.iconst 1, 1) := by decide +kernel
theorem d_M_next_325 : decode b_M_next 325 = .ok (.goto 4, 3) := by decide +kernel
theorem d_M_next_328 : decode b_M_next 328 = .ok (.iconst 2, 1) := by decide +kernel
theorem d_M_next_329 : decode b_M_next 329 = .ok (.iload_n 2, 1) := by decide +kernel
theorem d_M_next_330 : decode b_M_next 330 = .ok (.bipush 20, 2) := by decide +kernel
theorem d_M_next_332 : decode b_M_next 332 = .ok (.if_icmp .ne 8, 3) := by decide +kernel
theorem d_M_next_335 : decode b_M_next 335 = .ok (.iload 5, 2) := by decide +kernel
theorem d_M_next_337 : decode b_M_next 337 = .ok (.goto 9, 3) := by decide +kernel
theorem d_M_next_340 : decode b_M_next 340 = .ok (.aload_n 0, 1) := by decide +kernel
theorem d_M_next_341 : decode b_M_next 341 = .ok (.getfield 75, 3) := by decide +kernel
theorem d_M_next_344 : decode b_M_next 344 = .ok (.iload_n 1, 1) := by decide +kernel
theorem d_M_next_345 : decode b_M_next 345 = .ok (.iaload, 1) := by decide +kernel
theorem d_M_next_346 : decode b_M_next 346 = .ok (.iconst 3, 1) := by decide +kernel
theorem d_M_next_347 : decode b_M_next 347 = .ok (.invokevirtual 298, 3) := by decide +kernel
theorem d_M_next_350 : decode b_M_next 350 = .ok (.goto 38, 3) := by decide +kernel
theorem d_M_next_353 : decode b_M_next 353 = .ok (.aload_n 0, 1) := by decide +kernel
theorem d_M_next_354 : decode b_M_next 354 = .ok (.iload_n 3, 1) := by decide +kernel
theorem d_M_next_355 : decode b_M_next 355 = .ok (.invokevirtual 245, 3) := by decide +kernel
theorem d_M_next_358 : decode b_M_next 358 = .ok (.ifCond .eq 10, 3) := by decide +kernel
theorem d_M_next_361 : decode b_M_next 361 = .ok (.aload_n 0, 1) := by decide +kernel
theorem d_M_next_362 : decode b_M_next 362 = .ok (.iload_n 1, 1) := by decide +kernel
theorem d_M_next_363 : decode b_M_next 363 = .ok (.iload 5, 2) := by decide +kernel
theorem d_M_next_365 : decode b_M_next 365 = .ok (.invokevirtual 208, 3) := by decide +kernel
theorem d_M_next_368 : decode b_M_next 368 = .ok (.aload_n 0, 1) := by decide +kernel
theorem d_M_next_369 : decode b_M_next 369 = .ok (.getfield 66, 3) := by decide +kernel
theorem d_M_next_372 : decode b_M_next 372 = .ok (.iload_n 1, 1) := by decide +kernel
theorem d_M_next_373 : decode b_M_next 373 = .ok (.dup2, 1) := by decide +kernel
theorem d_M_next_374 : decode b_M_next 374 = .ok (.iaload, 1) := by decide +kernel
theorem d_M_next_375 : decode b_M_next 375 = .ok (.iconst 1, 1) := by decide +kernel
theorem d_M_next_376 : decode b_M_next 376 = .ok (.iadd, 1) := by decide +kernel
theorem d_M_next_377 : decode b_M_next 377 = .ok (.iastore, 1) := by decide +kernel
theorem d_M_next_378 : decode b_M_next 378 = .ok (.goto 10, 3) := by decide +kernel
theorem d_M_next_381 : decode b_M_next 381 = .ok (.aload_n 0, 1) := by decide +kernel
theorem d_M_next_382 : decode b_M_next 382 = .ok (.iload_n 1, 1) := by decide +kernel
theorem d_M_next_383 : decode b_M_next 383 = .ok (.iload_n 2, 1) := by decide +kernel
theorem d_M_next_384 : decode b_M_next 384 = .ok (.iload_n 3, 1) := by decide +kernel
theorem d_M_next_385 : decode b_M_next 385 = .ok (.invokevirtual 320, 3) := by decide +kernel
theorem d_M_next_388 : decode b_M_next 388 = .ok (.return_, 1) := by decide +kernel
theorem d_M_told_0 : decode b_M_told 0 = .ok (.aload_n 0, 1) := by decide +kernel
theorem d_M_told_1 : decode b_M_told 1 = .ok (.iload_n 1, 1) := by decide +kernel
theorem d_M_told_2 : decode b_M_told 2 = .ok (.iload_n 2, 1) := by decide +kernel
theorem d_M_told_3 : decode b_M_told 3 = .ok (.invokevirtual 208, 3) := by decide +kernel
theorem d_M_told_6 : decode b_M_told 6 = .ok (.aload_n 0, 1) := by decide +kernel
theorem d_M_told_7 : decode b_M_told 7 = .ok (.getfield 66, 3) := by decide +kernel
theorem d_M_told_10 : decode b_M_told 10 = .ok (.iload_n 1, 1) := by decide +kernel
theorem d_M_told_11 : decode b_M_told 11 = .ok (.dup2, 1) := by decide +kernel
theorem d_M_told_12 : decode b_M_told 12 = .ok (.iaload, 1) := by decide +kernel
theorem d_M_told_13 : decode b_M_told 13 = .ok (.iconst 1, 1) := by decide +kernel
theorem d_M_told_14 : decode b_M_told 14 = .ok (.iadd, 1) := by decide +kernel
theorem d_M_told_15 : decode b_M_told 15 = .ok (.iastore, 1) := by decide +kernel
theorem d_M_told_16 : decode b_M_told 16 = .ok (.return_, 1) := by decide +kernel
theorem d_M_last_0 : decode b_M_last 0 = .ok (.iload_n 2, 1) := by decide +kernel
theorem d_M_last_1 : decode b_M_last 1 = .ok (.bipush 22, 2) := by decide +kernel
theorem d_M_last_3 : decode b_M_last 3 = .ok (.if_icmp .eq 17, 3) := by decide +kernel
theorem d_M_last_6 : decode b_M_last 6 = .ok (.aload_n 0, 1) := by decide +kernel
theorem d_M_last_7 : decode b_M_last 7 = .ok (.iload_n 1, 1) := by decide +kernel
theorem d_M_last_8 : decode b_M_last 8 = .ok (.aload_n 0, 1) := by decide +kernel
theorem d_M_last_9 : decode b_M_last 9 = .ok (.getfield 72, 3) := by decide +kernel
theorem d_M_last_12 : decode b_M_last 12 = .ok (.iload_n 1, 1) := by decide +kernel
theorem d_M_last_13 : decode b_M_last 13 = .ok (.iaload, 1) := by decide +kernel
theorem d_M_last_14 : decode b_M_last 14 = .ok (.invokevirtual 205, 3) := by decide +kernel
theorem d_M_last_17 : decode b_M_last 17 = .ok (.goto 37, 3) := by decide +kernel
theorem d_M_last_20 : decode b_M_last 20 = .ok (.aload_n 0, 1) := by decide +kernel
theorem d_M_last_21 : decode b_M_last 21 = .ok (.getfield 72, 3) := by decide +kernel
theorem d_M_last_24 : decode b_M_last 24 = .ok (.iload_n 1, 1) := by decide +kernel
theorem d_M_last_25 : decode b_M_last 25 = .ok (.iaload, 1) := by decide +kernel
theorem d_M_last_26 : decode b_M_last 26 = .ok (.ifCond .le 17, 3) := by decide +kernel
theorem d_M_last_29 : decode b_M_last 29 = .ok (.aload_n 0, 1) := by decide +kernel
theorem d_M_last_30 : decode b_M_last 30 = .ok (.iload_n 1, 1) := by decide +kernel
theorem d_M_last_31 : decode b_M_last 31 = .ok (.aload_n 0, 1) := by decide +kernel
theorem d_M_last_32 : decode b_M_last 32 = .ok (.getfield 72, 3) := by decide +kernel
theorem d_M_last_35 : decode b_M_last 35 = .ok (.iload_n 1, 1) := by decide +kernel
theorem d_M_last_36 : decode b_M_last 36 = .ok (.iaload, 1) := by decide +kernel
theorem d_M_last_37 : decode b_M_last 37 = .ok (.invokevirtual 324, 3) := by decide +kernel
theorem d_M_last_40 : decode b_M_last 40 = .ok (.goto 14, 3) := by decide +kernel
theorem d_M_last_43 : decode b_M_last 43 = .ok (.aload_n 0, 1) := by decide +kernel
theorem d_M_last_44 : decode b_M_last 44 = .ok (.iload_n 1, 1) := by decide +kernel
theorem d_M_last_45 : decode b_M_last 45 = .ok (.aload_n 0, 1) := by decide +kernel
theorem d_M_last_46 : decode b_M_last 46 = .ok (.getfield 75, 3) := by decide +kernel
theorem d_M_last_49 : decode b_M_last 49 = .ok (.iload_n 1, 1) := by decide +kernel
theorem d_M_last_50 : decode b_M_last 50 = .ok (.iaload, 1) := by decide +kernel
theorem d_M_last_51 : decode b_M_last 51 = .ok (.invokevirtual 305, 3) := by decide +kernel
theorem d_M_last_54 : decode b_M_last 54 = .ok (.return_, 1) := by decide +kernel
theorem d_M_simple_0 : decode b_M_simple 0 = .ok (.aload_n 0, 1) := by decide +kernel
theorem d_M_simple_1 : decode b_M_simple 1 = .ok (.getfield 60, 3) := by decide +kernel
theorem d_M_simple_4 : decode b_M_simple 4 = .ok (.iload_n 1, 1) := by decide +kernel
theorem d_M_simple_5 : decode b_M_simple 5 = .ok (.iaload, 1) := by decide +kernel
theorem d_M_simple_6 : decode b_M_simple 6 = .ok (.istore 4, 2) := by decide +kernel
theorem d_M_simple_8 : decode b_M_simple 8 = .ok (.iconst (-1), 1) := by decide +kernel
theorem d_M_simple_9 : decode b_M_simple 9 = .ok (.istore 5, 2) := by decide +kernel
theorem d_M_simple_11 : decode b_M_simple 11 = .ok (.iload_n 2, 1) := by decide +kernel
theorem d_M_simple_12 : decode b_M_simple 12 = .ok (.iconst 2, 1) := by decide +kernel
theorem d_M_simple_13 : decode b_M_simple 13 = .ok (.if_icmp .ne 21, 3) := by decide +kernel
theorem d_M_simple_16 : decode b_M_simple 16 = .ok (.aload_n 0, 1) := by decide +kernel
theorem d_M_simple_17 : decode b_M_simple 17 = .ok (.iload_n 1, 1) := by decide +kernel
theorem d_M_simple_18 : decode b_M_simple 18 = .ok (.iload 4, 2) := by decide +kernel
theorem d_M_simple_20 : decode b_M_simple 20 = .ok (.iload_n 3, 1) := by decide +kernel
theorem d_M_simple_21 : decode b_M_simple 21 = .ok (.invokevirtual 327, 3) := by decide +kernel
theorem d_M_simple_24 : decode b_M_simple 24 = .ok (.ifCond .ne 9, 3) := by decide +kernel
theorem d_M_simple_27 : decode b_M_simple 27 = .ok (.aload_n 0, 1) := by decide +kernel
theorem d_M_simple_28 : decode b_M_simple 28 = .ok (.iload_n 1, 1) := by decide +kernel
theorem d_M_simple_29 : decode b_M_simple 29 = .ok (.iconst 1, 1) := by decide +kernel
theorem d_M_simple_30 : decode b_M_simple 30 = .ok (.invokevirtual 268, 3) := by decide +kernel
theorem d_M_simple_33 : decode b_M_simple 33 = .ok (.return_, 1) := by decide +kernel
theorem d_M_simple_34 : decode b_M_simple 34 = .ok (.iload_n 2, 1) := by decide +kernel
theorem d_M_simple_35 : decode b_M_simple 35 = .ok (.bipush 11, 2) := by decide +kernel
theorem d_M_simple_37 : decode b_M_simple 37 = .ok (.if_icmp .ne 38, 3) := by decide +kernel
theorem d_M_simple_40 : decode b_M_simple 40 = .ok (.aload_n 0, 1) := by decide +kernel
theorem d_M_simple_41 : decode b_M_simple 41 = .ok (.getfield 45, 3) := by decide +kernel
theorem d_M_simple_44 : decode b_M_simple 44 = .ok (.iconst 0, 1) := by decide +kernel
theorem d_M_simple_45 : decode b_M_simple 45 = .ok (.aload_n 0, 1) := by decide +kernel
theorem d_M_simple_46 : decode b_M_simple 46 = .ok (.aload_n 0, 1) := by decide +kernel
theorem d_M_simple_47 : decode b_M_simple 47 = .ok (.getfield 19, 3) := by decide +kernel
theorem d_M_simple_50 : decode b_M_simple 50 = .ok (.aload_n 0, 1) := by decide +kernel
theorem d_M_simple_51 : decode b_M_simple 51 = .ok (.getfield 57, 3) := by decide +kernel
theorem d_M_simple_54 : decode b_M_simple 54 = .ok (.iload_n 1, 1) := by decide +kernel
theorem d_M_simple_55 : decode b_M_simple 55 = .ok (.iaload, 1) := by decide +kernel
theorem d_M_simple_56 : decode b_M_simple 56 = .ok (.iaload, 1) := by decide +kernel
theorem d_M_simple_57 : decode b_M_simple 57 = .ok (.invokevirtual 230, 3) := by decide +kernel
theorem d_M_simple_60 : decode b_M_simple 60 = .ok (.iastore, 1) := by decide +kernel
theorem d_M_simple_61 : decode b_M_simple 61 = .ok (.aload_n 0, 1) := by decide +kernel
theorem d_M_simple_62 : decode b_M_simple 62 = .ok (.getfield 42, 3) := by decide +kernel
theorem d_M_simple_65 : decode b_M_simple 65 = .ok (.iconst 0, 1) := by decide +kernel
theorem d_M_simple_66 : decode b_M_simple 66 = .ok (.iload_n 3, 1) := by decide +kernel
theorem d_M_simple_67 : decode b_M_simple 67 = .ok (.iastore, 1) := by decide +kernel
theorem d_M_simple_68 : decode b_M_simple 68 = .ok (.aload_n 0, 1) := by decide +kernel
theorem d_M_simple_69 : decode b_M_simple 69 = .ok (.iconst 1, 1) := by decide +kernel
theorem d_M_simple_70 : decode b_M_simple 70 = .ok (.invokevirtual 283, 3) := by decide +kernel
theorem d_M_simple_73 : decode b_M_simple 73 = .ok (.istore 5, 2) := by decide +kernel
theorem d_M_simple_75 : decode b_M_simple 75 = .ok (.iload_n 2, 1) := by decide +kernel
theorem d_M_simple_76 : decode b_M_simple 76 = .ok (.bipush 32, 2) := by decide +kernel
theorem d_M_simple_78 : decode b_M_simple 78 = .ok (.if_icmp .ne 42, 3) := by decide +kernel
theorem d_M_simple_81 : decode b_M_simple 81 = .ok (.aload_n 0, 1) := by decide +kernel
theorem d_M_simple_82 : decode b_M_simple 82 = .ok (.iload 4, 2) := by decide +kernel
theorem d_M_simple_84 : decode b_M_simple 84 = .ok (.invokevirtual 156, 3) := by decide +kernel
theorem d_M_simple_87 : decode b_M_simple 87 = .ok (.bipush 6, 2) := by decide +kernel
theorem d_M_simple_89 : decode b_M_simple 89 = .ok (.if_icmp .ne 31, 3) := by decide +kernel
theorem d_M_simple_92 : decode b_M_simple 92 = .ok (.aload_n 0, 1) := by decide +kernel
theorem d_M_simple_93 : decode b_M_simple 93 = .ok (.iload_n 3, 1) := by decide +kernel
theorem d_M_simple_94 : decode b_M_simple 94 = .ok (.invokevirtual 156, 3) := by decide +kernel
theorem d_M_simple_97 : decode b_M_simple 97 = .ok (.iconst 4, 1) := by decide +kernel
theorem d_M_simple_98 : decode b_M_simple 98 = .ok (.if_icmp .ne 22, 3) := by decide +kernel
theorem d_M_simple_101 : decode b_M_simple 101 = .ok (.aload_n 0, 1) := by decide +kernel
theorem d_M_simple_102 : decode b_M_simple 102 = .ok (.iload 4, 2) := by decide +kernel
theorem d_M_simple_104 : decode b_M_simple 104 = .ok (.iload_n 3, 1) := by decide +kernel
theorem d_M_simple_105 : decode b_M_simple 105 = .ok (.invokevirtual 271, 3) := by decide +kernel
theorem d_M_simple_108 : decode b_M_simple 108 = .ok (.ifCond .lt 8, 3) := by decide +kernel
theorem d_M_simple_111 : decode b_M_simple 111 = .ok (.bipush 12, 2) := by decide +kernel
theorem d_M_simple_113 : decode b_M_simple 113 = .ok (.goto 5, 3) := by decide +kernel
theorem d_M_simple_116 : decode b_M_simple 116 = .ok (.bipush 8, 2) := by decide +kernel
theorem d_M_simple_118 : decode b_M_simple 118 = .ok (.istore 5, 2) := by decide +kernel
theorem d_M_simple_120 : decode b_M_simple 120 = .ok (.iload_n 2, 1) := by decide +kernel
theorem d_M_simple_121 : decode b_M_simple 121 = .ok (.bipush 32, 2) := by decide +kernel
theorem d_M_simple_123 : decode b_M_simple 123 = .ok (.if_icmp .ne 60, 3) := by decide +kernel
theorem d_M_simple_126 : decode b_M_simple 126 = .ok (.aload_n 0, 1) := by decide +kernel
theorem d_M_simple_127 : decode b_M_simple 127 = .ok (.iload 4, 2) := by decide +kernel
theorem d_M_simple_129 : decode b_M_simple 129 = .ok (.invokevirtual 156, 3) := by decide +kernel
theorem d_M_simple_132 : decode b_M_simple 132 = .ok (.iconst 5, 1) := by decide +kernel
theorem d_M_simple_133 : decode b_M_simple 133 = .ok (.if_icmp .ne 50, 3) := by decide +kernel
theorem d_M_simple_136 : decode b_M_simple 136 = .ok (.aload_n 0, 1) := by decide +kernel
theorem d_M_simple_137 : decode b_M_simple 137 = .ok (.iload_n 3, 1) := by decide +kernel
theorem d_M_simple_138 : decode b_M_simple 138 = .ok (.invokevirtual 156, 3) := by decide +kernel
theorem d_M_simple_141 : decode b_M_simple 141 = .ok (.iconst 3, 1) := by decide +kernel
theorem d_M_simple_142 : decode b_M_simple 142 = .ok (.if_icmp .ne 41, 3) := by decide +kernel
theorem d_M_simple_145 : decode b_M_simple 145 = .ok (.aload_n 0, 1) := by decide +kernel
theorem d_M_simple_146 : decode b_M_simple 146 = .ok (.iload_n 3, 1) := by decide +kernel
theorem d_M_simple_147 : decode b_M_simple 147 = .ok (.invokevirtual 122, 3) := by decide +kernel
theorem d_M_simple_150 : decode b_M_simple 150 = .ok (.lconst 0, 1) := by decide +kernel
theorem d_M_simple_151 : decode b_M_simple 151 = .ok (.lcmp, 1) := by decide +kernel
theorem d_M_simple_152 : decode b_M_simple 152 = .ok (.ifCond .lt 27, 3) := by decide +kernel
theorem d_M_simple_155 : decode b_M_simple 155 = .ok (.aload_n 0, 1) := by decide +kernel
theorem d_M_simple_156 : decode b_M_simple 156 = .ok (.iload_n 3, 1) := by decide +kernel
theorem d_M_simple_157 : decode b_M_simple 157 = .ok (.invokevirtual 122, 3) := by decide +kernel
theorem d_M_simple_160 : decode b_M_simple 160 = .ok (.invokestatic 264, 3) := by decide +kernel
theorem d_M_simple_163 : decode b_M_simple 163 = .ok (.aload_n 0, 1) := by decide +kernel
theorem d_M_simple_164 : decode b_M_simple 164 = .ok (.iload 4, 2) := by decide +kernel
theorem d_M_simple_166 : decode b_M_simple 166 = .ok (.invokevirtual 136, 3) := by decide +kernel
theorem d_M_simple_169 : decode b_M_simple 169 = .ok (.i2l, 1) := by decide +kernel
theorem d_M_simple_170 : decode b_M_simple 170 = .ok (.lcmp, 1) := by decide +kernel
theorem d_M_simple_171 : decode b_M_simple 171 = .ok (.ifCond .ge 8, 3) := by decide +kernel
theorem d_M_simple_174 : decode b_M_simple 174 = .ok (.bipush 12, 2) := by decide +kernel
theorem d_M_simple_176 : decode b_M_simple 176 = .ok (.goto 5, 3) := by decide +kernel
theorem d_M_simple_179 : decode b_M_simple 179 = .ok (.bipush 8, 2) := by decide +kernel
theorem d_M_simple_181 : decode b_M_simple 181 = .ok (.istore 5, 2) := by decide +kernel
theorem d_M_simple_183 : decode b_M_simple 183 = .ok (.iload_n 2, 1) := by decide +kernel
theorem d_M_simple_184 : decode b_M_simple 184 = .ok (.bipush 29, 2) := by decide +kernel
theorem d_M_simple_186 : decode b_M_simple 186 = .ok (.if_icmp .ne 67, 3) := by decide +kernel
theorem d_M_simple_189 : decode b_M_simple 189 = .ok (.aload_n 0, 1) := by decide +kernel
theorem d_M_simple_190 : decode b_M_simple 190 = .ok (.iload_n 3, 1) := by decide +kernel
theorem d_M_simple_191 : decode b_M_simple 191 = .ok (.invokevirtual 156, 3) := by decide +kernel
theorem d_M_simple_194 : decode b_M_simple 194 = .ok (.iconst 3, 1) := by decide +kernel
theorem d_M_simple_195 : decode b_M_simple 195 = .ok (.if_icmp .ne 58, 3) := by decide +kernel
theorem d_M_simple_198 : decode b_M_simple 198 = .ok (.iconst 0, 1) := by decide +kernel
theorem d_M_simple_199 : decode b_M_simple 199 = .ok (.istore 6, 2) := by decide +kernel
theorem d_M_simple_201 : decode b_M_simple 201 = .ok (.iload 6, 2) := by decide +kernel
theorem d_M_simple_203 : decode b_M_simple 203 = .ok (.i2l, 1) := by decide +kernel
theorem d_M_simple_204 : decode b_M_simple 204 = .ok (.ldc2_w 130, 3) := by decide +kernel
theorem d_M_simple_207 : decode b_M_simple 207 = .ok (.lmul, 1) := by decide +kernel
theorem d_M_simple_208 : decode b_M_simple 208 = .ok (.aload_n 0, 1) := by decide +kernel
theorem d_M_simple_209 : decode b_M_simple 209 = .ok (.iload_n 3, 1) := by decide +kernel
theorem d_M_simple_210 : decode b_M_simple 210 = .ok (.invokevirtual 122, 3) := by decide +kernel
theorem d_M_simple_213 : decode b_M_simple 213 = .ok (.lcmp, 1) := by decide +kernel
theorem d_M_simple_214 : decode b_M_simple 214 = .ok (.ifCond .ge 28, 3) := by decide +kernel
theorem d_M_simple_217 : decode b_M_simple 217 = .ok (.aload_n 0, 1) := by decide +kernel
theorem d_M_simple_218 : decode b_M_simple 218 = .ok (.getfield 104, 3) := by decide +kernel
theorem d_M_simple_221 : decode b_M_simple 221 = .ok (.ifCond .ne 21, 3) := by decide +kernel
theorem d_M_simple_224 : decode b_M_simple 224 = .ok (.aload_n 0, 1) := by decide +kernel
theorem d_M_simple_225 : decode b_M_simple 225 = .ok (.iload_n 1, 1) := by decide +kernel
theorem d_M_simple_226 : decode b_M_simple 226 = .ok (.aload_n 0, 1) := by decide +kernel
theorem d_M_simple_227 : decode b_M_simple 227 = .ok (.iload 6, 2) := by decide +kernel
theorem d_M_simple_229 : decode b_M_simple 229 = .ok (.i2l, 1) := by decide +kernel
theorem d_M_simple_230 : decode b_M_simple 230 = .ok (.invokevirtual 202, 3) := by decide +kernel
theorem d_M_simple_233 : decode b_M_simple 233 = .ok (.invokevirtual 208, 3) := by decide +kernel
theorem d_M_simple_236 : decode b_M_simple 236 = .ok (.iinc 6 1, 3) := by decide +kernel
theorem d_M_simple_239 : decode b_M_simple 239 = .ok (.goto (-38), 3) := by decide +kernel
theorem d_M_simple_242 : decode b_M_simple 242 = .ok (.aload_n 0, 1) := by decide +kernel
theorem d_M_simple_243 : decode b_M_simple 243 = .ok (.getfield 66, 3) := by decide +kernel
theorem d_M_simple_246 : decode b_M_simple 246 = .ok (.iload_n 1, 1) := by decide +kernel
theorem d_M_simple_247 : decode b_M_simple 247 = .ok (.dup2, 1) := by decide +kernel
theorem d_M_simple_248 : decode b_M_simple 248 = .ok (.iaload, 1) := by decide +kernel
theorem d_M_simple_249 : decode b_M_simple 249 = .ok (.iconst 1, 1) := by decide +kernel
theorem d_M_simple_250 : decode b_M_simple 250 = .ok (.iadd, 1) := by decide +kernel
theorem d_M_simple_251 : decode b_M_simple 251 = .ok (.iastore, 1) := by decide +kernel
theorem d_M_simple_252 : decode b_M_simple 252 = .ok (.return_, 1) := by decide +kernel
theorem d_M_simple_253 : decode b_M_simple 253 = .ok (.iload 5, 2) := by decide +kernel
theorem d_M_simple_255 : decode b_M_simple 255 = .ok (.ifCond .ge 12, 3) := by decide +kernel
theorem d_M_simple_258 : decode b_M_simple 258 = .ok (.aload_n 0, 1) := by decide +kernel
theorem d_M_simple_259 : decode b_M_simple 259 = .ok (.iload_n 1, 1) := by decide +kernel
theorem d_M_simple_260 : decode b_M_simple 260 = .ok (.iconst 1, 1) := by decide +kernel
theorem d_M_simple_261 : decode b_M_simple 261 = .ok (.invokevirtual 268, 3) := by decide +kernel
theorem d_M_simple_264 : decode b_M_simple 264 = .ok (.goto 10, 3) := by decide +kernel
theorem d_M_simple_267 : decode b_M_simple 267 = .ok (.aload_n 0, 1) := by decide +kernel
theorem d_M_simple_268 : decode b_M_simple 268 = .ok (.iload_n 1, 1) := by decide +kernel
theorem d_M_simple_269 : decode b_M_simple 269 = .ok (.iload 5, 2) := by decide +kernel
theorem d_M_simple_271 : decode b_M_simple 271 = .ok (.invokevirtual 317, 3) := by decide +kernel
theorem d_M_simple_274 : decode b_M_simple 274 = .ok (.return_, 1) := by decide +kernel
theorem d_M_index_0 : decode b_M_index 0 = .ok (.aload_n 0, 1) := by decide +kernel
theorem d_M_index_1 : decode b_M_index 1 = .ok (.iload_n 2, 1) := by decide +kernel
theorem d_M_index_2 : decode b_M_index 2 = .ok (.invokevirtual 156, 3) := by decide +kernel
theorem d_M_index_5 : decode b_M_index 5 = .ok (.istore 4, 2) := by decide +kernel
theorem d_M_index_7 : decode b_M_index 7 = .ok (.aload_n 0, 1) := by decide +kernel
theorem d_M_index_8 : decode b_M_index 8 = .ok (.iload_n 3, 1) := by decide +kernel
theorem d_M_index_9 : decode b_M_index 9 = .ok (.invokevirtual 156, 3) := by decide +kernel
theorem d_M_index_12 : decode b_M_index 12 = .ok (.istore 5, 2) := by decide +kernel
theorem d_M_index_14 : decode b_M_index 14 = .ok (.iload 4, 2) := by decide +kernel
theorem d_M_index_16 : decode b_M_index 16 = .ok (.bipush 6, 2) := by decide +kernel
theorem d_M_index_18 : decode b_M_index 18 = .ok (.if_icmp .ne 27, 3) := by decide +kernel
theorem d_M_index_21 : decode b_M_index 21 = .ok (.iload 5, 2) := by decide +kernel
theorem d_M_index_23 : decode b_M_index 23 = .ok (.iconst 4, 1) := by decide +kernel
theorem d_M_index_24 : decode b_M_index 24 = .ok (.if_icmp .ne 21, 3) := by decide +kernel
theorem d_M_index_27 : decode b_M_index 27 = .ok (.aload_n 0, 1) := by decide +kernel
theorem d_M_index_28 : decode b_M_index 28 = .ok (.getfield 66, 3) := by decide +kernel
theorem d_M_index_31 : decode b_M_index 31 = .ok (.iload_n 1, 1) := by decide +kernel
theorem d_M_index_32 : decode b_M_index 32 = .ok (.dup2, 1) := by decide +kernel
theorem d_M_index_33 : decode b_M_index 33 = .ok (.iaload, 1) := by decide +kernel
theorem d_M_index_34 : decode b_M_index 34 = .ok (.iconst 1, 1) := by decide +kernel
theorem d_M_index_35 : decode b_M_index 35 = .ok (.iadd, 1) := by decide +kernel
theorem d_M_index_36 : decode b_M_index 36 = .ok (.iastore, 1) := by decide +kernel
theorem d_M_index_37 : decode b_M_index 37 = .ok (.aload_n 0, 1) := by decide +kernel
theorem d_M_index_38 : decode b_M_index 38 = .ok (.iload_n 1, 1) := by decide +kernel
theorem d_M_index_39 : decode b_M_index 39 = .ok (.iload_n 2, 1) := by decide +kernel
theorem d_M_index_40 : decode b_M_index 40 = .ok (.iload_n 3, 1) := by decide +kernel
theorem d_M_index_41 : decode b_M_index 41 = .ok (.invokevirtual 233, 3) := by decide +kernel
theorem d_M_index_44 : decode b_M_index 44 = .ok (.ireturn, 1) := by decide +kernel
theorem d_M_index_45 : decode b_M_index 45 = .ok (.iload 4, 2) := by decide +kernel
theorem d_M_index_47 : decode b_M_index 47 = .ok (.iconst 5, 1) := by decide +kernel
theorem d_M_index_48 : decode b_M_index 48 = .ok (.if_icmp .ne 76, 3) := by decide +kernel
theorem d_M_index_51 : decode b_M_index 51 = .ok (.iload 5, 2) := by decide +kernel
theorem d_M_index_53 : decode b_M_index 53 = .ok (.iconst 3, 1) := by decide +kernel
theorem d_M_index_54 : decode b_M_index 54 = .ok (.if_icmp .ne 70, 3) := by decide +kernel
theorem d_M_index_57 : decode b_M_index 57 = .ok (.aload_n 0, 1) := by decide +kernel
theorem d_M_index_58 : decode b_M_index 58 = .ok (.iload_n 3, 1) := by decide +kernel
theorem d_M_index_59 : decode b_M_index 59 = .ok (.invokevirtual 122, 3) := by decide +kernel
theorem d_M_index_62 : decode b_M_index 62 = .ok (.invokestatic 264, 3) := by decide +kernel
theorem d_M_index_65 : decode b_M_index 65 = .ok (.lstore 6, 2) := by decide +kernel
theorem d_M_index_67 : decode b_M_index 67 = .ok (.lload 6, 2) := by decide +kernel
theorem d_M_index_69 : decode b_M_index 69 = .ok (.lconst 0, 1) := by decide +kernel
theorem d_M_index_70 : decode b_M_index 70 = .ok (.lcmp, 1) := by decide +kernel
theorem d_M_index_71 : decode b_M_index 71 = .ok (.ifCond .ge 14, 3) := by decide +kernel
theorem d_M_index_74 : decode b_M_index 74 = .ok (.lload 6, 2) := by decide +kernel
theorem d_M_index_76 : decode b_M_index 76 = .ok (.aload_n 0, 1) := by decide +kernel
theorem d_M_index_77 : decode b_M_index 77 = .ok (.iload_n 2, 1) := by decide +kernel
theorem d_M_index_78 : decode b_M_index 78 = .ok (.invokevirtual 136, 3) := by decide +kernel
theorem d_M_index_81 : decode b_M_index 81 = .ok (.i2l, 1) := by decide +kernel
theorem d_M_index_82 : decode b_M_index 82 = .ok (.ladd, 1) := by decide +kernel
theorem d_M_index_83 : decode b_M_index 83 = .ok (.lstore 6, 2) := by decide +kernel
theorem d_M_index_85 : decode b_M_index 85 = .ok (.aload_n 0, 1) := by decide +kernel
theorem d_M_index_86 : decode b_M_index 86 = .ok (.iload_n 1, 1) := by decide +kernel
theorem d_M_index_87 : decode b_M_index 87 = .ok (.lload 6, 2) := by decide +kernel
theorem d_M_index_89 : decode b_M_index 89 = .ok (.lconst 0, 1) := by decide +kernel
theorem d_M_index_90 : decode b_M_index 90 = .ok (.lcmp, 1) := by decide +kernel
theorem d_M_index_91 : decode b_M_index 91 = .ok (.ifCond .lt 26, 3) := by decide +kernel
theorem d_M_index_94 : decode b_M_index 94 = .ok (.lload 6, 2) := by decide +kernel
theorem d_M_index_96 : decode b_M_index 96 = .ok (.aload_n 0, 1) := by decide +kernel
theorem d_M_index_97 : decode b_M_index 97 = .ok (.iload_n 2, 1) := by decide +kernel
theorem d_M_index_98 : decode b_M_index 98 = .ok (.invokevirtual 136, 3) := by decide +kernel
theorem d_M_index_101 : decode b_M_index 101 = .ok (.i2l, 1) := by decide +kernel
theorem d_M_index_102 : decode b_M_index 102 = .ok (.lcmp, 1) := by decide +kernel
theorem d_M_index_103 : decode b_M_index 103 = .ok (.ifCond .ge 14, 3) := by decide +kernel
theorem d_M_index_106 : decode b_M_index 106 = .ok (.aload_n 0, 1) := by decide +kernel
theorem d_M_index_107 : decode b_M_index 107 = .ok (.iload_n 2, 1) := by decide +kernel
theorem d_M_index_108 : decode b_M_index 108 = .ok (.lload 6, 2) := by decide +kernel
theorem d_M_index_110 : decode b_M_index 110 = .ok (.l2i, 1) := by decide +kernel
theorem d_M_index_111 : decode b_M_index 111 = .ok (.invokevirtual 139, 3) := by decide +kernel
theorem d_M_index_114 : decode b_M_index 114 = .ok (.goto 4, 3) := by decide +kernel
theorem d_M_index_117 : decode b_M_index 117 = .ok (.iconst 4, 1) := by decide +kernel
theorem d_M_index_118 : decode b_M_index 118 = .ok (.invokevirtual 208, 3) := by decide +kernel
theorem d_M_index_121 : decode b_M_index 121 = .ok (.goto 16, 3) := by decide +kernel
theorem d_M_index_124 : decode b_M_index 124 = .ok (.iload 4, 2) := by decide +kernel
theorem d_M_index_126 : decode b_M_index 126 = .ok (.ifCond .eq 5, 3) := by decide +kernel
theorem d_M_index_129 : decode b_M_index 129 = .ok (.iconst 0, 1) := by decide +kernel
theorem d_M_index_130 : decode b_M_index 130 = .ok (.ireturn, 1) := by decide +kernel
theorem d_M_index_131 : decode b_M_index 131 = .ok (.aload_n 0, 1) := by decide +kernel
theorem d_M_index_132 : decode b_M_index 132 = .ok (.iload_n 1, 1) := by decide +kernel
theorem d_M_index_133 : decode b_M_index 133 = .ok (.iconst 4, 1) := by decide +kernel
theorem d_M_index_134 : decode b_M_index 134 = .ok (.invokevirtual 208, 3) := by decide +kernel
theorem d_M_index_137 : decode b_M_index 137 = .ok (.aload_n 0, 1) := by decide +kernel
theorem d_M_index_138 : decode b_M_index 138 = .ok (.getfield 66, 3) := by decide +kernel
theorem d_M_index_141 : decode b_M_index 141 = .ok (.iload_n 1, 1) := by decide +kernel
theorem d_M_index_142 : decode b_M_index 142 = .ok (.dup2, 1) := by decide +kernel
theorem d_M_index_143 : decode b_M_index 143 = .ok (.iaload, 1) := by decide +kernel
theorem d_M_index_144 : decode b_M_index 144 = .ok (.iconst 1, 1) := by decide +kernel
theorem d_M_index_145 : decode b_M_index 145 = .ok (.iadd, 1) := by decide +kernel
theorem d_M_index_146 : decode b_M_index 146 = .ok (.iastore, 1) := by decide +kernel
theorem d_M_index_147 : decode b_M_index 147 = .ok (.iconst 1, 1) := by decide +kernel
theorem d_M_index_148 : decode b_M_index 148 = .ok (.ireturn, 1) := by decide +kernel
theorem d_M_worked_0 : decode b_M_worked 0 = .ok (.aload_n 0, 1) := by decide +kernel
theorem d_M_worked_1 : decode b_M_worked 1 = .ok (.getfield 81, 3) := by decide +kernel
theorem d_M_worked_4 : decode b_M_worked 4 = .ok (.bipush 17, 2) := by decide +kernel
theorem d_M_worked_6 : decode b_M_worked 6 = .ok (.iload_n 1, 1) := by decide +kernel
theorem d_M_worked_7 : decode b_M_worked 7 = .ok (.imul, 1) := by decide +kernel
theorem d_M_worked_8 : decode b_M_worked 8 = .ok (.aload_n 0, 1) := by decide +kernel
theorem d_M_worked_9 : decode b_M_worked 9 = .ok (.getfield 66, 3) := by decide +kernel
theorem d_M_worked_12 : decode b_M_worked 12 = .ok (.iload_n 1, 1) := by decide +kernel
theorem d_M_worked_13 : decode b_M_worked 13 = .ok (.iaload, 1) := by decide +kernel
theorem d_M_worked_14 : decode b_M_worked 14 = .ok (.iadd, 1) := by decide +kernel
theorem d_M_worked_15 : decode b_M_worked 15 = .ok (.iaload, 1) := by decide +kernel
theorem d_M_worked_16 : decode b_M_worked 16 = .ok (.istore_n 3, 1) := by decide +kernel
theorem d_M_worked_17 : decode b_M_worked 17 = .ok (.aload_n 0, 1) := by decide +kernel
theorem d_M_worked_18 : decode b_M_worked 18 = .ok (.getfield 19, 3) := by decide +kernel
theorem d_M_worked_21 : decode b_M_worked 21 = .ok (.aload_n 0, 1) := by decide +kernel
theorem d_M_worked_22 : decode b_M_worked 22 = .ok (.getfield 57, 3) := by decide +kernel
theorem d_M_worked_25 : decode b_M_worked 25 = .ok (.iload_n 1, 1) := by decide +kernel
theorem d_M_worked_26 : decode b_M_worked 26 = .ok (.iaload, 1) := by decide +kernel
theorem d_M_worked_27 : decode b_M_worked 27 = .ok (.iaload, 1) := by decide +kernel
theorem d_M_worked_28 : decode b_M_worked 28 = .ok (.istore 4, 2) := by decide +kernel
theorem d_M_worked_30 : decode b_M_worked 30 = .ok (.aload_n 0, 1) := by decide +kernel
theorem d_M_worked_31 : decode b_M_worked 31 = .ok (.getfield 66, 3) := by decide +kernel
theorem d_M_worked_34 : decode b_M_worked 34 = .ok (.iload_n 1, 1) := by decide +kernel
theorem d_M_worked_35 : decode b_M_worked 35 = .ok (.dup2, 1) := by decide +kernel
theorem d_M_worked_36 : decode b_M_worked 36 = .ok (.iaload, 1) := by decide +kernel
theorem d_M_worked_37 : decode b_M_worked 37 = .ok (.iconst 1, 1) := by decide +kernel
theorem d_M_worked_38 : decode b_M_worked 38 = .ok (.iadd, 1) := by decide +kernel
theorem d_M_worked_39 : decode b_M_worked 39 = .ok (.iastore, 1) := by decide +kernel
theorem d_M_worked_40 : decode b_M_worked 40 = .ok (.aload_n 0, 1) := by decide +kernel
theorem d_M_worked_41 : decode b_M_worked 41 = .ok (.getfield 63, 3) := by decide +kernel
theorem d_M_worked_44 : decode b_M_worked 44 = .ok (.iload_n 1, 1) := by decide +kernel
theorem d_M_worked_45 : decode b_M_worked 45 = .ok (.iconst 2, 1) := by decide +kernel
theorem d_M_worked_46 : decode b_M_worked 46 = .ok (.iastore, 1) := by decide +kernel
theorem d_M_worked_47 : decode b_M_worked 47 = .ok (.iload_n 2, 1) := by decide +kernel
theorem d_M_worked_48 : decode b_M_worked 48 = .ok (.tableswitch 260 12 22 #[60, 60, 148, 148, 260, 260, 260, 260, 195, 260, 216], 60) := by decide +kernel
theorem d_M_worked_108 : decode b_M_worked 108 = .ok (.iconst 0, 1) := by decide +kernel
theorem d_M_worked_109 : decode b_M_worked 109 = .ok (.istore 5, 2) := by decide +kernel
theorem d_M_worked_111 : decode b_M_worked 111 = .ok (.iload 5, 2) := by decide +kernel
theorem d_M_worked_113 : decode b_M_worked 113 = .ok (.aload_n 0, 1) := by decide +kernel
theorem d_M_worked_114 : decode b_M_worked 114 = .ok (.getfield 196, 3) := by decide +kernel
theorem d_M_worked_117 : decode b_M_worked 117 = .ok (.if_icmp .ge 76, 3) := by decide +kernel
theorem d_M_worked_120 : decode b_M_worked 120 = .ok (.aload_n 0, 1) := by decide +kernel
theorem d_M_worked_121 : decode b_M_worked 121 = .ok (.getfield 104, 3) := by decide +kernel
theorem d_M_worked_124 : decode b_M_worked 124 = .ok (.ifCond .ne 69, 3) := by decide +kernel
theorem d_M_worked_127 : decode b_M_worked 127 = .ok (.iload_n 2, 1) := by decide +kernel
theorem d_M_worked_128 : decode b_M_worked 128 = .ok (.bipush 12, 2) := by decide +kernel
theorem d_M_worked_130 : decode b_M_worked 130 = .ok (.if_icmp .ne 20, 3) := by decide +kernel
theorem d_M_worked_133 : decode b_M_worked 133 = .ok (.aload_n 0, 1) := by decide +kernel
theorem d_M_worked_134 : decode b_M_worked 134 = .ok (.iload 4, 2) := by decide +kernel
theorem d_M_worked_136 : decode b_M_worked 136 = .ok (.aload_n 0, 1) := by decide +kernel
theorem d_M_worked_137 : decode b_M_worked 137 = .ok (.getfield 90, 3) := by decide +kernel
theorem d_M_worked_140 : decode b_M_worked 140 = .ok (.iload 5, 2) := by decide +kernel
theorem d_M_worked_142 : decode b_M_worked 142 = .ok (.iaload, 1) := by decide +kernel
theorem d_M_worked_143 : decode b_M_worked 143 = .ok (.iload_n 3, 1) := by decide +kernel
theorem d_M_worked_144 : decode b_M_worked 144 = .ok (.invokevirtual 330, 3) := by decide +kernel
theorem d_M_worked_147 : decode b_M_worked 147 = .ok (.goto 17, 3) := by decide +kernel
theorem d_M_worked_150 : decode b_M_worked 150 = .ok (.aload_n 0, 1) := by decide +kernel
theorem d_M_worked_151 : decode b_M_worked 151 = .ok (.iload 4, 2) := by decide +kernel
theorem d_M_worked_153 : decode b_M_worked 153 = .ok (.aload_n 0, 1) := by decide +kernel
theorem d_M_worked_154 : decode b_M_worked 154 = .ok (.getfield 90, 3) := by decide +kernel
theorem d_M_worked_157 : decode b_M_worked 157 = .ok (.iload 5, 2) := by decide +kernel
theorem d_M_worked_159 : decode b_M_worked 159 = .ok (.iaload, 1) := by decide +kernel
theorem d_M_worked_160 : decode b_M_worked 160 = .ok (.iload_n 3, 1) := by decide +kernel
theorem d_M_worked_161 : decode b_M_worked 161 = .ok (.invokevirtual 333, 3) := by decide +kernel
theorem d_M_worked_164 : decode b_M_worked 164 = .ok (.istore 6, 2) := by decide +kernel
theorem d_M_worked_166 : decode b_M_worked 166 = .ok (.iload 6, 2) := by decide +kernel
theorem d_M_worked_168 : decode b_M_worked 168 = .ok (.ifCond .ge 12, 3) := by decide +kernel
theorem d_M_worked_171 : decode b_M_worked 171 = .ok (.aload_n 0, 1) := by decide +kernel
theorem d_M_worked_172 : decode b_M_worked 172 = .ok (.iload_n 1, 1) := by decide +kernel
theorem d_M_worked_173 : decode b_M_worked 173 = .ok (.iload 6, 2) := by decide +kernel
theorem d_M_worked_175 : decode b_M_worked 175 = .ok (.ineg, 1) := by decide +kernel
theorem d_M_worked_176 : decode b_M_worked 176 = .ok (.invokevirtual 268, 3) := by decide +kernel
theorem d_M_worked_179 : decode b_M_worked 179 = .ok (.return_, 1) := by decide +kernel
theorem d_M_worked_180 : decode b_M_worked 180 = .ok (.aload_n 0, 1) := by decide +kernel
theorem d_M_worked_181 : decode b_M_worked 181 = .ok (.iload_n 1, 1) := by decide +kernel
theorem d_M_worked_182 : decode b_M_worked 182 = .ok (.iload 6, 2) := by decide +kernel
theorem d_M_worked_184 : decode b_M_worked 184 = .ok (.invokevirtual 208, 3) := by decide +kernel
theorem d_M_worked_187 : decode b_M_worked 187 = .ok (.iinc 5 1, 3) := by decide +kernel
theorem d_M_worked_190 : decode b_M_worked 190 = .ok (.goto (-79), 3) := by decide +kernel
theorem d_M_worked_193 : decode b_M_worked 193 = .ok (.goto 120, 3) := by decide +kernel
theorem d_M_worked_196 : decode b_M_worked 196 = .ok (.iconst 0, 1) := by decide +kernel
theorem d_M_worked_197 : decode b_M_worked 197 = .ok (.istore 5, 2) := by decide +kernel
theorem d_M_worked_199 : decode b_M_worked 199 = .ok (.iload 5, 2) := by decide +kernel
theorem d_M_worked_201 : decode b_M_worked 201 = .ok (.aload_n 0, 1) := by decide +kernel
theorem d_M_worked_202 : decode b_M_worked 202 = .ok (.getfield 196, 3) := by decide +kernel
theorem d_M_worked_205 : decode b_M_worked 205 = .ok (.if_icmp .ge 35, 3) := by decide +kernel
theorem d_M_worked_208 : decode b_M_worked 208 = .ok (.aload_n 0, 1) := by decide +kernel
theorem d_M_worked_209 : decode b_M_worked 209 = .ok (.iload_n 1, 1) := by decide +kernel
theorem d_M_worked_210 : decode b_M_worked 210 = .ok (.aload_n 0, 1) := by decide +kernel
theorem d_M_worked_211 : decode b_M_worked 211 = .ok (.aload_n 0, 1) := by decide +kernel
theorem d_M_worked_212 : decode b_M_worked 212 = .ok (.getfield 90, 3) := by decide +kernel
theorem d_M_worked_215 : decode b_M_worked 215 = .ok (.iload 5, 2) := by decide +kernel
theorem d_M_worked_217 : decode b_M_worked 217 = .ok (.iaload, 1) := by decide +kernel
theorem d_M_worked_218 : decode b_M_worked 218 = .ok (.invokevirtual 245, 3) := by decide +kernel
theorem d_M_worked_221 : decode b_M_worked 221 = .ok (.ifCond .eq 8, 3) := by decide +kernel
theorem d_M_worked_224 : decode b_M_worked 224 = .ok (.bipush 12, 2) := by decide +kernel
theorem d_M_worked_226 : decode b_M_worked 226 = .ok (.goto 5, 3) := by decide +kernel
theorem d_M_worked_229 : decode b_M_worked 229 = .ok (.bipush 8, 2) := by decide +kernel
theorem d_M_worked_231 : decode b_M_worked 231 = .ok (.invokevirtual 208, 3) := by decide +kernel
theorem d_M_worked_234 : decode b_M_worked 234 = .ok (.iinc 5 1, 3) := by decide +kernel
theorem d_M_worked_237 : decode b_M_worked 237 = .ok (.goto (-38), 3) := by decide +kernel
theorem d_M_worked_240 : decode b_M_worked 240 = .ok (.goto 73, 3) := by decide +kernel
theorem d_M_worked_243 : decode b_M_worked 243 = .ok (.aload_n 0, 1) := by decide +kernel
theorem d_M_worked_244 : decode b_M_worked 244 = .ok (.getfield 54, 3) := by decide +kernel
theorem d_M_worked_247 : decode b_M_worked 247 = .ok (.iload 4, 2) := by decide +kernel
theorem d_M_worked_249 : decode b_M_worked 249 = .ok (.aload_n 0, 1) := by decide +kernel
theorem d_M_worked_250 : decode b_M_worked 250 = .ok (.getfield 78, 3) := by decide +kernel
theorem d_M_worked_253 : decode b_M_worked 253 = .ok (.iload_n 1, 1) := by decide +kernel
theorem d_M_worked_254 : decode b_M_worked 254 = .ok (.iaload, 1) := by decide +kernel
theorem d_M_worked_255 : decode b_M_worked 255 = .ok (.iastore, 1) := by decide +kernel
theorem d_M_worked_256 : decode b_M_worked 256 = .ok (.aload_n 0, 1) := by decide +kernel
theorem d_M_worked_257 : decode b_M_worked 257 = .ok (.iload_n 1, 1) := by decide +kernel
theorem d_M_worked_258 : decode b_M_worked 258 = .ok (.invokevirtual 226, 3) := by decide +kernel
theorem d_M_worked_261 : decode b_M_worked 261 = .ok (.goto 52, 3) := by decide +kernel
theorem d_M_worked_264 : decode b_M_worked 264 = .ok (.aload_n 0, 1) := by decide +kernel
theorem d_M_worked_265 : decode b_M_worked 265 = .ok (.getfield 54, 3) := by decide +kernel
theorem d_M_worked_268 : decode b_M_worked 268 = .ok (.iload 4, 2) := by decide +kernel
theorem d_M_worked_270 : decode b_M_worked 270 = .ok (.aload_n 0, 1) := by decide +kernel
theorem d_M_worked_271 : decode b_M_worked 271 = .ok (.getfield 78, 3) := by decide +kernel
theorem d_M_worked_274 : decode b_M_worked 274 = .ok (.iload_n 1, 1) := by decide +kernel
theorem d_M_worked_275 : decode b_M_worked 275 = .ok (.iaload, 1) := by decide +kernel
theorem d_M_worked_276 : decode b_M_worked 276 = .ok (.iastore, 1) := by decide +kernel
theorem d_M_worked_277 : decode b_M_worked 277 = .ok (.aload_n 0, 1) := by decide +kernel
theorem d_M_worked_278 : decode b_M_worked 278 = .ok (.getfield 75, 3) := by decide +kernel
theorem d_M_worked_281 : decode b_M_worked 281 = .ok (.iload_n 1, 1) := by decide +kernel
theorem d_M_worked_282 : decode b_M_worked 282 = .ok (.aload_n 0, 1) := by decide +kernel
theorem d_M_worked_283 : decode b_M_worked 283 = .ok (.getfield 196, 3) := by decide +kernel
theorem d_M_worked_286 : decode b_M_worked 286 = .ok (.ifCond .le 17, 3) := by decide +kernel
theorem d_M_worked_289 : decode b_M_worked 289 = .ok (.aload_n 0, 1) := by decide +kernel
theorem d_M_worked_290 : decode b_M_worked 290 = .ok (.getfield 90, 3) := by decide +kernel
theorem d_M_worked_293 : decode b_M_worked 293 = .ok (.aload_n 0, 1) := by decide +kernel
theorem d_M_worked_294 : decode b_M_worked 294 = .ok (.getfield 196, 3) := by decide +kernel
theorem d_M_worked_297 : decode b_M_worked 297 = .ok (.iconst 1, 1) := by decide +kernel
theorem d_M_worked_298 : decode b_M_worked 298 = .ok (.isub, 1) := by decide +kernel
theorem d_M_worked_299 : decode b_M_worked 299 = .ok (.iaload, 1) := by decide +kernel
theorem d_M_worked_300 : decode b_M_worked 300 = .ok (.goto 4, 3) := by decide +kernel
theorem d_M_worked_303 : decode b_M_worked 303 = .ok (.iconst 4, 1) := by decide +kernel
theorem d_M_worked_304 : decode b_M_worked 304 = .ok (.iastore, 1) := by decide +kernel
theorem d_M_worked_305 : decode b_M_worked 305 = .ok (.goto 8, 3) := by decide +kernel
theorem d_M_worked_308 : decode b_M_worked 308 = .ok (.aload_n 0, 1) := by decide +kernel
theorem d_M_worked_309 : decode b_M_worked 309 = .ok (.iload_n 1, 1) := by decide +kernel
theorem d_M_worked_310 : decode b_M_worked 310 = .ok (.invokevirtual 226, 3) := by decide +kernel
theorem d_M_worked_313 : decode b_M_worked 313 = .ok (.aload_n 0, 1) := by decide +kernel
theorem d_M_worked_314 : decode b_M_worked 314 = .ok (.getfield 199, 3) := by decide +kernel
theorem d_M_worked_317 : decode b_M_worked 317 = .ok (.ifCond .le 12, 3) := by decide +kernel
theorem d_M_worked_320 : decode b_M_worked 320 = .ok (.aload_n 0, 1) := by decide +kernel
theorem d_M_worked_321 : decode b_M_worked 321 = .ok (.iload_n 1, 1) := by decide +kernel
theorem d_M_worked_322 : decode b_M_worked 322 = .ok (.aload_n 0, 1) := by decide +kernel
theorem d_M_worked_323 : decode b_M_worked 323 = .ok (.getfield 199, 3) := by decide +kernel
theorem d_M_worked_326 : decode b_M_worked 326 = .ok (.invokevirtual 205, 3) := by decide +kernel
theorem d_M_worked_329 : decode b_M_worked 329 = .ok (.return_, 1) := by decide +kernel
theorem d_M_copied_0 : decode b_M_copied 0 = .ok (.aload_n 0, 1) := by decide +kernel
theorem d_M_copied_1 : decode b_M_copied 1 = .ok (.iconst 0, 1) := by decide +kernel
theorem d_M_copied_2 : decode b_M_copied 2 = .ok (.putfield 149, 3) := by decide +kernel
theorem d_M_copied_5 : decode b_M_copied 5 = .ok (.aload_n 0, 1) := by decide +kernel
theorem d_M_copied_6 : decode b_M_copied 6 = .ok (.iload_n 1, 1) := by decide +kernel
theorem d_M_copied_7 : decode b_M_copied 7 = .ok (.iconst 0, 1) := by decide +kernel
theorem d_M_copied_8 : decode b_M_copied 8 = .ok (.invokevirtual 152, 3) := by decide +kernel
theorem d_M_copied_11 : decode b_M_copied 11 = .ok (.iconst 0, 1) := by decide +kernel
theorem d_M_copied_12 : decode b_M_copied 12 = .ok (.istore_n 2, 1) := by decide +kernel
theorem d_M_copied_13 : decode b_M_copied 13 = .ok (.aload_n 0, 1) := by decide +kernel
theorem d_M_copied_14 : decode b_M_copied 14 = .ok (.getfield 149, 3) := by decide +kernel
theorem d_M_copied_17 : decode b_M_copied 17 = .ok (.ifCond .le 227, 3) := by decide +kernel
theorem d_M_copied_20 : decode b_M_copied 20 = .ok (.aload_n 0, 1) := by decide +kernel
theorem d_M_copied_21 : decode b_M_copied 21 = .ok (.dup, 1) := by decide +kernel
theorem d_M_copied_22 : decode b_M_copied 22 = .ok (.getfield 149, 3) := by decide +kernel
theorem d_M_copied_25 : decode b_M_copied 25 = .ok (.iconst 1, 1) := by decide +kernel
theorem d_M_copied_26 : decode b_M_copied 26 = .ok (.isub, 1) := by decide +kernel
theorem d_M_copied_27 : decode b_M_copied 27 = .ok (.putfield 149, 3) := by decide +kernel
theorem d_M_copied_30 : decode b_M_copied 30 = .ok (.aload_n 0, 1) := by decide +kernel
theorem d_M_copied_31 : decode b_M_copied 31 = .ok (.getfield 48, 3) := by decide +kernel
theorem d_M_copied_34 : decode b_M_copied 34 = .ok (.aload_n 0, 1) := by decide +kernel
theorem d_M_copied_35 : decode b_M_copied 35 = .ok (.getfield 149, 3) := by decide +kernel
theorem d_M_copied_38 : decode b_M_copied 38 = .ok (.iaload, 1) := by decide +kernel
theorem d_M_copied_39 : decode b_M_copied 39 = .ok (.istore_n 3, 1) := by decide +kernel
theorem d_M_copied_40 : decode b_M_copied 40 = .ok (.aload_n 0, 1) := by decide +kernel
theorem d_M_copied_41 : decode b_M_copied 41 = .ok (.getfield 51, 3) := by decide +kernel
theorem d_M_copied_44 : decode b_M_copied 44 = .ok (.aload_n 0, 1) := by decide +kernel
theorem d_M_copied_45 : decode b_M_copied 45 = .ok (.getfield 149, 3) := by decide +kernel
theorem d_M_copied_48 : decode b_M_copied 48 = .ok (.iaload, 1) := by decide +kernel
theorem d_M_copied_49 : decode b_M_copied 49 = .ok (.istore 4, 2) := by decide +kernel
theorem d_M_copied_51 : decode b_M_copied 51 = .ok (.aload_n 0, 1) := by decide +kernel
theorem d_M_copied_52 : decode b_M_copied 52 = .ok (.getfield 26, 3) := by decide +kernel
theorem d_M_copied_55 : decode b_M_copied 55 = .ok (.iload_n 3, 1) := by decide +kernel
theorem d_M_copied_56 : decode b_M_copied 56 = .ok (.iaload, 1) := by decide +kernel
theorem d_M_copied_57 : decode b_M_copied 57 = .ok (.istore 5, 2) := by decide +kernel
theorem d_M_copied_59 : decode b_M_copied 59 = .ok (.aload_n 0, 1) := by decide +kernel
theorem d_M_copied_60 : decode b_M_copied 60 = .ok (.getfield 26, 3) := by decide +kernel
theorem d_M_copied_63 : decode b_M_copied 63 = .ok (.iload_n 3, 1) := by decide +kernel
theorem d_M_copied_64 : decode b_M_copied 64 = .ok (.iconst 3, 1) := by decide +kernel
theorem d_M_copied_65 : decode b_M_copied 65 = .ok (.iadd, 1) := by decide +kernel
theorem d_M_copied_66 : decode b_M_copied 66 = .ok (.iaload, 1) := by decide +kernel
theorem d_M_copied_67 : decode b_M_copied 67 = .ok (.istore 6, 2) := by decide +kernel
theorem d_M_copied_69 : decode b_M_copied 69 = .ok (.iload 5, 2) := by decide +kernel
theorem d_M_copied_71 : decode b_M_copied 71 = .ok (.iconst 3, 1) := by decide +kernel
theorem d_M_copied_72 : decode b_M_copied 72 = .ok (.if_icmp .ne 7, 3) := by decide +kernel
theorem d_M_copied_75 : decode b_M_copied 75 = .ok (.iconst 2, 1) := by decide +kernel
theorem d_M_copied_76 : decode b_M_copied 76 = .ok (.goto 19, 3) := by decide +kernel
theorem d_M_copied_79 : decode b_M_copied 79 = .ok (.iload 5, 2) := by decide +kernel
theorem d_M_copied_81 : decode b_M_copied 81 = .ok (.bipush 6, 2) := by decide +kernel
theorem d_M_copied_83 : decode b_M_copied 83 = .ok (.if_icmp .ne 10, 3) := by decide +kernel
theorem d_M_copied_86 : decode b_M_copied 86 = .ok (.iconst 2, 1) := by decide +kernel
theorem d_M_copied_87 : decode b_M_copied 87 = .ok (.iload 6, 2) := by decide +kernel
theorem d_M_copied_89 : decode b_M_copied 89 = .ok (.imul, 1) := by decide +kernel
theorem d_M_copied_90 : decode b_M_copied 90 = .ok (.goto 5, 3) := by decide +kernel
theorem d_M_copied_93 : decode b_M_copied 93 = .ok (.iload 6, 2) := by decide +kernel
theorem d_M_copied_95 : decode b_M_copied 95 = .ok (.istore 7, 2) := by decide +kernel
theorem d_M_copied_97 : decode b_M_copied 97 = .ok (.iload 5, 2) := by decide +kernel
theorem d_M_copied_99 : decode b_M_copied 99 = .ok (.iconst 3, 1) := by decide +kernel
theorem d_M_copied_100 : decode b_M_copied 100 = .ok (.if_icmp .ge 12, 3) := by decide +kernel
theorem d_M_copied_103 : decode b_M_copied 103 = .ok (.iconst 4, 1) := by decide +kernel
theorem d_M_copied_104 : decode b_M_copied 104 = .ok (.iconst 4, 1) := by decide +kernel
theorem d_M_copied_105 : decode b_M_copied 105 = .ok (.iload 5, 2) := by decide +kernel
theorem d_M_copied_107 : decode b_M_copied 107 = .ok (.imul, 1) := by decide +kernel
theorem d_M_copied_108 : decode b_M_copied 108 = .ok (.iadd, 1) := by decide +kernel
theorem d_M_copied_109 : decode b_M_copied 109 = .ok (.goto 7, 3) := by decide +kernel
theorem d_M_copied_112 : decode b_M_copied 112 = .ok (.aload_n 0, 1) := by decide +kernel
theorem d_M_copied_113 : decode b_M_copied 113 = .ok (.getfield 336, 3) := by decide +kernel
theorem d_M_copied_116 : decode b_M_copied 116 = .ok (.istore 8, 2) := by decide +kernel
theorem d_M_copied_118 : decode b_M_copied 118 = .ok (.iload 4, 2) := by decide +kernel
theorem d_M_copied_120 : decode b_M_copied 120 = .ok (.ifCond .ne 9, 3) := by decide +kernel
theorem d_M_copied_123 : decode b_M_copied 123 = .ok (.iload 8, 2) := by decide +kernel
theorem d_M_copied_125 : decode b_M_copied 125 = .ok (.istore_n 2, 1) := by decide +kernel
theorem d_M_copied_126 : decode b_M_copied 126 = .ok (.goto 12, 3) := by decide +kernel
theorem d_M_copied_129 : decode b_M_copied 129 = .ok (.aload_n 0, 1) := by decide +kernel
theorem d_M_copied_130 : decode b_M_copied 130 = .ok (.getfield 29, 3) := by decide +kernel
theorem d_M_copied_133 : decode b_M_copied 133 = .ok (.iload 4, 2) := by decide +kernel
theorem d_M_copied_135 : decode b_M_copied 135 = .ok (.iload 8, 2) := by decide +kernel
theorem d_M_copied_137 : decode b_M_copied 137 = .ok (.iastore, 1) := by decide +kernel
theorem d_M_copied_138 : decode b_M_copied 138 = .ok (.iload 5, 2) := by decide +kernel
theorem d_M_copied_140 : decode b_M_copied 140 = .ok (.iconst 3, 1) := by decide +kernel
theorem d_M_copied_141 : decode b_M_copied 141 = .ok (.if_icmp .ge 6, 3) := by decide +kernel
theorem d_M_copied_144 : decode b_M_copied 144 = .ok (.goto (-131), 3) := by decide +kernel
theorem d_M_copied_147 : decode b_M_copied 147 = .ok (.aload_n 0, 1) := by decide +kernel
theorem d_M_copied_148 : decode b_M_copied 148 = .ok (.dup, 1) := by decide +kernel
theorem d_M_copied_149 : decode b_M_copied 149 = .ok (.getfield 336, 3) := by decide +kernel
theorem d_M_copied_152 : decode b_M_copied 152 = .ok (.iconst 4, 1) := by decide +kernel
theorem d_M_copied_153 : decode b_M_copied 153 = .ok (.iload 7, 2) := by decide +kernel
theorem d_M_copied_155 : decode b_M_copied 155 = .ok (.iadd, 1) := by decide +kernel
theorem d_M_copied_156 : decode b_M_copied 156 = .ok (.iadd, 1) := by decide +kernel
theorem d_M_copied_157 : decode b_M_copied 157 = .ok (.putfield 336, 3) := by decide +kernel
theorem d_M_copied_160 : decode b_M_copied 160 = .ok (.iconst 0, 1) := by decide +kernel
theorem d_M_copied_161 : decode b_M_copied 161 = .ok (.istore 9, 2) := by decide +kernel
theorem d_M_copied_163 : decode b_M_copied 163 = .ok (.iload 9, 2) := by decide +kernel
theorem d_M_copied_165 : decode b_M_copied 165 = .ok (.iconst 4, 1) := by decide +kernel
theorem d_M_copied_166 : decode b_M_copied 166 = .ok (.iload 7, 2) := by decide +kernel
theorem d_M_copied_168 : decode b_M_copied 168 = .ok (.iadd, 1) := by decide +kernel
theorem d_M_copied_169 : decode b_M_copied 169 = .ok (.if_icmp .ge 28, 3) := by decide +kernel
theorem d_M_copied_172 : decode b_M_copied 172 = .ok (.aload_n 0, 1) := by decide +kernel
theorem d_M_copied_173 : decode b_M_copied 173 = .ok (.getfield 29, 3) := by decide +kernel
theorem d_M_copied_176 : decode b_M_copied 176 = .ok (.iload 8, 2) := by decide +kernel
theorem d_M_copied_178 : decode b_M_copied 178 = .ok (.iload 9, 2) := by decide +kernel
theorem d_M_copied_180 : decode b_M_copied 180 = .ok (.iadd, 1) := by decide +kernel
theorem d_M_copied_181 : decode b_M_copied 181 = .ok (.aload_n 0, 1) := by decide +kernel
theorem d_M_copied_182 : decode b_M_copied 182 = .ok (.getfield 26, 3) := by decide +kernel
theorem d_M_copied_185 : decode b_M_copied 185 = .ok (.iload_n 3, 1) := by decide +kernel
theorem d_M_copied_186 : decode b_M_copied 186 = .ok (.iload 9, 2) := by decide +kernel
theorem d_M_copied_188 : decode b_M_copied 188 = .ok (.iadd, 1) := by decide +kernel
theorem d_M_copied_189 : decode b_M_copied 189 = .ok (.iaload, 1) := by decide +kernel
theorem d_M_copied_190 : decode b_M_copied 190 = .ok (.iastore, 1) := by decide +kernel
theorem d_M_copied_191 : decode b_M_copied 191 = .ok (.iinc 9 1, 3) := by decide +kernel
theorem d_M_copied_194 : decode b_M_copied 194 = .ok (.goto (-31), 3) := by decide +kernel
theorem d_M_copied_197 : decode b_M_copied 197 = .ok (.iconst 0, 1) := by decide +kernel
theorem d_M_copied_198 : decode b_M_copied 198 = .ok (.istore 9, 2) := by decide +kernel
theorem d_M_copied_200 : decode b_M_copied 200 = .ok (.iload 9, 2) := by decide +kernel
theorem d_M_copied_202 : decode b_M_copied 202 = .ok (.iload 7, 2) := by decide +kernel
theorem d_M_copied_204 : decode b_M_copied 204 = .ok (.if_icmp .ge 37, 3) := by decide +kernel
theorem d_M_copied_207 : decode b_M_copied 207 = .ok (.iload 5, 2) := by decide +kernel
theorem d_M_copied_209 : decode b_M_copied 209 = .ok (.iconst 4, 1) := by decide +kernel
theorem d_M_copied_210 : decode b_M_copied 210 = .ok (.if_icmp .le 31, 3) := by decide +kernel
theorem d_M_copied_213 : decode b_M_copied 213 = .ok (.aload_n 0, 1) := by decide +kernel
theorem d_M_copied_214 : decode b_M_copied 214 = .ok (.aload_n 0, 1) := by decide +kernel
theorem d_M_copied_215 : decode b_M_copied 215 = .ok (.getfield 26, 3) := by decide +kernel
theorem d_M_copied_218 : decode b_M_copied 218 = .ok (.iload_n 3, 1) := by decide +kernel
theorem d_M_copied_219 : decode b_M_copied 219 = .ok (.iconst 4, 1) := by decide +kernel
theorem d_M_copied_220 : decode b_M_copied 220 = .ok (.iadd, 1) := by decide +kernel
theorem d_M_copied_221 : decode b_M_copied 221 = .ok (.iload 9, 2) := by decide +kernel
theorem d_M_copied_223 : decode b_M_copied 223 = .ok (.iadd, 1) := by decide +kernel
theorem d_M_copied_224 : decode b_M_copied 224 = .ok (.iaload, 1) := by decide +kernel
theorem d_M_copied_225 : decode b_M_copied 225 = .ok (.iload 8, 2) := by decide +kernel
theorem d_M_copied_227 : decode b_M_copied 227 = .ok (.iconst 4, 1) := by decide +kernel
theorem d_M_copied_228 : decode b_M_copied 228 = .ok (.iadd, 1) := by decide +kernel
theorem d_M_copied_229 : decode b_M_copied 229 = .ok (.iload 9, 2) := by decide +kernel
theorem d_M_copied_231 : decode b_M_copied 231 = .ok (.iadd, 1) := by decide +kernel
theorem d_M_copied_232 : decode b_M_copied 232 = .ok (.invokevirtual 152, 3) := by decide +kernel
theorem d_M_copied_235 : decode b_M_copied 235 = .ok (.iinc 9 1, 3) := by decide +kernel
theorem d_M_copied_238 : decode b_M_copied 238 = .ok (.goto (-38), 3) := by decide +kernel
theorem d_M_copied_241 : decode b_M_copied 241 = .ok (.goto (-228), 3) := by decide +kernel
theorem d_M_copied_244 : decode b_M_copied 244 = .ok (.iload_n 2, 1) := by decide +kernel
theorem d_M_copied_245 : decode b_M_copied 245 = .ok (.ireturn, 1) := by decide +kernel
theorem d_M_sweep_0 : decode b_M_sweep 0 = .ok (.aload_n 0, 1) := by decide +kernel
theorem d_M_sweep_1 : decode b_M_sweep 1 = .ok (.bipush 16, 2) := by decide +kernel
theorem d_M_sweep_3 : decode b_M_sweep 3 = .ok (.putfield 336, 3) := by decide +kernel
theorem d_M_sweep_6 : decode b_M_sweep 6 = .ok (.iconst 0, 1) := by decide +kernel
theorem d_M_sweep_7 : decode b_M_sweep 7 = .ok (.istore_n 1, 1) := by decide +kernel
theorem d_M_sweep_8 : decode b_M_sweep 8 = .ok (.iload_n 1, 1) := by decide +kernel
theorem d_M_sweep_9 : decode b_M_sweep 9 = .ok (.bipush 8, 2) := by decide +kernel
theorem d_M_sweep_11 : decode b_M_sweep 11 = .ok (.if_icmp .ge 25, 3) := by decide +kernel
theorem d_M_sweep_14 : decode b_M_sweep 14 = .ok (.aload_n 0, 1) := by decide +kernel
theorem d_M_sweep_15 : decode b_M_sweep 15 = .ok (.getfield 32, 3) := by decide +kernel
theorem d_M_sweep_18 : decode b_M_sweep 18 = .ok (.iload_n 1, 1) := by decide +kernel
theorem d_M_sweep_19 : decode b_M_sweep 19 = .ok (.aload_n 0, 1) := by decide +kernel
theorem d_M_sweep_20 : decode b_M_sweep 20 = .ok (.aload_n 0, 1) := by decide +kernel
theorem d_M_sweep_21 : decode b_M_sweep 21 = .ok (.getfield 32, 3) := by decide +kernel
theorem d_M_sweep_24 : decode b_M_sweep 24 = .ok (.iload_n 1, 1) := by decide +kernel
theorem d_M_sweep_25 : decode b_M_sweep 25 = .ok (.iaload, 1) := by decide +kernel
theorem d_M_sweep_26 : decode b_M_sweep 26 = .ok (.invokevirtual 339, 3) := by decide +kernel
theorem d_M_sweep_29 : decode b_M_sweep 29 = .ok (.iastore, 1) := by decide +kernel
theorem d_M_sweep_30 : decode b_M_sweep 30 = .ok (.iinc 1 1, 3) := by decide +kernel
theorem d_M_sweep_33 : decode b_M_sweep 33 = .ok (.goto (-25), 3) := by decide +kernel
theorem d_M_sweep_36 : decode b_M_sweep 36 = .ok (.bipush 16, 2) := by decide +kernel
theorem d_M_sweep_38 : decode b_M_sweep 38 = .ok (.istore_n 1, 1) := by decide +kernel
theorem d_M_sweep_39 : decode b_M_sweep 39 = .ok (.iload_n 1, 1) := by decide +kernel
theorem d_M_sweep_40 : decode b_M_sweep 40 = .ok (.aload_n 0, 1) := by decide +kernel
theorem d_M_sweep_41 : decode b_M_sweep 41 = .ok (.getfield 336, 3) := by decide +kernel
theorem d_M_sweep_44 : decode b_M_sweep 44 = .ok (.if_icmp .ge 21, 3) := by decide +kernel
theorem d_M_sweep_47 : decode b_M_sweep 47 = .ok (.aload_n 0, 1) := by decide +kernel
theorem d_M_sweep_48 : decode b_M_sweep 48 = .ok (.getfield 26, 3) := by decide +kernel
theorem d_M_sweep_51 : decode b_M_sweep 51 = .ok (.iload_n 1, 1) := by decide +kernel
theorem d_M_sweep_52 : decode b_M_sweep 52 = .ok (.aload_n 0, 1) := by decide +kernel
theorem d_M_sweep_53 : decode b_M_sweep 53 = .ok (.getfield 29, 3) := by decide +kernel
theorem d_M_sweep_56 : decode b_M_sweep 56 = .ok (.iload_n 1, 1) := by decide +kernel
theorem d_M_sweep_57 : decode b_M_sweep 57 = .ok (.iaload, 1) := by decide +kernel
theorem d_M_sweep_58 : decode b_M_sweep 58 = .ok (.iastore, 1) := by decide +kernel
theorem d_M_sweep_59 : decode b_M_sweep 59 = .ok (.iinc 1 1, 3) := by decide +kernel
theorem d_M_sweep_62 : decode b_M_sweep 62 = .ok (.goto (-23), 3) := by decide +kernel
theorem d_M_sweep_65 : decode b_M_sweep 65 = .ok (.aload_n 0, 1) := by decide +kernel
theorem d_M_sweep_66 : decode b_M_sweep 66 = .ok (.aload_n 0, 1) := by decide +kernel
theorem d_M_sweep_67 : decode b_M_sweep 67 = .ok (.getfield 336, 3) := by decide +kernel
theorem d_M_sweep_70 : decode b_M_sweep 70 = .ok (.putfield 96, 3) := by decide +kernel
theorem d_M_sweep_73 : decode b_M_sweep 73 = .ok (.return_, 1) := by decide +kernel
theorem d_M_run_0 : decode b_M_run 0 = .ok (.aload_n 0, 1) := by decide +kernel
theorem d_M_run_1 : decode b_M_run 1 = .ok (.iconst 0, 1) := by decide +kernel
theorem d_M_run_2 : decode b_M_run 2 = .ok (.putfield 99, 3) := by decide +kernel
theorem d_M_run_5 : decode b_M_run 5 = .ok (.iload_n 1, 1) := by decide +kernel
theorem d_M_run_6 : decode b_M_run 6 = .ok (.iconst 0, 1) := by decide +kernel
theorem d_M_run_7 : decode b_M_run 7 = .ok (.iconst 3, 1) := by decide +kernel
theorem d_M_run_8 : decode b_M_run 8 = .ok (.invokestatic 171, 3) := by decide +kernel
theorem d_M_run_11 : decode b_M_run 11 = .ok (.ifCond .eq 13, 3) := by decide +kernel
theorem d_M_run_14 : decode b_M_run 14 = .ok (.iload_n 2, 1) := by decide +kernel
theorem d_M_run_15 : decode b_M_run 15 = .ok (.iconst 0, 1) := by decide +kernel
theorem d_M_run_16 : decode b_M_run 16 = .ok (.bipush 7, 2) := by decide +kernel
theorem d_M_run_18 : decode b_M_run 18 = .ok (.invokestatic 171, 3) := by decide +kernel
theorem d_M_run_21 : decode b_M_run 21 = .ok (.ifCond .ne 9, 3) := by decide +kernel
theorem d_M_run_24 : decode b_M_run 24 = .ok (.aload_n 0, 1) := by decide +kernel
theorem d_M_run_25 : decode b_M_run 25 = .ok (.iconst 1, 1) := by decide +kernel
theorem d_M_run_26 : decode b_M_run 26 = .ok (.invokevirtual 175, 3) := by decide +kernel
theorem d_M_run_29 : decode b_M_run 29 = .ok (.ireturn, 1) := by decide +kernel
theorem d_M_run_30 : decode b_M_run 30 = .ok (.aload_n 0, 1) := by decide +kernel
theorem d_M_run_31 : decode b_M_run 31 = .ok (.iload_n 1, 1) := by decide +kernel
theorem d_M_run_32 : decode b_M_run 32 = .ok (.invokevirtual 342, 3) := by decide +kernel
theorem d_M_run_35 : decode b_M_run 35 = .ok (.ifCond .ne 9, 3) := by decide +kernel
theorem d_M_run_38 : decode b_M_run 38 = .ok (.aload_n 0, 1) := by decide +kernel
theorem d_M_run_39 : decode b_M_run 39 = .ok (.iconst 2, 1) := by decide +kernel
theorem d_M_run_40 : decode b_M_run 40 = .ok (.invokevirtual 175, 3) := by decide +kernel
theorem d_M_run_43 : decode b_M_run 43 = .ok (.ireturn, 1) := by decide +kernel
theorem d_M_run_44 : decode b_M_run 44 = .ok (.aload_n 0, 1) := by decide +kernel
theorem d_M_run_45 : decode b_M_run 45 = .ok (.invokevirtual 345, 3) := by decide +kernel
theorem d_M_run_48 : decode b_M_run 48 = .ok (.aload_n 0, 1) := by decide +kernel
theorem d_M_run_49 : decode b_M_run 49 = .ok (.iconst 0, 1) := by decide +kernel
theorem d_M_run_50 : decode b_M_run 50 = .ok (.putfield 348, 3) := by decide +kernel
theorem d_M_run_53 : decode b_M_run 53 = .ok (.aload_n 0, 1) := by decide +kernel
theorem d_M_run_54 : decode b_M_run 54 = .ok (.iconst 4, 1) := by decide +kernel
theorem d_M_run_55 : decode b_M_run 55 = .ok (.putfield 38, 3) := by decide +kernel
theorem d_M_run_58 : decode b_M_run 58 = .ok (.aload_n 0, 1) := by decide +kernel
theorem d_M_run_59 : decode b_M_run 59 = .ok (.iconst 0, 1) := by decide +kernel
theorem d_M_run_60 : decode b_M_run 60 = .ok (.putfield 184, 3) := by decide +kernel
theorem d_M_run_63 : decode b_M_run 63 = .ok (.aload_n 0, 1) := by decide +kernel
theorem d_M_run_64 : decode b_M_run 64 = .ok (.iconst 0, 1) := by decide +kernel
theorem d_M_run_65 : decode b_M_run 65 = .ok (.putfield 104, 3) := by decide +kernel
theorem d_M_run_68 : decode b_M_run 68 = .ok (.aload_n 0, 1) := by decide +kernel
theorem d_M_run_69 : decode b_M_run 69 = .ok (.iconst 0, 1) := by decide +kernel
theorem d_M_run_70 : decode b_M_run 70 = .ok (.putfield 187, 3) := by decide +kernel
theorem d_M_run_73 : decode b_M_run 73 = .ok (.aload_n 0, 1) := by decide +kernel
theorem d_M_run_74 : decode b_M_run 74 = .ok (.iconst 0, 1) := by decide +kernel
theorem d_M_run_75 : decode b_M_run 75 = .ok (.putfield 199, 3) := by decide +kernel
theorem d_M_run_78 : decode b_M_run 78 = .ok (.iconst 0, 1) := by decide +kernel
theorem d_M_run_79 : decode b_M_run 79 = .ok (.istore_n 3, 1) := by decide +kernel
theorem d_M_run_80 : decode b_M_run 80 = .ok (.iload_n 3, 1) := by decide +kernel
theorem d_M_run_81 : decode b_M_run 81 = .ok (.iconst 4, 1) := by decide +kernel
theorem d_M_run_82 : decode b_M_run 82 = .ok (.if_icmp .ge 16, 3) := by decide +kernel
theorem d_M_run_85 : decode b_M_run 85 = .ok (.aload_n 0, 1) := by decide +kernel
theorem d_M_run_86 : decode b_M_run 86 = .ok (.getfield 54, 3) := by decide +kernel
theorem d_M_run_89 : decode b_M_run 89 = .ok (.iload_n 3, 1) := by decide +kernel
theorem d_M_run_90 : decode b_M_run 90 = .ok (.iconst 4, 1) := by decide +kernel
theorem d_M_run_91 : decode b_M_run 91 = .ok (.iastore, 1) := by decide +kernel
theorem d_M_run_92 : decode b_M_run 92 = .ok (.iinc 3 1, 3) := by decide +kernel
theorem d_M_run_95 : decode b_M_run 95 = .ok (.goto (-15), 3) := by decide +kernel
theorem d_M_run_98 : decode b_M_run 98 = .ok (.aload_n 0, 1) := by decide +kernel
theorem d_M_run_99 : decode b_M_run 99 = .ok (.bipush 32, 2) := by decide +kernel
theorem d_M_run_101 : decode b_M_run 101 = .ok (.iload_n 1, 1) := by decide +kernel
theorem d_M_run_102 : decode b_M_run 102 = .ok (.imul, 1) := by decide +kernel
theorem d_M_run_103 : decode b_M_run 103 = .ok (.aload_n 0, 1) := by decide +kernel
theorem d_M_run_104 : decode b_M_run 104 = .ok (.getfield 32, 3) := by decide +kernel
theorem d_M_run_107 : decode b_M_run 107 = .ok (.iload_n 2, 1) := by decide +kernel
theorem d_M_run_108 : decode b_M_run 108 = .ok (.iaload, 1) := by decide +kernel
theorem d_M_run_109 : decode b_M_run 109 = .ok (.invokevirtual 193, 3) := by decide +kernel
theorem d_M_run_112 : decode b_M_run 112 = .ok (.aload_n 0, 1) := by decide +kernel
theorem d_M_run_113 : decode b_M_run 113 = .ok (.getfield 187, 3) := by decide +kernel
theorem d_M_run_116 : decode b_M_run 116 = .ok (.ifCond .le 43, 3) := by decide +kernel
theorem d_M_run_119 : decode b_M_run 119 = .ok (.aload_n 0, 1) := by decide +kernel
theorem d_M_run_120 : decode b_M_run 120 = .ok (.getfield 104, 3) := by decide +kernel
theorem d_M_run_123 : decode b_M_run 123 = .ok (.ifCond .ne 36, 3) := by decide +kernel
theorem d_M_run_126 : decode b_M_run 126 = .ok (.aload_n 0, 1) := by decide +kernel
theorem d_M_run_127 : decode b_M_run 127 = .ok (.getfield 187, 3) := by decide +kernel
theorem d_M_run_130 : decode b_M_run 130 = .ok (.iconst 1, 1) := by decide +kernel
theorem d_M_run_131 : decode b_M_run 131 = .ok (.isub, 1) := by decide +kernel
theorem d_M_run_132 : decode b_M_run 132 = .ok (.istore_n 3, 1) := by decide +kernel
theorem d_M_run_133 : decode b_M_run 133 = .ok (.aload_n 0, 1) := by decide +kernel
theorem d_M_run_134 : decode b_M_run 134 = .ok (.getfield 63, 3) := by decide +kernel
theorem d_M_run_137 : decode b_M_run 137 = .ok (.iload_n 3, 1) := by decide +kernel
theorem d_M_run_138 : decode b_M_run 138 = .ok (.iaload, 1) := by decide +kernel
theorem d_M_run_139 : decode b_M_run 139 = .ok (.iconst 5, 1) := by decide +kernel
theorem d_M_run_140 : decode b_M_run 140 = .ok (.if_icmp .ne 11, 3) := by decide +kernel
theorem d_M_run_143 : decode b_M_run 143 = .ok (.aload_n 0, 1) := by decide +kernel
theorem d_M_run_144 : decode b_M_run 144 = .ok (.iload_n 3, 1) := by decide +kernel
theorem d_M_run_145 : decode b_M_run 145 = .ok (.invokevirtual 311, 3) := by decide +kernel
theorem d_M_run_148 : decode b_M_run 148 = .ok (.goto 8, 3) := by decide +kernel
theorem d_M_run_151 : decode b_M_run 151 = .ok (.aload_n 0, 1) := by decide +kernel
theorem d_M_run_152 : decode b_M_run 152 = .ok (.iload_n 3, 1) := by decide +kernel
theorem d_M_run_153 : decode b_M_run 153 = .ok (.invokevirtual 351, 3) := by decide +kernel
theorem d_M_run_156 : decode b_M_run 156 = .ok (.goto (-44), 3) := by decide +kernel
theorem d_M_run_159 : decode b_M_run 159 = .ok (.aload_n 0, 1) := by decide +kernel
theorem d_M_run_160 : decode b_M_run 160 = .ok (.getfield 104, 3) := by decide +kernel
theorem d_M_run_163 : decode b_M_run 163 = .ok (.ifCond .eq 24, 3) := by decide +kernel
theorem d_M_run_166 : decode b_M_run 166 = .ok (.aload_n 0, 1) := by decide +kernel
theorem d_M_run_167 : decode b_M_run 167 = .ok (.iconst 0, 1) := by decide +kernel
theorem d_M_run_168 : decode b_M_run 168 = .ok (.putfield 184, 3) := by decide +kernel
theorem d_M_run_171 : decode b_M_run 171 = .ok (.aload_n 0, 1) := by decide +kernel
theorem d_M_run_172 : decode b_M_run 172 = .ok (.dup, 1) := by decide +kernel
theorem d_M_run_173 : decode b_M_run 173 = .ok (.getfield 354, 3) := by decide +kernel
theorem d_M_run_176 : decode b_M_run 176 = .ok (.iconst 1, 1) := by decide +kernel
theorem d_M_run_177 : decode b_M_run 177 = .ok (.iadd, 1) := by decide +kernel
theorem d_M_run_178 : decode b_M_run 178 = .ok (.putfield 354, 3) := by decide +kernel
theorem d_M_run_181 : decode b_M_run 181 = .ok (.aload_n 0, 1) := by decide +kernel
theorem d_M_run_182 : decode b_M_run 182 = .ok (.iconst 4, 1) := by decide +kernel
theorem d_M_run_183 : decode b_M_run 183 = .ok (.invokevirtual 175, 3) := by decide +kernel
theorem d_M_run_186 : decode b_M_run 186 = .ok (.ireturn, 1) := by decide +kernel
theorem d_M_run_187 : decode b_M_run 187 = .ok (.aload_n 0, 1) := by decide +kernel
theorem d_M_run_188 : decode b_M_run 188 = .ok (.aload_n 0, 1) := by decide +kernel
theorem d_M_run_189 : decode b_M_run 189 = .ok (.getfield 196, 3) := by decide +kernel
theorem d_M_run_192 : decode b_M_run 192 = .ok (.putfield 348, 3) := by decide +kernel
theorem d_M_run_195 : decode b_M_run 195 = .ok (.iconst 0, 1) := by decide +kernel
theorem d_M_run_196 : decode b_M_run 196 = .ok (.istore_n 3, 1) := by decide +kernel
theorem d_M_run_197 : decode b_M_run 197 = .ok (.iload_n 3, 1) := by decide +kernel
theorem d_M_run_198 : decode b_M_run 198 = .ok (.aload_n 0, 1) := by decide +kernel
theorem d_M_run_199 : decode b_M_run 199 = .ok (.getfield 196, 3) := by decide +kernel
theorem d_M_run_202 : decode b_M_run 202 = .ok (.if_icmp .ge 21, 3) := by decide +kernel
theorem d_M_run_205 : decode b_M_run 205 = .ok (.aload_n 0, 1) := by decide +kernel
theorem d_M_run_206 : decode b_M_run 206 = .ok (.getfield 35, 3) := by decide +kernel
theorem d_M_run_209 : decode b_M_run 209 = .ok (.iload_n 3, 1) := by decide +kernel
theorem d_M_run_210 : decode b_M_run 210 = .ok (.aload_n 0, 1) := by decide +kernel
theorem d_M_run_211 : decode b_M_run 211 = .ok (.getfield 90, 3) := by decide +kernel
theorem d_M_run_214 : decode b_M_run 214 = .ok (.iload_n 3, 1) := by decide +kernel
theorem d_M_run_215 : decode b_M_run 215 = .ok (.iaload, 1) := by decide +kernel
theorem d_M_run_216 : decode b_M_run 216 = .ok (.iastore, 1) := by decide +kernel
theorem d_M_run_217 : decode b_M_run 217 = .ok (.iinc 3 1, 3) := by decide +kernel
theorem d_M_run_220 : decode b_M_run 220 = .ok (.goto (-23), 3) := by decide +kernel
theorem d_M_run_223 : decode b_M_run 223 = .ok (.aload_n 0, 1) := by decide +kernel
theorem d_M_run_224 : decode b_M_run 224 = .ok (.getfield 199, 3) := by decide +kernel
theorem d_M_run_227 : decode b_M_run 227 = .ok (.ifCond .ne 8, 3) := by decide +kernel
theorem d_M_run_230 : decode b_M_run 230 = .ok (.aload_n 0, 1) := by decide +kernel
theorem d_M_run_231 : decode b_M_run 231 = .ok (.getfield 348, 3) := by decide +kernel
theorem d_M_run_234 : decode b_M_run 234 = .ok (.ireturn, 1) := by decide +kernel
theorem d_M_run_235 : decode b_M_run 235 = .ok (.aload_n 0, 1) := by decide +kernel
theorem d_M_run_236 : decode b_M_run 236 = .ok (.aload_n 0, 1) := by decide +kernel
theorem d_M_run_237 : decode b_M_run 237 = .ok (.getfield 199, 3) := by decide +kernel
theorem d_M_run_240 : decode b_M_run 240 = .ok (.putfield 38, 3) := by decide +kernel
theorem d_M_run_243 : decode b_M_run 243 = .ok (.aload_n 0, 1) := by decide +kernel
theorem d_M_run_244 : decode b_M_run 244 = .ok (.dup, 1) := by decide +kernel
theorem d_M_run_245 : decode b_M_run 245 = .ok (.getfield 357, 3) := by decide +kernel
theorem d_M_run_248 : decode b_M_run 248 = .ok (.iconst 1, 1) := by decide +kernel
theorem d_M_run_249 : decode b_M_run 249 = .ok (.iadd, 1) := by decide +kernel
theorem d_M_run_250 : decode b_M_run 250 = .ok (.putfield 357, 3) := by decide +kernel
theorem d_M_run_253 : decode b_M_run 253 = .ok (.aload_n 0, 1) := by decide +kernel
theorem d_M_run_254 : decode b_M_run 254 = .ok (.iconst 3, 1) := by decide +kernel
theorem d_M_run_255 : decode b_M_run 255 = .ok (.invokevirtual 175, 3) := by decide +kernel
theorem d_M_run_258 : decode b_M_run 258 = .ok (.ireturn, 1) := by decide +kernel
theorem d_M_keep_0 : decode b_M_keep 0 = .ok (.aload_n 0, 1) := by decide +kernel
theorem d_M_keep_1 : decode b_M_keep 1 = .ok (.iconst 0, 1) := by decide +kernel
theorem d_M_keep_2 : decode b_M_keep 2 = .ok (.putfield 99, 3) := by decide +kernel
theorem d_M_keep_5 : decode b_M_keep 5 = .ok (.iload_n 1, 1) := by decide +kernel
theorem d_M_keep_6 : decode b_M_keep 6 = .ok (.iconst 0, 1) := by decide +kernel
theorem d_M_keep_7 : decode b_M_keep 7 = .ok (.bipush 7, 2) := by decide +kernel
theorem d_M_keep_9 : decode b_M_keep 9 = .ok (.invokestatic 171, 3) := by decide +kernel
theorem d_M_keep_12 : decode b_M_keep 12 = .ok (.ifCond .ne 9, 3) := by decide +kernel
theorem d_M_keep_15 : decode b_M_keep 15 = .ok (.aload_n 0, 1) := by decide +kernel
theorem d_M_keep_16 : decode b_M_keep 16 = .ok (.iconst 1, 1) := by decide +kernel
theorem d_M_keep_17 : decode b_M_keep 17 = .ok (.invokevirtual 175, 3) := by decide +kernel
theorem d_M_keep_20 : decode b_M_keep 20 = .ok (.ireturn, 1) := by decide +kernel
theorem d_M_keep_21 : decode b_M_keep 21 = .ok (.iload_n 2, 1) := by decide +kernel
theorem d_M_keep_22 : decode b_M_keep 22 = .ok (.iconst (-1), 1) := by decide +kernel
theorem d_M_keep_23 : decode b_M_keep 23 = .ok (.aload_n 0, 1) := by decide +kernel
theorem d_M_keep_24 : decode b_M_keep 24 = .ok (.getfield 348, 3) := by decide +kernel
theorem d_M_keep_27 : decode b_M_keep 27 = .ok (.iconst 1, 1) := by decide +kernel
theorem d_M_keep_28 : decode b_M_keep 28 = .ok (.isub, 1) := by decide +kernel
theorem d_M_keep_29 : decode b_M_keep 29 = .ok (.invokestatic 171, 3) := by decide +kernel
theorem d_M_keep_32 : decode b_M_keep 32 = .ok (.ifCond .ne 9, 3) := by decide +kernel
theorem d_M_keep_35 : decode b_M_keep 35 = .ok (.aload_n 0, 1) := by decide +kernel
theorem d_M_keep_36 : decode b_M_keep 36 = .ok (.iconst 2, 1) := by decide +kernel
theorem d_M_keep_37 : decode b_M_keep 37 = .ok (.invokevirtual 175, 3) := by decide +kernel
theorem d_M_keep_40 : decode b_M_keep 40 = .ok (.ireturn, 1) := by decide +kernel
theorem d_M_keep_41 : decode b_M_keep 41 = .ok (.aload_n 0, 1) := by decide +kernel
theorem d_M_keep_42 : decode b_M_keep 42 = .ok (.getfield 32, 3) := by decide +kernel
theorem d_M_keep_45 : decode b_M_keep 45 = .ok (.iload_n 1, 1) := by decide +kernel
theorem d_M_keep_46 : decode b_M_keep 46 = .ok (.iload_n 2, 1) := by decide +kernel
theorem d_M_keep_47 : decode b_M_keep 47 = .ok (.ifCond .ge 10, 3) := by decide +kernel
theorem d_M_keep_50 : decode b_M_keep 50 = .ok (.aload_n 0, 1) := by decide +kernel
theorem d_M_keep_51 : decode b_M_keep 51 = .ok (.getfield 38, 3) := by decide +kernel
theorem d_M_keep_54 : decode b_M_keep 54 = .ok (.goto 9, 3) := by decide +kernel
theorem d_M_keep_57 : decode b_M_keep 57 = .ok (.aload_n 0, 1) := by decide +kernel
theorem d_M_keep_58 : decode b_M_keep 58 = .ok (.getfield 35, 3) := by decide +kernel
theorem d_M_keep_61 : decode b_M_keep 61 = .ok (.iload_n 2, 1) := by decide +kernel
theorem d_M_keep_62 : decode b_M_keep 62 = .ok (.iaload, 1) := by decide +kernel
theorem d_M_keep_63 : decode b_M_keep 63 = .ok (.iastore, 1) := by decide +kernel
theorem d_M_keep_64 : decode b_M_keep 64 = .ok (.aload_n 0, 1) := by decide +kernel
theorem d_M_keep_65 : decode b_M_keep 65 = .ok (.getfield 26, 3) := by decide +kernel
theorem d_M_keep_68 : decode b_M_keep 68 = .ok (.aload_n 0, 1) := by decide +kernel
theorem d_M_keep_69 : decode b_M_keep 69 = .ok (.getfield 32, 3) := by decide +kernel
theorem d_M_keep_72 : decode b_M_keep 72 = .ok (.iload_n 1, 1) := by decide +kernel
theorem d_M_keep_73 : decode b_M_keep 73 = .ok (.iaload, 1) := by decide +kernel
theorem d_M_keep_74 : decode b_M_keep 74 = .ok (.iconst 1, 1) := by decide +kernel
theorem d_M_keep_75 : decode b_M_keep 75 = .ok (.iadd, 1) := by decide +kernel
theorem d_M_keep_76 : decode b_M_keep 76 = .ok (.iaload, 1) := by decide +kernel
theorem d_M_keep_77 : decode b_M_keep 77 = .ok (.ireturn, 1) := by decide +kernel
theorem d_M_part_0 : decode b_M_part 0 = .ok (.aload_n 0, 1) := by decide +kernel
theorem d_M_part_1 : decode b_M_part 1 = .ok (.iload_n 1, 1) := by decide +kernel
theorem d_M_part_2 : decode b_M_part 2 = .ok (.iconst 0, 1) := by decide +kernel
theorem d_M_part_3 : decode b_M_part 3 = .ok (.bipush 7, 2) := by decide +kernel
theorem d_M_part_5 : decode b_M_part 5 = .ok (.invokestatic 171, 3) := by decide +kernel
theorem d_M_part_8 : decode b_M_part 8 = .ok (.ifCond .ne 7, 3) := by decide +kernel
theorem d_M_part_11 : decode b_M_part 11 = .ok (.iconst 1, 1) := by decide +kernel
theorem d_M_part_12 : decode b_M_part 12 = .ok (.goto 29, 3) := by decide +kernel
theorem d_M_part_15 : decode b_M_part 15 = .ok (.iload_n 2, 1) := by decide +kernel
theorem d_M_part_16 : decode b_M_part 16 = .ok (.ifCond .lt 20, 3) := by decide +kernel
theorem d_M_part_19 : decode b_M_part 19 = .ok (.iload_n 2, 1) := by decide +kernel
theorem d_M_part_20 : decode b_M_part 20 = .ok (.aload_n 0, 1) := by decide +kernel
theorem d_M_part_21 : decode b_M_part 21 = .ok (.getfield 26, 3) := by decide +kernel
theorem d_M_part_24 : decode b_M_part 24 = .ok (.aload_n 0, 1) := by decide +kernel
theorem d_M_part_25 : decode b_M_part 25 = .ok (.getfield 32, 3) := by decide +kernel
theorem d_M_part_28 : decode b_M_part 28 = .ok (.iload_n 1, 1) := by decide +kernel
theorem d_M_part_29 : decode b_M_part 29 = .ok (.iaload, 1) := by decide +kernel
theorem d_M_part_30 : decode b_M_part 30 = .ok (.iconst 1, 1) := by decide +kernel
theorem d_M_part_31 : decode b_M_part 31 = .ok (.iadd, 1) := by decide +kernel
theorem d_M_part_32 : decode b_M_part 32 = .ok (.iaload, 1) := by decide +kernel
theorem d_M_part_33 : decode b_M_part 33 = .ok (.if_icmp .lt 7, 3) := by decide +kernel
theorem d_M_part_36 : decode b_M_part 36 = .ok (.iconst 2, 1) := by decide +kernel
theorem d_M_part_37 : decode b_M_part 37 = .ok (.goto 4, 3) := by decide +kernel
theorem d_M_part_40 : decode b_M_part 40 = .ok (.iconst 0, 1) := by decide +kernel
theorem d_M_part_41 : decode b_M_part 41 = .ok (.putfield 99, 3) := by decide +kernel
theorem d_M_part_44 : decode b_M_part 44 = .ok (.aload_n 0, 1) := by decide +kernel
theorem d_M_part_45 : decode b_M_part 45 = .ok (.getfield 99, 3) := by decide +kernel
theorem d_M_part_48 : decode b_M_part 48 = .ok (.ifCond .eq 5, 3) := by decide +kernel
theorem d_M_part_51 : decode b_M_part 51 = .ok (.iconst (-1), 1) := by decide +kernel
theorem d_M_part_52 : decode b_M_part 52 = .ok (.ireturn, 1) := by decide +kernel
theorem d_M_part_53 : decode b_M_part 53 = .ok (.aload_n 0, 1) := by decide +kernel
theorem d_M_part_54 : decode b_M_part 54 = .ok (.iconst 0, 1) := by decide +kernel
theorem d_M_part_55 : decode b_M_part 55 = .ok (.putfield 149, 3) := by decide +kernel
theorem d_M_part_58 : decode b_M_part 58 = .ok (.aload_n 0, 1) := by decide +kernel
theorem d_M_part_59 : decode b_M_part 59 = .ok (.aload_n 0, 1) := by decide +kernel
theorem d_M_part_60 : decode b_M_part 60 = .ok (.getfield 32, 3) := by decide +kernel
theorem d_M_part_63 : decode b_M_part 63 = .ok (.iload_n 1, 1) := by decide +kernel
theorem d_M_part_64 : decode b_M_part 64 = .ok (.iaload, 1) := by decide +kernel
theorem d_M_part_65 : decode b_M_part 65 = .ok (.iconst 0, 1) := by decide +kernel
theorem d_M_part_66 : decode b_M_part 66 = .ok (.invokevirtual 152, 3) := by decide +kernel
theorem d_M_part_69 : decode b_M_part 69 = .ok (.iload_n 2, 1) := by decide +kernel
theorem d_M_part_70 : decode b_M_part 70 = .ok (.istore_n 3, 1) := by decide +kernel
theorem d_M_part_71 : decode b_M_part 71 = .ok (.iload_n 3, 1) := by decide +kernel
theorem d_M_part_72 : decode b_M_part 72 = .ok (.ifCond .lt 122, 3) := by decide +kernel
theorem d_M_part_75 : decode b_M_part 75 = .ok (.aload_n 0, 1) := by decide +kernel
theorem d_M_part_76 : decode b_M_part 76 = .ok (.dup, 1) := by decide +kernel
theorem d_M_part_77 : decode b_M_part 77 = .ok (.getfield 149, 3) := by decide +kernel
theorem d_M_part_80 : decode b_M_part 80 = .ok (.iconst 1, 1) := by decide +kernel
theorem d_M_part_81 : decode b_M_part 81 = .ok (.isub, 1) := by decide +kernel
theorem d_M_part_82 : decode b_M_part 82 = .ok (.putfield 149, 3) := by decide +kernel
theorem d_M_part_85 : decode b_M_part 85 = .ok (.aload_n 0, 1) := by decide +kernel
theorem d_M_part_86 : decode b_M_part 86 = .ok (.getfield 48, 3) := by decide +kernel
theorem d_M_part_89 : decode b_M_part 89 = .ok (.aload_n 0, 1) := by decide +kernel
theorem d_M_part_90 : decode b_M_part 90 = .ok (.getfield 149, 3) := by decide +kernel
theorem d_M_part_93 : decode b_M_part 93 = .ok (.iaload, 1) := by decide +kernel
theorem d_M_part_94 : decode b_M_part 94 = .ok (.istore 4, 2) := by decide +kernel
theorem d_M_part_96 : decode b_M_part 96 = .ok (.aload_n 0, 1) := by decide +kernel
theorem d_M_part_97 : decode b_M_part 97 = .ok (.getfield 42, 3) := by decide +kernel
theorem d_M_part_100 : decode b_M_part 100 = .ok (.bipush 62, 2) := by decide +kernel
theorem d_M_part_102 : decode b_M_part 102 = .ok (.aload_n 0, 1) := by decide +kernel
theorem d_M_part_103 : decode b_M_part 103 = .ok (.getfield 51, 3) := by decide +kernel
theorem d_M_part_106 : decode b_M_part 106 = .ok (.aload_n 0, 1) := by decide +kernel
theorem d_M_part_107 : decode b_M_part 107 = .ok (.getfield 149, 3) := by decide +kernel
theorem d_M_part_110 : decode b_M_part 110 = .ok (.iaload, 1) := by decide +kernel
theorem d_M_part_111 : decode b_M_part 111 = .ok (.iastore, 1) := by decide +kernel
theorem d_M_part_112 : decode b_M_part 112 = .ok (.iload_n 3, 1) := by decide +kernel
theorem d_M_part_113 : decode b_M_part 113 = .ok (.ifCond .ne 6, 3) := by decide +kernel
theorem d_M_part_116 : decode b_M_part 116 = .ok (.iload 4, 2) := by decide +kernel
theorem d_M_part_118 : decode b_M_part 118 = .ok (.ireturn, 1) := by decide +kernel
theorem d_M_part_119 : decode b_M_part 119 = .ok (.iinc 3 (-1), 3) := by decide +kernel
theorem d_M_part_122 : decode b_M_part 122 = .ok (.aload_n 0, 1) := by decide +kernel
theorem d_M_part_123 : decode b_M_part 123 = .ok (.iload 4, 2) := by decide +kernel
theorem d_M_part_125 : decode b_M_part 125 = .ok (.invokevirtual 156, 3) := by decide +kernel
theorem d_M_part_128 : decode b_M_part 128 = .ok (.iconst 5, 1) := by decide +kernel
theorem d_M_part_129 : decode b_M_part 129 = .ok (.if_icmp .ge 6, 3) := by decide +kernel
theorem d_M_part_132 : decode b_M_part 132 = .ok (.goto (-61), 3) := by decide +kernel
theorem d_M_part_135 : decode b_M_part 135 = .ok (.aload_n 0, 1) := by decide +kernel
theorem d_M_part_136 : decode b_M_part 136 = .ok (.iload 4, 2) := by decide +kernel
theorem d_M_part_138 : decode b_M_part 138 = .ok (.invokevirtual 136, 3) := by decide +kernel
theorem d_M_part_141 : decode b_M_part 141 = .ok (.iconst 1, 1) := by decide +kernel
theorem d_M_part_142 : decode b_M_part 142 = .ok (.isub, 1) := by decide +kernel
theorem d_M_part_143 : decode b_M_part 143 = .ok (.istore 5, 2) := by decide +kernel
theorem d_M_part_145 : decode b_M_part 145 = .ok (.iload 5, 2) := by decide +kernel
theorem d_M_part_147 : decode b_M_part 147 = .ok (.ifCond .lt 44, 3) := by decide +kernel
theorem d_M_part_150 : decode b_M_part 150 = .ok (.aload_n 0, 1) := by decide +kernel
theorem d_M_part_151 : decode b_M_part 151 = .ok (.aload_n 0, 1) := by decide +kernel
theorem d_M_part_152 : decode b_M_part 152 = .ok (.iload 4, 2) := by decide +kernel
theorem d_M_part_154 : decode b_M_part 154 = .ok (.iload 5, 2) := by decide +kernel
theorem d_M_part_156 : decode b_M_part 156 = .ok (.invokevirtual 139, 3) := by decide +kernel
theorem d_M_part_159 : decode b_M_part 159 = .ok (.aload_n 0, 1) := by decide +kernel
theorem d_M_part_160 : decode b_M_part 160 = .ok (.iload 4, 2) := by decide +kernel
theorem d_M_part_162 : decode b_M_part 162 = .ok (.invokevirtual 156, 3) := by decide +kernel
theorem d_M_part_165 : decode b_M_part 165 = .ok (.bipush 6, 2) := by decide +kernel
theorem d_M_part_167 : decode b_M_part 167 = .ok (.if_icmp .ne 14, 3) := by decide +kernel
theorem d_M_part_170 : decode b_M_part 170 = .ok (.aload_n 0, 1) := by decide +kernel
theorem d_M_part_171 : decode b_M_part 171 = .ok (.iload 4, 2) := by decide +kernel
theorem d_M_part_173 : decode b_M_part 173 = .ok (.iload 5, 2) := by decide +kernel
theorem d_M_part_175 : decode b_M_part 175 = .ok (.invokevirtual 165, 3) := by decide +kernel
theorem d_M_part_178 : decode b_M_part 178 = .ok (.goto 4, 3) := by decide +kernel
theorem d_M_part_181 : decode b_M_part 181 = .ok (.iconst 0, 1) := by decide +kernel
theorem d_M_part_182 : decode b_M_part 182 = .ok (.invokevirtual 152, 3) := by decide +kernel
theorem d_M_part_185 : decode b_M_part 185 = .ok (.iinc 5 (-1), 3) := by decide +kernel
theorem d_M_part_188 : decode b_M_part 188 = .ok (.goto (-43), 3) := by decide +kernel
theorem d_M_part_191 : decode b_M_part 191 = .ok (.goto (-120), 3) := by decide +kernel
theorem d_M_part_194 : decode b_M_part 194 = .ok (.iconst (-1), 1) := by decide +kernel
theorem d_M_part_195 : decode b_M_part 195 = .ok (.ireturn, 1) := by decide +kernel
theorem d_M_kind_0 : decode b_M_kind 0 = .ok (.aload_n 0, 1) := by decide +kernel
theorem d_M_kind_1 : decode b_M_kind 1 = .ok (.iload_n 1, 1) := by decide +kernel
theorem d_M_kind_2 : decode b_M_kind 2 = .ok (.iload_n 2, 1) := by decide +kernel
theorem d_M_kind_3 : decode b_M_kind 3 = .ok (.invokevirtual 360, 3) := by decide +kernel
theorem d_M_kind_6 : decode b_M_kind 6 = .ok (.istore_n 3, 1) := by decide +kernel
theorem d_M_kind_7 : decode b_M_kind 7 = .ok (.iload_n 3, 1) := by decide +kernel
theorem d_M_kind_8 : decode b_M_kind 8 = .ok (.ifCond .ge 7, 3) := by decide +kernel
theorem d_M_kind_11 : decode b_M_kind 11 = .ok (.iconst 0, 1) := by decide +kernel
theorem d_M_kind_12 : decode b_M_kind 12 = .ok (.goto 8, 3) := by decide +kernel
theorem d_M_kind_15 : decode b_M_kind 15 = .ok (.aload_n 0, 1) := by decide +kernel
theorem d_M_kind_16 : decode b_M_kind 16 = .ok (.iload_n 3, 1) := by decide +kernel
theorem d_M_kind_17 : decode b_M_kind 17 = .ok (.invokevirtual 156, 3) := by decide +kernel
theorem d_M_kind_20 : decode b_M_kind 20 = .ok (.ireturn, 1) := by decide +kernel
theorem d_M_length_0 : decode b_M_length 0 = .ok (.aload_n 0, 1) := by decide +kernel
theorem d_M_length_1 : decode b_M_length 1 = .ok (.iload_n 1, 1) := by decide +kernel
theorem d_M_length_2 : decode b_M_length 2 = .ok (.iload_n 2, 1) := by decide +kernel
theorem d_M_length_3 : decode b_M_length 3 = .ok (.invokevirtual 360, 3) := by decide +kernel
theorem d_M_length_6 : decode b_M_length 6 = .ok (.istore_n 3, 1) := by decide +kernel
theorem d_M_length_7 : decode b_M_length 7 = .ok (.iload_n 3, 1) := by decide +kernel
theorem d_M_length_8 : decode b_M_length 8 = .ok (.ifCond .lt 12, 3) := by decide +kernel
theorem d_M_length_11 : decode b_M_length 11 = .ok (.aload_n 0, 1) := by decide +kernel
theorem d_M_length_12 : decode b_M_length 12 = .ok (.iload_n 3, 1) := by decide +kernel
theorem d_M_length_13 : decode b_M_length 13 = .ok (.invokevirtual 156, 3) := by decide +kernel
theorem d_M_length_16 : decode b_M_length 16 = .ok (.iconst 4, 1) := by decide +kernel
theorem d_M_length_17 : decode b_M_length 17 = .ok (.if_icmp .ge 7, 3) := by decide +kernel
theorem d_M_length_20 : decode b_M_length 20 = .ok (.iconst 0, 1) := by decide +kernel
theorem d_M_length_21 : decode b_M_length 21 = .ok (.goto 8, 3) := by decide +kernel
theorem d_M_length_24 : decode b_M_length 24 = .ok (.aload_n 0, 1) := by decide +kernel
theorem d_M_length_25 : decode b_M_length 25 = .ok (.iload_n 3, 1) := by decide +kernel
theorem d_M_length_26 : decode b_M_length 26 = .ok (.invokevirtual 136, 3) := by decide +kernel
theorem d_M_length_29 : decode b_M_length 29 = .ok (.ireturn, 1) := by decide +kernel
theorem d_M_number_0 : decode b_M_number 0 = .ok (.aload_n 0, 1) := by decide +kernel
theorem d_M_number_1 : decode b_M_number 1 = .ok (.iload_n 1, 1) := by decide +kernel
theorem d_M_number_2 : decode b_M_number 2 = .ok (.iload_n 2, 1) := by decide +kernel
theorem d_M_number_3 : decode b_M_number 3 = .ok (.invokevirtual 360, 3) := by decide +kernel
theorem d_M_number_6 : decode b_M_number 6 = .ok (.istore 4, 2) := by decide +kernel
theorem d_M_number_8 : decode b_M_number 8 = .ok (.iload 4, 2) := by decide +kernel
theorem d_M_number_10 : decode b_M_number 10 = .ok (.ifCond .lt 13, 3) := by decide +kernel
theorem d_M_number_13 : decode b_M_number 13 = .ok (.aload_n 0, 1) := by decide +kernel
theorem d_M_number_14 : decode b_M_number 14 = .ok (.iload 4, 2) := by decide +kernel
theorem d_M_number_16 : decode b_M_number 16 = .ok (.invokevirtual 156, 3) := by decide +kernel
theorem d_M_number_19 : decode b_M_number 19 = .ok (.iconst 3, 1) := by decide +kernel
theorem d_M_number_20 : decode b_M_number 20 = .ok (.if_icmp .eq 5, 3) := by decide +kernel
theorem d_M_number_23 : decode b_M_number 23 = .ok (.iconst 0, 1) := by decide +kernel
theorem d_M_number_24 : decode b_M_number 24 = .ok (.ireturn, 1) := by decide +kernel
theorem d_M_number_25 : decode b_M_number 25 = .ok (.iload_n 3, 1) := by decide +kernel
theorem d_M_number_26 : decode b_M_number 26 = .ok (.ifCond .eq 12, 3) := by decide +kernel
theorem d_M_number_29 : decode b_M_number 29 = .ok (.aload_n 0, 1) := by decide +kernel
theorem d_M_number_30 : decode b_M_number 30 = .ok (.iload 4, 2) := by decide +kernel
theorem d_M_number_32 : decode b_M_number 32 = .ok (.invokevirtual 126, 3) := by decide +kernel
theorem d_M_number_35 : decode b_M_number 35 = .ok (.goto 10, 3) := by decide +kernel
theorem d_M_number_38 : decode b_M_number 38 = .ok (.aload_n 0, 1) := by decide +kernel
theorem d_M_number_39 : decode b_M_number 39 = .ok (.iload 4, 2) := by decide +kernel
theorem d_M_number_41 : decode b_M_number 41 = .ok (.invokevirtual 289, 3) := by decide +kernel
theorem d_M_number_44 : decode b_M_number 44 = .ok (.l2i, 1) := by decide +kernel
theorem d_M_number_45 : decode b_M_number 45 = .ok (.ireturn, 1) := by decide +kernel
theorem d_M_character_0 : decode b_M_character 0 = .ok (.aload_n 0, 1) := by decide +kernel
theorem d_M_character_1 : decode b_M_character 1 = .ok (.iload_n 1, 1) := by decide +kernel
theorem d_M_character_2 : decode b_M_character 2 = .ok (.iload_n 2, 1) := by decide +kernel
theorem d_M_character_3 : decode b_M_character 3 = .ok (.invokevirtual 360, 3) := by decide +kernel
theorem d_M_character_6 : decode b_M_character 6 = .ok (.istore 5, 2) := by decide +kernel
theorem d_M_character_8 : decode b_M_character 8 = .ok (.iload 5, 2) := by decide +kernel
theorem d_M_character_10 : decode b_M_character 10 = .ok (.ifCond .ge 5, 3) := by decide +kernel
theorem d_M_character_13 : decode b_M_character 13 = .ok (.iconst 0, 1) := by decide +kernel
theorem d_M_character_14 : decode b_M_character 14 = .ok (.ireturn, 1) := by decide +kernel
theorem d_M_character_15 : decode b_M_character 15 = .ok (.iload 4, 2) := by decide +kernel
theorem d_M_character_17 : decode b_M_character 17 = .ok (.ifCond .eq 13, 3) := by decide +kernel
theorem d_M_character_20 : decode b_M_character 20 = .ok (.aload_n 0, 1) := by decide +kernel
theorem d_M_character_21 : decode b_M_character 21 = .ok (.getfield 42, 3) := by decide +kernel
theorem d_M_character_24 : decode b_M_character 24 = .ok (.bipush 62, 2) := by decide +kernel
theorem d_M_character_26 : decode b_M_character 26 = .ok (.iaload, 1) := by decide +kernel
theorem d_M_character_27 : decode b_M_character 27 = .ok (.goto 19, 3) := by decide +kernel
theorem d_M_character_30 : decode b_M_character 30 = .ok (.aload_n 0, 1) := by decide +kernel
theorem d_M_character_31 : decode b_M_character 31 = .ok (.iload 5, 2) := by decide +kernel
theorem d_M_character_33 : decode b_M_character 33 = .ok (.invokevirtual 156, 3) := by decide +kernel
theorem d_M_character_36 : decode b_M_character 36 = .ok (.iconst 4, 1) := by decide +kernel
theorem d_M_character_37 : decode b_M_character 37 = .ok (.if_icmp .ne 8, 3) := by decide +kernel
theorem d_M_character_40 : decode b_M_character 40 = .ok (.iload 5, 2) := by decide +kernel
theorem d_M_character_42 : decode b_M_character 42 = .ok (.goto 4, 3) := by decide +kernel
theorem d_M_character_45 : decode b_M_character 45 = .ok (.iconst 0, 1) := by decide +kernel
theorem d_M_character_46 : decode b_M_character 46 = .ok (.istore 6, 2) := by decide +kernel
theorem d_M_character_48 : decode b_M_character 48 = .ok (.iload 6, 2) := by decide +kernel
theorem d_M_character_50 : decode b_M_character 50 = .ok (.ifCond .eq 17, 3) := by decide +kernel
theorem d_M_character_53 : decode b_M_character 53 = .ok (.iload_n 3, 1) := by decide +kernel
theorem d_M_character_54 : decode b_M_character 54 = .ok (.ifCond .lt 13, 3) := by decide +kernel
theorem d_M_character_57 : decode b_M_character 57 = .ok (.iload_n 3, 1) := by decide +kernel
theorem d_M_character_58 : decode b_M_character 58 = .ok (.aload_n 0, 1) := by decide +kernel
theorem d_M_character_59 : decode b_M_character 59 = .ok (.iload 6, 2) := by decide +kernel
theorem d_M_character_61 : decode b_M_character 61 = .ok (.invokevirtual 136, 3) := by decide +kernel
theorem d_M_character_64 : decode b_M_character 64 = .ok (.if_icmp .lt 11, 3) := by decide +kernel
theorem d_M_character_67 : decode b_M_character 67 = .ok (.aload_n 0, 1) := by decide +kernel
theorem d_M_character_68 : decode b_M_character 68 = .ok (.iconst 2, 1) := by decide +kernel
theorem d_M_character_69 : decode b_M_character 69 = .ok (.invokevirtual 175, 3) := by decide +kernel
theorem d_M_character_72 : decode b_M_character 72 = .ok (.goto 14, 3) := by decide +kernel
theorem d_M_character_75 : decode b_M_character 75 = .ok (.aload_n 0, 1) := by decide +kernel
theorem d_M_character_76 : decode b_M_character 76 = .ok (.getfield 26, 3) := by decide +kernel
theorem d_M_character_79 : decode b_M_character 79 = .ok (.iload 6, 2) := by decide +kernel
theorem d_M_character_81 : decode b_M_character 81 = .ok (.iconst 4, 1) := by decide +kernel
theorem d_M_character_82 : decode b_M_character 82 = .ok (.iadd, 1) := by decide +kernel
theorem d_M_character_83 : decode b_M_character 83 = .ok (.iload_n 3, 1) := by decide +kernel
theorem d_M_character_84 : decode b_M_character 84 = .ok (.iadd, 1) := by decide +kernel
theorem d_M_character_85 : decode b_M_character 85 = .ok (.iaload, 1) := by decide +kernel
theorem d_M_character_86 : decode b_M_character 86 = .ok (.ireturn, 1) := by decide +kernel
theorem d_M_order_0 : decode b_M_order 0 = .ok (.aload_n 0, 1) := by decide +kernel
theorem d_M_order_1 : decode b_M_order 1 = .ok (.iconst 0, 1) := by decide +kernel
theorem d_M_order_2 : decode b_M_order 2 = .ok (.putfield 99, 3) := by decide +kernel
theorem d_M_order_5 : decode b_M_order 5 = .ok (.iload_n 1, 1) := by decide +kernel
theorem d_M_order_6 : decode b_M_order 6 = .ok (.iconst 0, 1) := by decide +kernel
theorem d_M_order_7 : decode b_M_order 7 = .ok (.bipush 7, 2) := by decide +kernel
theorem d_M_order_9 : decode b_M_order 9 = .ok (.invokestatic 171, 3) := by decide +kernel
theorem d_M_order_12 : decode b_M_order 12 = .ok (.ifCond .eq 13, 3) := by decide +kernel
theorem d_M_order_15 : decode b_M_order 15 = .ok (.iload_n 2, 1) := by decide +kernel
theorem d_M_order_16 : decode b_M_order 16 = .ok (.iconst 0, 1) := by decide +kernel
theorem d_M_order_17 : decode b_M_order 17 = .ok (.bipush 7, 2) := by decide +kernel
theorem d_M_order_19 : decode b_M_order 19 = .ok (.invokestatic 171, 3) := by decide +kernel
theorem d_M_order_22 : decode b_M_order 22 = .ok (.ifCond .ne 9, 3) := by decide +kernel
theorem d_M_order_25 : decode b_M_order 25 = .ok (.aload_n 0, 1) := by decide +kernel
theorem d_M_order_26 : decode b_M_order 26 = .ok (.iconst 1, 1) := by decide +kernel
theorem d_M_order_27 : decode b_M_order 27 = .ok (.invokevirtual 175, 3) := by decide +kernel
theorem d_M_order_30 : decode b_M_order 30 = .ok (.ireturn, 1) := by decide +kernel
theorem d_M_order_31 : decode b_M_order 31 = .ok (.aload_n 0, 1) := by decide +kernel
theorem d_M_order_32 : decode b_M_order 32 = .ok (.aload_n 0, 1) := by decide +kernel
theorem d_M_order_33 : decode b_M_order 33 = .ok (.getfield 32, 3) := by decide +kernel
theorem d_M_order_36 : decode b_M_order 36 = .ok (.iload_n 1, 1) := by decide +kernel
theorem d_M_order_37 : decode b_M_order 37 = .ok (.iaload, 1) := by decide +kernel
theorem d_M_order_38 : decode b_M_order 38 = .ok (.aload_n 0, 1) := by decide +kernel
theorem d_M_order_39 : decode b_M_order 39 = .ok (.getfield 32, 3) := by decide +kernel
theorem d_M_order_42 : decode b_M_order 42 = .ok (.iload_n 2, 1) := by decide +kernel
theorem d_M_order_43 : decode b_M_order 43 = .ok (.iaload, 1) := by decide +kernel
theorem d_M_order_44 : decode b_M_order 44 = .ok (.invokevirtual 168, 3) := by decide +kernel
theorem d_M_order_47 : decode b_M_order 47 = .ok (.ireturn, 1) := by decide +kernel
theorem d_M_count_0 : decode b_M_count 0 = .ok (.aload_n 0, 1) := by decide +kernel
theorem d_M_count_1 : decode b_M_count 1 = .ok (.iconst 0, 1) := by decide +kernel
theorem d_M_count_2 : decode b_M_count 2 = .ok (.putfield 99, 3) := by decide +kernel
theorem d_M_count_5 : decode b_M_count 5 = .ok (.iload_n 1, 1) := by decide +kernel
theorem d_M_count_6 : decode b_M_count 6 = .ok (.ifCond .ne 10, 3) := by decide +kernel
theorem d_M_count_9 : decode b_M_count 9 = .ok (.aload_n 0, 1) := by decide +kernel
theorem d_M_count_10 : decode b_M_count 10 = .ok (.getfield 348, 3) := by decide +kernel
theorem d_M_count_13 : decode b_M_count 13 = .ok (.goto 40, 3) := by decide +kernel
theorem d_M_count_16 : decode b_M_count 16 = .ok (.iload_n 1, 1) := by decide +kernel
theorem d_M_count_17 : decode b_M_count 17 = .ok (.iconst 1, 1) := by decide +kernel
theorem d_M_count_18 : decode b_M_count 18 = .ok (.if_icmp .ne 10, 3) := by decide +kernel
theorem d_M_count_21 : decode b_M_count 21 = .ok (.aload_n 0, 1) := by decide +kernel
theorem d_M_count_22 : decode b_M_count 22 = .ok (.getfield 184, 3) := by decide +kernel
theorem d_M_count_25 : decode b_M_count 25 = .ok (.goto 28, 3) := by decide +kernel
theorem d_M_count_28 : decode b_M_count 28 = .ok (.iload_n 1, 1) := by decide +kernel
theorem d_M_count_29 : decode b_M_count 29 = .ok (.iconst 2, 1) := by decide +kernel
theorem d_M_count_30 : decode b_M_count 30 = .ok (.if_icmp .ne 10, 3) := by decide +kernel
theorem d_M_count_33 : decode b_M_count 33 = .ok (.aload_n 0, 1) := by decide +kernel
theorem d_M_count_34 : decode b_M_count 34 = .ok (.getfield 357, 3) := by decide +kernel
theorem d_M_count_37 : decode b_M_count 37 = .ok (.goto 16, 3) := by decide +kernel
theorem d_M_count_40 : decode b_M_count 40 = .ok (.iload_n 1, 1) := by decide +kernel
theorem d_M_count_41 : decode b_M_count 41 = .ok (.iconst 3, 1) := by decide +kernel
theorem d_M_count_42 : decode b_M_count 42 = .ok (.if_icmp .ne 10, 3) := by decide +kernel
theorem d_M_count_45 : decode b_M_count 45 = .ok (.aload_n 0, 1) := by decide +kernel
theorem d_M_count_46 : decode b_M_count 46 = .ok (.getfield 354, 3) := by decide +kernel
theorem d_M_count_49 : decode b_M_count 49 = .ok (.goto 4, 3) := by decide +kernel
theorem d_M_count_52 : decode b_M_count 52 = .ok (.iconst (-1), 1) := by decide +kernel
theorem d_M_count_53 : decode b_M_count 53 = .ok (.ireturn, 1) := by decide +kernel
