/-! decode rows of FilterBenchModel, methods 30 to 56 (by program: wip/gen/decs.py) -/
theorem d_M_most_0 : decode b_M_most 0 = .ok (.iload_n 0, 1) := by decide +kernel
theorem d_M_most_1 : decode b_M_most 1 = .ok (.tableswitch 151 1 31 #[139, 151, 151, 151, 151, 151, 139, 146, 151, 151, 139, 142, 144, 151, 151, 151, 151, 151, 151, 142, 142, 142, 151, 151, 151, 151, 151, 151, 151, 151, 148], 139) := by decide +kernel
theorem d_M_most_140 : decode b_M_most 140 = .ok (.bipush 7, 2) := by decide +kernel
theorem d_M_most_142 : decode b_M_most 142 = .ok (.ireturn, 1) := by decide +kernel
theorem d_M_most_143 : decode b_M_most 143 = .ok (.iconst 3, 1) := by decide +kernel
theorem d_M_most_144 : decode b_M_most 144 = .ok (.ireturn, 1) := by decide +kernel
theorem d_M_most_145 : decode b_M_most 145 = .ok (.iconst 5, 1) := by decide +kernel
theorem d_M_most_146 : decode b_M_most 146 = .ok (.ireturn, 1) := by decide +kernel
theorem d_M_most_147 : decode b_M_most 147 = .ok (.iconst 2, 1) := by decide +kernel
theorem d_M_most_148 : decode b_M_most 148 = .ok (.ireturn, 1) := by decide +kernel
theorem d_M_most_149 : decode b_M_most 149 = .ok (.bipush 9, 2) := by decide +kernel
theorem d_M_most_151 : decode b_M_most 151 = .ok (.ireturn, 1) := by decide +kernel
theorem d_M_most_152 : decode b_M_most 152 = .ok (.iconst (-1), 1) := by decide +kernel
theorem d_M_most_153 : decode b_M_most 153 = .ok (.ireturn, 1) := by decide +kernel
theorem d_M_token_0 : decode b_M_token 0 = .ok (.aload_n 0, 1) := by decide +kernel
theorem d_M_token_1 : decode b_M_token 1 = .ok (.iconst 0, 1) := by decide +kernel
theorem d_M_token_2 : decode b_M_token 2 = .ok (.putfield 99, 3) := by decide +kernel
theorem d_M_token_5 : decode b_M_token 5 = .ok (.iload_n 1, 1) := by decide +kernel
theorem d_M_token_6 : decode b_M_token 6 = .ok (.iconst 0, 1) := by decide +kernel
theorem d_M_token_7 : decode b_M_token 7 = .ok (.iconst 3, 1) := by decide +kernel
theorem d_M_token_8 : decode b_M_token 8 = .ok (.invokestatic 171, 3) := by decide +kernel
theorem d_M_token_11 : decode b_M_token 11 = .ok (.ifCond .eq 32, 3) := by decide +kernel
theorem d_M_token_14 : decode b_M_token 14 = .ok (.iload_n 2, 1) := by decide +kernel
theorem d_M_token_15 : decode b_M_token 15 = .ok (.iconst 0, 1) := by decide +kernel
theorem d_M_token_16 : decode b_M_token 16 = .ok (.bipush 34, 2) := by decide +kernel
theorem d_M_token_18 : decode b_M_token 18 = .ok (.invokestatic 171, 3) := by decide +kernel
theorem d_M_token_21 : decode b_M_token 21 = .ok (.ifCond .eq 22, 3) := by decide +kernel
theorem d_M_token_24 : decode b_M_token 24 = .ok (.iload_n 2, 1) := by decide +kernel
theorem d_M_token_25 : decode b_M_token 25 = .ok (.invokestatic 178, 3) := by decide +kernel
theorem d_M_token_28 : decode b_M_token 28 = .ok (.ifCond .lt 21, 3) := by decide +kernel
theorem d_M_token_31 : decode b_M_token 31 = .ok (.iload_n 3, 1) := by decide +kernel
theorem d_M_token_32 : decode b_M_token 32 = .ok (.iconst 0, 1) := by decide +kernel
theorem d_M_token_33 : decode b_M_token 33 = .ok (.iload_n 2, 1) := by decide +kernel
theorem d_M_token_34 : decode b_M_token 34 = .ok (.invokestatic 178, 3) := by decide +kernel
theorem d_M_token_37 : decode b_M_token 37 = .ok (.invokestatic 171, 3) := by decide +kernel
theorem d_M_token_40 : decode b_M_token 40 = .ok (.ifCond .ne 9, 3) := by decide +kernel
theorem d_M_token_43 : decode b_M_token 43 = .ok (.aload_n 0, 1) := by decide +kernel
theorem d_M_token_44 : decode b_M_token 44 = .ok (.iconst 1, 1) := by decide +kernel
theorem d_M_token_45 : decode b_M_token 45 = .ok (.invokevirtual 175, 3) := by decide +kernel
theorem d_M_token_48 : decode b_M_token 48 = .ok (.ireturn, 1) := by decide +kernel
theorem d_M_token_49 : decode b_M_token 49 = .ok (.aload_n 0, 1) := by decide +kernel
theorem d_M_token_50 : decode b_M_token 50 = .ok (.getfield 22, 3) := by decide +kernel
theorem d_M_token_53 : decode b_M_token 53 = .ok (.iload_n 1, 1) := by decide +kernel
theorem d_M_token_54 : decode b_M_token 54 = .ok (.iaload, 1) := by decide +kernel
theorem d_M_token_55 : decode b_M_token 55 = .ok (.bipush 32, 2) := by decide +kernel
theorem d_M_token_57 : decode b_M_token 57 = .ok (.if_icmp .ne 9, 3) := by decide +kernel
theorem d_M_token_60 : decode b_M_token 60 = .ok (.aload_n 0, 1) := by decide +kernel
theorem d_M_token_61 : decode b_M_token 61 = .ok (.iconst 4, 1) := by decide +kernel
theorem d_M_token_62 : decode b_M_token 62 = .ok (.invokevirtual 175, 3) := by decide +kernel
theorem d_M_token_65 : decode b_M_token 65 = .ok (.ireturn, 1) := by decide +kernel
theorem d_M_token_66 : decode b_M_token 66 = .ok (.aload_n 0, 1) := by decide +kernel
theorem d_M_token_67 : decode b_M_token 67 = .ok (.getfield 16, 3) := by decide +kernel
theorem d_M_token_70 : decode b_M_token 70 = .ok (.bipush 32, 2) := by decide +kernel
theorem d_M_token_72 : decode b_M_token 72 = .ok (.iload_n 1, 1) := by decide +kernel
theorem d_M_token_73 : decode b_M_token 73 = .ok (.imul, 1) := by decide +kernel
theorem d_M_token_74 : decode b_M_token 74 = .ok (.aload_n 0, 1) := by decide +kernel
theorem d_M_token_75 : decode b_M_token 75 = .ok (.getfield 22, 3) := by decide +kernel
theorem d_M_token_78 : decode b_M_token 78 = .ok (.iload_n 1, 1) := by decide +kernel
theorem d_M_token_79 : decode b_M_token 79 = .ok (.iaload, 1) := by decide +kernel
theorem d_M_token_80 : decode b_M_token 80 = .ok (.iadd, 1) := by decide +kernel
theorem d_M_token_81 : decode b_M_token 81 = .ok (.iload_n 2, 1) := by decide +kernel
theorem d_M_token_82 : decode b_M_token 82 = .ok (.iastore, 1) := by decide +kernel
theorem d_M_token_83 : decode b_M_token 83 = .ok (.aload_n 0, 1) := by decide +kernel
theorem d_M_token_84 : decode b_M_token 84 = .ok (.getfield 19, 3) := by decide +kernel
theorem d_M_token_87 : decode b_M_token 87 = .ok (.bipush 32, 2) := by decide +kernel
theorem d_M_token_89 : decode b_M_token 89 = .ok (.iload_n 1, 1) := by decide +kernel
theorem d_M_token_90 : decode b_M_token 90 = .ok (.imul, 1) := by decide +kernel
theorem d_M_token_91 : decode b_M_token 91 = .ok (.aload_n 0, 1) := by decide +kernel
theorem d_M_token_92 : decode b_M_token 92 = .ok (.getfield 22, 3) := by decide +kernel
theorem d_M_token_95 : decode b_M_token 95 = .ok (.iload_n 1, 1) := by decide +kernel
theorem d_M_token_96 : decode b_M_token 96 = .ok (.iaload, 1) := by decide +kernel
theorem d_M_token_97 : decode b_M_token 97 = .ok (.iadd, 1) := by decide +kernel
theorem d_M_token_98 : decode b_M_token 98 = .ok (.iload_n 3, 1) := by decide +kernel
theorem d_M_token_99 : decode b_M_token 99 = .ok (.iastore, 1) := by decide +kernel
theorem d_M_token_100 : decode b_M_token 100 = .ok (.aload_n 0, 1) := by decide +kernel
theorem d_M_token_101 : decode b_M_token 101 = .ok (.getfield 22, 3) := by decide +kernel
theorem d_M_token_104 : decode b_M_token 104 = .ok (.iload_n 1, 1) := by decide +kernel
theorem d_M_token_105 : decode b_M_token 105 = .ok (.dup2, 1) := by decide +kernel
theorem d_M_token_106 : decode b_M_token 106 = .ok (.iaload, 1) := by decide +kernel
theorem d_M_token_107 : decode b_M_token 107 = .ok (.iconst 1, 1) := by decide +kernel
theorem d_M_token_108 : decode b_M_token 108 = .ok (.iadd, 1) := by decide +kernel
theorem d_M_token_109 : decode b_M_token 109 = .ok (.iastore, 1) := by decide +kernel
theorem d_M_token_110 : decode b_M_token 110 = .ok (.aload_n 0, 1) := by decide +kernel
theorem d_M_token_111 : decode b_M_token 111 = .ok (.getfield 22, 3) := by decide +kernel
theorem d_M_token_114 : decode b_M_token 114 = .ok (.iload_n 1, 1) := by decide +kernel
theorem d_M_token_115 : decode b_M_token 115 = .ok (.iaload, 1) := by decide +kernel
theorem d_M_token_116 : decode b_M_token 116 = .ok (.ireturn, 1) := by decide +kernel
theorem d_M_wipe_0 : decode b_M_wipe 0 = .ok (.aload_n 0, 1) := by decide +kernel
theorem d_M_wipe_1 : decode b_M_wipe 1 = .ok (.iconst 0, 1) := by decide +kernel
theorem d_M_wipe_2 : decode b_M_wipe 2 = .ok (.putfield 99, 3) := by decide +kernel
theorem d_M_wipe_5 : decode b_M_wipe 5 = .ok (.iload_n 1, 1) := by decide +kernel
theorem d_M_wipe_6 : decode b_M_wipe 6 = .ok (.iconst 0, 1) := by decide +kernel
theorem d_M_wipe_7 : decode b_M_wipe 7 = .ok (.iconst 1, 1) := by decide +kernel
theorem d_M_wipe_8 : decode b_M_wipe 8 = .ok (.invokestatic 171, 3) := by decide +kernel
theorem d_M_wipe_11 : decode b_M_wipe 11 = .ok (.ifCond .eq 21, 3) := by decide +kernel
theorem d_M_wipe_14 : decode b_M_wipe 14 = .ok (.iload_n 2, 1) := by decide +kernel
theorem d_M_wipe_15 : decode b_M_wipe 15 = .ok (.iconst 0, 1) := by decide +kernel
theorem d_M_wipe_16 : decode b_M_wipe 16 = .ok (.iload_n 1, 1) := by decide +kernel
theorem d_M_wipe_17 : decode b_M_wipe 17 = .ok (.ifCond .ne 7, 3) := by decide +kernel
theorem d_M_wipe_20 : decode b_M_wipe 20 = .ok (.iconst 3, 1) := by decide +kernel
theorem d_M_wipe_21 : decode b_M_wipe 21 = .ok (.goto 5, 3) := by decide +kernel
theorem d_M_wipe_24 : decode b_M_wipe 24 = .ok (.bipush 7, 2) := by decide +kernel
theorem d_M_wipe_26 : decode b_M_wipe 26 = .ok (.invokestatic 171, 3) := by decide +kernel
theorem d_M_wipe_29 : decode b_M_wipe 29 = .ok (.ifCond .ne 9, 3) := by decide +kernel
theorem d_M_wipe_32 : decode b_M_wipe 32 = .ok (.aload_n 0, 1) := by decide +kernel
theorem d_M_wipe_33 : decode b_M_wipe 33 = .ok (.iconst 1, 1) := by decide +kernel
theorem d_M_wipe_34 : decode b_M_wipe 34 = .ok (.invokevirtual 175, 3) := by decide +kernel
theorem d_M_wipe_37 : decode b_M_wipe 37 = .ok (.ireturn, 1) := by decide +kernel
theorem d_M_wipe_38 : decode b_M_wipe 38 = .ok (.iload_n 1, 1) := by decide +kernel
theorem d_M_wipe_39 : decode b_M_wipe 39 = .ok (.ifCond .ne 12, 3) := by decide +kernel
theorem d_M_wipe_42 : decode b_M_wipe 42 = .ok (.aload_n 0, 1) := by decide +kernel
theorem d_M_wipe_43 : decode b_M_wipe 43 = .ok (.getfield 22, 3) := by decide +kernel
theorem d_M_wipe_46 : decode b_M_wipe 46 = .ok (.iload_n 2, 1) := by decide +kernel
theorem d_M_wipe_47 : decode b_M_wipe 47 = .ok (.iaload, 1) := by decide +kernel
theorem d_M_wipe_48 : decode b_M_wipe 48 = .ok (.goto 9, 3) := by decide +kernel
theorem d_M_wipe_51 : decode b_M_wipe 51 = .ok (.aload_n 0, 1) := by decide +kernel
theorem d_M_wipe_52 : decode b_M_wipe 52 = .ok (.getfield 13, 3) := by decide +kernel
theorem d_M_wipe_55 : decode b_M_wipe 55 = .ok (.iload_n 2, 1) := by decide +kernel
theorem d_M_wipe_56 : decode b_M_wipe 56 = .ok (.iaload, 1) := by decide +kernel
theorem d_M_wipe_57 : decode b_M_wipe 57 = .ok (.istore_n 3, 1) := by decide +kernel
theorem d_M_wipe_58 : decode b_M_wipe 58 = .ok (.iload_n 1, 1) := by decide +kernel
theorem d_M_wipe_59 : decode b_M_wipe 59 = .ok (.ifCond .ne 13, 3) := by decide +kernel
theorem d_M_wipe_62 : decode b_M_wipe 62 = .ok (.aload_n 0, 1) := by decide +kernel
theorem d_M_wipe_63 : decode b_M_wipe 63 = .ok (.getfield 22, 3) := by decide +kernel
theorem d_M_wipe_66 : decode b_M_wipe 66 = .ok (.iload_n 2, 1) := by decide +kernel
theorem d_M_wipe_67 : decode b_M_wipe 67 = .ok (.iconst 0, 1) := by decide +kernel
theorem d_M_wipe_68 : decode b_M_wipe 68 = .ok (.iastore, 1) := by decide +kernel
theorem d_M_wipe_69 : decode b_M_wipe 69 = .ok (.goto 10, 3) := by decide +kernel
theorem d_M_wipe_72 : decode b_M_wipe 72 = .ok (.aload_n 0, 1) := by decide +kernel
theorem d_M_wipe_73 : decode b_M_wipe 73 = .ok (.getfield 13, 3) := by decide +kernel
theorem d_M_wipe_76 : decode b_M_wipe 76 = .ok (.iload_n 2, 1) := by decide +kernel
theorem d_M_wipe_77 : decode b_M_wipe 77 = .ok (.iconst 0, 1) := by decide +kernel
theorem d_M_wipe_78 : decode b_M_wipe 78 = .ok (.iastore, 1) := by decide +kernel
theorem d_M_wipe_79 : decode b_M_wipe 79 = .ok (.iload_n 3, 1) := by decide +kernel
theorem d_M_wipe_80 : decode b_M_wipe 80 = .ok (.ireturn, 1) := by decide +kernel
theorem d_M_parts_0 : decode b_M_parts 0 = .ok (.iload_n 0, 1) := by decide +kernel
theorem d_M_parts_1 : decode b_M_parts 1 = .ok (.tableswitch 149 2 33 #[143, 149, 145, 145, 149, 149, 149, 143, 149, 143, 145, 145, 145, 145, 149, 147, 145, 145, 145, 149, 147, 149, 149, 149, 149, 149, 149, 143, 149, 143, 143, 143], 143) := by decide +kernel
theorem d_M_parts_144 : decode b_M_parts 144 = .ok (.iconst 1, 1) := by decide +kernel
theorem d_M_parts_145 : decode b_M_parts 145 = .ok (.ireturn, 1) := by decide +kernel
theorem d_M_parts_146 : decode b_M_parts 146 = .ok (.iconst 2, 1) := by decide +kernel
theorem d_M_parts_147 : decode b_M_parts 147 = .ok (.ireturn, 1) := by decide +kernel
theorem d_M_parts_148 : decode b_M_parts 148 = .ok (.iconst 3, 1) := by decide +kernel
theorem d_M_parts_149 : decode b_M_parts 149 = .ok (.ireturn, 1) := by decide +kernel
theorem d_M_parts_150 : decode b_M_parts 150 = .ok (.iconst 0, 1) := by decide +kernel
theorem d_M_parts_151 : decode b_M_parts 151 = .ok (.ireturn, 1) := by decide +kernel
theorem d_M_right_0 : decode b_M_right 0 = .ok (.aload_n 0, 1) := by decide +kernel
theorem d_M_right_1 : decode b_M_right 1 = .ok (.iconst 0, 1) := by decide +kernel
theorem d_M_right_2 : decode b_M_right 2 = .ok (.putfield 149, 3) := by decide +kernel
theorem d_M_right_5 : decode b_M_right 5 = .ok (.iconst 0, 1) := by decide +kernel
theorem d_M_right_6 : decode b_M_right 6 = .ok (.istore_n 2, 1) := by decide +kernel
theorem d_M_right_7 : decode b_M_right 7 = .ok (.bipush 32, 2) := by decide +kernel
theorem d_M_right_9 : decode b_M_right 9 = .ok (.iload_n 1, 1) := by decide +kernel
theorem d_M_right_10 : decode b_M_right 10 = .ok (.imul, 1) := by decide +kernel
theorem d_M_right_11 : decode b_M_right 11 = .ok (.istore_n 3, 1) := by decide +kernel
theorem d_M_right_12 : decode b_M_right 12 = .ok (.iload_n 3, 1) := by decide +kernel
theorem d_M_right_13 : decode b_M_right 13 = .ok (.bipush 32, 2) := by decide +kernel
theorem d_M_right_15 : decode b_M_right 15 = .ok (.iload_n 1, 1) := by decide +kernel
theorem d_M_right_16 : decode b_M_right 16 = .ok (.imul, 1) := by decide +kernel
theorem d_M_right_17 : decode b_M_right 17 = .ok (.aload_n 0, 1) := by decide +kernel
theorem d_M_right_18 : decode b_M_right 18 = .ok (.getfield 22, 3) := by decide +kernel
theorem d_M_right_21 : decode b_M_right 21 = .ok (.iload_n 1, 1) := by decide +kernel
theorem d_M_right_22 : decode b_M_right 22 = .ok (.iaload, 1) := by decide +kernel
theorem d_M_right_23 : decode b_M_right 23 = .ok (.iadd, 1) := by decide +kernel
theorem d_M_right_24 : decode b_M_right 24 = .ok (.if_icmp .ge 133, 3) := by decide +kernel
theorem d_M_right_27 : decode b_M_right 27 = .ok (.iload_n 2, 1) := by decide +kernel
theorem d_M_right_28 : decode b_M_right 28 = .ok (.ifCond .ne 12, 3) := by decide +kernel
theorem d_M_right_31 : decode b_M_right 31 = .ok (.aload_n 0, 1) := by decide +kernel
theorem d_M_right_32 : decode b_M_right 32 = .ok (.getfield 149, 3) := by decide +kernel
theorem d_M_right_35 : decode b_M_right 35 = .ok (.bipush 7, 2) := by decide +kernel
theorem d_M_right_37 : decode b_M_right 37 = .ok (.if_icmp .le 5, 3) := by decide +kernel
theorem d_M_right_40 : decode b_M_right 40 = .ok (.iconst 0, 1) := by decide +kernel
theorem d_M_right_41 : decode b_M_right 41 = .ok (.ireturn, 1) := by decide +kernel
theorem d_M_right_42 : decode b_M_right 42 = .ok (.aload_n 0, 1) := by decide +kernel
theorem d_M_right_43 : decode b_M_right 43 = .ok (.getfield 149, 3) := by decide +kernel
theorem d_M_right_46 : decode b_M_right 46 = .ok (.ifCond .le 18, 3) := by decide +kernel
theorem d_M_right_49 : decode b_M_right 49 = .ok (.aload_n 0, 1) := by decide +kernel
theorem d_M_right_50 : decode b_M_right 50 = .ok (.getfield 48, 3) := by decide +kernel
theorem d_M_right_53 : decode b_M_right 53 = .ok (.aload_n 0, 1) := by decide +kernel
theorem d_M_right_54 : decode b_M_right 54 = .ok (.getfield 149, 3) := by decide +kernel
theorem d_M_right_57 : decode b_M_right 57 = .ok (.iconst 1, 1) := by decide +kernel
theorem d_M_right_58 : decode b_M_right 58 = .ok (.isub, 1) := by decide +kernel
theorem d_M_right_59 : decode b_M_right 59 = .ok (.dup2, 1) := by decide +kernel
theorem d_M_right_60 : decode b_M_right 60 = .ok (.iaload, 1) := by decide +kernel
theorem d_M_right_61 : decode b_M_right 61 = .ok (.iconst 1, 1) := by decide +kernel
theorem d_M_right_62 : decode b_M_right 62 = .ok (.isub, 1) := by decide +kernel
theorem d_M_right_63 : decode b_M_right 63 = .ok (.iastore, 1) := by decide +kernel
theorem d_M_right_64 : decode b_M_right 64 = .ok (.aload_n 0, 1) := by decide +kernel
theorem d_M_right_65 : decode b_M_right 65 = .ok (.getfield 16, 3) := by decide +kernel
theorem d_M_right_68 : decode b_M_right 68 = .ok (.iload_n 3, 1) := by decide +kernel
theorem d_M_right_69 : decode b_M_right 69 = .ok (.iaload, 1) := by decide +kernel
theorem d_M_right_70 : decode b_M_right 70 = .ok (.invokestatic 181, 3) := by decide +kernel
theorem d_M_right_73 : decode b_M_right 73 = .ok (.ifCond .le 31, 3) := by decide +kernel
theorem d_M_right_76 : decode b_M_right 76 = .ok (.aload_n 0, 1) := by decide +kernel
theorem d_M_right_77 : decode b_M_right 77 = .ok (.getfield 48, 3) := by decide +kernel
theorem d_M_right_80 : decode b_M_right 80 = .ok (.aload_n 0, 1) := by decide +kernel
theorem d_M_right_81 : decode b_M_right 81 = .ok (.getfield 149, 3) := by decide +kernel
theorem d_M_right_84 : decode b_M_right 84 = .ok (.aload_n 0, 1) := by decide +kernel
theorem d_M_right_85 : decode b_M_right 85 = .ok (.getfield 16, 3) := by decide +kernel
theorem d_M_right_88 : decode b_M_right 88 = .ok (.iload_n 3, 1) := by decide +kernel
theorem d_M_right_89 : decode b_M_right 89 = .ok (.iaload, 1) := by decide +kernel
theorem d_M_right_90 : decode b_M_right 90 = .ok (.invokestatic 181, 3) := by decide +kernel
theorem d_M_right_93 : decode b_M_right 93 = .ok (.iastore, 1) := by decide +kernel
theorem d_M_right_94 : decode b_M_right 94 = .ok (.aload_n 0, 1) := by decide +kernel
theorem d_M_right_95 : decode b_M_right 95 = .ok (.dup, 1) := by decide +kernel
theorem d_M_right_96 : decode b_M_right 96 = .ok (.getfield 149, 3) := by decide +kernel
theorem d_M_right_99 : decode b_M_right 99 = .ok (.iconst 1, 1) := by decide +kernel
theorem d_M_right_100 : decode b_M_right 100 = .ok (.iadd, 1) := by decide +kernel
theorem d_M_right_101 : decode b_M_right 101 = .ok (.putfield 149, 3) := by decide +kernel
theorem d_M_right_104 : decode b_M_right 104 = .ok (.aload_n 0, 1) := by decide +kernel
theorem d_M_right_105 : decode b_M_right 105 = .ok (.getfield 149, 3) := by decide +kernel
theorem d_M_right_108 : decode b_M_right 108 = .ok (.ifCond .le 30, 3) := by decide +kernel
theorem d_M_right_111 : decode b_M_right 111 = .ok (.aload_n 0, 1) := by decide +kernel
theorem d_M_right_112 : decode b_M_right 112 = .ok (.getfield 48, 3) := by decide +kernel
theorem d_M_right_115 : decode b_M_right 115 = .ok (.aload_n 0, 1) := by decide +kernel
theorem d_M_right_116 : decode b_M_right 116 = .ok (.getfield 149, 3) := by decide +kernel
theorem d_M_right_119 : decode b_M_right 119 = .ok (.iconst 1, 1) := by decide +kernel
theorem d_M_right_120 : decode b_M_right 120 = .ok (.isub, 1) := by decide +kernel
theorem d_M_right_121 : decode b_M_right 121 = .ok (.iaload, 1) := by decide +kernel
theorem d_M_right_122 : decode b_M_right 122 = .ok (.ifCond .ne 16, 3) := by decide +kernel
theorem d_M_right_125 : decode b_M_right 125 = .ok (.aload_n 0, 1) := by decide +kernel
theorem d_M_right_126 : decode b_M_right 126 = .ok (.dup, 1) := by decide +kernel
theorem d_M_right_127 : decode b_M_right 127 = .ok (.getfield 149, 3) := by decide +kernel
theorem d_M_right_130 : decode b_M_right 130 = .ok (.iconst 1, 1) := by decide +kernel
theorem d_M_right_131 : decode b_M_right 131 = .ok (.isub, 1) := by decide +kernel
theorem d_M_right_132 : decode b_M_right 132 = .ok (.putfield 149, 3) := by decide +kernel
theorem d_M_right_135 : decode b_M_right 135 = .ok (.goto (-31), 3) := by decide +kernel
theorem d_M_right_138 : decode b_M_right 138 = .ok (.aload_n 0, 1) := by decide +kernel
theorem d_M_right_139 : decode b_M_right 139 = .ok (.getfield 149, 3) := by decide +kernel
theorem d_M_right_142 : decode b_M_right 142 = .ok (.ifCond .ne 7, 3) := by decide +kernel
theorem d_M_right_145 : decode b_M_right 145 = .ok (.iconst 1, 1) := by decide +kernel
theorem d_M_right_146 : decode b_M_right 146 = .ok (.goto 4, 3) := by decide +kernel
theorem d_M_right_149 : decode b_M_right 149 = .ok (.iconst 0, 1) := by decide +kernel
theorem d_M_right_150 : decode b_M_right 150 = .ok (.istore_n 2, 1) := by decide +kernel
theorem d_M_right_151 : decode b_M_right 151 = .ok (.iinc 3 1, 3) := by decide +kernel
theorem d_M_right_154 : decode b_M_right 154 = .ok (.goto (-142), 3) := by decide +kernel
theorem d_M_right_157 : decode b_M_right 157 = .ok (.iload_n 2, 1) := by decide +kernel
theorem d_M_right_158 : decode b_M_right 158 = .ok (.ireturn, 1) := by decide +kernel
theorem d_M_partOf_0 : decode b_M_partOf 0 = .ok (.iload_n 1, 1) := by decide +kernel
theorem d_M_partOf_1 : decode b_M_partOf 1 = .ok (.iconst 1, 1) := by decide +kernel
theorem d_M_partOf_2 : decode b_M_partOf 2 = .ok (.iadd, 1) := by decide +kernel
theorem d_M_partOf_3 : decode b_M_partOf 3 = .ok (.istore_n 3, 1) := by decide +kernel
theorem d_M_partOf_4 : decode b_M_partOf 4 = .ok (.iconst 0, 1) := by decide +kernel
theorem d_M_partOf_5 : decode b_M_partOf 5 = .ok (.istore 4, 2) := by decide +kernel
theorem d_M_partOf_7 : decode b_M_partOf 7 = .ok (.iload 4, 2) := by decide +kernel
theorem d_M_partOf_9 : decode b_M_partOf 9 = .ok (.iload_n 2, 1) := by decide +kernel
theorem d_M_partOf_10 : decode b_M_partOf 10 = .ok (.if_icmp .ge 39, 3) := by decide +kernel
theorem d_M_partOf_13 : decode b_M_partOf 13 = .ok (.iconst 1, 1) := by decide +kernel
theorem d_M_partOf_14 : decode b_M_partOf 14 = .ok (.istore 5, 2) := by decide +kernel
theorem d_M_partOf_16 : decode b_M_partOf 16 = .ok (.iload 5, 2) := by decide +kernel
theorem d_M_partOf_18 : decode b_M_partOf 18 = .ok (.ifCond .le 25, 3) := by decide +kernel
theorem d_M_partOf_21 : decode b_M_partOf 21 = .ok (.iload 5, 2) := by decide +kernel
theorem d_M_partOf_23 : decode b_M_partOf 23 = .ok (.aload_n 0, 1) := by decide +kernel
theorem d_M_partOf_24 : decode b_M_partOf 24 = .ok (.getfield 16, 3) := by decide +kernel
theorem d_M_partOf_27 : decode b_M_partOf 27 = .ok (.iload_n 3, 1) := by decide +kernel
theorem d_M_partOf_28 : decode b_M_partOf 28 = .ok (.iaload, 1) := by decide +kernel
theorem d_M_partOf_29 : decode b_M_partOf 29 = .ok (.invokestatic 181, 3) := by decide +kernel
theorem d_M_partOf_32 : decode b_M_partOf 32 = .ok (.iconst 1, 1) := by decide +kernel
theorem d_M_partOf_33 : decode b_M_partOf 33 = .ok (.isub, 1) := by decide +kernel
theorem d_M_partOf_34 : decode b_M_partOf 34 = .ok (.iadd, 1) := by decide +kernel
theorem d_M_partOf_35 : decode b_M_partOf 35 = .ok (.istore 5, 2) := by decide +kernel
theorem d_M_partOf_37 : decode b_M_partOf 37 = .ok (.iinc 3 1, 3) := by decide +kernel
theorem d_M_partOf_40 : decode b_M_partOf 40 = .ok (.goto (-24), 3) := by decide +kernel
theorem d_M_partOf_43 : decode b_M_partOf 43 = .ok (.iinc 4 1, 3) := by decide +kernel
theorem d_M_partOf_46 : decode b_M_partOf 46 = .ok (.goto (-39), 3) := by decide +kernel
theorem d_M_partOf_49 : decode b_M_partOf 49 = .ok (.iload_n 3, 1) := by decide +kernel
theorem d_M_partOf_50 : decode b_M_partOf 50 = .ok (.ireturn, 1) := by decide +kernel
theorem d_M_work_0 : decode b_M_work 0 = .ok (.aload_n 0, 1) := by decide +kernel
theorem d_M_work_1 : decode b_M_work 1 = .ok (.dup, 1) := by decide +kernel
theorem d_M_work_2 : decode b_M_work 2 = .ok (.getfield 184, 3) := by decide +kernel
theorem d_M_work_5 : decode b_M_work 5 = .ok (.iconst 1, 1) := by decide +kernel
theorem d_M_work_6 : decode b_M_work 6 = .ok (.iadd, 1) := by decide +kernel
theorem d_M_work_7 : decode b_M_work 7 = .ok (.putfield 184, 3) := by decide +kernel
theorem d_M_work_10 : decode b_M_work 10 = .ok (.aload_n 0, 1) := by decide +kernel
theorem d_M_work_11 : decode b_M_work 11 = .ok (.getfield 184, 3) := by decide +kernel
theorem d_M_work_14 : decode b_M_work 14 = .ok (.sipush 150, 3) := by decide +kernel
theorem d_M_work_17 : decode b_M_work 17 = .ok (.if_icmp .le 9, 3) := by decide +kernel
theorem d_M_work_20 : decode b_M_work 20 = .ok (.aload_n 0, 1) := by decide +kernel
theorem d_M_work_21 : decode b_M_work 21 = .ok (.iconst 1, 1) := by decide +kernel
theorem d_M_work_22 : decode b_M_work 22 = .ok (.putfield 104, 3) := by decide +kernel
theorem d_M_work_25 : decode b_M_work 25 = .ok (.return_, 1) := by decide +kernel
theorem d_M_work_26 : decode b_M_work 26 = .ok (.aload_n 0, 1) := by decide +kernel
theorem d_M_work_27 : decode b_M_work 27 = .ok (.getfield 57, 3) := by decide +kernel
theorem d_M_work_30 : decode b_M_work 30 = .ok (.aload_n 0, 1) := by decide +kernel
theorem d_M_work_31 : decode b_M_work 31 = .ok (.getfield 187, 3) := by decide +kernel
theorem d_M_work_34 : decode b_M_work 34 = .ok (.iload_n 1, 1) := by decide +kernel
theorem d_M_work_35 : decode b_M_work 35 = .ok (.iastore, 1) := by decide +kernel
theorem d_M_work_36 : decode b_M_work 36 = .ok (.aload_n 0, 1) := by decide +kernel
theorem d_M_work_37 : decode b_M_work 37 = .ok (.getfield 60, 3) := by decide +kernel
theorem d_M_work_40 : decode b_M_work 40 = .ok (.aload_n 0, 1) := by decide +kernel
theorem d_M_work_41 : decode b_M_work 41 = .ok (.getfield 187, 3) := by decide +kernel
theorem d_M_work_44 : decode b_M_work 44 = .ok (.iload_n 2, 1) := by decide +kernel
theorem d_M_work_45 : decode b_M_work 45 = .ok (.iastore, 1) := by decide +kernel
theorem d_M_work_46 : decode b_M_work 46 = .ok (.aload_n 0, 1) := by decide +kernel
theorem d_M_work_47 : decode b_M_work 47 = .ok (.getfield 63, 3) := by decide +kernel
theorem d_M_work_50 : decode b_M_work 50 = .ok (.aload_n 0, 1) := by decide +kernel
theorem d_M_work_51 : decode b_M_work 51 = .ok (.getfield 187, 3) := by decide +kernel
theorem d_M_work_54 : decode b_M_work 54 = .ok (.iconst 0, 1) := by decide +kernel
theorem d_M_work_55 : decode b_M_work 55 = .ok (.iastore, 1) := by decide +kernel
theorem d_M_work_56 : decode b_M_work 56 = .ok (.aload_n 0, 1) := by decide +kernel
theorem d_M_work_57 : decode b_M_work 57 = .ok (.getfield 66, 3) := by decide +kernel
theorem d_M_work_60 : decode b_M_work 60 = .ok (.aload_n 0, 1) := by decide +kernel
theorem d_M_work_61 : decode b_M_work 61 = .ok (.getfield 187, 3) := by decide +kernel
theorem d_M_work_64 : decode b_M_work 64 = .ok (.iconst 0, 1) := by decide +kernel
theorem d_M_work_65 : decode b_M_work 65 = .ok (.iastore, 1) := by decide +kernel
theorem d_M_work_66 : decode b_M_work 66 = .ok (.aload_n 0, 1) := by decide +kernel
theorem d_M_work_67 : decode b_M_work 67 = .ok (.getfield 69, 3) := by decide +kernel
theorem d_M_work_70 : decode b_M_work 70 = .ok (.aload_n 0, 1) := by decide +kernel
theorem d_M_work_71 : decode b_M_work 71 = .ok (.getfield 187, 3) := by decide +kernel
theorem d_M_work_74 : decode b_M_work 74 = .ok (.iconst 0, 1) := by decide +kernel
theorem d_M_work_75 : decode b_M_work 75 = .ok (.iastore, 1) := by decide +kernel
theorem d_M_work_76 : decode b_M_work 76 = .ok (.aload_n 0, 1) := by decide +kernel
theorem d_M_work_77 : decode b_M_work 77 = .ok (.getfield 72, 3) := by decide +kernel
theorem d_M_work_80 : decode b_M_work 80 = .ok (.aload_n 0, 1) := by decide +kernel
theorem d_M_work_81 : decode b_M_work 81 = .ok (.getfield 187, 3) := by decide +kernel
theorem d_M_work_84 : decode b_M_work 84 = .ok (.iconst 0, 1) := by decide +kernel
theorem d_M_work_85 : decode b_M_work 85 = .ok (.iastore, 1) := by decide +kernel
theorem d_M_work_86 : decode b_M_work 86 = .ok (.aload_n 0, 1) := by decide +kernel
theorem d_M_work_87 : decode b_M_work 87 = .ok (.getfield 84, 3) := by decide +kernel
theorem d_M_work_90 : decode b_M_work 90 = .ok (.aload_n 0, 1) := by decide +kernel
theorem d_M_work_91 : decode b_M_work 91 = .ok (.getfield 187, 3) := by decide +kernel
theorem d_M_work_94 : decode b_M_work 94 = .ok (.iconst 0, 1) := by decide +kernel
theorem d_M_work_95 : decode b_M_work 95 = .ok (.iastore, 1) := by decide +kernel
theorem d_M_work_96 : decode b_M_work 96 = .ok (.aload_n 0, 1) := by decide +kernel
theorem d_M_work_97 : decode b_M_work 97 = .ok (.dup, 1) := by decide +kernel
theorem d_M_work_98 : decode b_M_work 98 = .ok (.getfield 187, 3) := by decide +kernel
theorem d_M_work_101 : decode b_M_work 101 = .ok (.iconst 1, 1) := by decide +kernel
theorem d_M_work_102 : decode b_M_work 102 = .ok (.iadd, 1) := by decide +kernel
theorem d_M_work_103 : decode b_M_work 103 = .ok (.putfield 187, 3) := by decide +kernel
theorem d_M_work_106 : decode b_M_work 106 = .ok (.return_, 1) := by decide +kernel
theorem d_M_ask_0 : decode b_M_ask 0 = .ok (.aload_n 0, 1) := by decide +kernel
theorem d_M_ask_1 : decode b_M_ask 1 = .ok (.getfield 63, 3) := by decide +kernel
theorem d_M_ask_4 : decode b_M_ask 4 = .ok (.iload_n 1, 1) := by decide +kernel
theorem d_M_ask_5 : decode b_M_ask 5 = .ok (.iload 4, 2) := by decide +kernel
theorem d_M_ask_7 : decode b_M_ask 7 = .ok (.iastore, 1) := by decide +kernel
theorem d_M_ask_8 : decode b_M_ask 8 = .ok (.aload_n 0, 1) := by decide +kernel
theorem d_M_ask_9 : decode b_M_ask 9 = .ok (.aload_n 0, 1) := by decide +kernel
theorem d_M_ask_10 : decode b_M_ask 10 = .ok (.aload_n 0, 1) := by decide +kernel
theorem d_M_ask_11 : decode b_M_ask 11 = .ok (.getfield 57, 3) := by decide +kernel
theorem d_M_ask_14 : decode b_M_ask 14 = .ok (.iload_n 1, 1) := by decide +kernel
theorem d_M_ask_15 : decode b_M_ask 15 = .ok (.iaload, 1) := by decide +kernel
theorem d_M_ask_16 : decode b_M_ask 16 = .ok (.iload_n 2, 1) := by decide +kernel
theorem d_M_ask_17 : decode b_M_ask 17 = .ok (.invokevirtual 190, 3) := by decide +kernel
theorem d_M_ask_20 : decode b_M_ask 20 = .ok (.iload_n 3, 1) := by decide +kernel
theorem d_M_ask_21 : decode b_M_ask 21 = .ok (.invokevirtual 193, 3) := by decide +kernel
theorem d_M_ask_24 : decode b_M_ask 24 = .ok (.return_, 1) := by decide +kernel
theorem d_M_emit_0 : decode b_M_emit 0 = .ok (.aload_n 0, 1) := by decide +kernel
theorem d_M_emit_1 : decode b_M_emit 1 = .ok (.getfield 104, 3) := by decide +kernel
theorem d_M_emit_4 : decode b_M_emit 4 = .ok (.ifCond .eq 4, 3) := by decide +kernel
theorem d_M_emit_7 : decode b_M_emit 7 = .ok (.return_, 1) := by decide +kernel
theorem d_M_emit_8 : decode b_M_emit 8 = .ok (.aload_n 0, 1) := by decide +kernel
theorem d_M_emit_9 : decode b_M_emit 9 = .ok (.getfield 84, 3) := by decide +kernel
theorem d_M_emit_12 : decode b_M_emit 12 = .ok (.iload_n 1, 1) := by decide +kernel
theorem d_M_emit_13 : decode b_M_emit 13 = .ok (.iaload, 1) := by decide +kernel
theorem d_M_emit_14 : decode b_M_emit 14 = .ok (.bipush 16, 2) := by decide +kernel
theorem d_M_emit_16 : decode b_M_emit 16 = .ok (.if_icmp .ne 9, 3) := by decide +kernel
theorem d_M_emit_19 : decode b_M_emit 19 = .ok (.aload_n 0, 1) := by decide +kernel
theorem d_M_emit_20 : decode b_M_emit 20 = .ok (.iconst 1, 1) := by decide +kernel
theorem d_M_emit_21 : decode b_M_emit 21 = .ok (.putfield 104, 3) := by decide +kernel
theorem d_M_emit_24 : decode b_M_emit 24 = .ok (.return_, 1) := by decide +kernel
theorem d_M_emit_25 : decode b_M_emit 25 = .ok (.aload_n 0, 1) := by decide +kernel
theorem d_M_emit_26 : decode b_M_emit 26 = .ok (.getfield 87, 3) := by decide +kernel
theorem d_M_emit_29 : decode b_M_emit 29 = .ok (.bipush 17, 2) := by decide +kernel
theorem d_M_emit_31 : decode b_M_emit 31 = .ok (.iload_n 1, 1) := by decide +kernel
theorem d_M_emit_32 : decode b_M_emit 32 = .ok (.imul, 1) := by decide +kernel
theorem d_M_emit_33 : decode b_M_emit 33 = .ok (.aload_n 0, 1) := by decide +kernel
theorem d_M_emit_34 : decode b_M_emit 34 = .ok (.getfield 84, 3) := by decide +kernel
theorem d_M_emit_37 : decode b_M_emit 37 = .ok (.iload_n 1, 1) := by decide +kernel
theorem d_M_emit_38 : decode b_M_emit 38 = .ok (.iaload, 1) := by decide +kernel
theorem d_M_emit_39 : decode b_M_emit 39 = .ok (.iadd, 1) := by decide +kernel
theorem d_M_emit_40 : decode b_M_emit 40 = .ok (.iload_n 2, 1) := by decide +kernel
theorem d_M_emit_41 : decode b_M_emit 41 = .ok (.iastore, 1) := by decide +kernel
theorem d_M_emit_42 : decode b_M_emit 42 = .ok (.aload_n 0, 1) := by decide +kernel
theorem d_M_emit_43 : decode b_M_emit 43 = .ok (.getfield 84, 3) := by decide +kernel
theorem d_M_emit_46 : decode b_M_emit 46 = .ok (.iload_n 1, 1) := by decide +kernel
theorem d_M_emit_47 : decode b_M_emit 47 = .ok (.dup2, 1) := by decide +kernel
theorem d_M_emit_48 : decode b_M_emit 48 = .ok (.iaload, 1) := by decide +kernel
theorem d_M_emit_49 : decode b_M_emit 49 = .ok (.iconst 1, 1) := by decide +kernel
theorem d_M_emit_50 : decode b_M_emit 50 = .ok (.iadd, 1) := by decide +kernel
theorem d_M_emit_51 : decode b_M_emit 51 = .ok (.iastore, 1) := by decide +kernel
theorem d_M_emit_52 : decode b_M_emit 52 = .ok (.return_, 1) := by decide +kernel
theorem d_M_end_0 : decode b_M_end 0 = .ok (.aload_n 0, 1) := by decide +kernel
theorem d_M_end_1 : decode b_M_end 1 = .ok (.dup, 1) := by decide +kernel
theorem d_M_end_2 : decode b_M_end 2 = .ok (.getfield 187, 3) := by decide +kernel
theorem d_M_end_5 : decode b_M_end 5 = .ok (.iconst 1, 1) := by decide +kernel
theorem d_M_end_6 : decode b_M_end 6 = .ok (.isub, 1) := by decide +kernel
theorem d_M_end_7 : decode b_M_end 7 = .ok (.putfield 187, 3) := by decide +kernel
theorem d_M_end_10 : decode b_M_end 10 = .ok (.aload_n 0, 1) := by decide +kernel
theorem d_M_end_11 : decode b_M_end 11 = .ok (.aload_n 0, 1) := by decide +kernel
theorem d_M_end_12 : decode b_M_end 12 = .ok (.getfield 84, 3) := by decide +kernel
theorem d_M_end_15 : decode b_M_end 15 = .ok (.iload_n 1, 1) := by decide +kernel
theorem d_M_end_16 : decode b_M_end 16 = .ok (.iaload, 1) := by decide +kernel
theorem d_M_end_17 : decode b_M_end 17 = .ok (.putfield 196, 3) := by decide +kernel
theorem d_M_end_20 : decode b_M_end 20 = .ok (.aload_n 0, 1) := by decide +kernel
theorem d_M_end_21 : decode b_M_end 21 = .ok (.iload_n 2, 1) := by decide +kernel
theorem d_M_end_22 : decode b_M_end 22 = .ok (.putfield 199, 3) := by decide +kernel
theorem d_M_end_25 : decode b_M_end 25 = .ok (.iconst 0, 1) := by decide +kernel
theorem d_M_end_26 : decode b_M_end 26 = .ok (.istore_n 3, 1) := by decide +kernel
theorem d_M_end_27 : decode b_M_end 27 = .ok (.iload_n 3, 1) := by decide +kernel
theorem d_M_end_28 : decode b_M_end 28 = .ok (.aload_n 0, 1) := by decide +kernel
theorem d_M_end_29 : decode b_M_end 29 = .ok (.getfield 196, 3) := by decide +kernel
theorem d_M_end_32 : decode b_M_end 32 = .ok (.if_icmp .ge 26, 3) := by decide +kernel
theorem d_M_end_35 : decode b_M_end 35 = .ok (.aload_n 0, 1) := by decide +kernel
theorem d_M_end_36 : decode b_M_end 36 = .ok (.getfield 90, 3) := by decide +kernel
theorem d_M_end_39 : decode b_M_end 39 = .ok (.iload_n 3, 1) := by decide +kernel
theorem d_M_end_40 : decode b_M_end 40 = .ok (.aload_n 0, 1) := by decide +kernel
theorem d_M_end_41 : decode b_M_end 41 = .ok (.getfield 87, 3) := by decide +kernel
theorem d_M_end_44 : decode b_M_end 44 = .ok (.bipush 17, 2) := by decide +kernel
theorem d_M_end_46 : decode b_M_end 46 = .ok (.iload_n 1, 1) := by decide +kernel
theorem d_M_end_47 : decode b_M_end 47 = .ok (.imul, 1) := by decide +kernel
theorem d_M_end_48 : decode b_M_end 48 = .ok (.iload_n 3, 1) := by decide +kernel
theorem d_M_end_49 : decode b_M_end 49 = .ok (.iadd, 1) := by decide +kernel
theorem d_M_end_50 : decode b_M_end 50 = .ok (.iaload, 1) := by decide +kernel
theorem d_M_end_51 : decode b_M_end 51 = .ok (.iastore, 1) := by decide +kernel
theorem d_M_end_52 : decode b_M_end 52 = .ok (.iinc 3 1, 3) := by decide +kernel
theorem d_M_end_55 : decode b_M_end 55 = .ok (.goto (-28), 3) := by decide +kernel
theorem d_M_end_58 : decode b_M_end 58 = .ok (.return_, 1) := by decide +kernel
theorem d_M_err_0 : decode b_M_err 0 = .ok (.aload_n 0, 1) := by decide +kernel
theorem d_M_err_1 : decode b_M_err 1 = .ok (.iload_n 1, 1) := by decide +kernel
theorem d_M_err_2 : decode b_M_err 2 = .ok (.aload_n 0, 1) := by decide +kernel
theorem d_M_err_3 : decode b_M_err 3 = .ok (.iload_n 2, 1) := by decide +kernel
theorem d_M_err_4 : decode b_M_err 4 = .ok (.i2l, 1) := by decide +kernel
theorem d_M_err_5 : decode b_M_err 5 = .ok (.invokevirtual 202, 3) := by decide +kernel
theorem d_M_err_8 : decode b_M_err 8 = .ok (.invokevirtual 205, 3) := by decide +kernel
theorem d_M_err_11 : decode b_M_err 11 = .ok (.return_, 1) := by decide +kernel
theorem d_M_alone_0 : decode b_M_alone 0 = .ok (.aload_n 0, 1) := by decide +kernel
theorem d_M_alone_1 : decode b_M_alone 1 = .ok (.getfield 84, 3) := by decide +kernel
theorem d_M_alone_4 : decode b_M_alone 4 = .ok (.iload_n 1, 1) := by decide +kernel
theorem d_M_alone_5 : decode b_M_alone 5 = .ok (.iconst 0, 1) := by decide +kernel
theorem d_M_alone_6 : decode b_M_alone 6 = .ok (.iastore, 1) := by decide +kernel
theorem d_M_alone_7 : decode b_M_alone 7 = .ok (.aload_n 0, 1) := by decide +kernel
theorem d_M_alone_8 : decode b_M_alone 8 = .ok (.iload_n 1, 1) := by decide +kernel
theorem d_M_alone_9 : decode b_M_alone 9 = .ok (.iload_n 2, 1) := by decide +kernel
theorem d_M_alone_10 : decode b_M_alone 10 = .ok (.invokevirtual 205, 3) := by decide +kernel
theorem d_M_alone_13 : decode b_M_alone 13 = .ok (.return_, 1) := by decide +kernel
theorem d_M_take_0 : decode b_M_take 0 = .ok (.iconst 0, 1) := by decide +kernel
theorem d_M_take_1 : decode b_M_take 1 = .ok (.istore_n 2, 1) := by decide +kernel
theorem d_M_take_2 : decode b_M_take 2 = .ok (.iload_n 2, 1) := by decide +kernel
theorem d_M_take_3 : decode b_M_take 3 = .ok (.aload_n 0, 1) := by decide +kernel
theorem d_M_take_4 : decode b_M_take 4 = .ok (.getfield 196, 3) := by decide +kernel
theorem d_M_take_7 : decode b_M_take 7 = .ok (.if_icmp .ge 20, 3) := by decide +kernel
theorem d_M_take_10 : decode b_M_take 10 = .ok (.aload_n 0, 1) := by decide +kernel
theorem d_M_take_11 : decode b_M_take 11 = .ok (.iload_n 1, 1) := by decide +kernel
theorem d_M_take_12 : decode b_M_take 12 = .ok (.aload_n 0, 1) := by decide +kernel
theorem d_M_take_13 : decode b_M_take 13 = .ok (.getfield 90, 3) := by decide +kernel
theorem d_M_take_16 : decode b_M_take 16 = .ok (.iload_n 2, 1) := by decide +kernel
theorem d_M_take_17 : decode b_M_take 17 = .ok (.iaload, 1) := by decide +kernel
theorem d_M_take_18 : decode b_M_take 18 = .ok (.invokevirtual 208, 3) := by decide +kernel
theorem d_M_take_21 : decode b_M_take 21 = .ok (.iinc 2 1, 3) := by decide +kernel
theorem d_M_take_24 : decode b_M_take 24 = .ok (.goto (-22), 3) := by decide +kernel
theorem d_M_take_27 : decode b_M_take 27 = .ok (.return_, 1) := by decide +kernel
theorem d_M_keepRow_0 : decode b_M_keepRow 0 = .ok (.aload_n 0, 1) := by decide +kernel
theorem d_M_keepRow_1 : decode b_M_keepRow 1 = .ok (.getfield 69, 3) := by decide +kernel
theorem d_M_keepRow_4 : decode b_M_keepRow 4 = .ok (.iload_n 1, 1) := by decide +kernel
theorem d_M_keepRow_5 : decode b_M_keepRow 5 = .ok (.aload_n 0, 1) := by decide +kernel
theorem d_M_keepRow_6 : decode b_M_keepRow 6 = .ok (.getfield 196, 3) := by decide +kernel
theorem d_M_keepRow_9 : decode b_M_keepRow 9 = .ok (.iastore, 1) := by decide +kernel
theorem d_M_keepRow_10 : decode b_M_keepRow 10 = .ok (.aload_n 0, 1) := by decide +kernel
theorem d_M_keepRow_11 : decode b_M_keepRow 11 = .ok (.getfield 72, 3) := by decide +kernel
theorem d_M_keepRow_14 : decode b_M_keepRow 14 = .ok (.iload_n 1, 1) := by decide +kernel
theorem d_M_keepRow_15 : decode b_M_keepRow 15 = .ok (.aload_n 0, 1) := by decide +kernel
theorem d_M_keepRow_16 : decode b_M_keepRow 16 = .ok (.getfield 199, 3) := by decide +kernel
theorem d_M_keepRow_19 : decode b_M_keepRow 19 = .ok (.iastore, 1) := by decide +kernel
theorem d_M_keepRow_20 : decode b_M_keepRow 20 = .ok (.aload_n 0, 1) := by decide +kernel
theorem d_M_keepRow_21 : decode b_M_keepRow 21 = .ok (.getfield 66, 3) := by decide +kernel
theorem d_M_keepRow_24 : decode b_M_keepRow 24 = .ok (.iload_n 1, 1) := by decide +kernel
theorem d_M_keepRow_25 : decode b_M_keepRow 25 = .ok (.iconst 0, 1) := by decide +kernel
theorem d_M_keepRow_26 : decode b_M_keepRow 26 = .ok (.iastore, 1) := by decide +kernel
theorem d_M_keepRow_27 : decode b_M_keepRow 27 = .ok (.iconst 0, 1) := by decide +kernel
theorem d_M_keepRow_28 : decode b_M_keepRow 28 = .ok (.istore_n 2, 1) := by decide +kernel
theorem d_M_keepRow_29 : decode b_M_keepRow 29 = .ok (.iload_n 2, 1) := by decide +kernel
theorem d_M_keepRow_30 : decode b_M_keepRow 30 = .ok (.aload_n 0, 1) := by decide +kernel
theorem d_M_keepRow_31 : decode b_M_keepRow 31 = .ok (.getfield 196, 3) := by decide +kernel
theorem d_M_keepRow_34 : decode b_M_keepRow 34 = .ok (.if_icmp .ge 26, 3) := by decide +kernel
theorem d_M_keepRow_37 : decode b_M_keepRow 37 = .ok (.aload_n 0, 1) := by decide +kernel
theorem d_M_keepRow_38 : decode b_M_keepRow 38 = .ok (.getfield 81, 3) := by decide +kernel
theorem d_M_keepRow_41 : decode b_M_keepRow 41 = .ok (.bipush 17, 2) := by decide +kernel
theorem d_M_keepRow_43 : decode b_M_keepRow 43 = .ok (.iload_n 1, 1) := by decide +kernel
theorem d_M_keepRow_44 : decode b_M_keepRow 44 = .ok (.imul, 1) := by decide +kernel
theorem d_M_keepRow_45 : decode b_M_keepRow 45 = .ok (.iload_n 2, 1) := by decide +kernel
theorem d_M_keepRow_46 : decode b_M_keepRow 46 = .ok (.iadd, 1) := by decide +kernel
theorem d_M_keepRow_47 : decode b_M_keepRow 47 = .ok (.aload_n 0, 1) := by decide +kernel
theorem d_M_keepRow_48 : decode b_M_keepRow 48 = .ok (.getfield 90, 3) := by decide +kernel
theorem d_M_keepRow_51 : decode b_M_keepRow 51 = .ok (.iload_n 2, 1) := by decide +kernel
theorem d_M_keepRow_52 : decode b_M_keepRow 52 = .ok (.iaload, 1) := by decide +kernel
theorem d_M_keepRow_53 : decode b_M_keepRow 53 = .ok (.iastore, 1) := by decide +kernel
theorem d_M_keepRow_54 : decode b_M_keepRow 54 = .ok (.iinc 2 1, 3) := by decide +kernel
theorem d_M_keepRow_57 : decode b_M_keepRow 57 = .ok (.goto (-28), 3) := by decide +kernel
theorem d_M_keepRow_60 : decode b_M_keepRow 60 = .ok (.aload_n 0, 1) := by decide +kernel
theorem d_M_keepRow_61 : decode b_M_keepRow 61 = .ok (.getfield 63, 3) := by decide +kernel
theorem d_M_keepRow_64 : decode b_M_keepRow 64 = .ok (.iload_n 1, 1) := by decide +kernel
theorem d_M_keepRow_65 : decode b_M_keepRow 65 = .ok (.iconst 2, 1) := by decide +kernel
theorem d_M_keepRow_66 : decode b_M_keepRow 66 = .ok (.iastore, 1) := by decide +kernel
theorem d_M_keepRow_67 : decode b_M_keepRow 67 = .ok (.return_, 1) := by decide +kernel
theorem d_M_step_0 : decode b_M_step 0 = .ok (.aload_n 0, 1) := by decide +kernel
theorem d_M_step_1 : decode b_M_step 1 = .ok (.getfield 16, 3) := by decide +kernel
theorem d_M_step_4 : decode b_M_step 4 = .ok (.aload_n 0, 1) := by decide +kernel
theorem d_M_step_5 : decode b_M_step 5 = .ok (.getfield 57, 3) := by decide +kernel
theorem d_M_step_8 : decode b_M_step 8 = .ok (.iload_n 1, 1) := by decide +kernel
theorem d_M_step_9 : decode b_M_step 9 = .ok (.iaload, 1) := by decide +kernel
theorem d_M_step_10 : decode b_M_step 10 = .ok (.iaload, 1) := by decide +kernel
theorem d_M_step_11 : decode b_M_step 11 = .ok (.istore_n 2, 1) := by decide +kernel
theorem d_M_step_12 : decode b_M_step 12 = .ok (.iload_n 2, 1) := by decide +kernel
theorem d_M_step_13 : decode b_M_step 13 = .ok (.invokestatic 181, 3) := by decide +kernel
theorem d_M_step_16 : decode b_M_step 16 = .ok (.ifCond .ne 12, 3) := by decide +kernel
theorem d_M_step_19 : decode b_M_step 19 = .ok (.aload_n 0, 1) := by decide +kernel
theorem d_M_step_20 : decode b_M_step 20 = .ok (.iload_n 1, 1) := by decide +kernel
theorem d_M_step_21 : decode b_M_step 21 = .ok (.iload_n 2, 1) := by decide +kernel
theorem d_M_step_22 : decode b_M_step 22 = .ok (.invokevirtual 211, 3) := by decide +kernel
theorem d_M_step_25 : decode b_M_step 25 = .ok (.goto 92, 3) := by decide +kernel
theorem d_M_step_28 : decode b_M_step 28 = .ok (.aload_n 0, 1) := by decide +kernel
theorem d_M_step_29 : decode b_M_step 29 = .ok (.getfield 63, 3) := by decide +kernel
theorem d_M_step_32 : decode b_M_step 32 = .ok (.iload_n 1, 1) := by decide +kernel
theorem d_M_step_33 : decode b_M_step 33 = .ok (.iaload, 1) := by decide +kernel
theorem d_M_step_34 : decode b_M_step 34 = .ok (.ifCond .ne 12, 3) := by decide +kernel
theorem d_M_step_37 : decode b_M_step 37 = .ok (.aload_n 0, 1) := by decide +kernel
theorem d_M_step_38 : decode b_M_step 38 = .ok (.iload_n 1, 1) := by decide +kernel
theorem d_M_step_39 : decode b_M_step 39 = .ok (.iload_n 2, 1) := by decide +kernel
theorem d_M_step_40 : decode b_M_step 40 = .ok (.invokevirtual 214, 3) := by decide +kernel
theorem d_M_step_43 : decode b_M_step 43 = .ok (.goto 74, 3) := by decide +kernel
theorem d_M_step_46 : decode b_M_step 46 = .ok (.aload_n 0, 1) := by decide +kernel
theorem d_M_step_47 : decode b_M_step 47 = .ok (.getfield 63, 3) := by decide +kernel
theorem d_M_step_50 : decode b_M_step 50 = .ok (.iload_n 1, 1) := by decide +kernel
theorem d_M_step_51 : decode b_M_step 51 = .ok (.iaload, 1) := by decide +kernel
theorem d_M_step_52 : decode b_M_step 52 = .ok (.iconst 1, 1) := by decide +kernel
theorem d_M_step_53 : decode b_M_step 53 = .ok (.if_icmp .ne 12, 3) := by decide +kernel
theorem d_M_step_56 : decode b_M_step 56 = .ok (.aload_n 0, 1) := by decide +kernel
theorem d_M_step_57 : decode b_M_step 57 = .ok (.iload_n 1, 1) := by decide +kernel
theorem d_M_step_58 : decode b_M_step 58 = .ok (.iload_n 2, 1) := by decide +kernel
theorem d_M_step_59 : decode b_M_step 59 = .ok (.invokevirtual 217, 3) := by decide +kernel
theorem d_M_step_62 : decode b_M_step 62 = .ok (.goto 55, 3) := by decide +kernel
theorem d_M_step_65 : decode b_M_step 65 = .ok (.aload_n 0, 1) := by decide +kernel
theorem d_M_step_66 : decode b_M_step 66 = .ok (.getfield 63, 3) := by decide +kernel
theorem d_M_step_69 : decode b_M_step 69 = .ok (.iload_n 1, 1) := by decide +kernel
theorem d_M_step_70 : decode b_M_step 70 = .ok (.iaload, 1) := by decide +kernel
theorem d_M_step_71 : decode b_M_step 71 = .ok (.iconst 2, 1) := by decide +kernel
theorem d_M_step_72 : decode b_M_step 72 = .ok (.if_icmp .ne 12, 3) := by decide +kernel
theorem d_M_step_75 : decode b_M_step 75 = .ok (.aload_n 0, 1) := by decide +kernel
theorem d_M_step_76 : decode b_M_step 76 = .ok (.iload_n 1, 1) := by decide +kernel
theorem d_M_step_77 : decode b_M_step 77 = .ok (.iload_n 2, 1) := by decide +kernel
theorem d_M_step_78 : decode b_M_step 78 = .ok (.invokevirtual 220, 3) := by decide +kernel
theorem d_M_step_81 : decode b_M_step 81 = .ok (.goto 36, 3) := by decide +kernel
theorem d_M_step_84 : decode b_M_step 84 = .ok (.aload_n 0, 1) := by decide +kernel
theorem d_M_step_85 : decode b_M_step 85 = .ok (.getfield 63, 3) := by decide +kernel
theorem d_M_step_88 : decode b_M_step 88 = .ok (.iload_n 1, 1) := by decide +kernel
theorem d_M_step_89 : decode b_M_step 89 = .ok (.iaload, 1) := by decide +kernel
theorem d_M_step_90 : decode b_M_step 90 = .ok (.iconst 3, 1) := by decide +kernel
theorem d_M_step_91 : decode b_M_step 91 = .ok (.if_icmp .ne 12, 3) := by decide +kernel
theorem d_M_step_94 : decode b_M_step 94 = .ok (.aload_n 0, 1) := by decide +kernel
theorem d_M_step_95 : decode b_M_step 95 = .ok (.iload_n 1, 1) := by decide +kernel
theorem d_M_step_96 : decode b_M_step 96 = .ok (.iload_n 2, 1) := by decide +kernel
theorem d_M_step_97 : decode b_M_step 97 = .ok (.invokevirtual 223, 3) := by decide +kernel
theorem d_M_step_100 : decode b_M_step 100 = .ok (.goto 17, 3) := by decide +kernel
theorem d_M_step_103 : decode b_M_step 103 = .ok (.aload_n 0, 1) := by decide +kernel
theorem d_M_step_104 : decode b_M_step 104 = .ok (.iload_n 1, 1) := by decide +kernel
theorem d_M_step_105 : decode b_M_step 105 = .ok (.invokevirtual 226, 3) := by decide +kernel
theorem d_M_step_108 : decode b_M_step 108 = .ok (.aload_n 0, 1) := by decide +kernel
theorem d_M_step_109 : decode b_M_step 109 = .ok (.iload_n 1, 1) := by decide +kernel
theorem d_M_step_110 : decode b_M_step 110 = .ok (.aload_n 0, 1) := by decide +kernel
theorem d_M_step_111 : decode b_M_step 111 = .ok (.getfield 199, 3) := by decide +kernel
theorem d_M_step_114 : decode b_M_step 114 = .ok (.invokevirtual 205, 3) := by decide +kernel
theorem d_M_step_117 : decode b_M_step 117 = .ok (.return_, 1) := by decide +kernel
theorem d_M_leaf_0 : decode b_M_leaf 0 = .ok (.aload_n 0, 1) := by decide +kernel
theorem d_M_leaf_1 : decode b_M_leaf 1 = .ok (.getfield 60, 3) := by decide +kernel
theorem d_M_leaf_4 : decode b_M_leaf 4 = .ok (.iload_n 1, 1) := by decide +kernel
theorem d_M_leaf_5 : decode b_M_leaf 5 = .ok (.iaload, 1) := by decide +kernel
theorem d_M_leaf_6 : decode b_M_leaf 6 = .ok (.istore_n 3, 1) := by decide +kernel
theorem d_M_leaf_7 : decode b_M_leaf 7 = .ok (.aload_n 0, 1) := by decide +kernel
theorem d_M_leaf_8 : decode b_M_leaf 8 = .ok (.getfield 19, 3) := by decide +kernel
theorem d_M_leaf_11 : decode b_M_leaf 11 = .ok (.aload_n 0, 1) := by decide +kernel
theorem d_M_leaf_12 : decode b_M_leaf 12 = .ok (.getfield 57, 3) := by decide +kernel
theorem d_M_leaf_15 : decode b_M_leaf 15 = .ok (.iload_n 1, 1) := by decide +kernel
theorem d_M_leaf_16 : decode b_M_leaf 16 = .ok (.iaload, 1) := by decide +kernel
theorem d_M_leaf_17 : decode b_M_leaf 17 = .ok (.iaload, 1) := by decide +kernel
theorem d_M_leaf_18 : decode b_M_leaf 18 = .ok (.istore 4, 2) := by decide +kernel
theorem d_M_leaf_20 : decode b_M_leaf 20 = .ok (.aload_n 0, 1) := by decide +kernel
theorem d_M_leaf_21 : decode b_M_leaf 21 = .ok (.iload_n 3, 1) := by decide +kernel
theorem d_M_leaf_22 : decode b_M_leaf 22 = .ok (.invokevirtual 156, 3) := by decide +kernel
theorem d_M_leaf_25 : decode b_M_leaf 25 = .ok (.istore 5, 2) := by decide +kernel
theorem d_M_leaf_27 : decode b_M_leaf 27 = .ok (.iconst (-1), 1) := by decide +kernel
theorem d_M_leaf_28 : decode b_M_leaf 28 = .ok (.istore 6, 2) := by decide +kernel
theorem d_M_leaf_30 : decode b_M_leaf 30 = .ok (.iload_n 2, 1) := by decide +kernel
theorem d_M_leaf_31 : decode b_M_leaf 31 = .ok (.tableswitch 367 0 30 #[137, 143, 367, 168, 367, 367, 187, 203, 214, 367, 241, 367, 367, 367, 367, 367, 251, 367, 367, 367, 367, 271, 367, 283, 293, 303, 309, 316, 336, 367, 356], 137) := by decide +kernel
theorem d_M_leaf_168 : decode b_M_leaf 168 = .ok (.iload_n 3, 1) := by decide +kernel
theorem d_M_leaf_169 : decode b_M_leaf 169 = .ok (.istore 6, 2) := by decide +kernel
theorem d_M_leaf_171 : decode b_M_leaf 171 = .ok (.goto 251, 3) := by decide +kernel
theorem d_M_leaf_174 : decode b_M_leaf 174 = .ok (.aload_n 0, 1) := by decide +kernel
theorem d_M_leaf_175 : decode b_M_leaf 175 = .ok (.iload_n 1, 1) := by decide +kernel
theorem d_M_leaf_176 : decode b_M_leaf 176 = .ok (.iload_n 3, 1) := by decide +kernel
theorem d_M_leaf_177 : decode b_M_leaf 177 = .ok (.aload_n 0, 1) := by decide +kernel
theorem d_M_leaf_178 : decode b_M_leaf 178 = .ok (.iload 4, 2) := by decide +kernel
theorem d_M_leaf_180 : decode b_M_leaf 180 = .ok (.invokevirtual 230, 3) := by decide +kernel
theorem d_M_leaf_183 : decode b_M_leaf 183 = .ok (.invokevirtual 233, 3) := by decide +kernel
theorem d_M_leaf_186 : decode b_M_leaf 186 = .ok (.ifCond .eq 7, 3) := by decide +kernel
theorem d_M_leaf_189 : decode b_M_leaf 189 = .ok (.iconst 0, 1) := by decide +kernel
theorem d_M_leaf_190 : decode b_M_leaf 190 = .ok (.goto 4, 3) := by decide +kernel
theorem d_M_leaf_193 : decode b_M_leaf 193 = .ok (.iconst (-1), 1) := by decide +kernel
theorem d_M_leaf_194 : decode b_M_leaf 194 = .ok (.istore 6, 2) := by decide +kernel
theorem d_M_leaf_196 : decode b_M_leaf 196 = .ok (.goto 226, 3) := by decide +kernel
theorem d_M_leaf_199 : decode b_M_leaf 199 = .ok (.aload_n 0, 1) := by decide +kernel
theorem d_M_leaf_200 : decode b_M_leaf 200 = .ok (.iload_n 1, 1) := by decide +kernel
theorem d_M_leaf_201 : decode b_M_leaf 201 = .ok (.iload_n 3, 1) := by decide +kernel
theorem d_M_leaf_202 : decode b_M_leaf 202 = .ok (.invokevirtual 236, 3) := by decide +kernel
theorem d_M_leaf_205 : decode b_M_leaf 205 = .ok (.ifCond .eq 7, 3) := by decide +kernel
theorem d_M_leaf_208 : decode b_M_leaf 208 = .ok (.iconst 0, 1) := by decide +kernel
theorem d_M_leaf_209 : decode b_M_leaf 209 = .ok (.goto 4, 3) := by decide +kernel
theorem d_M_leaf_212 : decode b_M_leaf 212 = .ok (.iconst (-1), 1) := by decide +kernel
theorem d_M_leaf_213 : decode b_M_leaf 213 = .ok (.istore 6, 2) := by decide +kernel
theorem d_M_leaf_215 : decode b_M_leaf 215 = .ok (.goto 207, 3) := by decide +kernel
theorem d_M_leaf_218 : decode b_M_leaf 218 = .ok (.aload_n 0, 1) := by decide +kernel
theorem d_M_leaf_219 : decode b_M_leaf 219 = .ok (.iload 4, 2) := by decide +kernel
theorem d_M_leaf_221 : decode b_M_leaf 221 = .ok (.i2l, 1) := by decide +kernel
theorem d_M_leaf_222 : decode b_M_leaf 222 = .ok (.ldc2_w 240, 3) := by decide +kernel
theorem d_M_leaf_225 : decode b_M_leaf 225 = .ok (.lmul, 1) := by decide +kernel
theorem d_M_leaf_226 : decode b_M_leaf 226 = .ok (.invokevirtual 132, 3) := by decide +kernel
theorem d_M_leaf_229 : decode b_M_leaf 229 = .ok (.istore 6, 2) := by decide +kernel
theorem d_M_leaf_231 : decode b_M_leaf 231 = .ok (.goto 191, 3) := by decide +kernel
theorem d_M_leaf_234 : decode b_M_leaf 234 = .ok (.aload_n 0, 1) := by decide +kernel
theorem d_M_leaf_235 : decode b_M_leaf 235 = .ok (.iload 4, 2) := by decide +kernel
theorem d_M_leaf_237 : decode b_M_leaf 237 = .ok (.invokevirtual 230, 3) := by decide +kernel
theorem d_M_leaf_240 : decode b_M_leaf 240 = .ok (.istore 6, 2) := by decide +kernel
theorem d_M_leaf_242 : decode b_M_leaf 242 = .ok (.goto 180, 3) := by decide +kernel
theorem d_M_leaf_245 : decode b_M_leaf 245 = .ok (.iload 4, 2) := by decide +kernel
theorem d_M_leaf_247 : decode b_M_leaf 247 = .ok (.ifCond .ne 7, 3) := by decide +kernel
theorem d_M_leaf_250 : decode b_M_leaf 250 = .ok (.iconst 4, 1) := by decide +kernel
theorem d_M_leaf_251 : decode b_M_leaf 251 = .ok (.goto 16, 3) := by decide +kernel
theorem d_M_leaf_254 : decode b_M_leaf 254 = .ok (.iload 4, 2) := by decide +kernel
theorem d_M_leaf_256 : decode b_M_leaf 256 = .ok (.iconst 1, 1) := by decide +kernel
theorem d_M_leaf_257 : decode b_M_leaf 257 = .ok (.if_icmp .ne 8, 3) := by decide +kernel
theorem d_M_leaf_260 : decode b_M_leaf 260 = .ok (.bipush 8, 2) := by decide +kernel
theorem d_M_leaf_262 : decode b_M_leaf 262 = .ok (.goto 5, 3) := by decide +kernel
theorem d_M_leaf_265 : decode b_M_leaf 265 = .ok (.bipush 12, 2) := by decide +kernel
theorem d_M_leaf_267 : decode b_M_leaf 267 = .ok (.istore 6, 2) := by decide +kernel
theorem d_M_leaf_269 : decode b_M_leaf 269 = .ok (.goto 153, 3) := by decide +kernel
theorem d_M_leaf_272 : decode b_M_leaf 272 = .ok (.aload_n 0, 1) := by decide +kernel
theorem d_M_leaf_273 : decode b_M_leaf 273 = .ok (.iconst 0, 1) := by decide +kernel
theorem d_M_leaf_274 : decode b_M_leaf 274 = .ok (.invokevirtual 242, 3) := by decide +kernel
theorem d_M_leaf_277 : decode b_M_leaf 277 = .ok (.istore 6, 2) := by decide +kernel
theorem d_M_leaf_279 : decode b_M_leaf 279 = .ok (.goto 143, 3) := by decide +kernel
theorem d_M_leaf_282 : decode b_M_leaf 282 = .ok (.aload_n 0, 1) := by decide +kernel
theorem d_M_leaf_283 : decode b_M_leaf 283 = .ok (.iload_n 3, 1) := by decide +kernel
theorem d_M_leaf_284 : decode b_M_leaf 284 = .ok (.invokevirtual 245, 3) := by decide +kernel
theorem d_M_leaf_287 : decode b_M_leaf 287 = .ok (.ifCond .eq 8, 3) := by decide +kernel
theorem d_M_leaf_290 : decode b_M_leaf 290 = .ok (.bipush 8, 2) := by decide +kernel
theorem d_M_leaf_292 : decode b_M_leaf 292 = .ok (.goto 5, 3) := by decide +kernel
theorem d_M_leaf_295 : decode b_M_leaf 295 = .ok (.bipush 12, 2) := by decide +kernel
theorem d_M_leaf_297 : decode b_M_leaf 297 = .ok (.istore 6, 2) := by decide +kernel
theorem d_M_leaf_299 : decode b_M_leaf 299 = .ok (.goto 123, 3) := by decide +kernel
theorem d_M_leaf_302 : decode b_M_leaf 302 = .ok (.aload_n 0, 1) := by decide +kernel
theorem d_M_leaf_303 : decode b_M_leaf 303 = .ok (.getfield 54, 3) := by decide +kernel
theorem d_M_leaf_306 : decode b_M_leaf 306 = .ok (.iload 4, 2) := by decide +kernel
theorem d_M_leaf_308 : decode b_M_leaf 308 = .ok (.iaload, 1) := by decide +kernel
theorem d_M_leaf_309 : decode b_M_leaf 309 = .ok (.istore 6, 2) := by decide +kernel
theorem d_M_leaf_311 : decode b_M_leaf 311 = .ok (.goto 111, 3) := by decide +kernel
theorem d_M_leaf_314 : decode b_M_leaf 314 = .ok (.aload_n 0, 1) := by decide +kernel
theorem d_M_leaf_315 : decode b_M_leaf 315 = .ok (.iload_n 3, 1) := by decide +kernel
theorem d_M_leaf_316 : decode b_M_leaf 316 = .ok (.invokevirtual 249, 3) := by decide +kernel
theorem d_M_leaf_319 : decode b_M_leaf 319 = .ok (.istore 6, 2) := by decide +kernel
theorem d_M_leaf_321 : decode b_M_leaf 321 = .ok (.goto 101, 3) := by decide +kernel
theorem d_M_leaf_324 : decode b_M_leaf 324 = .ok (.aload_n 0, 1) := by decide +kernel
theorem d_M_leaf_325 : decode b_M_leaf 325 = .ok (.iload_n 3, 1) := by decide +kernel
theorem d_M_leaf_326 : decode b_M_leaf 326 = .ok (.invokevirtual 252, 3) := by decide +kernel
theorem d_M_leaf_329 : decode b_M_leaf 329 = .ok (.istore 6, 2) := by decide +kernel
theorem d_M_leaf_331 : decode b_M_leaf 331 = .ok (.goto 91, 3) := by decide +kernel
theorem d_M_leaf_334 : decode b_M_leaf 334 = .ok (.iconst 0, 1) := by decide +kernel
theorem d_M_leaf_335 : decode b_M_leaf 335 = .ok (.istore 6, 2) := by decide +kernel
theorem d_M_leaf_337 : decode b_M_leaf 337 = .ok (.goto 85, 3) := by decide +kernel
theorem d_M_leaf_340 : decode b_M_leaf 340 = .ok (.aload_n 0, 1) := by decide +kernel
theorem d_M_leaf_341 : decode b_M_leaf 341 = .ok (.iload_n 1, 1) := by decide +kernel
theorem d_M_leaf_342 : decode b_M_leaf 342 = .ok (.iload_n 3, 1) := by decide +kernel
theorem d_M_leaf_343 : decode b_M_leaf 343 = .ok (.invokevirtual 205, 3) := by decide +kernel
theorem d_M_leaf_346 : decode b_M_leaf 346 = .ok (.return_, 1) := by decide +kernel
theorem d_M_leaf_347 : decode b_M_leaf 347 = .ok (.iload 5, 2) := by decide +kernel
theorem d_M_leaf_349 : decode b_M_leaf 349 = .ok (.iconst 5, 1) := by decide +kernel
theorem d_M_leaf_350 : decode b_M_leaf 350 = .ok (.if_icmp .ne 11, 3) := by decide +kernel
theorem d_M_leaf_353 : decode b_M_leaf 353 = .ok (.aload_n 0, 1) := by decide +kernel
theorem d_M_leaf_354 : decode b_M_leaf 354 = .ok (.iload_n 3, 1) := by decide +kernel
theorem d_M_leaf_355 : decode b_M_leaf 355 = .ok (.invokevirtual 255, 3) := by decide +kernel
theorem d_M_leaf_358 : decode b_M_leaf 358 = .ok (.goto 4, 3) := by decide +kernel
theorem d_M_leaf_361 : decode b_M_leaf 361 = .ok (.iconst (-1), 1) := by decide +kernel
theorem d_M_leaf_362 : decode b_M_leaf 362 = .ok (.istore 6, 2) := by decide +kernel
theorem d_M_leaf_364 : decode b_M_leaf 364 = .ok (.goto 58, 3) := by decide +kernel
theorem d_M_leaf_367 : decode b_M_leaf 367 = .ok (.iload 5, 2) := by decide +kernel
theorem d_M_leaf_369 : decode b_M_leaf 369 = .ok (.iconst 5, 1) := by decide +kernel
theorem d_M_leaf_370 : decode b_M_leaf 370 = .ok (.if_icmp .ne 11, 3) := by decide +kernel
theorem d_M_leaf_373 : decode b_M_leaf 373 = .ok (.aload_n 0, 1) := by decide +kernel
theorem d_M_leaf_374 : decode b_M_leaf 374 = .ok (.iload_n 3, 1) := by decide +kernel
theorem d_M_leaf_375 : decode b_M_leaf 375 = .ok (.invokevirtual 258, 3) := by decide +kernel
theorem d_M_leaf_378 : decode b_M_leaf 378 = .ok (.goto 4, 3) := by decide +kernel
theorem d_M_leaf_381 : decode b_M_leaf 381 = .ok (.iconst (-1), 1) := by decide +kernel
theorem d_M_leaf_382 : decode b_M_leaf 382 = .ok (.istore 6, 2) := by decide +kernel
theorem d_M_leaf_384 : decode b_M_leaf 384 = .ok (.goto 38, 3) := by decide +kernel
theorem d_M_leaf_387 : decode b_M_leaf 387 = .ok (.aload_n 0, 1) := by decide +kernel
theorem d_M_leaf_388 : decode b_M_leaf 388 = .ok (.iload_n 1, 1) := by decide +kernel
theorem d_M_leaf_389 : decode b_M_leaf 389 = .ok (.invokevirtual 261, 3) := by decide +kernel
theorem d_M_leaf_392 : decode b_M_leaf 392 = .ok (.iconst 0, 1) := by decide +kernel
theorem d_M_leaf_393 : decode b_M_leaf 393 = .ok (.istore 6, 2) := by decide +kernel
theorem d_M_leaf_395 : decode b_M_leaf 395 = .ok (.goto 27, 3) := by decide +kernel
theorem d_M_leaf_398 : decode b_M_leaf 398 = .ok (.iload 5, 2) := by decide +kernel
theorem d_M_leaf_400 : decode b_M_leaf 400 = .ok (.iconst 3, 1) := by decide +kernel
theorem d_M_leaf_401 : decode b_M_leaf 401 = .ok (.if_icmp .ne 18, 3) := by decide +kernel
theorem d_M_leaf_404 : decode b_M_leaf 404 = .ok (.aload_n 0, 1) := by decide +kernel
theorem d_M_leaf_405 : decode b_M_leaf 405 = .ok (.aload_n 0, 1) := by decide +kernel
theorem d_M_leaf_406 : decode b_M_leaf 406 = .ok (.iload_n 3, 1) := by decide +kernel
theorem d_M_leaf_407 : decode b_M_leaf 407 = .ok (.invokevirtual 122, 3) := by decide +kernel
theorem d_M_leaf_410 : decode b_M_leaf 410 = .ok (.invokestatic 264, 3) := by decide +kernel
theorem d_M_leaf_413 : decode b_M_leaf 413 = .ok (.invokevirtual 202, 3) := by decide +kernel
theorem d_M_leaf_416 : decode b_M_leaf 416 = .ok (.goto 4, 3) := by decide +kernel
theorem d_M_leaf_419 : decode b_M_leaf 419 = .ok (.iconst (-1), 1) := by decide +kernel
theorem d_M_leaf_420 : decode b_M_leaf 420 = .ok (.istore 6, 2) := by decide +kernel
theorem d_M_leaf_422 : decode b_M_leaf 422 = .ok (.iload 6, 2) := by decide +kernel
theorem d_M_leaf_424 : decode b_M_leaf 424 = .ok (.ifCond .le 10, 3) := by decide +kernel
theorem d_M_leaf_427 : decode b_M_leaf 427 = .ok (.aload_n 0, 1) := by decide +kernel
theorem d_M_leaf_428 : decode b_M_leaf 428 = .ok (.iload_n 1, 1) := by decide +kernel
theorem d_M_leaf_429 : decode b_M_leaf 429 = .ok (.iload 6, 2) := by decide +kernel
theorem d_M_leaf_431 : decode b_M_leaf 431 = .ok (.invokevirtual 208, 3) := by decide +kernel
theorem d_M_leaf_434 : decode b_M_leaf 434 = .ok (.iload 6, 2) := by decide +kernel
theorem d_M_leaf_436 : decode b_M_leaf 436 = .ok (.ifCond .ge 12, 3) := by decide +kernel
theorem d_M_leaf_439 : decode b_M_leaf 439 = .ok (.aload_n 0, 1) := by decide +kernel
theorem d_M_leaf_440 : decode b_M_leaf 440 = .ok (.iload_n 1, 1) := by decide +kernel
theorem d_M_leaf_441 : decode b_M_leaf 441 = .ok (.iconst 1, 1) := by decide +kernel
theorem d_M_leaf_442 : decode b_M_leaf 442 = .ok (.invokevirtual 268, 3) := by decide +kernel
theorem d_M_leaf_445 : decode b_M_leaf 445 = .ok (.goto 9, 3) := by decide +kernel
theorem d_M_leaf_448 : decode b_M_leaf 448 = .ok (.aload_n 0, 1) := by decide +kernel
theorem d_M_leaf_449 : decode b_M_leaf 449 = .ok (.iload_n 1, 1) := by decide +kernel
theorem d_M_leaf_450 : decode b_M_leaf 450 = .ok (.iconst 0, 1) := by decide +kernel
theorem d_M_leaf_451 : decode b_M_leaf 451 = .ok (.invokevirtual 205, 3) := by decide +kernel
theorem d_M_leaf_454 : decode b_M_leaf 454 = .ok (.return_, 1) := by decide +kernel
theorem d_M_field_0 : decode b_M_field 0 = .ok (.aload_n 0, 1) := by decide +kernel
theorem d_M_field_1 : decode b_M_field 1 = .ok (.iload_n 2, 1) := by decide +kernel
theorem d_M_field_2 : decode b_M_field 2 = .ok (.invokevirtual 156, 3) := by decide +kernel
theorem d_M_field_5 : decode b_M_field 5 = .ok (.ifCond .eq 15, 3) := by decide +kernel
theorem d_M_field_8 : decode b_M_field 8 = .ok (.aload_n 0, 1) := by decide +kernel
theorem d_M_field_9 : decode b_M_field 9 = .ok (.iload_n 2, 1) := by decide +kernel
theorem d_M_field_10 : decode b_M_field 10 = .ok (.invokevirtual 156, 3) := by decide +kernel
theorem d_M_field_13 : decode b_M_field 13 = .ok (.bipush 6, 2) := by decide +kernel
theorem d_M_field_15 : decode b_M_field 15 = .ok (.if_icmp .eq 5, 3) := by decide +kernel
theorem d_M_field_18 : decode b_M_field 18 = .ok (.iconst 0, 1) := by decide +kernel
theorem d_M_field_19 : decode b_M_field 19 = .ok (.ireturn, 1) := by decide +kernel
theorem d_M_field_20 : decode b_M_field 20 = .ok (.aload_n 0, 1) := by decide +kernel
theorem d_M_field_21 : decode b_M_field 21 = .ok (.iload_n 2, 1) := by decide +kernel
theorem d_M_field_22 : decode b_M_field 22 = .ok (.invokevirtual 156, 3) := by decide +kernel
theorem d_M_field_25 : decode b_M_field 25 = .ok (.bipush 6, 2) := by decide +kernel
theorem d_M_field_27 : decode b_M_field 27 = .ok (.if_icmp .ne 12, 3) := by decide +kernel
theorem d_M_field_30 : decode b_M_field 30 = .ok (.aload_n 0, 1) := by decide +kernel
theorem d_M_field_31 : decode b_M_field 31 = .ok (.iload_n 2, 1) := by decide +kernel
theorem d_M_field_32 : decode b_M_field 32 = .ok (.iload_n 3, 1) := by decide +kernel
theorem d_M_field_33 : decode b_M_field 33 = .ok (.invokevirtual 271, 3) := by decide +kernel
theorem d_M_field_36 : decode b_M_field 36 = .ok (.goto 4, 3) := by decide +kernel
theorem d_M_field_39 : decode b_M_field 39 = .ok (.iconst (-1), 1) := by decide +kernel
theorem d_M_field_40 : decode b_M_field 40 = .ok (.istore 4, 2) := by decide +kernel
theorem d_M_field_42 : decode b_M_field 42 = .ok (.aload_n 0, 1) := by decide +kernel
theorem d_M_field_43 : decode b_M_field 43 = .ok (.iload_n 1, 1) := by decide +kernel
theorem d_M_field_44 : decode b_M_field 44 = .ok (.iload 4, 2) := by decide +kernel
theorem d_M_field_46 : decode b_M_field 46 = .ok (.ifCond .ge 7, 3) := by decide +kernel
theorem d_M_field_49 : decode b_M_field 49 = .ok (.iconst 4, 1) := by decide +kernel
theorem d_M_field_50 : decode b_M_field 50 = .ok (.goto 10, 3) := by decide +kernel
theorem d_M_field_53 : decode b_M_field 53 = .ok (.aload_n 0, 1) := by decide +kernel
theorem d_M_field_54 : decode b_M_field 54 = .ok (.iload_n 2, 1) := by decide +kernel
theorem d_M_field_55 : decode b_M_field 55 = .ok (.iload 4, 2) := by decide +kernel
theorem d_M_field_57 : decode b_M_field 57 = .ok (.invokevirtual 139, 3) := by decide +kernel
theorem d_M_field_60 : decode b_M_field 60 = .ok (.invokevirtual 208, 3) := by decide +kernel
theorem d_M_field_63 : decode b_M_field 63 = .ok (.iconst 1, 1) := by decide +kernel
theorem d_M_field_64 : decode b_M_field 64 = .ok (.ireturn, 1) := by decide +kernel
theorem d_M_stepTo_0 : decode b_M_stepTo 0 = .ok (.aload_n 0, 1) := by decide +kernel
theorem d_M_stepTo_1 : decode b_M_stepTo 1 = .ok (.iload_n 1, 1) := by decide +kernel
theorem d_M_stepTo_2 : decode b_M_stepTo 2 = .ok (.invokevirtual 156, 3) := by decide +kernel
theorem d_M_stepTo_5 : decode b_M_stepTo 5 = .ok (.bipush 6, 2) := by decide +kernel
theorem d_M_stepTo_7 : decode b_M_stepTo 7 = .ok (.if_icmp .ne 12, 3) := by decide +kernel
theorem d_M_stepTo_10 : decode b_M_stepTo 10 = .ok (.aload_n 0, 1) := by decide +kernel
theorem d_M_stepTo_11 : decode b_M_stepTo 11 = .ok (.iload_n 1, 1) := by decide +kernel
theorem d_M_stepTo_12 : decode b_M_stepTo 12 = .ok (.iload_n 2, 1) := by decide +kernel
theorem d_M_stepTo_13 : decode b_M_stepTo 13 = .ok (.invokevirtual 165, 3) := by decide +kernel
theorem d_M_stepTo_16 : decode b_M_stepTo 16 = .ok (.goto 9, 3) := by decide +kernel
theorem d_M_stepTo_19 : decode b_M_stepTo 19 = .ok (.aload_n 0, 1) := by decide +kernel
theorem d_M_stepTo_20 : decode b_M_stepTo 20 = .ok (.iload_n 2, 1) := by decide +kernel
theorem d_M_stepTo_21 : decode b_M_stepTo 21 = .ok (.i2l, 1) := by decide +kernel
theorem d_M_stepTo_22 : decode b_M_stepTo 22 = .ok (.invokevirtual 202, 3) := by decide +kernel
theorem d_M_stepTo_25 : decode b_M_stepTo 25 = .ok (.ireturn, 1) := by decide +kernel
theorem d_M_each_0 : decode b_M_each 0 = .ok (.aload_n 0, 1) := by decide +kernel
theorem d_M_each_1 : decode b_M_each 1 = .ok (.iload_n 2, 1) := by decide +kernel
theorem d_M_each_2 : decode b_M_each 2 = .ok (.invokevirtual 156, 3) := by decide +kernel
theorem d_M_each_5 : decode b_M_each 5 = .ok (.iconst 5, 1) := by decide +kernel
theorem d_M_each_6 : decode b_M_each 6 = .ok (.if_icmp .ge 5, 3) := by decide +kernel
theorem d_M_each_9 : decode b_M_each 9 = .ok (.iconst 0, 1) := by decide +kernel
theorem d_M_each_10 : decode b_M_each 10 = .ok (.ireturn, 1) := by decide +kernel
theorem d_M_each_11 : decode b_M_each 11 = .ok (.iconst 0, 1) := by decide +kernel
theorem d_M_each_12 : decode b_M_each 12 = .ok (.istore_n 3, 1) := by decide +kernel
theorem d_M_each_13 : decode b_M_each 13 = .ok (.iload_n 3, 1) := by decide +kernel
theorem d_M_each_14 : decode b_M_each 14 = .ok (.aload_n 0, 1) := by decide +kernel
theorem d_M_each_15 : decode b_M_each 15 = .ok (.iload_n 2, 1) := by decide +kernel
theorem d_M_each_16 : decode b_M_each 16 = .ok (.invokevirtual 136, 3) := by decide +kernel
theorem d_M_each_19 : decode b_M_each 19 = .ok (.if_icmp .ge 20, 3) := by decide +kernel
theorem d_M_each_22 : decode b_M_each 22 = .ok (.aload_n 0, 1) := by decide +kernel
theorem d_M_each_23 : decode b_M_each 23 = .ok (.iload_n 1, 1) := by decide +kernel
theorem d_M_each_24 : decode b_M_each 24 = .ok (.aload_n 0, 1) := by decide +kernel
theorem d_M_each_25 : decode b_M_each 25 = .ok (.iload_n 2, 1) := by decide +kernel
theorem d_M_each_26 : decode b_M_each 26 = .ok (.iload_n 3, 1) := by decide +kernel
theorem d_M_each_27 : decode b_M_each 27 = .ok (.invokevirtual 139, 3) := by decide +kernel
theorem d_M_each_30 : decode b_M_each 30 = .ok (.invokevirtual 208, 3) := by decide +kernel
theorem d_M_each_33 : decode b_M_each 33 = .ok (.iinc 3 1, 3) := by decide +kernel
theorem d_M_each_36 : decode b_M_each 36 = .ok (.goto (-23), 3) := by decide +kernel
theorem d_M_each_39 : decode b_M_each 39 = .ok (.iconst 1, 1) := by decide +kernel
theorem d_M_each_40 : decode b_M_each 40 = .ok (.ireturn, 1) := by decide +kernel
theorem d_M_all_0 : decode b_M_all 0 = .ok (.aload_n 0, 1) := by decide +kernel
theorem d_M_all_1 : decode b_M_all 1 = .ok (.iconst 0, 1) := by decide +kernel
theorem d_M_all_2 : decode b_M_all 2 = .ok (.putfield 149, 3) := by decide +kernel
theorem d_M_all_5 : decode b_M_all 5 = .ok (.aload_n 0, 1) := by decide +kernel
theorem d_M_all_6 : decode b_M_all 6 = .ok (.aload_n 0, 1) := by decide +kernel
theorem d_M_all_7 : decode b_M_all 7 = .ok (.getfield 60, 3) := by decide +kernel
theorem d_M_all_10 : decode b_M_all 10 = .ok (.iload_n 1, 1) := by decide +kernel
theorem d_M_all_11 : decode b_M_all 11 = .ok (.iaload, 1) := by decide +kernel
theorem d_M_all_12 : decode b_M_all 12 = .ok (.iconst 0, 1) := by decide +kernel
theorem d_M_all_13 : decode b_M_all 13 = .ok (.invokevirtual 152, 3) := by decide +kernel
theorem d_M_all_16 : decode b_M_all 16 = .ok (.aload_n 0, 1) := by decide +kernel
theorem d_M_all_17 : decode b_M_all 17 = .ok (.getfield 149, 3) := by decide +kernel
theorem d_M_all_20 : decode b_M_all 20 = .ok (.ifCond .le 80, 3) := by decide +kernel
theorem d_M_all_23 : decode b_M_all 23 = .ok (.aload_n 0, 1) := by decide +kernel
theorem d_M_all_24 : decode b_M_all 24 = .ok (.getfield 104, 3) := by decide +kernel
theorem d_M_all_27 : decode b_M_all 27 = .ok (.ifCond .ne 73, 3) := by decide +kernel
theorem d_M_all_30 : decode b_M_all 30 = .ok (.aload_n 0, 1) := by decide +kernel
theorem d_M_all_31 : decode b_M_all 31 = .ok (.dup, 1) := by decide +kernel
theorem d_M_all_32 : decode b_M_all 32 = .ok (.getfield 149, 3) := by decide +kernel
theorem d_M_all_35 : decode b_M_all 35 = .ok (.iconst 1, 1) := by decide +kernel
theorem d_M_all_36 : decode b_M_all 36 = .ok (.isub, 1) := by decide +kernel
theorem d_M_all_37 : decode b_M_all 37 = .ok (.putfield 149, 3) := by decide +kernel
theorem d_M_all_40 : decode b_M_all 40 = .ok (.aload_n 0, 1) := by decide +kernel
theorem d_M_all_41 : decode b_M_all 41 = .ok (.getfield 48, 3) := by decide +kernel
theorem d_M_all_44 : decode b_M_all 44 = .ok (.aload_n 0, 1) := by decide +kernel
theorem d_M_all_45 : decode b_M_all 45 = .ok (.getfield 149, 3) := by decide +kernel
theorem d_M_all_48 : decode b_M_all 48 = .ok (.iaload, 1) := by decide +kernel
theorem d_M_all_49 : decode b_M_all 49 = .ok (.istore_n 2, 1) := by decide +kernel
theorem d_M_all_50 : decode b_M_all 50 = .ok (.aload_n 0, 1) := by decide +kernel
theorem d_M_all_51 : decode b_M_all 51 = .ok (.iload_n 1, 1) := by decide +kernel
theorem d_M_all_52 : decode b_M_all 52 = .ok (.iload_n 2, 1) := by decide +kernel
theorem d_M_all_53 : decode b_M_all 53 = .ok (.invokevirtual 208, 3) := by decide +kernel
theorem d_M_all_56 : decode b_M_all 56 = .ok (.aload_n 0, 1) := by decide +kernel
theorem d_M_all_57 : decode b_M_all 57 = .ok (.iload_n 2, 1) := by decide +kernel
theorem d_M_all_58 : decode b_M_all 58 = .ok (.invokevirtual 156, 3) := by decide +kernel
theorem d_M_all_61 : decode b_M_all 61 = .ok (.iconst 5, 1) := by decide +kernel
theorem d_M_all_62 : decode b_M_all 62 = .ok (.if_icmp .ge 6, 3) := by decide +kernel
theorem d_M_all_65 : decode b_M_all 65 = .ok (.goto (-49), 3) := by decide +kernel
theorem d_M_all_68 : decode b_M_all 68 = .ok (.aload_n 0, 1) := by decide +kernel
theorem d_M_all_69 : decode b_M_all 69 = .ok (.iload_n 2, 1) := by decide +kernel
theorem d_M_all_70 : decode b_M_all 70 = .ok (.invokevirtual 136, 3) := by decide +kernel
theorem d_M_all_73 : decode b_M_all 73 = .ok (.iconst 1, 1) := by decide +kernel
theorem d_M_all_74 : decode b_M_all 74 = .ok (.isub, 1) := by decide +kernel
theorem d_M_all_75 : decode b_M_all 75 = .ok (.istore_n 3, 1) := by decide +kernel
theorem d_M_all_76 : decode b_M_all 76 = .ok (.iload_n 3, 1) := by decide +kernel
theorem d_M_all_77 : decode b_M_all 77 = .ok (.ifCond .lt 20, 3) := by decide +kernel
theorem d_M_all_80 : decode b_M_all 80 = .ok (.aload_n 0, 1) := by decide +kernel
theorem d_M_all_81 : decode b_M_all 81 = .ok (.aload_n 0, 1) := by decide +kernel
theorem d_M_all_82 : decode b_M_all 82 = .ok (.iload_n 2, 1) := by decide +kernel
theorem d_M_all_83 : decode b_M_all 83 = .ok (.iload_n 3, 1) := by decide +kernel
theorem d_M_all_84 : decode b_M_all 84 = .ok (.invokevirtual 139, 3) := by decide +kernel
theorem d_M_all_87 : decode b_M_all 87 = .ok (.iconst 0, 1) := by decide +kernel
theorem d_M_all_88 : decode b_M_all 88 = .ok (.invokevirtual 152, 3) := by decide +kernel
theorem d_M_all_91 : decode b_M_all 91 = .ok (.iinc 3 (-1), 3) := by decide +kernel
theorem d_M_all_94 : decode b_M_all 94 = .ok (.goto (-18), 3) := by decide +kernel
theorem d_M_all_97 : decode b_M_all 97 = .ok (.goto (-81), 3) := by decide +kernel
theorem d_M_all_100 : decode b_M_all 100 = .ok (.return_, 1) := by decide +kernel
theorem d_M_measure_0 : decode b_M_measure 0 = .ok (.aload_n 0, 1) := by decide +kernel
theorem d_M_measure_1 : decode b_M_measure 1 = .ok (.iload_n 1, 1) := by decide +kernel
theorem d_M_measure_2 : decode b_M_measure 2 = .ok (.invokevirtual 156, 3) := by decide +kernel
theorem d_M_measure_5 : decode b_M_measure 5 = .ok (.istore_n 2, 1) := by decide +kernel
theorem d_M_measure_6 : decode b_M_measure 6 = .ok (.iload_n 2, 1) := by decide +kernel
theorem d_M_measure_7 : decode b_M_measure 7 = .ok (.iconst 1, 1) := by decide +kernel
theorem d_M_measure_8 : decode b_M_measure 8 = .ok (.if_icmp .eq 8, 3) := by decide +kernel
theorem d_M_measure_11 : decode b_M_measure 11 = .ok (.iload_n 2, 1) := by decide +kernel
theorem d_M_measure_12 : decode b_M_measure 12 = .ok (.iconst 2, 1) := by decide +kernel
theorem d_M_measure_13 : decode b_M_measure 13 = .ok (.if_icmp .ne 5, 3) := by decide +kernel
theorem d_M_measure_16 : decode b_M_measure 16 = .ok (.iconst (-1), 1) := by decide +kernel
theorem d_M_measure_17 : decode b_M_measure 17 = .ok (.ireturn, 1) := by decide +kernel
theorem d_M_measure_18 : decode b_M_measure 18 = .ok (.iload_n 2, 1) := by decide +kernel
theorem d_M_measure_19 : decode b_M_measure 19 = .ok (.iconst 3, 1) := by decide +kernel
theorem d_M_measure_20 : decode b_M_measure 20 = .ok (.if_icmp .ne 34, 3) := by decide +kernel
theorem d_M_measure_23 : decode b_M_measure 23 = .ok (.aload_n 0, 1) := by decide +kernel
theorem d_M_measure_24 : decode b_M_measure 24 = .ok (.aload_n 0, 1) := by decide +kernel
theorem d_M_measure_25 : decode b_M_measure 25 = .ok (.iload_n 1, 1) := by decide +kernel
theorem d_M_measure_26 : decode b_M_measure 26 = .ok (.invokevirtual 122, 3) := by decide +kernel
theorem d_M_measure_29 : decode b_M_measure 29 = .ok (.lconst 0, 1) := by decide +kernel
theorem d_M_measure_30 : decode b_M_measure 30 = .ok (.lcmp, 1) := by decide +kernel
theorem d_M_measure_31 : decode b_M_measure 31 = .ok (.ifCond .ge 12, 3) := by decide +kernel
theorem d_M_measure_34 : decode b_M_measure 34 = .ok (.aload_n 0, 1) := by decide +kernel
theorem d_M_measure_35 : decode b_M_measure 35 = .ok (.iload_n 1, 1) := by decide +kernel
theorem d_M_measure_36 : decode b_M_measure 36 = .ok (.invokevirtual 122, 3) := by decide +kernel
theorem d_M_measure_39 : decode b_M_measure 39 = .ok (.lneg, 1) := by decide +kernel
theorem d_M_measure_40 : decode b_M_measure 40 = .ok (.goto 8, 3) := by decide +kernel
theorem d_M_measure_43 : decode b_M_measure 43 = .ok (.aload_n 0, 1) := by decide +kernel
theorem d_M_measure_44 : decode b_M_measure 44 = .ok (.iload_n 1, 1) := by decide +kernel
theorem d_M_measure_45 : decode b_M_measure 45 = .ok (.invokevirtual 122, 3) := by decide +kernel
theorem d_M_measure_48 : decode b_M_measure 48 = .ok (.invokevirtual 132, 3) := by decide +kernel
theorem d_M_measure_51 : decode b_M_measure 51 = .ok (.goto 21, 3) := by decide +kernel
theorem d_M_measure_54 : decode b_M_measure 54 = .ok (.aload_n 0, 1) := by decide +kernel
theorem d_M_measure_55 : decode b_M_measure 55 = .ok (.iload_n 2, 1) := by decide +kernel
theorem d_M_measure_56 : decode b_M_measure 56 = .ok (.ifCond .ne 7, 3) := by decide +kernel
theorem d_M_measure_59 : decode b_M_measure 59 = .ok (.lconst 0, 1) := by decide +kernel
theorem d_M_measure_60 : decode b_M_measure 60 = .ok (.goto 9, 3) := by decide +kernel
theorem d_M_measure_63 : decode b_M_measure 63 = .ok (.aload_n 0, 1) := by decide +kernel
theorem d_M_measure_64 : decode b_M_measure 64 = .ok (.iload_n 1, 1) := by decide +kernel
theorem d_M_measure_65 : decode b_M_measure 65 = .ok (.invokevirtual 136, 3) := by decide +kernel
theorem d_M_measure_68 : decode b_M_measure 68 = .ok (.i2l, 1) := by decide +kernel
theorem d_M_measure_69 : decode b_M_measure 69 = .ok (.invokevirtual 202, 3) := by decide +kernel
theorem d_M_measure_72 : decode b_M_measure 72 = .ok (.ireturn, 1) := by decide +kernel
theorem d_M_keys_0 : decode b_M_keys 0 = .ok (.aload_n 0, 1) := by decide +kernel
theorem d_M_keys_1 : decode b_M_keys 1 = .ok (.iload_n 1, 1) := by decide +kernel
theorem d_M_keys_2 : decode b_M_keys 2 = .ok (.invokevirtual 156, 3) := by decide +kernel
theorem d_M_keys_5 : decode b_M_keys 5 = .ok (.iconst 5, 1) := by decide +kernel
theorem d_M_keys_6 : decode b_M_keys 6 = .ok (.if_icmp .ge 5, 3) := by decide +kernel
theorem d_M_keys_9 : decode b_M_keys 9 = .ok (.iconst (-1), 1) := by decide +kernel
theorem d_M_keys_10 : decode b_M_keys 10 = .ok (.ireturn, 1) := by decide +kernel
theorem d_M_keys_11 : decode b_M_keys 11 = .ok (.aload_n 0, 1) := by decide +kernel
theorem d_M_keys_12 : decode b_M_keys 12 = .ok (.iload_n 1, 1) := by decide +kernel
theorem d_M_keys_13 : decode b_M_keys 13 = .ok (.invokevirtual 136, 3) := by decide +kernel
theorem d_M_keys_16 : decode b_M_keys 16 = .ok (.istore_n 2, 1) := by decide +kernel
theorem d_M_keys_17 : decode b_M_keys 17 = .ok (.iconst 0, 1) := by decide +kernel
theorem d_M_keys_18 : decode b_M_keys 18 = .ok (.istore_n 3, 1) := by decide +kernel
theorem d_M_keys_19 : decode b_M_keys 19 = .ok (.iload_n 3, 1) := by decide +kernel
theorem d_M_keys_20 : decode b_M_keys 20 = .ok (.iload_n 2, 1) := by decide +kernel
theorem d_M_keys_21 : decode b_M_keys 21 = .ok (.if_icmp .ge 24, 3) := by decide +kernel
theorem d_M_keys_24 : decode b_M_keys 24 = .ok (.aload_n 0, 1) := by decide +kernel
theorem d_M_keys_25 : decode b_M_keys 25 = .ok (.getfield 45, 3) := by decide +kernel
theorem d_M_keys_28 : decode b_M_keys 28 = .ok (.bipush 32, 2) := by decide +kernel
theorem d_M_keys_30 : decode b_M_keys 30 = .ok (.iload_n 3, 1) := by decide +kernel
theorem d_M_keys_31 : decode b_M_keys 31 = .ok (.iadd, 1) := by decide +kernel
theorem d_M_keys_32 : decode b_M_keys 32 = .ok (.aload_n 0, 1) := by decide +kernel
theorem d_M_keys_33 : decode b_M_keys 33 = .ok (.iload_n 1, 1) := by decide +kernel
theorem d_M_keys_34 : decode b_M_keys 34 = .ok (.iload_n 3, 1) := by decide +kernel
theorem d_M_keys_35 : decode b_M_keys 35 = .ok (.invokevirtual 274, 3) := by decide +kernel
theorem d_M_keys_38 : decode b_M_keys 38 = .ok (.iastore, 1) := by decide +kernel
theorem d_M_keys_39 : decode b_M_keys 39 = .ok (.iinc 3 1, 3) := by decide +kernel
theorem d_M_keys_42 : decode b_M_keys 42 = .ok (.goto (-23), 3) := by decide +kernel
theorem d_M_keys_45 : decode b_M_keys 45 = .ok (.iconst 0, 1) := by decide +kernel
theorem d_M_keys_46 : decode b_M_keys 46 = .ok (.istore_n 3, 1) := by decide +kernel
theorem d_M_keys_47 : decode b_M_keys 47 = .ok (.iload_n 3, 1) := by decide +kernel
theorem d_M_keys_48 : decode b_M_keys 48 = .ok (.iload_n 2, 1) := by decide +kernel
theorem d_M_keys_49 : decode b_M_keys 49 = .ok (.if_icmp .ge 24, 3) := by decide +kernel
theorem d_M_keys_52 : decode b_M_keys 52 = .ok (.aload_n 0, 1) := by decide +kernel
theorem d_M_keys_53 : decode b_M_keys 53 = .ok (.getfield 42, 3) := by decide +kernel
theorem d_M_keys_56 : decode b_M_keys 56 = .ok (.iload_n 3, 1) := by decide +kernel
theorem d_M_keys_57 : decode b_M_keys 57 = .ok (.aload_n 0, 1) := by decide +kernel
theorem d_M_keys_58 : decode b_M_keys 58 = .ok (.getfield 45, 3) := by decide +kernel
theorem d_M_keys_61 : decode b_M_keys 61 = .ok (.bipush 32, 2) := by decide +kernel
theorem d_M_keys_63 : decode b_M_keys 63 = .ok (.iload_n 3, 1) := by decide +kernel
theorem d_M_keys_64 : decode b_M_keys 64 = .ok (.iadd, 1) := by decide +kernel
theorem d_M_keys_65 : decode b_M_keys 65 = .ok (.iaload, 1) := by decide +kernel
theorem d_M_keys_66 : decode b_M_keys 66 = .ok (.iastore, 1) := by decide +kernel
theorem d_M_keys_67 : decode b_M_keys 67 = .ok (.iinc 3 1, 3) := by decide +kernel
theorem d_M_keys_70 : decode b_M_keys 70 = .ok (.goto (-23), 3) := by decide +kernel
theorem d_M_keys_73 : decode b_M_keys 73 = .ok (.aload_n 0, 1) := by decide +kernel
theorem d_M_keys_74 : decode b_M_keys 74 = .ok (.iload_n 2, 1) := by decide +kernel
theorem d_M_keys_75 : decode b_M_keys 75 = .ok (.invokevirtual 242, 3) := by decide +kernel
theorem d_M_keys_78 : decode b_M_keys 78 = .ok (.ireturn, 1) := by decide +kernel
theorem d_M_sorted_0 : decode b_M_sorted 0 = .ok (.aload_n 0, 1) := by decide +kernel
theorem d_M_sorted_1 : decode b_M_sorted 1 = .ok (.iload_n 1, 1) := by decide +kernel
theorem d_M_sorted_2 : decode b_M_sorted 2 = .ok (.invokevirtual 136, 3) := by decide +kernel
theorem d_M_sorted_5 : decode b_M_sorted 5 = .ok (.istore_n 2, 1) := by decide +kernel
theorem d_M_sorted_6 : decode b_M_sorted 6 = .ok (.iconst 0, 1) := by decide +kernel
theorem d_M_sorted_7 : decode b_M_sorted 7 = .ok (.istore_n 3, 1) := by decide +kernel
theorem d_M_sorted_8 : decode b_M_sorted 8 = .ok (.iload_n 3, 1) := by decide +kernel
theorem d_M_sorted_9 : decode b_M_sorted 9 = .ok (.iload_n 2, 1) := by decide +kernel
theorem d_M_sorted_10 : decode b_M_sorted 10 = .ok (.if_icmp .ge 74, 3) := by decide +kernel
theorem d_M_sorted_13 : decode b_M_sorted 13 = .ok (.aload_n 0, 1) := by decide +kernel
theorem d_M_sorted_14 : decode b_M_sorted 14 = .ok (.iload_n 1, 1) := by decide +kernel
theorem d_M_sorted_15 : decode b_M_sorted 15 = .ok (.iload_n 3, 1) := by decide +kernel
theorem d_M_sorted_16 : decode b_M_sorted 16 = .ok (.invokevirtual 139, 3) := by decide +kernel
theorem d_M_sorted_19 : decode b_M_sorted 19 = .ok (.istore 4, 2) := by decide +kernel
theorem d_M_sorted_21 : decode b_M_sorted 21 = .ok (.iload_n 3, 1) := by decide +kernel
theorem d_M_sorted_22 : decode b_M_sorted 22 = .ok (.istore 5, 2) := by decide +kernel
theorem d_M_sorted_24 : decode b_M_sorted 24 = .ok (.iload 5, 2) := by decide +kernel
theorem d_M_sorted_26 : decode b_M_sorted 26 = .ok (.ifCond .le 43, 3) := by decide +kernel
theorem d_M_sorted_29 : decode b_M_sorted 29 = .ok (.aload_n 0, 1) := by decide +kernel
theorem d_M_sorted_30 : decode b_M_sorted 30 = .ok (.aload_n 0, 1) := by decide +kernel
theorem d_M_sorted_31 : decode b_M_sorted 31 = .ok (.getfield 42, 3) := by decide +kernel
theorem d_M_sorted_34 : decode b_M_sorted 34 = .ok (.iload 5, 2) := by decide +kernel
theorem d_M_sorted_36 : decode b_M_sorted 36 = .ok (.iconst 1, 1) := by decide +kernel
theorem d_M_sorted_37 : decode b_M_sorted 37 = .ok (.isub, 1) := by decide +kernel
theorem d_M_sorted_38 : decode b_M_sorted 38 = .ok (.iaload, 1) := by decide +kernel
theorem d_M_sorted_39 : decode b_M_sorted 39 = .ok (.iload 4, 2) := by decide +kernel
theorem d_M_sorted_41 : decode b_M_sorted 41 = .ok (.invokevirtual 168, 3) := by decide +kernel
theorem d_M_sorted_44 : decode b_M_sorted 44 = .ok (.ifCond .le 25, 3) := by decide +kernel
theorem d_M_sorted_47 : decode b_M_sorted 47 = .ok (.aload_n 0, 1) := by decide +kernel
theorem d_M_sorted_48 : decode b_M_sorted 48 = .ok (.getfield 42, 3) := by decide +kernel
theorem d_M_sorted_51 : decode b_M_sorted 51 = .ok (.iload 5, 2) := by decide +kernel
theorem d_M_sorted_53 : decode b_M_sorted 53 = .ok (.aload_n 0, 1) := by decide +kernel
theorem d_M_sorted_54 : decode b_M_sorted 54 = .ok (.getfield 42, 3) := by decide +kernel
theorem d_M_sorted_57 : decode b_M_sorted 57 = .ok (.iload 5, 2) := by decide +kernel
theorem d_M_sorted_59 : decode b_M_sorted 59 = .ok (.iconst 1, 1) := by decide +kernel
theorem d_M_sorted_60 : decode b_M_sorted 60 = .ok (.isub, 1) := by decide +kernel
theorem d_M_sorted_61 : decode b_M_sorted 61 = .ok (.iaload, 1) := by decide +kernel
theorem d_M_sorted_62 : decode b_M_sorted 62 = .ok (.iastore, 1) := by decide +kernel
theorem d_M_sorted_63 : decode b_M_sorted 63 = .ok (.iinc 5 (-1), 3) := by decide +kernel
theorem d_M_sorted_66 : decode b_M_sorted 66 = .ok (.goto (-42), 3) := by decide +kernel
theorem d_M_sorted_69 : decode b_M_sorted 69 = .ok (.aload_n 0, 1) := by decide +kernel
theorem d_M_sorted_70 : decode b_M_sorted 70 = .ok (.getfield 42, 3) := by decide +kernel
theorem d_M_sorted_73 : decode b_M_sorted 73 = .ok (.iload 5, 2) := by decide +kernel
theorem d_M_sorted_75 : decode b_M_sorted 75 = .ok (.iload 4, 2) := by decide +kernel
theorem d_M_sorted_77 : decode b_M_sorted 77 = .ok (.iastore, 1) := by decide +kernel
theorem d_M_sorted_78 : decode b_M_sorted 78 = .ok (.iinc 3 1, 3) := by decide +kernel
theorem d_M_sorted_81 : decode b_M_sorted 81 = .ok (.goto (-73), 3) := by decide +kernel
theorem d_M_sorted_84 : decode b_M_sorted 84 = .ok (.aload_n 0, 1) := by decide +kernel
theorem d_M_sorted_85 : decode b_M_sorted 85 = .ok (.iload_n 2, 1) := by decide +kernel
theorem d_M_sorted_86 : decode b_M_sorted 86 = .ok (.invokevirtual 242, 3) := by decide +kernel
theorem d_M_sorted_89 : decode b_M_sorted 89 = .ok (.ireturn, 1) := by decide +kernel
theorem d_M_summed_0 : decode b_M_summed 0 = .ok (.iconst 4, 1) := by decide +kernel
theorem d_M_summed_1 : decode b_M_summed 1 = .ok (.istore_n 2, 1) := by decide +kernel
theorem d_M_summed_2 : decode b_M_summed 2 = .ok (.iconst 0, 1) := by decide +kernel
theorem d_M_summed_3 : decode b_M_summed 3 = .ok (.istore_n 3, 1) := by decide +kernel
theorem d_M_summed_4 : decode b_M_summed 4 = .ok (.iload_n 3, 1) := by decide +kernel
theorem d_M_summed_5 : decode b_M_summed 5 = .ok (.aload_n 0, 1) := by decide +kernel
theorem d_M_summed_6 : decode b_M_summed 6 = .ok (.iload_n 1, 1) := by decide +kernel
theorem d_M_summed_7 : decode b_M_summed 7 = .ok (.invokevirtual 136, 3) := by decide +kernel
theorem d_M_summed_10 : decode b_M_summed 10 = .ok (.if_icmp .ge 25, 3) := by decide +kernel
theorem d_M_summed_13 : decode b_M_summed 13 = .ok (.iload_n 2, 1) := by decide +kernel
theorem d_M_summed_14 : decode b_M_summed 14 = .ok (.ifCond .lt 21, 3) := by decide +kernel
theorem d_M_summed_17 : decode b_M_summed 17 = .ok (.aload_n 0, 1) := by decide +kernel
theorem d_M_summed_18 : decode b_M_summed 18 = .ok (.iload_n 2, 1) := by decide +kernel
theorem d_M_summed_19 : decode b_M_summed 19 = .ok (.aload_n 0, 1) := by decide +kernel
theorem d_M_summed_20 : decode b_M_summed 20 = .ok (.iload_n 1, 1) := by decide +kernel
theorem d_M_summed_21 : decode b_M_summed 21 = .ok (.iload_n 3, 1) := by decide +kernel
theorem d_M_summed_22 : decode b_M_summed 22 = .ok (.invokevirtual 139, 3) := by decide +kernel
theorem d_M_summed_25 : decode b_M_summed 25 = .ok (.invokevirtual 277, 3) := by decide +kernel
theorem d_M_summed_28 : decode b_M_summed 28 = .ok (.istore_n 2, 1) := by decide +kernel
theorem d_M_summed_29 : decode b_M_summed 29 = .ok (.iinc 3 1, 3) := by decide +kernel
theorem d_M_summed_32 : decode b_M_summed 32 = .ok (.goto (-28), 3) := by decide +kernel
theorem d_M_summed_35 : decode b_M_summed 35 = .ok (.iload_n 2, 1) := by decide +kernel
theorem d_M_summed_36 : decode b_M_summed 36 = .ok (.ireturn, 1) := by decide +kernel
theorem d_M_added_0 : decode b_M_added 0 = .ok (.aload_n 0, 1) := by decide +kernel
theorem d_M_added_1 : decode b_M_added 1 = .ok (.iload_n 1, 1) := by decide +kernel
theorem d_M_added_2 : decode b_M_added 2 = .ok (.invokevirtual 156, 3) := by decide +kernel
theorem d_M_added_5 : decode b_M_added 5 = .ok (.istore_n 3, 1) := by decide +kernel
theorem d_M_added_6 : decode b_M_added 6 = .ok (.iload_n 3, 1) := by decide +kernel
theorem d_M_added_7 : decode b_M_added 7 = .ok (.ifCond .eq 11, 3) := by decide +kernel
theorem d_M_added_10 : decode b_M_added 10 = .ok (.aload_n 0, 1) := by decide +kernel
theorem d_M_added_11 : decode b_M_added 11 = .ok (.iload_n 2, 1) := by decide +kernel
theorem d_M_added_12 : decode b_M_added 12 = .ok (.invokevirtual 156, 3) := by decide +kernel
theorem d_M_added_15 : decode b_M_added 15 = .ok (.ifCond .ne 13, 3) := by decide +kernel
theorem d_M_added_18 : decode b_M_added 18 = .ok (.iload_n 3, 1) := by decide +kernel
theorem d_M_added_19 : decode b_M_added 19 = .ok (.ifCond .ne 7, 3) := by decide +kernel
theorem d_M_added_22 : decode b_M_added 22 = .ok (.iload_n 2, 1) := by decide +kernel
theorem d_M_added_23 : decode b_M_added 23 = .ok (.goto 4, 3) := by decide +kernel
theorem d_M_added_26 : decode b_M_added 26 = .ok (.iload_n 1, 1) := by decide +kernel
theorem d_M_added_27 : decode b_M_added 27 = .ok (.ireturn, 1) := by decide +kernel
theorem d_M_added_28 : decode b_M_added 28 = .ok (.iload_n 3, 1) := by decide +kernel
theorem d_M_added_29 : decode b_M_added 29 = .ok (.aload_n 0, 1) := by decide +kernel
theorem d_M_added_30 : decode b_M_added 30 = .ok (.iload_n 2, 1) := by decide +kernel
theorem d_M_added_31 : decode b_M_added 31 = .ok (.invokevirtual 156, 3) := by decide +kernel
theorem d_M_added_34 : decode b_M_added 34 = .ok (.if_icmp .ne 8, 3) := by decide +kernel
theorem d_M_added_37 : decode b_M_added 37 = .ok (.iload_n 3, 1) := by decide +kernel
theorem d_M_added_38 : decode b_M_added 38 = .ok (.iconst 3, 1) := by decide +kernel
theorem d_M_added_39 : decode b_M_added 39 = .ok (.if_icmp .ge 5, 3) := by decide +kernel
theorem d_M_added_42 : decode b_M_added 42 = .ok (.iconst (-1), 1) := by decide +kernel
theorem d_M_added_43 : decode b_M_added 43 = .ok (.ireturn, 1) := by decide +kernel
theorem d_M_added_44 : decode b_M_added 44 = .ok (.aload_n 0, 1) := by decide +kernel
theorem d_M_added_45 : decode b_M_added 45 = .ok (.iload_n 1, 1) := by decide +kernel
theorem d_M_added_46 : decode b_M_added 46 = .ok (.invokevirtual 136, 3) := by decide +kernel
theorem d_M_added_49 : decode b_M_added 49 = .ok (.istore 4, 2) := by decide +kernel
theorem d_M_added_51 : decode b_M_added 51 = .ok (.aload_n 0, 1) := by decide +kernel
theorem d_M_added_52 : decode b_M_added 52 = .ok (.iload_n 2, 1) := by decide +kernel
theorem d_M_added_53 : decode b_M_added 53 = .ok (.invokevirtual 136, 3) := by decide +kernel
theorem d_M_added_56 : decode b_M_added 56 = .ok (.istore 5, 2) := by decide +kernel
theorem d_M_added_58 : decode b_M_added 58 = .ok (.iload_n 3, 1) := by decide +kernel
theorem d_M_added_59 : decode b_M_added 59 = .ok (.iconst 3, 1) := by decide +kernel
theorem d_M_added_60 : decode b_M_added 60 = .ok (.if_icmp .ne 19, 3) := by decide +kernel
theorem d_M_added_63 : decode b_M_added 63 = .ok (.aload_n 0, 1) := by decide +kernel
theorem d_M_added_64 : decode b_M_added 64 = .ok (.aload_n 0, 1) := by decide +kernel
theorem d_M_added_65 : decode b_M_added 65 = .ok (.iload_n 1, 1) := by decide +kernel
theorem d_M_added_66 : decode b_M_added 66 = .ok (.invokevirtual 122, 3) := by decide +kernel
theorem d_M_added_69 : decode b_M_added 69 = .ok (.aload_n 0, 1) := by decide +kernel
theorem d_M_added_70 : decode b_M_added 70 = .ok (.iload_n 2, 1) := by decide +kernel
theorem d_M_added_71 : decode b_M_added 71 = .ok (.invokevirtual 122, 3) := by decide +kernel
theorem d_M_added_74 : decode b_M_added 74 = .ok (.ladd, 1) := by decide +kernel
theorem d_M_added_75 : decode b_M_added 75 = .ok (.invokevirtual 132, 3) := by decide +kernel
theorem d_M_added_78 : decode b_M_added 78 = .ok (.ireturn, 1) := by decide +kernel
theorem d_M_added_79 : decode b_M_added 79 = .ok (.iload_n 3, 1) := by decide +kernel
theorem d_M_added_80 : decode b_M_added 80 = .ok (.iconst 4, 1) := by decide +kernel
theorem d_M_added_81 : decode b_M_added 81 = .ok (.if_icmp .ne 104, 3) := by decide +kernel
theorem d_M_added_84 : decode b_M_added 84 = .ok (.iload 4, 2) := by decide +kernel
theorem d_M_added_86 : decode b_M_added 86 = .ok (.iload 5, 2) := by decide +kernel
theorem d_M_added_88 : decode b_M_added 88 = .ok (.iadd, 1) := by decide +kernel
theorem d_M_added_89 : decode b_M_added 89 = .ok (.bipush 12, 2) := by decide +kernel
theorem d_M_added_91 : decode b_M_added 91 = .ok (.if_icmp .le 8, 3) := by decide +kernel
theorem d_M_added_94 : decode b_M_added 94 = .ok (.aload_n 0, 1) := by decide +kernel
theorem d_M_added_95 : decode b_M_added 95 = .ok (.invokevirtual 114, 3) := by decide +kernel
theorem d_M_added_98 : decode b_M_added 98 = .ok (.ireturn, 1) := by decide +kernel
theorem d_M_added_99 : decode b_M_added 99 = .ok (.aload_n 0, 1) := by decide +kernel
theorem d_M_added_100 : decode b_M_added 100 = .ok (.iconst 4, 1) := by decide +kernel
theorem d_M_added_101 : decode b_M_added 101 = .ok (.iload 4, 2) := by decide +kernel
theorem d_M_added_103 : decode b_M_added 103 = .ok (.iload 5, 2) := by decide +kernel
theorem d_M_added_105 : decode b_M_added 105 = .ok (.iadd, 1) := by decide +kernel
theorem d_M_added_106 : decode b_M_added 106 = .ok (.iload 4, 2) := by decide +kernel
theorem d_M_added_108 : decode b_M_added 108 = .ok (.iload 5, 2) := by decide +kernel
theorem d_M_added_110 : decode b_M_added 110 = .ok (.iadd, 1) := by decide +kernel
theorem d_M_added_111 : decode b_M_added 111 = .ok (.invokevirtual 118, 3) := by decide +kernel
theorem d_M_added_114 : decode b_M_added 114 = .ok (.istore 6, 2) := by decide +kernel
theorem d_M_added_116 : decode b_M_added 116 = .ok (.iconst 0, 1) := by decide +kernel
theorem d_M_added_117 : decode b_M_added 117 = .ok (.istore 7, 2) := by decide +kernel
theorem d_M_added_119 : decode b_M_added 119 = .ok (.iload 7, 2) := by decide +kernel
theorem d_M_added_121 : decode b_M_added 121 = .ok (.iload 4, 2) := by decide +kernel
theorem d_M_added_123 : decode b_M_added 123 = .ok (.iload 5, 2) := by decide +kernel
theorem d_M_added_125 : decode b_M_added 125 = .ok (.iadd, 1) := by decide +kernel
theorem d_M_added_126 : decode b_M_added 126 = .ok (.if_icmp .ge 56, 3) := by decide +kernel
theorem d_M_added_129 : decode b_M_added 129 = .ok (.aload_n 0, 1) := by decide +kernel
theorem d_M_added_130 : decode b_M_added 130 = .ok (.getfield 26, 3) := by decide +kernel
theorem d_M_added_133 : decode b_M_added 133 = .ok (.iload 6, 2) := by decide +kernel
theorem d_M_added_135 : decode b_M_added 135 = .ok (.iconst 4, 1) := by decide +kernel
theorem d_M_added_136 : decode b_M_added 136 = .ok (.iadd, 1) := by decide +kernel
theorem d_M_added_137 : decode b_M_added 137 = .ok (.iload 7, 2) := by decide +kernel
theorem d_M_added_139 : decode b_M_added 139 = .ok (.iadd, 1) := by decide +kernel
theorem d_M_added_140 : decode b_M_added 140 = .ok (.iload 7, 2) := by decide +kernel
theorem d_M_added_142 : decode b_M_added 142 = .ok (.iload 4, 2) := by decide +kernel
theorem d_M_added_144 : decode b_M_added 144 = .ok (.if_icmp .ge 17, 3) := by decide +kernel
theorem d_M_added_147 : decode b_M_added 147 = .ok (.aload_n 0, 1) := by decide +kernel
theorem d_M_added_148 : decode b_M_added 148 = .ok (.getfield 26, 3) := by decide +kernel
theorem d_M_added_151 : decode b_M_added 151 = .ok (.iload_n 1, 1) := by decide +kernel
theorem d_M_added_152 : decode b_M_added 152 = .ok (.iconst 4, 1) := by decide +kernel
theorem d_M_added_153 : decode b_M_added 153 = .ok (.iadd, 1) := by decide +kernel
theorem d_M_added_154 : decode b_M_added 154 = .ok (.iload 7, 2) := by decide +kernel
theorem d_M_added_156 : decode b_M_added 156 = .ok (.iadd, 1) := by decide +kernel
theorem d_M_added_157 : decode b_M_added 157 = .ok (.iaload, 1) := by decide +kernel
theorem d_M_added_158 : decode b_M_added 158 = .ok (.goto 17, 3) := by decide +kernel
theorem d_M_added_161 : decode b_M_added 161 = .ok (.aload_n 0, 1) := by decide +kernel
theorem d_M_added_162 : decode b_M_added 162 = .ok (.getfield 26, 3) := by decide +kernel
theorem d_M_added_165 : decode b_M_added 165 = .ok (.iload_n 2, 1) := by decide +kernel
theorem d_M_added_166 : decode b_M_added 166 = .ok (.iconst 4, 1) := by decide +kernel
theorem d_M_added_167 : decode b_M_added 167 = .ok (.iadd, 1) := by decide +kernel
theorem d_M_added_168 : decode b_M_added 168 = .ok (.iload 7, 2) := by decide +kernel
theorem d_M_added_170 : decode b_M_added 170 = .ok (.iadd, 1) := by decide +kernel
theorem d_M_added_171 : decode b_M_added 171 = .ok (.iload 4, 2) := by decide +kernel
theorem d_M_added_173 : decode b_M_added 173 = .ok (.isub, 1) := by decide +kernel
theorem d_M_added_174 : decode b_M_added 174 = .ok (.iaload, 1) := by decide +kernel
theorem d_M_added_175 : decode b_M_added 175 = .ok (.iastore, 1) := by decide +kernel
theorem d_M_added_176 : decode b_M_added 176 = .ok (.iinc 7 1, 3) := by decide +kernel
theorem d_M_added_179 : decode b_M_added 179 = .ok (.goto (-60), 3) := by decide +kernel
theorem d_M_added_182 : decode b_M_added 182 = .ok (.iload 6, 2) := by decide +kernel
theorem d_M_added_184 : decode b_M_added 184 = .ok (.ireturn, 1) := by decide +kernel
theorem d_M_added_185 : decode b_M_added 185 = .ok (.iload_n 3, 1) := by decide +kernel
theorem d_M_added_186 : decode b_M_added 186 = .ok (.iconst 5, 1) := by decide +kernel
theorem d_M_added_187 : decode b_M_added 187 = .ok (.if_icmp .ne 66, 3) := by decide +kernel
theorem d_M_added_190 : decode b_M_added 190 = .ok (.iconst 0, 1) := by decide +kernel
theorem d_M_added_191 : decode b_M_added 191 = .ok (.istore 6, 2) := by decide +kernel
theorem d_M_added_193 : decode b_M_added 193 = .ok (.iload 6, 2) := by decide +kernel
theorem d_M_added_195 : decode b_M_added 195 = .ok (.iload 4, 2) := by decide +kernel
theorem d_M_added_197 : decode b_M_added 197 = .ok (.iload 5, 2) := by decide +kernel
theorem d_M_added_199 : decode b_M_added 199 = .ok (.iadd, 1) := by decide +kernel
theorem d_M_added_200 : decode b_M_added 200 = .ok (.if_icmp .ge 43, 3) := by decide +kernel
theorem d_M_added_203 : decode b_M_added 203 = .ok (.aload_n 0, 1) := by decide +kernel
theorem d_M_added_204 : decode b_M_added 204 = .ok (.getfield 42, 3) := by decide +kernel
theorem d_M_added_207 : decode b_M_added 207 = .ok (.iload 6, 2) := by decide +kernel
theorem d_M_added_209 : decode b_M_added 209 = .ok (.iload 6, 2) := by decide +kernel
theorem d_M_added_211 : decode b_M_added 211 = .ok (.iload 4, 2) := by decide +kernel
theorem d_M_added_213 : decode b_M_added 213 = .ok (.if_icmp .ge 13, 3) := by decide +kernel
theorem d_M_added_216 : decode b_M_added 216 = .ok (.aload_n 0, 1) := by decide +kernel
theorem d_M_added_217 : decode b_M_added 217 = .ok (.iload_n 1, 1) := by decide +kernel
theorem d_M_added_218 : decode b_M_added 218 = .ok (.iload 6, 2) := by decide +kernel
theorem d_M_added_220 : decode b_M_added 220 = .ok (.invokevirtual 139, 3) := by decide +kernel
theorem d_M_added_223 : decode b_M_added 223 = .ok (.goto 13, 3) := by decide +kernel
theorem d_M_added_226 : decode b_M_added 226 = .ok (.aload_n 0, 1) := by decide +kernel
theorem d_M_added_227 : decode b_M_added 227 = .ok (.iload_n 2, 1) := by decide +kernel
theorem d_M_added_228 : decode b_M_added 228 = .ok (.iload 6, 2) := by decide +kernel
theorem d_M_added_230 : decode b_M_added 230 = .ok (.iload 4, 2) := by decide +kernel
theorem d_M_added_232 : decode b_M_added 232 = .ok (.isub, 1) := by decide +kernel
theorem d_M_added_233 : decode b_M_added 233 = .ok (.invokevirtual 139, 3) := by decide +kernel
theorem d_M_added_236 : decode b_M_added 236 = .ok (.iastore, 1) := by decide +kernel
theorem d_M_added_237 : decode b_M_added 237 = .ok (.iinc 6 1, 3) := by decide +kernel
theorem d_M_added_240 : decode b_M_added 240 = .ok (.goto (-47), 3) := by decide +kernel
theorem d_M_added_243 : decode b_M_added 243 = .ok (.aload_n 0, 1) := by decide +kernel
theorem d_M_added_244 : decode b_M_added 244 = .ok (.iload 4, 2) := by decide +kernel
theorem d_M_added_246 : decode b_M_added 246 = .ok (.iload 5, 2) := by decide +kernel
theorem d_M_added_248 : decode b_M_added 248 = .ok (.iadd, 1) := by decide +kernel
theorem d_M_added_249 : decode b_M_added 249 = .ok (.invokevirtual 242, 3) := by decide +kernel
theorem d_M_added_252 : decode b_M_added 252 = .ok (.ireturn, 1) := by decide +kernel
theorem d_M_added_253 : decode b_M_added 253 = .ok (.iconst 0, 1) := by decide +kernel
theorem d_M_added_254 : decode b_M_added 254 = .ok (.istore 6, 2) := by decide +kernel
theorem d_M_added_256 : decode b_M_added 256 = .ok (.iconst 0, 1) := by decide +kernel
theorem d_M_added_257 : decode b_M_added 257 = .ok (.istore 7, 2) := by decide +kernel
theorem d_M_added_259 : decode b_M_added 259 = .ok (.iload 7, 2) := by decide +kernel
theorem d_M_added_261 : decode b_M_added 261 = .ok (.iload 5, 2) := by decide +kernel
theorem d_M_added_263 : decode b_M_added 263 = .ok (.if_icmp .ge 27, 3) := by decide +kernel
theorem d_M_added_266 : decode b_M_added 266 = .ok (.aload_n 0, 1) := by decide +kernel
theorem d_M_added_267 : decode b_M_added 267 = .ok (.iload_n 1, 1) := by decide +kernel
theorem d_M_added_268 : decode b_M_added 268 = .ok (.aload_n 0, 1) := by decide +kernel
theorem d_M_added_269 : decode b_M_added 269 = .ok (.iload_n 2, 1) := by decide +kernel
theorem d_M_added_270 : decode b_M_added 270 = .ok (.iload 7, 2) := by decide +kernel
theorem d_M_added_272 : decode b_M_added 272 = .ok (.invokevirtual 165, 3) := by decide +kernel
theorem d_M_added_275 : decode b_M_added 275 = .ok (.invokevirtual 271, 3) := by decide +kernel
theorem d_M_added_278 : decode b_M_added 278 = .ok (.ifCond .ge 6, 3) := by decide +kernel
theorem d_M_added_281 : decode b_M_added 281 = .ok (.iinc 6 1, 3) := by decide +kernel
theorem d_M_added_284 : decode b_M_added 284 = .ok (.iinc 7 1, 3) := by decide +kernel
theorem d_M_added_287 : decode b_M_added 287 = .ok (.goto (-28), 3) := by decide +kernel
theorem d_M_added_290 : decode b_M_added 290 = .ok (.iload 4, 2) := by decide +kernel
theorem d_M_added_292 : decode b_M_added 292 = .ok (.iload 6, 2) := by decide +kernel
theorem d_M_added_294 : decode b_M_added 294 = .ok (.iadd, 1) := by decide +kernel
theorem d_M_added_295 : decode b_M_added 295 = .ok (.bipush 6, 2) := by decide +kernel
theorem d_M_added_297 : decode b_M_added 297 = .ok (.if_icmp .le 8, 3) := by decide +kernel
theorem d_M_added_300 : decode b_M_added 300 = .ok (.aload_n 0, 1) := by decide +kernel
theorem d_M_added_301 : decode b_M_added 301 = .ok (.invokevirtual 114, 3) := by decide +kernel
theorem d_M_added_304 : decode b_M_added 304 = .ok (.ireturn, 1) := by decide +kernel
theorem d_M_added_305 : decode b_M_added 305 = .ok (.aload_n 0, 1) := by decide +kernel
theorem d_M_added_306 : decode b_M_added 306 = .ok (.iload_n 1, 1) := by decide +kernel
theorem d_M_added_307 : decode b_M_added 307 = .ok (.iload_n 2, 1) := by decide +kernel
theorem d_M_added_308 : decode b_M_added 308 = .ok (.invokevirtual 280, 3) := by decide +kernel
theorem d_M_added_311 : decode b_M_added 311 = .ok (.ireturn, 1) := by decide +kernel
theorem d_M_merged_0 : decode b_M_merged 0 = .ok (.iconst 0, 1) := by decide +kernel
theorem d_M_merged_1 : decode b_M_merged 1 = .ok (.istore_n 3, 1) := by decide +kernel
theorem d_M_merged_2 : decode b_M_merged 2 = .ok (.iconst 0, 1) := by decide +kernel
theorem d_M_merged_3 : decode b_M_merged 3 = .ok (.istore 4, 2) := by decide +kernel
theorem d_M_merged_5 : decode b_M_merged 5 = .ok (.iconst 0, 1) := by decide +kernel
theorem d_M_merged_6 : decode b_M_merged 6 = .ok (.istore 5, 2) := by decide +kernel
theorem d_M_merged_8 : decode b_M_merged 8 = .ok (.iload 4, 2) := by decide +kernel
theorem d_M_merged_10 : decode b_M_merged 10 = .ok (.aload_n 0, 1) := by decide +kernel
theorem d_M_merged_11 : decode b_M_merged 11 = .ok (.iload_n 1, 1) := by decide +kernel
theorem d_M_merged_12 : decode b_M_merged 12 = .ok (.invokevirtual 136, 3) := by decide +kernel
theorem d_M_merged_15 : decode b_M_merged 15 = .ok (.if_icmp .lt 13, 3) := by decide +kernel
theorem d_M_merged_18 : decode b_M_merged 18 = .ok (.iload 5, 2) := by decide +kernel
theorem d_M_merged_20 : decode b_M_merged 20 = .ok (.aload_n 0, 1) := by decide +kernel
theorem d_M_merged_21 : decode b_M_merged 21 = .ok (.iload_n 2, 1) := by decide +kernel
theorem d_M_merged_22 : decode b_M_merged 22 = .ok (.invokevirtual 136, 3) := by decide +kernel
theorem d_M_merged_25 : decode b_M_merged 25 = .ok (.if_icmp .ge 129, 3) := by decide +kernel
theorem d_M_merged_28 : decode b_M_merged 28 = .ok (.iload 4, 2) := by decide +kernel
theorem d_M_merged_30 : decode b_M_merged 30 = .ok (.aload_n 0, 1) := by decide +kernel
theorem d_M_merged_31 : decode b_M_merged 31 = .ok (.iload_n 1, 1) := by decide +kernel
theorem d_M_merged_32 : decode b_M_merged 32 = .ok (.invokevirtual 136, 3) := by decide +kernel
theorem d_M_merged_35 : decode b_M_merged 35 = .ok (.if_icmp .ne 7, 3) := by decide +kernel
theorem d_M_merged_38 : decode b_M_merged 38 = .ok (.iconst 1, 1) := by decide +kernel
theorem d_M_merged_39 : decode b_M_merged 39 = .ok (.goto 35, 3) := by decide +kernel
theorem d_M_merged_42 : decode b_M_merged 42 = .ok (.iload 5, 2) := by decide +kernel
theorem d_M_merged_44 : decode b_M_merged 44 = .ok (.aload_n 0, 1) := by decide +kernel
theorem d_M_merged_45 : decode b_M_merged 45 = .ok (.iload_n 2, 1) := by decide +kernel
theorem d_M_merged_46 : decode b_M_merged 46 = .ok (.invokevirtual 136, 3) := by decide +kernel
theorem d_M_merged_49 : decode b_M_merged 49 = .ok (.if_icmp .ne 7, 3) := by decide +kernel
theorem d_M_merged_52 : decode b_M_merged 52 = .ok (.iconst (-1), 1) := by decide +kernel
theorem d_M_merged_53 : decode b_M_merged 53 = .ok (.goto 21, 3) := by decide +kernel
theorem d_M_merged_56 : decode b_M_merged 56 = .ok (.aload_n 0, 1) := by decide +kernel
theorem d_M_merged_57 : decode b_M_merged 57 = .ok (.aload_n 0, 1) := by decide +kernel
theorem d_M_merged_58 : decode b_M_merged 58 = .ok (.iload_n 1, 1) := by decide +kernel
theorem d_M_merged_59 : decode b_M_merged 59 = .ok (.iload 4, 2) := by decide +kernel
theorem d_M_merged_61 : decode b_M_merged 61 = .ok (.invokevirtual 165, 3) := by decide +kernel
theorem d_M_merged_64 : decode b_M_merged 64 = .ok (.aload_n 0, 1) := by decide +kernel
theorem d_M_merged_65 : decode b_M_merged 65 = .ok (.iload_n 2, 1) := by decide +kernel
theorem d_M_merged_66 : decode b_M_merged 66 = .ok (.iload 5, 2) := by decide +kernel
theorem d_M_merged_68 : decode b_M_merged 68 = .ok (.invokevirtual 165, 3) := by decide +kernel
theorem d_M_merged_71 : decode b_M_merged 71 = .ok (.invokevirtual 162, 3) := by decide +kernel
theorem d_M_merged_74 : decode b_M_merged 74 = .ok (.istore 6, 2) := by decide +kernel
theorem d_M_merged_76 : decode b_M_merged 76 = .ok (.aload_n 0, 1) := by decide +kernel
theorem d_M_merged_77 : decode b_M_merged 77 = .ok (.getfield 45, 3) := by decide +kernel
theorem d_M_merged_80 : decode b_M_merged 80 = .ok (.iload_n 3, 1) := by decide +kernel
theorem d_M_merged_81 : decode b_M_merged 81 = .ok (.iload 6, 2) := by decide +kernel
theorem d_M_merged_83 : decode b_M_merged 83 = .ok (.ifCond .ge 13, 3) := by decide +kernel
theorem d_M_merged_86 : decode b_M_merged 86 = .ok (.aload_n 0, 1) := by decide +kernel
theorem d_M_merged_87 : decode b_M_merged 87 = .ok (.iload_n 1, 1) := by decide +kernel
theorem d_M_merged_88 : decode b_M_merged 88 = .ok (.iload 4, 2) := by decide +kernel
theorem d_M_merged_90 : decode b_M_merged 90 = .ok (.invokevirtual 165, 3) := by decide +kernel
theorem d_M_merged_93 : decode b_M_merged 93 = .ok (.goto 10, 3) := by decide +kernel
theorem d_M_merged_96 : decode b_M_merged 96 = .ok (.aload_n 0, 1) := by decide +kernel
theorem d_M_merged_97 : decode b_M_merged 97 = .ok (.iload_n 2, 1) := by decide +kernel
theorem d_M_merged_98 : decode b_M_merged 98 = .ok (.iload 5, 2) := by decide +kernel
theorem d_M_merged_100 : decode b_M_merged 100 = .ok (.invokevirtual 165, 3) := by decide +kernel
theorem d_M_merged_103 : decode b_M_merged 103 = .ok (.iastore, 1) := by decide +kernel
theorem d_M_merged_104 : decode b_M_merged 104 = .ok (.aload_n 0, 1) := by decide +kernel
theorem d_M_merged_105 : decode b_M_merged 105 = .ok (.getfield 42, 3) := by decide +kernel
theorem d_M_merged_108 : decode b_M_merged 108 = .ok (.iload_n 3, 1) := by decide +kernel
theorem d_M_merged_109 : decode b_M_merged 109 = .ok (.iload 6, 2) := by decide +kernel
theorem d_M_merged_111 : decode b_M_merged 111 = .ok (.ifCond .ge 13, 3) := by decide +kernel
theorem d_M_merged_114 : decode b_M_merged 114 = .ok (.aload_n 0, 1) := by decide +kernel
theorem d_M_merged_115 : decode b_M_merged 115 = .ok (.iload_n 1, 1) := by decide +kernel
theorem d_M_merged_116 : decode b_M_merged 116 = .ok (.iload 4, 2) := by decide +kernel
theorem d_M_merged_118 : decode b_M_merged 118 = .ok (.invokevirtual 139, 3) := by decide +kernel
theorem d_M_merged_121 : decode b_M_merged 121 = .ok (.goto 10, 3) := by decide +kernel
theorem d_M_merged_124 : decode b_M_merged 124 = .ok (.aload_n 0, 1) := by decide +kernel
theorem d_M_merged_125 : decode b_M_merged 125 = .ok (.iload_n 2, 1) := by decide +kernel
theorem d_M_merged_126 : decode b_M_merged 126 = .ok (.iload 5, 2) := by decide +kernel
theorem d_M_merged_128 : decode b_M_merged 128 = .ok (.invokevirtual 139, 3) := by decide +kernel
theorem d_M_merged_131 : decode b_M_merged 131 = .ok (.iastore, 1) := by decide +kernel
theorem d_M_merged_132 : decode b_M_merged 132 = .ok (.iinc 3 1, 3) := by decide +kernel
theorem d_M_merged_135 : decode b_M_merged 135 = .ok (.iload 6, 2) := by decide +kernel
theorem d_M_merged_137 : decode b_M_merged 137 = .ok (.ifCond .gt 6, 3) := by decide +kernel
theorem d_M_merged_140 : decode b_M_merged 140 = .ok (.iinc 4 1, 3) := by decide +kernel
theorem d_M_merged_143 : decode b_M_merged 143 = .ok (.iload 6, 2) := by decide +kernel
theorem d_M_merged_145 : decode b_M_merged 145 = .ok (.ifCond .lt 6, 3) := by decide +kernel
theorem d_M_merged_148 : decode b_M_merged 148 = .ok (.iinc 5 1, 3) := by decide +kernel
theorem d_M_merged_151 : decode b_M_merged 151 = .ok (.goto (-143), 3) := by decide +kernel
theorem d_M_merged_154 : decode b_M_merged 154 = .ok (.aload_n 0, 1) := by decide +kernel
theorem d_M_merged_155 : decode b_M_merged 155 = .ok (.iload_n 3, 1) := by decide +kernel
theorem d_M_merged_156 : decode b_M_merged 156 = .ok (.invokevirtual 283, 3) := by decide +kernel
theorem d_M_merged_159 : decode b_M_merged 159 = .ok (.ireturn, 1) := by decide +kernel
