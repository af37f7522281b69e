/-! decode rows of FilterBench, methods 0 to 99 (by program: wip/gen/decs.py) -/
theorem d_B_init_0 : decode b_B_init 0 = .ok (.aload_n 0, 1) := by decide +kernel
theorem d_B_init_1 : decode b_B_init 1 = .ok (.invokespecial 1, 3) := by decide +kernel
theorem d_B_init_4 : decode b_B_init 4 = .ok (.aload_n 0, 1) := by decide +kernel
theorem d_B_init_5 : decode b_B_init 5 = .ok (.new 7, 3) := by decide +kernel
theorem d_B_init_8 : decode b_B_init 8 = .ok (.dup, 1) := by decide +kernel
theorem d_B_init_9 : decode b_B_init 9 = .ok (.invokespecial 9, 3) := by decide +kernel
theorem d_B_init_12 : decode b_B_init 12 = .ok (.putfield 10, 3) := by decide +kernel
theorem d_B_init_15 : decode b_B_init 15 = .ok (.aload_n 0, 1) := by decide +kernel
theorem d_B_init_16 : decode b_B_init 16 = .ok (.bipush 8, 2) := by decide +kernel
theorem d_B_init_18 : decode b_B_init 18 = .ok (.newarray .int, 2) := by decide +kernel
theorem d_B_init_20 : decode b_B_init 20 = .ok (.putfield 16, 3) := by decide +kernel
theorem d_B_init_23 : decode b_B_init 23 = .ok (.aload_n 0, 1) := by decide +kernel
theorem d_B_init_24 : decode b_B_init 24 = .ok (.getfield 16, 3) := by decide +kernel
theorem d_B_init_27 : decode b_B_init 27 = .ok (.iconst 0, 1) := by decide +kernel
theorem d_B_init_28 : decode b_B_init 28 = .ok (.invokestatic 20, 3) := by decide +kernel
theorem d_B_init_31 : decode b_B_init 31 = .ok (.aload_n 0, 1) := by decide +kernel
theorem d_B_init_32 : decode b_B_init 32 = .ok (.bipush 8, 2) := by decide +kernel
theorem d_B_init_34 : decode b_B_init 34 = .ok (.newarray .int, 2) := by decide +kernel
theorem d_B_init_36 : decode b_B_init 36 = .ok (.putfield 26, 3) := by decide +kernel
theorem d_B_init_39 : decode b_B_init 39 = .ok (.aload_n 0, 1) := by decide +kernel
theorem d_B_init_40 : decode b_B_init 40 = .ok (.getfield 26, 3) := by decide +kernel
theorem d_B_init_43 : decode b_B_init 43 = .ok (.bipush 12, 2) := by decide +kernel
theorem d_B_init_45 : decode b_B_init 45 = .ok (.invokestatic 20, 3) := by decide +kernel
theorem d_B_init_48 : decode b_B_init 48 = .ok (.aload_n 0, 1) := by decide +kernel
theorem d_B_init_49 : decode b_B_init 49 = .ok (.iconst 4, 1) := by decide +kernel
theorem d_B_init_50 : decode b_B_init 50 = .ok (.anewarray 29, 3) := by decide +kernel
theorem d_B_init_53 : decode b_B_init 53 = .ok (.putfield 31, 3) := by decide +kernel
theorem d_B_init_56 : decode b_B_init 56 = .ok (.iconst 0, 1) := by decide +kernel
theorem d_B_init_57 : decode b_B_init 57 = .ok (.istore_n 1, 1) := by decide +kernel
theorem d_B_init_58 : decode b_B_init 58 = .ok (.iload_n 1, 1) := by decide +kernel
theorem d_B_init_59 : decode b_B_init 59 = .ok (.iconst 4, 1) := by decide +kernel
theorem d_B_init_60 : decode b_B_init 60 = .ok (.if_icmp .ge 22, 3) := by decide +kernel
theorem d_B_init_63 : decode b_B_init 63 = .ok (.aload_n 0, 1) := by decide +kernel
theorem d_B_init_64 : decode b_B_init 64 = .ok (.getfield 31, 3) := by decide +kernel
theorem d_B_init_67 : decode b_B_init 67 = .ok (.iload_n 1, 1) := by decide +kernel
theorem d_B_init_68 : decode b_B_init 68 = .ok (.new 29, 3) := by decide +kernel
theorem d_B_init_71 : decode b_B_init 71 = .ok (.dup, 1) := by decide +kernel
theorem d_B_init_72 : decode b_B_init 72 = .ok (.invokespecial 35, 3) := by decide +kernel
theorem d_B_init_75 : decode b_B_init 75 = .ok (.aastore, 1) := by decide +kernel
theorem d_B_init_76 : decode b_B_init 76 = .ok (.iinc 1 1, 3) := by decide +kernel
theorem d_B_init_79 : decode b_B_init 79 = .ok (.goto (-21), 3) := by decide +kernel
theorem d_B_init_82 : decode b_B_init 82 = .ok (.aload_n 0, 1) := by decide +kernel
theorem d_B_init_83 : decode b_B_init 83 = .ok (.new 36, 3) := by decide +kernel
theorem d_B_init_86 : decode b_B_init 86 = .ok (.dup, 1) := by decide +kernel
theorem d_B_init_87 : decode b_B_init 87 = .ok (.aload_n 0, 1) := by decide +kernel
theorem d_B_init_88 : decode b_B_init 88 = .ok (.getfield 10, 3) := by decide +kernel
theorem d_B_init_91 : decode b_B_init 91 = .ok (.aload_n 0, 1) := by decide +kernel
theorem d_B_init_92 : decode b_B_init 92 = .ok (.getfield 26, 3) := by decide +kernel
theorem d_B_init_95 : decode b_B_init 95 = .ok (.aload_n 0, 1) := by decide +kernel
theorem d_B_init_96 : decode b_B_init 96 = .ok (.getfield 31, 3) := by decide +kernel
theorem d_B_init_99 : decode b_B_init 99 = .ok (.iconst 0, 1) := by decide +kernel
theorem d_B_init_100 : decode b_B_init 100 = .ok (.aaload, 1) := by decide +kernel
theorem d_B_init_101 : decode b_B_init 101 = .ok (.invokespecial 38, 3) := by decide +kernel
theorem d_B_init_104 : decode b_B_init 104 = .ok (.putfield 41, 3) := by decide +kernel
theorem d_B_init_107 : decode b_B_init 107 = .ok (.aload_n 0, 1) := by decide +kernel
theorem d_B_init_108 : decode b_B_init 108 = .ok (.new 45, 3) := by decide +kernel
theorem d_B_init_111 : decode b_B_init 111 = .ok (.dup, 1) := by decide +kernel
theorem d_B_init_112 : decode b_B_init 112 = .ok (.invokespecial 47, 3) := by decide +kernel
theorem d_B_init_115 : decode b_B_init 115 = .ok (.putfield 48, 3) := by decide +kernel
theorem d_B_init_118 : decode b_B_init 118 = .ok (.aload_n 0, 1) := by decide +kernel
theorem d_B_init_119 : decode b_B_init 119 = .ok (.iconst 0, 1) := by decide +kernel
theorem d_B_init_120 : decode b_B_init 120 = .ok (.putfield 52, 3) := by decide +kernel
theorem d_B_init_123 : decode b_B_init 123 = .ok (.return_, 1) := by decide +kernel
theorem d_B_letter_0 : decode b_B_letter 0 = .ok (.iload_n 1, 1) := by decide +kernel
theorem d_B_letter_1 : decode b_B_letter 1 = .ok (.bipush 8, 2) := by decide +kernel
theorem d_B_letter_3 : decode b_B_letter 3 = .ok (.invokestatic 56, 3) := by decide +kernel
theorem d_B_letter_6 : decode b_B_letter 6 = .ok (.ifCond .eq 19, 3) := by decide +kernel
theorem d_B_letter_9 : decode b_B_letter 9 = .ok (.iload_n 2, 1) := by decide +kernel
theorem d_B_letter_10 : decode b_B_letter 10 = .ok (.bipush 32, 2) := by decide +kernel
theorem d_B_letter_12 : decode b_B_letter 12 = .ok (.if_icmp .lt 13, 3) := by decide +kernel
theorem d_B_letter_15 : decode b_B_letter 15 = .ok (.iload_n 2, 1) := by decide +kernel
theorem d_B_letter_16 : decode b_B_letter 16 = .ok (.bipush 126, 2) := by decide +kernel
theorem d_B_letter_18 : decode b_B_letter 18 = .ok (.if_icmp .gt 7, 3) := by decide +kernel
theorem d_B_letter_21 : decode b_B_letter 21 = .ok (.iconst 1, 1) := by decide +kernel
theorem d_B_letter_22 : decode b_B_letter 22 = .ok (.goto 4, 3) := by decide +kernel
theorem d_B_letter_25 : decode b_B_letter 25 = .ok (.iconst 0, 1) := by decide +kernel
theorem d_B_letter_26 : decode b_B_letter 26 = .ok (.invokestatic 60, 3) := by decide +kernel
theorem d_B_letter_29 : decode b_B_letter 29 = .ok (.aload_n 0, 1) := by decide +kernel
theorem d_B_letter_30 : decode b_B_letter 30 = .ok (.getfield 10, 3) := by decide +kernel
theorem d_B_letter_33 : decode b_B_letter 33 = .ok (.aload_n 0, 1) := by decide +kernel
theorem d_B_letter_34 : decode b_B_letter 34 = .ok (.getfield 26, 3) := by decide +kernel
theorem d_B_letter_37 : decode b_B_letter 37 = .ok (.iload_n 1, 1) := by decide +kernel
theorem d_B_letter_38 : decode b_B_letter 38 = .ok (.iaload, 1) := by decide +kernel
theorem d_B_letter_39 : decode b_B_letter 39 = .ok (.invokevirtual 64, 3) := by decide +kernel
theorem d_B_letter_42 : decode b_B_letter 42 = .ok (.bipush 12, 2) := by decide +kernel
theorem d_B_letter_44 : decode b_B_letter 44 = .ok (.if_icmp .ne 13, 3) := by decide +kernel
theorem d_B_letter_47 : decode b_B_letter 47 = .ok (.new 68, 3) := by decide +kernel
theorem d_B_letter_50 : decode b_B_letter 50 = .ok (.dup, 1) := by decide +kernel
theorem d_B_letter_51 : decode b_B_letter 51 = .ok (.ldc 70, 2) := by decide +kernel
theorem d_B_letter_53 : decode b_B_letter 53 = .ok (.invokespecial 72, 3) := by decide +kernel
theorem d_B_letter_56 : decode b_B_letter 56 = .ok (.athrow, 1) := by decide +kernel
theorem d_B_letter_57 : decode b_B_letter 57 = .ok (.aload_n 0, 1) := by decide +kernel
theorem d_B_letter_58 : decode b_B_letter 58 = .ok (.getfield 26, 3) := by decide +kernel
theorem d_B_letter_61 : decode b_B_letter 61 = .ok (.iload_n 1, 1) := by decide +kernel
theorem d_B_letter_62 : decode b_B_letter 62 = .ok (.aload_n 0, 1) := by decide +kernel
theorem d_B_letter_63 : decode b_B_letter 63 = .ok (.getfield 10, 3) := by decide +kernel
theorem d_B_letter_66 : decode b_B_letter 66 = .ok (.aload_n 0, 1) := by decide +kernel
theorem d_B_letter_67 : decode b_B_letter 67 = .ok (.getfield 26, 3) := by decide +kernel
theorem d_B_letter_70 : decode b_B_letter 70 = .ok (.iload_n 1, 1) := by decide +kernel
theorem d_B_letter_71 : decode b_B_letter 71 = .ok (.iaload, 1) := by decide +kernel
theorem d_B_letter_72 : decode b_B_letter 72 = .ok (.iload_n 2, 1) := by decide +kernel
theorem d_B_letter_73 : decode b_B_letter 73 = .ok (.invokevirtual 75, 3) := by decide +kernel
theorem d_B_letter_76 : decode b_B_letter 76 = .ok (.iastore, 1) := by decide +kernel
theorem d_B_letter_77 : decode b_B_letter 77 = .ok (.aload_n 0, 1) := by decide +kernel
theorem d_B_letter_78 : decode b_B_letter 78 = .ok (.getfield 10, 3) := by decide +kernel
theorem d_B_letter_81 : decode b_B_letter 81 = .ok (.aload_n 0, 1) := by decide +kernel
theorem d_B_letter_82 : decode b_B_letter 82 = .ok (.getfield 26, 3) := by decide +kernel
theorem d_B_letter_85 : decode b_B_letter 85 = .ok (.iload_n 1, 1) := by decide +kernel
theorem d_B_letter_86 : decode b_B_letter 86 = .ok (.iaload, 1) := by decide +kernel
theorem d_B_letter_87 : decode b_B_letter 87 = .ok (.invokevirtual 64, 3) := by decide +kernel
theorem d_B_letter_90 : decode b_B_letter 90 = .ok (.ireturn, 1) := by decide +kernel
theorem d_B_token_0 : decode b_B_token 0 = .ok (.iload_n 1, 1) := by decide +kernel
theorem d_B_token_1 : decode b_B_token 1 = .ok (.iconst 4, 1) := by decide +kernel
theorem d_B_token_2 : decode b_B_token 2 = .ok (.invokestatic 56, 3) := by decide +kernel
theorem d_B_token_5 : decode b_B_token 5 = .ok (.ifCond .eq 24, 3) := by decide +kernel
theorem d_B_token_8 : decode b_B_token 8 = .ok (.iload_n 2, 1) := by decide +kernel
theorem d_B_token_9 : decode b_B_token 9 = .ok (.bipush 35, 2) := by decide +kernel
theorem d_B_token_11 : decode b_B_token 11 = .ok (.invokestatic 56, 3) := by decide +kernel
theorem d_B_token_14 : decode b_B_token 14 = .ok (.ifCond .eq 15, 3) := by decide +kernel
theorem d_B_token_17 : decode b_B_token 17 = .ok (.iload_n 2, 1) := by decide +kernel
theorem d_B_token_18 : decode b_B_token 18 = .ok (.iload_n 3, 1) := by decide +kernel
theorem d_B_token_19 : decode b_B_token 19 = .ok (.invokestatic 81, 3) := by decide +kernel
theorem d_B_token_22 : decode b_B_token 22 = .ok (.ifCond .eq 7, 3) := by decide +kernel
theorem d_B_token_25 : decode b_B_token 25 = .ok (.iconst 1, 1) := by decide +kernel
theorem d_B_token_26 : decode b_B_token 26 = .ok (.goto 4, 3) := by decide +kernel
theorem d_B_token_29 : decode b_B_token 29 = .ok (.iconst 0, 1) := by decide +kernel
theorem d_B_token_30 : decode b_B_token 30 = .ok (.invokestatic 60, 3) := by decide +kernel
theorem d_B_token_33 : decode b_B_token 33 = .ok (.aload_n 0, 1) := by decide +kernel
theorem d_B_token_34 : decode b_B_token 34 = .ok (.getfield 31, 3) := by decide +kernel
theorem d_B_token_37 : decode b_B_token 37 = .ok (.iload_n 1, 1) := by decide +kernel
theorem d_B_token_38 : decode b_B_token 38 = .ok (.aaload, 1) := by decide +kernel
theorem d_B_token_39 : decode b_B_token 39 = .ok (.invokevirtual 84, 3) := by decide +kernel
theorem d_B_token_42 : decode b_B_token 42 = .ok (.bipush 32, 2) := by decide +kernel
theorem d_B_token_44 : decode b_B_token 44 = .ok (.if_icmp .ne 13, 3) := by decide +kernel
theorem d_B_token_47 : decode b_B_token 47 = .ok (.new 68, 3) := by decide +kernel
theorem d_B_token_50 : decode b_B_token 50 = .ok (.dup, 1) := by decide +kernel
theorem d_B_token_51 : decode b_B_token 51 = .ok (.ldc 88, 2) := by decide +kernel
theorem d_B_token_53 : decode b_B_token 53 = .ok (.invokespecial 72, 3) := by decide +kernel
theorem d_B_token_56 : decode b_B_token 56 = .ok (.athrow, 1) := by decide +kernel
theorem d_B_token_57 : decode b_B_token 57 = .ok (.aload_n 0, 1) := by decide +kernel
theorem d_B_token_58 : decode b_B_token 58 = .ok (.getfield 31, 3) := by decide +kernel
theorem d_B_token_61 : decode b_B_token 61 = .ok (.iload_n 1, 1) := by decide +kernel
theorem d_B_token_62 : decode b_B_token 62 = .ok (.aaload, 1) := by decide +kernel
theorem d_B_token_63 : decode b_B_token 63 = .ok (.iload_n 2, 1) := by decide +kernel
theorem d_B_token_64 : decode b_B_token 64 = .ok (.iload_n 3, 1) := by decide +kernel
theorem d_B_token_65 : decode b_B_token 65 = .ok (.invokevirtual 90, 3) := by decide +kernel
theorem d_B_token_68 : decode b_B_token 68 = .ok (.aload_n 0, 1) := by decide +kernel
theorem d_B_token_69 : decode b_B_token 69 = .ok (.getfield 31, 3) := by decide +kernel
theorem d_B_token_72 : decode b_B_token 72 = .ok (.iload_n 1, 1) := by decide +kernel
theorem d_B_token_73 : decode b_B_token 73 = .ok (.aaload, 1) := by decide +kernel
theorem d_B_token_74 : decode b_B_token 74 = .ok (.invokevirtual 84, 3) := by decide +kernel
theorem d_B_token_77 : decode b_B_token 77 = .ok (.ireturn, 1) := by decide +kernel
theorem d_B_wipe_0 : decode b_B_wipe 0 = .ok (.iload_n 1, 1) := by decide +kernel
theorem d_B_wipe_1 : decode b_B_wipe 1 = .ok (.ifCond .ne 11, 3) := by decide +kernel
theorem d_B_wipe_4 : decode b_B_wipe 4 = .ok (.iload_n 2, 1) := by decide +kernel
theorem d_B_wipe_5 : decode b_B_wipe 5 = .ok (.iconst 4, 1) := by decide +kernel
theorem d_B_wipe_6 : decode b_B_wipe 6 = .ok (.invokestatic 56, 3) := by decide +kernel
theorem d_B_wipe_9 : decode b_B_wipe 9 = .ok (.ifCond .ne 17, 3) := by decide +kernel
theorem d_B_wipe_12 : decode b_B_wipe 12 = .ok (.iload_n 1, 1) := by decide +kernel
theorem d_B_wipe_13 : decode b_B_wipe 13 = .ok (.iconst 1, 1) := by decide +kernel
theorem d_B_wipe_14 : decode b_B_wipe 14 = .ok (.if_icmp .ne 16, 3) := by decide +kernel
theorem d_B_wipe_17 : decode b_B_wipe 17 = .ok (.iload_n 2, 1) := by decide +kernel
theorem d_B_wipe_18 : decode b_B_wipe 18 = .ok (.bipush 8, 2) := by decide +kernel
theorem d_B_wipe_20 : decode b_B_wipe 20 = .ok (.invokestatic 56, 3) := by decide +kernel
theorem d_B_wipe_23 : decode b_B_wipe 23 = .ok (.ifCond .eq 7, 3) := by decide +kernel
theorem d_B_wipe_26 : decode b_B_wipe 26 = .ok (.iconst 1, 1) := by decide +kernel
theorem d_B_wipe_27 : decode b_B_wipe 27 = .ok (.goto 4, 3) := by decide +kernel
theorem d_B_wipe_30 : decode b_B_wipe 30 = .ok (.iconst 0, 1) := by decide +kernel
theorem d_B_wipe_31 : decode b_B_wipe 31 = .ok (.invokestatic 60, 3) := by decide +kernel
theorem d_B_wipe_34 : decode b_B_wipe 34 = .ok (.iload_n 1, 1) := by decide +kernel
theorem d_B_wipe_35 : decode b_B_wipe 35 = .ok (.ifCond .ne 13, 3) := by decide +kernel
theorem d_B_wipe_38 : decode b_B_wipe 38 = .ok (.aload_n 0, 1) := by decide +kernel
theorem d_B_wipe_39 : decode b_B_wipe 39 = .ok (.getfield 31, 3) := by decide +kernel
theorem d_B_wipe_42 : decode b_B_wipe 42 = .ok (.iload_n 2, 1) := by decide +kernel
theorem d_B_wipe_43 : decode b_B_wipe 43 = .ok (.aaload, 1) := by decide +kernel
theorem d_B_wipe_44 : decode b_B_wipe 44 = .ok (.invokevirtual 94, 3) := by decide +kernel
theorem d_B_wipe_47 : decode b_B_wipe 47 = .ok (.ireturn, 1) := by decide +kernel
theorem d_B_wipe_48 : decode b_B_wipe 48 = .ok (.aload_n 0, 1) := by decide +kernel
theorem d_B_wipe_49 : decode b_B_wipe 49 = .ok (.getfield 10, 3) := by decide +kernel
theorem d_B_wipe_52 : decode b_B_wipe 52 = .ok (.aload_n 0, 1) := by decide +kernel
theorem d_B_wipe_53 : decode b_B_wipe 53 = .ok (.getfield 26, 3) := by decide +kernel
theorem d_B_wipe_56 : decode b_B_wipe 56 = .ok (.iload_n 2, 1) := by decide +kernel
theorem d_B_wipe_57 : decode b_B_wipe 57 = .ok (.iaload, 1) := by decide +kernel
theorem d_B_wipe_58 : decode b_B_wipe 58 = .ok (.invokevirtual 64, 3) := by decide +kernel
theorem d_B_wipe_61 : decode b_B_wipe 61 = .ok (.istore_n 3, 1) := by decide +kernel
theorem d_B_wipe_62 : decode b_B_wipe 62 = .ok (.aload_n 0, 1) := by decide +kernel
theorem d_B_wipe_63 : decode b_B_wipe 63 = .ok (.getfield 26, 3) := by decide +kernel
theorem d_B_wipe_66 : decode b_B_wipe 66 = .ok (.iload_n 2, 1) := by decide +kernel
theorem d_B_wipe_67 : decode b_B_wipe 67 = .ok (.bipush 12, 2) := by decide +kernel
theorem d_B_wipe_69 : decode b_B_wipe 69 = .ok (.iastore, 1) := by decide +kernel
theorem d_B_wipe_70 : decode b_B_wipe 70 = .ok (.iload_n 3, 1) := by decide +kernel
theorem d_B_wipe_71 : decode b_B_wipe 71 = .ok (.ireturn, 1) := by decide +kernel
theorem d_B_run_0 : decode b_B_run 0 = .ok (.iload_n 1, 1) := by decide +kernel
theorem d_B_run_1 : decode b_B_run 1 = .ok (.iconst 4, 1) := by decide +kernel
theorem d_B_run_2 : decode b_B_run 2 = .ok (.invokestatic 56, 3) := by decide +kernel
theorem d_B_run_5 : decode b_B_run 5 = .ok (.ifCond .eq 16, 3) := by decide +kernel
theorem d_B_run_8 : decode b_B_run 8 = .ok (.iload_n 2, 1) := by decide +kernel
theorem d_B_run_9 : decode b_B_run 9 = .ok (.bipush 8, 2) := by decide +kernel
theorem d_B_run_11 : decode b_B_run 11 = .ok (.invokestatic 56, 3) := by decide +kernel
theorem d_B_run_14 : decode b_B_run 14 = .ok (.ifCond .eq 7, 3) := by decide +kernel
theorem d_B_run_17 : decode b_B_run 17 = .ok (.iconst 1, 1) := by decide +kernel
theorem d_B_run_18 : decode b_B_run 18 = .ok (.goto 4, 3) := by decide +kernel
theorem d_B_run_21 : decode b_B_run 21 = .ok (.iconst 0, 1) := by decide +kernel
theorem d_B_run_22 : decode b_B_run 22 = .ok (.invokestatic 60, 3) := by decide +kernel
theorem d_B_run_25 : decode b_B_run 25 = .ok (.aload_n 0, 1) := by decide +kernel
theorem d_B_run_26 : decode b_B_run 26 = .ok (.getfield 31, 3) := by decide +kernel
theorem d_B_run_29 : decode b_B_run 29 = .ok (.iload_n 1, 1) := by decide +kernel
theorem d_B_run_30 : decode b_B_run 30 = .ok (.aaload, 1) := by decide +kernel
theorem d_B_run_31 : decode b_B_run 31 = .ok (.invokevirtual 97, 3) := by decide +kernel
theorem d_B_run_34 : decode b_B_run 34 = .ok (.ifCond .ne 13, 3) := by decide +kernel
theorem d_B_run_37 : decode b_B_run 37 = .ok (.new 101, 3) := by decide +kernel
theorem d_B_run_40 : decode b_B_run 40 = .ok (.dup, 1) := by decide +kernel
theorem d_B_run_41 : decode b_B_run 41 = .ok (.ldc 103, 2) := by decide +kernel
theorem d_B_run_43 : decode b_B_run 43 = .ok (.invokespecial 105, 3) := by decide +kernel
theorem d_B_run_46 : decode b_B_run 46 = .ok (.athrow, 1) := by decide +kernel
theorem d_B_run_47 : decode b_B_run 47 = .ok (.aload_n 0, 1) := by decide +kernel
theorem d_B_run_48 : decode b_B_run 48 = .ok (.invokevirtual 106, 3) := by decide +kernel
theorem d_B_run_51 : decode b_B_run 51 = .ok (.aload_n 0, 1) := by decide +kernel
theorem d_B_run_52 : decode b_B_run 52 = .ok (.dup, 1) := by decide +kernel
theorem d_B_run_53 : decode b_B_run 53 = .ok (.getfield 109, 3) := by decide +kernel
theorem d_B_run_56 : decode b_B_run 56 = .ok (.iconst 1, 1) := by decide +kernel
theorem d_B_run_57 : decode b_B_run 57 = .ok (.iadd, 1) := by decide +kernel
theorem d_B_run_58 : decode b_B_run 58 = .ok (.putfield 109, 3) := by decide +kernel
theorem d_B_run_61 : decode b_B_run 61 = .ok (.aload_n 0, 1) := by decide +kernel
theorem d_B_run_62 : decode b_B_run 62 = .ok (.getfield 41, 3) := by decide +kernel
theorem d_B_run_65 : decode b_B_run 65 = .ok (.aload_n 0, 1) := by decide +kernel
theorem d_B_run_66 : decode b_B_run 66 = .ok (.getfield 31, 3) := by decide +kernel
theorem d_B_run_69 : decode b_B_run 69 = .ok (.iload_n 1, 1) := by decide +kernel
theorem d_B_run_70 : decode b_B_run 70 = .ok (.aaload, 1) := by decide +kernel
theorem d_B_run_71 : decode b_B_run 71 = .ok (.invokevirtual 112, 3) := by decide +kernel
theorem d_B_run_74 : decode b_B_run 74 = .ok (.aload_n 0, 1) := by decide +kernel
theorem d_B_run_75 : decode b_B_run 75 = .ok (.getfield 41, 3) := by decide +kernel
theorem d_B_run_78 : decode b_B_run 78 = .ok (.iconst 0, 1) := by decide +kernel
theorem d_B_run_79 : decode b_B_run 79 = .ok (.aload_n 0, 1) := by decide +kernel
theorem d_B_run_80 : decode b_B_run 80 = .ok (.getfield 16, 3) := by decide +kernel
theorem d_B_run_83 : decode b_B_run 83 = .ok (.iload_n 2, 1) := by decide +kernel
theorem d_B_run_84 : decode b_B_run 84 = .ok (.iaload, 1) := by decide +kernel
theorem d_B_run_85 : decode b_B_run 85 = .ok (.iconst 0, 1) := by decide +kernel
theorem d_B_run_86 : decode b_B_run 86 = .ok (.aload_n 0, 1) := by decide +kernel
theorem d_B_run_87 : decode b_B_run 87 = .ok (.getfield 48, 3) := by decide +kernel
theorem d_B_run_90 : decode b_B_run 90 = .ok (.invokevirtual 116, 3) := by decide +kernel
theorem d_B_run_93 : decode b_B_run 93 = .ok (.aload_n 0, 1) := by decide +kernel
theorem d_B_run_94 : decode b_B_run 94 = .ok (.dup, 1) := by decide +kernel
theorem d_B_run_95 : decode b_B_run 95 = .ok (.getfield 109, 3) := by decide +kernel
theorem d_B_run_98 : decode b_B_run 98 = .ok (.iconst 1, 1) := by decide +kernel
theorem d_B_run_99 : decode b_B_run 99 = .ok (.isub, 1) := by decide +kernel
theorem d_B_run_100 : decode b_B_run 100 = .ok (.putfield 109, 3) := by decide +kernel
theorem d_B_run_103 : decode b_B_run 103 = .ok (.aload_n 0, 1) := by decide +kernel
theorem d_B_run_104 : decode b_B_run 104 = .ok (.aload_n 0, 1) := by decide +kernel
theorem d_B_run_105 : decode b_B_run 105 = .ok (.getfield 48, 3) := by decide +kernel
theorem d_B_run_108 : decode b_B_run 108 = .ok (.invokevirtual 120, 3) := by decide +kernel
theorem d_B_run_111 : decode b_B_run 111 = .ok (.putfield 121, 3) := by decide +kernel
theorem d_B_run_114 : decode b_B_run 114 = .ok (.aload_n 0, 1) := by decide +kernel
theorem d_B_run_115 : decode b_B_run 115 = .ok (.aload_n 0, 1) := by decide +kernel
theorem d_B_run_116 : decode b_B_run 116 = .ok (.getfield 41, 3) := by decide +kernel
theorem d_B_run_119 : decode b_B_run 119 = .ok (.invokevirtual 124, 3) := by decide +kernel
theorem d_B_run_122 : decode b_B_run 122 = .ok (.putfield 127, 3) := by decide +kernel
theorem d_B_run_125 : decode b_B_run 125 = .ok (.aload_n 0, 1) := by decide +kernel
theorem d_B_run_126 : decode b_B_run 126 = .ok (.getfield 48, 3) := by decide +kernel
theorem d_B_run_129 : decode b_B_run 129 = .ok (.invokevirtual 129, 3) := by decide +kernel
theorem d_B_run_132 : decode b_B_run 132 = .ok (.ifCond .eq 34, 3) := by decide +kernel
theorem d_B_run_135 : decode b_B_run 135 = .ok (.aload_n 0, 1) := by decide +kernel
theorem d_B_run_136 : decode b_B_run 136 = .ok (.aload_n 0, 1) := by decide +kernel
theorem d_B_run_137 : decode b_B_run 137 = .ok (.getfield 48, 3) := by decide +kernel
theorem d_B_run_140 : decode b_B_run 140 = .ok (.invokevirtual 132, 3) := by decide +kernel
theorem d_B_run_143 : decode b_B_run 143 = .ok (.putfield 52, 3) := by decide +kernel
theorem d_B_run_146 : decode b_B_run 146 = .ok (.aload_n 0, 1) := by decide +kernel
theorem d_B_run_147 : decode b_B_run 147 = .ok (.dup, 1) := by decide +kernel
theorem d_B_run_148 : decode b_B_run 148 = .ok (.getfield 135, 3) := by decide +kernel
theorem d_B_run_151 : decode b_B_run 151 = .ok (.iconst 1, 1) := by decide +kernel
theorem d_B_run_152 : decode b_B_run 152 = .ok (.iadd, 1) := by decide +kernel
theorem d_B_run_153 : decode b_B_run 153 = .ok (.putfield 135, 3) := by decide +kernel
theorem d_B_run_156 : decode b_B_run 156 = .ok (.new 138, 3) := by decide +kernel
theorem d_B_run_159 : decode b_B_run 159 = .ok (.dup, 1) := by decide +kernel
theorem d_B_run_160 : decode b_B_run 160 = .ok (.ldc 140, 2) := by decide +kernel
theorem d_B_run_162 : decode b_B_run 162 = .ok (.invokespecial 142, 3) := by decide +kernel
theorem d_B_run_165 : decode b_B_run 165 = .ok (.athrow, 1) := by decide +kernel
theorem d_B_run_166 : decode b_B_run 166 = .ok (.aload_n 0, 1) := by decide +kernel
theorem d_B_run_167 : decode b_B_run 167 = .ok (.getfield 121, 3) := by decide +kernel
theorem d_B_run_170 : decode b_B_run 170 = .ok (.ireturn, 1) := by decide +kernel
theorem d_B_keep_0 : decode b_B_keep 0 = .ok (.iload_n 1, 1) := by decide +kernel
theorem d_B_keep_1 : decode b_B_keep 1 = .ok (.bipush 8, 2) := by decide +kernel
theorem d_B_keep_3 : decode b_B_keep 3 = .ok (.invokestatic 56, 3) := by decide +kernel
theorem d_B_keep_6 : decode b_B_keep 6 = .ok (.invokestatic 60, 3) := by decide +kernel
theorem d_B_keep_9 : decode b_B_keep 9 = .ok (.iload_n 2, 1) := by decide +kernel
theorem d_B_keep_10 : decode b_B_keep 10 = .ok (.iconst (-1), 1) := by decide +kernel
theorem d_B_keep_11 : decode b_B_keep 11 = .ok (.if_icmp .lt 11, 3) := by decide +kernel
theorem d_B_keep_14 : decode b_B_keep 14 = .ok (.iload_n 2, 1) := by decide +kernel
theorem d_B_keep_15 : decode b_B_keep 15 = .ok (.aload_n 0, 1) := by decide +kernel
theorem d_B_keep_16 : decode b_B_keep 16 = .ok (.getfield 121, 3) := by decide +kernel
theorem d_B_keep_19 : decode b_B_keep 19 = .ok (.if_icmp .lt 13, 3) := by decide +kernel
theorem d_B_keep_22 : decode b_B_keep 22 = .ok (.new 101, 3) := by decide +kernel
theorem d_B_keep_25 : decode b_B_keep 25 = .ok (.dup, 1) := by decide +kernel
theorem d_B_keep_26 : decode b_B_keep 26 = .ok (.ldc 143, 2) := by decide +kernel
theorem d_B_keep_28 : decode b_B_keep 28 = .ok (.invokespecial 105, 3) := by decide +kernel
theorem d_B_keep_31 : decode b_B_keep 31 = .ok (.athrow, 1) := by decide +kernel
theorem d_B_keep_32 : decode b_B_keep 32 = .ok (.aload_n 0, 1) := by decide +kernel
theorem d_B_keep_33 : decode b_B_keep 33 = .ok (.getfield 16, 3) := by decide +kernel
theorem d_B_keep_36 : decode b_B_keep 36 = .ok (.iload_n 1, 1) := by decide +kernel
theorem d_B_keep_37 : decode b_B_keep 37 = .ok (.iload_n 2, 1) := by decide +kernel
theorem d_B_keep_38 : decode b_B_keep 38 = .ok (.ifCond .ge 10, 3) := by decide +kernel
theorem d_B_keep_41 : decode b_B_keep 41 = .ok (.aload_n 0, 1) := by decide +kernel
theorem d_B_keep_42 : decode b_B_keep 42 = .ok (.getfield 52, 3) := by decide +kernel
theorem d_B_keep_45 : decode b_B_keep 45 = .ok (.goto 11, 3) := by decide +kernel
theorem d_B_keep_48 : decode b_B_keep 48 = .ok (.aload_n 0, 1) := by decide +kernel
theorem d_B_keep_49 : decode b_B_keep 49 = .ok (.getfield 48, 3) := by decide +kernel
theorem d_B_keep_52 : decode b_B_keep 52 = .ok (.iload_n 2, 1) := by decide +kernel
theorem d_B_keep_53 : decode b_B_keep 53 = .ok (.invokevirtual 145, 3) := by decide +kernel
theorem d_B_keep_56 : decode b_B_keep 56 = .ok (.iastore, 1) := by decide +kernel
theorem d_B_keep_57 : decode b_B_keep 57 = .ok (.aload_n 0, 1) := by decide +kernel
theorem d_B_keep_58 : decode b_B_keep 58 = .ok (.getfield 10, 3) := by decide +kernel
theorem d_B_keep_61 : decode b_B_keep 61 = .ok (.aload_n 0, 1) := by decide +kernel
theorem d_B_keep_62 : decode b_B_keep 62 = .ok (.getfield 16, 3) := by decide +kernel
theorem d_B_keep_65 : decode b_B_keep 65 = .ok (.iload_n 1, 1) := by decide +kernel
theorem d_B_keep_66 : decode b_B_keep 66 = .ok (.iaload, 1) := by decide +kernel
theorem d_B_keep_67 : decode b_B_keep 67 = .ok (.invokevirtual 148, 3) := by decide +kernel
theorem d_B_keep_70 : decode b_B_keep 70 = .ok (.ireturn, 1) := by decide +kernel
theorem d_B_kind_0 : decode b_B_kind 0 = .ok (.aload_n 0, 1) := by decide +kernel
theorem d_B_kind_1 : decode b_B_kind 1 = .ok (.iload_n 1, 1) := by decide +kernel
theorem d_B_kind_2 : decode b_B_kind 2 = .ok (.iload_n 2, 1) := by decide +kernel
theorem d_B_kind_3 : decode b_B_kind 3 = .ok (.invokevirtual 151, 3) := by decide +kernel
theorem d_B_kind_6 : decode b_B_kind 6 = .ok (.aload_n 0, 1) := by decide +kernel
theorem d_B_kind_7 : decode b_B_kind 7 = .ok (.getfield 10, 3) := by decide +kernel
theorem d_B_kind_10 : decode b_B_kind 10 = .ok (.aload_n 0, 1) := by decide +kernel
theorem d_B_kind_11 : decode b_B_kind 11 = .ok (.getfield 10, 3) := by decide +kernel
theorem d_B_kind_14 : decode b_B_kind 14 = .ok (.aload_n 0, 1) := by decide +kernel
theorem d_B_kind_15 : decode b_B_kind 15 = .ok (.getfield 16, 3) := by decide +kernel
theorem d_B_kind_18 : decode b_B_kind 18 = .ok (.iload_n 1, 1) := by decide +kernel
theorem d_B_kind_19 : decode b_B_kind 19 = .ok (.iaload, 1) := by decide +kernel
theorem d_B_kind_20 : decode b_B_kind 20 = .ok (.iload_n 2, 1) := by decide +kernel
theorem d_B_kind_21 : decode b_B_kind 21 = .ok (.invokevirtual 154, 3) := by decide +kernel
theorem d_B_kind_24 : decode b_B_kind 24 = .ok (.invokevirtual 157, 3) := by decide +kernel
theorem d_B_kind_27 : decode b_B_kind 27 = .ok (.ireturn, 1) := by decide +kernel
theorem d_B_length_0 : decode b_B_length 0 = .ok (.aload_n 0, 1) := by decide +kernel
theorem d_B_length_1 : decode b_B_length 1 = .ok (.iload_n 1, 1) := by decide +kernel
theorem d_B_length_2 : decode b_B_length 2 = .ok (.iload_n 2, 1) := by decide +kernel
theorem d_B_length_3 : decode b_B_length 3 = .ok (.invokevirtual 151, 3) := by decide +kernel
theorem d_B_length_6 : decode b_B_length 6 = .ok (.aload_n 0, 1) := by decide +kernel
theorem d_B_length_7 : decode b_B_length 7 = .ok (.getfield 10, 3) := by decide +kernel
theorem d_B_length_10 : decode b_B_length 10 = .ok (.aload_n 0, 1) := by decide +kernel
theorem d_B_length_11 : decode b_B_length 11 = .ok (.getfield 10, 3) := by decide +kernel
theorem d_B_length_14 : decode b_B_length 14 = .ok (.aload_n 0, 1) := by decide +kernel
theorem d_B_length_15 : decode b_B_length 15 = .ok (.getfield 16, 3) := by decide +kernel
theorem d_B_length_18 : decode b_B_length 18 = .ok (.iload_n 1, 1) := by decide +kernel
theorem d_B_length_19 : decode b_B_length 19 = .ok (.iaload, 1) := by decide +kernel
theorem d_B_length_20 : decode b_B_length 20 = .ok (.iload_n 2, 1) := by decide +kernel
theorem d_B_length_21 : decode b_B_length 21 = .ok (.invokevirtual 154, 3) := by decide +kernel
theorem d_B_length_24 : decode b_B_length 24 = .ok (.invokevirtual 64, 3) := by decide +kernel
theorem d_B_length_27 : decode b_B_length 27 = .ok (.ireturn, 1) := by decide +kernel
theorem d_B_number_0 : decode b_B_number 0 = .ok (.aload_n 0, 1) := by decide +kernel
theorem d_B_number_1 : decode b_B_number 1 = .ok (.iload_n 1, 1) := by decide +kernel
theorem d_B_number_2 : decode b_B_number 2 = .ok (.iload_n 2, 1) := by decide +kernel
theorem d_B_number_3 : decode b_B_number 3 = .ok (.invokevirtual 151, 3) := by decide +kernel
theorem d_B_number_6 : decode b_B_number 6 = .ok (.aload_n 0, 1) := by decide +kernel
theorem d_B_number_7 : decode b_B_number 7 = .ok (.getfield 10, 3) := by decide +kernel
theorem d_B_number_10 : decode b_B_number 10 = .ok (.aload_n 0, 1) := by decide +kernel
theorem d_B_number_11 : decode b_B_number 11 = .ok (.getfield 16, 3) := by decide +kernel
theorem d_B_number_14 : decode b_B_number 14 = .ok (.iload_n 1, 1) := by decide +kernel
theorem d_B_number_15 : decode b_B_number 15 = .ok (.iaload, 1) := by decide +kernel
theorem d_B_number_16 : decode b_B_number 16 = .ok (.iload_n 2, 1) := by decide +kernel
theorem d_B_number_17 : decode b_B_number 17 = .ok (.invokevirtual 154, 3) := by decide +kernel
theorem d_B_number_20 : decode b_B_number 20 = .ok (.istore 4, 2) := by decide +kernel
theorem d_B_number_22 : decode b_B_number 22 = .ok (.aload_n 0, 1) := by decide +kernel
theorem d_B_number_23 : decode b_B_number 23 = .ok (.getfield 10, 3) := by decide +kernel
theorem d_B_number_26 : decode b_B_number 26 = .ok (.iload 4, 2) := by decide +kernel
theorem d_B_number_28 : decode b_B_number 28 = .ok (.invokevirtual 157, 3) := by decide +kernel
theorem d_B_number_31 : decode b_B_number 31 = .ok (.iconst 3, 1) := by decide +kernel
theorem d_B_number_32 : decode b_B_number 32 = .ok (.if_icmp .eq 5, 3) := by decide +kernel
theorem d_B_number_35 : decode b_B_number 35 = .ok (.iconst 0, 1) := by decide +kernel
theorem d_B_number_36 : decode b_B_number 36 = .ok (.ireturn, 1) := by decide +kernel
theorem d_B_number_37 : decode b_B_number 37 = .ok (.iload_n 3, 1) := by decide +kernel
theorem d_B_number_38 : decode b_B_number 38 = .ok (.ifCond .eq 15, 3) := by decide +kernel
theorem d_B_number_41 : decode b_B_number 41 = .ok (.aload_n 0, 1) := by decide +kernel
theorem d_B_number_42 : decode b_B_number 42 = .ok (.getfield 10, 3) := by decide +kernel
theorem d_B_number_45 : decode b_B_number 45 = .ok (.iload 4, 2) := by decide +kernel
theorem d_B_number_47 : decode b_B_number 47 = .ok (.invokevirtual 162, 3) := by decide +kernel
theorem d_B_number_50 : decode b_B_number 50 = .ok (.goto 12, 3) := by decide +kernel
theorem d_B_number_53 : decode b_B_number 53 = .ok (.aload_n 0, 1) := by decide +kernel
theorem d_B_number_54 : decode b_B_number 54 = .ok (.getfield 10, 3) := by decide +kernel
theorem d_B_number_57 : decode b_B_number 57 = .ok (.iload 4, 2) := by decide +kernel
theorem d_B_number_59 : decode b_B_number 59 = .ok (.invokevirtual 165, 3) := by decide +kernel
theorem d_B_number_62 : decode b_B_number 62 = .ok (.ireturn, 1) := by decide +kernel
theorem d_B_character_0 : decode b_B_character 0 = .ok (.aload_n 0, 1) := by decide +kernel
theorem d_B_character_1 : decode b_B_character 1 = .ok (.iload_n 1, 1) := by decide +kernel
theorem d_B_character_2 : decode b_B_character 2 = .ok (.iload_n 2, 1) := by decide +kernel
theorem d_B_character_3 : decode b_B_character 3 = .ok (.invokevirtual 151, 3) := by decide +kernel
theorem d_B_character_6 : decode b_B_character 6 = .ok (.iload 4, 2) := by decide +kernel
theorem d_B_character_8 : decode b_B_character 8 = .ok (.ifCond .eq 20, 3) := by decide +kernel
theorem d_B_character_11 : decode b_B_character 11 = .ok (.aload_n 0, 1) := by decide +kernel
theorem d_B_character_12 : decode b_B_character 12 = .ok (.getfield 10, 3) := by decide +kernel
theorem d_B_character_15 : decode b_B_character 15 = .ok (.aload_n 0, 1) := by decide +kernel
theorem d_B_character_16 : decode b_B_character 16 = .ok (.getfield 16, 3) := by decide +kernel
theorem d_B_character_19 : decode b_B_character 19 = .ok (.iload_n 1, 1) := by decide +kernel
theorem d_B_character_20 : decode b_B_character 20 = .ok (.iaload, 1) := by decide +kernel
theorem d_B_character_21 : decode b_B_character 21 = .ok (.iload_n 2, 1) := by decide +kernel
theorem d_B_character_22 : decode b_B_character 22 = .ok (.invokevirtual 168, 3) := by decide +kernel
theorem d_B_character_25 : decode b_B_character 25 = .ok (.goto 17, 3) := by decide +kernel
theorem d_B_character_28 : decode b_B_character 28 = .ok (.aload_n 0, 1) := by decide +kernel
theorem d_B_character_29 : decode b_B_character 29 = .ok (.getfield 10, 3) := by decide +kernel
theorem d_B_character_32 : decode b_B_character 32 = .ok (.aload_n 0, 1) := by decide +kernel
theorem d_B_character_33 : decode b_B_character 33 = .ok (.getfield 16, 3) := by decide +kernel
theorem d_B_character_36 : decode b_B_character 36 = .ok (.iload_n 1, 1) := by decide +kernel
theorem d_B_character_37 : decode b_B_character 37 = .ok (.iaload, 1) := by decide +kernel
theorem d_B_character_38 : decode b_B_character 38 = .ok (.iload_n 2, 1) := by decide +kernel
theorem d_B_character_39 : decode b_B_character 39 = .ok (.invokevirtual 154, 3) := by decide +kernel
theorem d_B_character_42 : decode b_B_character 42 = .ok (.istore 5, 2) := by decide +kernel
theorem d_B_character_44 : decode b_B_character 44 = .ok (.aload_n 0, 1) := by decide +kernel
theorem d_B_character_45 : decode b_B_character 45 = .ok (.getfield 10, 3) := by decide +kernel
theorem d_B_character_48 : decode b_B_character 48 = .ok (.iload 5, 2) := by decide +kernel
theorem d_B_character_50 : decode b_B_character 50 = .ok (.invokevirtual 157, 3) := by decide +kernel
theorem d_B_character_53 : decode b_B_character 53 = .ok (.iconst 4, 1) := by decide +kernel
theorem d_B_character_54 : decode b_B_character 54 = .ok (.if_icmp .ne 19, 3) := by decide +kernel
theorem d_B_character_57 : decode b_B_character 57 = .ok (.iload_n 3, 1) := by decide +kernel
theorem d_B_character_58 : decode b_B_character 58 = .ok (.aload_n 0, 1) := by decide +kernel
theorem d_B_character_59 : decode b_B_character 59 = .ok (.getfield 10, 3) := by decide +kernel
theorem d_B_character_62 : decode b_B_character 62 = .ok (.iload 5, 2) := by decide +kernel
theorem d_B_character_64 : decode b_B_character 64 = .ok (.invokevirtual 64, 3) := by decide +kernel
theorem d_B_character_67 : decode b_B_character 67 = .ok (.invokestatic 56, 3) := by decide +kernel
theorem d_B_character_70 : decode b_B_character 70 = .ok (.ifCond .ne 13, 3) := by decide +kernel
theorem d_B_character_73 : decode b_B_character 73 = .ok (.new 101, 3) := by decide +kernel
theorem d_B_character_76 : decode b_B_character 76 = .ok (.dup, 1) := by decide +kernel
theorem d_B_character_77 : decode b_B_character 77 = .ok (.ldc 171, 2) := by decide +kernel
theorem d_B_character_79 : decode b_B_character 79 = .ok (.invokespecial 105, 3) := by decide +kernel
theorem d_B_character_82 : decode b_B_character 82 = .ok (.athrow, 1) := by decide +kernel
theorem d_B_character_83 : decode b_B_character 83 = .ok (.aload_n 0, 1) := by decide +kernel
theorem d_B_character_84 : decode b_B_character 84 = .ok (.getfield 10, 3) := by decide +kernel
theorem d_B_character_87 : decode b_B_character 87 = .ok (.iload 5, 2) := by decide +kernel
theorem d_B_character_89 : decode b_B_character 89 = .ok (.iload_n 3, 1) := by decide +kernel
theorem d_B_character_90 : decode b_B_character 90 = .ok (.invokevirtual 173, 3) := by decide +kernel
theorem d_B_character_93 : decode b_B_character 93 = .ok (.ireturn, 1) := by decide +kernel
theorem d_B_order_0 : decode b_B_order 0 = .ok (.iload_n 1, 1) := by decide +kernel
theorem d_B_order_1 : decode b_B_order 1 = .ok (.bipush 8, 2) := by decide +kernel
theorem d_B_order_3 : decode b_B_order 3 = .ok (.invokestatic 56, 3) := by decide +kernel
theorem d_B_order_6 : decode b_B_order 6 = .ok (.ifCond .eq 16, 3) := by decide +kernel
theorem d_B_order_9 : decode b_B_order 9 = .ok (.iload_n 2, 1) := by decide +kernel
theorem d_B_order_10 : decode b_B_order 10 = .ok (.bipush 8, 2) := by decide +kernel
theorem d_B_order_12 : decode b_B_order 12 = .ok (.invokestatic 56, 3) := by decide +kernel
theorem d_B_order_15 : decode b_B_order 15 = .ok (.ifCond .eq 7, 3) := by decide +kernel
theorem d_B_order_18 : decode b_B_order 18 = .ok (.iconst 1, 1) := by decide +kernel
theorem d_B_order_19 : decode b_B_order 19 = .ok (.goto 4, 3) := by decide +kernel
theorem d_B_order_22 : decode b_B_order 22 = .ok (.iconst 0, 1) := by decide +kernel
theorem d_B_order_23 : decode b_B_order 23 = .ok (.invokestatic 60, 3) := by decide +kernel
theorem d_B_order_26 : decode b_B_order 26 = .ok (.aload_n 0, 1) := by decide +kernel
theorem d_B_order_27 : decode b_B_order 27 = .ok (.getfield 10, 3) := by decide +kernel
theorem d_B_order_30 : decode b_B_order 30 = .ok (.aload_n 0, 1) := by decide +kernel
theorem d_B_order_31 : decode b_B_order 31 = .ok (.getfield 16, 3) := by decide +kernel
theorem d_B_order_34 : decode b_B_order 34 = .ok (.iload_n 1, 1) := by decide +kernel
theorem d_B_order_35 : decode b_B_order 35 = .ok (.iaload, 1) := by decide +kernel
theorem d_B_order_36 : decode b_B_order 36 = .ok (.aload_n 0, 1) := by decide +kernel
theorem d_B_order_37 : decode b_B_order 37 = .ok (.getfield 16, 3) := by decide +kernel
theorem d_B_order_40 : decode b_B_order 40 = .ok (.iload_n 2, 1) := by decide +kernel
theorem d_B_order_41 : decode b_B_order 41 = .ok (.iaload, 1) := by decide +kernel
theorem d_B_order_42 : decode b_B_order 42 = .ok (.invokevirtual 176, 3) := by decide +kernel
theorem d_B_order_45 : decode b_B_order 45 = .ok (.ireturn, 1) := by decide +kernel
theorem d_B_count_0 : decode b_B_count 0 = .ok (.iload_n 1, 1) := by decide +kernel
theorem d_B_count_1 : decode b_B_count 1 = .ok (.tableswitch 51 0 3 #[31, 36, 41, 46], 31) := by decide +kernel
theorem d_B_count_32 : decode b_B_count 32 = .ok (.aload_n 0, 1) := by decide +kernel
theorem d_B_count_33 : decode b_B_count 33 = .ok (.getfield 121, 3) := by decide +kernel
theorem d_B_count_36 : decode b_B_count 36 = .ok (.ireturn, 1) := by decide +kernel
theorem d_B_count_37 : decode b_B_count 37 = .ok (.aload_n 0, 1) := by decide +kernel
theorem d_B_count_38 : decode b_B_count 38 = .ok (.getfield 127, 3) := by decide +kernel
theorem d_B_count_41 : decode b_B_count 41 = .ok (.ireturn, 1) := by decide +kernel
theorem d_B_count_42 : decode b_B_count 42 = .ok (.aload_n 0, 1) := by decide +kernel
theorem d_B_count_43 : decode b_B_count 43 = .ok (.getfield 135, 3) := by decide +kernel
theorem d_B_count_46 : decode b_B_count 46 = .ok (.ireturn, 1) := by decide +kernel
theorem d_B_count_47 : decode b_B_count 47 = .ok (.aload_n 0, 1) := by decide +kernel
theorem d_B_count_48 : decode b_B_count 48 = .ok (.getfield 109, 3) := by decide +kernel
theorem d_B_count_51 : decode b_B_count 51 = .ok (.ireturn, 1) := by decide +kernel
theorem d_B_count_52 : decode b_B_count 52 = .ok (.iconst (-1), 1) := by decide +kernel
theorem d_B_count_53 : decode b_B_count 53 = .ok (.ireturn, 1) := by decide +kernel
theorem d_B_forgetLastRun_0 : decode b_B_forgetLastRun 0 = .ok (.aload_n 0, 1) := by decide +kernel
theorem d_B_forgetLastRun_1 : decode b_B_forgetLastRun 1 = .ok (.iconst 0, 1) := by decide +kernel
theorem d_B_forgetLastRun_2 : decode b_B_forgetLastRun 2 = .ok (.putfield 121, 3) := by decide +kernel
theorem d_B_forgetLastRun_5 : decode b_B_forgetLastRun 5 = .ok (.aload_n 0, 1) := by decide +kernel
theorem d_B_forgetLastRun_6 : decode b_B_forgetLastRun 6 = .ok (.iconst 0, 1) := by decide +kernel
theorem d_B_forgetLastRun_7 : decode b_B_forgetLastRun 7 = .ok (.putfield 52, 3) := by decide +kernel
theorem d_B_forgetLastRun_10 : decode b_B_forgetLastRun 10 = .ok (.aload_n 0, 1) := by decide +kernel
theorem d_B_forgetLastRun_11 : decode b_B_forgetLastRun 11 = .ok (.iconst 0, 1) := by decide +kernel
theorem d_B_forgetLastRun_12 : decode b_B_forgetLastRun 12 = .ok (.putfield 127, 3) := by decide +kernel
theorem d_B_forgetLastRun_15 : decode b_B_forgetLastRun 15 = .ok (.aload_n 0, 1) := by decide +kernel
theorem d_B_forgetLastRun_16 : decode b_B_forgetLastRun 16 = .ok (.getfield 48, 3) := by decide +kernel
theorem d_B_forgetLastRun_19 : decode b_B_forgetLastRun 19 = .ok (.invokevirtual 179, 3) := by decide +kernel
theorem d_B_forgetLastRun_22 : decode b_B_forgetLastRun 22 = .ok (.aload_n 0, 1) := by decide +kernel
theorem d_B_forgetLastRun_23 : decode b_B_forgetLastRun 23 = .ok (.getfield 10, 3) := by decide +kernel
theorem d_B_forgetLastRun_26 : decode b_B_forgetLastRun 26 = .ok (.invokevirtual 182, 3) := by decide +kernel
theorem d_B_forgetLastRun_29 : decode b_B_forgetLastRun 29 = .ok (.iconst 0, 1) := by decide +kernel
theorem d_B_forgetLastRun_30 : decode b_B_forgetLastRun 30 = .ok (.istore_n 1, 1) := by decide +kernel
theorem d_B_forgetLastRun_31 : decode b_B_forgetLastRun 31 = .ok (.iload_n 1, 1) := by decide +kernel
theorem d_B_forgetLastRun_32 : decode b_B_forgetLastRun 32 = .ok (.bipush 8, 2) := by decide +kernel
theorem d_B_forgetLastRun_34 : decode b_B_forgetLastRun 34 = .ok (.if_icmp .ge 28, 3) := by decide +kernel
theorem d_B_forgetLastRun_37 : decode b_B_forgetLastRun 37 = .ok (.aload_n 0, 1) := by decide +kernel
theorem d_B_forgetLastRun_38 : decode b_B_forgetLastRun 38 = .ok (.getfield 16, 3) := by decide +kernel
theorem d_B_forgetLastRun_41 : decode b_B_forgetLastRun 41 = .ok (.iload_n 1, 1) := by decide +kernel
theorem d_B_forgetLastRun_42 : decode b_B_forgetLastRun 42 = .ok (.aload_n 0, 1) := by decide +kernel
theorem d_B_forgetLastRun_43 : decode b_B_forgetLastRun 43 = .ok (.getfield 10, 3) := by decide +kernel
theorem d_B_forgetLastRun_46 : decode b_B_forgetLastRun 46 = .ok (.aload_n 0, 1) := by decide +kernel
theorem d_B_forgetLastRun_47 : decode b_B_forgetLastRun 47 = .ok (.getfield 16, 3) := by decide +kernel
theorem d_B_forgetLastRun_50 : decode b_B_forgetLastRun 50 = .ok (.iload_n 1, 1) := by decide +kernel
theorem d_B_forgetLastRun_51 : decode b_B_forgetLastRun 51 = .ok (.iaload, 1) := by decide +kernel
theorem d_B_forgetLastRun_52 : decode b_B_forgetLastRun 52 = .ok (.invokevirtual 185, 3) := by decide +kernel
theorem d_B_forgetLastRun_55 : decode b_B_forgetLastRun 55 = .ok (.iastore, 1) := by decide +kernel
theorem d_B_forgetLastRun_56 : decode b_B_forgetLastRun 56 = .ok (.iinc 1 1, 3) := by decide +kernel
theorem d_B_forgetLastRun_59 : decode b_B_forgetLastRun 59 = .ok (.goto (-28), 3) := by decide +kernel
theorem d_B_forgetLastRun_62 : decode b_B_forgetLastRun 62 = .ok (.iconst 0, 1) := by decide +kernel
theorem d_B_forgetLastRun_63 : decode b_B_forgetLastRun 63 = .ok (.istore_n 1, 1) := by decide +kernel
theorem d_B_forgetLastRun_64 : decode b_B_forgetLastRun 64 = .ok (.iload_n 1, 1) := by decide +kernel
theorem d_B_forgetLastRun_65 : decode b_B_forgetLastRun 65 = .ok (.bipush 8, 2) := by decide +kernel
theorem d_B_forgetLastRun_67 : decode b_B_forgetLastRun 67 = .ok (.if_icmp .ge 28, 3) := by decide +kernel
theorem d_B_forgetLastRun_70 : decode b_B_forgetLastRun 70 = .ok (.aload_n 0, 1) := by decide +kernel
theorem d_B_forgetLastRun_71 : decode b_B_forgetLastRun 71 = .ok (.getfield 26, 3) := by decide +kernel
theorem d_B_forgetLastRun_74 : decode b_B_forgetLastRun 74 = .ok (.iload_n 1, 1) := by decide +kernel
theorem d_B_forgetLastRun_75 : decode b_B_forgetLastRun 75 = .ok (.aload_n 0, 1) := by decide +kernel
theorem d_B_forgetLastRun_76 : decode b_B_forgetLastRun 76 = .ok (.getfield 10, 3) := by decide +kernel
theorem d_B_forgetLastRun_79 : decode b_B_forgetLastRun 79 = .ok (.aload_n 0, 1) := by decide +kernel
theorem d_B_forgetLastRun_80 : decode b_B_forgetLastRun 80 = .ok (.getfield 26, 3) := by decide +kernel
theorem d_B_forgetLastRun_83 : decode b_B_forgetLastRun 83 = .ok (.iload_n 1, 1) := by decide +kernel
theorem d_B_forgetLastRun_84 : decode b_B_forgetLastRun 84 = .ok (.iaload, 1) := by decide +kernel
theorem d_B_forgetLastRun_85 : decode b_B_forgetLastRun 85 = .ok (.invokevirtual 185, 3) := by decide +kernel
theorem d_B_forgetLastRun_88 : decode b_B_forgetLastRun 88 = .ok (.iastore, 1) := by decide +kernel
theorem d_B_forgetLastRun_89 : decode b_B_forgetLastRun 89 = .ok (.iinc 1 1, 3) := by decide +kernel
theorem d_B_forgetLastRun_92 : decode b_B_forgetLastRun 92 = .ok (.goto (-28), 3) := by decide +kernel
theorem d_B_forgetLastRun_95 : decode b_B_forgetLastRun 95 = .ok (.return_, 1) := by decide +kernel
theorem d_B_requirePart_0 : decode b_B_requirePart 0 = .ok (.iload_n 1, 1) := by decide +kernel
theorem d_B_requirePart_1 : decode b_B_requirePart 1 = .ok (.bipush 8, 2) := by decide +kernel
theorem d_B_requirePart_3 : decode b_B_requirePart 3 = .ok (.invokestatic 56, 3) := by decide +kernel
theorem d_B_requirePart_6 : decode b_B_requirePart 6 = .ok (.invokestatic 60, 3) := by decide +kernel
theorem d_B_requirePart_9 : decode b_B_requirePart 9 = .ok (.iload_n 2, 1) := by decide +kernel
theorem d_B_requirePart_10 : decode b_B_requirePart 10 = .ok (.aload_n 0, 1) := by decide +kernel
theorem d_B_requirePart_11 : decode b_B_requirePart 11 = .ok (.getfield 10, 3) := by decide +kernel
theorem d_B_requirePart_14 : decode b_B_requirePart 14 = .ok (.aload_n 0, 1) := by decide +kernel
theorem d_B_requirePart_15 : decode b_B_requirePart 15 = .ok (.getfield 16, 3) := by decide +kernel
theorem d_B_requirePart_18 : decode b_B_requirePart 18 = .ok (.iload_n 1, 1) := by decide +kernel
theorem d_B_requirePart_19 : decode b_B_requirePart 19 = .ok (.iaload, 1) := by decide +kernel
theorem d_B_requirePart_20 : decode b_B_requirePart 20 = .ok (.invokevirtual 148, 3) := by decide +kernel
theorem d_B_requirePart_23 : decode b_B_requirePart 23 = .ok (.invokestatic 56, 3) := by decide +kernel
theorem d_B_requirePart_26 : decode b_B_requirePart 26 = .ok (.ifCond .ne 13, 3) := by decide +kernel
theorem d_B_requirePart_29 : decode b_B_requirePart 29 = .ok (.new 101, 3) := by decide +kernel
theorem d_B_requirePart_32 : decode b_B_requirePart 32 = .ok (.dup, 1) := by decide +kernel
theorem d_B_requirePart_33 : decode b_B_requirePart 33 = .ok (.ldc 188, 2) := by decide +kernel
theorem d_B_requirePart_35 : decode b_B_requirePart 35 = .ok (.invokespecial 105, 3) := by decide +kernel
theorem d_B_requirePart_38 : decode b_B_requirePart 38 = .ok (.athrow, 1) := by decide +kernel
theorem d_B_requirePart_39 : decode b_B_requirePart 39 = .ok (.return_, 1) := by decide +kernel
theorem d_B_require_0 : decode b_B_require 0 = .ok (.iload_n 0, 1) := by decide +kernel
theorem d_B_require_1 : decode b_B_require 1 = .ok (.ifCond .ne 13, 3) := by decide +kernel
theorem d_B_require_4 : decode b_B_require 4 = .ok (.new 190, 3) := by decide +kernel
theorem d_B_require_7 : decode b_B_require 7 = .ok (.dup, 1) := by decide +kernel
theorem d_B_require_8 : decode b_B_require 8 = .ok (.ldc 192, 2) := by decide +kernel
theorem d_B_require_10 : decode b_B_require 10 = .ok (.invokespecial 194, 3) := by decide +kernel
theorem d_B_require_13 : decode b_B_require 13 = .ok (.athrow, 1) := by decide +kernel
theorem d_B_require_14 : decode b_B_require 14 = .ok (.return_, 1) := by decide +kernel
theorem d_B_isBelow_0 : decode b_B_isBelow 0 = .ok (.iload_n 0, 1) := by decide +kernel
theorem d_B_isBelow_1 : decode b_B_isBelow 1 = .ok (.ifCond .lt 12, 3) := by decide +kernel
theorem d_B_isBelow_4 : decode b_B_isBelow 4 = .ok (.iload_n 0, 1) := by decide +kernel
theorem d_B_isBelow_5 : decode b_B_isBelow 5 = .ok (.iload_n 1, 1) := by decide +kernel
theorem d_B_isBelow_6 : decode b_B_isBelow 6 = .ok (.if_icmp .ge 7, 3) := by decide +kernel
theorem d_B_isBelow_9 : decode b_B_isBelow 9 = .ok (.iconst 1, 1) := by decide +kernel
theorem d_B_isBelow_10 : decode b_B_isBelow 10 = .ok (.goto 4, 3) := by decide +kernel
theorem d_B_isBelow_13 : decode b_B_isBelow 13 = .ok (.iconst 0, 1) := by decide +kernel
theorem d_B_isBelow_14 : decode b_B_isBelow 14 = .ok (.ireturn, 1) := by decide +kernel
