/-! decode rows of FilterBenchLaw, methods 0 to 10 (by program: wip/gen/decs.py) -/
theorem d_L_letter_0 : decode b_L_letter 0 = .ok (.aload_n 3, 1) := by decide +kernel
theorem d_L_letter_1 : decode b_L_letter 1 = .ok (.iconst 0, 1) := by decide +kernel
theorem d_L_letter_2 : decode b_L_letter 2 = .ok (.aload_n 0, 1) := by decide +kernel
theorem d_L_letter_3 : decode b_L_letter 3 = .ok (.iload_n 1, 1) := by decide +kernel
theorem d_L_letter_4 : decode b_L_letter 4 = .ok (.iload_n 2, 1) := by decide +kernel
theorem d_L_letter_5 : decode b_L_letter 5 = .ok (.invokevirtual 7, 3) := by decide +kernel
theorem d_L_letter_8 : decode b_L_letter 8 = .ok (.i2l, 1) := by decide +kernel
theorem d_L_letter_9 : decode b_L_letter 9 = .ok (.lastore, 1) := by decide +kernel
theorem d_L_letter_10 : decode b_L_letter 10 = .ok (.goto 19, 3) := by decide +kernel
theorem d_L_letter_13 : decode b_L_letter 13 = .ok (.astore 4, 2) := by decide +kernel
theorem d_L_letter_15 : decode b_L_letter 15 = .ok (.iconst 1, 1) := by decide +kernel
theorem d_L_letter_16 : decode b_L_letter 16 = .ok (.ireturn, 1) := by decide +kernel
theorem d_L_letter_17 : decode b_L_letter 17 = .ok (.astore 4, 2) := by decide +kernel
theorem d_L_letter_19 : decode b_L_letter 19 = .ok (.iconst 2, 1) := by decide +kernel
theorem d_L_letter_20 : decode b_L_letter 20 = .ok (.ireturn, 1) := by decide +kernel
theorem d_L_letter_21 : decode b_L_letter 21 = .ok (.astore 4, 2) := by decide +kernel
theorem d_L_letter_23 : decode b_L_letter 23 = .ok (.iconst 3, 1) := by decide +kernel
theorem d_L_letter_24 : decode b_L_letter 24 = .ok (.ireturn, 1) := by decide +kernel
theorem d_L_letter_25 : decode b_L_letter 25 = .ok (.astore 4, 2) := by decide +kernel
theorem d_L_letter_27 : decode b_L_letter 27 = .ok (.iconst 4, 1) := by decide +kernel
theorem d_L_letter_28 : decode b_L_letter 28 = .ok (.ireturn, 1) := by decide +kernel
theorem d_L_letter_29 : decode b_L_letter 29 = .ok (.iconst 0, 1) := by decide +kernel
theorem d_L_letter_30 : decode b_L_letter 30 = .ok (.ireturn, 1) := by decide +kernel
theorem d_L_token_0 : decode b_L_token 0 = .ok (.aload 4, 2) := by decide +kernel
theorem d_L_token_2 : decode b_L_token 2 = .ok (.iconst 0, 1) := by decide +kernel
theorem d_L_token_3 : decode b_L_token 3 = .ok (.aload_n 0, 1) := by decide +kernel
theorem d_L_token_4 : decode b_L_token 4 = .ok (.iload_n 1, 1) := by decide +kernel
theorem d_L_token_5 : decode b_L_token 5 = .ok (.iload_n 2, 1) := by decide +kernel
theorem d_L_token_6 : decode b_L_token 6 = .ok (.iload_n 3, 1) := by decide +kernel
theorem d_L_token_7 : decode b_L_token 7 = .ok (.invokevirtual 21, 3) := by decide +kernel
theorem d_L_token_10 : decode b_L_token 10 = .ok (.i2l, 1) := by decide +kernel
theorem d_L_token_11 : decode b_L_token 11 = .ok (.lastore, 1) := by decide +kernel
theorem d_L_token_12 : decode b_L_token 12 = .ok (.goto 19, 3) := by decide +kernel
theorem d_L_token_15 : decode b_L_token 15 = .ok (.astore 5, 2) := by decide +kernel
theorem d_L_token_17 : decode b_L_token 17 = .ok (.iconst 1, 1) := by decide +kernel
theorem d_L_token_18 : decode b_L_token 18 = .ok (.ireturn, 1) := by decide +kernel
theorem d_L_token_19 : decode b_L_token 19 = .ok (.astore 5, 2) := by decide +kernel
theorem d_L_token_21 : decode b_L_token 21 = .ok (.iconst 2, 1) := by decide +kernel
theorem d_L_token_22 : decode b_L_token 22 = .ok (.ireturn, 1) := by decide +kernel
theorem d_L_token_23 : decode b_L_token 23 = .ok (.astore 5, 2) := by decide +kernel
theorem d_L_token_25 : decode b_L_token 25 = .ok (.iconst 3, 1) := by decide +kernel
theorem d_L_token_26 : decode b_L_token 26 = .ok (.ireturn, 1) := by decide +kernel
theorem d_L_token_27 : decode b_L_token 27 = .ok (.astore 5, 2) := by decide +kernel
theorem d_L_token_29 : decode b_L_token 29 = .ok (.iconst 4, 1) := by decide +kernel
theorem d_L_token_30 : decode b_L_token 30 = .ok (.ireturn, 1) := by decide +kernel
theorem d_L_token_31 : decode b_L_token 31 = .ok (.iconst 0, 1) := by decide +kernel
theorem d_L_token_32 : decode b_L_token 32 = .ok (.ireturn, 1) := by decide +kernel
theorem d_L_wipe_0 : decode b_L_wipe 0 = .ok (.aload_n 3, 1) := by decide +kernel
theorem d_L_wipe_1 : decode b_L_wipe 1 = .ok (.iconst 0, 1) := by decide +kernel
theorem d_L_wipe_2 : decode b_L_wipe 2 = .ok (.aload_n 0, 1) := by decide +kernel
theorem d_L_wipe_3 : decode b_L_wipe 3 = .ok (.iload_n 1, 1) := by decide +kernel
theorem d_L_wipe_4 : decode b_L_wipe 4 = .ok (.iload_n 2, 1) := by decide +kernel
theorem d_L_wipe_5 : decode b_L_wipe 5 = .ok (.invokevirtual 25, 3) := by decide +kernel
theorem d_L_wipe_8 : decode b_L_wipe 8 = .ok (.i2l, 1) := by decide +kernel
theorem d_L_wipe_9 : decode b_L_wipe 9 = .ok (.lastore, 1) := by decide +kernel
theorem d_L_wipe_10 : decode b_L_wipe 10 = .ok (.goto 19, 3) := by decide +kernel
theorem d_L_wipe_13 : decode b_L_wipe 13 = .ok (.astore 4, 2) := by decide +kernel
theorem d_L_wipe_15 : decode b_L_wipe 15 = .ok (.iconst 1, 1) := by decide +kernel
theorem d_L_wipe_16 : decode b_L_wipe 16 = .ok (.ireturn, 1) := by decide +kernel
theorem d_L_wipe_17 : decode b_L_wipe 17 = .ok (.astore 4, 2) := by decide +kernel
theorem d_L_wipe_19 : decode b_L_wipe 19 = .ok (.iconst 2, 1) := by decide +kernel
theorem d_L_wipe_20 : decode b_L_wipe 20 = .ok (.ireturn, 1) := by decide +kernel
theorem d_L_wipe_21 : decode b_L_wipe 21 = .ok (.astore 4, 2) := by decide +kernel
theorem d_L_wipe_23 : decode b_L_wipe 23 = .ok (.iconst 3, 1) := by decide +kernel
theorem d_L_wipe_24 : decode b_L_wipe 24 = .ok (.ireturn, 1) := by decide +kernel
theorem d_L_wipe_25 : decode b_L_wipe 25 = .ok (.astore 4, 2) := by decide +kernel
theorem d_L_wipe_27 : decode b_L_wipe 27 = .ok (.iconst 4, 1) := by decide +kernel
theorem d_L_wipe_28 : decode b_L_wipe 28 = .ok (.ireturn, 1) := by decide +kernel
theorem d_L_wipe_29 : decode b_L_wipe 29 = .ok (.iconst 0, 1) := by decide +kernel
theorem d_L_wipe_30 : decode b_L_wipe 30 = .ok (.ireturn, 1) := by decide +kernel
theorem d_L_run_0 : decode b_L_run 0 = .ok (.aload_n 3, 1) := by decide +kernel
theorem d_L_run_1 : decode b_L_run 1 = .ok (.iconst 0, 1) := by decide +kernel
theorem d_L_run_2 : decode b_L_run 2 = .ok (.aload_n 0, 1) := by decide +kernel
theorem d_L_run_3 : decode b_L_run 3 = .ok (.iload_n 1, 1) := by decide +kernel
theorem d_L_run_4 : decode b_L_run 4 = .ok (.iload_n 2, 1) := by decide +kernel
theorem d_L_run_5 : decode b_L_run 5 = .ok (.invokevirtual 28, 3) := by decide +kernel
theorem d_L_run_8 : decode b_L_run 8 = .ok (.i2l, 1) := by decide +kernel
theorem d_L_run_9 : decode b_L_run 9 = .ok (.lastore, 1) := by decide +kernel
theorem d_L_run_10 : decode b_L_run 10 = .ok (.goto 19, 3) := by decide +kernel
theorem d_L_run_13 : decode b_L_run 13 = .ok (.astore 4, 2) := by decide +kernel
theorem d_L_run_15 : decode b_L_run 15 = .ok (.iconst 1, 1) := by decide +kernel
theorem d_L_run_16 : decode b_L_run 16 = .ok (.ireturn, 1) := by decide +kernel
theorem d_L_run_17 : decode b_L_run 17 = .ok (.astore 4, 2) := by decide +kernel
theorem d_L_run_19 : decode b_L_run 19 = .ok (.iconst 2, 1) := by decide +kernel
theorem d_L_run_20 : decode b_L_run 20 = .ok (.ireturn, 1) := by decide +kernel
theorem d_L_run_21 : decode b_L_run 21 = .ok (.astore 4, 2) := by decide +kernel
theorem d_L_run_23 : decode b_L_run 23 = .ok (.iconst 3, 1) := by decide +kernel
theorem d_L_run_24 : decode b_L_run 24 = .ok (.ireturn, 1) := by decide +kernel
theorem d_L_run_25 : decode b_L_run 25 = .ok (.astore 4, 2) := by decide +kernel
theorem d_L_run_27 : decode b_L_run 27 = .ok (.iconst 4, 1) := by decide +kernel
theorem d_L_run_28 : decode b_L_run 28 = .ok (.ireturn, 1) := by decide +kernel
theorem d_L_run_29 : decode b_L_run 29 = .ok (.iconst 0, 1) := by decide +kernel
theorem d_L_run_30 : decode b_L_run 30 = .ok (.ireturn, 1) := by decide +kernel
theorem d_L_keep_0 : decode b_L_keep 0 = .ok (.aload_n 3, 1) := by decide +kernel
theorem d_L_keep_1 : decode b_L_keep 1 = .ok (.iconst 0, 1) := by decide +kernel
theorem d_L_keep_2 : decode b_L_keep 2 = .ok (.aload_n 0, 1) := by decide +kernel
theorem d_L_keep_3 : decode b_L_keep 3 = .ok (.iload_n 1, 1) := by decide +kernel
theorem d_L_keep_4 : decode b_L_keep 4 = .ok (.iload_n 2, 1) := by decide +kernel
theorem d_L_keep_5 : decode b_L_keep 5 = .ok (.invokevirtual 31, 3) := by decide +kernel
theorem d_L_keep_8 : decode b_L_keep 8 = .ok (.i2l, 1) := by decide +kernel
theorem d_L_keep_9 : decode b_L_keep 9 = .ok (.lastore, 1) := by decide +kernel
theorem d_L_keep_10 : decode b_L_keep 10 = .ok (.goto 19, 3) := by decide +kernel
theorem d_L_keep_13 : decode b_L_keep 13 = .ok (.astore 4, 2) := by decide +kernel
theorem d_L_keep_15 : decode b_L_keep 15 = .ok (.iconst 1, 1) := by decide +kernel
theorem d_L_keep_16 : decode b_L_keep 16 = .ok (.ireturn, 1) := by decide +kernel
theorem d_L_keep_17 : decode b_L_keep 17 = .ok (.astore 4, 2) := by decide +kernel
theorem d_L_keep_19 : decode b_L_keep 19 = .ok (.iconst 2, 1) := by decide +kernel
theorem d_L_keep_20 : decode b_L_keep 20 = .ok (.ireturn, 1) := by decide +kernel
theorem d_L_keep_21 : decode b_L_keep 21 = .ok (.astore 4, 2) := by decide +kernel
theorem d_L_keep_23 : decode b_L_keep 23 = .ok (.iconst 3, 1) := by decide +kernel
theorem d_L_keep_24 : decode b_L_keep 24 = .ok (.ireturn, 1) := by decide +kernel
theorem d_L_keep_25 : decode b_L_keep 25 = .ok (.astore 4, 2) := by decide +kernel
theorem d_L_keep_27 : decode b_L_keep 27 = .ok (.iconst 4, 1) := by decide +kernel
theorem d_L_keep_28 : decode b_L_keep 28 = .ok (.ireturn, 1) := by decide +kernel
theorem d_L_keep_29 : decode b_L_keep 29 = .ok (.iconst 0, 1) := by decide +kernel
theorem d_L_keep_30 : decode b_L_keep 30 = .ok (.ireturn, 1) := by decide +kernel
theorem d_L_kind_0 : decode b_L_kind 0 = .ok (.aload_n 3, 1) := by decide +kernel
theorem d_L_kind_1 : decode b_L_kind 1 = .ok (.iconst 0, 1) := by decide +kernel
theorem d_L_kind_2 : decode b_L_kind 2 = .ok (.aload_n 0, 1) := by decide +kernel
theorem d_L_kind_3 : decode b_L_kind 3 = .ok (.iload_n 1, 1) := by decide +kernel
theorem d_L_kind_4 : decode b_L_kind 4 = .ok (.iload_n 2, 1) := by decide +kernel
theorem d_L_kind_5 : decode b_L_kind 5 = .ok (.invokevirtual 34, 3) := by decide +kernel
theorem d_L_kind_8 : decode b_L_kind 8 = .ok (.i2l, 1) := by decide +kernel
theorem d_L_kind_9 : decode b_L_kind 9 = .ok (.lastore, 1) := by decide +kernel
theorem d_L_kind_10 : decode b_L_kind 10 = .ok (.goto 19, 3) := by decide +kernel
theorem d_L_kind_13 : decode b_L_kind 13 = .ok (.astore 4, 2) := by decide +kernel
theorem d_L_kind_15 : decode b_L_kind 15 = .ok (.iconst 1, 1) := by decide +kernel
theorem d_L_kind_16 : decode b_L_kind 16 = .ok (.ireturn, 1) := by decide +kernel
theorem d_L_kind_17 : decode b_L_kind 17 = .ok (.astore 4, 2) := by decide +kernel
theorem d_L_kind_19 : decode b_L_kind 19 = .ok (.iconst 2, 1) := by decide +kernel
theorem d_L_kind_20 : decode b_L_kind 20 = .ok (.ireturn, 1) := by decide +kernel
theorem d_L_kind_21 : decode b_L_kind 21 = .ok (.astore 4, 2) := by decide +kernel
theorem d_L_kind_23 : decode b_L_kind 23 = .ok (.iconst 3, 1) := by decide +kernel
theorem d_L_kind_24 : decode b_L_kind 24 = .ok (.ireturn, 1) := by decide +kernel
theorem d_L_kind_25 : decode b_L_kind 25 = .ok (.astore 4, 2) := by decide +kernel
theorem d_L_kind_27 : decode b_L_kind 27 = .ok (.iconst 4, 1) := by decide +kernel
theorem d_L_kind_28 : decode b_L_kind 28 = .ok (.ireturn, 1) := by decide +kernel
theorem d_L_kind_29 : decode b_L_kind 29 = .ok (.iconst 0, 1) := by decide +kernel
theorem d_L_kind_30 : decode b_L_kind 30 = .ok (.ireturn, 1) := by decide +kernel
theorem d_L_length_0 : decode b_L_length 0 = .ok (.aload_n 3, 1) := by decide +kernel
theorem d_L_length_1 : decode b_L_length 1 = .ok (.iconst 0, 1) := by decide +kernel
theorem d_L_length_2 : decode b_L_length 2 = .ok (.aload_n 0, 1) := by decide +kernel
theorem d_L_length_3 : decode b_L_length 3 = .ok (.iload_n 1, 1) := by decide +kernel
theorem d_L_length_4 : decode b_L_length 4 = .ok (.iload_n 2, 1) := by decide +kernel
theorem d_L_length_5 : decode b_L_length 5 = .ok (.invokevirtual 37, 3) := by decide +kernel
theorem d_L_length_8 : decode b_L_length 8 = .ok (.i2l, 1) := by decide +kernel
theorem d_L_length_9 : decode b_L_length 9 = .ok (.lastore, 1) := by decide +kernel
theorem d_L_length_10 : decode b_L_length 10 = .ok (.goto 19, 3) := by decide +kernel
theorem d_L_length_13 : decode b_L_length 13 = .ok (.astore 4, 2) := by decide +kernel
theorem d_L_length_15 : decode b_L_length 15 = .ok (.iconst 1, 1) := by decide +kernel
theorem d_L_length_16 : decode b_L_length 16 = .ok (.ireturn, 1) := by decide +kernel
theorem d_L_length_17 : decode b_L_length 17 = .ok (.astore 4, 2) := by decide +kernel
theorem d_L_length_19 : decode b_L_length 19 = .ok (.iconst 2, 1) := by decide +kernel
theorem d_L_length_20 : decode b_L_length 20 = .ok (.ireturn, 1) := by decide +kernel
theorem d_L_length_21 : decode b_L_length 21 = .ok (.astore 4, 2) := by decide +kernel
theorem d_L_length_23 : decode b_L_length 23 = .ok (.iconst 3, 1) := by decide +kernel
theorem d_L_length_24 : decode b_L_length 24 = .ok (.ireturn, 1) := by decide +kernel
theorem d_L_length_25 : decode b_L_length 25 = .ok (.astore 4, 2) := by decide +kernel
theorem d_L_length_27 : decode b_L_length 27 = .ok (.iconst 4, 1) := by decide +kernel
theorem d_L_length_28 : decode b_L_length 28 = .ok (.ireturn, 1) := by decide +kernel
theorem d_L_length_29 : decode b_L_length 29 = .ok (.iconst 0, 1) := by decide +kernel
theorem d_L_length_30 : decode b_L_length 30 = .ok (.ireturn, 1) := by decide +kernel
theorem d_L_number_0 : decode b_L_number 0 = .ok (.aload 4, 2) := by decide +kernel
theorem d_L_number_2 : decode b_L_number 2 = .ok (.iconst 0, 1) := by decide +kernel
theorem d_L_number_3 : decode b_L_number 3 = .ok (.aload_n 0, 1) := by decide +kernel
theorem d_L_number_4 : decode b_L_number 4 = .ok (.iload_n 1, 1) := by decide +kernel
theorem d_L_number_5 : decode b_L_number 5 = .ok (.iload_n 2, 1) := by decide +kernel
theorem d_L_number_6 : decode b_L_number 6 = .ok (.iload_n 3, 1) := by decide +kernel
theorem d_L_number_7 : decode b_L_number 7 = .ok (.invokevirtual 40, 3) := by decide +kernel
theorem d_L_number_10 : decode b_L_number 10 = .ok (.i2l, 1) := by decide +kernel
theorem d_L_number_11 : decode b_L_number 11 = .ok (.lastore, 1) := by decide +kernel
theorem d_L_number_12 : decode b_L_number 12 = .ok (.goto 19, 3) := by decide +kernel
theorem d_L_number_15 : decode b_L_number 15 = .ok (.astore 5, 2) := by decide +kernel
theorem d_L_number_17 : decode b_L_number 17 = .ok (.iconst 1, 1) := by decide +kernel
theorem d_L_number_18 : decode b_L_number 18 = .ok (.ireturn, 1) := by decide +kernel
theorem d_L_number_19 : decode b_L_number 19 = .ok (.astore 5, 2) := by decide +kernel
theorem d_L_number_21 : decode b_L_number 21 = .ok (.iconst 2, 1) := by decide +kernel
theorem d_L_number_22 : decode b_L_number 22 = .ok (.ireturn, 1) := by decide +kernel
theorem d_L_number_23 : decode b_L_number 23 = .ok (.astore 5, 2) := by decide +kernel
theorem d_L_number_25 : decode b_L_number 25 = .ok (.iconst 3, 1) := by decide +kernel
theorem d_L_number_26 : decode b_L_number 26 = .ok (.ireturn, 1) := by decide +kernel
theorem d_L_number_27 : decode b_L_number 27 = .ok (.astore 5, 2) := by decide +kernel
theorem d_L_number_29 : decode b_L_number 29 = .ok (.iconst 4, 1) := by decide +kernel
theorem d_L_number_30 : decode b_L_number 30 = .ok (.ireturn, 1) := by decide +kernel
theorem d_L_number_31 : decode b_L_number 31 = .ok (.iconst 0, 1) := by decide +kernel
theorem d_L_number_32 : decode b_L_number 32 = .ok (.ireturn, 1) := by decide +kernel
theorem d_L_character_0 : decode b_L_character 0 = .ok (.aload 5, 2) := by decide +kernel
theorem d_L_character_2 : decode b_L_character 2 = .ok (.iconst 0, 1) := by decide +kernel
theorem d_L_character_3 : decode b_L_character 3 = .ok (.aload_n 0, 1) := by decide +kernel
theorem d_L_character_4 : decode b_L_character 4 = .ok (.iload_n 1, 1) := by decide +kernel
theorem d_L_character_5 : decode b_L_character 5 = .ok (.iload_n 2, 1) := by decide +kernel
theorem d_L_character_6 : decode b_L_character 6 = .ok (.iload_n 3, 1) := by decide +kernel
theorem d_L_character_7 : decode b_L_character 7 = .ok (.iload 4, 2) := by decide +kernel
theorem d_L_character_9 : decode b_L_character 9 = .ok (.invokevirtual 44, 3) := by decide +kernel
theorem d_L_character_12 : decode b_L_character 12 = .ok (.i2l, 1) := by decide +kernel
theorem d_L_character_13 : decode b_L_character 13 = .ok (.lastore, 1) := by decide +kernel
theorem d_L_character_14 : decode b_L_character 14 = .ok (.goto 19, 3) := by decide +kernel
theorem d_L_character_17 : decode b_L_character 17 = .ok (.astore 6, 2) := by decide +kernel
theorem d_L_character_19 : decode b_L_character 19 = .ok (.iconst 1, 1) := by decide +kernel
theorem d_L_character_20 : decode b_L_character 20 = .ok (.ireturn, 1) := by decide +kernel
theorem d_L_character_21 : decode b_L_character 21 = .ok (.astore 6, 2) := by decide +kernel
theorem d_L_character_23 : decode b_L_character 23 = .ok (.iconst 2, 1) := by decide +kernel
theorem d_L_character_24 : decode b_L_character 24 = .ok (.ireturn, 1) := by decide +kernel
theorem d_L_character_25 : decode b_L_character 25 = .ok (.astore 6, 2) := by decide +kernel
theorem d_L_character_27 : decode b_L_character 27 = .ok (.iconst 3, 1) := by decide +kernel
theorem d_L_character_28 : decode b_L_character 28 = .ok (.ireturn, 1) := by decide +kernel
theorem d_L_character_29 : decode b_L_character 29 = .ok (.astore 6, 2) := by decide +kernel
theorem d_L_character_31 : decode b_L_character 31 = .ok (.iconst 4, 1) := by decide +kernel
theorem d_L_character_32 : decode b_L_character 32 = .ok (.ireturn, 1) := by decide +kernel
theorem d_L_character_33 : decode b_L_character 33 = .ok (.iconst 0, 1) := by decide +kernel
theorem d_L_character_34 : decode b_L_character 34 = .ok (.ireturn, 1) := by decide +kernel
theorem d_L_order_0 : decode b_L_order 0 = .ok (.aload_n 3, 1) := by decide +kernel
theorem d_L_order_1 : decode b_L_order 1 = .ok (.iconst 0, 1) := by decide +kernel
theorem d_L_order_2 : decode b_L_order 2 = .ok (.aload_n 0, 1) := by decide +kernel
theorem d_L_order_3 : decode b_L_order 3 = .ok (.iload_n 1, 1) := by decide +kernel
theorem d_L_order_4 : decode b_L_order 4 = .ok (.iload_n 2, 1) := by decide +kernel
theorem d_L_order_5 : decode b_L_order 5 = .ok (.invokevirtual 48, 3) := by decide +kernel
theorem d_L_order_8 : decode b_L_order 8 = .ok (.i2l, 1) := by decide +kernel
theorem d_L_order_9 : decode b_L_order 9 = .ok (.lastore, 1) := by decide +kernel
theorem d_L_order_10 : decode b_L_order 10 = .ok (.goto 19, 3) := by decide +kernel
theorem d_L_order_13 : decode b_L_order 13 = .ok (.astore 4, 2) := by decide +kernel
theorem d_L_order_15 : decode b_L_order 15 = .ok (.iconst 1, 1) := by decide +kernel
theorem d_L_order_16 : decode b_L_order 16 = .ok (.ireturn, 1) := by decide +kernel
theorem d_L_order_17 : decode b_L_order 17 = .ok (.astore 4, 2) := by decide +kernel
theorem d_L_order_19 : decode b_L_order 19 = .ok (.iconst 2, 1) := by decide +kernel
theorem d_L_order_20 : decode b_L_order 20 = .ok (.ireturn, 1) := by decide +kernel
theorem d_L_order_21 : decode b_L_order 21 = .ok (.astore 4, 2) := by decide +kernel
theorem d_L_order_23 : decode b_L_order 23 = .ok (.iconst 3, 1) := by decide +kernel
theorem d_L_order_24 : decode b_L_order 24 = .ok (.ireturn, 1) := by decide +kernel
theorem d_L_order_25 : decode b_L_order 25 = .ok (.astore 4, 2) := by decide +kernel
theorem d_L_order_27 : decode b_L_order 27 = .ok (.iconst 4, 1) := by decide +kernel
theorem d_L_order_28 : decode b_L_order 28 = .ok (.ireturn, 1) := by decide +kernel
theorem d_L_order_29 : decode b_L_order 29 = .ok (.iconst 0, 1) := by decide +kernel
theorem d_L_order_30 : decode b_L_order 30 = .ok (.ireturn, 1) := by decide +kernel
