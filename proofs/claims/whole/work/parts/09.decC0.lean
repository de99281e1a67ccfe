/-! decode rows -/
theorem d_La_add_0 : decode b_La_add 0 = .ok (.aload 5, 2) := by decide +kernel
theorem d_La_add_2 : decode b_La_add 2 = .ok (.iconst 0, 1) := by decide +kernel
theorem d_La_add_3 : decode b_La_add 3 = .ok (.aload_n 0, 1) := by decide +kernel
theorem d_La_add_4 : decode b_La_add 4 = .ok (.iload_n 1, 1) := by decide +kernel
theorem d_La_add_5 : decode b_La_add 5 = .ok (.iload_n 2, 1) := by decide +kernel
theorem d_La_add_6 : decode b_La_add 6 = .ok (.iload_n 3, 1) := by decide +kernel
theorem d_La_add_7 : decode b_La_add 7 = .ok (.iload 4, 2) := by decide +kernel
theorem d_La_add_9 : decode b_La_add 9 = .ok (.invokevirtual 7, 3) := by decide +kernel
theorem d_La_add_12 : decode b_La_add 12 = .ok (.i2l, 1) := by decide +kernel
theorem d_La_add_13 : decode b_La_add 13 = .ok (.lastore, 1) := by decide +kernel
theorem d_La_add_14 : decode b_La_add 14 = .ok (.goto 11, 3) := by decide +kernel
theorem d_La_add_17 : decode b_La_add 17 = .ok (.astore 6, 2) := by decide +kernel
theorem d_La_add_19 : decode b_La_add 19 = .ok (.iconst 1, 1) := by decide +kernel
theorem d_La_add_20 : decode b_La_add 20 = .ok (.ireturn, 1) := by decide +kernel
theorem d_La_add_21 : decode b_La_add 21 = .ok (.astore 6, 2) := by decide +kernel
theorem d_La_add_23 : decode b_La_add 23 = .ok (.iconst 2, 1) := by decide +kernel
theorem d_La_add_24 : decode b_La_add 24 = .ok (.ireturn, 1) := by decide +kernel
theorem d_La_add_25 : decode b_La_add 25 = .ok (.iconst 0, 1) := by decide +kernel
theorem d_La_add_26 : decode b_La_add 26 = .ok (.ireturn, 1) := by decide +kernel
theorem d_La_allocate_0 : decode b_La_allocate 0 = .ok (.aload_n 2, 1) := by decide +kernel
theorem d_La_allocate_1 : decode b_La_allocate 1 = .ok (.iconst 0, 1) := by decide +kernel
theorem d_La_allocate_2 : decode b_La_allocate 2 = .ok (.aload_n 0, 1) := by decide +kernel
theorem d_La_allocate_3 : decode b_La_allocate 3 = .ok (.iload_n 1, 1) := by decide +kernel
theorem d_La_allocate_4 : decode b_La_allocate 4 = .ok (.invokevirtual 17, 3) := by decide +kernel
theorem d_La_allocate_7 : decode b_La_allocate 7 = .ok (.i2l, 1) := by decide +kernel
theorem d_La_allocate_8 : decode b_La_allocate 8 = .ok (.lastore, 1) := by decide +kernel
theorem d_La_allocate_9 : decode b_La_allocate 9 = .ok (.goto 9, 3) := by decide +kernel
theorem d_La_allocate_12 : decode b_La_allocate 12 = .ok (.astore_n 3, 1) := by decide +kernel
theorem d_La_allocate_13 : decode b_La_allocate 13 = .ok (.iconst 1, 1) := by decide +kernel
theorem d_La_allocate_14 : decode b_La_allocate 14 = .ok (.ireturn, 1) := by decide +kernel
theorem d_La_allocate_15 : decode b_La_allocate 15 = .ok (.astore_n 3, 1) := by decide +kernel
theorem d_La_allocate_16 : decode b_La_allocate 16 = .ok (.iconst 2, 1) := by decide +kernel
theorem d_La_allocate_17 : decode b_La_allocate 17 = .ok (.ireturn, 1) := by decide +kernel
theorem d_La_allocate_18 : decode b_La_allocate 18 = .ok (.iconst 0, 1) := by decide +kernel
theorem d_La_allocate_19 : decode b_La_allocate 19 = .ok (.ireturn, 1) := by decide +kernel
theorem d_La_place_0 : decode b_La_place 0 = .ok (.aload_n 2, 1) := by decide +kernel
theorem d_La_place_1 : decode b_La_place 1 = .ok (.iconst 0, 1) := by decide +kernel
theorem d_La_place_2 : decode b_La_place 2 = .ok (.aload_n 0, 1) := by decide +kernel
theorem d_La_place_3 : decode b_La_place 3 = .ok (.iload_n 1, 1) := by decide +kernel
theorem d_La_place_4 : decode b_La_place 4 = .ok (.invokevirtual 21, 3) := by decide +kernel
theorem d_La_place_7 : decode b_La_place 7 = .ok (.i2l, 1) := by decide +kernel
theorem d_La_place_8 : decode b_La_place 8 = .ok (.lastore, 1) := by decide +kernel
theorem d_La_place_9 : decode b_La_place 9 = .ok (.goto 9, 3) := by decide +kernel
theorem d_La_place_12 : decode b_La_place 12 = .ok (.astore_n 3, 1) := by decide +kernel
theorem d_La_place_13 : decode b_La_place 13 = .ok (.iconst 1, 1) := by decide +kernel
theorem d_La_place_14 : decode b_La_place 14 = .ok (.ireturn, 1) := by decide +kernel
theorem d_La_place_15 : decode b_La_place 15 = .ok (.astore_n 3, 1) := by decide +kernel
theorem d_La_place_16 : decode b_La_place 16 = .ok (.iconst 2, 1) := by decide +kernel
theorem d_La_place_17 : decode b_La_place 17 = .ok (.ireturn, 1) := by decide +kernel
theorem d_La_place_18 : decode b_La_place 18 = .ok (.iconst 0, 1) := by decide +kernel
theorem d_La_place_19 : decode b_La_place 19 = .ok (.ireturn, 1) := by decide +kernel
theorem d_La_weight_0 : decode b_La_weight 0 = .ok (.aload_n 2, 1) := by decide +kernel
theorem d_La_weight_1 : decode b_La_weight 1 = .ok (.iconst 0, 1) := by decide +kernel
theorem d_La_weight_2 : decode b_La_weight 2 = .ok (.aload_n 0, 1) := by decide +kernel
theorem d_La_weight_3 : decode b_La_weight 3 = .ok (.iload_n 1, 1) := by decide +kernel
theorem d_La_weight_4 : decode b_La_weight 4 = .ok (.invokevirtual 26, 3) := by decide +kernel
theorem d_La_weight_7 : decode b_La_weight 7 = .ok (.dastore, 1) := by decide +kernel
theorem d_La_weight_8 : decode b_La_weight 8 = .ok (.goto 6, 3) := by decide +kernel
theorem d_La_weight_11 : decode b_La_weight 11 = .ok (.astore_n 3, 1) := by decide +kernel
theorem d_La_weight_12 : decode b_La_weight 12 = .ok (.iconst 1, 1) := by decide +kernel
theorem d_La_weight_13 : decode b_La_weight 13 = .ok (.ireturn, 1) := by decide +kernel
theorem d_La_weight_14 : decode b_La_weight 14 = .ok (.iconst 0, 1) := by decide +kernel
theorem d_La_weight_15 : decode b_La_weight 15 = .ok (.ireturn, 1) := by decide +kernel
theorem d_La_told_0 : decode b_La_told 0 = .ok (.aload_n 3, 1) := by decide +kernel
theorem d_La_told_1 : decode b_La_told 1 = .ok (.iconst 0, 1) := by decide +kernel
theorem d_La_told_2 : decode b_La_told 2 = .ok (.aload_n 0, 1) := by decide +kernel
theorem d_La_told_3 : decode b_La_told 3 = .ok (.iload_n 1, 1) := by decide +kernel
theorem d_La_told_4 : decode b_La_told 4 = .ok (.iload_n 2, 1) := by decide +kernel
theorem d_La_told_5 : decode b_La_told 5 = .ok (.invokevirtual 30, 3) := by decide +kernel
theorem d_La_told_8 : decode b_La_told 8 = .ok (.i2l, 1) := by decide +kernel
theorem d_La_told_9 : decode b_La_told 9 = .ok (.lastore, 1) := by decide +kernel
theorem d_La_told_10 : decode b_La_told 10 = .ok (.goto 11, 3) := by decide +kernel
theorem d_La_told_13 : decode b_La_told 13 = .ok (.astore 4, 2) := by decide +kernel
theorem d_La_told_15 : decode b_La_told 15 = .ok (.iconst 1, 1) := by decide +kernel
theorem d_La_told_16 : decode b_La_told 16 = .ok (.ireturn, 1) := by decide +kernel
theorem d_La_told_17 : decode b_La_told 17 = .ok (.astore 4, 2) := by decide +kernel
theorem d_La_told_19 : decode b_La_told 19 = .ok (.iconst 2, 1) := by decide +kernel
theorem d_La_told_20 : decode b_La_told 20 = .ok (.ireturn, 1) := by decide +kernel
theorem d_La_told_21 : decode b_La_told 21 = .ok (.iconst 0, 1) := by decide +kernel
theorem d_La_told_22 : decode b_La_told 22 = .ok (.ireturn, 1) := by decide +kernel
theorem d_La_cost_0 : decode b_La_cost 0 = .ok (.aload_n 1, 1) := by decide +kernel
theorem d_La_cost_1 : decode b_La_cost 1 = .ok (.iconst 0, 1) := by decide +kernel
theorem d_La_cost_2 : decode b_La_cost 2 = .ok (.aload_n 0, 1) := by decide +kernel
theorem d_La_cost_3 : decode b_La_cost 3 = .ok (.invokevirtual 34, 3) := by decide +kernel
theorem d_La_cost_6 : decode b_La_cost 6 = .ok (.dastore, 1) := by decide +kernel
theorem d_La_cost_7 : decode b_La_cost 7 = .ok (.goto 6, 3) := by decide +kernel
theorem d_La_cost_10 : decode b_La_cost 10 = .ok (.astore_n 2, 1) := by decide +kernel
theorem d_La_cost_11 : decode b_La_cost 11 = .ok (.iconst 1, 1) := by decide +kernel
theorem d_La_cost_12 : decode b_La_cost 12 = .ok (.ireturn, 1) := by decide +kernel
theorem d_La_cost_13 : decode b_La_cost 13 = .ok (.iconst 0, 1) := by decide +kernel
theorem d_La_cost_14 : decode b_La_cost 14 = .ok (.ireturn, 1) := by decide +kernel
theorem d_La_run_0 : decode b_La_run 0 = .ok (.aload 5, 2) := by decide +kernel
theorem d_La_run_2 : decode b_La_run 2 = .ok (.iconst 0, 1) := by decide +kernel
theorem d_La_run_3 : decode b_La_run 3 = .ok (.aload_n 0, 1) := by decide +kernel
theorem d_La_run_4 : decode b_La_run 4 = .ok (.iload_n 1, 1) := by decide +kernel
theorem d_La_run_5 : decode b_La_run 5 = .ok (.iload_n 2, 1) := by decide +kernel
theorem d_La_run_6 : decode b_La_run 6 = .ok (.iload_n 3, 1) := by decide +kernel
theorem d_La_run_7 : decode b_La_run 7 = .ok (.iload 4, 2) := by decide +kernel
theorem d_La_run_9 : decode b_La_run 9 = .ok (.invokevirtual 38, 3) := by decide +kernel
theorem d_La_run_12 : decode b_La_run 12 = .ok (.i2l, 1) := by decide +kernel
theorem d_La_run_13 : decode b_La_run 13 = .ok (.lastore, 1) := by decide +kernel
theorem d_La_run_14 : decode b_La_run 14 = .ok (.goto 7, 3) := by decide +kernel
theorem d_La_run_17 : decode b_La_run 17 = .ok (.astore 6, 2) := by decide +kernel
theorem d_La_run_19 : decode b_La_run 19 = .ok (.iconst 1, 1) := by decide +kernel
theorem d_La_run_20 : decode b_La_run 20 = .ok (.ireturn, 1) := by decide +kernel
theorem d_La_run_21 : decode b_La_run 21 = .ok (.iconst 0, 1) := by decide +kernel
theorem d_La_run_22 : decode b_La_run 22 = .ok (.ireturn, 1) := by decide +kernel
theorem d_La_go_0 : decode b_La_go 0 = .ok (.aload 5, 2) := by decide +kernel
theorem d_La_go_2 : decode b_La_go 2 = .ok (.iconst 0, 1) := by decide +kernel
theorem d_La_go_3 : decode b_La_go 3 = .ok (.aload_n 0, 1) := by decide +kernel
theorem d_La_go_4 : decode b_La_go 4 = .ok (.iload_n 1, 1) := by decide +kernel
theorem d_La_go_5 : decode b_La_go 5 = .ok (.iload_n 2, 1) := by decide +kernel
theorem d_La_go_6 : decode b_La_go 6 = .ok (.iload_n 3, 1) := by decide +kernel
theorem d_La_go_7 : decode b_La_go 7 = .ok (.iload 4, 2) := by decide +kernel
theorem d_La_go_9 : decode b_La_go 9 = .ok (.invokevirtual 43, 3) := by decide +kernel
theorem d_La_go_12 : decode b_La_go 12 = .ok (.i2l, 1) := by decide +kernel
theorem d_La_go_13 : decode b_La_go 13 = .ok (.lastore, 1) := by decide +kernel
theorem d_La_go_14 : decode b_La_go 14 = .ok (.goto 11, 3) := by decide +kernel
theorem d_La_go_17 : decode b_La_go 17 = .ok (.astore 6, 2) := by decide +kernel
theorem d_La_go_19 : decode b_La_go 19 = .ok (.iconst 1, 1) := by decide +kernel
theorem d_La_go_20 : decode b_La_go 20 = .ok (.ireturn, 1) := by decide +kernel
theorem d_La_go_21 : decode b_La_go 21 = .ok (.astore 6, 2) := by decide +kernel
theorem d_La_go_23 : decode b_La_go 23 = .ok (.iconst 2, 1) := by decide +kernel
theorem d_La_go_24 : decode b_La_go 24 = .ok (.ireturn, 1) := by decide +kernel
theorem d_La_go_25 : decode b_La_go 25 = .ok (.iconst 0, 1) := by decide +kernel
theorem d_La_go_26 : decode b_La_go 26 = .ok (.ireturn, 1) := by decide +kernel
theorem d_La_same_0 : decode b_La_same 0 = .ok (.aload 5, 2) := by decide +kernel
theorem d_La_same_2 : decode b_La_same 2 = .ok (.iconst 0, 1) := by decide +kernel
theorem d_La_same_3 : decode b_La_same 3 = .ok (.aload_n 0, 1) := by decide +kernel
theorem d_La_same_4 : decode b_La_same 4 = .ok (.iload_n 1, 1) := by decide +kernel
theorem d_La_same_5 : decode b_La_same 5 = .ok (.iload_n 2, 1) := by decide +kernel
theorem d_La_same_6 : decode b_La_same 6 = .ok (.iload_n 3, 1) := by decide +kernel
theorem d_La_same_7 : decode b_La_same 7 = .ok (.iload 4, 2) := by decide +kernel
theorem d_La_same_9 : decode b_La_same 9 = .ok (.invokevirtual 46, 3) := by decide +kernel
theorem d_La_same_12 : decode b_La_same 12 = .ok (.ifCond .eq 7, 3) := by decide +kernel
theorem d_La_same_15 : decode b_La_same 15 = .ok (.lconst 1, 1) := by decide +kernel
theorem d_La_same_16 : decode b_La_same 16 = .ok (.goto 4, 3) := by decide +kernel
theorem d_La_same_19 : decode b_La_same 19 = .ok (.lconst 0, 1) := by decide +kernel
theorem d_La_same_20 : decode b_La_same 20 = .ok (.lastore, 1) := by decide +kernel
theorem d_La_same_21 : decode b_La_same 21 = .ok (.goto 7, 3) := by decide +kernel
theorem d_La_same_24 : decode b_La_same 24 = .ok (.astore 6, 2) := by decide +kernel
theorem d_La_same_26 : decode b_La_same 26 = .ok (.iconst 1, 1) := by decide +kernel
theorem d_La_same_27 : decode b_La_same 27 = .ok (.ireturn, 1) := by decide +kernel
theorem d_La_same_28 : decode b_La_same 28 = .ok (.iconst 0, 1) := by decide +kernel
theorem d_La_same_29 : decode b_La_same 29 = .ok (.ireturn, 1) := by decide +kernel
theorem d_La_said_0 : decode b_La_said 0 = .ok (.aload_n 2, 1) := by decide +kernel
theorem d_La_said_1 : decode b_La_said 1 = .ok (.iconst 0, 1) := by decide +kernel
theorem d_La_said_2 : decode b_La_said 2 = .ok (.aload_n 0, 1) := by decide +kernel
theorem d_La_said_3 : decode b_La_said 3 = .ok (.iload_n 1, 1) := by decide +kernel
theorem d_La_said_4 : decode b_La_said 4 = .ok (.invokevirtual 50, 3) := by decide +kernel
theorem d_La_said_7 : decode b_La_said 7 = .ok (.i2l, 1) := by decide +kernel
theorem d_La_said_8 : decode b_La_said 8 = .ok (.lastore, 1) := by decide +kernel
theorem d_La_said_9 : decode b_La_said 9 = .ok (.goto 6, 3) := by decide +kernel
theorem d_La_said_12 : decode b_La_said 12 = .ok (.astore_n 3, 1) := by decide +kernel
theorem d_La_said_13 : decode b_La_said 13 = .ok (.iconst 1, 1) := by decide +kernel
theorem d_La_said_14 : decode b_La_said 14 = .ok (.ireturn, 1) := by decide +kernel
theorem d_La_said_15 : decode b_La_said 15 = .ok (.iconst 0, 1) := by decide +kernel
theorem d_La_said_16 : decode b_La_said 16 = .ok (.ireturn, 1) := by decide +kernel
theorem d_La_count_0 : decode b_La_count 0 = .ok (.aload_n 2, 1) := by decide +kernel
theorem d_La_count_1 : decode b_La_count 1 = .ok (.iconst 0, 1) := by decide +kernel
theorem d_La_count_2 : decode b_La_count 2 = .ok (.aload_n 0, 1) := by decide +kernel
theorem d_La_count_3 : decode b_La_count 3 = .ok (.iload_n 1, 1) := by decide +kernel
theorem d_La_count_4 : decode b_La_count 4 = .ok (.invokevirtual 53, 3) := by decide +kernel
theorem d_La_count_7 : decode b_La_count 7 = .ok (.i2l, 1) := by decide +kernel
theorem d_La_count_8 : decode b_La_count 8 = .ok (.lastore, 1) := by decide +kernel
theorem d_La_count_9 : decode b_La_count 9 = .ok (.goto 6, 3) := by decide +kernel
theorem d_La_count_12 : decode b_La_count 12 = .ok (.astore_n 3, 1) := by decide +kernel
theorem d_La_count_13 : decode b_La_count 13 = .ok (.iconst 1, 1) := by decide +kernel
theorem d_La_count_14 : decode b_La_count 14 = .ok (.ireturn, 1) := by decide +kernel
theorem d_La_count_15 : decode b_La_count 15 = .ok (.iconst 0, 1) := by decide +kernel
theorem d_La_count_16 : decode b_La_count 16 = .ok (.ireturn, 1) := by decide +kernel
theorem d_La_law_0 : decode b_La_law 0 = .ok (.new 8, 3) := by decide +kernel
theorem d_La_law_3 : decode b_La_law 3 = .ok (.dup, 1) := by decide +kernel
theorem d_La_law_4 : decode b_La_law 4 = .ok (.invokespecial 56, 3) := by decide +kernel
theorem d_La_law_7 : decode b_La_law 7 = .ok (.astore_n 1, 1) := by decide +kernel
theorem d_La_law_8 : decode b_La_law 8 = .ok (.new 57, 3) := by decide +kernel
theorem d_La_law_11 : decode b_La_law 11 = .ok (.dup, 1) := by decide +kernel
theorem d_La_law_12 : decode b_La_law 12 = .ok (.invokespecial 59, 3) := by decide +kernel
theorem d_La_law_15 : decode b_La_law 15 = .ok (.astore_n 2, 1) := by decide +kernel
theorem d_La_law_16 : decode b_La_law 16 = .ok (.iconst 1, 1) := by decide +kernel
theorem d_La_law_17 : decode b_La_law 17 = .ok (.newarray .long, 2) := by decide +kernel
theorem d_La_law_19 : decode b_La_law 19 = .ok (.astore_n 3, 1) := by decide +kernel
theorem d_La_law_20 : decode b_La_law 20 = .ok (.iconst 1, 1) := by decide +kernel
theorem d_La_law_21 : decode b_La_law 21 = .ok (.newarray .double, 2) := by decide +kernel
theorem d_La_law_23 : decode b_La_law 23 = .ok (.astore 4, 2) := by decide +kernel
theorem d_La_law_25 : decode b_La_law 25 = .ok (.iconst 0, 1) := by decide +kernel
theorem d_La_law_26 : decode b_La_law 26 = .ok (.istore 5, 2) := by decide +kernel
theorem d_La_law_28 : decode b_La_law 28 = .ok (.iload 5, 2) := by decide +kernel
theorem d_La_law_30 : decode b_La_law 30 = .ok (.aload_n 0, 1) := by decide +kernel
theorem d_La_law_31 : decode b_La_law 31 = .ok (.arraylength, 1) := by decide +kernel
theorem d_La_law_32 : decode b_La_law 32 = .ok (.iconst 5, 1) := by decide +kernel
theorem d_La_law_33 : decode b_La_law 33 = .ok (.isub, 1) := by decide +kernel
theorem d_La_law_34 : decode b_La_law 34 = .ok (.if_icmp .gt 902, 3) := by decide +kernel
theorem d_La_law_37 : decode b_La_law 37 = .ok (.aload_n 0, 1) := by decide +kernel
theorem d_La_law_38 : decode b_La_law 38 = .ok (.iload 5, 2) := by decide +kernel
theorem d_La_law_40 : decode b_La_law 40 = .ok (.iaload, 1) := by decide +kernel
theorem d_La_law_41 : decode b_La_law 41 = .ok (.bipush 15, 2) := by decide +kernel
theorem d_La_law_43 : decode b_La_law 43 = .ok (.iand, 1) := by decide +kernel
theorem d_La_law_44 : decode b_La_law 44 = .ok (.tableswitch 886 0 11 #[64, 156, 169, 225, 281, 358, 426, 491, 583, 675, 774, 830], 64) := by decide +kernel
theorem d_La_law_108 : decode b_La_law 108 = .ok (.aload_n 1, 1) := by decide +kernel
