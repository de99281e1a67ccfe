/-! decode rows -/
theorem d_AF_init_0 : decode b_AF_init 0 = .ok (.aload_n 0, 1) := by decide +kernel
theorem d_AF_init_1 : decode b_AF_init 1 = .ok (.invokespecial 1, 3) := by decide +kernel
theorem d_AF_init_4 : decode b_AF_init 4 = .ok (.aload_n 0, 1) := by decide +kernel
theorem d_AF_init_5 : decode b_AF_init 5 = .ok (.new 7, 3) := by decide +kernel
theorem d_AF_init_8 : decode b_AF_init 8 = .ok (.dup, 1) := by decide +kernel
theorem d_AF_init_9 : decode b_AF_init 9 = .ok (.invokespecial 9, 3) := by decide +kernel
theorem d_AF_init_12 : decode b_AF_init 12 = .ok (.putfield 10, 3) := by decide +kernel
theorem d_AF_init_15 : decode b_AF_init 15 = .ok (.aload_n 0, 1) := by decide +kernel
theorem d_AF_init_16 : decode b_AF_init 16 = .ok (.bipush 24, 2) := by decide +kernel
theorem d_AF_init_18 : decode b_AF_init 18 = .ok (.newarray .int, 2) := by decide +kernel
theorem d_AF_init_20 : decode b_AF_init 20 = .ok (.putfield 16, 3) := by decide +kernel
theorem d_AF_init_23 : decode b_AF_init 23 = .ok (.iconst 0, 1) := by decide +kernel
theorem d_AF_init_24 : decode b_AF_init 24 = .ok (.istore_n 1, 1) := by decide +kernel
theorem d_AF_init_25 : decode b_AF_init 25 = .ok (.iload_n 1, 1) := by decide +kernel
theorem d_AF_init_26 : decode b_AF_init 26 = .ok (.bipush 24, 2) := by decide +kernel
theorem d_AF_init_28 : decode b_AF_init 28 = .ok (.if_icmp .ge 16, 3) := by decide +kernel
theorem d_AF_init_31 : decode b_AF_init 31 = .ok (.aload_n 0, 1) := by decide +kernel
theorem d_AF_init_32 : decode b_AF_init 32 = .ok (.getfield 16, 3) := by decide +kernel
theorem d_AF_init_35 : decode b_AF_init 35 = .ok (.iload_n 1, 1) := by decide +kernel
theorem d_AF_init_36 : decode b_AF_init 36 = .ok (.iload_n 1, 1) := by decide +kernel
theorem d_AF_init_37 : decode b_AF_init 37 = .ok (.iastore, 1) := by decide +kernel
theorem d_AF_init_38 : decode b_AF_init 38 = .ok (.iinc 1 1, 3) := by decide +kernel
theorem d_AF_init_41 : decode b_AF_init 41 = .ok (.goto (-16), 3) := by decide +kernel
theorem d_AF_init_44 : decode b_AF_init 44 = .ok (.aload_n 0, 1) := by decide +kernel
theorem d_AF_init_45 : decode b_AF_init 45 = .ok (.new 20, 3) := by decide +kernel
theorem d_AF_init_48 : decode b_AF_init 48 = .ok (.dup, 1) := by decide +kernel
theorem d_AF_init_49 : decode b_AF_init 49 = .ok (.invokespecial 22, 3) := by decide +kernel
theorem d_AF_init_52 : decode b_AF_init 52 = .ok (.putfield 23, 3) := by decide +kernel
theorem d_AF_init_55 : decode b_AF_init 55 = .ok (.aload_n 0, 1) := by decide +kernel
theorem d_AF_init_56 : decode b_AF_init 56 = .ok (.new 20, 3) := by decide +kernel
theorem d_AF_init_59 : decode b_AF_init 59 = .ok (.dup, 1) := by decide +kernel
theorem d_AF_init_60 : decode b_AF_init 60 = .ok (.invokespecial 22, 3) := by decide +kernel
theorem d_AF_init_63 : decode b_AF_init 63 = .ok (.putfield 27, 3) := by decide +kernel
theorem d_AF_init_66 : decode b_AF_init 66 = .ok (.aload_n 0, 1) := by decide +kernel
theorem d_AF_init_67 : decode b_AF_init 67 = .ok (.aload_n 0, 1) := by decide +kernel
theorem d_AF_init_68 : decode b_AF_init 68 = .ok (.getfield 23, 3) := by decide +kernel
theorem d_AF_init_71 : decode b_AF_init 71 = .ok (.putfield 30, 3) := by decide +kernel
theorem d_AF_init_74 : decode b_AF_init 74 = .ok (.aload_n 0, 1) := by decide +kernel
theorem d_AF_init_75 : decode b_AF_init 75 = .ok (.new 33, 3) := by decide +kernel
theorem d_AF_init_78 : decode b_AF_init 78 = .ok (.dup, 1) := by decide +kernel
theorem d_AF_init_79 : decode b_AF_init 79 = .ok (.invokespecial 35, 3) := by decide +kernel
theorem d_AF_init_82 : decode b_AF_init 82 = .ok (.putfield 36, 3) := by decide +kernel
theorem d_AF_init_85 : decode b_AF_init 85 = .ok (.aload_n 0, 1) := by decide +kernel
theorem d_AF_init_86 : decode b_AF_init 86 = .ok (.new 33, 3) := by decide +kernel
theorem d_AF_init_89 : decode b_AF_init 89 = .ok (.dup, 1) := by decide +kernel
theorem d_AF_init_90 : decode b_AF_init 90 = .ok (.invokespecial 35, 3) := by decide +kernel
theorem d_AF_init_93 : decode b_AF_init 93 = .ok (.putfield 40, 3) := by decide +kernel
theorem d_AF_init_96 : decode b_AF_init 96 = .ok (.return_, 1) := by decide +kernel
theorem d_AF_clear_0 : decode b_AF_clear 0 = .ok (.aload_n 0, 1) := by decide +kernel
theorem d_AF_clear_1 : decode b_AF_clear 1 = .ok (.getfield 10, 3) := by decide +kernel
theorem d_AF_clear_4 : decode b_AF_clear 4 = .ok (.invokevirtual 54, 3) := by decide +kernel
theorem d_AF_clear_7 : decode b_AF_clear 7 = .ok (.istore_n 1, 1) := by decide +kernel
theorem d_AF_clear_8 : decode b_AF_clear 8 = .ok (.aload_n 0, 1) := by decide +kernel
theorem d_AF_clear_9 : decode b_AF_clear 9 = .ok (.getfield 10, 3) := by decide +kernel
theorem d_AF_clear_12 : decode b_AF_clear 12 = .ok (.invokevirtual 70, 3) := by decide +kernel
theorem d_AF_clear_15 : decode b_AF_clear 15 = .ok (.aload_n 0, 1) := by decide +kernel
theorem d_AF_clear_16 : decode b_AF_clear 16 = .ok (.getfield 36, 3) := by decide +kernel
theorem d_AF_clear_19 : decode b_AF_clear 19 = .ok (.invokevirtual 67, 3) := by decide +kernel
theorem d_AF_clear_22 : decode b_AF_clear 22 = .ok (.iload_n 1, 1) := by decide +kernel
theorem d_AF_clear_23 : decode b_AF_clear 23 = .ok (.ireturn, 1) := by decide +kernel
theorem d_AF_add_0 : decode b_AF_add 0 = .ok (.aload_n 0, 1) := by decide +kernel
theorem d_AF_add_1 : decode b_AF_add 1 = .ok (.getfield 10, 3) := by decide +kernel
theorem d_AF_add_4 : decode b_AF_add 4 = .ok (.iload_n 1, 1) := by decide +kernel
theorem d_AF_add_5 : decode b_AF_add 5 = .ok (.iload_n 2, 1) := by decide +kernel
theorem d_AF_add_6 : decode b_AF_add 6 = .ok (.iload_n 3, 1) := by decide +kernel
theorem d_AF_add_7 : decode b_AF_add 7 = .ok (.iload 4, 2) := by decide +kernel
theorem d_AF_add_9 : decode b_AF_add 9 = .ok (.invokevirtual 43, 3) := by decide +kernel
theorem d_AF_add_12 : decode b_AF_add 12 = .ok (.ifCond .ne 13, 3) := by decide +kernel
theorem d_AF_add_15 : decode b_AF_add 15 = .ok (.new 47, 3) := by decide +kernel
theorem d_AF_add_18 : decode b_AF_add 18 = .ok (.dup, 1) := by decide +kernel
theorem d_AF_add_19 : decode b_AF_add 19 = .ok (.ldc 49, 2) := by decide +kernel
theorem d_AF_add_21 : decode b_AF_add 21 = .ok (.invokespecial 51, 3) := by decide +kernel
theorem d_AF_add_24 : decode b_AF_add 24 = .ok (.athrow, 1) := by decide +kernel
theorem d_AF_add_25 : decode b_AF_add 25 = .ok (.aload_n 0, 1) := by decide +kernel
theorem d_AF_add_26 : decode b_AF_add 26 = .ok (.getfield 10, 3) := by decide +kernel
theorem d_AF_add_29 : decode b_AF_add 29 = .ok (.invokevirtual 54, 3) := by decide +kernel
theorem d_AF_add_32 : decode b_AF_add 32 = .ok (.bipush 24, 2) := by decide +kernel
theorem d_AF_add_34 : decode b_AF_add 34 = .ok (.if_icmp .lt 13, 3) := by decide +kernel
theorem d_AF_add_37 : decode b_AF_add 37 = .ok (.new 58, 3) := by decide +kernel
theorem d_AF_add_40 : decode b_AF_add 40 = .ok (.dup, 1) := by decide +kernel
theorem d_AF_add_41 : decode b_AF_add 41 = .ok (.ldc 60, 2) := by decide +kernel
theorem d_AF_add_43 : decode b_AF_add 43 = .ok (.invokespecial 62, 3) := by decide +kernel
theorem d_AF_add_46 : decode b_AF_add 46 = .ok (.athrow, 1) := by decide +kernel
theorem d_AF_add_47 : decode b_AF_add 47 = .ok (.aload_n 0, 1) := by decide +kernel
theorem d_AF_add_48 : decode b_AF_add 48 = .ok (.getfield 10, 3) := by decide +kernel
theorem d_AF_add_51 : decode b_AF_add 51 = .ok (.iload_n 1, 1) := by decide +kernel
theorem d_AF_add_52 : decode b_AF_add 52 = .ok (.iload_n 2, 1) := by decide +kernel
theorem d_AF_add_53 : decode b_AF_add 53 = .ok (.iload_n 3, 1) := by decide +kernel
theorem d_AF_add_54 : decode b_AF_add 54 = .ok (.iload 4, 2) := by decide +kernel
theorem d_AF_add_56 : decode b_AF_add 56 = .ok (.invokevirtual 63, 3) := by decide +kernel
theorem d_AF_add_59 : decode b_AF_add 59 = .ok (.aload_n 0, 1) := by decide +kernel
theorem d_AF_add_60 : decode b_AF_add 60 = .ok (.getfield 36, 3) := by decide +kernel
theorem d_AF_add_63 : decode b_AF_add 63 = .ok (.invokevirtual 67, 3) := by decide +kernel
theorem d_AF_add_66 : decode b_AF_add 66 = .ok (.aload_n 0, 1) := by decide +kernel
theorem d_AF_add_67 : decode b_AF_add 67 = .ok (.getfield 10, 3) := by decide +kernel
theorem d_AF_add_70 : decode b_AF_add 70 = .ok (.invokevirtual 54, 3) := by decide +kernel
theorem d_AF_add_73 : decode b_AF_add 73 = .ok (.ireturn, 1) := by decide +kernel
theorem d_AF_allocate_0 : decode b_AF_allocate 0 = .ok (.iload_n 1, 1) := by decide +kernel
theorem d_AF_allocate_1 : decode b_AF_allocate 1 = .ok (.iconst 1, 1) := by decide +kernel
theorem d_AF_allocate_2 : decode b_AF_allocate 2 = .ok (.if_icmp .lt 8, 3) := by decide +kernel
theorem d_AF_allocate_5 : decode b_AF_allocate 5 = .ok (.iload_n 1, 1) := by decide +kernel
theorem d_AF_allocate_6 : decode b_AF_allocate 6 = .ok (.iconst 5, 1) := by decide +kernel
theorem d_AF_allocate_7 : decode b_AF_allocate 7 = .ok (.if_icmp .le 13, 3) := by decide +kernel
theorem d_AF_allocate_10 : decode b_AF_allocate 10 = .ok (.new 47, 3) := by decide +kernel
theorem d_AF_allocate_13 : decode b_AF_allocate 13 = .ok (.dup, 1) := by decide +kernel
theorem d_AF_allocate_14 : decode b_AF_allocate 14 = .ok (.ldc 73, 2) := by decide +kernel
theorem d_AF_allocate_16 : decode b_AF_allocate 16 = .ok (.invokespecial 51, 3) := by decide +kernel
theorem d_AF_allocate_19 : decode b_AF_allocate 19 = .ok (.athrow, 1) := by decide +kernel
theorem d_AF_allocate_20 : decode b_AF_allocate 20 = .ok (.aload_n 0, 1) := by decide +kernel
theorem d_AF_allocate_21 : decode b_AF_allocate 21 = .ok (.getfield 40, 3) := by decide +kernel
theorem d_AF_allocate_24 : decode b_AF_allocate 24 = .ok (.aload_n 0, 1) := by decide +kernel
theorem d_AF_allocate_25 : decode b_AF_allocate 25 = .ok (.getfield 10, 3) := by decide +kernel
theorem d_AF_allocate_28 : decode b_AF_allocate 28 = .ok (.iload_n 1, 1) := by decide +kernel
theorem d_AF_allocate_29 : decode b_AF_allocate 29 = .ok (.invokevirtual 75, 3) := by decide +kernel
theorem d_AF_allocate_32 : decode b_AF_allocate 32 = .ok (.ifCond .ne 13, 3) := by decide +kernel
theorem d_AF_allocate_35 : decode b_AF_allocate 35 = .ok (.new 58, 3) := by decide +kernel
theorem d_AF_allocate_38 : decode b_AF_allocate 38 = .ok (.dup, 1) := by decide +kernel
theorem d_AF_allocate_39 : decode b_AF_allocate 39 = .ok (.ldc 79, 2) := by decide +kernel
theorem d_AF_allocate_41 : decode b_AF_allocate 41 = .ok (.invokespecial 62, 3) := by decide +kernel
theorem d_AF_allocate_44 : decode b_AF_allocate 44 = .ok (.athrow, 1) := by decide +kernel
theorem d_AF_allocate_45 : decode b_AF_allocate 45 = .ok (.aload_n 0, 1) := by decide +kernel
theorem d_AF_allocate_46 : decode b_AF_allocate 46 = .ok (.getfield 36, 3) := by decide +kernel
theorem d_AF_allocate_49 : decode b_AF_allocate 49 = .ok (.astore_n 2, 1) := by decide +kernel
theorem d_AF_allocate_50 : decode b_AF_allocate 50 = .ok (.aload_n 0, 1) := by decide +kernel
theorem d_AF_allocate_51 : decode b_AF_allocate 51 = .ok (.aload_n 0, 1) := by decide +kernel
theorem d_AF_allocate_52 : decode b_AF_allocate 52 = .ok (.getfield 40, 3) := by decide +kernel
theorem d_AF_allocate_55 : decode b_AF_allocate 55 = .ok (.putfield 36, 3) := by decide +kernel
theorem d_AF_allocate_58 : decode b_AF_allocate 58 = .ok (.aload_n 0, 1) := by decide +kernel
theorem d_AF_allocate_59 : decode b_AF_allocate 59 = .ok (.aload_n 2, 1) := by decide +kernel
theorem d_AF_allocate_60 : decode b_AF_allocate 60 = .ok (.putfield 40, 3) := by decide +kernel
theorem d_AF_allocate_63 : decode b_AF_allocate 63 = .ok (.aload_n 0, 1) := by decide +kernel
theorem d_AF_allocate_64 : decode b_AF_allocate 64 = .ok (.getfield 36, 3) := by decide +kernel
theorem d_AF_allocate_67 : decode b_AF_allocate 67 = .ok (.invokevirtual 81, 3) := by decide +kernel
theorem d_AF_allocate_70 : decode b_AF_allocate 70 = .ok (.ireturn, 1) := by decide +kernel
theorem d_AF_place_0 : decode b_AF_place 0 = .ok (.aload_n 0, 1) := by decide +kernel
theorem d_AF_place_1 : decode b_AF_place 1 = .ok (.iload_n 1, 1) := by decide +kernel
theorem d_AF_place_2 : decode b_AF_place 2 = .ok (.invokevirtual 84, 3) := by decide +kernel
theorem d_AF_place_5 : decode b_AF_place 5 = .ok (.aload_n 0, 1) := by decide +kernel
theorem d_AF_place_6 : decode b_AF_place 6 = .ok (.invokevirtual 88, 3) := by decide +kernel
theorem d_AF_place_9 : decode b_AF_place 9 = .ok (.aload_n 0, 1) := by decide +kernel
theorem d_AF_place_10 : decode b_AF_place 10 = .ok (.getfield 36, 3) := by decide +kernel
theorem d_AF_place_13 : decode b_AF_place 13 = .ok (.iload_n 1, 1) := by decide +kernel
theorem d_AF_place_14 : decode b_AF_place 14 = .ok (.invokevirtual 91, 3) := by decide +kernel
theorem d_AF_place_17 : decode b_AF_place 17 = .ok (.ireturn, 1) := by decide +kernel
theorem d_AF_requireValue_0 : decode b_AF_requireValue 0 = .ok (.aload_n 0, 1) := by decide +kernel
theorem d_AF_requireValue_1 : decode b_AF_requireValue 1 = .ok (.getfield 10, 3) := by decide +kernel
theorem d_AF_requireValue_4 : decode b_AF_requireValue 4 = .ok (.iload_n 1, 1) := by decide +kernel
theorem d_AF_requireValue_5 : decode b_AF_requireValue 5 = .ok (.invokevirtual 163, 3) := by decide +kernel
theorem d_AF_requireValue_8 : decode b_AF_requireValue 8 = .ok (.ifCond .ne 13, 3) := by decide +kernel
theorem d_AF_requireValue_11 : decode b_AF_requireValue 11 = .ok (.new 135, 3) := by decide +kernel
theorem d_AF_requireValue_14 : decode b_AF_requireValue 14 = .ok (.dup, 1) := by decide +kernel
theorem d_AF_requireValue_15 : decode b_AF_requireValue 15 = .ok (.ldc 166, 2) := by decide +kernel
theorem d_AF_requireValue_17 : decode b_AF_requireValue 17 = .ok (.invokespecial 139, 3) := by decide +kernel
theorem d_AF_requireValue_20 : decode b_AF_requireValue 20 = .ok (.athrow, 1) := by decide +kernel
theorem d_AF_requireValue_21 : decode b_AF_requireValue 21 = .ok (.return_, 1) := by decide +kernel
theorem d_AF_requireAllocated_0 : decode b_AF_requireAllocated 0 = .ok (.aload_n 0, 1) := by decide +kernel
theorem d_AF_requireAllocated_1 : decode b_AF_requireAllocated 1 = .ok (.getfield 36, 3) := by decide +kernel
theorem d_AF_requireAllocated_4 : decode b_AF_requireAllocated 4 = .ok (.invokevirtual 158, 3) := by decide +kernel
theorem d_AF_requireAllocated_7 : decode b_AF_requireAllocated 7 = .ok (.ifCond .ne 13, 3) := by decide +kernel
theorem d_AF_requireAllocated_10 : decode b_AF_requireAllocated 10 = .ok (.new 58, 3) := by decide +kernel
theorem d_AF_requireAllocated_13 : decode b_AF_requireAllocated 13 = .ok (.dup, 1) := by decide +kernel
theorem d_AF_requireAllocated_14 : decode b_AF_requireAllocated 14 = .ok (.ldc 168, 2) := by decide +kernel
theorem d_AF_requireAllocated_16 : decode b_AF_requireAllocated 16 = .ok (.invokespecial 62, 3) := by decide +kernel
theorem d_AF_requireAllocated_19 : decode b_AF_requireAllocated 19 = .ok (.athrow, 1) := by decide +kernel
theorem d_AF_requireAllocated_20 : decode b_AF_requireAllocated 20 = .ok (.return_, 1) := by decide +kernel
theorem d_AF_weight_0 : decode b_AF_weight 0 = .ok (.aload_n 0, 1) := by decide +kernel
theorem d_AF_weight_1 : decode b_AF_weight 1 = .ok (.iload_n 1, 1) := by decide +kernel
theorem d_AF_weight_2 : decode b_AF_weight 2 = .ok (.invokevirtual 84, 3) := by decide +kernel
theorem d_AF_weight_5 : decode b_AF_weight 5 = .ok (.aload_n 0, 1) := by decide +kernel
theorem d_AF_weight_6 : decode b_AF_weight 6 = .ok (.getfield 10, 3) := by decide +kernel
theorem d_AF_weight_9 : decode b_AF_weight 9 = .ok (.iload_n 1, 1) := by decide +kernel
theorem d_AF_weight_10 : decode b_AF_weight 10 = .ok (.invokevirtual 95, 3) := by decide +kernel
theorem d_AF_weight_13 : decode b_AF_weight 13 = .ok (.dreturn, 1) := by decide +kernel
theorem d_AF_told_0 : decode b_AF_told 0 = .ok (.iload_n 2, 1) := by decide +kernel
theorem d_AF_told_1 : decode b_AF_told 1 = .ok (.ifCond .lt 8, 3) := by decide +kernel
theorem d_AF_told_4 : decode b_AF_told 4 = .ok (.iload_n 2, 1) := by decide +kernel
theorem d_AF_told_5 : decode b_AF_told 5 = .ok (.iconst 3, 1) := by decide +kernel
theorem d_AF_told_6 : decode b_AF_told 6 = .ok (.if_icmp .le 13, 3) := by decide +kernel
theorem d_AF_told_9 : decode b_AF_told 9 = .ok (.new 47, 3) := by decide +kernel
theorem d_AF_told_12 : decode b_AF_told 12 = .ok (.dup, 1) := by decide +kernel
theorem d_AF_told_13 : decode b_AF_told 13 = .ok (.ldc 99, 2) := by decide +kernel
theorem d_AF_told_15 : decode b_AF_told 15 = .ok (.invokespecial 51, 3) := by decide +kernel
theorem d_AF_told_18 : decode b_AF_told 18 = .ok (.athrow, 1) := by decide +kernel
theorem d_AF_told_19 : decode b_AF_told 19 = .ok (.aload_n 0, 1) := by decide +kernel
theorem d_AF_told_20 : decode b_AF_told 20 = .ok (.iload_n 1, 1) := by decide +kernel
theorem d_AF_told_21 : decode b_AF_told 21 = .ok (.invokevirtual 84, 3) := by decide +kernel
theorem d_AF_told_24 : decode b_AF_told 24 = .ok (.iload_n 2, 1) := by decide +kernel
theorem d_AF_told_25 : decode b_AF_told 25 = .ok (.tableswitch 62 0 2 #[27, 36, 45], 27) := by decide +kernel
theorem d_AF_told_52 : decode b_AF_told 52 = .ok (.aload_n 0, 1) := by decide +kernel
theorem d_AF_told_53 : decode b_AF_told 53 = .ok (.getfield 10, 3) := by decide +kernel
theorem d_AF_told_56 : decode b_AF_told 56 = .ok (.iload_n 1, 1) := by decide +kernel
theorem d_AF_told_57 : decode b_AF_told 57 = .ok (.invokevirtual 101, 3) := by decide +kernel
theorem d_AF_told_60 : decode b_AF_told 60 = .ok (.ireturn, 1) := by decide +kernel
theorem d_AF_told_61 : decode b_AF_told 61 = .ok (.aload_n 0, 1) := by decide +kernel
theorem d_AF_told_62 : decode b_AF_told 62 = .ok (.getfield 10, 3) := by decide +kernel
theorem d_AF_told_65 : decode b_AF_told 65 = .ok (.iload_n 1, 1) := by decide +kernel
theorem d_AF_told_66 : decode b_AF_told 66 = .ok (.invokevirtual 104, 3) := by decide +kernel
theorem d_AF_told_69 : decode b_AF_told 69 = .ok (.ireturn, 1) := by decide +kernel
theorem d_AF_told_70 : decode b_AF_told 70 = .ok (.aload_n 0, 1) := by decide +kernel
theorem d_AF_told_71 : decode b_AF_told 71 = .ok (.getfield 10, 3) := by decide +kernel
theorem d_AF_told_74 : decode b_AF_told 74 = .ok (.iload_n 1, 1) := by decide +kernel
theorem d_AF_told_75 : decode b_AF_told 75 = .ok (.invokevirtual 107, 3) := by decide +kernel
theorem d_AF_told_78 : decode b_AF_told 78 = .ok (.ifCond .eq 7, 3) := by decide +kernel
theorem d_AF_told_81 : decode b_AF_told 81 = .ok (.iconst 1, 1) := by decide +kernel
theorem d_AF_told_82 : decode b_AF_told 82 = .ok (.goto 4, 3) := by decide +kernel
theorem d_AF_told_85 : decode b_AF_told 85 = .ok (.iconst 0, 1) := by decide +kernel
theorem d_AF_told_86 : decode b_AF_told 86 = .ok (.ireturn, 1) := by decide +kernel
theorem d_AF_told_87 : decode b_AF_told 87 = .ok (.aload_n 0, 1) := by decide +kernel
theorem d_AF_told_88 : decode b_AF_told 88 = .ok (.getfield 10, 3) := by decide +kernel
theorem d_AF_told_91 : decode b_AF_told 91 = .ok (.iload_n 1, 1) := by decide +kernel
theorem d_AF_told_92 : decode b_AF_told 92 = .ok (.invokevirtual 111, 3) := by decide +kernel
theorem d_AF_told_95 : decode b_AF_told 95 = .ok (.ireturn, 1) := by decide +kernel
theorem d_AF_cost_0 : decode b_AF_cost 0 = .ok (.aload_n 0, 1) := by decide +kernel
theorem d_AF_cost_1 : decode b_AF_cost 1 = .ok (.invokevirtual 88, 3) := by decide +kernel
theorem d_AF_cost_4 : decode b_AF_cost 4 = .ok (.aload_n 0, 1) := by decide +kernel
theorem d_AF_cost_5 : decode b_AF_cost 5 = .ok (.getfield 36, 3) := by decide +kernel
theorem d_AF_cost_8 : decode b_AF_cost 8 = .ok (.aload_n 0, 1) := by decide +kernel
theorem d_AF_cost_9 : decode b_AF_cost 9 = .ok (.getfield 10, 3) := by decide +kernel
theorem d_AF_cost_12 : decode b_AF_cost 12 = .ok (.invokevirtual 114, 3) := by decide +kernel
theorem d_AF_cost_15 : decode b_AF_cost 15 = .ok (.dreturn, 1) := by decide +kernel
theorem d_AF_run_0 : decode b_AF_run 0 = .ok (.aload_n 0, 1) := by decide +kernel
theorem d_AF_run_1 : decode b_AF_run 1 = .ok (.iload_n 1, 1) := by decide +kernel
theorem d_AF_run_2 : decode b_AF_run 2 = .ok (.iload_n 2, 1) := by decide +kernel
theorem d_AF_run_3 : decode b_AF_run 3 = .ok (.iload_n 3, 1) := by decide +kernel
theorem d_AF_run_4 : decode b_AF_run 4 = .ok (.iload 4, 2) := by decide +kernel
theorem d_AF_run_6 : decode b_AF_run 6 = .ok (.invokevirtual 118, 3) := by decide +kernel
theorem d_AF_run_9 : decode b_AF_run 9 = .ok (.aload_n 0, 1) := by decide +kernel
theorem d_AF_run_10 : decode b_AF_run 10 = .ok (.aload_n 0, 1) := by decide +kernel
theorem d_AF_run_11 : decode b_AF_run 11 = .ok (.getfield 23, 3) := by decide +kernel
theorem d_AF_run_14 : decode b_AF_run 14 = .ok (.putfield 30, 3) := by decide +kernel
theorem d_AF_run_17 : decode b_AF_run 17 = .ok (.aload_n 0, 1) := by decide +kernel
theorem d_AF_run_18 : decode b_AF_run 18 = .ok (.getfield 23, 3) := by decide +kernel
theorem d_AF_run_21 : decode b_AF_run 21 = .ok (.invokestatic 121, 3) := by decide +kernel
theorem d_AF_run_24 : decode b_AF_run 24 = .ok (.ireturn, 1) := by decide +kernel
theorem d_AF_runWritten_0 : decode b_AF_runWritten 0 = .ok (.aload_n 0, 1) := by decide +kernel
theorem d_AF_runWritten_1 : decode b_AF_runWritten 1 = .ok (.getfield 23, 3) := by decide +kernel
theorem d_AF_runWritten_4 : decode b_AF_runWritten 4 = .ok (.iload_n 1, 1) := by decide +kernel
theorem d_AF_runWritten_5 : decode b_AF_runWritten 5 = .ok (.iload_n 2, 1) := by decide +kernel
theorem d_AF_runWritten_6 : decode b_AF_runWritten 6 = .ok (.iload_n 3, 1) := by decide +kernel
theorem d_AF_runWritten_7 : decode b_AF_runWritten 7 = .ok (.iload 4, 2) := by decide +kernel
theorem d_AF_runWritten_9 : decode b_AF_runWritten 9 = .ok (.invokevirtual 170, 3) := by decide +kernel
theorem d_AF_runWritten_12 : decode b_AF_runWritten 12 = .ok (.aload_n 0, 1) := by decide +kernel
theorem d_AF_runWritten_13 : decode b_AF_runWritten 13 = .ok (.getfield 23, 3) := by decide +kernel
theorem d_AF_runWritten_16 : decode b_AF_runWritten 16 = .ok (.aload_n 0, 1) := by decide +kernel
theorem d_AF_runWritten_17 : decode b_AF_runWritten 17 = .ok (.getfield 10, 3) := by decide +kernel
theorem d_AF_runWritten_20 : decode b_AF_runWritten 20 = .ok (.aload_n 0, 1) := by decide +kernel
theorem d_AF_runWritten_21 : decode b_AF_runWritten 21 = .ok (.getfield 16, 3) := by decide +kernel
theorem d_AF_runWritten_24 : decode b_AF_runWritten 24 = .ok (.iconst 0, 1) := by decide +kernel
theorem d_AF_runWritten_25 : decode b_AF_runWritten 25 = .ok (.invokevirtual 173, 3) := by decide +kernel
theorem d_AF_runWritten_28 : decode b_AF_runWritten 28 = .ok (.return_, 1) := by decide +kernel
theorem d_AF_resultOf_0 : decode b_AF_resultOf 0 = .ok (.aload_n 0, 1) := by decide +kernel
theorem d_AF_resultOf_1 : decode b_AF_resultOf 1 = .ok (.invokevirtual 181, 3) := by decide +kernel
theorem d_AF_resultOf_4 : decode b_AF_resultOf 4 = .ok (.ifCond .eq 13, 3) := by decide +kernel
theorem d_AF_resultOf_7 : decode b_AF_resultOf 7 = .ok (.new 185, 3) := by decide +kernel
theorem d_AF_resultOf_10 : decode b_AF_resultOf 10 = .ok (.dup, 1) := by decide +kernel
theorem d_AF_resultOf_11 : decode b_AF_resultOf 11 = .ok (.ldc 187, 2) := by decide +kernel
theorem d_AF_resultOf_13 : decode b_AF_resultOf 13 = .ok (.invokespecial 189, 3) := by decide +kernel
theorem d_AF_resultOf_16 : decode b_AF_resultOf 16 = .ok (.athrow, 1) := by decide +kernel
theorem d_AF_resultOf_17 : decode b_AF_resultOf 17 = .ok (.aload_n 0, 1) := by decide +kernel
theorem d_AF_resultOf_18 : decode b_AF_resultOf 18 = .ok (.invokevirtual 190, 3) := by decide +kernel
theorem d_AF_resultOf_21 : decode b_AF_resultOf 21 = .ok (.ireturn, 1) := by decide +kernel
theorem d_AF_go_0 : decode b_AF_go 0 = .ok (.aload_n 0, 1) := by decide +kernel
theorem d_AF_go_1 : decode b_AF_go 1 = .ok (.invokevirtual 88, 3) := by decide +kernel
theorem d_AF_go_4 : decode b_AF_go 4 = .ok (.aload_n 0, 1) := by decide +kernel
theorem d_AF_go_5 : decode b_AF_go 5 = .ok (.iload_n 1, 1) := by decide +kernel
theorem d_AF_go_6 : decode b_AF_go 6 = .ok (.iload_n 2, 1) := by decide +kernel
theorem d_AF_go_7 : decode b_AF_go 7 = .ok (.iload_n 3, 1) := by decide +kernel
theorem d_AF_go_8 : decode b_AF_go 8 = .ok (.iload 4, 2) := by decide +kernel
theorem d_AF_go_10 : decode b_AF_go 10 = .ok (.invokevirtual 125, 3) := by decide +kernel
theorem d_AF_go_13 : decode b_AF_go 13 = .ok (.aload_n 0, 1) := by decide +kernel
theorem d_AF_go_14 : decode b_AF_go 14 = .ok (.aload_n 0, 1) := by decide +kernel
theorem d_AF_go_15 : decode b_AF_go 15 = .ok (.getfield 27, 3) := by decide +kernel
theorem d_AF_go_18 : decode b_AF_go 18 = .ok (.putfield 30, 3) := by decide +kernel
theorem d_AF_go_21 : decode b_AF_go 21 = .ok (.aload_n 0, 1) := by decide +kernel
theorem d_AF_go_22 : decode b_AF_go 22 = .ok (.getfield 27, 3) := by decide +kernel
theorem d_AF_go_25 : decode b_AF_go 25 = .ok (.invokestatic 121, 3) := by decide +kernel
theorem d_AF_go_28 : decode b_AF_go 28 = .ok (.ireturn, 1) := by decide +kernel
theorem d_AF_runAllocated_0 : decode b_AF_runAllocated 0 = .ok (.aload_n 0, 1) := by decide +kernel
theorem d_AF_runAllocated_1 : decode b_AF_runAllocated 1 = .ok (.getfield 27, 3) := by decide +kernel
theorem d_AF_runAllocated_4 : decode b_AF_runAllocated 4 = .ok (.iload_n 1, 1) := by decide +kernel
theorem d_AF_runAllocated_5 : decode b_AF_runAllocated 5 = .ok (.iload_n 2, 1) := by decide +kernel
theorem d_AF_runAllocated_6 : decode b_AF_runAllocated 6 = .ok (.iload_n 3, 1) := by decide +kernel
theorem d_AF_runAllocated_7 : decode b_AF_runAllocated 7 = .ok (.iload 4, 2) := by decide +kernel
theorem d_AF_runAllocated_9 : decode b_AF_runAllocated 9 = .ok (.invokevirtual 170, 3) := by decide +kernel
theorem d_AF_runAllocated_12 : decode b_AF_runAllocated 12 = .ok (.aload_n 0, 1) := by decide +kernel
theorem d_AF_runAllocated_13 : decode b_AF_runAllocated 13 = .ok (.getfield 27, 3) := by decide +kernel
theorem d_AF_runAllocated_16 : decode b_AF_runAllocated 16 = .ok (.aload_n 0, 1) := by decide +kernel
theorem d_AF_runAllocated_17 : decode b_AF_runAllocated 17 = .ok (.getfield 10, 3) := by decide +kernel
theorem d_AF_runAllocated_20 : decode b_AF_runAllocated 20 = .ok (.aload_n 0, 1) := by decide +kernel
theorem d_AF_runAllocated_21 : decode b_AF_runAllocated 21 = .ok (.getfield 36, 3) := by decide +kernel
theorem d_AF_runAllocated_24 : decode b_AF_runAllocated 24 = .ok (.invokevirtual 177, 3) := by decide +kernel
theorem d_AF_runAllocated_27 : decode b_AF_runAllocated 27 = .ok (.aload_n 0, 1) := by decide +kernel
theorem d_AF_runAllocated_28 : decode b_AF_runAllocated 28 = .ok (.getfield 36, 3) := by decide +kernel
theorem d_AF_runAllocated_31 : decode b_AF_runAllocated 31 = .ok (.invokevirtual 158, 3) := by decide +kernel
theorem d_AF_runAllocated_34 : decode b_AF_runAllocated 34 = .ok (.invokevirtual 173, 3) := by decide +kernel
theorem d_AF_runAllocated_37 : decode b_AF_runAllocated 37 = .ok (.return_, 1) := by decide +kernel
theorem d_AF_same_0 : decode b_AF_same 0 = .ok (.aload_n 0, 1) := by decide +kernel
theorem d_AF_same_1 : decode b_AF_same 1 = .ok (.invokevirtual 88, 3) := by decide +kernel
theorem d_AF_same_4 : decode b_AF_same 4 = .ok (.aload_n 0, 1) := by decide +kernel
theorem d_AF_same_5 : decode b_AF_same 5 = .ok (.iload_n 1, 1) := by decide +kernel
theorem d_AF_same_6 : decode b_AF_same 6 = .ok (.iload_n 2, 1) := by decide +kernel
theorem d_AF_same_7 : decode b_AF_same 7 = .ok (.iload_n 3, 1) := by decide +kernel
theorem d_AF_same_8 : decode b_AF_same 8 = .ok (.iload 4, 2) := by decide +kernel
theorem d_AF_same_10 : decode b_AF_same 10 = .ok (.invokevirtual 118, 3) := by decide +kernel
theorem d_AF_same_13 : decode b_AF_same 13 = .ok (.aload_n 0, 1) := by decide +kernel
theorem d_AF_same_14 : decode b_AF_same 14 = .ok (.iload_n 1, 1) := by decide +kernel
theorem d_AF_same_15 : decode b_AF_same 15 = .ok (.iload_n 2, 1) := by decide +kernel
theorem d_AF_same_16 : decode b_AF_same 16 = .ok (.iload_n 3, 1) := by decide +kernel
theorem d_AF_same_17 : decode b_AF_same 17 = .ok (.iload 4, 2) := by decide +kernel
theorem d_AF_same_19 : decode b_AF_same 19 = .ok (.invokevirtual 125, 3) := by decide +kernel
theorem d_AF_same_22 : decode b_AF_same 22 = .ok (.aload_n 0, 1) := by decide +kernel
theorem d_AF_same_23 : decode b_AF_same 23 = .ok (.aload_n 0, 1) := by decide +kernel
theorem d_AF_same_24 : decode b_AF_same 24 = .ok (.getfield 27, 3) := by decide +kernel
theorem d_AF_same_27 : decode b_AF_same 27 = .ok (.putfield 30, 3) := by decide +kernel
theorem d_AF_same_30 : decode b_AF_same 30 = .ok (.aload_n 0, 1) := by decide +kernel
theorem d_AF_same_31 : decode b_AF_same 31 = .ok (.getfield 27, 3) := by decide +kernel
theorem d_AF_same_34 : decode b_AF_same 34 = .ok (.aload_n 0, 1) := by decide +kernel
theorem d_AF_same_35 : decode b_AF_same 35 = .ok (.getfield 23, 3) := by decide +kernel
theorem d_AF_same_38 : decode b_AF_same 38 = .ok (.invokevirtual 128, 3) := by decide +kernel
theorem d_AF_same_41 : decode b_AF_same 41 = .ok (.ireturn, 1) := by decide +kernel
theorem d_AF_said_0 : decode b_AF_said 0 = .ok (.iload_n 1, 1) := by decide +kernel
theorem d_AF_said_1 : decode b_AF_said 1 = .ok (.ifCond .lt 14, 3) := by decide +kernel
theorem d_AF_said_4 : decode b_AF_said 4 = .ok (.iload_n 1, 1) := by decide +kernel
theorem d_AF_said_5 : decode b_AF_said 5 = .ok (.aload_n 0, 1) := by decide +kernel
theorem d_AF_said_6 : decode b_AF_said 6 = .ok (.getfield 30, 3) := by decide +kernel
theorem d_AF_said_9 : decode b_AF_said 9 = .ok (.invokevirtual 132, 3) := by decide +kernel
theorem d_AF_said_12 : decode b_AF_said 12 = .ok (.if_icmp .lt 13, 3) := by decide +kernel
theorem d_AF_said_15 : decode b_AF_said 15 = .ok (.new 135, 3) := by decide +kernel
theorem d_AF_said_18 : decode b_AF_said 18 = .ok (.dup, 1) := by decide +kernel
theorem d_AF_said_19 : decode b_AF_said 19 = .ok (.ldc 137, 2) := by decide +kernel
theorem d_AF_said_21 : decode b_AF_said 21 = .ok (.invokespecial 139, 3) := by decide +kernel
theorem d_AF_said_24 : decode b_AF_said 24 = .ok (.athrow, 1) := by decide +kernel
theorem d_AF_said_25 : decode b_AF_said 25 = .ok (.aload_n 0, 1) := by decide +kernel
theorem d_AF_said_26 : decode b_AF_said 26 = .ok (.getfield 30, 3) := by decide +kernel
theorem d_AF_said_29 : decode b_AF_said 29 = .ok (.iload_n 1, 1) := by decide +kernel
theorem d_AF_said_30 : decode b_AF_said 30 = .ok (.invokevirtual 140, 3) := by decide +kernel
theorem d_AF_said_33 : decode b_AF_said 33 = .ok (.ireturn, 1) := by decide +kernel
theorem d_AF_count_0 : decode b_AF_count 0 = .ok (.iload_n 1, 1) := by decide +kernel
theorem d_AF_count_1 : decode b_AF_count 1 = .ok (.tableswitch 111 0 7 #[47, 55, 63, 71, 79, 87, 95, 103], 47) := by decide +kernel
theorem d_AF_count_48 : decode b_AF_count 48 = .ok (.aload_n 0, 1) := by decide +kernel
theorem d_AF_count_49 : decode b_AF_count 49 = .ok (.getfield 10, 3) := by decide +kernel
theorem d_AF_count_52 : decode b_AF_count 52 = .ok (.invokevirtual 54, 3) := by decide +kernel
theorem d_AF_count_55 : decode b_AF_count 55 = .ok (.ireturn, 1) := by decide +kernel
theorem d_AF_count_56 : decode b_AF_count 56 = .ok (.aload_n 0, 1) := by decide +kernel
theorem d_AF_count_57 : decode b_AF_count 57 = .ok (.getfield 10, 3) := by decide +kernel
theorem d_AF_count_60 : decode b_AF_count 60 = .ok (.invokevirtual 143, 3) := by decide +kernel
theorem d_AF_count_63 : decode b_AF_count 63 = .ok (.ireturn, 1) := by decide +kernel
theorem d_AF_count_64 : decode b_AF_count 64 = .ok (.aload_n 0, 1) := by decide +kernel
theorem d_AF_count_65 : decode b_AF_count 65 = .ok (.getfield 30, 3) := by decide +kernel
theorem d_AF_count_68 : decode b_AF_count 68 = .ok (.invokevirtual 132, 3) := by decide +kernel
theorem d_AF_count_71 : decode b_AF_count 71 = .ok (.ireturn, 1) := by decide +kernel
theorem d_AF_count_72 : decode b_AF_count 72 = .ok (.aload_n 0, 1) := by decide +kernel
theorem d_AF_count_73 : decode b_AF_count 73 = .ok (.getfield 36, 3) := by decide +kernel
theorem d_AF_count_76 : decode b_AF_count 76 = .ok (.invokevirtual 146, 3) := by decide +kernel
theorem d_AF_count_79 : decode b_AF_count 79 = .ok (.ireturn, 1) := by decide +kernel
theorem d_AF_count_80 : decode b_AF_count 80 = .ok (.aload_n 0, 1) := by decide +kernel
theorem d_AF_count_81 : decode b_AF_count 81 = .ok (.getfield 36, 3) := by decide +kernel
theorem d_AF_count_84 : decode b_AF_count 84 = .ok (.invokevirtual 149, 3) := by decide +kernel
theorem d_AF_count_87 : decode b_AF_count 87 = .ok (.ireturn, 1) := by decide +kernel
theorem d_AF_count_88 : decode b_AF_count 88 = .ok (.aload_n 0, 1) := by decide +kernel
theorem d_AF_count_89 : decode b_AF_count 89 = .ok (.getfield 36, 3) := by decide +kernel
theorem d_AF_count_92 : decode b_AF_count 92 = .ok (.invokevirtual 152, 3) := by decide +kernel
theorem d_AF_count_95 : decode b_AF_count 95 = .ok (.ireturn, 1) := by decide +kernel
theorem d_AF_count_96 : decode b_AF_count 96 = .ok (.aload_n 0, 1) := by decide +kernel
theorem d_AF_count_97 : decode b_AF_count 97 = .ok (.getfield 36, 3) := by decide +kernel
theorem d_AF_count_100 : decode b_AF_count 100 = .ok (.invokevirtual 155, 3) := by decide +kernel
theorem d_AF_count_103 : decode b_AF_count 103 = .ok (.ireturn, 1) := by decide +kernel
theorem d_AF_count_104 : decode b_AF_count 104 = .ok (.aload_n 0, 1) := by decide +kernel
theorem d_AF_count_105 : decode b_AF_count 105 = .ok (.getfield 36, 3) := by decide +kernel
theorem d_AF_count_108 : decode b_AF_count 108 = .ok (.invokevirtual 158, 3) := by decide +kernel
theorem d_AF_count_111 : decode b_AF_count 111 = .ok (.ireturn, 1) := by decide +kernel
theorem d_AF_count_112 : decode b_AF_count 112 = .ok (.new 47, 3) := by decide +kernel
theorem d_AF_count_115 : decode b_AF_count 115 = .ok (.dup, 1) := by decide +kernel
theorem d_AF_count_116 : decode b_AF_count 116 = .ok (.ldc 161, 2) := by decide +kernel
theorem d_AF_count_118 : decode b_AF_count 118 = .ok (.invokespecial 51, 3) := by decide +kernel
theorem d_AF_count_121 : decode b_AF_count 121 = .ok (.athrow, 1) := by decide +kernel
theorem d_Mo_init_0 : decode b_Mo_init 0 = .ok (.aload_n 0, 1) := by decide +kernel
theorem d_Mo_init_1 : decode b_Mo_init 1 = .ok (.invokespecial 1, 3) := by decide +kernel
theorem d_Mo_init_4 : decode b_Mo_init 4 = .ok (.aload_n 0, 1) := by decide +kernel
theorem d_Mo_init_5 : decode b_Mo_init 5 = .ok (.bipush 24, 2) := by decide +kernel
theorem d_Mo_init_7 : decode b_Mo_init 7 = .ok (.newarray .int, 2) := by decide +kernel
theorem d_Mo_init_9 : decode b_Mo_init 9 = .ok (.putfield 7, 3) := by decide +kernel
theorem d_Mo_init_12 : decode b_Mo_init 12 = .ok (.aload_n 0, 1) := by decide +kernel
theorem d_Mo_init_13 : decode b_Mo_init 13 = .ok (.bipush 24, 2) := by decide +kernel
theorem d_Mo_init_15 : decode b_Mo_init 15 = .ok (.newarray .int, 2) := by decide +kernel
theorem d_Mo_init_17 : decode b_Mo_init 17 = .ok (.putfield 13, 3) := by decide +kernel
theorem d_Mo_init_20 : decode b_Mo_init 20 = .ok (.aload_n 0, 1) := by decide +kernel
theorem d_Mo_init_21 : decode b_Mo_init 21 = .ok (.bipush 24, 2) := by decide +kernel
theorem d_Mo_init_23 : decode b_Mo_init 23 = .ok (.newarray .int, 2) := by decide +kernel
theorem d_Mo_init_25 : decode b_Mo_init 25 = .ok (.putfield 16, 3) := by decide +kernel
theorem d_Mo_init_28 : decode b_Mo_init 28 = .ok (.aload_n 0, 1) := by decide +kernel
theorem d_Mo_init_29 : decode b_Mo_init 29 = .ok (.bipush 24, 2) := by decide +kernel
theorem d_Mo_init_31 : decode b_Mo_init 31 = .ok (.newarray .int, 2) := by decide +kernel
theorem d_Mo_init_33 : decode b_Mo_init 33 = .ok (.putfield 19, 3) := by decide +kernel
theorem d_Mo_init_36 : decode b_Mo_init 36 = .ok (.aload_n 0, 1) := by decide +kernel
theorem d_Mo_init_37 : decode b_Mo_init 37 = .ok (.bipush 24, 2) := by decide +kernel
theorem d_Mo_init_39 : decode b_Mo_init 39 = .ok (.newarray .int, 2) := by decide +kernel
theorem d_Mo_init_41 : decode b_Mo_init 41 = .ok (.putfield 22, 3) := by decide +kernel
theorem d_Mo_init_44 : decode b_Mo_init 44 = .ok (.aload_n 0, 1) := by decide +kernel
theorem d_Mo_init_45 : decode b_Mo_init 45 = .ok (.bipush 24, 2) := by decide +kernel
theorem d_Mo_init_47 : decode b_Mo_init 47 = .ok (.newarray .int, 2) := by decide +kernel
theorem d_Mo_init_49 : decode b_Mo_init 49 = .ok (.putfield 25, 3) := by decide +kernel
theorem d_Mo_init_52 : decode b_Mo_init 52 = .ok (.aload_n 0, 1) := by decide +kernel
theorem d_Mo_init_53 : decode b_Mo_init 53 = .ok (.bipush 24, 2) := by decide +kernel
theorem d_Mo_init_55 : decode b_Mo_init 55 = .ok (.newarray .int, 2) := by decide +kernel
theorem d_Mo_init_57 : decode b_Mo_init 57 = .ok (.putfield 28, 3) := by decide +kernel
theorem d_Mo_init_60 : decode b_Mo_init 60 = .ok (.aload_n 0, 1) := by decide +kernel
theorem d_Mo_init_61 : decode b_Mo_init 61 = .ok (.bipush 16, 2) := by decide +kernel
theorem d_Mo_init_63 : decode b_Mo_init 63 = .ok (.newarray .int, 2) := by decide +kernel
theorem d_Mo_init_65 : decode b_Mo_init 65 = .ok (.putfield 31, 3) := by decide +kernel
theorem d_Mo_init_68 : decode b_Mo_init 68 = .ok (.aload_n 0, 1) := by decide +kernel
theorem d_Mo_init_69 : decode b_Mo_init 69 = .ok (.bipush 24, 2) := by decide +kernel
theorem d_Mo_init_71 : decode b_Mo_init 71 = .ok (.newarray .int, 2) := by decide +kernel
theorem d_Mo_init_73 : decode b_Mo_init 73 = .ok (.putfield 34, 3) := by decide +kernel
theorem d_Mo_init_76 : decode b_Mo_init 76 = .ok (.aload_n 0, 1) := by decide +kernel
theorem d_Mo_init_77 : decode b_Mo_init 77 = .ok (.bipush 24, 2) := by decide +kernel
theorem d_Mo_init_79 : decode b_Mo_init 79 = .ok (.newarray .int, 2) := by decide +kernel
theorem d_Mo_init_81 : decode b_Mo_init 81 = .ok (.putfield 37, 3) := by decide +kernel
theorem d_Mo_init_84 : decode b_Mo_init 84 = .ok (.return_, 1) := by decide +kernel
theorem d_Mo_thrown_0 : decode b_Mo_thrown 0 = .ok (.aload_n 0, 1) := by decide +kernel
theorem d_Mo_thrown_1 : decode b_Mo_thrown 1 = .ok (.getfield 40, 3) := by decide +kernel
theorem d_Mo_thrown_4 : decode b_Mo_thrown 4 = .ok (.ireturn, 1) := by decide +kernel
theorem d_Mo_add_0 : decode b_Mo_add 0 = .ok (.iload_n 1, 1) := by decide +kernel
theorem d_Mo_add_1 : decode b_Mo_add 1 = .ok (.iconst 0, 1) := by decide +kernel
theorem d_Mo_add_2 : decode b_Mo_add 2 = .ok (.bipush 7, 2) := by decide +kernel
theorem d_Mo_add_4 : decode b_Mo_add 4 = .ok (.invokestatic 47, 3) := by decide +kernel
theorem d_Mo_add_7 : decode b_Mo_add 7 = .ok (.ifCond .eq 55, 3) := by decide +kernel
theorem d_Mo_add_10 : decode b_Mo_add 10 = .ok (.iload 4, 2) := by decide +kernel
theorem d_Mo_add_12 : decode b_Mo_add 12 = .ok (.iconst 0, 1) := by decide +kernel
theorem d_Mo_add_13 : decode b_Mo_add 13 = .ok (.iconst 3, 1) := by decide +kernel
theorem d_Mo_add_14 : decode b_Mo_add 14 = .ok (.invokestatic 47, 3) := by decide +kernel
theorem d_Mo_add_17 : decode b_Mo_add 17 = .ok (.ifCond .eq 45, 3) := by decide +kernel
theorem d_Mo_add_20 : decode b_Mo_add 20 = .ok (.iload_n 1, 1) := by decide +kernel
theorem d_Mo_add_21 : decode b_Mo_add 21 = .ok (.iconst 1, 1) := by decide +kernel
theorem d_Mo_add_22 : decode b_Mo_add 22 = .ok (.if_icmp .ne 12, 3) := by decide +kernel
theorem d_Mo_add_25 : decode b_Mo_add 25 = .ok (.iload_n 2, 1) := by decide +kernel
theorem d_Mo_add_26 : decode b_Mo_add 26 = .ok (.iconst 0, 1) := by decide +kernel
theorem d_Mo_add_27 : decode b_Mo_add 27 = .ok (.iconst 3, 1) := by decide +kernel
theorem d_Mo_add_28 : decode b_Mo_add 28 = .ok (.invokestatic 47, 3) := by decide +kernel
theorem d_Mo_add_31 : decode b_Mo_add 31 = .ok (.ifCond .eq 31, 3) := by decide +kernel
theorem d_Mo_add_34 : decode b_Mo_add 34 = .ok (.iload_n 1, 1) := by decide +kernel
theorem d_Mo_add_35 : decode b_Mo_add 35 = .ok (.iconst 1, 1) := by decide +kernel
theorem d_Mo_add_36 : decode b_Mo_add 36 = .ok (.if_icmp .le 11, 3) := by decide +kernel
theorem d_Mo_add_39 : decode b_Mo_add 39 = .ok (.aload_n 0, 1) := by decide +kernel
theorem d_Mo_add_40 : decode b_Mo_add 40 = .ok (.iload_n 2, 1) := by decide +kernel
theorem d_Mo_add_41 : decode b_Mo_add 41 = .ok (.invokevirtual 51, 3) := by decide +kernel
theorem d_Mo_add_44 : decode b_Mo_add 44 = .ok (.ifCond .eq 18, 3) := by decide +kernel
theorem d_Mo_add_47 : decode b_Mo_add 47 = .ok (.iload_n 1, 1) := by decide +kernel
theorem d_Mo_add_48 : decode b_Mo_add 48 = .ok (.invokestatic 55, 3) := by decide +kernel
theorem d_Mo_add_51 : decode b_Mo_add 51 = .ok (.ifCond .eq 17, 3) := by decide +kernel
theorem d_Mo_add_54 : decode b_Mo_add 54 = .ok (.aload_n 0, 1) := by decide +kernel
theorem d_Mo_add_55 : decode b_Mo_add 55 = .ok (.iload_n 3, 1) := by decide +kernel
theorem d_Mo_add_56 : decode b_Mo_add 56 = .ok (.invokevirtual 51, 3) := by decide +kernel
theorem d_Mo_add_59 : decode b_Mo_add 59 = .ok (.ifCond .ne 9, 3) := by decide +kernel
theorem d_Mo_add_62 : decode b_Mo_add 62 = .ok (.aload_n 0, 1) := by decide +kernel
theorem d_Mo_add_63 : decode b_Mo_add 63 = .ok (.iconst 1, 1) := by decide +kernel
theorem d_Mo_add_64 : decode b_Mo_add 64 = .ok (.invokevirtual 58, 3) := by decide +kernel
theorem d_Mo_add_67 : decode b_Mo_add 67 = .ok (.ireturn, 1) := by decide +kernel
theorem d_Mo_add_68 : decode b_Mo_add 68 = .ok (.aload_n 0, 1) := by decide +kernel
theorem d_Mo_add_69 : decode b_Mo_add 69 = .ok (.getfield 44, 3) := by decide +kernel
theorem d_Mo_add_72 : decode b_Mo_add 72 = .ok (.bipush 24, 2) := by decide +kernel
theorem d_Mo_add_74 : decode b_Mo_add 74 = .ok (.if_icmp .ne 9, 3) := by decide +kernel
theorem d_Mo_add_77 : decode b_Mo_add 77 = .ok (.aload_n 0, 1) := by decide +kernel
theorem d_Mo_add_78 : decode b_Mo_add 78 = .ok (.iconst 2, 1) := by decide +kernel
theorem d_Mo_add_79 : decode b_Mo_add 79 = .ok (.invokevirtual 58, 3) := by decide +kernel
theorem d_Mo_add_82 : decode b_Mo_add 82 = .ok (.ireturn, 1) := by decide +kernel
theorem d_Mo_add_83 : decode b_Mo_add 83 = .ok (.aload_n 0, 1) := by decide +kernel
theorem d_Mo_add_84 : decode b_Mo_add 84 = .ok (.iconst 0, 1) := by decide +kernel
theorem d_Mo_add_85 : decode b_Mo_add 85 = .ok (.putfield 40, 3) := by decide +kernel
theorem d_Mo_add_88 : decode b_Mo_add 88 = .ok (.aload_n 0, 1) := by decide +kernel
theorem d_Mo_add_89 : decode b_Mo_add 89 = .ok (.getfield 7, 3) := by decide +kernel
theorem d_Mo_add_92 : decode b_Mo_add 92 = .ok (.aload_n 0, 1) := by decide +kernel
theorem d_Mo_add_93 : decode b_Mo_add 93 = .ok (.getfield 44, 3) := by decide +kernel
theorem d_Mo_add_96 : decode b_Mo_add 96 = .ok (.iload_n 1, 1) := by decide +kernel
theorem d_Mo_add_97 : decode b_Mo_add 97 = .ok (.iastore, 1) := by decide +kernel
theorem d_Mo_add_98 : decode b_Mo_add 98 = .ok (.aload_n 0, 1) := by decide +kernel
theorem d_Mo_add_99 : decode b_Mo_add 99 = .ok (.getfield 13, 3) := by decide +kernel
theorem d_Mo_add_102 : decode b_Mo_add 102 = .ok (.aload_n 0, 1) := by decide +kernel
theorem d_Mo_add_103 : decode b_Mo_add 103 = .ok (.getfield 44, 3) := by decide +kernel
theorem d_Mo_add_106 : decode b_Mo_add 106 = .ok (.iload_n 2, 1) := by decide +kernel
theorem d_Mo_add_107 : decode b_Mo_add 107 = .ok (.iastore, 1) := by decide +kernel
theorem d_Mo_add_108 : decode b_Mo_add 108 = .ok (.aload_n 0, 1) := by decide +kernel
theorem d_Mo_add_109 : decode b_Mo_add 109 = .ok (.getfield 16, 3) := by decide +kernel
theorem d_Mo_add_112 : decode b_Mo_add 112 = .ok (.aload_n 0, 1) := by decide +kernel
theorem d_Mo_add_113 : decode b_Mo_add 113 = .ok (.getfield 44, 3) := by decide +kernel
theorem d_Mo_add_116 : decode b_Mo_add 116 = .ok (.iload_n 3, 1) := by decide +kernel
theorem d_Mo_add_117 : decode b_Mo_add 117 = .ok (.iastore, 1) := by decide +kernel
theorem d_Mo_add_118 : decode b_Mo_add 118 = .ok (.aload_n 0, 1) := by decide +kernel
theorem d_Mo_add_119 : decode b_Mo_add 119 = .ok (.getfield 19, 3) := by decide +kernel
theorem d_Mo_add_122 : decode b_Mo_add 122 = .ok (.aload_n 0, 1) := by decide +kernel
theorem d_Mo_add_123 : decode b_Mo_add 123 = .ok (.getfield 44, 3) := by decide +kernel
theorem d_Mo_add_126 : decode b_Mo_add 126 = .ok (.iload 4, 2) := by decide +kernel
theorem d_Mo_add_128 : decode b_Mo_add 128 = .ok (.iastore, 1) := by decide +kernel
theorem d_Mo_add_129 : decode b_Mo_add 129 = .ok (.aload_n 0, 1) := by decide +kernel
theorem d_Mo_add_130 : decode b_Mo_add 130 = .ok (.dup, 1) := by decide +kernel
theorem d_Mo_add_131 : decode b_Mo_add 131 = .ok (.getfield 44, 3) := by decide +kernel
theorem d_Mo_add_134 : decode b_Mo_add 134 = .ok (.iconst 1, 1) := by decide +kernel
theorem d_Mo_add_135 : decode b_Mo_add 135 = .ok (.iadd, 1) := by decide +kernel
theorem d_Mo_add_136 : decode b_Mo_add 136 = .ok (.putfield 44, 3) := by decide +kernel
theorem d_Mo_add_139 : decode b_Mo_add 139 = .ok (.aload_n 0, 1) := by decide +kernel
theorem d_Mo_add_140 : decode b_Mo_add 140 = .ok (.iconst 0, 1) := by decide +kernel
theorem d_Mo_add_141 : decode b_Mo_add 141 = .ok (.putfield 62, 3) := by decide +kernel
theorem d_Mo_add_144 : decode b_Mo_add 144 = .ok (.aload_n 0, 1) := by decide +kernel
theorem d_Mo_add_145 : decode b_Mo_add 145 = .ok (.getfield 44, 3) := by decide +kernel
theorem d_Mo_add_148 : decode b_Mo_add 148 = .ok (.ireturn, 1) := by decide +kernel
theorem d_Mo_in_0 : decode b_Mo_in 0 = .ok (.iload_n 0, 1) := by decide +kernel
theorem d_Mo_in_1 : decode b_Mo_in 1 = .ok (.iload_n 1, 1) := by decide +kernel
theorem d_Mo_in_2 : decode b_Mo_in 2 = .ok (.if_icmp .lt 12, 3) := by decide +kernel
theorem d_Mo_in_5 : decode b_Mo_in 5 = .ok (.iload_n 0, 1) := by decide +kernel
theorem d_Mo_in_6 : decode b_Mo_in 6 = .ok (.iload_n 2, 1) := by decide +kernel
theorem d_Mo_in_7 : decode b_Mo_in 7 = .ok (.if_icmp .gt 7, 3) := by decide +kernel
theorem d_Mo_in_10 : decode b_Mo_in 10 = .ok (.iconst 1, 1) := by decide +kernel
theorem d_Mo_in_11 : decode b_Mo_in 11 = .ok (.goto 4, 3) := by decide +kernel
theorem d_Mo_in_14 : decode b_Mo_in 14 = .ok (.iconst 0, 1) := by decide +kernel
theorem d_Mo_in_15 : decode b_Mo_in 15 = .ok (.ireturn, 1) := by decide +kernel
theorem d_Mo_isValue_0 : decode b_Mo_isValue 0 = .ok (.iload_n 1, 1) := by decide +kernel
theorem d_Mo_isValue_1 : decode b_Mo_isValue 1 = .ok (.iconst 0, 1) := by decide +kernel
theorem d_Mo_isValue_2 : decode b_Mo_isValue 2 = .ok (.aload_n 0, 1) := by decide +kernel
theorem d_Mo_isValue_3 : decode b_Mo_isValue 3 = .ok (.getfield 44, 3) := by decide +kernel
theorem d_Mo_isValue_6 : decode b_Mo_isValue 6 = .ok (.iconst 1, 1) := by decide +kernel
theorem d_Mo_isValue_7 : decode b_Mo_isValue 7 = .ok (.isub, 1) := by decide +kernel
theorem d_Mo_isValue_8 : decode b_Mo_isValue 8 = .ok (.invokestatic 47, 3) := by decide +kernel
theorem d_Mo_isValue_11 : decode b_Mo_isValue 11 = .ok (.ifCond .eq 18, 3) := by decide +kernel
theorem d_Mo_isValue_14 : decode b_Mo_isValue 14 = .ok (.aload_n 0, 1) := by decide +kernel
theorem d_Mo_isValue_15 : decode b_Mo_isValue 15 = .ok (.getfield 7, 3) := by decide +kernel
theorem d_Mo_isValue_18 : decode b_Mo_isValue 18 = .ok (.iload_n 1, 1) := by decide +kernel
theorem d_Mo_isValue_19 : decode b_Mo_isValue 19 = .ok (.iaload, 1) := by decide +kernel
theorem d_Mo_isValue_20 : decode b_Mo_isValue 20 = .ok (.bipush 6, 2) := by decide +kernel
theorem d_Mo_isValue_22 : decode b_Mo_isValue 22 = .ok (.if_icmp .eq 7, 3) := by decide +kernel
theorem d_Mo_isValue_25 : decode b_Mo_isValue 25 = .ok (.iconst 1, 1) := by decide +kernel
theorem d_Mo_isValue_26 : decode b_Mo_isValue 26 = .ok (.goto 4, 3) := by decide +kernel
theorem d_Mo_isValue_29 : decode b_Mo_isValue 29 = .ok (.iconst 0, 1) := by decide +kernel
theorem d_Mo_isValue_30 : decode b_Mo_isValue 30 = .ok (.ireturn, 1) := by decide +kernel
theorem d_Mo_isSum_0 : decode b_Mo_isSum 0 = .ok (.iload_n 0, 1) := by decide +kernel
theorem d_Mo_isSum_1 : decode b_Mo_isSum 1 = .ok (.iconst 2, 1) := by decide +kernel
theorem d_Mo_isSum_2 : decode b_Mo_isSum 2 = .ok (.iconst 5, 1) := by decide +kernel
theorem d_Mo_isSum_3 : decode b_Mo_isSum 3 = .ok (.invokestatic 47, 3) := by decide +kernel
theorem d_Mo_isSum_6 : decode b_Mo_isSum 6 = .ok (.ireturn, 1) := by decide +kernel
theorem d_Mo_fail_0 : decode b_Mo_fail 0 = .ok (.aload_n 0, 1) := by decide +kernel
theorem d_Mo_fail_1 : decode b_Mo_fail 1 = .ok (.iload_n 1, 1) := by decide +kernel
theorem d_Mo_fail_2 : decode b_Mo_fail 2 = .ok (.putfield 40, 3) := by decide +kernel
theorem d_Mo_fail_5 : decode b_Mo_fail 5 = .ok (.iconst 0, 1) := by decide +kernel
theorem d_Mo_fail_6 : decode b_Mo_fail 6 = .ok (.ireturn, 1) := by decide +kernel
theorem d_Mo_clear_0 : decode b_Mo_clear 0 = .ok (.aload_n 0, 1) := by decide +kernel
theorem d_Mo_clear_1 : decode b_Mo_clear 1 = .ok (.iconst 0, 1) := by decide +kernel
theorem d_Mo_clear_2 : decode b_Mo_clear 2 = .ok (.putfield 40, 3) := by decide +kernel
theorem d_Mo_clear_5 : decode b_Mo_clear 5 = .ok (.aload_n 0, 1) := by decide +kernel
theorem d_Mo_clear_6 : decode b_Mo_clear 6 = .ok (.getfield 44, 3) := by decide +kernel
theorem d_Mo_clear_9 : decode b_Mo_clear 9 = .ok (.istore_n 1, 1) := by decide +kernel
theorem d_Mo_clear_10 : decode b_Mo_clear 10 = .ok (.aload_n 0, 1) := by decide +kernel
theorem d_Mo_clear_11 : decode b_Mo_clear 11 = .ok (.iconst 0, 1) := by decide +kernel
theorem d_Mo_clear_12 : decode b_Mo_clear 12 = .ok (.putfield 44, 3) := by decide +kernel
theorem d_Mo_clear_15 : decode b_Mo_clear 15 = .ok (.aload_n 0, 1) := by decide +kernel
theorem d_Mo_clear_16 : decode b_Mo_clear 16 = .ok (.iconst 0, 1) := by decide +kernel
theorem d_Mo_clear_17 : decode b_Mo_clear 17 = .ok (.putfield 62, 3) := by decide +kernel
theorem d_Mo_clear_20 : decode b_Mo_clear 20 = .ok (.iload_n 1, 1) := by decide +kernel
theorem d_Mo_clear_21 : decode b_Mo_clear 21 = .ok (.ireturn, 1) := by decide +kernel
theorem d_Mo_allocate_0 : decode b_Mo_allocate 0 = .ok (.iload_n 1, 1) := by decide +kernel
theorem d_Mo_allocate_1 : decode b_Mo_allocate 1 = .ok (.iconst 1, 1) := by decide +kernel
theorem d_Mo_allocate_2 : decode b_Mo_allocate 2 = .ok (.iconst 5, 1) := by decide +kernel
theorem d_Mo_allocate_3 : decode b_Mo_allocate 3 = .ok (.invokestatic 47, 3) := by decide +kernel
theorem d_Mo_allocate_6 : decode b_Mo_allocate 6 = .ok (.ifCond .ne 9, 3) := by decide +kernel
theorem d_Mo_allocate_9 : decode b_Mo_allocate 9 = .ok (.aload_n 0, 1) := by decide +kernel
theorem d_Mo_allocate_10 : decode b_Mo_allocate 10 = .ok (.iconst 1, 1) := by decide +kernel
theorem d_Mo_allocate_11 : decode b_Mo_allocate 11 = .ok (.invokevirtual 58, 3) := by decide +kernel
theorem d_Mo_allocate_14 : decode b_Mo_allocate 14 = .ok (.ireturn, 1) := by decide +kernel
theorem d_Mo_allocate_15 : decode b_Mo_allocate 15 = .ok (.iconst 0, 1) := by decide +kernel
theorem d_Mo_allocate_16 : decode b_Mo_allocate 16 = .ok (.istore_n 2, 1) := by decide +kernel
theorem d_Mo_allocate_17 : decode b_Mo_allocate 17 = .ok (.iload_n 2, 1) := by decide +kernel
theorem d_Mo_allocate_18 : decode b_Mo_allocate 18 = .ok (.aload_n 0, 1) := by decide +kernel
theorem d_Mo_allocate_19 : decode b_Mo_allocate 19 = .ok (.getfield 44, 3) := by decide +kernel
theorem d_Mo_allocate_22 : decode b_Mo_allocate 22 = .ok (.if_icmp .ge 16, 3) := by decide +kernel
theorem d_Mo_allocate_25 : decode b_Mo_allocate 25 = .ok (.aload_n 0, 1) := by decide +kernel
theorem d_Mo_allocate_26 : decode b_Mo_allocate 26 = .ok (.getfield 25, 3) := by decide +kernel
theorem d_Mo_allocate_29 : decode b_Mo_allocate 29 = .ok (.iload_n 2, 1) := by decide +kernel
theorem d_Mo_allocate_30 : decode b_Mo_allocate 30 = .ok (.iconst (-1), 1) := by decide +kernel
theorem d_Mo_allocate_31 : decode b_Mo_allocate 31 = .ok (.iastore, 1) := by decide +kernel
theorem d_Mo_allocate_32 : decode b_Mo_allocate 32 = .ok (.iinc 2 1, 3) := by decide +kernel
theorem d_Mo_allocate_35 : decode b_Mo_allocate 35 = .ok (.goto (-18), 3) := by decide +kernel
theorem d_Mo_allocate_38 : decode b_Mo_allocate 38 = .ok (.aload_n 0, 1) := by decide +kernel
theorem d_Mo_allocate_39 : decode b_Mo_allocate 39 = .ok (.iconst 0, 1) := by decide +kernel
theorem d_Mo_allocate_40 : decode b_Mo_allocate 40 = .ok (.putfield 101, 3) := by decide +kernel
theorem d_Mo_allocate_43 : decode b_Mo_allocate 43 = .ok (.aload_n 0, 1) := by decide +kernel
theorem d_Mo_allocate_44 : decode b_Mo_allocate 44 = .ok (.invokevirtual 104, 3) := by decide +kernel
theorem d_Mo_allocate_47 : decode b_Mo_allocate 47 = .ok (.istore_n 2, 1) := by decide +kernel
theorem d_Mo_allocate_48 : decode b_Mo_allocate 48 = .ok (.iconst 0, 1) := by decide +kernel
theorem d_Mo_allocate_49 : decode b_Mo_allocate 49 = .ok (.istore_n 3, 1) := by decide +kernel
theorem d_Mo_allocate_50 : decode b_Mo_allocate 50 = .ok (.iload_n 2, 1) := by decide +kernel
theorem d_Mo_allocate_51 : decode b_Mo_allocate 51 = .ok (.ifCond .lt 30, 3) := by decide +kernel
theorem d_Mo_allocate_54 : decode b_Mo_allocate 54 = .ok (.aload_n 0, 1) := by decide +kernel
theorem d_Mo_allocate_55 : decode b_Mo_allocate 55 = .ok (.iload_n 2, 1) := by decide +kernel
theorem d_Mo_allocate_56 : decode b_Mo_allocate 56 = .ok (.iload_n 1, 1) := by decide +kernel
theorem d_Mo_allocate_57 : decode b_Mo_allocate 57 = .ok (.invokevirtual 108, 3) := by decide +kernel
theorem d_Mo_allocate_60 : decode b_Mo_allocate 60 = .ok (.istore 4, 2) := by decide +kernel
theorem d_Mo_allocate_62 : decode b_Mo_allocate 62 = .ok (.iload 4, 2) := by decide +kernel
theorem d_Mo_allocate_64 : decode b_Mo_allocate 64 = .ok (.ifCond .ne 9, 3) := by decide +kernel
theorem d_Mo_allocate_67 : decode b_Mo_allocate 67 = .ok (.aload_n 0, 1) := by decide +kernel
theorem d_Mo_allocate_68 : decode b_Mo_allocate 68 = .ok (.iconst 2, 1) := by decide +kernel
theorem d_Mo_allocate_69 : decode b_Mo_allocate 69 = .ok (.invokevirtual 58, 3) := by decide +kernel
theorem d_Mo_allocate_72 : decode b_Mo_allocate 72 = .ok (.ireturn, 1) := by decide +kernel
theorem d_Mo_allocate_73 : decode b_Mo_allocate 73 = .ok (.aload_n 0, 1) := by decide +kernel
theorem d_Mo_allocate_74 : decode b_Mo_allocate 74 = .ok (.invokevirtual 104, 3) := by decide +kernel
theorem d_Mo_allocate_77 : decode b_Mo_allocate 77 = .ok (.istore_n 2, 1) := by decide +kernel
theorem d_Mo_allocate_78 : decode b_Mo_allocate 78 = .ok (.goto (-28), 3) := by decide +kernel
theorem d_Mo_allocate_81 : decode b_Mo_allocate 81 = .ok (.aload_n 0, 1) := by decide +kernel
theorem d_Mo_allocate_82 : decode b_Mo_allocate 82 = .ok (.iconst 0, 1) := by decide +kernel
theorem d_Mo_allocate_83 : decode b_Mo_allocate 83 = .ok (.putfield 40, 3) := by decide +kernel
theorem d_Mo_allocate_86 : decode b_Mo_allocate 86 = .ok (.aload_n 0, 1) := by decide +kernel
theorem d_Mo_allocate_87 : decode b_Mo_allocate 87 = .ok (.iconst 1, 1) := by decide +kernel
theorem d_Mo_allocate_88 : decode b_Mo_allocate 88 = .ok (.putfield 62, 3) := by decide +kernel
theorem d_Mo_allocate_91 : decode b_Mo_allocate 91 = .ok (.aload_n 0, 1) := by decide +kernel
theorem d_Mo_allocate_92 : decode b_Mo_allocate 92 = .ok (.aload_n 0, 1) := by decide +kernel
theorem d_Mo_allocate_93 : decode b_Mo_allocate 93 = .ok (.getfield 101, 3) := by decide +kernel
theorem d_Mo_allocate_96 : decode b_Mo_allocate 96 = .ok (.putfield 111, 3) := by decide +kernel
theorem d_Mo_allocate_99 : decode b_Mo_allocate 99 = .ok (.aload_n 0, 1) := by decide +kernel
theorem d_Mo_allocate_100 : decode b_Mo_allocate 100 = .ok (.iload_n 1, 1) := by decide +kernel
theorem d_Mo_allocate_101 : decode b_Mo_allocate 101 = .ok (.putfield 114, 3) := by decide +kernel
theorem d_Mo_allocate_104 : decode b_Mo_allocate 104 = .ok (.iconst 0, 1) := by decide +kernel
theorem d_Mo_allocate_105 : decode b_Mo_allocate 105 = .ok (.istore 4, 2) := by decide +kernel
theorem d_Mo_allocate_107 : decode b_Mo_allocate 107 = .ok (.iload 4, 2) := by decide +kernel
theorem d_Mo_allocate_109 : decode b_Mo_allocate 109 = .ok (.aload_n 0, 1) := by decide +kernel
theorem d_Mo_allocate_110 : decode b_Mo_allocate 110 = .ok (.getfield 44, 3) := by decide +kernel
theorem d_Mo_allocate_113 : decode b_Mo_allocate 113 = .ok (.if_icmp .ge 50, 3) := by decide +kernel
theorem d_Mo_allocate_116 : decode b_Mo_allocate 116 = .ok (.aload_n 0, 1) := by decide +kernel
theorem d_Mo_allocate_117 : decode b_Mo_allocate 117 = .ok (.getfield 22, 3) := by decide +kernel
theorem d_Mo_allocate_120 : decode b_Mo_allocate 120 = .ok (.iload 4, 2) := by decide +kernel
theorem d_Mo_allocate_122 : decode b_Mo_allocate 122 = .ok (.aload_n 0, 1) := by decide +kernel
theorem d_Mo_allocate_123 : decode b_Mo_allocate 123 = .ok (.getfield 25, 3) := by decide +kernel
theorem d_Mo_allocate_126 : decode b_Mo_allocate 126 = .ok (.iload 4, 2) := by decide +kernel
theorem d_Mo_allocate_128 : decode b_Mo_allocate 128 = .ok (.iaload, 1) := by decide +kernel
theorem d_Mo_allocate_129 : decode b_Mo_allocate 129 = .ok (.iastore, 1) := by decide +kernel
theorem d_Mo_allocate_130 : decode b_Mo_allocate 130 = .ok (.aload_n 0, 1) := by decide +kernel
theorem d_Mo_allocate_131 : decode b_Mo_allocate 131 = .ok (.getfield 7, 3) := by decide +kernel
theorem d_Mo_allocate_134 : decode b_Mo_allocate 134 = .ok (.iload 4, 2) := by decide +kernel
theorem d_Mo_allocate_136 : decode b_Mo_allocate 136 = .ok (.iaload, 1) := by decide +kernel
theorem d_Mo_allocate_137 : decode b_Mo_allocate 137 = .ok (.bipush 6, 2) := by decide +kernel
theorem d_Mo_allocate_139 : decode b_Mo_allocate 139 = .ok (.if_icmp .eq 18, 3) := by decide +kernel
theorem d_Mo_allocate_142 : decode b_Mo_allocate 142 = .ok (.aload_n 0, 1) := by decide +kernel
theorem d_Mo_allocate_143 : decode b_Mo_allocate 143 = .ok (.getfield 25, 3) := by decide +kernel
theorem d_Mo_allocate_146 : decode b_Mo_allocate 146 = .ok (.iload 4, 2) := by decide +kernel
theorem d_Mo_allocate_148 : decode b_Mo_allocate 148 = .ok (.iaload, 1) := by decide +kernel
theorem d_Mo_allocate_149 : decode b_Mo_allocate 149 = .ok (.bipush 10, 2) := by decide +kernel
theorem d_Mo_allocate_151 : decode b_Mo_allocate 151 = .ok (.if_icmp .ge 6, 3) := by decide +kernel
theorem d_Mo_allocate_154 : decode b_Mo_allocate 154 = .ok (.iinc 3 1, 3) := by decide +kernel
theorem d_Mo_allocate_157 : decode b_Mo_allocate 157 = .ok (.iinc 4 1, 3) := by decide +kernel
theorem d_Mo_allocate_160 : decode b_Mo_allocate 160 = .ok (.goto (-53), 3) := by decide +kernel
theorem d_Mo_allocate_163 : decode b_Mo_allocate 163 = .ok (.iload_n 3, 1) := by decide +kernel
theorem d_Mo_allocate_164 : decode b_Mo_allocate 164 = .ok (.ireturn, 1) := by decide +kernel
theorem d_Mo_next_0 : decode b_Mo_next 0 = .ok (.iconst (-1), 1) := by decide +kernel
theorem d_Mo_next_1 : decode b_Mo_next 1 = .ok (.istore_n 1, 1) := by decide +kernel
theorem d_Mo_next_2 : decode b_Mo_next 2 = .ok (.iconst 0, 1) := by decide +kernel
theorem d_Mo_next_3 : decode b_Mo_next 3 = .ok (.istore_n 2, 1) := by decide +kernel
theorem d_Mo_next_4 : decode b_Mo_next 4 = .ok (.iload_n 2, 1) := by decide +kernel
theorem d_Mo_next_5 : decode b_Mo_next 5 = .ok (.aload_n 0, 1) := by decide +kernel
theorem d_Mo_next_6 : decode b_Mo_next 6 = .ok (.getfield 44, 3) := by decide +kernel
theorem d_Mo_next_9 : decode b_Mo_next 9 = .ok (.if_icmp .ge 56, 3) := by decide +kernel
theorem d_Mo_next_12 : decode b_Mo_next 12 = .ok (.aload_n 0, 1) := by decide +kernel
theorem d_Mo_next_13 : decode b_Mo_next 13 = .ok (.getfield 7, 3) := by decide +kernel
theorem d_Mo_next_16 : decode b_Mo_next 16 = .ok (.iload_n 2, 1) := by decide +kernel
theorem d_Mo_next_17 : decode b_Mo_next 17 = .ok (.iaload, 1) := by decide +kernel
theorem d_Mo_next_18 : decode b_Mo_next 18 = .ok (.bipush 6, 2) := by decide +kernel
theorem d_Mo_next_20 : decode b_Mo_next 20 = .ok (.if_icmp .eq 39, 3) := by decide +kernel
theorem d_Mo_next_23 : decode b_Mo_next 23 = .ok (.aload_n 0, 1) := by decide +kernel
theorem d_Mo_next_24 : decode b_Mo_next 24 = .ok (.getfield 25, 3) := by decide +kernel
theorem d_Mo_next_27 : decode b_Mo_next 27 = .ok (.iload_n 2, 1) := by decide +kernel
theorem d_Mo_next_28 : decode b_Mo_next 28 = .ok (.iaload, 1) := by decide +kernel
theorem d_Mo_next_29 : decode b_Mo_next 29 = .ok (.iconst (-1), 1) := by decide +kernel
theorem d_Mo_next_30 : decode b_Mo_next 30 = .ok (.if_icmp .eq 6, 3) := by decide +kernel
theorem d_Mo_next_33 : decode b_Mo_next 33 = .ok (.goto 26, 3) := by decide +kernel
theorem d_Mo_next_36 : decode b_Mo_next 36 = .ok (.iload_n 1, 1) := by decide +kernel
theorem d_Mo_next_37 : decode b_Mo_next 37 = .ok (.ifCond .lt 20, 3) := by decide +kernel
theorem d_Mo_next_40 : decode b_Mo_next 40 = .ok (.aload_n 0, 1) := by decide +kernel
theorem d_Mo_next_41 : decode b_Mo_next 41 = .ok (.iload_n 2, 1) := by decide +kernel
theorem d_Mo_next_42 : decode b_Mo_next 42 = .ok (.invokevirtual 70, 3) := by decide +kernel
theorem d_Mo_next_45 : decode b_Mo_next 45 = .ok (.iload_n 2, 1) := by decide +kernel
theorem d_Mo_next_46 : decode b_Mo_next 46 = .ok (.isub, 1) := by decide +kernel
theorem d_Mo_next_47 : decode b_Mo_next 47 = .ok (.aload_n 0, 1) := by decide +kernel
theorem d_Mo_next_48 : decode b_Mo_next 48 = .ok (.iload_n 1, 1) := by decide +kernel
theorem d_Mo_next_49 : decode b_Mo_next 49 = .ok (.invokevirtual 70, 3) := by decide +kernel
theorem d_Mo_next_52 : decode b_Mo_next 52 = .ok (.iload_n 1, 1) := by decide +kernel
theorem d_Mo_next_53 : decode b_Mo_next 53 = .ok (.isub, 1) := by decide +kernel
theorem d_Mo_next_54 : decode b_Mo_next 54 = .ok (.if_icmp .le 5, 3) := by decide +kernel
theorem d_Mo_next_57 : decode b_Mo_next 57 = .ok (.iload_n 2, 1) := by decide +kernel
theorem d_Mo_next_58 : decode b_Mo_next 58 = .ok (.istore_n 1, 1) := by decide +kernel
theorem d_Mo_next_59 : decode b_Mo_next 59 = .ok (.iinc 2 1, 3) := by decide +kernel
theorem d_Mo_next_62 : decode b_Mo_next 62 = .ok (.goto (-58), 3) := by decide +kernel
theorem d_Mo_next_65 : decode b_Mo_next 65 = .ok (.iload_n 1, 1) := by decide +kernel
theorem d_Mo_next_66 : decode b_Mo_next 66 = .ok (.ireturn, 1) := by decide +kernel
theorem d_Mo_end_0 : decode b_Mo_end 0 = .ok (.iload_n 1, 1) := by decide +kernel
theorem d_Mo_end_1 : decode b_Mo_end 1 = .ok (.iconst 1, 1) := by decide +kernel
theorem d_Mo_end_2 : decode b_Mo_end 2 = .ok (.iadd, 1) := by decide +kernel
theorem d_Mo_end_3 : decode b_Mo_end 3 = .ok (.istore_n 2, 1) := by decide +kernel
theorem d_Mo_end_4 : decode b_Mo_end 4 = .ok (.iload_n 1, 1) := by decide +kernel
theorem d_Mo_end_5 : decode b_Mo_end 5 = .ok (.iconst 1, 1) := by decide +kernel
theorem d_Mo_end_6 : decode b_Mo_end 6 = .ok (.iadd, 1) := by decide +kernel
theorem d_Mo_end_7 : decode b_Mo_end 7 = .ok (.istore_n 3, 1) := by decide +kernel
theorem d_Mo_end_8 : decode b_Mo_end 8 = .ok (.iload_n 3, 1) := by decide +kernel
theorem d_Mo_end_9 : decode b_Mo_end 9 = .ok (.aload_n 0, 1) := by decide +kernel
theorem d_Mo_end_10 : decode b_Mo_end 10 = .ok (.getfield 44, 3) := by decide +kernel
theorem d_Mo_end_13 : decode b_Mo_end 13 = .ok (.if_icmp .ge 20, 3) := by decide +kernel
theorem d_Mo_end_16 : decode b_Mo_end 16 = .ok (.aload_n 0, 1) := by decide +kernel
theorem d_Mo_end_17 : decode b_Mo_end 17 = .ok (.iload_n 3, 1) := by decide +kernel
theorem d_Mo_end_18 : decode b_Mo_end 18 = .ok (.iload_n 1, 1) := by decide +kernel
theorem d_Mo_end_19 : decode b_Mo_end 19 = .ok (.invokevirtual 66, 3) := by decide +kernel
theorem d_Mo_end_22 : decode b_Mo_end 22 = .ok (.ifCond .le 5, 3) := by decide +kernel
theorem d_Mo_end_25 : decode b_Mo_end 25 = .ok (.iload_n 3, 1) := by decide +kernel
theorem d_Mo_end_26 : decode b_Mo_end 26 = .ok (.istore_n 2, 1) := by decide +kernel
theorem d_Mo_end_27 : decode b_Mo_end 27 = .ok (.iinc 3 1, 3) := by decide +kernel
theorem d_Mo_end_30 : decode b_Mo_end 30 = .ok (.goto (-22), 3) := by decide +kernel
theorem d_Mo_end_33 : decode b_Mo_end 33 = .ok (.iload_n 2, 1) := by decide +kernel
theorem d_Mo_end_34 : decode b_Mo_end 34 = .ok (.ireturn, 1) := by decide +kernel
theorem d_Mo_uses_0 : decode b_Mo_uses 0 = .ok (.aload_n 0, 1) := by decide +kernel
theorem d_Mo_uses_1 : decode b_Mo_uses 1 = .ok (.getfield 7, 3) := by decide +kernel
theorem d_Mo_uses_4 : decode b_Mo_uses 4 = .ok (.iload_n 1, 1) := by decide +kernel
theorem d_Mo_uses_5 : decode b_Mo_uses 5 = .ok (.iaload, 1) := by decide +kernel
theorem d_Mo_uses_6 : decode b_Mo_uses 6 = .ok (.iconst 2, 1) := by decide +kernel
theorem d_Mo_uses_7 : decode b_Mo_uses 7 = .ok (.if_icmp .ge 5, 3) := by decide +kernel
theorem d_Mo_uses_10 : decode b_Mo_uses 10 = .ok (.iconst 0, 1) := by decide +kernel
theorem d_Mo_uses_11 : decode b_Mo_uses 11 = .ok (.ireturn, 1) := by decide +kernel
theorem d_Mo_uses_12 : decode b_Mo_uses 12 = .ok (.aload_n 0, 1) := by decide +kernel
theorem d_Mo_uses_13 : decode b_Mo_uses 13 = .ok (.getfield 13, 3) := by decide +kernel
theorem d_Mo_uses_16 : decode b_Mo_uses 16 = .ok (.iload_n 1, 1) := by decide +kernel
theorem d_Mo_uses_17 : decode b_Mo_uses 17 = .ok (.iaload, 1) := by decide +kernel
theorem d_Mo_uses_18 : decode b_Mo_uses 18 = .ok (.iload_n 2, 1) := by decide +kernel
theorem d_Mo_uses_19 : decode b_Mo_uses 19 = .ok (.if_icmp .ne 7, 3) := by decide +kernel
theorem d_Mo_uses_22 : decode b_Mo_uses 22 = .ok (.iconst 1, 1) := by decide +kernel
theorem d_Mo_uses_23 : decode b_Mo_uses 23 = .ok (.goto 4, 3) := by decide +kernel
theorem d_Mo_uses_26 : decode b_Mo_uses 26 = .ok (.iconst 0, 1) := by decide +kernel
theorem d_Mo_uses_27 : decode b_Mo_uses 27 = .ok (.aload_n 0, 1) := by decide +kernel
theorem d_Mo_uses_28 : decode b_Mo_uses 28 = .ok (.getfield 7, 3) := by decide +kernel
theorem d_Mo_uses_31 : decode b_Mo_uses 31 = .ok (.iload_n 1, 1) := by decide +kernel
theorem d_Mo_uses_32 : decode b_Mo_uses 32 = .ok (.iaload, 1) := by decide +kernel
theorem d_Mo_uses_33 : decode b_Mo_uses 33 = .ok (.invokestatic 55, 3) := by decide +kernel
theorem d_Mo_uses_36 : decode b_Mo_uses 36 = .ok (.ifCond .eq 17, 3) := by decide +kernel
theorem d_Mo_uses_39 : decode b_Mo_uses 39 = .ok (.aload_n 0, 1) := by decide +kernel
theorem d_Mo_uses_40 : decode b_Mo_uses 40 = .ok (.getfield 16, 3) := by decide +kernel
theorem d_Mo_uses_43 : decode b_Mo_uses 43 = .ok (.iload_n 1, 1) := by decide +kernel
theorem d_Mo_uses_44 : decode b_Mo_uses 44 = .ok (.iaload, 1) := by decide +kernel
theorem d_Mo_uses_45 : decode b_Mo_uses 45 = .ok (.iload_n 2, 1) := by decide +kernel
theorem d_Mo_uses_46 : decode b_Mo_uses 46 = .ok (.if_icmp .ne 7, 3) := by decide +kernel
theorem d_Mo_uses_49 : decode b_Mo_uses 49 = .ok (.iconst 1, 1) := by decide +kernel
theorem d_Mo_uses_50 : decode b_Mo_uses 50 = .ok (.goto 4, 3) := by decide +kernel
theorem d_Mo_uses_53 : decode b_Mo_uses 53 = .ok (.iconst 0, 1) := by decide +kernel
theorem d_Mo_uses_54 : decode b_Mo_uses 54 = .ok (.iadd, 1) := by decide +kernel
theorem d_Mo_uses_55 : decode b_Mo_uses 55 = .ok (.ireturn, 1) := by decide +kernel
theorem d_Mo_give_0 : decode b_Mo_give 0 = .ok (.aload_n 0, 1) := by decide +kernel
theorem d_Mo_give_1 : decode b_Mo_give 1 = .ok (.iload_n 1, 1) := by decide +kernel
theorem d_Mo_give_2 : decode b_Mo_give 2 = .ok (.invokevirtual 90, 3) := by decide +kernel
theorem d_Mo_give_5 : decode b_Mo_give 5 = .ok (.ifCond .eq 12, 3) := by decide +kernel
theorem d_Mo_give_8 : decode b_Mo_give 8 = .ok (.iload_n 2, 1) := by decide +kernel
theorem d_Mo_give_9 : decode b_Mo_give 9 = .ok (.iconst 2, 1) := by decide +kernel
theorem d_Mo_give_10 : decode b_Mo_give 10 = .ok (.if_icmp .le 7, 3) := by decide +kernel
theorem d_Mo_give_13 : decode b_Mo_give 13 = .ok (.iconst 2, 1) := by decide +kernel
theorem d_Mo_give_14 : decode b_Mo_give 14 = .ok (.goto 4, 3) := by decide +kernel
theorem d_Mo_give_17 : decode b_Mo_give 17 = .ok (.iload_n 2, 1) := by decide +kernel
theorem d_Mo_give_18 : decode b_Mo_give 18 = .ok (.istore_n 3, 1) := by decide +kernel
theorem d_Mo_give_19 : decode b_Mo_give 19 = .ok (.aload_n 0, 1) := by decide +kernel
theorem d_Mo_give_20 : decode b_Mo_give 20 = .ok (.iload_n 1, 1) := by decide +kernel
theorem d_Mo_give_21 : decode b_Mo_give 21 = .ok (.iconst 0, 1) := by decide +kernel
theorem d_Mo_give_22 : decode b_Mo_give 22 = .ok (.iload_n 3, 1) := by decide +kernel
theorem d_Mo_give_23 : decode b_Mo_give 23 = .ok (.invokevirtual 93, 3) := by decide +kernel
theorem d_Mo_give_26 : decode b_Mo_give 26 = .ok (.istore 4, 2) := by decide +kernel
theorem d_Mo_give_28 : decode b_Mo_give 28 = .ok (.iload 4, 2) := by decide +kernel
theorem d_Mo_give_30 : decode b_Mo_give 30 = .ok (.ifCond .lt 13, 3) := by decide +kernel
theorem d_Mo_give_33 : decode b_Mo_give 33 = .ok (.aload_n 0, 1) := by decide +kernel
theorem d_Mo_give_34 : decode b_Mo_give 34 = .ok (.getfield 25, 3) := by decide +kernel
theorem d_Mo_give_37 : decode b_Mo_give 37 = .ok (.iload_n 1, 1) := by decide +kernel
theorem d_Mo_give_38 : decode b_Mo_give 38 = .ok (.iload 4, 2) := by decide +kernel
theorem d_Mo_give_40 : decode b_Mo_give 40 = .ok (.iastore, 1) := by decide +kernel
theorem d_Mo_give_41 : decode b_Mo_give 41 = .ok (.iconst 1, 1) := by decide +kernel
theorem d_Mo_give_42 : decode b_Mo_give 42 = .ok (.ireturn, 1) := by decide +kernel
theorem d_Mo_give_43 : decode b_Mo_give 43 = .ok (.iconst 0, 1) := by decide +kernel
theorem d_Mo_give_44 : decode b_Mo_give 44 = .ok (.istore 5, 2) := by decide +kernel
theorem d_Mo_give_46 : decode b_Mo_give 46 = .ok (.iconst 1, 1) := by decide +kernel
theorem d_Mo_give_47 : decode b_Mo_give 47 = .ok (.istore 6, 2) := by decide +kernel
theorem d_Mo_give_49 : decode b_Mo_give 49 = .ok (.iload 6, 2) := by decide +kernel
theorem d_Mo_give_51 : decode b_Mo_give 51 = .ok (.iload_n 3, 1) := by decide +kernel
theorem d_Mo_give_52 : decode b_Mo_give 52 = .ok (.if_icmp .ge 31, 3) := by decide +kernel
theorem d_Mo_give_55 : decode b_Mo_give 55 = .ok (.aload_n 0, 1) := by decide +kernel
theorem d_Mo_give_56 : decode b_Mo_give 56 = .ok (.iload_n 1, 1) := by decide +kernel
theorem d_Mo_give_57 : decode b_Mo_give 57 = .ok (.iload 6, 2) := by decide +kernel
theorem d_Mo_give_59 : decode b_Mo_give 59 = .ok (.invokevirtual 97, 3) := by decide +kernel
theorem d_Mo_give_62 : decode b_Mo_give 62 = .ok (.aload_n 0, 1) := by decide +kernel
theorem d_Mo_give_63 : decode b_Mo_give 63 = .ok (.iload_n 1, 1) := by decide +kernel
theorem d_Mo_give_64 : decode b_Mo_give 64 = .ok (.iload 5, 2) := by decide +kernel
theorem d_Mo_give_66 : decode b_Mo_give 66 = .ok (.invokevirtual 97, 3) := by decide +kernel
theorem d_Mo_give_69 : decode b_Mo_give 69 = .ok (.dcmp .g, 1) := by decide +kernel
theorem d_Mo_give_70 : decode b_Mo_give 70 = .ok (.ifCond .ge 7, 3) := by decide +kernel
theorem d_Mo_give_73 : decode b_Mo_give 73 = .ok (.iload 6, 2) := by decide +kernel
theorem d_Mo_give_75 : decode b_Mo_give 75 = .ok (.istore 5, 2) := by decide +kernel
theorem d_Mo_give_77 : decode b_Mo_give 77 = .ok (.iinc 6 1, 3) := by decide +kernel
theorem d_Mo_give_80 : decode b_Mo_give 80 = .ok (.goto (-31), 3) := by decide +kernel
theorem d_Mo_give_83 : decode b_Mo_give 83 = .ok (.aload_n 0, 1) := by decide +kernel
theorem d_Mo_give_84 : decode b_Mo_give 84 = .ok (.iload_n 1, 1) := by decide +kernel
theorem d_Mo_give_85 : decode b_Mo_give 85 = .ok (.iload 5, 2) := by decide +kernel
theorem d_Mo_give_87 : decode b_Mo_give 87 = .ok (.invokevirtual 97, 3) := by decide +kernel
theorem d_Mo_give_90 : decode b_Mo_give 90 = .ok (.aload_n 0, 1) := by decide +kernel
theorem d_Mo_give_91 : decode b_Mo_give 91 = .ok (.iload_n 1, 1) := by decide +kernel
theorem d_Mo_give_92 : decode b_Mo_give 92 = .ok (.invokevirtual 83, 3) := by decide +kernel
theorem d_Mo_give_95 : decode b_Mo_give 95 = .ok (.dcmp .g, 1) := by decide +kernel
theorem d_Mo_give_96 : decode b_Mo_give 96 = .ok (.ifCond .ge 74, 3) := by decide +kernel
theorem d_Mo_give_99 : decode b_Mo_give 99 = .ok (.iconst 0, 1) := by decide +kernel
theorem d_Mo_give_100 : decode b_Mo_give 100 = .ok (.istore 6, 2) := by decide +kernel
theorem d_Mo_give_102 : decode b_Mo_give 102 = .ok (.iload 6, 2) := by decide +kernel
theorem d_Mo_give_104 : decode b_Mo_give 104 = .ok (.aload_n 0, 1) := by decide +kernel
theorem d_Mo_give_105 : decode b_Mo_give 105 = .ok (.getfield 44, 3) := by decide +kernel
theorem d_Mo_give_108 : decode b_Mo_give 108 = .ok (.if_icmp .ge 52, 3) := by decide +kernel
theorem d_Mo_give_111 : decode b_Mo_give 111 = .ok (.aload_n 0, 1) := by decide +kernel
theorem d_Mo_give_112 : decode b_Mo_give 112 = .ok (.getfield 25, 3) := by decide +kernel
theorem d_Mo_give_115 : decode b_Mo_give 115 = .ok (.iload 6, 2) := by decide +kernel
theorem d_Mo_give_117 : decode b_Mo_give 117 = .ok (.iaload, 1) := by decide +kernel
theorem d_Mo_give_118 : decode b_Mo_give 118 = .ok (.iload 5, 2) := by decide +kernel
theorem d_Mo_give_120 : decode b_Mo_give 120 = .ok (.if_icmp .ne 34, 3) := by decide +kernel
theorem d_Mo_give_123 : decode b_Mo_give 123 = .ok (.aload_n 0, 1) := by decide +kernel
theorem d_Mo_give_124 : decode b_Mo_give 124 = .ok (.iload_n 1, 1) := by decide +kernel
theorem d_Mo_give_125 : decode b_Mo_give 125 = .ok (.iload 6, 2) := by decide +kernel
theorem d_Mo_give_127 : decode b_Mo_give 127 = .ok (.invokevirtual 79, 3) := by decide +kernel
theorem d_Mo_give_130 : decode b_Mo_give 130 = .ok (.ifCond .ne 6, 3) := by decide +kernel
theorem d_Mo_give_133 : decode b_Mo_give 133 = .ok (.goto 21, 3) := by decide +kernel
theorem d_Mo_give_136 : decode b_Mo_give 136 = .ok (.aload_n 0, 1) := by decide +kernel
theorem d_Mo_give_137 : decode b_Mo_give 137 = .ok (.getfield 25, 3) := by decide +kernel
theorem d_Mo_give_140 : decode b_Mo_give 140 = .ok (.iload 6, 2) := by decide +kernel
theorem d_Mo_give_142 : decode b_Mo_give 142 = .ok (.iconst (-1), 1) := by decide +kernel
theorem d_Mo_give_143 : decode b_Mo_give 143 = .ok (.iastore, 1) := by decide +kernel
theorem d_Mo_give_144 : decode b_Mo_give 144 = .ok (.aload_n 0, 1) := by decide +kernel
theorem d_Mo_give_145 : decode b_Mo_give 145 = .ok (.dup, 1) := by decide +kernel
theorem d_Mo_give_146 : decode b_Mo_give 146 = .ok (.getfield 101, 3) := by decide +kernel
theorem d_Mo_give_149 : decode b_Mo_give 149 = .ok (.iconst 1, 1) := by decide +kernel
theorem d_Mo_give_150 : decode b_Mo_give 150 = .ok (.iadd, 1) := by decide +kernel
theorem d_Mo_give_151 : decode b_Mo_give 151 = .ok (.putfield 101, 3) := by decide +kernel
theorem d_Mo_give_154 : decode b_Mo_give 154 = .ok (.iinc 6 1, 3) := by decide +kernel
theorem d_Mo_give_157 : decode b_Mo_give 157 = .ok (.goto (-55), 3) := by decide +kernel
theorem d_Mo_give_160 : decode b_Mo_give 160 = .ok (.aload_n 0, 1) := by decide +kernel
theorem d_Mo_give_161 : decode b_Mo_give 161 = .ok (.getfield 25, 3) := by decide +kernel
theorem d_Mo_give_164 : decode b_Mo_give 164 = .ok (.iload_n 1, 1) := by decide +kernel
theorem d_Mo_give_165 : decode b_Mo_give 165 = .ok (.iload 5, 2) := by decide +kernel
theorem d_Mo_give_167 : decode b_Mo_give 167 = .ok (.iastore, 1) := by decide +kernel
theorem d_Mo_give_168 : decode b_Mo_give 168 = .ok (.iconst 1, 1) := by decide +kernel
theorem d_Mo_give_169 : decode b_Mo_give 169 = .ok (.ireturn, 1) := by decide +kernel
theorem d_Mo_give_170 : decode b_Mo_give 170 = .ok (.aload_n 0, 1) := by decide +kernel
theorem d_Mo_give_171 : decode b_Mo_give 171 = .ok (.getfield 25, 3) := by decide +kernel
theorem d_Mo_give_174 : decode b_Mo_give 174 = .ok (.iload_n 1, 1) := by decide +kernel
theorem d_Mo_give_175 : decode b_Mo_give 175 = .ok (.aload_n 0, 1) := by decide +kernel
theorem d_Mo_give_176 : decode b_Mo_give 176 = .ok (.iload_n 1, 1) := by decide +kernel
theorem d_Mo_give_177 : decode b_Mo_give 177 = .ok (.bipush 10, 2) := by decide +kernel
theorem d_Mo_give_179 : decode b_Mo_give 179 = .ok (.bipush 16, 2) := by decide +kernel
theorem d_Mo_give_181 : decode b_Mo_give 181 = .ok (.invokevirtual 93, 3) := by decide +kernel
theorem d_Mo_give_184 : decode b_Mo_give 184 = .ok (.iastore, 1) := by decide +kernel
theorem d_Mo_give_185 : decode b_Mo_give 185 = .ok (.aload_n 0, 1) := by decide +kernel
theorem d_Mo_give_186 : decode b_Mo_give 186 = .ok (.getfield 25, 3) := by decide +kernel
theorem d_Mo_give_189 : decode b_Mo_give 189 = .ok (.iload_n 1, 1) := by decide +kernel
theorem d_Mo_give_190 : decode b_Mo_give 190 = .ok (.iaload, 1) := by decide +kernel
theorem d_Mo_give_191 : decode b_Mo_give 191 = .ok (.ifCond .lt 7, 3) := by decide +kernel
theorem d_Mo_give_194 : decode b_Mo_give 194 = .ok (.iconst 1, 1) := by decide +kernel
theorem d_Mo_give_195 : decode b_Mo_give 195 = .ok (.goto 4, 3) := by decide +kernel
theorem d_Mo_give_198 : decode b_Mo_give 198 = .ok (.iconst 0, 1) := by decide +kernel
theorem d_Mo_give_199 : decode b_Mo_give 199 = .ok (.ireturn, 1) := by decide +kernel
theorem d_Mo_isCrossed_0 : decode b_Mo_isCrossed 0 = .ok (.aload_n 0, 1) := by decide +kernel
theorem d_Mo_isCrossed_1 : decode b_Mo_isCrossed 1 = .ok (.iload_n 1, 1) := by decide +kernel
theorem d_Mo_isCrossed_2 : decode b_Mo_isCrossed 2 = .ok (.invokevirtual 70, 3) := by decide +kernel
theorem d_Mo_isCrossed_5 : decode b_Mo_isCrossed 5 = .ok (.istore_n 2, 1) := by decide +kernel
theorem d_Mo_isCrossed_6 : decode b_Mo_isCrossed 6 = .ok (.iload_n 1, 1) := by decide +kernel
theorem d_Mo_isCrossed_7 : decode b_Mo_isCrossed 7 = .ok (.iconst 1, 1) := by decide +kernel
theorem d_Mo_isCrossed_8 : decode b_Mo_isCrossed 8 = .ok (.iadd, 1) := by decide +kernel
theorem d_Mo_isCrossed_9 : decode b_Mo_isCrossed 9 = .ok (.istore_n 3, 1) := by decide +kernel
theorem d_Mo_isCrossed_10 : decode b_Mo_isCrossed 10 = .ok (.iload_n 3, 1) := by decide +kernel
theorem d_Mo_isCrossed_11 : decode b_Mo_isCrossed 11 = .ok (.iload_n 2, 1) := by decide +kernel
theorem d_Mo_isCrossed_12 : decode b_Mo_isCrossed 12 = .ok (.if_icmp .ge 30, 3) := by decide +kernel
theorem d_Mo_isCrossed_15 : decode b_Mo_isCrossed 15 = .ok (.iload_n 3, 1) := by decide +kernel
theorem d_Mo_isCrossed_16 : decode b_Mo_isCrossed 16 = .ok (.aload_n 0, 1) := by decide +kernel
theorem d_Mo_isCrossed_17 : decode b_Mo_isCrossed 17 = .ok (.getfield 44, 3) := by decide +kernel
theorem d_Mo_isCrossed_20 : decode b_Mo_isCrossed 20 = .ok (.if_icmp .ge 22, 3) := by decide +kernel
theorem d_Mo_isCrossed_23 : decode b_Mo_isCrossed 23 = .ok (.aload_n 0, 1) := by decide +kernel
theorem d_Mo_isCrossed_24 : decode b_Mo_isCrossed 24 = .ok (.getfield 7, 3) := by decide +kernel
theorem d_Mo_isCrossed_27 : decode b_Mo_isCrossed 27 = .ok (.iload_n 3, 1) := by decide +kernel
theorem d_Mo_isCrossed_28 : decode b_Mo_isCrossed 28 = .ok (.iaload, 1) := by decide +kernel
theorem d_Mo_isCrossed_29 : decode b_Mo_isCrossed 29 = .ok (.bipush 7, 2) := by decide +kernel
theorem d_Mo_isCrossed_31 : decode b_Mo_isCrossed 31 = .ok (.if_icmp .ne 5, 3) := by decide +kernel
theorem d_Mo_isCrossed_34 : decode b_Mo_isCrossed 34 = .ok (.iconst 1, 1) := by decide +kernel
theorem d_Mo_isCrossed_35 : decode b_Mo_isCrossed 35 = .ok (.ireturn, 1) := by decide +kernel
theorem d_Mo_isCrossed_36 : decode b_Mo_isCrossed 36 = .ok (.iinc 3 1, 3) := by decide +kernel
theorem d_Mo_isCrossed_39 : decode b_Mo_isCrossed 39 = .ok (.goto (-29), 3) := by decide +kernel
theorem d_Mo_isCrossed_42 : decode b_Mo_isCrossed 42 = .ok (.iconst 0, 1) := by decide +kernel
theorem d_Mo_isCrossed_43 : decode b_Mo_isCrossed 43 = .ok (.ireturn, 1) := by decide +kernel
theorem d_Mo_free_0 : decode b_Mo_free 0 = .ok (.iload_n 2, 1) := by decide +kernel
theorem d_Mo_free_1 : decode b_Mo_free 1 = .ok (.istore 4, 2) := by decide +kernel
theorem d_Mo_free_3 : decode b_Mo_free 3 = .ok (.iload 4, 2) := by decide +kernel
theorem d_Mo_free_5 : decode b_Mo_free 5 = .ok (.iload_n 3, 1) := by decide +kernel
theorem d_Mo_free_6 : decode b_Mo_free 6 = .ok (.if_icmp .ge 26, 3) := by decide +kernel
theorem d_Mo_free_9 : decode b_Mo_free 9 = .ok (.aload_n 0, 1) := by decide +kernel
theorem d_Mo_free_10 : decode b_Mo_free 10 = .ok (.iload_n 1, 1) := by decide +kernel
theorem d_Mo_free_11 : decode b_Mo_free 11 = .ok (.iload 4, 2) := by decide +kernel
theorem d_Mo_free_13 : decode b_Mo_free 13 = .ok (.invokevirtual 87, 3) := by decide +kernel
theorem d_Mo_free_16 : decode b_Mo_free 16 = .ok (.istore 5, 2) := by decide +kernel
theorem d_Mo_free_18 : decode b_Mo_free 18 = .ok (.iload 5, 2) := by decide +kernel
theorem d_Mo_free_20 : decode b_Mo_free 20 = .ok (.ifCond .eq 6, 3) := by decide +kernel
theorem d_Mo_free_23 : decode b_Mo_free 23 = .ok (.iload 4, 2) := by decide +kernel
theorem d_Mo_free_25 : decode b_Mo_free 25 = .ok (.ireturn, 1) := by decide +kernel
theorem d_Mo_free_26 : decode b_Mo_free 26 = .ok (.iinc 4 1, 3) := by decide +kernel
theorem d_Mo_free_29 : decode b_Mo_free 29 = .ok (.goto (-26), 3) := by decide +kernel
theorem d_Mo_free_32 : decode b_Mo_free 32 = .ok (.iconst (-1), 1) := by decide +kernel
theorem d_Mo_free_33 : decode b_Mo_free 33 = .ok (.ireturn, 1) := by decide +kernel
theorem d_Mo_isFree_0 : decode b_Mo_isFree 0 = .ok (.iconst 0, 1) := by decide +kernel
theorem d_Mo_isFree_1 : decode b_Mo_isFree 1 = .ok (.istore_n 3, 1) := by decide +kernel
theorem d_Mo_isFree_2 : decode b_Mo_isFree 2 = .ok (.iload_n 3, 1) := by decide +kernel
theorem d_Mo_isFree_3 : decode b_Mo_isFree 3 = .ok (.aload_n 0, 1) := by decide +kernel
theorem d_Mo_isFree_4 : decode b_Mo_isFree 4 = .ok (.getfield 44, 3) := by decide +kernel
theorem d_Mo_isFree_7 : decode b_Mo_isFree 7 = .ok (.if_icmp .ge 46, 3) := by decide +kernel
theorem d_Mo_isFree_10 : decode b_Mo_isFree 10 = .ok (.aload_n 0, 1) := by decide +kernel
theorem d_Mo_isFree_11 : decode b_Mo_isFree 11 = .ok (.getfield 25, 3) := by decide +kernel
theorem d_Mo_isFree_14 : decode b_Mo_isFree 14 = .ok (.iload_n 3, 1) := by decide +kernel
theorem d_Mo_isFree_15 : decode b_Mo_isFree 15 = .ok (.iaload, 1) := by decide +kernel
theorem d_Mo_isFree_16 : decode b_Mo_isFree 16 = .ok (.iload_n 2, 1) := by decide +kernel
theorem d_Mo_isFree_17 : decode b_Mo_isFree 17 = .ok (.if_icmp .ne 30, 3) := by decide +kernel
theorem d_Mo_isFree_20 : decode b_Mo_isFree 20 = .ok (.iload_n 3, 1) := by decide +kernel
theorem d_Mo_isFree_21 : decode b_Mo_isFree 21 = .ok (.iload_n 1, 1) := by decide +kernel
theorem d_Mo_isFree_22 : decode b_Mo_isFree 22 = .ok (.if_icmp .eq 25, 3) := by decide +kernel
theorem d_Mo_isFree_25 : decode b_Mo_isFree 25 = .ok (.aload_n 0, 1) := by decide +kernel
theorem d_Mo_isFree_26 : decode b_Mo_isFree 26 = .ok (.getfield 7, 3) := by decide +kernel
theorem d_Mo_isFree_29 : decode b_Mo_isFree 29 = .ok (.iload_n 3, 1) := by decide +kernel
theorem d_Mo_isFree_30 : decode b_Mo_isFree 30 = .ok (.iaload, 1) := by decide +kernel
theorem d_Mo_isFree_31 : decode b_Mo_isFree 31 = .ok (.bipush 6, 2) := by decide +kernel
theorem d_Mo_isFree_33 : decode b_Mo_isFree 33 = .ok (.if_icmp .eq 14, 3) := by decide +kernel
theorem d_Mo_isFree_36 : decode b_Mo_isFree 36 = .ok (.aload_n 0, 1) := by decide +kernel
theorem d_Mo_isFree_37 : decode b_Mo_isFree 37 = .ok (.iload_n 1, 1) := by decide +kernel
theorem d_Mo_isFree_38 : decode b_Mo_isFree 38 = .ok (.iload_n 3, 1) := by decide +kernel
theorem d_Mo_isFree_39 : decode b_Mo_isFree 39 = .ok (.invokevirtual 79, 3) := by decide +kernel
theorem d_Mo_isFree_42 : decode b_Mo_isFree 42 = .ok (.ifCond .eq 5, 3) := by decide +kernel
theorem d_Mo_isFree_45 : decode b_Mo_isFree 45 = .ok (.iconst 0, 1) := by decide +kernel
theorem d_Mo_isFree_46 : decode b_Mo_isFree 46 = .ok (.ireturn, 1) := by decide +kernel
theorem d_Mo_isFree_47 : decode b_Mo_isFree 47 = .ok (.iinc 3 1, 3) := by decide +kernel
theorem d_Mo_isFree_50 : decode b_Mo_isFree 50 = .ok (.goto (-48), 3) := by decide +kernel
theorem d_Mo_isFree_53 : decode b_Mo_isFree 53 = .ok (.iconst 1, 1) := by decide +kernel
theorem d_Mo_isFree_54 : decode b_Mo_isFree 54 = .ok (.ireturn, 1) := by decide +kernel
theorem d_Mo_meet_0 : decode b_Mo_meet 0 = .ok (.iload_n 1, 1) := by decide +kernel
theorem d_Mo_meet_1 : decode b_Mo_meet 1 = .ok (.aload_n 0, 1) := by decide +kernel
theorem d_Mo_meet_2 : decode b_Mo_meet 2 = .ok (.iload_n 2, 1) := by decide +kernel
theorem d_Mo_meet_3 : decode b_Mo_meet 3 = .ok (.invokevirtual 70, 3) := by decide +kernel
theorem d_Mo_meet_6 : decode b_Mo_meet 6 = .ok (.if_icmp .ge 16, 3) := by decide +kernel
theorem d_Mo_meet_9 : decode b_Mo_meet 9 = .ok (.iload_n 2, 1) := by decide +kernel
theorem d_Mo_meet_10 : decode b_Mo_meet 10 = .ok (.aload_n 0, 1) := by decide +kernel
theorem d_Mo_meet_11 : decode b_Mo_meet 11 = .ok (.iload_n 1, 1) := by decide +kernel
theorem d_Mo_meet_12 : decode b_Mo_meet 12 = .ok (.invokevirtual 70, 3) := by decide +kernel
theorem d_Mo_meet_15 : decode b_Mo_meet 15 = .ok (.if_icmp .ge 7, 3) := by decide +kernel
theorem d_Mo_meet_18 : decode b_Mo_meet 18 = .ok (.iconst 1, 1) := by decide +kernel
theorem d_Mo_meet_19 : decode b_Mo_meet 19 = .ok (.goto 4, 3) := by decide +kernel
theorem d_Mo_meet_22 : decode b_Mo_meet 22 = .ok (.iconst 0, 1) := by decide +kernel
theorem d_Mo_meet_23 : decode b_Mo_meet 23 = .ok (.ireturn, 1) := by decide +kernel
theorem d_Mo_heaviest_0 : decode b_Mo_heaviest 0 = .ok (.dconst 0, 1) := by decide +kernel
theorem d_Mo_heaviest_1 : decode b_Mo_heaviest 1 = .ok (.dstore_n 3, 1) := by decide +kernel
theorem d_Mo_heaviest_2 : decode b_Mo_heaviest 2 = .ok (.iconst 0, 1) := by decide +kernel
theorem d_Mo_heaviest_3 : decode b_Mo_heaviest 3 = .ok (.istore 5, 2) := by decide +kernel
theorem d_Mo_heaviest_5 : decode b_Mo_heaviest 5 = .ok (.iload 5, 2) := by decide +kernel
theorem d_Mo_heaviest_7 : decode b_Mo_heaviest 7 = .ok (.aload_n 0, 1) := by decide +kernel
theorem d_Mo_heaviest_8 : decode b_Mo_heaviest 8 = .ok (.getfield 44, 3) := by decide +kernel
theorem d_Mo_heaviest_11 : decode b_Mo_heaviest 11 = .ok (.if_icmp .ge 69, 3) := by decide +kernel
theorem d_Mo_heaviest_14 : decode b_Mo_heaviest 14 = .ok (.aload_n 0, 1) := by decide +kernel
theorem d_Mo_heaviest_15 : decode b_Mo_heaviest 15 = .ok (.getfield 25, 3) := by decide +kernel
theorem d_Mo_heaviest_18 : decode b_Mo_heaviest 18 = .ok (.iload 5, 2) := by decide +kernel
theorem d_Mo_heaviest_20 : decode b_Mo_heaviest 20 = .ok (.iaload, 1) := by decide +kernel
theorem d_Mo_heaviest_21 : decode b_Mo_heaviest 21 = .ok (.iload_n 2, 1) := by decide +kernel
theorem d_Mo_heaviest_22 : decode b_Mo_heaviest 22 = .ok (.if_icmp .ne 52, 3) := by decide +kernel
theorem d_Mo_heaviest_25 : decode b_Mo_heaviest 25 = .ok (.iload 5, 2) := by decide +kernel
theorem d_Mo_heaviest_27 : decode b_Mo_heaviest 27 = .ok (.iload_n 1, 1) := by decide +kernel
theorem d_Mo_heaviest_28 : decode b_Mo_heaviest 28 = .ok (.if_icmp .eq 46, 3) := by decide +kernel
theorem d_Mo_heaviest_31 : decode b_Mo_heaviest 31 = .ok (.aload_n 0, 1) := by decide +kernel
theorem d_Mo_heaviest_32 : decode b_Mo_heaviest 32 = .ok (.getfield 7, 3) := by decide +kernel
theorem d_Mo_heaviest_35 : decode b_Mo_heaviest 35 = .ok (.iload 5, 2) := by decide +kernel
theorem d_Mo_heaviest_37 : decode b_Mo_heaviest 37 = .ok (.iaload, 1) := by decide +kernel
theorem d_Mo_heaviest_38 : decode b_Mo_heaviest 38 = .ok (.bipush 6, 2) := by decide +kernel
theorem d_Mo_heaviest_40 : decode b_Mo_heaviest 40 = .ok (.if_icmp .eq 34, 3) := by decide +kernel
theorem d_Mo_heaviest_43 : decode b_Mo_heaviest 43 = .ok (.aload_n 0, 1) := by decide +kernel
theorem d_Mo_heaviest_44 : decode b_Mo_heaviest 44 = .ok (.iload_n 1, 1) := by decide +kernel
theorem d_Mo_heaviest_45 : decode b_Mo_heaviest 45 = .ok (.iload 5, 2) := by decide +kernel
theorem d_Mo_heaviest_47 : decode b_Mo_heaviest 47 = .ok (.invokevirtual 79, 3) := by decide +kernel
theorem d_Mo_heaviest_50 : decode b_Mo_heaviest 50 = .ok (.ifCond .ne 6, 3) := by decide +kernel
theorem d_Mo_heaviest_53 : decode b_Mo_heaviest 53 = .ok (.goto 21, 3) := by decide +kernel
theorem d_Mo_heaviest_56 : decode b_Mo_heaviest 56 = .ok (.aload_n 0, 1) := by decide +kernel
theorem d_Mo_heaviest_57 : decode b_Mo_heaviest 57 = .ok (.iload 5, 2) := by decide +kernel
theorem d_Mo_heaviest_59 : decode b_Mo_heaviest 59 = .ok (.invokevirtual 83, 3) := by decide +kernel
theorem d_Mo_heaviest_62 : decode b_Mo_heaviest 62 = .ok (.dstore 6, 2) := by decide +kernel
theorem d_Mo_heaviest_64 : decode b_Mo_heaviest 64 = .ok (.dload 6, 2) := by decide +kernel
theorem d_Mo_heaviest_66 : decode b_Mo_heaviest 66 = .ok (.dload_n 3, 1) := by decide +kernel
theorem d_Mo_heaviest_67 : decode b_Mo_heaviest 67 = .ok (.dcmp .l, 1) := by decide +kernel
theorem d_Mo_heaviest_68 : decode b_Mo_heaviest 68 = .ok (.ifCond .le 6, 3) := by decide +kernel
theorem d_Mo_heaviest_71 : decode b_Mo_heaviest 71 = .ok (.dload 6, 2) := by decide +kernel
theorem d_Mo_heaviest_73 : decode b_Mo_heaviest 73 = .ok (.dstore_n 3, 1) := by decide +kernel
theorem d_Mo_heaviest_74 : decode b_Mo_heaviest 74 = .ok (.iinc 5 1, 3) := by decide +kernel
theorem d_Mo_heaviest_77 : decode b_Mo_heaviest 77 = .ok (.goto (-72), 3) := by decide +kernel
theorem d_Mo_heaviest_80 : decode b_Mo_heaviest 80 = .ok (.dload_n 3, 1) := by decide +kernel
theorem d_Mo_heaviest_81 : decode b_Mo_heaviest 81 = .ok (.dreturn, 1) := by decide +kernel
theorem d_Mo_heavy_0 : decode b_Mo_heavy 0 = .ok (.aload_n 0, 1) := by decide +kernel
theorem d_Mo_heavy_1 : decode b_Mo_heavy 1 = .ok (.iload_n 1, 1) := by decide +kernel
theorem d_Mo_heavy_2 : decode b_Mo_heavy 2 = .ok (.invokevirtual 76, 3) := by decide +kernel
theorem d_Mo_heavy_5 : decode b_Mo_heavy 5 = .ok (.i2d, 1) := by decide +kernel
theorem d_Mo_heavy_6 : decode b_Mo_heavy 6 = .ok (.aload_n 0, 1) := by decide +kernel
theorem d_Mo_heavy_7 : decode b_Mo_heavy 7 = .ok (.iload_n 1, 1) := by decide +kernel
theorem d_Mo_heavy_8 : decode b_Mo_heavy 8 = .ok (.invokevirtual 70, 3) := by decide +kernel
theorem d_Mo_heavy_11 : decode b_Mo_heavy 11 = .ok (.iload_n 1, 1) := by decide +kernel
theorem d_Mo_heavy_12 : decode b_Mo_heavy 12 = .ok (.isub, 1) := by decide +kernel
theorem d_Mo_heavy_13 : decode b_Mo_heavy 13 = .ok (.i2d, 1) := by decide +kernel
theorem d_Mo_heavy_14 : decode b_Mo_heavy 14 = .ok (.ddiv, 1) := by decide +kernel
theorem d_Mo_heavy_15 : decode b_Mo_heavy 15 = .ok (.dreturn, 1) := by decide +kernel
theorem d_Mo_sum_0 : decode b_Mo_sum 0 = .ok (.aload_n 0, 1) := by decide +kernel
theorem d_Mo_sum_1 : decode b_Mo_sum 1 = .ok (.getfield 19, 3) := by decide +kernel
theorem d_Mo_sum_4 : decode b_Mo_sum 4 = .ok (.iload_n 1, 1) := by decide +kernel
theorem d_Mo_sum_5 : decode b_Mo_sum 5 = .ok (.iaload, 1) := by decide +kernel
theorem d_Mo_sum_6 : decode b_Mo_sum 6 = .ok (.invokestatic 73, 3) := by decide +kernel
theorem d_Mo_sum_9 : decode b_Mo_sum 9 = .ok (.istore_n 2, 1) := by decide +kernel
theorem d_Mo_sum_10 : decode b_Mo_sum 10 = .ok (.iload_n 1, 1) := by decide +kernel
theorem d_Mo_sum_11 : decode b_Mo_sum 11 = .ok (.iconst 1, 1) := by decide +kernel
theorem d_Mo_sum_12 : decode b_Mo_sum 12 = .ok (.iadd, 1) := by decide +kernel
theorem d_Mo_sum_13 : decode b_Mo_sum 13 = .ok (.istore_n 3, 1) := by decide +kernel
theorem d_Mo_sum_14 : decode b_Mo_sum 14 = .ok (.iload_n 3, 1) := by decide +kernel
theorem d_Mo_sum_15 : decode b_Mo_sum 15 = .ok (.aload_n 0, 1) := by decide +kernel
theorem d_Mo_sum_16 : decode b_Mo_sum 16 = .ok (.getfield 44, 3) := by decide +kernel
theorem d_Mo_sum_19 : decode b_Mo_sum 19 = .ok (.if_icmp .ge 28, 3) := by decide +kernel
theorem d_Mo_sum_22 : decode b_Mo_sum 22 = .ok (.iload_n 2, 1) := by decide +kernel
theorem d_Mo_sum_23 : decode b_Mo_sum 23 = .ok (.aload_n 0, 1) := by decide +kernel
theorem d_Mo_sum_24 : decode b_Mo_sum 24 = .ok (.iload_n 3, 1) := by decide +kernel
theorem d_Mo_sum_25 : decode b_Mo_sum 25 = .ok (.iload_n 1, 1) := by decide +kernel
theorem d_Mo_sum_26 : decode b_Mo_sum 26 = .ok (.invokevirtual 66, 3) := by decide +kernel
theorem d_Mo_sum_29 : decode b_Mo_sum 29 = .ok (.aload_n 0, 1) := by decide +kernel
theorem d_Mo_sum_30 : decode b_Mo_sum 30 = .ok (.getfield 19, 3) := by decide +kernel
theorem d_Mo_sum_33 : decode b_Mo_sum 33 = .ok (.iload_n 3, 1) := by decide +kernel
theorem d_Mo_sum_34 : decode b_Mo_sum 34 = .ok (.iaload, 1) := by decide +kernel
theorem d_Mo_sum_35 : decode b_Mo_sum 35 = .ok (.invokestatic 73, 3) := by decide +kernel
theorem d_Mo_sum_38 : decode b_Mo_sum 38 = .ok (.imul, 1) := by decide +kernel
theorem d_Mo_sum_39 : decode b_Mo_sum 39 = .ok (.iadd, 1) := by decide +kernel
theorem d_Mo_sum_40 : decode b_Mo_sum 40 = .ok (.istore_n 2, 1) := by decide +kernel
theorem d_Mo_sum_41 : decode b_Mo_sum 41 = .ok (.iinc 3 1, 3) := by decide +kernel
theorem d_Mo_sum_44 : decode b_Mo_sum 44 = .ok (.goto (-30), 3) := by decide +kernel
theorem d_Mo_sum_47 : decode b_Mo_sum 47 = .ok (.iload_n 2, 1) := by decide +kernel
theorem d_Mo_sum_48 : decode b_Mo_sum 48 = .ok (.ireturn, 1) := by decide +kernel
theorem d_Mo_price_0 : decode b_Mo_price 0 = .ok (.iload_n 0, 1) := by decide +kernel
theorem d_Mo_price_1 : decode b_Mo_price 1 = .ok (.ifCond .ne 7, 3) := by decide +kernel
theorem d_Mo_price_4 : decode b_Mo_price 4 = .ok (.iconst 1, 1) := by decide +kernel
theorem d_Mo_price_5 : decode b_Mo_price 5 = .ok (.goto 26, 3) := by decide +kernel
theorem d_Mo_price_8 : decode b_Mo_price 8 = .ok (.iload_n 0, 1) := by decide +kernel
theorem d_Mo_price_9 : decode b_Mo_price 9 = .ok (.iconst 1, 1) := by decide +kernel
theorem d_Mo_price_10 : decode b_Mo_price 10 = .ok (.if_icmp .ne 8, 3) := by decide +kernel
theorem d_Mo_price_13 : decode b_Mo_price 13 = .ok (.bipush 10, 2) := by decide +kernel
theorem d_Mo_price_15 : decode b_Mo_price 15 = .ok (.goto 16, 3) := by decide +kernel
theorem d_Mo_price_18 : decode b_Mo_price 18 = .ok (.iload_n 0, 1) := by decide +kernel
theorem d_Mo_price_19 : decode b_Mo_price 19 = .ok (.iconst 2, 1) := by decide +kernel
theorem d_Mo_price_20 : decode b_Mo_price 20 = .ok (.if_icmp .ne 8, 3) := by decide +kernel
theorem d_Mo_price_23 : decode b_Mo_price 23 = .ok (.bipush 100, 2) := by decide +kernel
theorem d_Mo_price_25 : decode b_Mo_price 25 = .ok (.goto 6, 3) := by decide +kernel
theorem d_Mo_price_28 : decode b_Mo_price 28 = .ok (.sipush 1000, 3) := by decide +kernel
theorem d_Mo_price_31 : decode b_Mo_price 31 = .ok (.ireturn, 1) := by decide +kernel
theorem d_Mo_place_0 : decode b_Mo_place 0 = .ok (.aload_n 0, 1) := by decide +kernel
theorem d_Mo_place_1 : decode b_Mo_place 1 = .ok (.iload_n 1, 1) := by decide +kernel
theorem d_Mo_place_2 : decode b_Mo_place 2 = .ok (.invokevirtual 51, 3) := by decide +kernel
theorem d_Mo_place_5 : decode b_Mo_place 5 = .ok (.istore_n 2, 1) := by decide +kernel
theorem d_Mo_place_6 : decode b_Mo_place 6 = .ok (.aload_n 0, 1) := by decide +kernel
theorem d_Mo_place_7 : decode b_Mo_place 7 = .ok (.iload_n 2, 1) := by decide +kernel
theorem d_Mo_place_8 : decode b_Mo_place 8 = .ok (.ifCond .ne 7, 3) := by decide +kernel
theorem d_Mo_place_11 : decode b_Mo_place 11 = .ok (.iconst 1, 1) := by decide +kernel
theorem d_Mo_place_12 : decode b_Mo_place 12 = .ok (.goto 15, 3) := by decide +kernel
theorem d_Mo_place_15 : decode b_Mo_place 15 = .ok (.aload_n 0, 1) := by decide +kernel
theorem d_Mo_place_16 : decode b_Mo_place 16 = .ok (.getfield 62, 3) := by decide +kernel
theorem d_Mo_place_19 : decode b_Mo_place 19 = .ok (.ifCond .ne 7, 3) := by decide +kernel
theorem d_Mo_place_22 : decode b_Mo_place 22 = .ok (.iconst 2, 1) := by decide +kernel
theorem d_Mo_place_23 : decode b_Mo_place 23 = .ok (.goto 4, 3) := by decide +kernel
theorem d_Mo_place_26 : decode b_Mo_place 26 = .ok (.iconst 0, 1) := by decide +kernel
theorem d_Mo_place_27 : decode b_Mo_place 27 = .ok (.putfield 40, 3) := by decide +kernel
theorem d_Mo_place_30 : decode b_Mo_place 30 = .ok (.aload_n 0, 1) := by decide +kernel
theorem d_Mo_place_31 : decode b_Mo_place 31 = .ok (.getfield 40, 3) := by decide +kernel
theorem d_Mo_place_34 : decode b_Mo_place 34 = .ok (.ifCond .le 7, 3) := by decide +kernel
theorem d_Mo_place_37 : decode b_Mo_place 37 = .ok (.iconst 0, 1) := by decide +kernel
theorem d_Mo_place_38 : decode b_Mo_place 38 = .ok (.goto 9, 3) := by decide +kernel
theorem d_Mo_place_41 : decode b_Mo_place 41 = .ok (.aload_n 0, 1) := by decide +kernel
theorem d_Mo_place_42 : decode b_Mo_place 42 = .ok (.getfield 22, 3) := by decide +kernel
theorem d_Mo_place_45 : decode b_Mo_place 45 = .ok (.iload_n 1, 1) := by decide +kernel
theorem d_Mo_place_46 : decode b_Mo_place 46 = .ok (.iaload, 1) := by decide +kernel
theorem d_Mo_place_47 : decode b_Mo_place 47 = .ok (.ireturn, 1) := by decide +kernel
theorem d_Mo_weight_0 : decode b_Mo_weight 0 = .ok (.aload_n 0, 1) := by decide +kernel
theorem d_Mo_weight_1 : decode b_Mo_weight 1 = .ok (.iload_n 1, 1) := by decide +kernel
theorem d_Mo_weight_2 : decode b_Mo_weight 2 = .ok (.invokevirtual 51, 3) := by decide +kernel
theorem d_Mo_weight_5 : decode b_Mo_weight 5 = .ok (.istore_n 2, 1) := by decide +kernel
theorem d_Mo_weight_6 : decode b_Mo_weight 6 = .ok (.aload_n 0, 1) := by decide +kernel
theorem d_Mo_weight_7 : decode b_Mo_weight 7 = .ok (.iload_n 2, 1) := by decide +kernel
theorem d_Mo_weight_8 : decode b_Mo_weight 8 = .ok (.ifCond .eq 7, 3) := by decide +kernel
theorem d_Mo_weight_11 : decode b_Mo_weight 11 = .ok (.iconst 0, 1) := by decide +kernel
theorem d_Mo_weight_12 : decode b_Mo_weight 12 = .ok (.goto 4, 3) := by decide +kernel
theorem d_Mo_weight_15 : decode b_Mo_weight 15 = .ok (.iconst 1, 1) := by decide +kernel
theorem d_Mo_weight_16 : decode b_Mo_weight 16 = .ok (.putfield 40, 3) := by decide +kernel
theorem d_Mo_weight_19 : decode b_Mo_weight 19 = .ok (.aload_n 0, 1) := by decide +kernel
theorem d_Mo_weight_20 : decode b_Mo_weight 20 = .ok (.getfield 40, 3) := by decide +kernel
theorem d_Mo_weight_23 : decode b_Mo_weight 23 = .ok (.ifCond .le 7, 3) := by decide +kernel
theorem d_Mo_weight_26 : decode b_Mo_weight 26 = .ok (.dconst 0, 1) := by decide +kernel
theorem d_Mo_weight_27 : decode b_Mo_weight 27 = .ok (.goto 8, 3) := by decide +kernel
theorem d_Mo_weight_30 : decode b_Mo_weight 30 = .ok (.aload_n 0, 1) := by decide +kernel
theorem d_Mo_weight_31 : decode b_Mo_weight 31 = .ok (.iload_n 1, 1) := by decide +kernel
theorem d_Mo_weight_32 : decode b_Mo_weight 32 = .ok (.invokevirtual 83, 3) := by decide +kernel
theorem d_Mo_weight_35 : decode b_Mo_weight 35 = .ok (.dreturn, 1) := by decide +kernel
theorem d_Mo_told_0 : decode b_Mo_told 0 = .ok (.aload_n 0, 1) := by decide +kernel
theorem d_Mo_told_1 : decode b_Mo_told 1 = .ok (.iload_n 1, 1) := by decide +kernel
theorem d_Mo_told_2 : decode b_Mo_told 2 = .ok (.invokevirtual 51, 3) := by decide +kernel
theorem d_Mo_told_5 : decode b_Mo_told 5 = .ok (.istore_n 3, 1) := by decide +kernel
theorem d_Mo_told_6 : decode b_Mo_told 6 = .ok (.aload_n 0, 1) := by decide +kernel
theorem d_Mo_told_7 : decode b_Mo_told 7 = .ok (.iload_n 2, 1) := by decide +kernel
theorem d_Mo_told_8 : decode b_Mo_told 8 = .ok (.iconst 0, 1) := by decide +kernel
theorem d_Mo_told_9 : decode b_Mo_told 9 = .ok (.iconst 3, 1) := by decide +kernel
theorem d_Mo_told_10 : decode b_Mo_told 10 = .ok (.invokestatic 47, 3) := by decide +kernel
theorem d_Mo_told_13 : decode b_Mo_told 13 = .ok (.ifCond .ne 7, 3) := by decide +kernel
theorem d_Mo_told_16 : decode b_Mo_told 16 = .ok (.iconst 1, 1) := by decide +kernel
theorem d_Mo_told_17 : decode b_Mo_told 17 = .ok (.goto 12, 3) := by decide +kernel
theorem d_Mo_told_20 : decode b_Mo_told 20 = .ok (.iload_n 3, 1) := by decide +kernel
theorem d_Mo_told_21 : decode b_Mo_told 21 = .ok (.ifCond .ne 7, 3) := by decide +kernel
theorem d_Mo_told_24 : decode b_Mo_told 24 = .ok (.iconst 2, 1) := by decide +kernel
theorem d_Mo_told_25 : decode b_Mo_told 25 = .ok (.goto 4, 3) := by decide +kernel
theorem d_Mo_told_28 : decode b_Mo_told 28 = .ok (.iconst 0, 1) := by decide +kernel
theorem d_Mo_told_29 : decode b_Mo_told 29 = .ok (.putfield 40, 3) := by decide +kernel
theorem d_Mo_told_32 : decode b_Mo_told 32 = .ok (.aload_n 0, 1) := by decide +kernel
theorem d_Mo_told_33 : decode b_Mo_told 33 = .ok (.getfield 40, 3) := by decide +kernel
theorem d_Mo_told_36 : decode b_Mo_told 36 = .ok (.ifCond .le 5, 3) := by decide +kernel
theorem d_Mo_told_39 : decode b_Mo_told 39 = .ok (.iconst 0, 1) := by decide +kernel
theorem d_Mo_told_40 : decode b_Mo_told 40 = .ok (.ireturn, 1) := by decide +kernel
theorem d_Mo_told_41 : decode b_Mo_told 41 = .ok (.iconst 0, 1) := by decide +kernel
theorem d_Mo_told_42 : decode b_Mo_told 42 = .ok (.istore 4, 2) := by decide +kernel
theorem d_Mo_told_44 : decode b_Mo_told 44 = .ok (.iconst 0, 1) := by decide +kernel
theorem d_Mo_told_45 : decode b_Mo_told 45 = .ok (.istore 5, 2) := by decide +kernel
theorem d_Mo_told_47 : decode b_Mo_told 47 = .ok (.iconst 0, 1) := by decide +kernel
theorem d_Mo_told_48 : decode b_Mo_told 48 = .ok (.istore 6, 2) := by decide +kernel
theorem d_Mo_told_50 : decode b_Mo_told 50 = .ok (.iload 6, 2) := by decide +kernel
theorem d_Mo_told_52 : decode b_Mo_told 52 = .ok (.aload_n 0, 1) := by decide +kernel
theorem d_Mo_told_53 : decode b_Mo_told 53 = .ok (.getfield 44, 3) := by decide +kernel
theorem d_Mo_told_56 : decode b_Mo_told 56 = .ok (.if_icmp .ge 21, 3) := by decide +kernel
theorem d_Mo_told_59 : decode b_Mo_told 59 = .ok (.iload 4, 2) := by decide +kernel
theorem d_Mo_told_61 : decode b_Mo_told 61 = .ok (.aload_n 0, 1) := by decide +kernel
theorem d_Mo_told_62 : decode b_Mo_told 62 = .ok (.iload 6, 2) := by decide +kernel
theorem d_Mo_told_64 : decode b_Mo_told 64 = .ok (.iload_n 1, 1) := by decide +kernel
theorem d_Mo_told_65 : decode b_Mo_told 65 = .ok (.invokevirtual 66, 3) := by decide +kernel
theorem d_Mo_told_68 : decode b_Mo_told 68 = .ok (.iadd, 1) := by decide +kernel
theorem d_Mo_told_69 : decode b_Mo_told 69 = .ok (.istore 4, 2) := by decide +kernel
theorem d_Mo_told_71 : decode b_Mo_told 71 = .ok (.iinc 6 1, 3) := by decide +kernel
theorem d_Mo_told_74 : decode b_Mo_told 74 = .ok (.goto (-24), 3) := by decide +kernel
theorem d_Mo_told_77 : decode b_Mo_told 77 = .ok (.iconst 0, 1) := by decide +kernel
theorem d_Mo_told_78 : decode b_Mo_told 78 = .ok (.istore 6, 2) := by decide +kernel
theorem d_Mo_told_80 : decode b_Mo_told 80 = .ok (.iload 6, 2) := by decide +kernel
theorem d_Mo_told_82 : decode b_Mo_told 82 = .ok (.aload_n 0, 1) := by decide +kernel
theorem d_Mo_told_83 : decode b_Mo_told 83 = .ok (.getfield 44, 3) := by decide +kernel
theorem d_Mo_told_86 : decode b_Mo_told 86 = .ok (.if_icmp .ge 40, 3) := by decide +kernel
theorem d_Mo_told_89 : decode b_Mo_told 89 = .ok (.iload 6, 2) := by decide +kernel
theorem d_Mo_told_91 : decode b_Mo_told 91 = .ok (.iload_n 1, 1) := by decide +kernel
theorem d_Mo_told_92 : decode b_Mo_told 92 = .ok (.if_icmp .eq 28, 3) := by decide +kernel
theorem d_Mo_told_95 : decode b_Mo_told 95 = .ok (.aload_n 0, 1) := by decide +kernel
theorem d_Mo_told_96 : decode b_Mo_told 96 = .ok (.getfield 7, 3) := by decide +kernel
theorem d_Mo_told_99 : decode b_Mo_told 99 = .ok (.iload 6, 2) := by decide +kernel
theorem d_Mo_told_101 : decode b_Mo_told 101 = .ok (.iaload, 1) := by decide +kernel
theorem d_Mo_told_102 : decode b_Mo_told 102 = .ok (.bipush 6, 2) := by decide +kernel
theorem d_Mo_told_104 : decode b_Mo_told 104 = .ok (.if_icmp .eq 16, 3) := by decide +kernel
theorem d_Mo_told_107 : decode b_Mo_told 107 = .ok (.aload_n 0, 1) := by decide +kernel
theorem d_Mo_told_108 : decode b_Mo_told 108 = .ok (.iload_n 1, 1) := by decide +kernel
theorem d_Mo_told_109 : decode b_Mo_told 109 = .ok (.iload 6, 2) := by decide +kernel
theorem d_Mo_told_111 : decode b_Mo_told 111 = .ok (.invokevirtual 79, 3) := by decide +kernel
theorem d_Mo_told_114 : decode b_Mo_told 114 = .ok (.ifCond .eq 6, 3) := by decide +kernel
theorem d_Mo_told_117 : decode b_Mo_told 117 = .ok (.iinc 5 1, 3) := by decide +kernel
theorem d_Mo_told_120 : decode b_Mo_told 120 = .ok (.iinc 6 1, 3) := by decide +kernel
theorem d_Mo_told_123 : decode b_Mo_told 123 = .ok (.goto (-43), 3) := by decide +kernel
theorem d_Mo_told_126 : decode b_Mo_told 126 = .ok (.iload_n 2, 1) := by decide +kernel
theorem d_Mo_told_127 : decode b_Mo_told 127 = .ok (.ifCond .ne 11, 3) := by decide +kernel
theorem d_Mo_told_130 : decode b_Mo_told 130 = .ok (.aload_n 0, 1) := by decide +kernel
theorem d_Mo_told_131 : decode b_Mo_told 131 = .ok (.iload_n 1, 1) := by decide +kernel
theorem d_Mo_told_132 : decode b_Mo_told 132 = .ok (.invokevirtual 70, 3) := by decide +kernel
theorem d_Mo_told_135 : decode b_Mo_told 135 = .ok (.goto 36, 3) := by decide +kernel
theorem d_Mo_told_138 : decode b_Mo_told 138 = .ok (.iload_n 2, 1) := by decide +kernel
theorem d_Mo_told_139 : decode b_Mo_told 139 = .ok (.iconst 1, 1) := by decide +kernel
theorem d_Mo_told_140 : decode b_Mo_told 140 = .ok (.if_icmp .ne 8, 3) := by decide +kernel
theorem d_Mo_told_143 : decode b_Mo_told 143 = .ok (.iload 4, 2) := by decide +kernel
theorem d_Mo_told_145 : decode b_Mo_told 145 = .ok (.goto 26, 3) := by decide +kernel
theorem d_Mo_told_148 : decode b_Mo_told 148 = .ok (.iload_n 2, 1) := by decide +kernel
theorem d_Mo_told_149 : decode b_Mo_told 149 = .ok (.iconst 2, 1) := by decide +kernel
theorem d_Mo_told_150 : decode b_Mo_told 150 = .ok (.if_icmp .ne 19, 3) := by decide +kernel
theorem d_Mo_told_153 : decode b_Mo_told 153 = .ok (.aload_n 0, 1) := by decide +kernel
theorem d_Mo_told_154 : decode b_Mo_told 154 = .ok (.iload_n 1, 1) := by decide +kernel
theorem d_Mo_told_155 : decode b_Mo_told 155 = .ok (.invokevirtual 90, 3) := by decide +kernel
theorem d_Mo_told_158 : decode b_Mo_told 158 = .ok (.ifCond .eq 7, 3) := by decide +kernel
theorem d_Mo_told_161 : decode b_Mo_told 161 = .ok (.iconst 1, 1) := by decide +kernel
theorem d_Mo_told_162 : decode b_Mo_told 162 = .ok (.goto 9, 3) := by decide +kernel
theorem d_Mo_told_165 : decode b_Mo_told 165 = .ok (.iconst 0, 1) := by decide +kernel
theorem d_Mo_told_166 : decode b_Mo_told 166 = .ok (.goto 5, 3) := by decide +kernel
theorem d_Mo_told_169 : decode b_Mo_told 169 = .ok (.iload 5, 2) := by decide +kernel
theorem d_Mo_told_171 : decode b_Mo_told 171 = .ok (.ireturn, 1) := by decide +kernel
theorem d_Mo_cost_0 : decode b_Mo_cost 0 = .ok (.aload_n 0, 1) := by decide +kernel
theorem d_Mo_cost_1 : decode b_Mo_cost 1 = .ok (.aload_n 0, 1) := by decide +kernel
theorem d_Mo_cost_2 : decode b_Mo_cost 2 = .ok (.getfield 62, 3) := by decide +kernel
theorem d_Mo_cost_5 : decode b_Mo_cost 5 = .ok (.ifCond .eq 7, 3) := by decide +kernel
theorem d_Mo_cost_8 : decode b_Mo_cost 8 = .ok (.iconst 0, 1) := by decide +kernel
theorem d_Mo_cost_9 : decode b_Mo_cost 9 = .ok (.goto 4, 3) := by decide +kernel
theorem d_Mo_cost_12 : decode b_Mo_cost 12 = .ok (.iconst 1, 1) := by decide +kernel
theorem d_Mo_cost_13 : decode b_Mo_cost 13 = .ok (.putfield 40, 3) := by decide +kernel
theorem d_Mo_cost_16 : decode b_Mo_cost 16 = .ok (.aload_n 0, 1) := by decide +kernel
theorem d_Mo_cost_17 : decode b_Mo_cost 17 = .ok (.getfield 40, 3) := by decide +kernel
theorem d_Mo_cost_20 : decode b_Mo_cost 20 = .ok (.ifCond .le 5, 3) := by decide +kernel
theorem d_Mo_cost_23 : decode b_Mo_cost 23 = .ok (.dconst 0, 1) := by decide +kernel
theorem d_Mo_cost_24 : decode b_Mo_cost 24 = .ok (.dreturn, 1) := by decide +kernel
theorem d_Mo_cost_25 : decode b_Mo_cost 25 = .ok (.dconst 0, 1) := by decide +kernel
theorem d_Mo_cost_26 : decode b_Mo_cost 26 = .ok (.dstore_n 1, 1) := by decide +kernel
theorem d_Mo_cost_27 : decode b_Mo_cost 27 = .ok (.iconst 0, 1) := by decide +kernel
theorem d_Mo_cost_28 : decode b_Mo_cost 28 = .ok (.istore_n 3, 1) := by decide +kernel
theorem d_Mo_cost_29 : decode b_Mo_cost 29 = .ok (.iload_n 3, 1) := by decide +kernel
theorem d_Mo_cost_30 : decode b_Mo_cost 30 = .ok (.aload_n 0, 1) := by decide +kernel
theorem d_Mo_cost_31 : decode b_Mo_cost 31 = .ok (.getfield 44, 3) := by decide +kernel
theorem d_Mo_cost_34 : decode b_Mo_cost 34 = .ok (.if_icmp .ge 40, 3) := by decide +kernel
theorem d_Mo_cost_37 : decode b_Mo_cost 37 = .ok (.aload_n 0, 1) := by decide +kernel
theorem d_Mo_cost_38 : decode b_Mo_cost 38 = .ok (.getfield 7, 3) := by decide +kernel
theorem d_Mo_cost_41 : decode b_Mo_cost 41 = .ok (.iload_n 3, 1) := by decide +kernel
theorem d_Mo_cost_42 : decode b_Mo_cost 42 = .ok (.iaload, 1) := by decide +kernel
theorem d_Mo_cost_43 : decode b_Mo_cost 43 = .ok (.bipush 6, 2) := by decide +kernel
theorem d_Mo_cost_45 : decode b_Mo_cost 45 = .ok (.if_icmp .eq 23, 3) := by decide +kernel
theorem d_Mo_cost_48 : decode b_Mo_cost 48 = .ok (.aload_n 0, 1) := by decide +kernel
theorem d_Mo_cost_49 : decode b_Mo_cost 49 = .ok (.getfield 22, 3) := by decide +kernel
theorem d_Mo_cost_52 : decode b_Mo_cost 52 = .ok (.iload_n 3, 1) := by decide +kernel
theorem d_Mo_cost_53 : decode b_Mo_cost 53 = .ok (.iaload, 1) := by decide +kernel
theorem d_Mo_cost_54 : decode b_Mo_cost 54 = .ok (.bipush 9, 2) := by decide +kernel
theorem d_Mo_cost_56 : decode b_Mo_cost 56 = .ok (.if_icmp .le 12, 3) := by decide +kernel
theorem d_Mo_cost_59 : decode b_Mo_cost 59 = .ok (.dload_n 1, 1) := by decide +kernel
theorem d_Mo_cost_60 : decode b_Mo_cost 60 = .ok (.aload_n 0, 1) := by decide +kernel
theorem d_Mo_cost_61 : decode b_Mo_cost 61 = .ok (.iload_n 3, 1) := by decide +kernel
theorem d_Mo_cost_62 : decode b_Mo_cost 62 = .ok (.invokevirtual 76, 3) := by decide +kernel
theorem d_Mo_cost_65 : decode b_Mo_cost 65 = .ok (.i2d, 1) := by decide +kernel
theorem d_Mo_cost_66 : decode b_Mo_cost 66 = .ok (.dadd, 1) := by decide +kernel
theorem d_Mo_cost_67 : decode b_Mo_cost 67 = .ok (.dstore_n 1, 1) := by decide +kernel
theorem d_Mo_cost_68 : decode b_Mo_cost 68 = .ok (.iinc 3 1, 3) := by decide +kernel
theorem d_Mo_cost_71 : decode b_Mo_cost 71 = .ok (.goto (-42), 3) := by decide +kernel
theorem d_Mo_cost_74 : decode b_Mo_cost 74 = .ok (.dload_n 1, 1) := by decide +kernel
theorem d_Mo_cost_75 : decode b_Mo_cost 75 = .ok (.dreturn, 1) := by decide +kernel
theorem d_Mo_run_0 : decode b_Mo_run 0 = .ok (.aload_n 0, 1) := by decide +kernel
theorem d_Mo_run_1 : decode b_Mo_run 1 = .ok (.iload_n 1, 1) := by decide +kernel
theorem d_Mo_run_2 : decode b_Mo_run 2 = .ok (.iload_n 2, 1) := by decide +kernel
theorem d_Mo_run_3 : decode b_Mo_run 3 = .ok (.iload_n 3, 1) := by decide +kernel
theorem d_Mo_run_4 : decode b_Mo_run 4 = .ok (.iload 4, 2) := by decide +kernel
theorem d_Mo_run_6 : decode b_Mo_run 6 = .ok (.iconst 0, 1) := by decide +kernel
theorem d_Mo_run_7 : decode b_Mo_run 7 = .ok (.invokevirtual 127, 3) := by decide +kernel
theorem d_Mo_run_10 : decode b_Mo_run 10 = .ok (.istore 5, 2) := by decide +kernel
theorem d_Mo_run_12 : decode b_Mo_run 12 = .ok (.iload 5, 2) := by decide +kernel
theorem d_Mo_run_14 : decode b_Mo_run 14 = .ok (.ifCond .ne 9, 3) := by decide +kernel
theorem d_Mo_run_17 : decode b_Mo_run 17 = .ok (.aload_n 0, 1) := by decide +kernel
theorem d_Mo_run_18 : decode b_Mo_run 18 = .ok (.iconst 1, 1) := by decide +kernel
theorem d_Mo_run_19 : decode b_Mo_run 19 = .ok (.invokevirtual 58, 3) := by decide +kernel
theorem d_Mo_run_22 : decode b_Mo_run 22 = .ok (.ireturn, 1) := by decide +kernel
theorem d_Mo_run_23 : decode b_Mo_run 23 = .ok (.aload_n 0, 1) := by decide +kernel
theorem d_Mo_run_24 : decode b_Mo_run 24 = .ok (.iconst 0, 1) := by decide +kernel
theorem d_Mo_run_25 : decode b_Mo_run 25 = .ok (.putfield 40, 3) := by decide +kernel
theorem d_Mo_run_28 : decode b_Mo_run 28 = .ok (.aload_n 0, 1) := by decide +kernel
theorem d_Mo_run_29 : decode b_Mo_run 29 = .ok (.getfield 120, 3) := by decide +kernel
theorem d_Mo_run_32 : decode b_Mo_run 32 = .ok (.ireturn, 1) := by decide +kernel
theorem d_Mo_perform_0 : decode b_Mo_perform 0 = .ok (.aload_n 0, 1) := by decide +kernel
theorem d_Mo_perform_1 : decode b_Mo_perform 1 = .ok (.iconst 0, 1) := by decide +kernel
theorem d_Mo_perform_2 : decode b_Mo_perform 2 = .ok (.putfield 117, 3) := by decide +kernel
theorem d_Mo_perform_5 : decode b_Mo_perform 5 = .ok (.aload_n 0, 1) := by decide +kernel
theorem d_Mo_perform_6 : decode b_Mo_perform 6 = .ok (.iconst 0, 1) := by decide +kernel
theorem d_Mo_perform_7 : decode b_Mo_perform 7 = .ok (.putfield 120, 3) := by decide +kernel
theorem d_Mo_perform_10 : decode b_Mo_perform 10 = .ok (.iconst 0, 1) := by decide +kernel
theorem d_Mo_perform_11 : decode b_Mo_perform 11 = .ok (.istore 6, 2) := by decide +kernel
theorem d_Mo_perform_13 : decode b_Mo_perform 13 = .ok (.iload 6, 2) := by decide +kernel
theorem d_Mo_perform_15 : decode b_Mo_perform 15 = .ok (.bipush 16, 2) := by decide +kernel
theorem d_Mo_perform_17 : decode b_Mo_perform 17 = .ok (.if_icmp .ge 17, 3) := by decide +kernel
theorem d_Mo_perform_20 : decode b_Mo_perform 20 = .ok (.aload_n 0, 1) := by decide +kernel
theorem d_Mo_perform_21 : decode b_Mo_perform 21 = .ok (.getfield 31, 3) := by decide +kernel
theorem d_Mo_perform_24 : decode b_Mo_perform 24 = .ok (.iload 6, 2) := by decide +kernel
theorem d_Mo_perform_26 : decode b_Mo_perform 26 = .ok (.iconst 0, 1) := by decide +kernel
theorem d_Mo_perform_27 : decode b_Mo_perform 27 = .ok (.iastore, 1) := by decide +kernel
theorem d_Mo_perform_28 : decode b_Mo_perform 28 = .ok (.iinc 6 1, 3) := by decide +kernel
theorem d_Mo_perform_31 : decode b_Mo_perform 31 = .ok (.goto (-18), 3) := by decide +kernel
theorem d_Mo_perform_34 : decode b_Mo_perform 34 = .ok (.iconst 0, 1) := by decide +kernel
theorem d_Mo_perform_35 : decode b_Mo_perform 35 = .ok (.istore 6, 2) := by decide +kernel
theorem d_Mo_perform_37 : decode b_Mo_perform 37 = .ok (.iload 6, 2) := by decide +kernel
theorem d_Mo_perform_39 : decode b_Mo_perform 39 = .ok (.aload_n 0, 1) := by decide +kernel
theorem d_Mo_perform_40 : decode b_Mo_perform 40 = .ok (.getfield 44, 3) := by decide +kernel
theorem d_Mo_perform_43 : decode b_Mo_perform 43 = .ok (.if_icmp .ge 310, 3) := by decide +kernel
theorem d_Mo_perform_46 : decode b_Mo_perform 46 = .ok (.aload_n 0, 1) := by decide +kernel
theorem d_Mo_perform_47 : decode b_Mo_perform 47 = .ok (.getfield 7, 3) := by decide +kernel
theorem d_Mo_perform_50 : decode b_Mo_perform 50 = .ok (.iload 6, 2) := by decide +kernel
theorem d_Mo_perform_52 : decode b_Mo_perform 52 = .ok (.iaload, 1) := by decide +kernel
theorem d_Mo_perform_53 : decode b_Mo_perform 53 = .ok (.istore 7, 2) := by decide +kernel
theorem d_Mo_perform_55 : decode b_Mo_perform 55 = .ok (.iload 7, 2) := by decide +kernel
theorem d_Mo_perform_57 : decode b_Mo_perform 57 = .ok (.iconst 1, 1) := by decide +kernel
theorem d_Mo_perform_58 : decode b_Mo_perform 58 = .ok (.if_icmp .le 19, 3) := by decide +kernel
theorem d_Mo_perform_61 : decode b_Mo_perform 61 = .ok (.aload_n 0, 1) := by decide +kernel
theorem d_Mo_perform_62 : decode b_Mo_perform 62 = .ok (.aload_n 0, 1) := by decide +kernel
theorem d_Mo_perform_63 : decode b_Mo_perform 63 = .ok (.getfield 13, 3) := by decide +kernel
theorem d_Mo_perform_66 : decode b_Mo_perform 66 = .ok (.iload 6, 2) := by decide +kernel
theorem d_Mo_perform_68 : decode b_Mo_perform 68 = .ok (.iaload, 1) := by decide +kernel
theorem d_Mo_perform_69 : decode b_Mo_perform 69 = .ok (.iload 5, 2) := by decide +kernel
theorem d_Mo_perform_71 : decode b_Mo_perform 71 = .ok (.invokevirtual 123, 3) := by decide +kernel
theorem d_Mo_perform_74 : decode b_Mo_perform 74 = .ok (.goto 10, 3) := by decide +kernel
theorem d_Mo_perform_77 : decode b_Mo_perform 77 = .ok (.aload_n 0, 1) := by decide +kernel
theorem d_Mo_perform_78 : decode b_Mo_perform 78 = .ok (.getfield 13, 3) := by decide +kernel
theorem d_Mo_perform_81 : decode b_Mo_perform 81 = .ok (.iload 6, 2) := by decide +kernel
theorem d_Mo_perform_83 : decode b_Mo_perform 83 = .ok (.iaload, 1) := by decide +kernel
theorem d_Mo_perform_84 : decode b_Mo_perform 84 = .ok (.istore 8, 2) := by decide +kernel
theorem d_Mo_perform_86 : decode b_Mo_perform 86 = .ok (.iload 7, 2) := by decide +kernel
theorem d_Mo_perform_88 : decode b_Mo_perform 88 = .ok (.invokestatic 55, 3) := by decide +kernel
theorem d_Mo_perform_91 : decode b_Mo_perform 91 = .ok (.ifCond .eq 19, 3) := by decide +kernel
theorem d_Mo_perform_94 : decode b_Mo_perform 94 = .ok (.aload_n 0, 1) := by decide +kernel
theorem d_Mo_perform_95 : decode b_Mo_perform 95 = .ok (.aload_n 0, 1) := by decide +kernel
theorem d_Mo_perform_96 : decode b_Mo_perform 96 = .ok (.getfield 16, 3) := by decide +kernel
theorem d_Mo_perform_99 : decode b_Mo_perform 99 = .ok (.iload 6, 2) := by decide +kernel
theorem d_Mo_perform_101 : decode b_Mo_perform 101 = .ok (.iaload, 1) := by decide +kernel
theorem d_Mo_perform_102 : decode b_Mo_perform 102 = .ok (.iload 5, 2) := by decide +kernel
theorem d_Mo_perform_104 : decode b_Mo_perform 104 = .ok (.invokevirtual 123, 3) := by decide +kernel
theorem d_Mo_perform_107 : decode b_Mo_perform 107 = .ok (.goto 4, 3) := by decide +kernel
theorem d_Mo_perform_110 : decode b_Mo_perform 110 = .ok (.iconst 0, 1) := by decide +kernel
theorem d_Mo_perform_111 : decode b_Mo_perform 111 = .ok (.istore 9, 2) := by decide +kernel
theorem d_Mo_perform_113 : decode b_Mo_perform 113 = .ok (.iconst 0, 1) := by decide +kernel
theorem d_Mo_perform_114 : decode b_Mo_perform 114 = .ok (.istore 10, 2) := by decide +kernel
theorem d_Mo_perform_116 : decode b_Mo_perform 116 = .ok (.iload 7, 2) := by decide +kernel
theorem d_Mo_perform_118 : decode b_Mo_perform 118 = .ok (.iconst 5, 1) := by decide +kernel
theorem d_Mo_perform_119 : decode b_Mo_perform 119 = .ok (.if_icmp .ne 10, 3) := by decide +kernel
theorem d_Mo_perform_122 : decode b_Mo_perform 122 = .ok (.iload 9, 2) := by decide +kernel
theorem d_Mo_perform_124 : decode b_Mo_perform 124 = .ok (.ifCond .ne 5, 3) := by decide +kernel
theorem d_Mo_perform_127 : decode b_Mo_perform 127 = .ok (.iconst 0, 1) := by decide +kernel
theorem d_Mo_perform_128 : decode b_Mo_perform 128 = .ok (.ireturn, 1) := by decide +kernel
theorem d_Mo_perform_129 : decode b_Mo_perform 129 = .ok (.iload 7, 2) := by decide +kernel
theorem d_Mo_perform_131 : decode b_Mo_perform 131 = .ok (.bipush 6, 2) := by decide +kernel
theorem d_Mo_perform_133 : decode b_Mo_perform 133 = .ok (.if_icmp .ne 32, 3) := by decide +kernel
theorem d_Mo_perform_136 : decode b_Mo_perform 136 = .ok (.aload_n 0, 1) := by decide +kernel
theorem d_Mo_perform_137 : decode b_Mo_perform 137 = .ok (.getfield 34, 3) := by decide +kernel
theorem d_Mo_perform_140 : decode b_Mo_perform 140 = .ok (.aload_n 0, 1) := by decide +kernel
theorem d_Mo_perform_141 : decode b_Mo_perform 141 = .ok (.getfield 117, 3) := by decide +kernel
theorem d_Mo_perform_144 : decode b_Mo_perform 144 = .ok (.iload 8, 2) := by decide +kernel
theorem d_Mo_perform_146 : decode b_Mo_perform 146 = .ok (.iastore, 1) := by decide +kernel
theorem d_Mo_perform_147 : decode b_Mo_perform 147 = .ok (.aload_n 0, 1) := by decide +kernel
theorem d_Mo_perform_148 : decode b_Mo_perform 148 = .ok (.dup, 1) := by decide +kernel
theorem d_Mo_perform_149 : decode b_Mo_perform 149 = .ok (.getfield 117, 3) := by decide +kernel
theorem d_Mo_perform_152 : decode b_Mo_perform 152 = .ok (.iconst 1, 1) := by decide +kernel
theorem d_Mo_perform_153 : decode b_Mo_perform 153 = .ok (.iadd, 1) := by decide +kernel
theorem d_Mo_perform_154 : decode b_Mo_perform 154 = .ok (.putfield 117, 3) := by decide +kernel
theorem d_Mo_perform_157 : decode b_Mo_perform 157 = .ok (.aload_n 0, 1) := by decide +kernel
theorem d_Mo_perform_158 : decode b_Mo_perform 158 = .ok (.iconst 0, 1) := by decide +kernel
theorem d_Mo_perform_159 : decode b_Mo_perform 159 = .ok (.putfield 120, 3) := by decide +kernel
theorem d_Mo_perform_162 : decode b_Mo_perform 162 = .ok (.goto 185, 3) := by decide +kernel
theorem d_Mo_perform_165 : decode b_Mo_perform 165 = .ok (.iload 7, 2) := by decide +kernel
theorem d_Mo_perform_167 : decode b_Mo_perform 167 = .ok (.ifCond .ne 8, 3) := by decide +kernel
theorem d_Mo_perform_170 : decode b_Mo_perform 170 = .ok (.iload 8, 2) := by decide +kernel
theorem d_Mo_perform_172 : decode b_Mo_perform 172 = .ok (.goto 105, 3) := by decide +kernel
theorem d_Mo_perform_175 : decode b_Mo_perform 175 = .ok (.iload 7, 2) := by decide +kernel
theorem d_Mo_perform_177 : decode b_Mo_perform 177 = .ok (.iconst 1, 1) := by decide +kernel
theorem d_Mo_perform_178 : decode b_Mo_perform 178 = .ok (.if_icmp .ne 37, 3) := by decide +kernel
theorem d_Mo_perform_181 : decode b_Mo_perform 181 = .ok (.iload 8, 2) := by decide +kernel
theorem d_Mo_perform_183 : decode b_Mo_perform 183 = .ok (.ifCond .ne 7, 3) := by decide +kernel
theorem d_Mo_perform_186 : decode b_Mo_perform 186 = .ok (.iload_n 1, 1) := by decide +kernel
theorem d_Mo_perform_187 : decode b_Mo_perform 187 = .ok (.goto 90, 3) := by decide +kernel
theorem d_Mo_perform_190 : decode b_Mo_perform 190 = .ok (.iload 8, 2) := by decide +kernel
theorem d_Mo_perform_192 : decode b_Mo_perform 192 = .ok (.iconst 1, 1) := by decide +kernel
theorem d_Mo_perform_193 : decode b_Mo_perform 193 = .ok (.if_icmp .ne 7, 3) := by decide +kernel
theorem d_Mo_perform_196 : decode b_Mo_perform 196 = .ok (.iload_n 2, 1) := by decide +kernel
theorem d_Mo_perform_197 : decode b_Mo_perform 197 = .ok (.goto 80, 3) := by decide +kernel
theorem d_Mo_perform_200 : decode b_Mo_perform 200 = .ok (.iload 8, 2) := by decide +kernel
theorem d_Mo_perform_202 : decode b_Mo_perform 202 = .ok (.iconst 2, 1) := by decide +kernel
theorem d_Mo_perform_203 : decode b_Mo_perform 203 = .ok (.if_icmp .ne 7, 3) := by decide +kernel
theorem d_Mo_perform_206 : decode b_Mo_perform 206 = .ok (.iload_n 3, 1) := by decide +kernel
theorem d_Mo_perform_207 : decode b_Mo_perform 207 = .ok (.goto 70, 3) := by decide +kernel
theorem d_Mo_perform_210 : decode b_Mo_perform 210 = .ok (.iload 4, 2) := by decide +kernel
theorem d_Mo_perform_212 : decode b_Mo_perform 212 = .ok (.goto 65, 3) := by decide +kernel
theorem d_Mo_perform_215 : decode b_Mo_perform 215 = .ok (.iload 7, 2) := by decide +kernel
theorem d_Mo_perform_217 : decode b_Mo_perform 217 = .ok (.iconst 2, 1) := by decide +kernel
theorem d_Mo_perform_218 : decode b_Mo_perform 218 = .ok (.if_icmp .ne 11, 3) := by decide +kernel
theorem d_Mo_perform_221 : decode b_Mo_perform 221 = .ok (.iload 8, 2) := by decide +kernel
theorem d_Mo_perform_223 : decode b_Mo_perform 223 = .ok (.iload 9, 2) := by decide +kernel
theorem d_Mo_perform_225 : decode b_Mo_perform 225 = .ok (.iadd, 1) := by decide +kernel
theorem d_Mo_perform_226 : decode b_Mo_perform 226 = .ok (.goto 51, 3) := by decide +kernel
theorem d_Mo_perform_229 : decode b_Mo_perform 229 = .ok (.iload 7, 2) := by decide +kernel
theorem d_Mo_perform_231 : decode b_Mo_perform 231 = .ok (.iconst 3, 1) := by decide +kernel
theorem d_Mo_perform_232 : decode b_Mo_perform 232 = .ok (.if_icmp .ne 11, 3) := by decide +kernel
theorem d_Mo_perform_235 : decode b_Mo_perform 235 = .ok (.iload 8, 2) := by decide +kernel
theorem d_Mo_perform_237 : decode b_Mo_perform 237 = .ok (.iload 9, 2) := by decide +kernel
theorem d_Mo_perform_239 : decode b_Mo_perform 239 = .ok (.isub, 1) := by decide +kernel
theorem d_Mo_perform_240 : decode b_Mo_perform 240 = .ok (.goto 37, 3) := by decide +kernel
theorem d_Mo_perform_243 : decode b_Mo_perform 243 = .ok (.iload 7, 2) := by decide +kernel
theorem d_Mo_perform_245 : decode b_Mo_perform 245 = .ok (.iconst 4, 1) := by decide +kernel
theorem d_Mo_perform_246 : decode b_Mo_perform 246 = .ok (.if_icmp .ne 11, 3) := by decide +kernel
theorem d_Mo_perform_249 : decode b_Mo_perform 249 = .ok (.iload 8, 2) := by decide +kernel
theorem d_Mo_perform_251 : decode b_Mo_perform 251 = .ok (.iload 9, 2) := by decide +kernel
theorem d_Mo_perform_253 : decode b_Mo_perform 253 = .ok (.imul, 1) := by decide +kernel
theorem d_Mo_perform_254 : decode b_Mo_perform 254 = .ok (.goto 23, 3) := by decide +kernel
theorem d_Mo_perform_257 : decode b_Mo_perform 257 = .ok (.iload 7, 2) := by decide +kernel
theorem d_Mo_perform_259 : decode b_Mo_perform 259 = .ok (.iconst 5, 1) := by decide +kernel
theorem d_Mo_perform_260 : decode b_Mo_perform 260 = .ok (.if_icmp .ne 11, 3) := by decide +kernel
theorem d_Mo_perform_263 : decode b_Mo_perform 263 = .ok (.iload 8, 2) := by decide +kernel
theorem d_Mo_perform_265 : decode b_Mo_perform 265 = .ok (.iload 9, 2) := by decide +kernel
theorem d_Mo_perform_267 : decode b_Mo_perform 267 = .ok (.idiv, 1) := by decide +kernel
theorem d_Mo_perform_268 : decode b_Mo_perform 268 = .ok (.goto 9, 3) := by decide +kernel
theorem d_Mo_perform_271 : decode b_Mo_perform 271 = .ok (.iload 8, 2) := by decide +kernel
theorem d_Mo_perform_273 : decode b_Mo_perform 273 = .ok (.iconst 3, 1) := by decide +kernel
theorem d_Mo_perform_274 : decode b_Mo_perform 274 = .ok (.imul, 1) := by decide +kernel
theorem d_Mo_perform_275 : decode b_Mo_perform 275 = .ok (.iconst 1, 1) := by decide +kernel
theorem d_Mo_perform_276 : decode b_Mo_perform 276 = .ok (.iadd, 1) := by decide +kernel
theorem d_Mo_perform_277 : decode b_Mo_perform 277 = .ok (.istore 10, 2) := by decide +kernel
theorem d_Mo_perform_279 : decode b_Mo_perform 279 = .ok (.iconst 2, 1) := by decide +kernel
theorem d_Mo_perform_280 : decode b_Mo_perform 280 = .ok (.istore 11, 2) := by decide +kernel
theorem d_Mo_perform_282 : decode b_Mo_perform 282 = .ok (.iload 11, 2) := by decide +kernel
theorem d_Mo_perform_284 : decode b_Mo_perform 284 = .ok (.bipush 10, 2) := by decide +kernel
theorem d_Mo_perform_286 : decode b_Mo_perform 286 = .ok (.if_icmp .ge 24, 3) := by decide +kernel
theorem d_Mo_perform_289 : decode b_Mo_perform 289 = .ok (.iload 7, 2) := by decide +kernel
theorem d_Mo_perform_291 : decode b_Mo_perform 291 = .ok (.bipush 7, 2) := by decide +kernel
theorem d_Mo_perform_293 : decode b_Mo_perform 293 = .ok (.if_icmp .ne 17, 3) := by decide +kernel
theorem d_Mo_perform_296 : decode b_Mo_perform 296 = .ok (.aload_n 0, 1) := by decide +kernel
theorem d_Mo_perform_297 : decode b_Mo_perform 297 = .ok (.getfield 31, 3) := by decide +kernel
theorem d_Mo_perform_300 : decode b_Mo_perform 300 = .ok (.iload 11, 2) := by decide +kernel
theorem d_Mo_perform_302 : decode b_Mo_perform 302 = .ok (.iconst (-1), 1) := by decide +kernel
theorem d_Mo_perform_303 : decode b_Mo_perform 303 = .ok (.iastore, 1) := by decide +kernel
theorem d_Mo_perform_304 : decode b_Mo_perform 304 = .ok (.iinc 11 1, 3) := by decide +kernel
theorem d_Mo_perform_307 : decode b_Mo_perform 307 = .ok (.goto (-25), 3) := by decide +kernel
theorem d_Mo_perform_310 : decode b_Mo_perform 310 = .ok (.iload 5, 2) := by decide +kernel
theorem d_Mo_perform_312 : decode b_Mo_perform 312 = .ok (.ifCond .eq 20, 3) := by decide +kernel
theorem d_Mo_perform_315 : decode b_Mo_perform 315 = .ok (.aload_n 0, 1) := by decide +kernel
theorem d_Mo_perform_316 : decode b_Mo_perform 316 = .ok (.getfield 31, 3) := by decide +kernel
theorem d_Mo_perform_319 : decode b_Mo_perform 319 = .ok (.aload_n 0, 1) := by decide +kernel
theorem d_Mo_perform_320 : decode b_Mo_perform 320 = .ok (.getfield 22, 3) := by decide +kernel
theorem d_Mo_perform_323 : decode b_Mo_perform 323 = .ok (.iload 6, 2) := by decide +kernel
theorem d_Mo_perform_325 : decode b_Mo_perform 325 = .ok (.iaload, 1) := by decide +kernel
theorem d_Mo_perform_326 : decode b_Mo_perform 326 = .ok (.iload 10, 2) := by decide +kernel
theorem d_Mo_perform_328 : decode b_Mo_perform 328 = .ok (.iastore, 1) := by decide +kernel
theorem d_Mo_perform_329 : decode b_Mo_perform 329 = .ok (.goto 12, 3) := by decide +kernel
theorem d_Mo_perform_332 : decode b_Mo_perform 332 = .ok (.aload_n 0, 1) := by decide +kernel
theorem d_Mo_perform_333 : decode b_Mo_perform 333 = .ok (.getfield 28, 3) := by decide +kernel
theorem d_Mo_perform_336 : decode b_Mo_perform 336 = .ok (.iload 6, 2) := by decide +kernel
theorem d_Mo_perform_338 : decode b_Mo_perform 338 = .ok (.iload 10, 2) := by decide +kernel
theorem d_Mo_perform_340 : decode b_Mo_perform 340 = .ok (.iastore, 1) := by decide +kernel
theorem d_Mo_perform_341 : decode b_Mo_perform 341 = .ok (.aload_n 0, 1) := by decide +kernel
theorem d_Mo_perform_342 : decode b_Mo_perform 342 = .ok (.iload 10, 2) := by decide +kernel
theorem d_Mo_perform_344 : decode b_Mo_perform 344 = .ok (.putfield 120, 3) := by decide +kernel
theorem d_Mo_perform_347 : decode b_Mo_perform 347 = .ok (.iinc 6 1, 3) := by decide +kernel
theorem d_Mo_perform_350 : decode b_Mo_perform 350 = .ok (.goto (-313), 3) := by decide +kernel
theorem d_Mo_perform_353 : decode b_Mo_perform 353 = .ok (.iconst 1, 1) := by decide +kernel
theorem d_Mo_perform_354 : decode b_Mo_perform 354 = .ok (.ireturn, 1) := by decide +kernel
theorem d_Mo_taken_0 : decode b_Mo_taken 0 = .ok (.iload_n 2, 1) := by decide +kernel
theorem d_Mo_taken_1 : decode b_Mo_taken 1 = .ok (.ifCond .eq 17, 3) := by decide +kernel
theorem d_Mo_taken_4 : decode b_Mo_taken 4 = .ok (.aload_n 0, 1) := by decide +kernel
theorem d_Mo_taken_5 : decode b_Mo_taken 5 = .ok (.getfield 31, 3) := by decide +kernel
theorem d_Mo_taken_8 : decode b_Mo_taken 8 = .ok (.aload_n 0, 1) := by decide +kernel
theorem d_Mo_taken_9 : decode b_Mo_taken 9 = .ok (.getfield 22, 3) := by decide +kernel
theorem d_Mo_taken_12 : decode b_Mo_taken 12 = .ok (.iload_n 1, 1) := by decide +kernel
theorem d_Mo_taken_13 : decode b_Mo_taken 13 = .ok (.iaload, 1) := by decide +kernel
theorem d_Mo_taken_14 : decode b_Mo_taken 14 = .ok (.iaload, 1) := by decide +kernel
theorem d_Mo_taken_15 : decode b_Mo_taken 15 = .ok (.goto 9, 3) := by decide +kernel
theorem d_Mo_taken_18 : decode b_Mo_taken 18 = .ok (.aload_n 0, 1) := by decide +kernel
theorem d_Mo_taken_19 : decode b_Mo_taken 19 = .ok (.getfield 28, 3) := by decide +kernel
theorem d_Mo_taken_22 : decode b_Mo_taken 22 = .ok (.iload_n 1, 1) := by decide +kernel
theorem d_Mo_taken_23 : decode b_Mo_taken 23 = .ok (.iaload, 1) := by decide +kernel
theorem d_Mo_taken_24 : decode b_Mo_taken 24 = .ok (.ireturn, 1) := by decide +kernel
theorem d_Mo_go_0 : decode b_Mo_go 0 = .ok (.aload_n 0, 1) := by decide +kernel
theorem d_Mo_go_1 : decode b_Mo_go 1 = .ok (.getfield 62, 3) := by decide +kernel
theorem d_Mo_go_4 : decode b_Mo_go 4 = .ok (.ifCond .ne 9, 3) := by decide +kernel
theorem d_Mo_go_7 : decode b_Mo_go 7 = .ok (.aload_n 0, 1) := by decide +kernel
theorem d_Mo_go_8 : decode b_Mo_go 8 = .ok (.iconst 1, 1) := by decide +kernel
theorem d_Mo_go_9 : decode b_Mo_go 9 = .ok (.invokevirtual 58, 3) := by decide +kernel
theorem d_Mo_go_12 : decode b_Mo_go 12 = .ok (.ireturn, 1) := by decide +kernel
theorem d_Mo_go_13 : decode b_Mo_go 13 = .ok (.aload_n 0, 1) := by decide +kernel
theorem d_Mo_go_14 : decode b_Mo_go 14 = .ok (.iload_n 1, 1) := by decide +kernel
theorem d_Mo_go_15 : decode b_Mo_go 15 = .ok (.iload_n 2, 1) := by decide +kernel
theorem d_Mo_go_16 : decode b_Mo_go 16 = .ok (.iload_n 3, 1) := by decide +kernel
theorem d_Mo_go_17 : decode b_Mo_go 17 = .ok (.iload 4, 2) := by decide +kernel
theorem d_Mo_go_19 : decode b_Mo_go 19 = .ok (.iconst 1, 1) := by decide +kernel
theorem d_Mo_go_20 : decode b_Mo_go 20 = .ok (.invokevirtual 127, 3) := by decide +kernel
theorem d_Mo_go_23 : decode b_Mo_go 23 = .ok (.istore 5, 2) := by decide +kernel
theorem d_Mo_go_25 : decode b_Mo_go 25 = .ok (.iload 5, 2) := by decide +kernel
theorem d_Mo_go_27 : decode b_Mo_go 27 = .ok (.ifCond .ne 9, 3) := by decide +kernel
theorem d_Mo_go_30 : decode b_Mo_go 30 = .ok (.aload_n 0, 1) := by decide +kernel
theorem d_Mo_go_31 : decode b_Mo_go 31 = .ok (.iconst 2, 1) := by decide +kernel
theorem d_Mo_go_32 : decode b_Mo_go 32 = .ok (.invokevirtual 58, 3) := by decide +kernel
theorem d_Mo_go_35 : decode b_Mo_go 35 = .ok (.ireturn, 1) := by decide +kernel
theorem d_Mo_go_36 : decode b_Mo_go 36 = .ok (.aload_n 0, 1) := by decide +kernel
theorem d_Mo_go_37 : decode b_Mo_go 37 = .ok (.iconst 0, 1) := by decide +kernel
theorem d_Mo_go_38 : decode b_Mo_go 38 = .ok (.putfield 40, 3) := by decide +kernel
theorem d_Mo_go_41 : decode b_Mo_go 41 = .ok (.aload_n 0, 1) := by decide +kernel
theorem d_Mo_go_42 : decode b_Mo_go 42 = .ok (.getfield 120, 3) := by decide +kernel
theorem d_Mo_go_45 : decode b_Mo_go 45 = .ok (.ireturn, 1) := by decide +kernel
theorem d_Mo_same_0 : decode b_Mo_same 0 = .ok (.aload_n 0, 1) := by decide +kernel
theorem d_Mo_same_1 : decode b_Mo_same 1 = .ok (.aload_n 0, 1) := by decide +kernel
theorem d_Mo_same_2 : decode b_Mo_same 2 = .ok (.getfield 62, 3) := by decide +kernel
theorem d_Mo_same_5 : decode b_Mo_same 5 = .ok (.ifCond .eq 7, 3) := by decide +kernel
theorem d_Mo_same_8 : decode b_Mo_same 8 = .ok (.iconst 0, 1) := by decide +kernel
theorem d_Mo_same_9 : decode b_Mo_same 9 = .ok (.goto 4, 3) := by decide +kernel
theorem d_Mo_same_12 : decode b_Mo_same 12 = .ok (.iconst 1, 1) := by decide +kernel
theorem d_Mo_same_13 : decode b_Mo_same 13 = .ok (.putfield 40, 3) := by decide +kernel
theorem d_Mo_same_16 : decode b_Mo_same 16 = .ok (.aload_n 0, 1) := by decide +kernel
theorem d_Mo_same_17 : decode b_Mo_same 17 = .ok (.getfield 40, 3) := by decide +kernel
theorem d_Mo_same_20 : decode b_Mo_same 20 = .ok (.ifCond .le 5, 3) := by decide +kernel
theorem d_Mo_same_23 : decode b_Mo_same 23 = .ok (.iconst 0, 1) := by decide +kernel
theorem d_Mo_same_24 : decode b_Mo_same 24 = .ok (.ireturn, 1) := by decide +kernel
theorem d_Mo_same_25 : decode b_Mo_same 25 = .ok (.aload_n 0, 1) := by decide +kernel
theorem d_Mo_same_26 : decode b_Mo_same 26 = .ok (.iload_n 1, 1) := by decide +kernel
theorem d_Mo_same_27 : decode b_Mo_same 27 = .ok (.iload_n 2, 1) := by decide +kernel
theorem d_Mo_same_28 : decode b_Mo_same 28 = .ok (.iload_n 3, 1) := by decide +kernel
theorem d_Mo_same_29 : decode b_Mo_same 29 = .ok (.iload 4, 2) := by decide +kernel
theorem d_Mo_same_31 : decode b_Mo_same 31 = .ok (.iconst 0, 1) := by decide +kernel
theorem d_Mo_same_32 : decode b_Mo_same 32 = .ok (.invokevirtual 127, 3) := by decide +kernel
theorem d_Mo_same_35 : decode b_Mo_same 35 = .ok (.istore 5, 2) := by decide +kernel
theorem d_Mo_same_37 : decode b_Mo_same 37 = .ok (.aload_n 0, 1) := by decide +kernel
theorem d_Mo_same_38 : decode b_Mo_same 38 = .ok (.getfield 117, 3) := by decide +kernel
theorem d_Mo_same_41 : decode b_Mo_same 41 = .ok (.istore 6, 2) := by decide +kernel
theorem d_Mo_same_43 : decode b_Mo_same 43 = .ok (.aload_n 0, 1) := by decide +kernel
theorem d_Mo_same_44 : decode b_Mo_same 44 = .ok (.getfield 120, 3) := by decide +kernel
theorem d_Mo_same_47 : decode b_Mo_same 47 = .ok (.istore 7, 2) := by decide +kernel
theorem d_Mo_same_49 : decode b_Mo_same 49 = .ok (.iconst 0, 1) := by decide +kernel
theorem d_Mo_same_50 : decode b_Mo_same 50 = .ok (.istore 8, 2) := by decide +kernel
theorem d_Mo_same_52 : decode b_Mo_same 52 = .ok (.iload 8, 2) := by decide +kernel
theorem d_Mo_same_54 : decode b_Mo_same 54 = .ok (.iload 6, 2) := by decide +kernel
theorem d_Mo_same_56 : decode b_Mo_same 56 = .ok (.if_icmp .ge 23, 3) := by decide +kernel
theorem d_Mo_same_59 : decode b_Mo_same 59 = .ok (.aload_n 0, 1) := by decide +kernel
theorem d_Mo_same_60 : decode b_Mo_same 60 = .ok (.getfield 37, 3) := by decide +kernel
theorem d_Mo_same_63 : decode b_Mo_same 63 = .ok (.iload 8, 2) := by decide +kernel
theorem d_Mo_same_65 : decode b_Mo_same 65 = .ok (.aload_n 0, 1) := by decide +kernel
theorem d_Mo_same_66 : decode b_Mo_same 66 = .ok (.getfield 34, 3) := by decide +kernel
theorem d_Mo_same_69 : decode b_Mo_same 69 = .ok (.iload 8, 2) := by decide +kernel
theorem d_Mo_same_71 : decode b_Mo_same 71 = .ok (.iaload, 1) := by decide +kernel
theorem d_Mo_same_72 : decode b_Mo_same 72 = .ok (.iastore, 1) := by decide +kernel
theorem d_Mo_same_73 : decode b_Mo_same 73 = .ok (.iinc 8 1, 3) := by decide +kernel
theorem d_Mo_same_76 : decode b_Mo_same 76 = .ok (.goto (-24), 3) := by decide +kernel
theorem d_Mo_same_79 : decode b_Mo_same 79 = .ok (.aload_n 0, 1) := by decide +kernel
theorem d_Mo_same_80 : decode b_Mo_same 80 = .ok (.iload_n 1, 1) := by decide +kernel
theorem d_Mo_same_81 : decode b_Mo_same 81 = .ok (.iload_n 2, 1) := by decide +kernel
theorem d_Mo_same_82 : decode b_Mo_same 82 = .ok (.iload_n 3, 1) := by decide +kernel
theorem d_Mo_same_83 : decode b_Mo_same 83 = .ok (.iload 4, 2) := by decide +kernel
theorem d_Mo_same_85 : decode b_Mo_same 85 = .ok (.iconst 1, 1) := by decide +kernel
theorem d_Mo_same_86 : decode b_Mo_same 86 = .ok (.invokevirtual 127, 3) := by decide +kernel
theorem d_Mo_same_89 : decode b_Mo_same 89 = .ok (.istore 8, 2) := by decide +kernel
theorem d_Mo_same_91 : decode b_Mo_same 91 = .ok (.iload 5, 2) := by decide +kernel
theorem d_Mo_same_93 : decode b_Mo_same 93 = .ok (.iload 8, 2) := by decide +kernel
theorem d_Mo_same_95 : decode b_Mo_same 95 = .ok (.if_icmp .ne 26, 3) := by decide +kernel
theorem d_Mo_same_98 : decode b_Mo_same 98 = .ok (.iload 6, 2) := by decide +kernel
theorem d_Mo_same_100 : decode b_Mo_same 100 = .ok (.aload_n 0, 1) := by decide +kernel
theorem d_Mo_same_101 : decode b_Mo_same 101 = .ok (.getfield 117, 3) := by decide +kernel
theorem d_Mo_same_104 : decode b_Mo_same 104 = .ok (.if_icmp .ne 17, 3) := by decide +kernel
theorem d_Mo_same_107 : decode b_Mo_same 107 = .ok (.iload 5, 2) := by decide +kernel
theorem d_Mo_same_109 : decode b_Mo_same 109 = .ok (.ifCond .eq 14, 3) := by decide +kernel
theorem d_Mo_same_112 : decode b_Mo_same 112 = .ok (.iload 7, 2) := by decide +kernel
theorem d_Mo_same_114 : decode b_Mo_same 114 = .ok (.aload_n 0, 1) := by decide +kernel
theorem d_Mo_same_115 : decode b_Mo_same 115 = .ok (.getfield 120, 3) := by decide +kernel
theorem d_Mo_same_118 : decode b_Mo_same 118 = .ok (.if_icmp .eq 5, 3) := by decide +kernel
theorem d_Mo_same_121 : decode b_Mo_same 121 = .ok (.iconst 0, 1) := by decide +kernel
theorem d_Mo_same_122 : decode b_Mo_same 122 = .ok (.ireturn, 1) := by decide +kernel
theorem d_Mo_same_123 : decode b_Mo_same 123 = .ok (.iconst 0, 1) := by decide +kernel
theorem d_Mo_same_124 : decode b_Mo_same 124 = .ok (.istore 9, 2) := by decide +kernel
theorem d_Mo_same_126 : decode b_Mo_same 126 = .ok (.iload 9, 2) := by decide +kernel
theorem d_Mo_same_128 : decode b_Mo_same 128 = .ok (.iload 6, 2) := by decide +kernel
theorem d_Mo_same_130 : decode b_Mo_same 130 = .ok (.if_icmp .ge 28, 3) := by decide +kernel
theorem d_Mo_same_133 : decode b_Mo_same 133 = .ok (.aload_n 0, 1) := by decide +kernel
theorem d_Mo_same_134 : decode b_Mo_same 134 = .ok (.getfield 37, 3) := by decide +kernel
theorem d_Mo_same_137 : decode b_Mo_same 137 = .ok (.iload 9, 2) := by decide +kernel
theorem d_Mo_same_139 : decode b_Mo_same 139 = .ok (.iaload, 1) := by decide +kernel
theorem d_Mo_same_140 : decode b_Mo_same 140 = .ok (.aload_n 0, 1) := by decide +kernel
theorem d_Mo_same_141 : decode b_Mo_same 141 = .ok (.getfield 34, 3) := by decide +kernel
theorem d_Mo_same_144 : decode b_Mo_same 144 = .ok (.iload 9, 2) := by decide +kernel
theorem d_Mo_same_146 : decode b_Mo_same 146 = .ok (.iaload, 1) := by decide +kernel
theorem d_Mo_same_147 : decode b_Mo_same 147 = .ok (.if_icmp .eq 5, 3) := by decide +kernel
theorem d_Mo_same_150 : decode b_Mo_same 150 = .ok (.iconst 0, 1) := by decide +kernel
theorem d_Mo_same_151 : decode b_Mo_same 151 = .ok (.ireturn, 1) := by decide +kernel
theorem d_Mo_same_152 : decode b_Mo_same 152 = .ok (.iinc 9 1, 3) := by decide +kernel
theorem d_Mo_same_155 : decode b_Mo_same 155 = .ok (.goto (-29), 3) := by decide +kernel
theorem d_Mo_same_158 : decode b_Mo_same 158 = .ok (.iconst 1, 1) := by decide +kernel
theorem d_Mo_same_159 : decode b_Mo_same 159 = .ok (.ireturn, 1) := by decide +kernel
theorem d_Mo_said_0 : decode b_Mo_said 0 = .ok (.aload_n 0, 1) := by decide +kernel
theorem d_Mo_said_1 : decode b_Mo_said 1 = .ok (.iload_n 1, 1) := by decide +kernel
theorem d_Mo_said_2 : decode b_Mo_said 2 = .ok (.iconst 0, 1) := by decide +kernel
theorem d_Mo_said_3 : decode b_Mo_said 3 = .ok (.aload_n 0, 1) := by decide +kernel
theorem d_Mo_said_4 : decode b_Mo_said 4 = .ok (.getfield 117, 3) := by decide +kernel
theorem d_Mo_said_7 : decode b_Mo_said 7 = .ok (.iconst 1, 1) := by decide +kernel
theorem d_Mo_said_8 : decode b_Mo_said 8 = .ok (.isub, 1) := by decide +kernel
theorem d_Mo_said_9 : decode b_Mo_said 9 = .ok (.invokestatic 47, 3) := by decide +kernel
theorem d_Mo_said_12 : decode b_Mo_said 12 = .ok (.ifCond .eq 7, 3) := by decide +kernel
theorem d_Mo_said_15 : decode b_Mo_said 15 = .ok (.iconst 0, 1) := by decide +kernel
theorem d_Mo_said_16 : decode b_Mo_said 16 = .ok (.goto 4, 3) := by decide +kernel
theorem d_Mo_said_19 : decode b_Mo_said 19 = .ok (.iconst 1, 1) := by decide +kernel
theorem d_Mo_said_20 : decode b_Mo_said 20 = .ok (.putfield 40, 3) := by decide +kernel
theorem d_Mo_said_23 : decode b_Mo_said 23 = .ok (.aload_n 0, 1) := by decide +kernel
theorem d_Mo_said_24 : decode b_Mo_said 24 = .ok (.getfield 40, 3) := by decide +kernel
theorem d_Mo_said_27 : decode b_Mo_said 27 = .ok (.ifCond .le 7, 3) := by decide +kernel
theorem d_Mo_said_30 : decode b_Mo_said 30 = .ok (.iconst 0, 1) := by decide +kernel
theorem d_Mo_said_31 : decode b_Mo_said 31 = .ok (.goto 9, 3) := by decide +kernel
theorem d_Mo_said_34 : decode b_Mo_said 34 = .ok (.aload_n 0, 1) := by decide +kernel
theorem d_Mo_said_35 : decode b_Mo_said 35 = .ok (.getfield 34, 3) := by decide +kernel
theorem d_Mo_said_38 : decode b_Mo_said 38 = .ok (.iload_n 1, 1) := by decide +kernel
theorem d_Mo_said_39 : decode b_Mo_said 39 = .ok (.iaload, 1) := by decide +kernel
theorem d_Mo_said_40 : decode b_Mo_said 40 = .ok (.ireturn, 1) := by decide +kernel
theorem d_Mo_count_0 : decode b_Mo_count 0 = .ok (.iload_n 1, 1) := by decide +kernel
theorem d_Mo_count_1 : decode b_Mo_count 1 = .ok (.iconst 0, 1) := by decide +kernel
theorem d_Mo_count_2 : decode b_Mo_count 2 = .ok (.bipush 7, 2) := by decide +kernel
theorem d_Mo_count_4 : decode b_Mo_count 4 = .ok (.invokestatic 47, 3) := by decide +kernel
theorem d_Mo_count_7 : decode b_Mo_count 7 = .ok (.ifCond .ne 9, 3) := by decide +kernel
theorem d_Mo_count_10 : decode b_Mo_count 10 = .ok (.aload_n 0, 1) := by decide +kernel
theorem d_Mo_count_11 : decode b_Mo_count 11 = .ok (.iconst 1, 1) := by decide +kernel
theorem d_Mo_count_12 : decode b_Mo_count 12 = .ok (.invokevirtual 58, 3) := by decide +kernel
theorem d_Mo_count_15 : decode b_Mo_count 15 = .ok (.ireturn, 1) := by decide +kernel
theorem d_Mo_count_16 : decode b_Mo_count 16 = .ok (.aload_n 0, 1) := by decide +kernel
theorem d_Mo_count_17 : decode b_Mo_count 17 = .ok (.iconst 0, 1) := by decide +kernel
theorem d_Mo_count_18 : decode b_Mo_count 18 = .ok (.putfield 40, 3) := by decide +kernel
theorem d_Mo_count_21 : decode b_Mo_count 21 = .ok (.iconst 0, 1) := by decide +kernel
theorem d_Mo_count_22 : decode b_Mo_count 22 = .ok (.istore_n 2, 1) := by decide +kernel
theorem d_Mo_count_23 : decode b_Mo_count 23 = .ok (.iconst 0, 1) := by decide +kernel
theorem d_Mo_count_24 : decode b_Mo_count 24 = .ok (.istore_n 3, 1) := by decide +kernel
theorem d_Mo_count_25 : decode b_Mo_count 25 = .ok (.iconst 0, 1) := by decide +kernel
theorem d_Mo_count_26 : decode b_Mo_count 26 = .ok (.istore 4, 2) := by decide +kernel
theorem d_Mo_count_28 : decode b_Mo_count 28 = .ok (.iload 4, 2) := by decide +kernel
theorem d_Mo_count_30 : decode b_Mo_count 30 = .ok (.aload_n 0, 1) := by decide +kernel
theorem d_Mo_count_31 : decode b_Mo_count 31 = .ok (.getfield 44, 3) := by decide +kernel
theorem d_Mo_count_34 : decode b_Mo_count 34 = .ok (.if_icmp .ge 49, 3) := by decide +kernel
theorem d_Mo_count_37 : decode b_Mo_count 37 = .ok (.aload_n 0, 1) := by decide +kernel
theorem d_Mo_count_38 : decode b_Mo_count 38 = .ok (.getfield 7, 3) := by decide +kernel
theorem d_Mo_count_41 : decode b_Mo_count 41 = .ok (.iload 4, 2) := by decide +kernel
theorem d_Mo_count_43 : decode b_Mo_count 43 = .ok (.iaload, 1) := by decide +kernel
theorem d_Mo_count_44 : decode b_Mo_count 44 = .ok (.bipush 6, 2) := by decide +kernel
theorem d_Mo_count_46 : decode b_Mo_count 46 = .ok (.if_icmp .ne 6, 3) := by decide +kernel
theorem d_Mo_count_49 : decode b_Mo_count 49 = .ok (.goto 28, 3) := by decide +kernel
theorem d_Mo_count_52 : decode b_Mo_count 52 = .ok (.iinc 2 1, 3) := by decide +kernel
theorem d_Mo_count_55 : decode b_Mo_count 55 = .ok (.aload_n 0, 1) := by decide +kernel
theorem d_Mo_count_56 : decode b_Mo_count 56 = .ok (.getfield 62, 3) := by decide +kernel
theorem d_Mo_count_59 : decode b_Mo_count 59 = .ok (.ifCond .eq 18, 3) := by decide +kernel
theorem d_Mo_count_62 : decode b_Mo_count 62 = .ok (.aload_n 0, 1) := by decide +kernel
theorem d_Mo_count_63 : decode b_Mo_count 63 = .ok (.getfield 22, 3) := by decide +kernel
theorem d_Mo_count_66 : decode b_Mo_count 66 = .ok (.iload 4, 2) := by decide +kernel
theorem d_Mo_count_68 : decode b_Mo_count 68 = .ok (.iaload, 1) := by decide +kernel
theorem d_Mo_count_69 : decode b_Mo_count 69 = .ok (.bipush 9, 2) := by decide +kernel
theorem d_Mo_count_71 : decode b_Mo_count 71 = .ok (.if_icmp .le 6, 3) := by decide +kernel
theorem d_Mo_count_74 : decode b_Mo_count 74 = .ok (.iinc 3 1, 3) := by decide +kernel
theorem d_Mo_count_77 : decode b_Mo_count 77 = .ok (.iinc 4 1, 3) := by decide +kernel
theorem d_Mo_count_80 : decode b_Mo_count 80 = .ok (.goto (-52), 3) := by decide +kernel
theorem d_Mo_count_83 : decode b_Mo_count 83 = .ok (.iload_n 1, 1) := by decide +kernel
theorem d_Mo_count_84 : decode b_Mo_count 84 = .ok (.iconst 3, 1) := by decide +kernel
theorem d_Mo_count_85 : decode b_Mo_count 85 = .ok (.if_icmp .ge 28, 3) := by decide +kernel
theorem d_Mo_count_88 : decode b_Mo_count 88 = .ok (.iload_n 1, 1) := by decide +kernel
theorem d_Mo_count_89 : decode b_Mo_count 89 = .ok (.ifCond .ne 10, 3) := by decide +kernel
theorem d_Mo_count_92 : decode b_Mo_count 92 = .ok (.aload_n 0, 1) := by decide +kernel
theorem d_Mo_count_93 : decode b_Mo_count 93 = .ok (.getfield 44, 3) := by decide +kernel
theorem d_Mo_count_96 : decode b_Mo_count 96 = .ok (.goto 16, 3) := by decide +kernel
theorem d_Mo_count_99 : decode b_Mo_count 99 = .ok (.iload_n 1, 1) := by decide +kernel
theorem d_Mo_count_100 : decode b_Mo_count 100 = .ok (.iconst 1, 1) := by decide +kernel
theorem d_Mo_count_101 : decode b_Mo_count 101 = .ok (.if_icmp .ne 7, 3) := by decide +kernel
theorem d_Mo_count_104 : decode b_Mo_count 104 = .ok (.iload_n 2, 1) := by decide +kernel
theorem d_Mo_count_105 : decode b_Mo_count 105 = .ok (.goto 7, 3) := by decide +kernel
theorem d_Mo_count_108 : decode b_Mo_count 108 = .ok (.aload_n 0, 1) := by decide +kernel
theorem d_Mo_count_109 : decode b_Mo_count 109 = .ok (.getfield 117, 3) := by decide +kernel
theorem d_Mo_count_112 : decode b_Mo_count 112 = .ok (.ireturn, 1) := by decide +kernel
theorem d_Mo_count_113 : decode b_Mo_count 113 = .ok (.aload_n 0, 1) := by decide +kernel
theorem d_Mo_count_114 : decode b_Mo_count 114 = .ok (.getfield 62, 3) := by decide +kernel
theorem d_Mo_count_117 : decode b_Mo_count 117 = .ok (.ifCond .ne 5, 3) := by decide +kernel
theorem d_Mo_count_120 : decode b_Mo_count 120 = .ok (.iconst 0, 1) := by decide +kernel
theorem d_Mo_count_121 : decode b_Mo_count 121 = .ok (.ireturn, 1) := by decide +kernel
theorem d_Mo_count_122 : decode b_Mo_count 122 = .ok (.iload_n 1, 1) := by decide +kernel
theorem d_Mo_count_123 : decode b_Mo_count 123 = .ok (.iconst 3, 1) := by decide +kernel
theorem d_Mo_count_124 : decode b_Mo_count 124 = .ok (.if_icmp .ne 10, 3) := by decide +kernel
theorem d_Mo_count_127 : decode b_Mo_count 127 = .ok (.aload_n 0, 1) := by decide +kernel
theorem d_Mo_count_128 : decode b_Mo_count 128 = .ok (.getfield 111, 3) := by decide +kernel
theorem d_Mo_count_131 : decode b_Mo_count 131 = .ok (.goto 47, 3) := by decide +kernel
theorem d_Mo_count_134 : decode b_Mo_count 134 = .ok (.iload_n 1, 1) := by decide +kernel
theorem d_Mo_count_135 : decode b_Mo_count 135 = .ok (.iconst 4, 1) := by decide +kernel
theorem d_Mo_count_136 : decode b_Mo_count 136 = .ok (.if_icmp .ne 7, 3) := by decide +kernel
theorem d_Mo_count_139 : decode b_Mo_count 139 = .ok (.iload_n 3, 1) := by decide +kernel
theorem d_Mo_count_140 : decode b_Mo_count 140 = .ok (.goto 38, 3) := by decide +kernel
theorem d_Mo_count_143 : decode b_Mo_count 143 = .ok (.iload_n 1, 1) := by decide +kernel
theorem d_Mo_count_144 : decode b_Mo_count 144 = .ok (.iconst 5, 1) := by decide +kernel
theorem d_Mo_count_145 : decode b_Mo_count 145 = .ok (.if_icmp .ne 14, 3) := by decide +kernel
theorem d_Mo_count_148 : decode b_Mo_count 148 = .ok (.aload_n 0, 1) := by decide +kernel
theorem d_Mo_count_149 : decode b_Mo_count 149 = .ok (.bipush 10, 2) := by decide +kernel
theorem d_Mo_count_151 : decode b_Mo_count 151 = .ok (.bipush 16, 2) := by decide +kernel
theorem d_Mo_count_153 : decode b_Mo_count 153 = .ok (.invokevirtual 131, 3) := by decide +kernel
theorem d_Mo_count_156 : decode b_Mo_count 156 = .ok (.goto 22, 3) := by decide +kernel
theorem d_Mo_count_159 : decode b_Mo_count 159 = .ok (.iload_n 1, 1) := by decide +kernel
theorem d_Mo_count_160 : decode b_Mo_count 160 = .ok (.bipush 6, 2) := by decide +kernel
theorem d_Mo_count_162 : decode b_Mo_count 162 = .ok (.if_icmp .ne 12, 3) := by decide +kernel
theorem d_Mo_count_165 : decode b_Mo_count 165 = .ok (.aload_n 0, 1) := by decide +kernel
theorem d_Mo_count_166 : decode b_Mo_count 166 = .ok (.iconst 0, 1) := by decide +kernel
theorem d_Mo_count_167 : decode b_Mo_count 167 = .ok (.iconst 5, 1) := by decide +kernel
theorem d_Mo_count_168 : decode b_Mo_count 168 = .ok (.invokevirtual 131, 3) := by decide +kernel
theorem d_Mo_count_171 : decode b_Mo_count 171 = .ok (.goto 7, 3) := by decide +kernel
theorem d_Mo_count_174 : decode b_Mo_count 174 = .ok (.aload_n 0, 1) := by decide +kernel
theorem d_Mo_count_175 : decode b_Mo_count 175 = .ok (.getfield 114, 3) := by decide +kernel
theorem d_Mo_count_178 : decode b_Mo_count 178 = .ok (.ireturn, 1) := by decide +kernel
theorem d_Mo_used_0 : decode b_Mo_used 0 = .ok (.iconst 0, 1) := by decide +kernel
theorem d_Mo_used_1 : decode b_Mo_used 1 = .ok (.istore_n 3, 1) := by decide +kernel
theorem d_Mo_used_2 : decode b_Mo_used 2 = .ok (.iload_n 1, 1) := by decide +kernel
theorem d_Mo_used_3 : decode b_Mo_used 3 = .ok (.istore 4, 2) := by decide +kernel
theorem d_Mo_used_5 : decode b_Mo_used 5 = .ok (.iload 4, 2) := by decide +kernel
theorem d_Mo_used_7 : decode b_Mo_used 7 = .ok (.iload_n 2, 1) := by decide +kernel
theorem d_Mo_used_8 : decode b_Mo_used 8 = .ok (.if_icmp .ge 65, 3) := by decide +kernel
theorem d_Mo_used_11 : decode b_Mo_used 11 = .ok (.iconst 0, 1) := by decide +kernel
theorem d_Mo_used_12 : decode b_Mo_used 12 = .ok (.istore 5, 2) := by decide +kernel
theorem d_Mo_used_14 : decode b_Mo_used 14 = .ok (.iconst 0, 1) := by decide +kernel
theorem d_Mo_used_15 : decode b_Mo_used 15 = .ok (.istore 6, 2) := by decide +kernel
theorem d_Mo_used_17 : decode b_Mo_used 17 = .ok (.iload 6, 2) := by decide +kernel
theorem d_Mo_used_19 : decode b_Mo_used 19 = .ok (.aload_n 0, 1) := by decide +kernel
theorem d_Mo_used_20 : decode b_Mo_used 20 = .ok (.getfield 44, 3) := by decide +kernel
theorem d_Mo_used_23 : decode b_Mo_used 23 = .ok (.if_icmp .ge 36, 3) := by decide +kernel
theorem d_Mo_used_26 : decode b_Mo_used 26 = .ok (.aload_n 0, 1) := by decide +kernel
theorem d_Mo_used_27 : decode b_Mo_used 27 = .ok (.getfield 7, 3) := by decide +kernel
theorem d_Mo_used_30 : decode b_Mo_used 30 = .ok (.iload 6, 2) := by decide +kernel
theorem d_Mo_used_32 : decode b_Mo_used 32 = .ok (.iaload, 1) := by decide +kernel
theorem d_Mo_used_33 : decode b_Mo_used 33 = .ok (.bipush 6, 2) := by decide +kernel
theorem d_Mo_used_35 : decode b_Mo_used 35 = .ok (.if_icmp .eq 18, 3) := by decide +kernel
theorem d_Mo_used_38 : decode b_Mo_used 38 = .ok (.aload_n 0, 1) := by decide +kernel
theorem d_Mo_used_39 : decode b_Mo_used 39 = .ok (.getfield 22, 3) := by decide +kernel
theorem d_Mo_used_42 : decode b_Mo_used 42 = .ok (.iload 6, 2) := by decide +kernel
theorem d_Mo_used_44 : decode b_Mo_used 44 = .ok (.iaload, 1) := by decide +kernel
theorem d_Mo_used_45 : decode b_Mo_used 45 = .ok (.iload 4, 2) := by decide +kernel
theorem d_Mo_used_47 : decode b_Mo_used 47 = .ok (.if_icmp .ne 6, 3) := by decide +kernel
theorem d_Mo_used_50 : decode b_Mo_used 50 = .ok (.iconst 1, 1) := by decide +kernel
theorem d_Mo_used_51 : decode b_Mo_used 51 = .ok (.istore 5, 2) := by decide +kernel
theorem d_Mo_used_53 : decode b_Mo_used 53 = .ok (.iinc 6 1, 3) := by decide +kernel
theorem d_Mo_used_56 : decode b_Mo_used 56 = .ok (.goto (-39), 3) := by decide +kernel
theorem d_Mo_used_59 : decode b_Mo_used 59 = .ok (.iload 5, 2) := by decide +kernel
theorem d_Mo_used_61 : decode b_Mo_used 61 = .ok (.ifCond .eq 6, 3) := by decide +kernel
theorem d_Mo_used_64 : decode b_Mo_used 64 = .ok (.iinc 3 1, 3) := by decide +kernel
theorem d_Mo_used_67 : decode b_Mo_used 67 = .ok (.iinc 4 1, 3) := by decide +kernel
theorem d_Mo_used_70 : decode b_Mo_used 70 = .ok (.goto (-65), 3) := by decide +kernel
theorem d_Mo_used_73 : decode b_Mo_used 73 = .ok (.iload_n 3, 1) := by decide +kernel
theorem d_Mo_used_74 : decode b_Mo_used 74 = .ok (.ireturn, 1) := by decide +kernel
