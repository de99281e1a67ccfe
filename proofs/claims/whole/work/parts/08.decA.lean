/-! decode rows -/
theorem d_Co_init_0 : decode b_Co_init 0 = .ok (.aload_n 0, 1) := by decide +kernel
theorem d_Co_init_1 : decode b_Co_init 1 = .ok (.invokespecial 3, 3) := by decide +kernel
theorem d_Co_init_4 : decode b_Co_init 4 = .ok (.aload_n 0, 1) := by decide +kernel
theorem d_Co_init_5 : decode b_Co_init 5 = .ok (.bipush 24, 2) := by decide +kernel
theorem d_Co_init_7 : decode b_Co_init 7 = .ok (.newarray .int, 2) := by decide +kernel
theorem d_Co_init_9 : decode b_Co_init 9 = .ok (.putfield 9, 3) := by decide +kernel
theorem d_Co_init_12 : decode b_Co_init 12 = .ok (.aload_n 0, 1) := by decide +kernel
theorem d_Co_init_13 : decode b_Co_init 13 = .ok (.bipush 24, 2) := by decide +kernel
theorem d_Co_init_15 : decode b_Co_init 15 = .ok (.newarray .int, 2) := by decide +kernel
theorem d_Co_init_17 : decode b_Co_init 17 = .ok (.putfield 15, 3) := by decide +kernel
theorem d_Co_init_20 : decode b_Co_init 20 = .ok (.aload_n 0, 1) := by decide +kernel
theorem d_Co_init_21 : decode b_Co_init 21 = .ok (.bipush 24, 2) := by decide +kernel
theorem d_Co_init_23 : decode b_Co_init 23 = .ok (.newarray .int, 2) := by decide +kernel
theorem d_Co_init_25 : decode b_Co_init 25 = .ok (.putfield 18, 3) := by decide +kernel
theorem d_Co_init_28 : decode b_Co_init 28 = .ok (.aload_n 0, 1) := by decide +kernel
theorem d_Co_init_29 : decode b_Co_init 29 = .ok (.bipush 24, 2) := by decide +kernel
theorem d_Co_init_31 : decode b_Co_init 31 = .ok (.newarray .int, 2) := by decide +kernel
theorem d_Co_init_33 : decode b_Co_init 33 = .ok (.putfield 21, 3) := by decide +kernel
theorem d_Co_init_36 : decode b_Co_init 36 = .ok (.aload_n 0, 1) := by decide +kernel
theorem d_Co_init_37 : decode b_Co_init 37 = .ok (.bipush 24, 2) := by decide +kernel
theorem d_Co_init_39 : decode b_Co_init 39 = .ok (.newarray .int, 2) := by decide +kernel
theorem d_Co_init_41 : decode b_Co_init 41 = .ok (.putfield 24, 3) := by decide +kernel
theorem d_Co_init_44 : decode b_Co_init 44 = .ok (.aload_n 0, 1) := by decide +kernel
theorem d_Co_init_45 : decode b_Co_init 45 = .ok (.bipush 24, 2) := by decide +kernel
theorem d_Co_init_47 : decode b_Co_init 47 = .ok (.newarray .int, 2) := by decide +kernel
theorem d_Co_init_49 : decode b_Co_init 49 = .ok (.putfield 27, 3) := by decide +kernel
theorem d_Co_init_52 : decode b_Co_init 52 = .ok (.return_, 1) := by decide +kernel
theorem d_Ma_init_0 : decode b_Ma_init 0 = .ok (.aload_n 0, 1) := by decide +kernel
theorem d_Ma_init_1 : decode b_Ma_init 1 = .ok (.invokespecial 3, 3) := by decide +kernel
theorem d_Ma_init_4 : decode b_Ma_init 4 = .ok (.aload_n 0, 1) := by decide +kernel
theorem d_Ma_init_5 : decode b_Ma_init 5 = .ok (.bipush 24, 2) := by decide +kernel
theorem d_Ma_init_7 : decode b_Ma_init 7 = .ok (.newarray .int, 2) := by decide +kernel
theorem d_Ma_init_9 : decode b_Ma_init 9 = .ok (.putfield 9, 3) := by decide +kernel
theorem d_Ma_init_12 : decode b_Ma_init 12 = .ok (.aload_n 0, 1) := by decide +kernel
theorem d_Ma_init_13 : decode b_Ma_init 13 = .ok (.iconst 4, 1) := by decide +kernel
theorem d_Ma_init_14 : decode b_Ma_init 14 = .ok (.newarray .int, 2) := by decide +kernel
theorem d_Ma_init_16 : decode b_Ma_init 16 = .ok (.putfield 15, 3) := by decide +kernel
theorem d_Ma_init_19 : decode b_Ma_init 19 = .ok (.aload_n 0, 1) := by decide +kernel
theorem d_Ma_init_20 : decode b_Ma_init 20 = .ok (.bipush 24, 2) := by decide +kernel
theorem d_Ma_init_22 : decode b_Ma_init 22 = .ok (.newarray .int, 2) := by decide +kernel
theorem d_Ma_init_24 : decode b_Ma_init 24 = .ok (.putfield 18, 3) := by decide +kernel
theorem d_Ma_init_27 : decode b_Ma_init 27 = .ok (.return_, 1) := by decide +kernel
theorem d_Al_init_0 : decode b_Al_init 0 = .ok (.aload_n 0, 1) := by decide +kernel
theorem d_Al_init_1 : decode b_Al_init 1 = .ok (.invokespecial 3, 3) := by decide +kernel
theorem d_Al_init_4 : decode b_Al_init 4 = .ok (.aload_n 0, 1) := by decide +kernel
theorem d_Al_init_5 : decode b_Al_init 5 = .ok (.bipush 24, 2) := by decide +kernel
theorem d_Al_init_7 : decode b_Al_init 7 = .ok (.newarray .int, 2) := by decide +kernel
theorem d_Al_init_9 : decode b_Al_init 9 = .ok (.putfield 9, 3) := by decide +kernel
theorem d_Al_init_12 : decode b_Al_init 12 = .ok (.aload_n 0, 1) := by decide +kernel
theorem d_Al_init_13 : decode b_Al_init 13 = .ok (.getfield 9, 3) := by decide +kernel
theorem d_Al_init_16 : decode b_Al_init 16 = .ok (.iconst (-1), 1) := by decide +kernel
theorem d_Al_init_17 : decode b_Al_init 17 = .ok (.invokestatic 15, 3) := by decide +kernel
theorem d_Al_init_20 : decode b_Al_init 20 = .ok (.return_, 1) := by decide +kernel
theorem d_Ar_fill_0 : decode b_Ar_fill 0 = .ok (.iconst 0, 1) := by decide +kernel
theorem d_Ar_fill_1 : decode b_Ar_fill 1 = .ok (.istore_n 2, 1) := by decide +kernel
theorem d_Ar_fill_2 : decode b_Ar_fill 2 = .ok (.aload_n 0, 1) := by decide +kernel
theorem d_Ar_fill_3 : decode b_Ar_fill 3 = .ok (.arraylength, 1) := by decide +kernel
theorem d_Ar_fill_4 : decode b_Ar_fill 4 = .ok (.istore_n 3, 1) := by decide +kernel
theorem d_Ar_fill_5 : decode b_Ar_fill 5 = .ok (.iload_n 2, 1) := by decide +kernel
theorem d_Ar_fill_6 : decode b_Ar_fill 6 = .ok (.iload_n 3, 1) := by decide +kernel
theorem d_Ar_fill_7 : decode b_Ar_fill 7 = .ok (.if_icmp .ge 13, 3) := by decide +kernel
theorem d_Ar_fill_10 : decode b_Ar_fill 10 = .ok (.aload_n 0, 1) := by decide +kernel
theorem d_Ar_fill_11 : decode b_Ar_fill 11 = .ok (.iload_n 2, 1) := by decide +kernel
theorem d_Ar_fill_12 : decode b_Ar_fill 12 = .ok (.iload_n 1, 1) := by decide +kernel
theorem d_Ar_fill_13 : decode b_Ar_fill 13 = .ok (.iastore, 1) := by decide +kernel
theorem d_Ar_fill_14 : decode b_Ar_fill 14 = .ok (.iinc 2 1, 3) := by decide +kernel
theorem d_Ar_fill_17 : decode b_Ar_fill 17 = .ok (.goto (-12), 3) := by decide +kernel
theorem d_Ar_fill_20 : decode b_Ar_fill 20 = .ok (.return_, 1) := by decide +kernel
theorem d_Co_size_0 : decode b_Co_size 0 = .ok (.aload_n 0, 1) := by decide +kernel
theorem d_Co_size_1 : decode b_Co_size 1 = .ok (.getfield 43, 3) := by decide +kernel
theorem d_Co_size_4 : decode b_Co_size 4 = .ok (.ireturn, 1) := by decide +kernel
theorem d_Co_empty_0 : decode b_Co_empty 0 = .ok (.aload_n 0, 1) := by decide +kernel
theorem d_Co_empty_1 : decode b_Co_empty 1 = .ok (.iconst 0, 1) := by decide +kernel
theorem d_Co_empty_2 : decode b_Co_empty 2 = .ok (.putfield 43, 3) := by decide +kernel
theorem d_Co_empty_5 : decode b_Co_empty 5 = .ok (.aload_n 0, 1) := by decide +kernel
theorem d_Co_empty_6 : decode b_Co_empty 6 = .ok (.iconst 0, 1) := by decide +kernel
theorem d_Co_empty_7 : decode b_Co_empty 7 = .ok (.putfield 51, 3) := by decide +kernel
theorem d_Co_empty_10 : decode b_Co_empty 10 = .ok (.return_, 1) := by decide +kernel
theorem d_Al_forget_0 : decode b_Al_forget 0 = .ok (.aload_n 0, 1) := by decide +kernel
theorem d_Al_forget_1 : decode b_Al_forget 1 = .ok (.getfield 9, 3) := by decide +kernel
theorem d_Al_forget_4 : decode b_Al_forget 4 = .ok (.iconst (-1), 1) := by decide +kernel
theorem d_Al_forget_5 : decode b_Al_forget 5 = .ok (.invokestatic 15, 3) := by decide +kernel
theorem d_Al_forget_8 : decode b_Al_forget 8 = .ok (.aload_n 0, 1) := by decide +kernel
theorem d_Al_forget_9 : decode b_Al_forget 9 = .ok (.iconst 0, 1) := by decide +kernel
theorem d_Al_forget_10 : decode b_Al_forget 10 = .ok (.putfield 21, 3) := by decide +kernel
theorem d_Al_forget_13 : decode b_Al_forget 13 = .ok (.aload_n 0, 1) := by decide +kernel
theorem d_Al_forget_14 : decode b_Al_forget 14 = .ok (.iconst 0, 1) := by decide +kernel
theorem d_Al_forget_15 : decode b_Al_forget 15 = .ok (.putfield 25, 3) := by decide +kernel
theorem d_Al_forget_18 : decode b_Al_forget 18 = .ok (.return_, 1) := by decide +kernel
theorem d_Co_accepts_0 : decode b_Co_accepts 0 = .ok (.iload_n 1, 1) := by decide +kernel
theorem d_Co_accepts_1 : decode b_Co_accepts 1 = .ok (.ifCond .lt 23, 3) := by decide +kernel
theorem d_Co_accepts_4 : decode b_Co_accepts 4 = .ok (.iload_n 1, 1) := by decide +kernel
theorem d_Co_accepts_5 : decode b_Co_accepts 5 = .ok (.bipush 7, 2) := by decide +kernel
theorem d_Co_accepts_7 : decode b_Co_accepts 7 = .ok (.if_icmp .gt 17, 3) := by decide +kernel
theorem d_Co_accepts_10 : decode b_Co_accepts 10 = .ok (.iload 4, 2) := by decide +kernel
theorem d_Co_accepts_12 : decode b_Co_accepts 12 = .ok (.ifCond .lt 12, 3) := by decide +kernel
theorem d_Co_accepts_15 : decode b_Co_accepts 15 = .ok (.iload 4, 2) := by decide +kernel
theorem d_Co_accepts_17 : decode b_Co_accepts 17 = .ok (.getstatic 30, 3) := by decide +kernel
theorem d_Co_accepts_20 : decode b_Co_accepts 20 = .ok (.arraylength, 1) := by decide +kernel
theorem d_Co_accepts_21 : decode b_Co_accepts 21 = .ok (.if_icmp .lt 5, 3) := by decide +kernel
theorem d_Co_accepts_24 : decode b_Co_accepts 24 = .ok (.iconst 0, 1) := by decide +kernel
theorem d_Co_accepts_25 : decode b_Co_accepts 25 = .ok (.ireturn, 1) := by decide +kernel
theorem d_Co_accepts_26 : decode b_Co_accepts 26 = .ok (.iload_n 1, 1) := by decide +kernel
theorem d_Co_accepts_27 : decode b_Co_accepts 27 = .ok (.iconst 1, 1) := by decide +kernel
theorem d_Co_accepts_28 : decode b_Co_accepts 28 = .ok (.if_icmp .ne 14, 3) := by decide +kernel
theorem d_Co_accepts_31 : decode b_Co_accepts 31 = .ok (.iload_n 2, 1) := by decide +kernel
theorem d_Co_accepts_32 : decode b_Co_accepts 32 = .ok (.ifCond .lt 8, 3) := by decide +kernel
theorem d_Co_accepts_35 : decode b_Co_accepts 35 = .ok (.iload_n 2, 1) := by decide +kernel
theorem d_Co_accepts_36 : decode b_Co_accepts 36 = .ok (.iconst 4, 1) := by decide +kernel
theorem d_Co_accepts_37 : decode b_Co_accepts 37 = .ok (.if_icmp .lt 5, 3) := by decide +kernel
theorem d_Co_accepts_40 : decode b_Co_accepts 40 = .ok (.iconst 0, 1) := by decide +kernel
theorem d_Co_accepts_41 : decode b_Co_accepts 41 = .ok (.ireturn, 1) := by decide +kernel
theorem d_Co_accepts_42 : decode b_Co_accepts 42 = .ok (.iload_n 1, 1) := by decide +kernel
theorem d_Co_accepts_43 : decode b_Co_accepts 43 = .ok (.invokestatic 33, 3) := by decide +kernel
theorem d_Co_accepts_46 : decode b_Co_accepts 46 = .ok (.ifCond .eq 13, 3) := by decide +kernel
theorem d_Co_accepts_49 : decode b_Co_accepts 49 = .ok (.aload_n 0, 1) := by decide +kernel
theorem d_Co_accepts_50 : decode b_Co_accepts 50 = .ok (.iload_n 2, 1) := by decide +kernel
theorem d_Co_accepts_51 : decode b_Co_accepts 51 = .ok (.invokevirtual 37, 3) := by decide +kernel
theorem d_Co_accepts_54 : decode b_Co_accepts 54 = .ok (.ifCond .ne 5, 3) := by decide +kernel
theorem d_Co_accepts_57 : decode b_Co_accepts 57 = .ok (.iconst 0, 1) := by decide +kernel
theorem d_Co_accepts_58 : decode b_Co_accepts 58 = .ok (.ireturn, 1) := by decide +kernel
theorem d_Co_accepts_59 : decode b_Co_accepts 59 = .ok (.iload_n 1, 1) := by decide +kernel
theorem d_Co_accepts_60 : decode b_Co_accepts 60 = .ok (.invokestatic 40, 3) := by decide +kernel
theorem d_Co_accepts_63 : decode b_Co_accepts 63 = .ok (.ifCond .eq 11, 3) := by decide +kernel
theorem d_Co_accepts_66 : decode b_Co_accepts 66 = .ok (.aload_n 0, 1) := by decide +kernel
theorem d_Co_accepts_67 : decode b_Co_accepts 67 = .ok (.iload_n 3, 1) := by decide +kernel
theorem d_Co_accepts_68 : decode b_Co_accepts 68 = .ok (.invokevirtual 37, 3) := by decide +kernel
theorem d_Co_accepts_71 : decode b_Co_accepts 71 = .ok (.ifCond .eq 7, 3) := by decide +kernel
theorem d_Co_accepts_74 : decode b_Co_accepts 74 = .ok (.iconst 1, 1) := by decide +kernel
theorem d_Co_accepts_75 : decode b_Co_accepts 75 = .ok (.goto 4, 3) := by decide +kernel
theorem d_Co_accepts_78 : decode b_Co_accepts 78 = .ok (.iconst 0, 1) := by decide +kernel
theorem d_Co_accepts_79 : decode b_Co_accepts 79 = .ok (.ireturn, 1) := by decide +kernel
theorem d_Co_usesLeft_0 : decode b_Co_usesLeft 0 = .ok (.iload_n 0, 1) := by decide +kernel
theorem d_Co_usesLeft_1 : decode b_Co_usesLeft 1 = .ok (.iconst 2, 1) := by decide +kernel
theorem d_Co_usesLeft_2 : decode b_Co_usesLeft 2 = .ok (.if_icmp .lt 7, 3) := by decide +kernel
theorem d_Co_usesLeft_5 : decode b_Co_usesLeft 5 = .ok (.iconst 1, 1) := by decide +kernel
theorem d_Co_usesLeft_6 : decode b_Co_usesLeft 6 = .ok (.goto 4, 3) := by decide +kernel
theorem d_Co_usesLeft_9 : decode b_Co_usesLeft 9 = .ok (.iconst 0, 1) := by decide +kernel
theorem d_Co_usesLeft_10 : decode b_Co_usesLeft 10 = .ok (.ireturn, 1) := by decide +kernel
theorem d_Co_isValue_0 : decode b_Co_isValue 0 = .ok (.iload_n 1, 1) := by decide +kernel
theorem d_Co_isValue_1 : decode b_Co_isValue 1 = .ok (.ifCond .lt 26, 3) := by decide +kernel
theorem d_Co_isValue_4 : decode b_Co_isValue 4 = .ok (.iload_n 1, 1) := by decide +kernel
theorem d_Co_isValue_5 : decode b_Co_isValue 5 = .ok (.aload_n 0, 1) := by decide +kernel
theorem d_Co_isValue_6 : decode b_Co_isValue 6 = .ok (.getfield 43, 3) := by decide +kernel
theorem d_Co_isValue_9 : decode b_Co_isValue 9 = .ok (.if_icmp .ge 18, 3) := by decide +kernel
theorem d_Co_isValue_12 : decode b_Co_isValue 12 = .ok (.aload_n 0, 1) := by decide +kernel
theorem d_Co_isValue_13 : decode b_Co_isValue 13 = .ok (.getfield 9, 3) := by decide +kernel
theorem d_Co_isValue_16 : decode b_Co_isValue 16 = .ok (.iload_n 1, 1) := by decide +kernel
theorem d_Co_isValue_17 : decode b_Co_isValue 17 = .ok (.iaload, 1) := by decide +kernel
theorem d_Co_isValue_18 : decode b_Co_isValue 18 = .ok (.bipush 6, 2) := by decide +kernel
theorem d_Co_isValue_20 : decode b_Co_isValue 20 = .ok (.if_icmp .eq 7, 3) := by decide +kernel
theorem d_Co_isValue_23 : decode b_Co_isValue 23 = .ok (.iconst 1, 1) := by decide +kernel
theorem d_Co_isValue_24 : decode b_Co_isValue 24 = .ok (.goto 4, 3) := by decide +kernel
theorem d_Co_isValue_27 : decode b_Co_isValue 27 = .ok (.iconst 0, 1) := by decide +kernel
theorem d_Co_isValue_28 : decode b_Co_isValue 28 = .ok (.ireturn, 1) := by decide +kernel
theorem d_Co_usesRight_0 : decode b_Co_usesRight 0 = .ok (.iload_n 0, 1) := by decide +kernel
theorem d_Co_usesRight_1 : decode b_Co_usesRight 1 = .ok (.iconst 2, 1) := by decide +kernel
theorem d_Co_usesRight_2 : decode b_Co_usesRight 2 = .ok (.if_icmp .lt 12, 3) := by decide +kernel
theorem d_Co_usesRight_5 : decode b_Co_usesRight 5 = .ok (.iload_n 0, 1) := by decide +kernel
theorem d_Co_usesRight_6 : decode b_Co_usesRight 6 = .ok (.iconst 5, 1) := by decide +kernel
theorem d_Co_usesRight_7 : decode b_Co_usesRight 7 = .ok (.if_icmp .gt 7, 3) := by decide +kernel
theorem d_Co_usesRight_10 : decode b_Co_usesRight 10 = .ok (.iconst 1, 1) := by decide +kernel
theorem d_Co_usesRight_11 : decode b_Co_usesRight 11 = .ok (.goto 4, 3) := by decide +kernel
theorem d_Co_usesRight_14 : decode b_Co_usesRight 14 = .ok (.iconst 0, 1) := by decide +kernel
theorem d_Co_usesRight_15 : decode b_Co_usesRight 15 = .ok (.ireturn, 1) := by decide +kernel
theorem d_Co_append_0 : decode b_Co_append 0 = .ok (.aload_n 0, 1) := by decide +kernel
theorem d_Co_append_1 : decode b_Co_append 1 = .ok (.getfield 43, 3) := by decide +kernel
theorem d_Co_append_4 : decode b_Co_append 4 = .ok (.istore 5, 2) := by decide +kernel
theorem d_Co_append_6 : decode b_Co_append 6 = .ok (.aload_n 0, 1) := by decide +kernel
theorem d_Co_append_7 : decode b_Co_append 7 = .ok (.getfield 9, 3) := by decide +kernel
theorem d_Co_append_10 : decode b_Co_append 10 = .ok (.iload 5, 2) := by decide +kernel
theorem d_Co_append_12 : decode b_Co_append 12 = .ok (.iload_n 1, 1) := by decide +kernel
theorem d_Co_append_13 : decode b_Co_append 13 = .ok (.iastore, 1) := by decide +kernel
theorem d_Co_append_14 : decode b_Co_append 14 = .ok (.aload_n 0, 1) := by decide +kernel
theorem d_Co_append_15 : decode b_Co_append 15 = .ok (.getfield 15, 3) := by decide +kernel
theorem d_Co_append_18 : decode b_Co_append 18 = .ok (.iload 5, 2) := by decide +kernel
theorem d_Co_append_20 : decode b_Co_append 20 = .ok (.iload_n 2, 1) := by decide +kernel
theorem d_Co_append_21 : decode b_Co_append 21 = .ok (.iastore, 1) := by decide +kernel
theorem d_Co_append_22 : decode b_Co_append 22 = .ok (.aload_n 0, 1) := by decide +kernel
theorem d_Co_append_23 : decode b_Co_append 23 = .ok (.getfield 18, 3) := by decide +kernel
theorem d_Co_append_26 : decode b_Co_append 26 = .ok (.iload 5, 2) := by decide +kernel
theorem d_Co_append_28 : decode b_Co_append 28 = .ok (.iload_n 3, 1) := by decide +kernel
theorem d_Co_append_29 : decode b_Co_append 29 = .ok (.iastore, 1) := by decide +kernel
theorem d_Co_append_30 : decode b_Co_append 30 = .ok (.aload_n 0, 1) := by decide +kernel
theorem d_Co_append_31 : decode b_Co_append 31 = .ok (.getfield 21, 3) := by decide +kernel
theorem d_Co_append_34 : decode b_Co_append 34 = .ok (.iload 5, 2) := by decide +kernel
theorem d_Co_append_36 : decode b_Co_append 36 = .ok (.iload 5, 2) := by decide +kernel
theorem d_Co_append_38 : decode b_Co_append 38 = .ok (.iconst 1, 1) := by decide +kernel
theorem d_Co_append_39 : decode b_Co_append 39 = .ok (.iadd, 1) := by decide +kernel
theorem d_Co_append_40 : decode b_Co_append 40 = .ok (.iastore, 1) := by decide +kernel
theorem d_Co_append_41 : decode b_Co_append 41 = .ok (.aload_n 0, 1) := by decide +kernel
theorem d_Co_append_42 : decode b_Co_append 42 = .ok (.getfield 24, 3) := by decide +kernel
theorem d_Co_append_45 : decode b_Co_append 45 = .ok (.iload 5, 2) := by decide +kernel
theorem d_Co_append_47 : decode b_Co_append 47 = .ok (.iconst 0, 1) := by decide +kernel
theorem d_Co_append_48 : decode b_Co_append 48 = .ok (.iastore, 1) := by decide +kernel
theorem d_Co_append_49 : decode b_Co_append 49 = .ok (.aload_n 0, 1) := by decide +kernel
theorem d_Co_append_50 : decode b_Co_append 50 = .ok (.getfield 27, 3) := by decide +kernel
theorem d_Co_append_53 : decode b_Co_append 53 = .ok (.iload 5, 2) := by decide +kernel
theorem d_Co_append_55 : decode b_Co_append 55 = .ok (.getstatic 30, 3) := by decide +kernel
theorem d_Co_append_58 : decode b_Co_append 58 = .ok (.iload 4, 2) := by decide +kernel
theorem d_Co_append_60 : decode b_Co_append 60 = .ok (.iaload, 1) := by decide +kernel
theorem d_Co_append_61 : decode b_Co_append 61 = .ok (.iastore, 1) := by decide +kernel
theorem d_Co_append_62 : decode b_Co_append 62 = .ok (.iload_n 1, 1) := by decide +kernel
theorem d_Co_append_63 : decode b_Co_append 63 = .ok (.invokestatic 33, 3) := by decide +kernel
theorem d_Co_append_66 : decode b_Co_append 66 = .ok (.ifCond .eq 10, 3) := by decide +kernel
theorem d_Co_append_69 : decode b_Co_append 69 = .ok (.aload_n 0, 1) := by decide +kernel
theorem d_Co_append_70 : decode b_Co_append 70 = .ok (.iload_n 2, 1) := by decide +kernel
theorem d_Co_append_71 : decode b_Co_append 71 = .ok (.iload 5, 2) := by decide +kernel
theorem d_Co_append_73 : decode b_Co_append 73 = .ok (.invokevirtual 47, 3) := by decide +kernel
theorem d_Co_append_76 : decode b_Co_append 76 = .ok (.iload_n 1, 1) := by decide +kernel
theorem d_Co_append_77 : decode b_Co_append 77 = .ok (.invokestatic 40, 3) := by decide +kernel
theorem d_Co_append_80 : decode b_Co_append 80 = .ok (.ifCond .eq 10, 3) := by decide +kernel
theorem d_Co_append_83 : decode b_Co_append 83 = .ok (.aload_n 0, 1) := by decide +kernel
theorem d_Co_append_84 : decode b_Co_append 84 = .ok (.iload_n 3, 1) := by decide +kernel
theorem d_Co_append_85 : decode b_Co_append 85 = .ok (.iload 5, 2) := by decide +kernel
theorem d_Co_append_87 : decode b_Co_append 87 = .ok (.invokevirtual 47, 3) := by decide +kernel
theorem d_Co_append_90 : decode b_Co_append 90 = .ok (.iload_n 1, 1) := by decide +kernel
theorem d_Co_append_91 : decode b_Co_append 91 = .ok (.bipush 6, 2) := by decide +kernel
theorem d_Co_append_93 : decode b_Co_append 93 = .ok (.if_icmp .eq 13, 3) := by decide +kernel
theorem d_Co_append_96 : decode b_Co_append 96 = .ok (.aload_n 0, 1) := by decide +kernel
theorem d_Co_append_97 : decode b_Co_append 97 = .ok (.dup, 1) := by decide +kernel
theorem d_Co_append_98 : decode b_Co_append 98 = .ok (.getfield 51, 3) := by decide +kernel
theorem d_Co_append_101 : decode b_Co_append 101 = .ok (.iconst 1, 1) := by decide +kernel
theorem d_Co_append_102 : decode b_Co_append 102 = .ok (.iadd, 1) := by decide +kernel
theorem d_Co_append_103 : decode b_Co_append 103 = .ok (.putfield 51, 3) := by decide +kernel
theorem d_Co_append_106 : decode b_Co_append 106 = .ok (.aload_n 0, 1) := by decide +kernel
theorem d_Co_append_107 : decode b_Co_append 107 = .ok (.dup, 1) := by decide +kernel
theorem d_Co_append_108 : decode b_Co_append 108 = .ok (.getfield 43, 3) := by decide +kernel
theorem d_Co_append_111 : decode b_Co_append 111 = .ok (.iconst 1, 1) := by decide +kernel
theorem d_Co_append_112 : decode b_Co_append 112 = .ok (.iadd, 1) := by decide +kernel
theorem d_Co_append_113 : decode b_Co_append 113 = .ok (.putfield 43, 3) := by decide +kernel
theorem d_Co_append_116 : decode b_Co_append 116 = .ok (.return_, 1) := by decide +kernel
theorem d_Co_noteUse_0 : decode b_Co_noteUse 0 = .ok (.aload_n 0, 1) := by decide +kernel
theorem d_Co_noteUse_1 : decode b_Co_noteUse 1 = .ok (.getfield 21, 3) := by decide +kernel
theorem d_Co_noteUse_4 : decode b_Co_noteUse 4 = .ok (.iload_n 1, 1) := by decide +kernel
theorem d_Co_noteUse_5 : decode b_Co_noteUse 5 = .ok (.iload_n 2, 1) := by decide +kernel
theorem d_Co_noteUse_6 : decode b_Co_noteUse 6 = .ok (.iastore, 1) := by decide +kernel
theorem d_Co_noteUse_7 : decode b_Co_noteUse 7 = .ok (.aload_n 0, 1) := by decide +kernel
theorem d_Co_noteUse_8 : decode b_Co_noteUse 8 = .ok (.getfield 24, 3) := by decide +kernel
theorem d_Co_noteUse_11 : decode b_Co_noteUse 11 = .ok (.iload_n 1, 1) := by decide +kernel
theorem d_Co_noteUse_12 : decode b_Co_noteUse 12 = .ok (.dup2, 1) := by decide +kernel
theorem d_Co_noteUse_13 : decode b_Co_noteUse 13 = .ok (.iaload, 1) := by decide +kernel
theorem d_Co_noteUse_14 : decode b_Co_noteUse 14 = .ok (.iconst 1, 1) := by decide +kernel
theorem d_Co_noteUse_15 : decode b_Co_noteUse 15 = .ok (.iadd, 1) := by decide +kernel
theorem d_Co_noteUse_16 : decode b_Co_noteUse 16 = .ok (.iastore, 1) := by decide +kernel
theorem d_Co_noteUse_17 : decode b_Co_noteUse 17 = .ok (.aload_n 0, 1) := by decide +kernel
theorem d_Co_noteUse_18 : decode b_Co_noteUse 18 = .ok (.getfield 27, 3) := by decide +kernel
theorem d_Co_noteUse_21 : decode b_Co_noteUse 21 = .ok (.iload_n 1, 1) := by decide +kernel
theorem d_Co_noteUse_22 : decode b_Co_noteUse 22 = .ok (.dup2, 1) := by decide +kernel
theorem d_Co_noteUse_23 : decode b_Co_noteUse 23 = .ok (.iaload, 1) := by decide +kernel
theorem d_Co_noteUse_24 : decode b_Co_noteUse 24 = .ok (.aload_n 0, 1) := by decide +kernel
theorem d_Co_noteUse_25 : decode b_Co_noteUse 25 = .ok (.getfield 27, 3) := by decide +kernel
theorem d_Co_noteUse_28 : decode b_Co_noteUse 28 = .ok (.iload_n 2, 1) := by decide +kernel
theorem d_Co_noteUse_29 : decode b_Co_noteUse 29 = .ok (.iaload, 1) := by decide +kernel
theorem d_Co_noteUse_30 : decode b_Co_noteUse 30 = .ok (.iadd, 1) := by decide +kernel
theorem d_Co_noteUse_31 : decode b_Co_noteUse 31 = .ok (.iastore, 1) := by decide +kernel
theorem d_Co_noteUse_32 : decode b_Co_noteUse 32 = .ok (.return_, 1) := by decide +kernel
theorem d_Al_fill_0 : decode b_Al_fill 0 = .ok (.aload_n 0, 1) := by decide +kernel
theorem d_Al_fill_1 : decode b_Al_fill 1 = .ok (.invokevirtual 28, 3) := by decide +kernel
theorem d_Al_fill_4 : decode b_Al_fill 4 = .ok (.aload_n 0, 1) := by decide +kernel
theorem d_Al_fill_5 : decode b_Al_fill 5 = .ok (.iload_n 2, 1) := by decide +kernel
theorem d_Al_fill_6 : decode b_Al_fill 6 = .ok (.putfield 21, 3) := by decide +kernel
theorem d_Al_fill_9 : decode b_Al_fill 9 = .ok (.iconst 0, 1) := by decide +kernel
theorem d_Al_fill_10 : decode b_Al_fill 10 = .ok (.istore_n 3, 1) := by decide +kernel
theorem d_Al_fill_11 : decode b_Al_fill 11 = .ok (.iload_n 3, 1) := by decide +kernel
theorem d_Al_fill_12 : decode b_Al_fill 12 = .ok (.ldc 31, 2) := by decide +kernel
theorem d_Al_fill_14 : decode b_Al_fill 14 = .ok (.if_icmp .ge 46, 3) := by decide +kernel
theorem d_Al_fill_17 : decode b_Al_fill 17 = .ok (.aload_n 0, 1) := by decide +kernel
theorem d_Al_fill_18 : decode b_Al_fill 18 = .ok (.aload_n 1, 1) := by decide +kernel
theorem d_Al_fill_19 : decode b_Al_fill 19 = .ok (.invokevirtual 32, 3) := by decide +kernel
theorem d_Al_fill_22 : decode b_Al_fill 22 = .ok (.istore 4, 2) := by decide +kernel
theorem d_Al_fill_24 : decode b_Al_fill 24 = .ok (.iload 4, 2) := by decide +kernel
theorem d_Al_fill_26 : decode b_Al_fill 26 = .ok (.iconst (-1), 1) := by decide +kernel
theorem d_Al_fill_27 : decode b_Al_fill 27 = .ok (.if_icmp .ne 5, 3) := by decide +kernel
theorem d_Al_fill_30 : decode b_Al_fill 30 = .ok (.iconst 1, 1) := by decide +kernel
theorem d_Al_fill_31 : decode b_Al_fill 31 = .ok (.ireturn, 1) := by decide +kernel
theorem d_Al_fill_32 : decode b_Al_fill 32 = .ok (.aload_n 0, 1) := by decide +kernel
theorem d_Al_fill_33 : decode b_Al_fill 33 = .ok (.aload_n 1, 1) := by decide +kernel
theorem d_Al_fill_34 : decode b_Al_fill 34 = .ok (.iload 4, 2) := by decide +kernel
theorem d_Al_fill_36 : decode b_Al_fill 36 = .ok (.invokevirtual 36, 3) := by decide +kernel
theorem d_Al_fill_39 : decode b_Al_fill 39 = .ok (.ifCond .ne 15, 3) := by decide +kernel
theorem d_Al_fill_42 : decode b_Al_fill 42 = .ok (.aload_n 0, 1) := by decide +kernel
theorem d_Al_fill_43 : decode b_Al_fill 43 = .ok (.aload_n 1, 1) := by decide +kernel
theorem d_Al_fill_44 : decode b_Al_fill 44 = .ok (.iload 4, 2) := by decide +kernel
theorem d_Al_fill_46 : decode b_Al_fill 46 = .ok (.invokevirtual 40, 3) := by decide +kernel
theorem d_Al_fill_49 : decode b_Al_fill 49 = .ok (.ifCond .ne 5, 3) := by decide +kernel
theorem d_Al_fill_52 : decode b_Al_fill 52 = .ok (.iconst 0, 1) := by decide +kernel
theorem d_Al_fill_53 : decode b_Al_fill 53 = .ok (.ireturn, 1) := by decide +kernel
theorem d_Al_fill_54 : decode b_Al_fill 54 = .ok (.iinc 3 1, 3) := by decide +kernel
theorem d_Al_fill_57 : decode b_Al_fill 57 = .ok (.goto (-46), 3) := by decide +kernel
theorem d_Al_fill_60 : decode b_Al_fill 60 = .ok (.iconst 0, 1) := by decide +kernel
theorem d_Al_fill_61 : decode b_Al_fill 61 = .ok (.ireturn, 1) := by decide +kernel
theorem d_Al_longestWaiting_0 : decode b_Al_longestWaiting 0 = .ok (.iconst (-1), 1) := by decide +kernel
theorem d_Al_longestWaiting_1 : decode b_Al_longestWaiting 1 = .ok (.istore_n 2, 1) := by decide +kernel
theorem d_Al_longestWaiting_2 : decode b_Al_longestWaiting 2 = .ok (.iconst 0, 1) := by decide +kernel
theorem d_Al_longestWaiting_3 : decode b_Al_longestWaiting 3 = .ok (.istore_n 3, 1) := by decide +kernel
theorem d_Al_longestWaiting_4 : decode b_Al_longestWaiting 4 = .ok (.iload_n 3, 1) := by decide +kernel
theorem d_Al_longestWaiting_5 : decode b_Al_longestWaiting 5 = .ok (.aload_n 1, 1) := by decide +kernel
theorem d_Al_longestWaiting_6 : decode b_Al_longestWaiting 6 = .ok (.invokevirtual 43, 3) := by decide +kernel
theorem d_Al_longestWaiting_9 : decode b_Al_longestWaiting 9 = .ok (.if_icmp .ge 59, 3) := by decide +kernel
theorem d_Al_longestWaiting_12 : decode b_Al_longestWaiting 12 = .ok (.aload_n 1, 1) := by decide +kernel
theorem d_Al_longestWaiting_13 : decode b_Al_longestWaiting 13 = .ok (.iload_n 3, 1) := by decide +kernel
theorem d_Al_longestWaiting_14 : decode b_Al_longestWaiting 14 = .ok (.invokevirtual 49, 3) := by decide +kernel
theorem d_Al_longestWaiting_17 : decode b_Al_longestWaiting 17 = .ok (.ifCond .eq 17, 3) := by decide +kernel
theorem d_Al_longestWaiting_20 : decode b_Al_longestWaiting 20 = .ok (.aload_n 0, 1) := by decide +kernel
theorem d_Al_longestWaiting_21 : decode b_Al_longestWaiting 21 = .ok (.getfield 9, 3) := by decide +kernel
theorem d_Al_longestWaiting_24 : decode b_Al_longestWaiting 24 = .ok (.iload_n 3, 1) := by decide +kernel
theorem d_Al_longestWaiting_25 : decode b_Al_longestWaiting 25 = .ok (.iaload, 1) := by decide +kernel
theorem d_Al_longestWaiting_26 : decode b_Al_longestWaiting 26 = .ok (.iconst (-1), 1) := by decide +kernel
theorem d_Al_longestWaiting_27 : decode b_Al_longestWaiting 27 = .ok (.if_icmp .ne 7, 3) := by decide +kernel
theorem d_Al_longestWaiting_30 : decode b_Al_longestWaiting 30 = .ok (.iconst 1, 1) := by decide +kernel
theorem d_Al_longestWaiting_31 : decode b_Al_longestWaiting 31 = .ok (.goto 4, 3) := by decide +kernel
theorem d_Al_longestWaiting_34 : decode b_Al_longestWaiting 34 = .ok (.iconst 0, 1) := by decide +kernel
theorem d_Al_longestWaiting_35 : decode b_Al_longestWaiting 35 = .ok (.istore 4, 2) := by decide +kernel
theorem d_Al_longestWaiting_37 : decode b_Al_longestWaiting 37 = .ok (.iload 4, 2) := by decide +kernel
theorem d_Al_longestWaiting_39 : decode b_Al_longestWaiting 39 = .ok (.ifCond .eq 23, 3) := by decide +kernel
theorem d_Al_longestWaiting_42 : decode b_Al_longestWaiting 42 = .ok (.iload_n 2, 1) := by decide +kernel
theorem d_Al_longestWaiting_43 : decode b_Al_longestWaiting 43 = .ok (.iconst (-1), 1) := by decide +kernel
theorem d_Al_longestWaiting_44 : decode b_Al_longestWaiting 44 = .ok (.if_icmp .eq 16, 3) := by decide +kernel
theorem d_Al_longestWaiting_47 : decode b_Al_longestWaiting 47 = .ok (.aload_n 1, 1) := by decide +kernel
theorem d_Al_longestWaiting_48 : decode b_Al_longestWaiting 48 = .ok (.iload_n 3, 1) := by decide +kernel
theorem d_Al_longestWaiting_49 : decode b_Al_longestWaiting 49 = .ok (.invokevirtual 53, 3) := by decide +kernel
theorem d_Al_longestWaiting_52 : decode b_Al_longestWaiting 52 = .ok (.aload_n 1, 1) := by decide +kernel
theorem d_Al_longestWaiting_53 : decode b_Al_longestWaiting 53 = .ok (.iload_n 2, 1) := by decide +kernel
theorem d_Al_longestWaiting_54 : decode b_Al_longestWaiting 54 = .ok (.invokevirtual 53, 3) := by decide +kernel
theorem d_Al_longestWaiting_57 : decode b_Al_longestWaiting 57 = .ok (.if_icmp .le 5, 3) := by decide +kernel
theorem d_Al_longestWaiting_60 : decode b_Al_longestWaiting 60 = .ok (.iload_n 3, 1) := by decide +kernel
theorem d_Al_longestWaiting_61 : decode b_Al_longestWaiting 61 = .ok (.istore_n 2, 1) := by decide +kernel
theorem d_Al_longestWaiting_62 : decode b_Al_longestWaiting 62 = .ok (.iinc 3 1, 3) := by decide +kernel
theorem d_Al_longestWaiting_65 : decode b_Al_longestWaiting 65 = .ok (.goto (-61), 3) := by decide +kernel
theorem d_Al_longestWaiting_68 : decode b_Al_longestWaiting 68 = .ok (.iload_n 2, 1) := by decide +kernel
theorem d_Al_longestWaiting_69 : decode b_Al_longestWaiting 69 = .ok (.ireturn, 1) := by decide +kernel
theorem d_Co_lengthOf_0 : decode b_Co_lengthOf 0 = .ok (.aload_n 0, 1) := by decide +kernel
theorem d_Co_lengthOf_1 : decode b_Co_lengthOf 1 = .ok (.getfield 21, 3) := by decide +kernel
theorem d_Co_lengthOf_4 : decode b_Co_lengthOf 4 = .ok (.iload_n 1, 1) := by decide +kernel
theorem d_Co_lengthOf_5 : decode b_Co_lengthOf 5 = .ok (.iaload, 1) := by decide +kernel
theorem d_Co_lengthOf_6 : decode b_Co_lengthOf 6 = .ok (.iload_n 1, 1) := by decide +kernel
theorem d_Co_lengthOf_7 : decode b_Co_lengthOf 7 = .ok (.isub, 1) := by decide +kernel
theorem d_Co_lengthOf_8 : decode b_Co_lengthOf 8 = .ok (.ireturn, 1) := by decide +kernel
theorem d_Al_takeRegister_0 : decode b_Al_takeRegister 0 = .ok (.aload_n 1, 1) := by decide +kernel
theorem d_Al_takeRegister_1 : decode b_Al_takeRegister 1 = .ok (.iload_n 2, 1) := by decide +kernel
theorem d_Al_takeRegister_2 : decode b_Al_takeRegister 2 = .ok (.invokevirtual 57, 3) := by decide +kernel
theorem d_Al_takeRegister_5 : decode b_Al_takeRegister 5 = .ok (.ifCond .eq 14, 3) := by decide +kernel
theorem d_Al_takeRegister_8 : decode b_Al_takeRegister 8 = .ok (.aload_n 0, 1) := by decide +kernel
theorem d_Al_takeRegister_9 : decode b_Al_takeRegister 9 = .ok (.getfield 21, 3) := by decide +kernel
theorem d_Al_takeRegister_12 : decode b_Al_takeRegister 12 = .ok (.iconst 2, 1) := by decide +kernel
theorem d_Al_takeRegister_13 : decode b_Al_takeRegister 13 = .ok (.invokestatic 60, 3) := by decide +kernel
theorem d_Al_takeRegister_16 : decode b_Al_takeRegister 16 = .ok (.goto 7, 3) := by decide +kernel
theorem d_Al_takeRegister_19 : decode b_Al_takeRegister 19 = .ok (.aload_n 0, 1) := by decide +kernel
theorem d_Al_takeRegister_20 : decode b_Al_takeRegister 20 = .ok (.getfield 21, 3) := by decide +kernel
theorem d_Al_takeRegister_23 : decode b_Al_takeRegister 23 = .ok (.istore_n 3, 1) := by decide +kernel
theorem d_Al_takeRegister_24 : decode b_Al_takeRegister 24 = .ok (.iconst (-1), 1) := by decide +kernel
theorem d_Al_takeRegister_25 : decode b_Al_takeRegister 25 = .ok (.istore 4, 2) := by decide +kernel
theorem d_Al_takeRegister_27 : decode b_Al_takeRegister 27 = .ok (.aload_n 1, 1) := by decide +kernel
theorem d_Al_takeRegister_28 : decode b_Al_takeRegister 28 = .ok (.iload_n 2, 1) := by decide +kernel
theorem d_Al_takeRegister_29 : decode b_Al_takeRegister 29 = .ok (.invokevirtual 66, 3) := by decide +kernel
theorem d_Al_takeRegister_32 : decode b_Al_takeRegister 32 = .ok (.dstore 5, 2) := by decide +kernel
theorem d_Al_takeRegister_34 : decode b_Al_takeRegister 34 = .ok (.iconst 0, 1) := by decide +kernel
theorem d_Al_takeRegister_35 : decode b_Al_takeRegister 35 = .ok (.istore 7, 2) := by decide +kernel
theorem d_Al_takeRegister_37 : decode b_Al_takeRegister 37 = .ok (.iload 7, 2) := by decide +kernel
theorem d_Al_takeRegister_39 : decode b_Al_takeRegister 39 = .ok (.iload_n 3, 1) := by decide +kernel
theorem d_Al_takeRegister_40 : decode b_Al_takeRegister 40 = .ok (.if_icmp .ge 35, 3) := by decide +kernel
theorem d_Al_takeRegister_43 : decode b_Al_takeRegister 43 = .ok (.aload_n 0, 1) := by decide +kernel
theorem d_Al_takeRegister_44 : decode b_Al_takeRegister 44 = .ok (.aload_n 1, 1) := by decide +kernel
theorem d_Al_takeRegister_45 : decode b_Al_takeRegister 45 = .ok (.iload_n 2, 1) := by decide +kernel
theorem d_Al_takeRegister_46 : decode b_Al_takeRegister 46 = .ok (.iload 7, 2) := by decide +kernel
theorem d_Al_takeRegister_48 : decode b_Al_takeRegister 48 = .ok (.invokevirtual 70, 3) := by decide +kernel
theorem d_Al_takeRegister_51 : decode b_Al_takeRegister 51 = .ok (.dstore 8, 2) := by decide +kernel
theorem d_Al_takeRegister_53 : decode b_Al_takeRegister 53 = .ok (.dload 8, 2) := by decide +kernel
theorem d_Al_takeRegister_55 : decode b_Al_takeRegister 55 = .ok (.dload 5, 2) := by decide +kernel
theorem d_Al_takeRegister_57 : decode b_Al_takeRegister 57 = .ok (.dcmp .g, 1) := by decide +kernel
theorem d_Al_takeRegister_58 : decode b_Al_takeRegister 58 = .ok (.ifCond .ge 11, 3) := by decide +kernel
theorem d_Al_takeRegister_61 : decode b_Al_takeRegister 61 = .ok (.iload 7, 2) := by decide +kernel
theorem d_Al_takeRegister_63 : decode b_Al_takeRegister 63 = .ok (.istore 4, 2) := by decide +kernel
theorem d_Al_takeRegister_65 : decode b_Al_takeRegister 65 = .ok (.dload 8, 2) := by decide +kernel
theorem d_Al_takeRegister_67 : decode b_Al_takeRegister 67 = .ok (.dstore 5, 2) := by decide +kernel
theorem d_Al_takeRegister_69 : decode b_Al_takeRegister 69 = .ok (.iinc 7 1, 3) := by decide +kernel
theorem d_Al_takeRegister_72 : decode b_Al_takeRegister 72 = .ok (.goto (-35), 3) := by decide +kernel
theorem d_Al_takeRegister_75 : decode b_Al_takeRegister 75 = .ok (.iload 4, 2) := by decide +kernel
theorem d_Al_takeRegister_77 : decode b_Al_takeRegister 77 = .ok (.iconst (-1), 1) := by decide +kernel
theorem d_Al_takeRegister_78 : decode b_Al_takeRegister 78 = .ok (.if_icmp .ne 5, 3) := by decide +kernel
theorem d_Al_takeRegister_81 : decode b_Al_takeRegister 81 = .ok (.iconst 0, 1) := by decide +kernel
theorem d_Al_takeRegister_82 : decode b_Al_takeRegister 82 = .ok (.ireturn, 1) := by decide +kernel
theorem d_Al_takeRegister_83 : decode b_Al_takeRegister 83 = .ok (.aload_n 0, 1) := by decide +kernel
theorem d_Al_takeRegister_84 : decode b_Al_takeRegister 84 = .ok (.aload_n 1, 1) := by decide +kernel
theorem d_Al_takeRegister_85 : decode b_Al_takeRegister 85 = .ok (.iload_n 2, 1) := by decide +kernel
theorem d_Al_takeRegister_86 : decode b_Al_takeRegister 86 = .ok (.iload 4, 2) := by decide +kernel
theorem d_Al_takeRegister_88 : decode b_Al_takeRegister 88 = .ok (.invokevirtual 74, 3) := by decide +kernel
theorem d_Al_takeRegister_91 : decode b_Al_takeRegister 91 = .ok (.aload_n 0, 1) := by decide +kernel
theorem d_Al_takeRegister_92 : decode b_Al_takeRegister 92 = .ok (.getfield 9, 3) := by decide +kernel
theorem d_Al_takeRegister_95 : decode b_Al_takeRegister 95 = .ok (.iload_n 2, 1) := by decide +kernel
theorem d_Al_takeRegister_96 : decode b_Al_takeRegister 96 = .ok (.iload 4, 2) := by decide +kernel
theorem d_Al_takeRegister_98 : decode b_Al_takeRegister 98 = .ok (.iastore, 1) := by decide +kernel
theorem d_Al_takeRegister_99 : decode b_Al_takeRegister 99 = .ok (.iconst 1, 1) := by decide +kernel
theorem d_Al_takeRegister_100 : decode b_Al_takeRegister 100 = .ok (.ireturn, 1) := by decide +kernel
theorem d_Co_isCrossed_0 : decode b_Co_isCrossed 0 = .ok (.iload_n 1, 1) := by decide +kernel
theorem d_Co_isCrossed_1 : decode b_Co_isCrossed 1 = .ok (.iconst 1, 1) := by decide +kernel
theorem d_Co_isCrossed_2 : decode b_Co_isCrossed 2 = .ok (.iadd, 1) := by decide +kernel
theorem d_Co_isCrossed_3 : decode b_Co_isCrossed 3 = .ok (.istore_n 2, 1) := by decide +kernel
theorem d_Co_isCrossed_4 : decode b_Co_isCrossed 4 = .ok (.iload_n 2, 1) := by decide +kernel
theorem d_Co_isCrossed_5 : decode b_Co_isCrossed 5 = .ok (.aload_n 0, 1) := by decide +kernel
theorem d_Co_isCrossed_6 : decode b_Co_isCrossed 6 = .ok (.getfield 21, 3) := by decide +kernel
theorem d_Co_isCrossed_9 : decode b_Co_isCrossed 9 = .ok (.iload_n 1, 1) := by decide +kernel
theorem d_Co_isCrossed_10 : decode b_Co_isCrossed 10 = .ok (.iaload, 1) := by decide +kernel
theorem d_Co_isCrossed_11 : decode b_Co_isCrossed 11 = .ok (.if_icmp .ge 30, 3) := by decide +kernel
theorem d_Co_isCrossed_14 : decode b_Co_isCrossed 14 = .ok (.iload_n 2, 1) := by decide +kernel
theorem d_Co_isCrossed_15 : decode b_Co_isCrossed 15 = .ok (.aload_n 0, 1) := by decide +kernel
theorem d_Co_isCrossed_16 : decode b_Co_isCrossed 16 = .ok (.getfield 43, 3) := by decide +kernel
theorem d_Co_isCrossed_19 : decode b_Co_isCrossed 19 = .ok (.if_icmp .ge 22, 3) := by decide +kernel
theorem d_Co_isCrossed_22 : decode b_Co_isCrossed 22 = .ok (.aload_n 0, 1) := by decide +kernel
theorem d_Co_isCrossed_23 : decode b_Co_isCrossed 23 = .ok (.getfield 9, 3) := by decide +kernel
theorem d_Co_isCrossed_26 : decode b_Co_isCrossed 26 = .ok (.iload_n 2, 1) := by decide +kernel
theorem d_Co_isCrossed_27 : decode b_Co_isCrossed 27 = .ok (.iaload, 1) := by decide +kernel
theorem d_Co_isCrossed_28 : decode b_Co_isCrossed 28 = .ok (.bipush 7, 2) := by decide +kernel
theorem d_Co_isCrossed_30 : decode b_Co_isCrossed 30 = .ok (.if_icmp .ne 5, 3) := by decide +kernel
theorem d_Co_isCrossed_33 : decode b_Co_isCrossed 33 = .ok (.iconst 1, 1) := by decide +kernel
theorem d_Co_isCrossed_34 : decode b_Co_isCrossed 34 = .ok (.ireturn, 1) := by decide +kernel
theorem d_Co_isCrossed_35 : decode b_Co_isCrossed 35 = .ok (.iinc 2 1, 3) := by decide +kernel
theorem d_Co_isCrossed_38 : decode b_Co_isCrossed 38 = .ok (.goto (-34), 3) := by decide +kernel
theorem d_Co_isCrossed_41 : decode b_Co_isCrossed 41 = .ok (.iconst 0, 1) := by decide +kernel
theorem d_Co_isCrossed_42 : decode b_Co_isCrossed 42 = .ok (.ireturn, 1) := by decide +kernel
theorem d_Co_weightOf_0 : decode b_Co_weightOf 0 = .ok (.aload_n 0, 1) := by decide +kernel
theorem d_Co_weightOf_1 : decode b_Co_weightOf 1 = .ok (.getfield 27, 3) := by decide +kernel
theorem d_Co_weightOf_4 : decode b_Co_weightOf 4 = .ok (.iload_n 1, 1) := by decide +kernel
theorem d_Co_weightOf_5 : decode b_Co_weightOf 5 = .ok (.iaload, 1) := by decide +kernel
theorem d_Co_weightOf_6 : decode b_Co_weightOf 6 = .ok (.i2d, 1) := by decide +kernel
theorem d_Co_weightOf_7 : decode b_Co_weightOf 7 = .ok (.aload_n 0, 1) := by decide +kernel
theorem d_Co_weightOf_8 : decode b_Co_weightOf 8 = .ok (.iload_n 1, 1) := by decide +kernel
theorem d_Co_weightOf_9 : decode b_Co_weightOf 9 = .ok (.invokevirtual 54, 3) := by decide +kernel
theorem d_Co_weightOf_12 : decode b_Co_weightOf 12 = .ok (.i2d, 1) := by decide +kernel
theorem d_Co_weightOf_13 : decode b_Co_weightOf 13 = .ok (.ddiv, 1) := by decide +kernel
theorem d_Co_weightOf_14 : decode b_Co_weightOf 14 = .ok (.dreturn, 1) := by decide +kernel
theorem d_Al_heaviestMeeting_0 : decode b_Al_heaviestMeeting 0 = .ok (.dconst 0, 1) := by decide +kernel
theorem d_Al_heaviestMeeting_1 : decode b_Al_heaviestMeeting 1 = .ok (.dstore 4, 2) := by decide +kernel
theorem d_Al_heaviestMeeting_3 : decode b_Al_heaviestMeeting 3 = .ok (.iconst 0, 1) := by decide +kernel
theorem d_Al_heaviestMeeting_4 : decode b_Al_heaviestMeeting 4 = .ok (.istore 6, 2) := by decide +kernel
theorem d_Al_heaviestMeeting_6 : decode b_Al_heaviestMeeting 6 = .ok (.iload 6, 2) := by decide +kernel
theorem d_Al_heaviestMeeting_8 : decode b_Al_heaviestMeeting 8 = .ok (.aload_n 1, 1) := by decide +kernel
theorem d_Al_heaviestMeeting_9 : decode b_Al_heaviestMeeting 9 = .ok (.invokevirtual 43, 3) := by decide +kernel
theorem d_Al_heaviestMeeting_12 : decode b_Al_heaviestMeeting 12 = .ok (.if_icmp .ge 50, 3) := by decide +kernel
theorem d_Al_heaviestMeeting_15 : decode b_Al_heaviestMeeting 15 = .ok (.aload_n 0, 1) := by decide +kernel
theorem d_Al_heaviestMeeting_16 : decode b_Al_heaviestMeeting 16 = .ok (.getfield 9, 3) := by decide +kernel
theorem d_Al_heaviestMeeting_19 : decode b_Al_heaviestMeeting 19 = .ok (.iload 6, 2) := by decide +kernel
theorem d_Al_heaviestMeeting_21 : decode b_Al_heaviestMeeting 21 = .ok (.iaload, 1) := by decide +kernel
theorem d_Al_heaviestMeeting_22 : decode b_Al_heaviestMeeting 22 = .ok (.iload_n 3, 1) := by decide +kernel
theorem d_Al_heaviestMeeting_23 : decode b_Al_heaviestMeeting 23 = .ok (.if_icmp .ne 33, 3) := by decide +kernel
theorem d_Al_heaviestMeeting_26 : decode b_Al_heaviestMeeting 26 = .ok (.aload_n 1, 1) := by decide +kernel
theorem d_Al_heaviestMeeting_27 : decode b_Al_heaviestMeeting 27 = .ok (.iload_n 2, 1) := by decide +kernel
theorem d_Al_heaviestMeeting_28 : decode b_Al_heaviestMeeting 28 = .ok (.iload 6, 2) := by decide +kernel
theorem d_Al_heaviestMeeting_30 : decode b_Al_heaviestMeeting 30 = .ok (.invokevirtual 78, 3) := by decide +kernel
theorem d_Al_heaviestMeeting_33 : decode b_Al_heaviestMeeting 33 = .ok (.ifCond .eq 23, 3) := by decide +kernel
theorem d_Al_heaviestMeeting_36 : decode b_Al_heaviestMeeting 36 = .ok (.aload_n 1, 1) := by decide +kernel
theorem d_Al_heaviestMeeting_37 : decode b_Al_heaviestMeeting 37 = .ok (.iload 6, 2) := by decide +kernel
theorem d_Al_heaviestMeeting_39 : decode b_Al_heaviestMeeting 39 = .ok (.invokevirtual 66, 3) := by decide +kernel
theorem d_Al_heaviestMeeting_42 : decode b_Al_heaviestMeeting 42 = .ok (.dload 4, 2) := by decide +kernel
theorem d_Al_heaviestMeeting_44 : decode b_Al_heaviestMeeting 44 = .ok (.dcmp .l, 1) := by decide +kernel
theorem d_Al_heaviestMeeting_45 : decode b_Al_heaviestMeeting 45 = .ok (.ifCond .le 11, 3) := by decide +kernel
theorem d_Al_heaviestMeeting_48 : decode b_Al_heaviestMeeting 48 = .ok (.aload_n 1, 1) := by decide +kernel
theorem d_Al_heaviestMeeting_49 : decode b_Al_heaviestMeeting 49 = .ok (.iload 6, 2) := by decide +kernel
theorem d_Al_heaviestMeeting_51 : decode b_Al_heaviestMeeting 51 = .ok (.invokevirtual 66, 3) := by decide +kernel
theorem d_Al_heaviestMeeting_54 : decode b_Al_heaviestMeeting 54 = .ok (.dstore 4, 2) := by decide +kernel
theorem d_Al_heaviestMeeting_56 : decode b_Al_heaviestMeeting 56 = .ok (.iinc 6 1, 3) := by decide +kernel
theorem d_Al_heaviestMeeting_59 : decode b_Al_heaviestMeeting 59 = .ok (.goto (-53), 3) := by decide +kernel
theorem d_Al_heaviestMeeting_62 : decode b_Al_heaviestMeeting 62 = .ok (.dload 4, 2) := by decide +kernel
theorem d_Al_heaviestMeeting_64 : decode b_Al_heaviestMeeting 64 = .ok (.dreturn, 1) := by decide +kernel
theorem d_Co_meet_0 : decode b_Co_meet 0 = .ok (.iload_n 1, 1) := by decide +kernel
theorem d_Co_meet_1 : decode b_Co_meet 1 = .ok (.aload_n 0, 1) := by decide +kernel
theorem d_Co_meet_2 : decode b_Co_meet 2 = .ok (.getfield 21, 3) := by decide +kernel
theorem d_Co_meet_5 : decode b_Co_meet 5 = .ok (.iload_n 2, 1) := by decide +kernel
theorem d_Co_meet_6 : decode b_Co_meet 6 = .ok (.iaload, 1) := by decide +kernel
theorem d_Co_meet_7 : decode b_Co_meet 7 = .ok (.if_icmp .ge 17, 3) := by decide +kernel
theorem d_Co_meet_10 : decode b_Co_meet 10 = .ok (.iload_n 2, 1) := by decide +kernel
theorem d_Co_meet_11 : decode b_Co_meet 11 = .ok (.aload_n 0, 1) := by decide +kernel
theorem d_Co_meet_12 : decode b_Co_meet 12 = .ok (.getfield 21, 3) := by decide +kernel
theorem d_Co_meet_15 : decode b_Co_meet 15 = .ok (.iload_n 1, 1) := by decide +kernel
theorem d_Co_meet_16 : decode b_Co_meet 16 = .ok (.iaload, 1) := by decide +kernel
theorem d_Co_meet_17 : decode b_Co_meet 17 = .ok (.if_icmp .ge 7, 3) := by decide +kernel
theorem d_Co_meet_20 : decode b_Co_meet 20 = .ok (.iconst 1, 1) := by decide +kernel
theorem d_Co_meet_21 : decode b_Co_meet 21 = .ok (.goto 4, 3) := by decide +kernel
theorem d_Co_meet_24 : decode b_Co_meet 24 = .ok (.iconst 0, 1) := by decide +kernel
theorem d_Co_meet_25 : decode b_Co_meet 25 = .ok (.ireturn, 1) := by decide +kernel
theorem d_Al_evictMeeting_0 : decode b_Al_evictMeeting 0 = .ok (.iconst 0, 1) := by decide +kernel
theorem d_Al_evictMeeting_1 : decode b_Al_evictMeeting 1 = .ok (.istore 4, 2) := by decide +kernel
theorem d_Al_evictMeeting_3 : decode b_Al_evictMeeting 3 = .ok (.iload 4, 2) := by decide +kernel
theorem d_Al_evictMeeting_5 : decode b_Al_evictMeeting 5 = .ok (.aload_n 1, 1) := by decide +kernel
theorem d_Al_evictMeeting_6 : decode b_Al_evictMeeting 6 = .ok (.invokevirtual 43, 3) := by decide +kernel
theorem d_Al_evictMeeting_9 : decode b_Al_evictMeeting 9 = .ok (.if_icmp .ge 48, 3) := by decide +kernel
theorem d_Al_evictMeeting_12 : decode b_Al_evictMeeting 12 = .ok (.aload_n 0, 1) := by decide +kernel
theorem d_Al_evictMeeting_13 : decode b_Al_evictMeeting 13 = .ok (.getfield 9, 3) := by decide +kernel
theorem d_Al_evictMeeting_16 : decode b_Al_evictMeeting 16 = .ok (.iload 4, 2) := by decide +kernel
theorem d_Al_evictMeeting_18 : decode b_Al_evictMeeting 18 = .ok (.iaload, 1) := by decide +kernel
theorem d_Al_evictMeeting_19 : decode b_Al_evictMeeting 19 = .ok (.iload_n 3, 1) := by decide +kernel
theorem d_Al_evictMeeting_20 : decode b_Al_evictMeeting 20 = .ok (.if_icmp .ne 31, 3) := by decide +kernel
theorem d_Al_evictMeeting_23 : decode b_Al_evictMeeting 23 = .ok (.aload_n 1, 1) := by decide +kernel
theorem d_Al_evictMeeting_24 : decode b_Al_evictMeeting 24 = .ok (.iload_n 2, 1) := by decide +kernel
theorem d_Al_evictMeeting_25 : decode b_Al_evictMeeting 25 = .ok (.iload 4, 2) := by decide +kernel
theorem d_Al_evictMeeting_27 : decode b_Al_evictMeeting 27 = .ok (.invokevirtual 78, 3) := by decide +kernel
theorem d_Al_evictMeeting_30 : decode b_Al_evictMeeting 30 = .ok (.ifCond .eq 21, 3) := by decide +kernel
theorem d_Al_evictMeeting_33 : decode b_Al_evictMeeting 33 = .ok (.aload_n 0, 1) := by decide +kernel
theorem d_Al_evictMeeting_34 : decode b_Al_evictMeeting 34 = .ok (.getfield 9, 3) := by decide +kernel
theorem d_Al_evictMeeting_37 : decode b_Al_evictMeeting 37 = .ok (.iload 4, 2) := by decide +kernel
theorem d_Al_evictMeeting_39 : decode b_Al_evictMeeting 39 = .ok (.iconst (-1), 1) := by decide +kernel
theorem d_Al_evictMeeting_40 : decode b_Al_evictMeeting 40 = .ok (.iastore, 1) := by decide +kernel
theorem d_Al_evictMeeting_41 : decode b_Al_evictMeeting 41 = .ok (.aload_n 0, 1) := by decide +kernel
theorem d_Al_evictMeeting_42 : decode b_Al_evictMeeting 42 = .ok (.dup, 1) := by decide +kernel
theorem d_Al_evictMeeting_43 : decode b_Al_evictMeeting 43 = .ok (.getfield 25, 3) := by decide +kernel
theorem d_Al_evictMeeting_46 : decode b_Al_evictMeeting 46 = .ok (.iconst 1, 1) := by decide +kernel
theorem d_Al_evictMeeting_47 : decode b_Al_evictMeeting 47 = .ok (.iadd, 1) := by decide +kernel
theorem d_Al_evictMeeting_48 : decode b_Al_evictMeeting 48 = .ok (.putfield 25, 3) := by decide +kernel
theorem d_Al_evictMeeting_51 : decode b_Al_evictMeeting 51 = .ok (.iinc 4 1, 3) := by decide +kernel
theorem d_Al_evictMeeting_54 : decode b_Al_evictMeeting 54 = .ok (.goto (-51), 3) := by decide +kernel
theorem d_Al_evictMeeting_57 : decode b_Al_evictMeeting 57 = .ok (.return_, 1) := by decide +kernel
theorem d_Al_takeSlot_0 : decode b_Al_takeSlot 0 = .ok (.bipush 10, 2) := by decide +kernel
theorem d_Al_takeSlot_2 : decode b_Al_takeSlot 2 = .ok (.istore_n 3, 1) := by decide +kernel
theorem d_Al_takeSlot_3 : decode b_Al_takeSlot 3 = .ok (.iload_n 3, 1) := by decide +kernel
theorem d_Al_takeSlot_4 : decode b_Al_takeSlot 4 = .ok (.bipush 16, 2) := by decide +kernel
theorem d_Al_takeSlot_6 : decode b_Al_takeSlot 6 = .ok (.if_icmp .ge 30, 3) := by decide +kernel
theorem d_Al_takeSlot_9 : decode b_Al_takeSlot 9 = .ok (.aload_n 0, 1) := by decide +kernel
theorem d_Al_takeSlot_10 : decode b_Al_takeSlot 10 = .ok (.aload_n 1, 1) := by decide +kernel
theorem d_Al_takeSlot_11 : decode b_Al_takeSlot 11 = .ok (.iload_n 2, 1) := by decide +kernel
theorem d_Al_takeSlot_12 : decode b_Al_takeSlot 12 = .ok (.iload_n 3, 1) := by decide +kernel
theorem d_Al_takeSlot_13 : decode b_Al_takeSlot 13 = .ok (.invokevirtual 70, 3) := by decide +kernel
theorem d_Al_takeSlot_16 : decode b_Al_takeSlot 16 = .ok (.dconst 0, 1) := by decide +kernel
theorem d_Al_takeSlot_17 : decode b_Al_takeSlot 17 = .ok (.dcmp .l, 1) := by decide +kernel
theorem d_Al_takeSlot_18 : decode b_Al_takeSlot 18 = .ok (.ifCond .ne 12, 3) := by decide +kernel
theorem d_Al_takeSlot_21 : decode b_Al_takeSlot 21 = .ok (.aload_n 0, 1) := by decide +kernel
theorem d_Al_takeSlot_22 : decode b_Al_takeSlot 22 = .ok (.getfield 9, 3) := by decide +kernel
theorem d_Al_takeSlot_25 : decode b_Al_takeSlot 25 = .ok (.iload_n 2, 1) := by decide +kernel
theorem d_Al_takeSlot_26 : decode b_Al_takeSlot 26 = .ok (.iload_n 3, 1) := by decide +kernel
theorem d_Al_takeSlot_27 : decode b_Al_takeSlot 27 = .ok (.iastore, 1) := by decide +kernel
theorem d_Al_takeSlot_28 : decode b_Al_takeSlot 28 = .ok (.iconst 1, 1) := by decide +kernel
theorem d_Al_takeSlot_29 : decode b_Al_takeSlot 29 = .ok (.ireturn, 1) := by decide +kernel
theorem d_Al_takeSlot_30 : decode b_Al_takeSlot 30 = .ok (.iinc 3 1, 3) := by decide +kernel
theorem d_Al_takeSlot_33 : decode b_Al_takeSlot 33 = .ok (.goto (-30), 3) := by decide +kernel
theorem d_Al_takeSlot_36 : decode b_Al_takeSlot 36 = .ok (.iconst 0, 1) := by decide +kernel
theorem d_Al_takeSlot_37 : decode b_Al_takeSlot 37 = .ok (.ireturn, 1) := by decide +kernel
theorem d_Al_valuesInRegisters_0 : decode b_Al_valuesInRegisters 0 = .ok (.aload_n 0, 1) := by decide +kernel
theorem d_Al_valuesInRegisters_1 : decode b_Al_valuesInRegisters 1 = .ok (.iconst 0, 1) := by decide +kernel
theorem d_Al_valuesInRegisters_2 : decode b_Al_valuesInRegisters 2 = .ok (.iconst 5, 1) := by decide +kernel
theorem d_Al_valuesInRegisters_3 : decode b_Al_valuesInRegisters 3 = .ok (.invokevirtual 82, 3) := by decide +kernel
theorem d_Al_valuesInRegisters_6 : decode b_Al_valuesInRegisters 6 = .ok (.ireturn, 1) := by decide +kernel
theorem d_Al_valuesFrom_0 : decode b_Al_valuesFrom 0 = .ok (.iconst 0, 1) := by decide +kernel
theorem d_Al_valuesFrom_1 : decode b_Al_valuesFrom 1 = .ok (.istore_n 3, 1) := by decide +kernel
theorem d_Al_valuesFrom_2 : decode b_Al_valuesFrom 2 = .ok (.iload_n 1, 1) := by decide +kernel
theorem d_Al_valuesFrom_3 : decode b_Al_valuesFrom 3 = .ok (.istore 4, 2) := by decide +kernel
theorem d_Al_valuesFrom_5 : decode b_Al_valuesFrom 5 = .ok (.iload 4, 2) := by decide +kernel
theorem d_Al_valuesFrom_7 : decode b_Al_valuesFrom 7 = .ok (.iload_n 1, 1) := by decide +kernel
theorem d_Al_valuesFrom_8 : decode b_Al_valuesFrom 8 = .ok (.iload_n 2, 1) := by decide +kernel
theorem d_Al_valuesFrom_9 : decode b_Al_valuesFrom 9 = .ok (.iadd, 1) := by decide +kernel
theorem d_Al_valuesFrom_10 : decode b_Al_valuesFrom 10 = .ok (.if_icmp .ge 18, 3) := by decide +kernel
theorem d_Al_valuesFrom_13 : decode b_Al_valuesFrom 13 = .ok (.iload_n 3, 1) := by decide +kernel
theorem d_Al_valuesFrom_14 : decode b_Al_valuesFrom 14 = .ok (.aload_n 0, 1) := by decide +kernel
theorem d_Al_valuesFrom_15 : decode b_Al_valuesFrom 15 = .ok (.iload 4, 2) := by decide +kernel
theorem d_Al_valuesFrom_17 : decode b_Al_valuesFrom 17 = .ok (.invokevirtual 88, 3) := by decide +kernel
theorem d_Al_valuesFrom_20 : decode b_Al_valuesFrom 20 = .ok (.iadd, 1) := by decide +kernel
theorem d_Al_valuesFrom_21 : decode b_Al_valuesFrom 21 = .ok (.istore_n 3, 1) := by decide +kernel
theorem d_Al_valuesFrom_22 : decode b_Al_valuesFrom 22 = .ok (.iinc 4 1, 3) := by decide +kernel
theorem d_Al_valuesFrom_25 : decode b_Al_valuesFrom 25 = .ok (.goto (-20), 3) := by decide +kernel
theorem d_Al_valuesFrom_28 : decode b_Al_valuesFrom 28 = .ok (.iload_n 3, 1) := by decide +kernel
theorem d_Al_valuesFrom_29 : decode b_Al_valuesFrom 29 = .ok (.ireturn, 1) := by decide +kernel
theorem d_Al_valuesAt_0 : decode b_Al_valuesAt 0 = .ok (.iconst 0, 1) := by decide +kernel
theorem d_Al_valuesAt_1 : decode b_Al_valuesAt 1 = .ok (.istore_n 2, 1) := by decide +kernel
theorem d_Al_valuesAt_2 : decode b_Al_valuesAt 2 = .ok (.iconst 0, 1) := by decide +kernel
theorem d_Al_valuesAt_3 : decode b_Al_valuesAt 3 = .ok (.istore_n 3, 1) := by decide +kernel
theorem d_Al_valuesAt_4 : decode b_Al_valuesAt 4 = .ok (.iload_n 3, 1) := by decide +kernel
theorem d_Al_valuesAt_5 : decode b_Al_valuesAt 5 = .ok (.aload_n 0, 1) := by decide +kernel
theorem d_Al_valuesAt_6 : decode b_Al_valuesAt 6 = .ok (.getfield 9, 3) := by decide +kernel
theorem d_Al_valuesAt_9 : decode b_Al_valuesAt 9 = .ok (.arraylength, 1) := by decide +kernel
theorem d_Al_valuesAt_10 : decode b_Al_valuesAt 10 = .ok (.if_icmp .ge 22, 3) := by decide +kernel
theorem d_Al_valuesAt_13 : decode b_Al_valuesAt 13 = .ok (.aload_n 0, 1) := by decide +kernel
theorem d_Al_valuesAt_14 : decode b_Al_valuesAt 14 = .ok (.getfield 9, 3) := by decide +kernel
theorem d_Al_valuesAt_17 : decode b_Al_valuesAt 17 = .ok (.iload_n 3, 1) := by decide +kernel
theorem d_Al_valuesAt_18 : decode b_Al_valuesAt 18 = .ok (.iaload, 1) := by decide +kernel
theorem d_Al_valuesAt_19 : decode b_Al_valuesAt 19 = .ok (.iload_n 1, 1) := by decide +kernel
theorem d_Al_valuesAt_20 : decode b_Al_valuesAt 20 = .ok (.if_icmp .ne 6, 3) := by decide +kernel
theorem d_Al_valuesAt_23 : decode b_Al_valuesAt 23 = .ok (.iinc 2 1, 3) := by decide +kernel
theorem d_Al_valuesAt_26 : decode b_Al_valuesAt 26 = .ok (.iinc 3 1, 3) := by decide +kernel
theorem d_Al_valuesAt_29 : decode b_Al_valuesAt 29 = .ok (.goto (-25), 3) := by decide +kernel
theorem d_Al_valuesAt_32 : decode b_Al_valuesAt 32 = .ok (.iload_n 2, 1) := by decide +kernel
theorem d_Al_valuesAt_33 : decode b_Al_valuesAt 33 = .ok (.ireturn, 1) := by decide +kernel
theorem d_Al_registers_0 : decode b_Al_registers 0 = .ok (.aload_n 0, 1) := by decide +kernel
theorem d_Al_registers_1 : decode b_Al_registers 1 = .ok (.getfield 21, 3) := by decide +kernel
theorem d_Al_registers_4 : decode b_Al_registers 4 = .ok (.ireturn, 1) := by decide +kernel
theorem d_Al_homeOf_0 : decode b_Al_homeOf 0 = .ok (.aload_n 0, 1) := by decide +kernel
theorem d_Al_homeOf_1 : decode b_Al_homeOf 1 = .ok (.getfield 9, 3) := by decide +kernel
theorem d_Al_homeOf_4 : decode b_Al_homeOf 4 = .ok (.iload_n 1, 1) := by decide +kernel
theorem d_Al_homeOf_5 : decode b_Al_homeOf 5 = .ok (.iaload, 1) := by decide +kernel
theorem d_Al_homeOf_6 : decode b_Al_homeOf 6 = .ok (.ireturn, 1) := by decide +kernel
theorem d_Co_endOf_0 : decode b_Co_endOf 0 = .ok (.aload_n 0, 1) := by decide +kernel
theorem d_Co_endOf_1 : decode b_Co_endOf 1 = .ok (.getfield 21, 3) := by decide +kernel
theorem d_Co_endOf_4 : decode b_Co_endOf 4 = .ok (.iload_n 1, 1) := by decide +kernel
theorem d_Co_endOf_5 : decode b_Co_endOf 5 = .ok (.iaload, 1) := by decide +kernel
theorem d_Co_endOf_6 : decode b_Co_endOf 6 = .ok (.ireturn, 1) := by decide +kernel
theorem d_Co_usesOf_0 : decode b_Co_usesOf 0 = .ok (.aload_n 0, 1) := by decide +kernel
theorem d_Co_usesOf_1 : decode b_Co_usesOf 1 = .ok (.getfield 24, 3) := by decide +kernel
theorem d_Co_usesOf_4 : decode b_Co_usesOf 4 = .ok (.iload_n 1, 1) := by decide +kernel
theorem d_Co_usesOf_5 : decode b_Co_usesOf 5 = .ok (.iaload, 1) := by decide +kernel
theorem d_Co_usesOf_6 : decode b_Co_usesOf 6 = .ok (.ireturn, 1) := by decide +kernel
theorem d_Co_othersMeeting_0 : decode b_Co_othersMeeting 0 = .ok (.iconst 0, 1) := by decide +kernel
theorem d_Co_othersMeeting_1 : decode b_Co_othersMeeting 1 = .ok (.istore_n 2, 1) := by decide +kernel
theorem d_Co_othersMeeting_2 : decode b_Co_othersMeeting 2 = .ok (.iconst 0, 1) := by decide +kernel
theorem d_Co_othersMeeting_3 : decode b_Co_othersMeeting 3 = .ok (.istore_n 3, 1) := by decide +kernel
theorem d_Co_othersMeeting_4 : decode b_Co_othersMeeting 4 = .ok (.iload_n 3, 1) := by decide +kernel
theorem d_Co_othersMeeting_5 : decode b_Co_othersMeeting 5 = .ok (.aload_n 0, 1) := by decide +kernel
theorem d_Co_othersMeeting_6 : decode b_Co_othersMeeting 6 = .ok (.getfield 43, 3) := by decide +kernel
theorem d_Co_othersMeeting_9 : decode b_Co_othersMeeting 9 = .ok (.if_icmp .ge 34, 3) := by decide +kernel
theorem d_Co_othersMeeting_12 : decode b_Co_othersMeeting 12 = .ok (.iload_n 3, 1) := by decide +kernel
theorem d_Co_othersMeeting_13 : decode b_Co_othersMeeting 13 = .ok (.iload_n 1, 1) := by decide +kernel
theorem d_Co_othersMeeting_14 : decode b_Co_othersMeeting 14 = .ok (.if_icmp .eq 23, 3) := by decide +kernel
theorem d_Co_othersMeeting_17 : decode b_Co_othersMeeting 17 = .ok (.aload_n 0, 1) := by decide +kernel
theorem d_Co_othersMeeting_18 : decode b_Co_othersMeeting 18 = .ok (.iload_n 3, 1) := by decide +kernel
theorem d_Co_othersMeeting_19 : decode b_Co_othersMeeting 19 = .ok (.invokevirtual 37, 3) := by decide +kernel
theorem d_Co_othersMeeting_22 : decode b_Co_othersMeeting 22 = .ok (.ifCond .eq 15, 3) := by decide +kernel
theorem d_Co_othersMeeting_25 : decode b_Co_othersMeeting 25 = .ok (.aload_n 0, 1) := by decide +kernel
theorem d_Co_othersMeeting_26 : decode b_Co_othersMeeting 26 = .ok (.iload_n 1, 1) := by decide +kernel
theorem d_Co_othersMeeting_27 : decode b_Co_othersMeeting 27 = .ok (.iload_n 3, 1) := by decide +kernel
theorem d_Co_othersMeeting_28 : decode b_Co_othersMeeting 28 = .ok (.invokevirtual 58, 3) := by decide +kernel
theorem d_Co_othersMeeting_31 : decode b_Co_othersMeeting 31 = .ok (.ifCond .eq 6, 3) := by decide +kernel
theorem d_Co_othersMeeting_34 : decode b_Co_othersMeeting 34 = .ok (.iinc 2 1, 3) := by decide +kernel
theorem d_Co_othersMeeting_37 : decode b_Co_othersMeeting 37 = .ok (.iinc 3 1, 3) := by decide +kernel
theorem d_Co_othersMeeting_40 : decode b_Co_othersMeeting 40 = .ok (.goto (-36), 3) := by decide +kernel
theorem d_Co_othersMeeting_43 : decode b_Co_othersMeeting 43 = .ok (.iload_n 2, 1) := by decide +kernel
theorem d_Co_othersMeeting_44 : decode b_Co_othersMeeting 44 = .ok (.ireturn, 1) := by decide +kernel
theorem d_Al_priceOfSlots_0 : decode b_Al_priceOfSlots 0 = .ok (.dconst 0, 1) := by decide +kernel
theorem d_Al_priceOfSlots_1 : decode b_Al_priceOfSlots 1 = .ok (.dstore_n 2, 1) := by decide +kernel
theorem d_Al_priceOfSlots_2 : decode b_Al_priceOfSlots 2 = .ok (.iconst 0, 1) := by decide +kernel
theorem d_Al_priceOfSlots_3 : decode b_Al_priceOfSlots 3 = .ok (.istore 4, 2) := by decide +kernel
theorem d_Al_priceOfSlots_5 : decode b_Al_priceOfSlots 5 = .ok (.iload 4, 2) := by decide +kernel
theorem d_Al_priceOfSlots_7 : decode b_Al_priceOfSlots 7 = .ok (.aload_n 1, 1) := by decide +kernel
theorem d_Al_priceOfSlots_8 : decode b_Al_priceOfSlots 8 = .ok (.invokevirtual 43, 3) := by decide +kernel
theorem d_Al_priceOfSlots_11 : decode b_Al_priceOfSlots 11 = .ok (.if_icmp .ge 31, 3) := by decide +kernel
theorem d_Al_priceOfSlots_14 : decode b_Al_priceOfSlots 14 = .ok (.aload_n 0, 1) := by decide +kernel
theorem d_Al_priceOfSlots_15 : decode b_Al_priceOfSlots 15 = .ok (.getfield 9, 3) := by decide +kernel
theorem d_Al_priceOfSlots_18 : decode b_Al_priceOfSlots 18 = .ok (.iload 4, 2) := by decide +kernel
theorem d_Al_priceOfSlots_20 : decode b_Al_priceOfSlots 20 = .ok (.iaload, 1) := by decide +kernel
theorem d_Al_priceOfSlots_21 : decode b_Al_priceOfSlots 21 = .ok (.bipush 10, 2) := by decide +kernel
theorem d_Al_priceOfSlots_23 : decode b_Al_priceOfSlots 23 = .ok (.if_icmp .lt 13, 3) := by decide +kernel
theorem d_Al_priceOfSlots_26 : decode b_Al_priceOfSlots 26 = .ok (.dload_n 2, 1) := by decide +kernel
theorem d_Al_priceOfSlots_27 : decode b_Al_priceOfSlots 27 = .ok (.aload_n 1, 1) := by decide +kernel
theorem d_Al_priceOfSlots_28 : decode b_Al_priceOfSlots 28 = .ok (.iload 4, 2) := by decide +kernel
theorem d_Al_priceOfSlots_30 : decode b_Al_priceOfSlots 30 = .ok (.invokevirtual 91, 3) := by decide +kernel
theorem d_Al_priceOfSlots_33 : decode b_Al_priceOfSlots 33 = .ok (.i2d, 1) := by decide +kernel
theorem d_Al_priceOfSlots_34 : decode b_Al_priceOfSlots 34 = .ok (.dadd, 1) := by decide +kernel
theorem d_Al_priceOfSlots_35 : decode b_Al_priceOfSlots 35 = .ok (.dstore_n 2, 1) := by decide +kernel
theorem d_Al_priceOfSlots_36 : decode b_Al_priceOfSlots 36 = .ok (.iinc 4 1, 3) := by decide +kernel
theorem d_Al_priceOfSlots_39 : decode b_Al_priceOfSlots 39 = .ok (.goto (-34), 3) := by decide +kernel
theorem d_Al_priceOfSlots_42 : decode b_Al_priceOfSlots 42 = .ok (.dload_n 2, 1) := by decide +kernel
theorem d_Al_priceOfSlots_43 : decode b_Al_priceOfSlots 43 = .ok (.dreturn, 1) := by decide +kernel
theorem d_Co_priceOf_0 : decode b_Co_priceOf 0 = .ok (.aload_n 0, 1) := by decide +kernel
theorem d_Co_priceOf_1 : decode b_Co_priceOf 1 = .ok (.getfield 27, 3) := by decide +kernel
theorem d_Co_priceOf_4 : decode b_Co_priceOf 4 = .ok (.iload_n 1, 1) := by decide +kernel
theorem d_Co_priceOf_5 : decode b_Co_priceOf 5 = .ok (.iaload, 1) := by decide +kernel
theorem d_Co_priceOf_6 : decode b_Co_priceOf 6 = .ok (.ireturn, 1) := by decide +kernel
theorem d_Ma_takeNumbers_0 : decode b_Ma_takeNumbers 0 = .ok (.aload_n 0, 1) := by decide +kernel
theorem d_Ma_takeNumbers_1 : decode b_Ma_takeNumbers 1 = .ok (.getfield 15, 3) := by decide +kernel
theorem d_Ma_takeNumbers_4 : decode b_Ma_takeNumbers 4 = .ok (.iconst 0, 1) := by decide +kernel
theorem d_Ma_takeNumbers_5 : decode b_Ma_takeNumbers 5 = .ok (.iload_n 1, 1) := by decide +kernel
theorem d_Ma_takeNumbers_6 : decode b_Ma_takeNumbers 6 = .ok (.iastore, 1) := by decide +kernel
theorem d_Ma_takeNumbers_7 : decode b_Ma_takeNumbers 7 = .ok (.aload_n 0, 1) := by decide +kernel
theorem d_Ma_takeNumbers_8 : decode b_Ma_takeNumbers 8 = .ok (.getfield 15, 3) := by decide +kernel
theorem d_Ma_takeNumbers_11 : decode b_Ma_takeNumbers 11 = .ok (.iconst 1, 1) := by decide +kernel
theorem d_Ma_takeNumbers_12 : decode b_Ma_takeNumbers 12 = .ok (.iload_n 2, 1) := by decide +kernel
theorem d_Ma_takeNumbers_13 : decode b_Ma_takeNumbers 13 = .ok (.iastore, 1) := by decide +kernel
theorem d_Ma_takeNumbers_14 : decode b_Ma_takeNumbers 14 = .ok (.aload_n 0, 1) := by decide +kernel
theorem d_Ma_takeNumbers_15 : decode b_Ma_takeNumbers 15 = .ok (.getfield 15, 3) := by decide +kernel
theorem d_Ma_takeNumbers_18 : decode b_Ma_takeNumbers 18 = .ok (.iconst 2, 1) := by decide +kernel
theorem d_Ma_takeNumbers_19 : decode b_Ma_takeNumbers 19 = .ok (.iload_n 3, 1) := by decide +kernel
theorem d_Ma_takeNumbers_20 : decode b_Ma_takeNumbers 20 = .ok (.iastore, 1) := by decide +kernel
theorem d_Ma_takeNumbers_21 : decode b_Ma_takeNumbers 21 = .ok (.aload_n 0, 1) := by decide +kernel
theorem d_Ma_takeNumbers_22 : decode b_Ma_takeNumbers 22 = .ok (.getfield 15, 3) := by decide +kernel
theorem d_Ma_takeNumbers_25 : decode b_Ma_takeNumbers 25 = .ok (.iconst 3, 1) := by decide +kernel
theorem d_Ma_takeNumbers_26 : decode b_Ma_takeNumbers 26 = .ok (.iload 4, 2) := by decide +kernel
theorem d_Ma_takeNumbers_28 : decode b_Ma_takeNumbers 28 = .ok (.iastore, 1) := by decide +kernel
theorem d_Ma_takeNumbers_29 : decode b_Ma_takeNumbers 29 = .ok (.return_, 1) := by decide +kernel
theorem d_Ma_perform_0 : decode b_Ma_perform 0 = .ok (.aload_n 0, 1) := by decide +kernel
theorem d_Ma_perform_1 : decode b_Ma_perform 1 = .ok (.getfield 9, 3) := by decide +kernel
theorem d_Ma_perform_4 : decode b_Ma_perform 4 = .ok (.iconst 0, 1) := by decide +kernel
theorem d_Ma_perform_5 : decode b_Ma_perform 5 = .ok (.invokestatic 21, 3) := by decide +kernel
theorem d_Ma_perform_8 : decode b_Ma_perform 8 = .ok (.aload_n 0, 1) := by decide +kernel
theorem d_Ma_perform_9 : decode b_Ma_perform 9 = .ok (.iconst 0, 1) := by decide +kernel
theorem d_Ma_perform_10 : decode b_Ma_perform 10 = .ok (.putfield 27, 3) := by decide +kernel
theorem d_Ma_perform_13 : decode b_Ma_perform 13 = .ok (.aload_n 0, 1) := by decide +kernel
theorem d_Ma_perform_14 : decode b_Ma_perform 14 = .ok (.iconst 0, 1) := by decide +kernel
theorem d_Ma_perform_15 : decode b_Ma_perform 15 = .ok (.putfield 31, 3) := by decide +kernel
theorem d_Ma_perform_18 : decode b_Ma_perform 18 = .ok (.aload_n 0, 1) := by decide +kernel
theorem d_Ma_perform_19 : decode b_Ma_perform 19 = .ok (.iconst 0, 1) := by decide +kernel
theorem d_Ma_perform_20 : decode b_Ma_perform 20 = .ok (.putfield 34, 3) := by decide +kernel
theorem d_Ma_perform_23 : decode b_Ma_perform 23 = .ok (.iconst 0, 1) := by decide +kernel
theorem d_Ma_perform_24 : decode b_Ma_perform 24 = .ok (.istore 4, 2) := by decide +kernel
theorem d_Ma_perform_26 : decode b_Ma_perform 26 = .ok (.iload 4, 2) := by decide +kernel
theorem d_Ma_perform_28 : decode b_Ma_perform 28 = .ok (.aload_n 1, 1) := by decide +kernel
theorem d_Ma_perform_29 : decode b_Ma_perform 29 = .ok (.invokevirtual 38, 3) := by decide +kernel
theorem d_Ma_perform_32 : decode b_Ma_perform 32 = .ok (.if_icmp .ge 25, 3) := by decide +kernel
theorem d_Ma_perform_35 : decode b_Ma_perform 35 = .ok (.aload_n 0, 1) := by decide +kernel
theorem d_Ma_perform_36 : decode b_Ma_perform 36 = .ok (.getfield 34, 3) := by decide +kernel
theorem d_Ma_perform_39 : decode b_Ma_perform 39 = .ok (.ifCond .ne 18, 3) := by decide +kernel
theorem d_Ma_perform_42 : decode b_Ma_perform 42 = .ok (.aload_n 0, 1) := by decide +kernel
theorem d_Ma_perform_43 : decode b_Ma_perform 43 = .ok (.aload_n 1, 1) := by decide +kernel
theorem d_Ma_perform_44 : decode b_Ma_perform 44 = .ok (.iload 4, 2) := by decide +kernel
theorem d_Ma_perform_46 : decode b_Ma_perform 46 = .ok (.aload_n 2, 1) := by decide +kernel
theorem d_Ma_perform_47 : decode b_Ma_perform 47 = .ok (.iload_n 3, 1) := by decide +kernel
theorem d_Ma_perform_48 : decode b_Ma_perform 48 = .ok (.invokevirtual 44, 3) := by decide +kernel
theorem d_Ma_perform_51 : decode b_Ma_perform 51 = .ok (.iinc 4 1, 3) := by decide +kernel
theorem d_Ma_perform_54 : decode b_Ma_perform 54 = .ok (.goto (-28), 3) := by decide +kernel
theorem d_Ma_perform_57 : decode b_Ma_perform 57 = .ok (.return_, 1) := by decide +kernel
theorem d_Ma_step_0 : decode b_Ma_step 0 = .ok (.aload_n 1, 1) := by decide +kernel
theorem d_Ma_step_1 : decode b_Ma_step 1 = .ok (.iload_n 2, 1) := by decide +kernel
theorem d_Ma_step_2 : decode b_Ma_step 2 = .ok (.invokevirtual 48, 3) := by decide +kernel
theorem d_Ma_step_5 : decode b_Ma_step 5 = .ok (.istore 5, 2) := by decide +kernel
theorem d_Ma_step_7 : decode b_Ma_step 7 = .ok (.iload 5, 2) := by decide +kernel
theorem d_Ma_step_9 : decode b_Ma_step 9 = .ok (.invokestatic 52, 3) := by decide +kernel
theorem d_Ma_step_12 : decode b_Ma_step 12 = .ok (.ifCond .eq 18, 3) := by decide +kernel
theorem d_Ma_step_15 : decode b_Ma_step 15 = .ok (.aload_n 0, 1) := by decide +kernel
theorem d_Ma_step_16 : decode b_Ma_step 16 = .ok (.getfield 9, 3) := by decide +kernel
theorem d_Ma_step_19 : decode b_Ma_step 19 = .ok (.aload_n 3, 1) := by decide +kernel
theorem d_Ma_step_20 : decode b_Ma_step 20 = .ok (.aload_n 1, 1) := by decide +kernel
theorem d_Ma_step_21 : decode b_Ma_step 21 = .ok (.iload_n 2, 1) := by decide +kernel
theorem d_Ma_step_22 : decode b_Ma_step 22 = .ok (.invokevirtual 56, 3) := by decide +kernel
theorem d_Ma_step_25 : decode b_Ma_step 25 = .ok (.iaload, 1) := by decide +kernel
theorem d_Ma_step_26 : decode b_Ma_step 26 = .ok (.iaload, 1) := by decide +kernel
theorem d_Ma_step_27 : decode b_Ma_step 27 = .ok (.goto 8, 3) := by decide +kernel
theorem d_Ma_step_30 : decode b_Ma_step 30 = .ok (.aload_n 1, 1) := by decide +kernel
theorem d_Ma_step_31 : decode b_Ma_step 31 = .ok (.iload_n 2, 1) := by decide +kernel
theorem d_Ma_step_32 : decode b_Ma_step 32 = .ok (.invokevirtual 56, 3) := by decide +kernel
theorem d_Ma_step_35 : decode b_Ma_step 35 = .ok (.istore 6, 2) := by decide +kernel
theorem d_Ma_step_37 : decode b_Ma_step 37 = .ok (.iload 5, 2) := by decide +kernel
theorem d_Ma_step_39 : decode b_Ma_step 39 = .ok (.invokestatic 59, 3) := by decide +kernel
theorem d_Ma_step_42 : decode b_Ma_step 42 = .ok (.ifCond .eq 18, 3) := by decide +kernel
theorem d_Ma_step_45 : decode b_Ma_step 45 = .ok (.aload_n 0, 1) := by decide +kernel
theorem d_Ma_step_46 : decode b_Ma_step 46 = .ok (.getfield 9, 3) := by decide +kernel
theorem d_Ma_step_49 : decode b_Ma_step 49 = .ok (.aload_n 3, 1) := by decide +kernel
theorem d_Ma_step_50 : decode b_Ma_step 50 = .ok (.aload_n 1, 1) := by decide +kernel
theorem d_Ma_step_51 : decode b_Ma_step 51 = .ok (.iload_n 2, 1) := by decide +kernel
theorem d_Ma_step_52 : decode b_Ma_step 52 = .ok (.invokevirtual 62, 3) := by decide +kernel
theorem d_Ma_step_55 : decode b_Ma_step 55 = .ok (.iaload, 1) := by decide +kernel
theorem d_Ma_step_56 : decode b_Ma_step 56 = .ok (.iaload, 1) := by decide +kernel
theorem d_Ma_step_57 : decode b_Ma_step 57 = .ok (.goto 4, 3) := by decide +kernel
theorem d_Ma_step_60 : decode b_Ma_step 60 = .ok (.iconst 0, 1) := by decide +kernel
theorem d_Ma_step_61 : decode b_Ma_step 61 = .ok (.istore 7, 2) := by decide +kernel
theorem d_Ma_step_63 : decode b_Ma_step 63 = .ok (.aload_n 0, 1) := by decide +kernel
theorem d_Ma_step_64 : decode b_Ma_step 64 = .ok (.aload_n 0, 1) := by decide +kernel
theorem d_Ma_step_65 : decode b_Ma_step 65 = .ok (.iload 5, 2) := by decide +kernel
theorem d_Ma_step_67 : decode b_Ma_step 67 = .ok (.iload 6, 2) := by decide +kernel
theorem d_Ma_step_69 : decode b_Ma_step 69 = .ok (.iload 7, 2) := by decide +kernel
theorem d_Ma_step_71 : decode b_Ma_step 71 = .ok (.invokevirtual 65, 3) := by decide +kernel
theorem d_Ma_step_74 : decode b_Ma_step 74 = .ok (.putfield 31, 3) := by decide +kernel
theorem d_Ma_step_77 : decode b_Ma_step 77 = .ok (.iload 5, 2) := by decide +kernel
theorem d_Ma_step_79 : decode b_Ma_step 79 = .ok (.bipush 7, 2) := by decide +kernel
theorem d_Ma_step_81 : decode b_Ma_step 81 = .ok (.if_icmp .ne 9, 3) := by decide +kernel
theorem d_Ma_step_84 : decode b_Ma_step 84 = .ok (.aload_n 0, 1) := by decide +kernel
theorem d_Ma_step_85 : decode b_Ma_step 85 = .ok (.iload 4, 2) := by decide +kernel
theorem d_Ma_step_87 : decode b_Ma_step 87 = .ok (.invokevirtual 69, 3) := by decide +kernel
theorem d_Ma_step_90 : decode b_Ma_step 90 = .ok (.iload 5, 2) := by decide +kernel
theorem d_Ma_step_92 : decode b_Ma_step 92 = .ok (.bipush 6, 2) := by decide +kernel
theorem d_Ma_step_94 : decode b_Ma_step 94 = .ok (.if_icmp .eq 22, 3) := by decide +kernel
theorem d_Ma_step_97 : decode b_Ma_step 97 = .ok (.aload_n 0, 1) := by decide +kernel
theorem d_Ma_step_98 : decode b_Ma_step 98 = .ok (.getfield 34, 3) := by decide +kernel
theorem d_Ma_step_101 : decode b_Ma_step 101 = .ok (.ifCond .ne 15, 3) := by decide +kernel
theorem d_Ma_step_104 : decode b_Ma_step 104 = .ok (.aload_n 0, 1) := by decide +kernel
theorem d_Ma_step_105 : decode b_Ma_step 105 = .ok (.getfield 9, 3) := by decide +kernel
theorem d_Ma_step_108 : decode b_Ma_step 108 = .ok (.aload_n 3, 1) := by decide +kernel
theorem d_Ma_step_109 : decode b_Ma_step 109 = .ok (.iload_n 2, 1) := by decide +kernel
theorem d_Ma_step_110 : decode b_Ma_step 110 = .ok (.iaload, 1) := by decide +kernel
theorem d_Ma_step_111 : decode b_Ma_step 111 = .ok (.aload_n 0, 1) := by decide +kernel
theorem d_Ma_step_112 : decode b_Ma_step 112 = .ok (.getfield 31, 3) := by decide +kernel
theorem d_Ma_step_115 : decode b_Ma_step 115 = .ok (.iastore, 1) := by decide +kernel
theorem d_Ma_step_116 : decode b_Ma_step 116 = .ok (.return_, 1) := by decide +kernel
theorem d_Co_opAt_0 : decode b_Co_opAt 0 = .ok (.aload_n 0, 1) := by decide +kernel
theorem d_Co_opAt_1 : decode b_Co_opAt 1 = .ok (.getfield 9, 3) := by decide +kernel
theorem d_Co_opAt_4 : decode b_Co_opAt 4 = .ok (.iload_n 1, 1) := by decide +kernel
theorem d_Co_opAt_5 : decode b_Co_opAt 5 = .ok (.iaload, 1) := by decide +kernel
theorem d_Co_opAt_6 : decode b_Co_opAt 6 = .ok (.ireturn, 1) := by decide +kernel
theorem d_Co_leftAt_0 : decode b_Co_leftAt 0 = .ok (.aload_n 0, 1) := by decide +kernel
theorem d_Co_leftAt_1 : decode b_Co_leftAt 1 = .ok (.getfield 15, 3) := by decide +kernel
theorem d_Co_leftAt_4 : decode b_Co_leftAt 4 = .ok (.iload_n 1, 1) := by decide +kernel
theorem d_Co_leftAt_5 : decode b_Co_leftAt 5 = .ok (.iaload, 1) := by decide +kernel
theorem d_Co_leftAt_6 : decode b_Co_leftAt 6 = .ok (.ireturn, 1) := by decide +kernel
theorem d_Co_rightAt_0 : decode b_Co_rightAt 0 = .ok (.aload_n 0, 1) := by decide +kernel
theorem d_Co_rightAt_1 : decode b_Co_rightAt 1 = .ok (.getfield 18, 3) := by decide +kernel
theorem d_Co_rightAt_4 : decode b_Co_rightAt 4 = .ok (.iload_n 1, 1) := by decide +kernel
theorem d_Co_rightAt_5 : decode b_Co_rightAt 5 = .ok (.iaload, 1) := by decide +kernel
theorem d_Co_rightAt_6 : decode b_Co_rightAt 6 = .ok (.ireturn, 1) := by decide +kernel
theorem d_Ma_compute_0 : decode b_Ma_compute 0 = .ok (.iload_n 1, 1) := by decide +kernel
theorem d_Ma_compute_1 : decode b_Ma_compute 1 = .ok (.tableswitch 94 1 7 #[43, 50, 54, 58, 62, 69, 88], 43) := by decide +kernel
theorem d_Ma_compute_44 : decode b_Ma_compute 44 = .ok (.aload_n 0, 1) := by decide +kernel
theorem d_Ma_compute_45 : decode b_Ma_compute 45 = .ok (.getfield 15, 3) := by decide +kernel
theorem d_Ma_compute_48 : decode b_Ma_compute 48 = .ok (.iload_n 2, 1) := by decide +kernel
theorem d_Ma_compute_49 : decode b_Ma_compute 49 = .ok (.iaload, 1) := by decide +kernel
theorem d_Ma_compute_50 : decode b_Ma_compute 50 = .ok (.ireturn, 1) := by decide +kernel
theorem d_Ma_compute_51 : decode b_Ma_compute 51 = .ok (.iload_n 2, 1) := by decide +kernel
theorem d_Ma_compute_52 : decode b_Ma_compute 52 = .ok (.iload_n 3, 1) := by decide +kernel
theorem d_Ma_compute_53 : decode b_Ma_compute 53 = .ok (.iadd, 1) := by decide +kernel
theorem d_Ma_compute_54 : decode b_Ma_compute 54 = .ok (.ireturn, 1) := by decide +kernel
theorem d_Ma_compute_55 : decode b_Ma_compute 55 = .ok (.iload_n 2, 1) := by decide +kernel
theorem d_Ma_compute_56 : decode b_Ma_compute 56 = .ok (.iload_n 3, 1) := by decide +kernel
theorem d_Ma_compute_57 : decode b_Ma_compute 57 = .ok (.isub, 1) := by decide +kernel
theorem d_Ma_compute_58 : decode b_Ma_compute 58 = .ok (.ireturn, 1) := by decide +kernel
theorem d_Ma_compute_59 : decode b_Ma_compute 59 = .ok (.iload_n 2, 1) := by decide +kernel
theorem d_Ma_compute_60 : decode b_Ma_compute 60 = .ok (.iload_n 3, 1) := by decide +kernel
theorem d_Ma_compute_61 : decode b_Ma_compute 61 = .ok (.imul, 1) := by decide +kernel
theorem d_Ma_compute_62 : decode b_Ma_compute 62 = .ok (.ireturn, 1) := by decide +kernel
theorem d_Ma_compute_63 : decode b_Ma_compute 63 = .ok (.aload_n 0, 1) := by decide +kernel
theorem d_Ma_compute_64 : decode b_Ma_compute 64 = .ok (.iload_n 2, 1) := by decide +kernel
theorem d_Ma_compute_65 : decode b_Ma_compute 65 = .ok (.iload_n 3, 1) := by decide +kernel
theorem d_Ma_compute_66 : decode b_Ma_compute 66 = .ok (.invokevirtual 73, 3) := by decide +kernel
theorem d_Ma_compute_69 : decode b_Ma_compute 69 = .ok (.ireturn, 1) := by decide +kernel
theorem d_Ma_compute_70 : decode b_Ma_compute 70 = .ok (.aload_n 0, 1) := by decide +kernel
theorem d_Ma_compute_71 : decode b_Ma_compute 71 = .ok (.getfield 18, 3) := by decide +kernel
theorem d_Ma_compute_74 : decode b_Ma_compute 74 = .ok (.aload_n 0, 1) := by decide +kernel
theorem d_Ma_compute_75 : decode b_Ma_compute 75 = .ok (.dup, 1) := by decide +kernel
theorem d_Ma_compute_76 : decode b_Ma_compute 76 = .ok (.getfield 27, 3) := by decide +kernel
theorem d_Ma_compute_79 : decode b_Ma_compute 79 = .ok (.dup_x1, 1) := by decide +kernel
theorem d_Ma_compute_80 : decode b_Ma_compute 80 = .ok (.iconst 1, 1) := by decide +kernel
theorem d_Ma_compute_81 : decode b_Ma_compute 81 = .ok (.iadd, 1) := by decide +kernel
theorem d_Ma_compute_82 : decode b_Ma_compute 82 = .ok (.putfield 27, 3) := by decide +kernel
theorem d_Ma_compute_85 : decode b_Ma_compute 85 = .ok (.iload_n 2, 1) := by decide +kernel
theorem d_Ma_compute_86 : decode b_Ma_compute 86 = .ok (.iastore, 1) := by decide +kernel
theorem d_Ma_compute_87 : decode b_Ma_compute 87 = .ok (.iconst 0, 1) := by decide +kernel
theorem d_Ma_compute_88 : decode b_Ma_compute 88 = .ok (.ireturn, 1) := by decide +kernel
theorem d_Ma_compute_89 : decode b_Ma_compute 89 = .ok (.iload_n 2, 1) := by decide +kernel
theorem d_Ma_compute_90 : decode b_Ma_compute 90 = .ok (.iconst 3, 1) := by decide +kernel
theorem d_Ma_compute_91 : decode b_Ma_compute 91 = .ok (.imul, 1) := by decide +kernel
theorem d_Ma_compute_92 : decode b_Ma_compute 92 = .ok (.iconst 1, 1) := by decide +kernel
theorem d_Ma_compute_93 : decode b_Ma_compute 93 = .ok (.iadd, 1) := by decide +kernel
theorem d_Ma_compute_94 : decode b_Ma_compute 94 = .ok (.ireturn, 1) := by decide +kernel
theorem d_Ma_compute_95 : decode b_Ma_compute 95 = .ok (.iload_n 2, 1) := by decide +kernel
theorem d_Ma_compute_96 : decode b_Ma_compute 96 = .ok (.ireturn, 1) := by decide +kernel
theorem d_Ma_divide_0 : decode b_Ma_divide 0 = .ok (.iload_n 2, 1) := by decide +kernel
theorem d_Ma_divide_1 : decode b_Ma_divide 1 = .ok (.ifCond .ne 10, 3) := by decide +kernel
theorem d_Ma_divide_4 : decode b_Ma_divide 4 = .ok (.aload_n 0, 1) := by decide +kernel
theorem d_Ma_divide_5 : decode b_Ma_divide 5 = .ok (.iconst 1, 1) := by decide +kernel
theorem d_Ma_divide_6 : decode b_Ma_divide 6 = .ok (.putfield 34, 3) := by decide +kernel
theorem d_Ma_divide_9 : decode b_Ma_divide 9 = .ok (.iconst 0, 1) := by decide +kernel
theorem d_Ma_divide_10 : decode b_Ma_divide 10 = .ok (.ireturn, 1) := by decide +kernel
theorem d_Ma_divide_11 : decode b_Ma_divide 11 = .ok (.iload_n 1, 1) := by decide +kernel
theorem d_Ma_divide_12 : decode b_Ma_divide 12 = .ok (.iload_n 2, 1) := by decide +kernel
theorem d_Ma_divide_13 : decode b_Ma_divide 13 = .ok (.idiv, 1) := by decide +kernel
theorem d_Ma_divide_14 : decode b_Ma_divide 14 = .ok (.ireturn, 1) := by decide +kernel
theorem d_Ma_spoil_0 : decode b_Ma_spoil 0 = .ok (.iconst 2, 1) := by decide +kernel
theorem d_Ma_spoil_1 : decode b_Ma_spoil 1 = .ok (.istore_n 2, 1) := by decide +kernel
theorem d_Ma_spoil_2 : decode b_Ma_spoil 2 = .ok (.iload_n 2, 1) := by decide +kernel
theorem d_Ma_spoil_3 : decode b_Ma_spoil 3 = .ok (.iload_n 1, 1) := by decide +kernel
theorem d_Ma_spoil_4 : decode b_Ma_spoil 4 = .ok (.if_icmp .ge 16, 3) := by decide +kernel
theorem d_Ma_spoil_7 : decode b_Ma_spoil 7 = .ok (.aload_n 0, 1) := by decide +kernel
theorem d_Ma_spoil_8 : decode b_Ma_spoil 8 = .ok (.getfield 9, 3) := by decide +kernel
theorem d_Ma_spoil_11 : decode b_Ma_spoil 11 = .ok (.iload_n 2, 1) := by decide +kernel
theorem d_Ma_spoil_12 : decode b_Ma_spoil 12 = .ok (.iconst (-1), 1) := by decide +kernel
theorem d_Ma_spoil_13 : decode b_Ma_spoil 13 = .ok (.iastore, 1) := by decide +kernel
theorem d_Ma_spoil_14 : decode b_Ma_spoil 14 = .ok (.iinc 2 1, 3) := by decide +kernel
theorem d_Ma_spoil_17 : decode b_Ma_spoil 17 = .ok (.goto (-15), 3) := by decide +kernel
theorem d_Ma_spoil_20 : decode b_Ma_spoil 20 = .ok (.return_, 1) := by decide +kernel
theorem d_Ma_hadFault_0 : decode b_Ma_hadFault 0 = .ok (.aload_n 0, 1) := by decide +kernel
theorem d_Ma_hadFault_1 : decode b_Ma_hadFault 1 = .ok (.getfield 34, 3) := by decide +kernel
theorem d_Ma_hadFault_4 : decode b_Ma_hadFault 4 = .ok (.ireturn, 1) := by decide +kernel
theorem d_Ma_result_0 : decode b_Ma_result 0 = .ok (.aload_n 0, 1) := by decide +kernel
theorem d_Ma_result_1 : decode b_Ma_result 1 = .ok (.getfield 31, 3) := by decide +kernel
theorem d_Ma_result_4 : decode b_Ma_result 4 = .ok (.ireturn, 1) := by decide +kernel
theorem d_Al_homes_0 : decode b_Al_homes 0 = .ok (.aload_n 0, 1) := by decide +kernel
theorem d_Al_homes_1 : decode b_Al_homes 1 = .ok (.getfield 9, 3) := by decide +kernel
theorem d_Al_homes_4 : decode b_Al_homes 4 = .ok (.areturn, 1) := by decide +kernel
theorem d_Ma_endedLike_0 : decode b_Ma_endedLike 0 = .ok (.aload_n 0, 1) := by decide +kernel
theorem d_Ma_endedLike_1 : decode b_Ma_endedLike 1 = .ok (.getfield 34, 3) := by decide +kernel
theorem d_Ma_endedLike_4 : decode b_Ma_endedLike 4 = .ok (.aload_n 1, 1) := by decide +kernel
theorem d_Ma_endedLike_5 : decode b_Ma_endedLike 5 = .ok (.getfield 34, 3) := by decide +kernel
theorem d_Ma_endedLike_8 : decode b_Ma_endedLike 8 = .ok (.if_icmp .ne 14, 3) := by decide +kernel
theorem d_Ma_endedLike_11 : decode b_Ma_endedLike 11 = .ok (.aload_n 0, 1) := by decide +kernel
theorem d_Ma_endedLike_12 : decode b_Ma_endedLike 12 = .ok (.getfield 27, 3) := by decide +kernel
theorem d_Ma_endedLike_15 : decode b_Ma_endedLike 15 = .ok (.aload_n 1, 1) := by decide +kernel
theorem d_Ma_endedLike_16 : decode b_Ma_endedLike 16 = .ok (.getfield 27, 3) := by decide +kernel
theorem d_Ma_endedLike_19 : decode b_Ma_endedLike 19 = .ok (.if_icmp .eq 5, 3) := by decide +kernel
theorem d_Ma_endedLike_22 : decode b_Ma_endedLike 22 = .ok (.iconst 0, 1) := by decide +kernel
theorem d_Ma_endedLike_23 : decode b_Ma_endedLike 23 = .ok (.ireturn, 1) := by decide +kernel
theorem d_Ma_endedLike_24 : decode b_Ma_endedLike 24 = .ok (.iconst 0, 1) := by decide +kernel
theorem d_Ma_endedLike_25 : decode b_Ma_endedLike 25 = .ok (.istore_n 2, 1) := by decide +kernel
theorem d_Ma_endedLike_26 : decode b_Ma_endedLike 26 = .ok (.iload_n 2, 1) := by decide +kernel
theorem d_Ma_endedLike_27 : decode b_Ma_endedLike 27 = .ok (.aload_n 0, 1) := by decide +kernel
theorem d_Ma_endedLike_28 : decode b_Ma_endedLike 28 = .ok (.getfield 27, 3) := by decide +kernel
theorem d_Ma_endedLike_31 : decode b_Ma_endedLike 31 = .ok (.if_icmp .ge 26, 3) := by decide +kernel
theorem d_Ma_endedLike_34 : decode b_Ma_endedLike 34 = .ok (.aload_n 0, 1) := by decide +kernel
theorem d_Ma_endedLike_35 : decode b_Ma_endedLike 35 = .ok (.getfield 18, 3) := by decide +kernel
theorem d_Ma_endedLike_38 : decode b_Ma_endedLike 38 = .ok (.iload_n 2, 1) := by decide +kernel
theorem d_Ma_endedLike_39 : decode b_Ma_endedLike 39 = .ok (.iaload, 1) := by decide +kernel
theorem d_Ma_endedLike_40 : decode b_Ma_endedLike 40 = .ok (.aload_n 1, 1) := by decide +kernel
theorem d_Ma_endedLike_41 : decode b_Ma_endedLike 41 = .ok (.getfield 18, 3) := by decide +kernel
theorem d_Ma_endedLike_44 : decode b_Ma_endedLike 44 = .ok (.iload_n 2, 1) := by decide +kernel
theorem d_Ma_endedLike_45 : decode b_Ma_endedLike 45 = .ok (.iaload, 1) := by decide +kernel
theorem d_Ma_endedLike_46 : decode b_Ma_endedLike 46 = .ok (.if_icmp .eq 5, 3) := by decide +kernel
theorem d_Ma_endedLike_49 : decode b_Ma_endedLike 49 = .ok (.iconst 0, 1) := by decide +kernel
theorem d_Ma_endedLike_50 : decode b_Ma_endedLike 50 = .ok (.ireturn, 1) := by decide +kernel
theorem d_Ma_endedLike_51 : decode b_Ma_endedLike 51 = .ok (.iinc 2 1, 3) := by decide +kernel
theorem d_Ma_endedLike_54 : decode b_Ma_endedLike 54 = .ok (.goto (-28), 3) := by decide +kernel
theorem d_Ma_endedLike_57 : decode b_Ma_endedLike 57 = .ok (.aload_n 0, 1) := by decide +kernel
theorem d_Ma_endedLike_58 : decode b_Ma_endedLike 58 = .ok (.getfield 34, 3) := by decide +kernel
theorem d_Ma_endedLike_61 : decode b_Ma_endedLike 61 = .ok (.ifCond .ne 14, 3) := by decide +kernel
theorem d_Ma_endedLike_64 : decode b_Ma_endedLike 64 = .ok (.aload_n 0, 1) := by decide +kernel
theorem d_Ma_endedLike_65 : decode b_Ma_endedLike 65 = .ok (.getfield 31, 3) := by decide +kernel
theorem d_Ma_endedLike_68 : decode b_Ma_endedLike 68 = .ok (.aload_n 1, 1) := by decide +kernel
theorem d_Ma_endedLike_69 : decode b_Ma_endedLike 69 = .ok (.getfield 31, 3) := by decide +kernel
theorem d_Ma_endedLike_72 : decode b_Ma_endedLike 72 = .ok (.if_icmp .ne 7, 3) := by decide +kernel
theorem d_Ma_endedLike_75 : decode b_Ma_endedLike 75 = .ok (.iconst 1, 1) := by decide +kernel
theorem d_Ma_endedLike_76 : decode b_Ma_endedLike 76 = .ok (.goto 4, 3) := by decide +kernel
theorem d_Ma_endedLike_79 : decode b_Ma_endedLike 79 = .ok (.iconst 0, 1) := by decide +kernel
theorem d_Ma_endedLike_80 : decode b_Ma_endedLike 80 = .ok (.ireturn, 1) := by decide +kernel
theorem d_Ma_saidCount_0 : decode b_Ma_saidCount 0 = .ok (.aload_n 0, 1) := by decide +kernel
theorem d_Ma_saidCount_1 : decode b_Ma_saidCount 1 = .ok (.getfield 27, 3) := by decide +kernel
theorem d_Ma_saidCount_4 : decode b_Ma_saidCount 4 = .ok (.ireturn, 1) := by decide +kernel
theorem d_Ma_saidAt_0 : decode b_Ma_saidAt 0 = .ok (.aload_n 0, 1) := by decide +kernel
theorem d_Ma_saidAt_1 : decode b_Ma_saidAt 1 = .ok (.getfield 18, 3) := by decide +kernel
theorem d_Ma_saidAt_4 : decode b_Ma_saidAt 4 = .ok (.iload_n 1, 1) := by decide +kernel
theorem d_Ma_saidAt_5 : decode b_Ma_saidAt 5 = .ok (.iaload, 1) := by decide +kernel
theorem d_Ma_saidAt_6 : decode b_Ma_saidAt 6 = .ok (.ireturn, 1) := by decide +kernel
theorem d_Co_values_0 : decode b_Co_values 0 = .ok (.aload_n 0, 1) := by decide +kernel
theorem d_Co_values_1 : decode b_Co_values 1 = .ok (.getfield 51, 3) := by decide +kernel
theorem d_Co_values_4 : decode b_Co_values 4 = .ok (.ireturn, 1) := by decide +kernel
theorem d_Al_evictions_0 : decode b_Al_evictions 0 = .ok (.aload_n 0, 1) := by decide +kernel
theorem d_Al_evictions_1 : decode b_Al_evictions 1 = .ok (.getfield 25, 3) := by decide +kernel
theorem d_Al_evictions_4 : decode b_Al_evictions 4 = .ok (.ireturn, 1) := by decide +kernel
theorem d_Al_valuesInSlots_0 : decode b_Al_valuesInSlots 0 = .ok (.aload_n 0, 1) := by decide +kernel
theorem d_Al_valuesInSlots_1 : decode b_Al_valuesInSlots 1 = .ok (.bipush 10, 2) := by decide +kernel
theorem d_Al_valuesInSlots_3 : decode b_Al_valuesInSlots 3 = .ok (.bipush 6, 2) := by decide +kernel
theorem d_Al_valuesInSlots_5 : decode b_Al_valuesInSlots 5 = .ok (.invokevirtual 82, 3) := by decide +kernel
theorem d_Al_valuesInSlots_8 : decode b_Al_valuesInSlots 8 = .ok (.ireturn, 1) := by decide +kernel
theorem d_Al_slotsUsed_0 : decode b_Al_slotsUsed 0 = .ok (.aload_n 0, 1) := by decide +kernel
theorem d_Al_slotsUsed_1 : decode b_Al_slotsUsed 1 = .ok (.bipush 10, 2) := by decide +kernel
theorem d_Al_slotsUsed_3 : decode b_Al_slotsUsed 3 = .ok (.bipush 6, 2) := by decide +kernel
theorem d_Al_slotsUsed_5 : decode b_Al_slotsUsed 5 = .ok (.invokevirtual 85, 3) := by decide +kernel
theorem d_Al_slotsUsed_8 : decode b_Al_slotsUsed 8 = .ok (.ireturn, 1) := by decide +kernel
theorem d_Al_homesUsed_0 : decode b_Al_homesUsed 0 = .ok (.iconst 0, 1) := by decide +kernel
theorem d_Al_homesUsed_1 : decode b_Al_homesUsed 1 = .ok (.istore_n 3, 1) := by decide +kernel
theorem d_Al_homesUsed_2 : decode b_Al_homesUsed 2 = .ok (.iload_n 1, 1) := by decide +kernel
theorem d_Al_homesUsed_3 : decode b_Al_homesUsed 3 = .ok (.istore 4, 2) := by decide +kernel
theorem d_Al_homesUsed_5 : decode b_Al_homesUsed 5 = .ok (.iload 4, 2) := by decide +kernel
theorem d_Al_homesUsed_7 : decode b_Al_homesUsed 7 = .ok (.iload_n 1, 1) := by decide +kernel
theorem d_Al_homesUsed_8 : decode b_Al_homesUsed 8 = .ok (.iload_n 2, 1) := by decide +kernel
theorem d_Al_homesUsed_9 : decode b_Al_homesUsed 9 = .ok (.iadd, 1) := by decide +kernel
theorem d_Al_homesUsed_10 : decode b_Al_homesUsed 10 = .ok (.if_icmp .ge 21, 3) := by decide +kernel
theorem d_Al_homesUsed_13 : decode b_Al_homesUsed 13 = .ok (.aload_n 0, 1) := by decide +kernel
theorem d_Al_homesUsed_14 : decode b_Al_homesUsed 14 = .ok (.iload 4, 2) := by decide +kernel
theorem d_Al_homesUsed_16 : decode b_Al_homesUsed 16 = .ok (.invokevirtual 88, 3) := by decide +kernel
theorem d_Al_homesUsed_19 : decode b_Al_homesUsed 19 = .ok (.ifCond .le 6, 3) := by decide +kernel
theorem d_Al_homesUsed_22 : decode b_Al_homesUsed 22 = .ok (.iinc 3 1, 3) := by decide +kernel
theorem d_Al_homesUsed_25 : decode b_Al_homesUsed 25 = .ok (.iinc 4 1, 3) := by decide +kernel
theorem d_Al_homesUsed_28 : decode b_Al_homesUsed 28 = .ok (.goto (-23), 3) := by decide +kernel
theorem d_Al_homesUsed_31 : decode b_Al_homesUsed 31 = .ok (.iload_n 3, 1) := by decide +kernel
theorem d_Al_homesUsed_32 : decode b_Al_homesUsed 32 = .ok (.ireturn, 1) := by decide +kernel
theorem d_Al_registersUsed_0 : decode b_Al_registersUsed 0 = .ok (.aload_n 0, 1) := by decide +kernel
theorem d_Al_registersUsed_1 : decode b_Al_registersUsed 1 = .ok (.iconst 0, 1) := by decide +kernel
theorem d_Al_registersUsed_2 : decode b_Al_registersUsed 2 = .ok (.iconst 5, 1) := by decide +kernel
theorem d_Al_registersUsed_3 : decode b_Al_registersUsed 3 = .ok (.invokevirtual 85, 3) := by decide +kernel
theorem d_Al_registersUsed_6 : decode b_Al_registersUsed 6 = .ok (.ireturn, 1) := by decide +kernel
