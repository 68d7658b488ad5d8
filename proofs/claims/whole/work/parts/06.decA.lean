theorem d_G_init_0 : decode b_G_init 0 = .ok (.aload_n 0, 1) := by decide +kernel
theorem d_G_init_1 : decode b_G_init 1 = .ok (.invokespecial 1, 3) := by decide +kernel
theorem d_G_init_4 : decode b_G_init 4 = .ok (.aload_n 0, 1) := by decide +kernel
theorem d_G_init_5 : decode b_G_init 5 = .ok (.getstatic 7, 3) := by decide +kernel
theorem d_G_init_8 : decode b_G_init 8 = .ok (.invokevirtual 13, 3) := by decide +kernel
theorem d_G_init_11 : decode b_G_init 11 = .ok (.checkcast 14, 3) := by decide +kernel
theorem d_G_init_14 : decode b_G_init 14 = .ok (.putfield 18, 3) := by decide +kernel
theorem d_G_init_17 : decode b_G_init 17 = .ok (.aload_n 0, 1) := by decide +kernel
theorem d_G_init_18 : decode b_G_init 18 = .ok (.new 21, 3) := by decide +kernel
theorem d_G_init_21 : decode b_G_init 21 = .ok (.dup, 1) := by decide +kernel
theorem d_G_init_22 : decode b_G_init 22 = .ok (.invokespecial 23, 3) := by decide +kernel
theorem d_G_init_25 : decode b_G_init 25 = .ok (.putfield 24, 3) := by decide +kernel
theorem d_G_init_28 : decode b_G_init 28 = .ok (.aload_n 0, 1) := by decide +kernel
theorem d_G_init_29 : decode b_G_init 29 = .ok (.new 28, 3) := by decide +kernel
theorem d_G_init_32 : decode b_G_init 32 = .ok (.dup, 1) := by decide +kernel
theorem d_G_init_33 : decode b_G_init 33 = .ok (.invokespecial 30, 3) := by decide +kernel
theorem d_G_init_36 : decode b_G_init 36 = .ok (.putfield 31, 3) := by decide +kernel
theorem d_G_init_39 : decode b_G_init 39 = .ok (.aload_n 0, 1) := by decide +kernel
theorem d_G_init_40 : decode b_G_init 40 = .ok (.new 35, 3) := by decide +kernel
theorem d_G_init_43 : decode b_G_init 43 = .ok (.dup, 1) := by decide +kernel
theorem d_G_init_44 : decode b_G_init 44 = .ok (.invokespecial 37, 3) := by decide +kernel
theorem d_G_init_47 : decode b_G_init 47 = .ok (.putfield 38, 3) := by decide +kernel
theorem d_G_init_50 : decode b_G_init 50 = .ok (.aload_n 0, 1) := by decide +kernel
theorem d_G_init_51 : decode b_G_init 51 = .ok (.new 42, 3) := by decide +kernel
theorem d_G_init_54 : decode b_G_init 54 = .ok (.dup, 1) := by decide +kernel
theorem d_G_init_55 : decode b_G_init 55 = .ok (.invokespecial 44, 3) := by decide +kernel
theorem d_G_init_58 : decode b_G_init 58 = .ok (.putfield 45, 3) := by decide +kernel
theorem d_G_init_61 : decode b_G_init 61 = .ok (.aload_n 0, 1) := by decide +kernel
theorem d_G_init_62 : decode b_G_init 62 = .ok (.new 49, 3) := by decide +kernel
theorem d_G_init_65 : decode b_G_init 65 = .ok (.dup, 1) := by decide +kernel
theorem d_G_init_66 : decode b_G_init 66 = .ok (.invokespecial 51, 3) := by decide +kernel
theorem d_G_init_69 : decode b_G_init 69 = .ok (.putfield 52, 3) := by decide +kernel
theorem d_G_init_72 : decode b_G_init 72 = .ok (.aload_n 0, 1) := by decide +kernel
theorem d_G_init_73 : decode b_G_init 73 = .ok (.new 56, 3) := by decide +kernel
theorem d_G_init_76 : decode b_G_init 76 = .ok (.dup, 1) := by decide +kernel
theorem d_G_init_77 : decode b_G_init 77 = .ok (.invokespecial 58, 3) := by decide +kernel
theorem d_G_init_80 : decode b_G_init 80 = .ok (.putfield 59, 3) := by decide +kernel
theorem d_G_init_83 : decode b_G_init 83 = .ok (.return_, 1) := by decide +kernel
theorem d_Lo_init_0 : decode b_Lo_init 0 = .ok (.aload_n 0, 1) := by decide +kernel
theorem d_Lo_init_1 : decode b_Lo_init 1 = .ok (.invokespecial 3, 3) := by decide +kernel
theorem d_Lo_init_4 : decode b_Lo_init 4 = .ok (.aload_n 0, 1) := by decide +kernel
theorem d_Lo_init_5 : decode b_Lo_init 5 = .ok (.bipush 16, 2) := by decide +kernel
theorem d_Lo_init_7 : decode b_Lo_init 7 = .ok (.newarray .int, 2) := by decide +kernel
theorem d_Lo_init_9 : decode b_Lo_init 9 = .ok (.putfield 11, 3) := by decide +kernel
theorem d_Lo_init_12 : decode b_Lo_init 12 = .ok (.aload_n 0, 1) := by decide +kernel
theorem d_Lo_init_13 : decode b_Lo_init 13 = .ok (.bipush 32, 2) := by decide +kernel
theorem d_Lo_init_15 : decode b_Lo_init 15 = .ok (.newarray .int, 2) := by decide +kernel
theorem d_Lo_init_17 : decode b_Lo_init 17 = .ok (.putfield 15, 3) := by decide +kernel
theorem d_Lo_init_20 : decode b_Lo_init 20 = .ok (.aload_n 0, 1) := by decide +kernel
theorem d_Lo_init_21 : decode b_Lo_init 21 = .ok (.getfield 15, 3) := by decide +kernel
theorem d_Lo_init_24 : decode b_Lo_init 24 = .ok (.ldc 18, 2) := by decide +kernel
theorem d_Lo_init_26 : decode b_Lo_init 26 = .ok (.invokestatic 19, 3) := by decide +kernel
theorem d_Lo_init_29 : decode b_Lo_init 29 = .ok (.aload_n 0, 1) := by decide +kernel
theorem d_Lo_init_30 : decode b_Lo_init 30 = .ok (.ldc2_w 25, 3) := by decide +kernel
theorem d_Lo_init_33 : decode b_Lo_init 33 = .ok (.putfield 27, 3) := by decide +kernel
theorem d_Lo_init_36 : decode b_Lo_init 36 = .ok (.aload_n 0, 1) := by decide +kernel
theorem d_Lo_init_37 : decode b_Lo_init 37 = .ok (.aload_n 0, 1) := by decide +kernel
theorem d_Lo_init_38 : decode b_Lo_init 38 = .ok (.getfield 27, 3) := by decide +kernel
theorem d_Lo_init_41 : decode b_Lo_init 41 = .ok (.invokestatic 31, 3) := by decide +kernel
theorem d_Lo_init_44 : decode b_Lo_init 44 = .ok (.putfield 35, 3) := by decide +kernel
theorem d_Lo_init_47 : decode b_Lo_init 47 = .ok (.return_, 1) := by decide +kernel
theorem d_Ar_fill_0 : decode b_Ar_fill 0 = .ok (.iconst 0, 1) := by decide +kernel
theorem d_Ar_fill_1 : decode b_Ar_fill 1 = .ok (.istore_n 2, 1) := by decide +kernel
theorem d_Ar_fill_2 : decode b_Ar_fill 2 = .ok (.aload_n 0, 1) := by decide +kernel
theorem d_Ar_fill_3 : decode b_Ar_fill 3 = .ok (.arraylength, 1) := by decide +kernel
theorem d_Ar_fill_4 : decode b_Ar_fill 4 = .ok (.istore_n 3, 1) := by decide +kernel
theorem d_Ar_fill_5 : decode b_Ar_fill 5 = .ok (.iload_n 2, 1) := by decide +kernel
theorem d_Ar_fill_6 : decode b_Ar_fill 6 = .ok (.iload_n 3, 1) := by decide +kernel
theorem d_Ar_fill_7 : decode b_Ar_fill 7 = .ok (.if_icmp .ge 13, 3) := by decide +kernel
theorem d_Ar_fill_10 : decode b_Ar_fill 10 = .ok (.aload_n 0, 1) := by decide +kernel
theorem d_Ar_fill_11 : decode b_Ar_fill 11 = .ok (.iload_n 2, 1) := by decide +kernel
theorem d_Ar_fill_12 : decode b_Ar_fill 12 = .ok (.iload_n 1, 1) := by decide +kernel
theorem d_Ar_fill_13 : decode b_Ar_fill 13 = .ok (.iastore, 1) := by decide +kernel
theorem d_Ar_fill_14 : decode b_Ar_fill 14 = .ok (.iinc 2 1, 3) := by decide +kernel
theorem d_Ar_fill_17 : decode b_Ar_fill 17 = .ok (.goto (-12), 3) := by decide +kernel
theorem d_Ar_fill_20 : decode b_Ar_fill 20 = .ok (.return_, 1) := by decide +kernel
theorem d_Lo_meanFrequency_0 : decode b_Lo_meanFrequency 0 = .ok (.lload_n 0, 1) := by decide +kernel
theorem d_Lo_meanFrequency_1 : decode b_Lo_meanFrequency 1 = .ok (.ldc2_w 94, 3) := by decide +kernel
theorem d_Lo_meanFrequency_4 : decode b_Lo_meanFrequency 4 = .ok (.lmul, 1) := by decide +kernel
theorem d_Lo_meanFrequency_5 : decode b_Lo_meanFrequency 5 = .ok (.ldc2_w 96, 3) := by decide +kernel
theorem d_Lo_meanFrequency_8 : decode b_Lo_meanFrequency 8 = .ok (.ldiv, 1) := by decide +kernel
theorem d_Lo_meanFrequency_9 : decode b_Lo_meanFrequency 9 = .ok (.l2i, 1) := by decide +kernel
theorem d_Lo_meanFrequency_10 : decode b_Lo_meanFrequency 10 = .ok (.ireturn, 1) := by decide +kernel
theorem d_Pr_init_0 : decode b_Pr_init 0 = .ok (.aload_n 0, 1) := by decide +kernel
theorem d_Pr_init_1 : decode b_Pr_init 1 = .ok (.invokespecial 3, 3) := by decide +kernel
theorem d_Pr_init_4 : decode b_Pr_init 4 = .ok (.aload_n 0, 1) := by decide +kernel
theorem d_Pr_init_5 : decode b_Pr_init 5 = .ok (.bipush 6, 2) := by decide +kernel
theorem d_Pr_init_7 : decode b_Pr_init 7 = .ok (.anewarray 9, 3) := by decide +kernel
theorem d_Pr_init_10 : decode b_Pr_init 10 = .ok (.putfield 11, 3) := by decide +kernel
theorem d_Pr_init_13 : decode b_Pr_init 13 = .ok (.aload_n 0, 1) := by decide +kernel
theorem d_Pr_init_14 : decode b_Pr_init 14 = .ok (.iconst 4, 1) := by decide +kernel
theorem d_Pr_init_15 : decode b_Pr_init 15 = .ok (.anewarray 9, 3) := by decide +kernel
theorem d_Pr_init_18 : decode b_Pr_init 18 = .ok (.putfield 17, 3) := by decide +kernel
theorem d_Pr_init_21 : decode b_Pr_init 21 = .ok (.iconst 0, 1) := by decide +kernel
theorem d_Pr_init_22 : decode b_Pr_init 22 = .ok (.istore_n 1, 1) := by decide +kernel
theorem d_Pr_init_23 : decode b_Pr_init 23 = .ok (.iload_n 1, 1) := by decide +kernel
theorem d_Pr_init_24 : decode b_Pr_init 24 = .ok (.bipush 6, 2) := by decide +kernel
theorem d_Pr_init_26 : decode b_Pr_init 26 = .ok (.if_icmp .ge 22, 3) := by decide +kernel
theorem d_Pr_init_29 : decode b_Pr_init 29 = .ok (.aload_n 0, 1) := by decide +kernel
theorem d_Pr_init_30 : decode b_Pr_init 30 = .ok (.getfield 11, 3) := by decide +kernel
theorem d_Pr_init_33 : decode b_Pr_init 33 = .ok (.iload_n 1, 1) := by decide +kernel
theorem d_Pr_init_34 : decode b_Pr_init 34 = .ok (.new 9, 3) := by decide +kernel
theorem d_Pr_init_37 : decode b_Pr_init 37 = .ok (.dup, 1) := by decide +kernel
theorem d_Pr_init_38 : decode b_Pr_init 38 = .ok (.invokespecial 20, 3) := by decide +kernel
theorem d_Pr_init_41 : decode b_Pr_init 41 = .ok (.aastore, 1) := by decide +kernel
theorem d_Pr_init_42 : decode b_Pr_init 42 = .ok (.iinc 1 1, 3) := by decide +kernel
theorem d_Pr_init_45 : decode b_Pr_init 45 = .ok (.goto (-22), 3) := by decide +kernel
theorem d_Pr_init_48 : decode b_Pr_init 48 = .ok (.iconst 0, 1) := by decide +kernel
theorem d_Pr_init_49 : decode b_Pr_init 49 = .ok (.istore_n 1, 1) := by decide +kernel
theorem d_Pr_init_50 : decode b_Pr_init 50 = .ok (.iload_n 1, 1) := by decide +kernel
theorem d_Pr_init_51 : decode b_Pr_init 51 = .ok (.iconst 4, 1) := by decide +kernel
theorem d_Pr_init_52 : decode b_Pr_init 52 = .ok (.if_icmp .ge 22, 3) := by decide +kernel
theorem d_Pr_init_55 : decode b_Pr_init 55 = .ok (.aload_n 0, 1) := by decide +kernel
theorem d_Pr_init_56 : decode b_Pr_init 56 = .ok (.getfield 17, 3) := by decide +kernel
theorem d_Pr_init_59 : decode b_Pr_init 59 = .ok (.iload_n 1, 1) := by decide +kernel
theorem d_Pr_init_60 : decode b_Pr_init 60 = .ok (.new 9, 3) := by decide +kernel
theorem d_Pr_init_63 : decode b_Pr_init 63 = .ok (.dup, 1) := by decide +kernel
theorem d_Pr_init_64 : decode b_Pr_init 64 = .ok (.invokespecial 20, 3) := by decide +kernel
theorem d_Pr_init_67 : decode b_Pr_init 67 = .ok (.aastore, 1) := by decide +kernel
theorem d_Pr_init_68 : decode b_Pr_init 68 = .ok (.iinc 1 1, 3) := by decide +kernel
theorem d_Pr_init_71 : decode b_Pr_init 71 = .ok (.goto (-21), 3) := by decide +kernel
theorem d_Pr_init_74 : decode b_Pr_init 74 = .ok (.return_, 1) := by decide +kernel
theorem d_Pt_init_0 : decode b_Pt_init 0 = .ok (.aload_n 0, 1) := by decide +kernel
theorem d_Pt_init_1 : decode b_Pt_init 1 = .ok (.invokespecial 3, 3) := by decide +kernel
theorem d_Pt_init_4 : decode b_Pt_init 4 = .ok (.aload_n 0, 1) := by decide +kernel
theorem d_Pt_init_5 : decode b_Pt_init 5 = .ok (.iconst 0, 1) := by decide +kernel
theorem d_Pt_init_6 : decode b_Pt_init 6 = .ok (.putfield 9, 3) := by decide +kernel
theorem d_Pt_init_9 : decode b_Pt_init 9 = .ok (.aload_n 0, 1) := by decide +kernel
theorem d_Pt_init_10 : decode b_Pt_init 10 = .ok (.iconst 1, 1) := by decide +kernel
theorem d_Pt_init_11 : decode b_Pt_init 11 = .ok (.putfield 15, 3) := by decide +kernel
theorem d_Pt_init_14 : decode b_Pt_init 14 = .ok (.return_, 1) := by decide +kernel
theorem d_Ko_init_0 : decode b_Ko_init 0 = .ok (.aload_n 0, 1) := by decide +kernel
theorem d_Ko_init_1 : decode b_Ko_init 1 = .ok (.invokespecial 3, 3) := by decide +kernel
theorem d_Ko_init_4 : decode b_Ko_init 4 = .ok (.return_, 1) := by decide +kernel
theorem d_Co_init_0 : decode b_Co_init 0 = .ok (.aload_n 0, 1) := by decide +kernel
theorem d_Co_init_1 : decode b_Co_init 1 = .ok (.invokespecial 3, 3) := by decide +kernel
theorem d_Co_init_4 : decode b_Co_init 4 = .ok (.return_, 1) := by decide +kernel
theorem d_Og_init_0 : decode b_Og_init 0 = .ok (.aload_n 0, 1) := by decide +kernel
theorem d_Og_init_1 : decode b_Og_init 1 = .ok (.invokespecial 3, 3) := by decide +kernel
theorem d_Og_init_4 : decode b_Og_init 4 = .ok (.return_, 1) := by decide +kernel
theorem d_Ev_init_0 : decode b_Ev_init 0 = .ok (.aload_n 0, 1) := by decide +kernel
theorem d_Ev_init_1 : decode b_Ev_init 1 = .ok (.invokespecial 1, 3) := by decide +kernel
theorem d_Ev_init_4 : decode b_Ev_init 4 = .ok (.aload_n 0, 1) := by decide +kernel
theorem d_Ev_init_5 : decode b_Ev_init 5 = .ok (.bipush 16, 2) := by decide +kernel
theorem d_Ev_init_7 : decode b_Ev_init 7 = .ok (.newarray .int, 2) := by decide +kernel
theorem d_Ev_init_9 : decode b_Ev_init 9 = .ok (.putfield 9, 3) := by decide +kernel
theorem d_Ev_init_12 : decode b_Ev_init 12 = .ok (.aload_n 0, 1) := by decide +kernel
theorem d_Ev_init_13 : decode b_Ev_init 13 = .ok (.bipush 16, 2) := by decide +kernel
theorem d_Ev_init_15 : decode b_Ev_init 15 = .ok (.newarray .int, 2) := by decide +kernel
theorem d_Ev_init_17 : decode b_Ev_init 17 = .ok (.putfield 13, 3) := by decide +kernel
theorem d_Ev_init_20 : decode b_Ev_init 20 = .ok (.return_, 1) := by decide +kernel
theorem d_G_check_0 : decode b_G_check 0 = .ok (.aload_n 0, 1) := by decide +kernel
theorem d_G_check_1 : decode b_G_check 1 = .ok (.invokevirtual 103, 3) := by decide +kernel
theorem d_G_check_4 : decode b_G_check 4 = .ok (.istore_n 1, 1) := by decide +kernel
theorem d_G_check_5 : decode b_G_check 5 = .ok (.aload_n 0, 1) := by decide +kernel
theorem d_G_check_6 : decode b_G_check 6 = .ok (.iload_n 1, 1) := by decide +kernel
theorem d_G_check_7 : decode b_G_check 7 = .ok (.iconst (-1), 1) := by decide +kernel
theorem d_G_check_8 : decode b_G_check 8 = .ok (.if_icmp .ne 7, 3) := by decide +kernel
theorem d_G_check_11 : decode b_G_check 11 = .ok (.iconst 1, 1) := by decide +kernel
theorem d_G_check_12 : decode b_G_check 12 = .ok (.goto 4, 3) := by decide +kernel
theorem d_G_check_15 : decode b_G_check 15 = .ok (.iconst 0, 1) := by decide +kernel
theorem d_G_check_16 : decode b_G_check 16 = .ok (.putfield 88, 3) := by decide +kernel
theorem d_G_check_19 : decode b_G_check 19 = .ok (.iload_n 1, 1) := by decide +kernel
theorem d_G_check_20 : decode b_G_check 20 = .ok (.ireturn, 1) := by decide +kernel
theorem d_G_firstFault_0 : decode b_G_firstFault 0 = .ok (.aload_n 0, 1) := by decide +kernel
theorem d_G_firstFault_1 : decode b_G_firstFault 1 = .ok (.getfield 18, 3) := by decide +kernel
theorem d_G_firstFault_4 : decode b_G_firstFault 4 = .ok (.iconst 3, 1) := by decide +kernel
theorem d_G_firstFault_5 : decode b_G_firstFault 5 = .ok (.iaload, 1) := by decide +kernel
theorem d_G_firstFault_6 : decode b_G_firstFault 6 = .ok (.aload_n 0, 1) := by decide +kernel
theorem d_G_firstFault_7 : decode b_G_firstFault 7 = .ok (.getfield 18, 3) := by decide +kernel
theorem d_G_firstFault_10 : decode b_G_firstFault 10 = .ok (.iconst 4, 1) := by decide +kernel
theorem d_G_firstFault_11 : decode b_G_firstFault 11 = .ok (.iaload, 1) := by decide +kernel
theorem d_G_firstFault_12 : decode b_G_firstFault 12 = .ok (.if_icmp .le 5, 3) := by decide +kernel
theorem d_G_firstFault_15 : decode b_G_firstFault 15 = .ok (.iconst 3, 1) := by decide +kernel
theorem d_G_firstFault_16 : decode b_G_firstFault 16 = .ok (.ireturn, 1) := by decide +kernel
theorem d_G_firstFault_17 : decode b_G_firstFault 17 = .ok (.aload_n 0, 1) := by decide +kernel
theorem d_G_firstFault_18 : decode b_G_firstFault 18 = .ok (.getfield 18, 3) := by decide +kernel
theorem d_G_firstFault_21 : decode b_G_firstFault 21 = .ok (.iconst 5, 1) := by decide +kernel
theorem d_G_firstFault_22 : decode b_G_firstFault 22 = .ok (.iaload, 1) := by decide +kernel
theorem d_G_firstFault_23 : decode b_G_firstFault 23 = .ok (.aload_n 0, 1) := by decide +kernel
theorem d_G_firstFault_24 : decode b_G_firstFault 24 = .ok (.getfield 18, 3) := by decide +kernel
theorem d_G_firstFault_27 : decode b_G_firstFault 27 = .ok (.bipush 6, 2) := by decide +kernel
theorem d_G_firstFault_29 : decode b_G_firstFault 29 = .ok (.iaload, 1) := by decide +kernel
theorem d_G_firstFault_30 : decode b_G_firstFault 30 = .ok (.if_icmp .le 5, 3) := by decide +kernel
theorem d_G_firstFault_33 : decode b_G_firstFault 33 = .ok (.iconst 5, 1) := by decide +kernel
theorem d_G_firstFault_34 : decode b_G_firstFault 34 = .ok (.ireturn, 1) := by decide +kernel
theorem d_G_firstFault_35 : decode b_G_firstFault 35 = .ok (.aload_n 0, 1) := by decide +kernel
theorem d_G_firstFault_36 : decode b_G_firstFault 36 = .ok (.getfield 31, 3) := by decide +kernel
theorem d_G_firstFault_39 : decode b_G_firstFault 39 = .ok (.invokevirtual 248, 3) := by decide +kernel
theorem d_G_firstFault_42 : decode b_G_firstFault 42 = .ok (.istore_n 1, 1) := by decide +kernel
theorem d_G_firstFault_43 : decode b_G_firstFault 43 = .ok (.iload_n 1, 1) := by decide +kernel
theorem d_G_firstFault_44 : decode b_G_firstFault 44 = .ok (.iconst (-1), 1) := by decide +kernel
theorem d_G_firstFault_45 : decode b_G_firstFault 45 = .ok (.if_icmp .ne 7, 3) := by decide +kernel
theorem d_G_firstFault_48 : decode b_G_firstFault 48 = .ok (.iconst (-1), 1) := by decide +kernel
theorem d_G_firstFault_49 : decode b_G_firstFault 49 = .ok (.goto 7, 3) := by decide +kernel
theorem d_G_firstFault_52 : decode b_G_firstFault 52 = .ok (.bipush 100, 2) := by decide +kernel
theorem d_G_firstFault_54 : decode b_G_firstFault 54 = .ok (.iload_n 1, 1) := by decide +kernel
theorem d_G_firstFault_55 : decode b_G_firstFault 55 = .ok (.iadd, 1) := by decide +kernel
theorem d_G_firstFault_56 : decode b_G_firstFault 56 = .ok (.ireturn, 1) := by decide +kernel
theorem d_Pr_leastCutting_0 : decode b_Pr_leastCutting 0 = .ok (.iconst 0, 1) := by decide +kernel
theorem d_Pr_leastCutting_1 : decode b_Pr_leastCutting 1 = .ok (.istore_n 1, 1) := by decide +kernel
theorem d_Pr_leastCutting_2 : decode b_Pr_leastCutting 2 = .ok (.iload_n 1, 1) := by decide +kernel
theorem d_Pr_leastCutting_3 : decode b_Pr_leastCutting 3 = .ok (.bipush 6, 2) := by decide +kernel
theorem d_Pr_leastCutting_5 : decode b_Pr_leastCutting 5 = .ok (.if_icmp .ge 24, 3) := by decide +kernel
theorem d_Pr_leastCutting_8 : decode b_Pr_leastCutting 8 = .ok (.aload_n 0, 1) := by decide +kernel
theorem d_Pr_leastCutting_9 : decode b_Pr_leastCutting 9 = .ok (.aload_n 0, 1) := by decide +kernel
theorem d_Pr_leastCutting_10 : decode b_Pr_leastCutting 10 = .ok (.getfield 11, 3) := by decide +kernel
theorem d_Pr_leastCutting_13 : decode b_Pr_leastCutting 13 = .ok (.iload_n 1, 1) := by decide +kernel
theorem d_Pr_leastCutting_14 : decode b_Pr_leastCutting 14 = .ok (.aaload, 1) := by decide +kernel
theorem d_Pr_leastCutting_15 : decode b_Pr_leastCutting 15 = .ok (.invokevirtual 29, 3) := by decide +kernel
theorem d_Pr_leastCutting_18 : decode b_Pr_leastCutting 18 = .ok (.ifCond .eq 5, 3) := by decide +kernel
theorem d_Pr_leastCutting_21 : decode b_Pr_leastCutting 21 = .ok (.iload_n 1, 1) := by decide +kernel
theorem d_Pr_leastCutting_22 : decode b_Pr_leastCutting 22 = .ok (.ireturn, 1) := by decide +kernel
theorem d_Pr_leastCutting_23 : decode b_Pr_leastCutting 23 = .ok (.iinc 1 1, 3) := by decide +kernel
theorem d_Pr_leastCutting_26 : decode b_Pr_leastCutting 26 = .ok (.goto (-24), 3) := by decide +kernel
theorem d_Pr_leastCutting_29 : decode b_Pr_leastCutting 29 = .ok (.iconst (-1), 1) := by decide +kernel
theorem d_Pr_leastCutting_30 : decode b_Pr_leastCutting 30 = .ok (.ireturn, 1) := by decide +kernel
theorem d_Pr_isCuttingAny_0 : decode b_Pr_isCuttingAny 0 = .ok (.iconst 0, 1) := by decide +kernel
theorem d_Pr_isCuttingAny_1 : decode b_Pr_isCuttingAny 1 = .ok (.istore_n 2, 1) := by decide +kernel
theorem d_Pr_isCuttingAny_2 : decode b_Pr_isCuttingAny 2 = .ok (.iload_n 2, 1) := by decide +kernel
theorem d_Pr_isCuttingAny_3 : decode b_Pr_isCuttingAny 3 = .ok (.iconst 4, 1) := by decide +kernel
theorem d_Pr_isCuttingAny_4 : decode b_Pr_isCuttingAny 4 = .ok (.if_icmp .ge 24, 3) := by decide +kernel
theorem d_Pr_isCuttingAny_7 : decode b_Pr_isCuttingAny 7 = .ok (.aload_n 1, 1) := by decide +kernel
theorem d_Pr_isCuttingAny_8 : decode b_Pr_isCuttingAny 8 = .ok (.aload_n 0, 1) := by decide +kernel
theorem d_Pr_isCuttingAny_9 : decode b_Pr_isCuttingAny 9 = .ok (.getfield 17, 3) := by decide +kernel
theorem d_Pr_isCuttingAny_12 : decode b_Pr_isCuttingAny 12 = .ok (.iload_n 2, 1) := by decide +kernel
theorem d_Pr_isCuttingAny_13 : decode b_Pr_isCuttingAny 13 = .ok (.aaload, 1) := by decide +kernel
theorem d_Pr_isCuttingAny_14 : decode b_Pr_isCuttingAny 14 = .ok (.invokevirtual 33, 3) := by decide +kernel
theorem d_Pr_isCuttingAny_17 : decode b_Pr_isCuttingAny 17 = .ok (.ifCond .eq 5, 3) := by decide +kernel
theorem d_Pr_isCuttingAny_20 : decode b_Pr_isCuttingAny 20 = .ok (.iconst 1, 1) := by decide +kernel
theorem d_Pr_isCuttingAny_21 : decode b_Pr_isCuttingAny 21 = .ok (.ireturn, 1) := by decide +kernel
theorem d_Pr_isCuttingAny_22 : decode b_Pr_isCuttingAny 22 = .ok (.iinc 2 1, 3) := by decide +kernel
theorem d_Pr_isCuttingAny_25 : decode b_Pr_isCuttingAny 25 = .ok (.goto (-23), 3) := by decide +kernel
theorem d_Pr_isCuttingAny_28 : decode b_Pr_isCuttingAny 28 = .ok (.iconst 0, 1) := by decide +kernel
theorem d_Pr_isCuttingAny_29 : decode b_Pr_isCuttingAny 29 = .ok (.ireturn, 1) := by decide +kernel
theorem d_Pt_isCutting_0 : decode b_Pt_isCutting 0 = .ok (.aload_n 0, 1) := by decide +kernel
theorem d_Pt_isCutting_1 : decode b_Pt_isCutting 1 = .ok (.getfield 9, 3) := by decide +kernel
theorem d_Pt_isCutting_4 : decode b_Pt_isCutting 4 = .ok (.ifCond .eq 25, 3) := by decide +kernel
theorem d_Pt_isCutting_7 : decode b_Pt_isCutting 7 = .ok (.aload_n 0, 1) := by decide +kernel
theorem d_Pt_isCutting_8 : decode b_Pt_isCutting 8 = .ok (.getfield 9, 3) := by decide +kernel
theorem d_Pt_isCutting_11 : decode b_Pt_isCutting 11 = .ok (.aload_n 1, 1) := by decide +kernel
theorem d_Pt_isCutting_12 : decode b_Pt_isCutting 12 = .ok (.getfield 9, 3) := by decide +kernel
theorem d_Pt_isCutting_15 : decode b_Pt_isCutting 15 = .ok (.if_icmp .ne 14, 3) := by decide +kernel
theorem d_Pt_isCutting_18 : decode b_Pt_isCutting 18 = .ok (.aload_n 0, 1) := by decide +kernel
theorem d_Pt_isCutting_19 : decode b_Pt_isCutting 19 = .ok (.getfield 15, 3) := by decide +kernel
theorem d_Pt_isCutting_22 : decode b_Pt_isCutting 22 = .ok (.aload_n 1, 1) := by decide +kernel
theorem d_Pt_isCutting_23 : decode b_Pt_isCutting 23 = .ok (.getfield 15, 3) := by decide +kernel
theorem d_Pt_isCutting_26 : decode b_Pt_isCutting 26 = .ok (.if_icmp .le 5, 3) := by decide +kernel
theorem d_Pt_isCutting_29 : decode b_Pt_isCutting 29 = .ok (.iconst 0, 1) := by decide +kernel
theorem d_Pt_isCutting_30 : decode b_Pt_isCutting 30 = .ok (.ireturn, 1) := by decide +kernel
theorem d_Pt_isCutting_31 : decode b_Pt_isCutting 31 = .ok (.aload_n 0, 1) := by decide +kernel
theorem d_Pt_isCutting_32 : decode b_Pt_isCutting 32 = .ok (.getfield 9, 3) := by decide +kernel
theorem d_Pt_isCutting_35 : decode b_Pt_isCutting 35 = .ok (.iconst 1, 1) := by decide +kernel
theorem d_Pt_isCutting_36 : decode b_Pt_isCutting 36 = .ok (.if_icmp .eq 11, 3) := by decide +kernel
theorem d_Pt_isCutting_39 : decode b_Pt_isCutting 39 = .ok (.aload_n 0, 1) := by decide +kernel
theorem d_Pt_isCutting_40 : decode b_Pt_isCutting 40 = .ok (.getfield 9, 3) := by decide +kernel
theorem d_Pt_isCutting_43 : decode b_Pt_isCutting 43 = .ok (.iconst 3, 1) := by decide +kernel
theorem d_Pt_isCutting_44 : decode b_Pt_isCutting 44 = .ok (.if_icmp .ne 7, 3) := by decide +kernel
theorem d_Pt_isCutting_47 : decode b_Pt_isCutting 47 = .ok (.iconst 1, 1) := by decide +kernel
theorem d_Pt_isCutting_48 : decode b_Pt_isCutting 48 = .ok (.goto 4, 3) := by decide +kernel
theorem d_Pt_isCutting_51 : decode b_Pt_isCutting 51 = .ok (.iconst 0, 1) := by decide +kernel
theorem d_Pt_isCutting_52 : decode b_Pt_isCutting 52 = .ok (.istore_n 2, 1) := by decide +kernel
theorem d_Pt_isCutting_53 : decode b_Pt_isCutting 53 = .ok (.iload_n 2, 1) := by decide +kernel
theorem d_Pt_isCutting_54 : decode b_Pt_isCutting 54 = .ok (.ifCond .eq 22, 3) := by decide +kernel
theorem d_Pt_isCutting_57 : decode b_Pt_isCutting 57 = .ok (.aload_n 0, 1) := by decide +kernel
theorem d_Pt_isCutting_58 : decode b_Pt_isCutting 58 = .ok (.getfield 18, 3) := by decide +kernel
theorem d_Pt_isCutting_61 : decode b_Pt_isCutting 61 = .ok (.aload_n 1, 1) := by decide +kernel
theorem d_Pt_isCutting_62 : decode b_Pt_isCutting 62 = .ok (.getfield 18, 3) := by decide +kernel
theorem d_Pt_isCutting_65 : decode b_Pt_isCutting 65 = .ok (.if_icmp .le 7, 3) := by decide +kernel
theorem d_Pt_isCutting_68 : decode b_Pt_isCutting 68 = .ok (.iconst 1, 1) := by decide +kernel
theorem d_Pt_isCutting_69 : decode b_Pt_isCutting 69 = .ok (.goto 23, 3) := by decide +kernel
theorem d_Pt_isCutting_72 : decode b_Pt_isCutting 72 = .ok (.iconst 0, 1) := by decide +kernel
theorem d_Pt_isCutting_73 : decode b_Pt_isCutting 73 = .ok (.goto 19, 3) := by decide +kernel
theorem d_Pt_isCutting_76 : decode b_Pt_isCutting 76 = .ok (.aload_n 0, 1) := by decide +kernel
theorem d_Pt_isCutting_77 : decode b_Pt_isCutting 77 = .ok (.getfield 18, 3) := by decide +kernel
theorem d_Pt_isCutting_80 : decode b_Pt_isCutting 80 = .ok (.aload_n 1, 1) := by decide +kernel
theorem d_Pt_isCutting_81 : decode b_Pt_isCutting 81 = .ok (.getfield 18, 3) := by decide +kernel
theorem d_Pt_isCutting_84 : decode b_Pt_isCutting 84 = .ok (.if_icmp .ge 7, 3) := by decide +kernel
theorem d_Pt_isCutting_87 : decode b_Pt_isCutting 87 = .ok (.iconst 1, 1) := by decide +kernel
theorem d_Pt_isCutting_88 : decode b_Pt_isCutting 88 = .ok (.goto 4, 3) := by decide +kernel
theorem d_Pt_isCutting_91 : decode b_Pt_isCutting 91 = .ok (.iconst 0, 1) := by decide +kernel
theorem d_Pt_isCutting_92 : decode b_Pt_isCutting 92 = .ok (.ireturn, 1) := by decide +kernel
theorem d_G_off_0 : decode b_G_off 0 = .ok (.aload_n 0, 1) := by decide +kernel
theorem d_G_off_1 : decode b_G_off 1 = .ok (.getfield 38, 3) := by decide +kernel
theorem d_G_off_4 : decode b_G_off 4 = .ok (.getfield 115, 3) := by decide +kernel
theorem d_G_off_7 : decode b_G_off 7 = .ok (.istore_n 1, 1) := by decide +kernel
theorem d_G_off_8 : decode b_G_off 8 = .ok (.aload_n 0, 1) := by decide +kernel
theorem d_G_off_9 : decode b_G_off 9 = .ok (.getfield 38, 3) := by decide +kernel
theorem d_G_off_12 : decode b_G_off 12 = .ok (.iconst 0, 1) := by decide +kernel
theorem d_G_off_13 : decode b_G_off 13 = .ok (.putfield 115, 3) := by decide +kernel
theorem d_G_off_16 : decode b_G_off 16 = .ok (.aload_n 0, 1) := by decide +kernel
theorem d_G_off_17 : decode b_G_off 17 = .ok (.getfield 38, 3) := by decide +kernel
theorem d_G_off_20 : decode b_G_off 20 = .ok (.getfield 118, 3) := by decide +kernel
theorem d_G_off_23 : decode b_G_off 23 = .ok (.ifCond .eq 23, 3) := by decide +kernel
theorem d_G_off_26 : decode b_G_off 26 = .ok (.aload_n 0, 1) := by decide +kernel
theorem d_G_off_27 : decode b_G_off 27 = .ok (.getfield 38, 3) := by decide +kernel
theorem d_G_off_30 : decode b_G_off 30 = .ok (.iconst 0, 1) := by decide +kernel
theorem d_G_off_31 : decode b_G_off 31 = .ok (.putfield 118, 3) := by decide +kernel
theorem d_G_off_34 : decode b_G_off 34 = .ok (.aload_n 0, 1) := by decide +kernel
theorem d_G_off_35 : decode b_G_off 35 = .ok (.getfield 59, 3) := by decide +kernel
theorem d_G_off_38 : decode b_G_off 38 = .ok (.iconst 2, 1) := by decide +kernel
theorem d_G_off_39 : decode b_G_off 39 = .ok (.aload_n 0, 1) := by decide +kernel
theorem d_G_off_40 : decode b_G_off 40 = .ok (.getfield 121, 3) := by decide +kernel
theorem d_G_off_43 : decode b_G_off 43 = .ok (.invokevirtual 125, 3) := by decide +kernel
theorem d_G_off_46 : decode b_G_off 46 = .ok (.iload_n 1, 1) := by decide +kernel
theorem d_G_off_47 : decode b_G_off 47 = .ok (.ireturn, 1) := by decide +kernel
theorem d_Ev_note_0 : decode b_Ev_note 0 = .ok (.aload_n 0, 1) := by decide +kernel
theorem d_Ev_note_1 : decode b_Ev_note 1 = .ok (.getfield 9, 3) := by decide +kernel
theorem d_Ev_note_4 : decode b_Ev_note 4 = .ok (.aload_n 0, 1) := by decide +kernel
theorem d_Ev_note_5 : decode b_Ev_note 5 = .ok (.getfield 16, 3) := by decide +kernel
theorem d_Ev_note_8 : decode b_Ev_note 8 = .ok (.invokestatic 20, 3) := by decide +kernel
theorem d_Ev_note_11 : decode b_Ev_note 11 = .ok (.iload_n 1, 1) := by decide +kernel
theorem d_Ev_note_12 : decode b_Ev_note 12 = .ok (.iastore, 1) := by decide +kernel
theorem d_Ev_note_13 : decode b_Ev_note 13 = .ok (.aload_n 0, 1) := by decide +kernel
theorem d_Ev_note_14 : decode b_Ev_note 14 = .ok (.getfield 13, 3) := by decide +kernel
theorem d_Ev_note_17 : decode b_Ev_note 17 = .ok (.aload_n 0, 1) := by decide +kernel
theorem d_Ev_note_18 : decode b_Ev_note 18 = .ok (.getfield 16, 3) := by decide +kernel
theorem d_Ev_note_21 : decode b_Ev_note 21 = .ok (.invokestatic 20, 3) := by decide +kernel
theorem d_Ev_note_24 : decode b_Ev_note 24 = .ok (.iload_n 2, 1) := by decide +kernel
theorem d_Ev_note_25 : decode b_Ev_note 25 = .ok (.iastore, 1) := by decide +kernel
theorem d_Ev_note_26 : decode b_Ev_note 26 = .ok (.aload_n 0, 1) := by decide +kernel
theorem d_Ev_note_27 : decode b_Ev_note 27 = .ok (.dup, 1) := by decide +kernel
theorem d_Ev_note_28 : decode b_Ev_note 28 = .ok (.getfield 16, 3) := by decide +kernel
theorem d_Ev_note_31 : decode b_Ev_note 31 = .ok (.iconst 1, 1) := by decide +kernel
theorem d_Ev_note_32 : decode b_Ev_note 32 = .ok (.iadd, 1) := by decide +kernel
theorem d_Ev_note_33 : decode b_Ev_note 33 = .ok (.putfield 16, 3) := by decide +kernel
theorem d_Ev_note_36 : decode b_Ev_note 36 = .ok (.return_, 1) := by decide +kernel
theorem d_Ev_placeOf_0 : decode b_Ev_placeOf 0 = .ok (.iload_n 0, 1) := by decide +kernel
theorem d_Ev_placeOf_1 : decode b_Ev_placeOf 1 = .ok (.bipush 16, 2) := by decide +kernel
theorem d_Ev_placeOf_3 : decode b_Ev_placeOf 3 = .ok (.invokestatic 36, 3) := by decide +kernel
theorem d_Ev_placeOf_6 : decode b_Ev_placeOf 6 = .ok (.ireturn, 1) := by decide +kernel
theorem d_Ma_floorMod_0 : decode b_Ma_floorMod 0 = .ok (.iload_n 0, 1) := by decide +kernel
theorem d_Ma_floorMod_1 : decode b_Ma_floorMod 1 = .ok (.iload_n 1, 1) := by decide +kernel
theorem d_Ma_floorMod_2 : decode b_Ma_floorMod 2 = .ok (.irem, 1) := by decide +kernel
theorem d_Ma_floorMod_3 : decode b_Ma_floorMod 3 = .ok (.istore_n 2, 1) := by decide +kernel
theorem d_Ma_floorMod_4 : decode b_Ma_floorMod 4 = .ok (.iload_n 0, 1) := by decide +kernel
theorem d_Ma_floorMod_5 : decode b_Ma_floorMod 5 = .ok (.iload_n 1, 1) := by decide +kernel
theorem d_Ma_floorMod_6 : decode b_Ma_floorMod 6 = .ok (.ixor, 1) := by decide +kernel
theorem d_Ma_floorMod_7 : decode b_Ma_floorMod 7 = .ok (.ifCond .ge 11, 3) := by decide +kernel
theorem d_Ma_floorMod_10 : decode b_Ma_floorMod 10 = .ok (.iload_n 2, 1) := by decide +kernel
theorem d_Ma_floorMod_11 : decode b_Ma_floorMod 11 = .ok (.ifCond .eq 7, 3) := by decide +kernel
theorem d_Ma_floorMod_14 : decode b_Ma_floorMod 14 = .ok (.iload_n 2, 1) := by decide +kernel
theorem d_Ma_floorMod_15 : decode b_Ma_floorMod 15 = .ok (.iload_n 1, 1) := by decide +kernel
theorem d_Ma_floorMod_16 : decode b_Ma_floorMod 16 = .ok (.iadd, 1) := by decide +kernel
theorem d_Ma_floorMod_17 : decode b_Ma_floorMod 17 = .ok (.ireturn, 1) := by decide +kernel
theorem d_Ma_floorMod_18 : decode b_Ma_floorMod 18 = .ok (.iload_n 2, 1) := by decide +kernel
theorem d_Ma_floorMod_19 : decode b_Ma_floorMod 19 = .ok (.ireturn, 1) := by decide +kernel
theorem d_G_seen_0 : decode b_G_seen 0 = .ok (.aload_n 0, 1) := by decide +kernel
theorem d_G_seen_1 : decode b_G_seen 1 = .ok (.getfield 38, 3) := by decide +kernel
theorem d_G_seen_4 : decode b_G_seen 4 = .ok (.iload_n 1, 1) := by decide +kernel
theorem d_G_seen_5 : decode b_G_seen 5 = .ok (.putfield 129, 3) := by decide +kernel
theorem d_G_seen_8 : decode b_G_seen 8 = .ok (.return_, 1) := by decide +kernel
theorem d_G_reset_0 : decode b_G_reset 0 = .ok (.aload_n 0, 1) := by decide +kernel
theorem d_G_reset_1 : decode b_G_reset 1 = .ok (.getfield 38, 3) := by decide +kernel
theorem d_G_reset_4 : decode b_G_reset 4 = .ok (.getfield 107, 3) := by decide +kernel
theorem d_G_reset_7 : decode b_G_reset 7 = .ok (.ifCond .eq 13, 3) := by decide +kernel
theorem d_G_reset_10 : decode b_G_reset 10 = .ok (.aload_n 0, 1) := by decide +kernel
theorem d_G_reset_11 : decode b_G_reset 11 = .ok (.getfield 38, 3) := by decide +kernel
theorem d_G_reset_14 : decode b_G_reset 14 = .ok (.getfield 129, 3) := by decide +kernel
theorem d_G_reset_17 : decode b_G_reset 17 = .ok (.ifCond .eq 5, 3) := by decide +kernel
theorem d_G_reset_20 : decode b_G_reset 20 = .ok (.iconst 0, 1) := by decide +kernel
theorem d_G_reset_21 : decode b_G_reset 21 = .ok (.ireturn, 1) := by decide +kernel
theorem d_G_reset_22 : decode b_G_reset 22 = .ok (.aload_n 0, 1) := by decide +kernel
theorem d_G_reset_23 : decode b_G_reset 23 = .ok (.getfield 38, 3) := by decide +kernel
theorem d_G_reset_26 : decode b_G_reset 26 = .ok (.iconst 0, 1) := by decide +kernel
theorem d_G_reset_27 : decode b_G_reset 27 = .ok (.putfield 107, 3) := by decide +kernel
theorem d_G_reset_30 : decode b_G_reset 30 = .ok (.aload_n 0, 1) := by decide +kernel
theorem d_G_reset_31 : decode b_G_reset 31 = .ok (.getfield 59, 3) := by decide +kernel
theorem d_G_reset_34 : decode b_G_reset 34 = .ok (.iconst 4, 1) := by decide +kernel
theorem d_G_reset_35 : decode b_G_reset 35 = .ok (.aload_n 0, 1) := by decide +kernel
theorem d_G_reset_36 : decode b_G_reset 36 = .ok (.getfield 121, 3) := by decide +kernel
theorem d_G_reset_39 : decode b_G_reset 39 = .ok (.invokevirtual 125, 3) := by decide +kernel
theorem d_G_reset_42 : decode b_G_reset 42 = .ok (.iconst 1, 1) := by decide +kernel
theorem d_G_reset_43 : decode b_G_reset 43 = .ok (.ireturn, 1) := by decide +kernel
theorem d_G_energy_0 : decode b_G_energy 0 = .ok (.aload_n 0, 1) := by decide +kernel
theorem d_G_energy_1 : decode b_G_energy 1 = .ok (.getfield 225, 3) := by decide +kernel
theorem d_G_energy_4 : decode b_G_energy 4 = .ok (.lreturn, 1) := by decide +kernel
theorem d_G_set_0 : decode b_G_set 0 = .ok (.iload_n 1, 1) := by decide +kernel
theorem d_G_set_1 : decode b_G_set 1 = .ok (.iconst 0, 1) := by decide +kernel
theorem d_G_set_2 : decode b_G_set 2 = .ok (.aload_n 0, 1) := by decide +kernel
theorem d_G_set_3 : decode b_G_set 3 = .ok (.getfield 18, 3) := by decide +kernel
theorem d_G_set_6 : decode b_G_set 6 = .ok (.arraylength, 1) := by decide +kernel
theorem d_G_set_7 : decode b_G_set 7 = .ok (.iconst 1, 1) := by decide +kernel
theorem d_G_set_8 : decode b_G_set 8 = .ok (.isub, 1) := by decide +kernel
theorem d_G_set_9 : decode b_G_set 9 = .ok (.invokestatic 63, 3) := by decide +kernel
theorem d_G_set_12 : decode b_G_set 12 = .ok (.ifCond .ne 13, 3) := by decide +kernel
theorem d_G_set_15 : decode b_G_set 15 = .ok (.new 67, 3) := by decide +kernel
theorem d_G_set_18 : decode b_G_set 18 = .ok (.dup, 1) := by decide +kernel
theorem d_G_set_19 : decode b_G_set 19 = .ok (.ldc 69, 2) := by decide +kernel
theorem d_G_set_21 : decode b_G_set 21 = .ok (.invokespecial 71, 3) := by decide +kernel
theorem d_G_set_24 : decode b_G_set 24 = .ok (.athrow, 1) := by decide +kernel
theorem d_G_set_25 : decode b_G_set 25 = .ok (.iload_n 2, 1) := by decide +kernel
theorem d_G_set_26 : decode b_G_set 26 = .ok (.getstatic 74, 3) := by decide +kernel
theorem d_G_set_29 : decode b_G_set 29 = .ok (.iload_n 1, 1) := by decide +kernel
theorem d_G_set_30 : decode b_G_set 30 = .ok (.iaload, 1) := by decide +kernel
theorem d_G_set_31 : decode b_G_set 31 = .ok (.getstatic 77, 3) := by decide +kernel
theorem d_G_set_34 : decode b_G_set 34 = .ok (.iload_n 1, 1) := by decide +kernel
theorem d_G_set_35 : decode b_G_set 35 = .ok (.iaload, 1) := by decide +kernel
theorem d_G_set_36 : decode b_G_set 36 = .ok (.invokestatic 63, 3) := by decide +kernel
theorem d_G_set_39 : decode b_G_set 39 = .ok (.ifCond .ne 13, 3) := by decide +kernel
theorem d_G_set_42 : decode b_G_set 42 = .ok (.new 80, 3) := by decide +kernel
theorem d_G_set_45 : decode b_G_set 45 = .ok (.dup, 1) := by decide +kernel
theorem d_G_set_46 : decode b_G_set 46 = .ok (.ldc 82, 2) := by decide +kernel
theorem d_G_set_48 : decode b_G_set 48 = .ok (.invokespecial 84, 3) := by decide +kernel
theorem d_G_set_51 : decode b_G_set 51 = .ok (.athrow, 1) := by decide +kernel
theorem d_G_set_52 : decode b_G_set 52 = .ok (.aload_n 0, 1) := by decide +kernel
theorem d_G_set_53 : decode b_G_set 53 = .ok (.invokevirtual 85, 3) := by decide +kernel
theorem d_G_set_56 : decode b_G_set 56 = .ok (.aload_n 0, 1) := by decide +kernel
theorem d_G_set_57 : decode b_G_set 57 = .ok (.getfield 18, 3) := by decide +kernel
theorem d_G_set_60 : decode b_G_set 60 = .ok (.iload_n 1, 1) := by decide +kernel
theorem d_G_set_61 : decode b_G_set 61 = .ok (.iaload, 1) := by decide +kernel
theorem d_G_set_62 : decode b_G_set 62 = .ok (.istore_n 3, 1) := by decide +kernel
theorem d_G_set_63 : decode b_G_set 63 = .ok (.aload_n 0, 1) := by decide +kernel
theorem d_G_set_64 : decode b_G_set 64 = .ok (.getfield 18, 3) := by decide +kernel
theorem d_G_set_67 : decode b_G_set 67 = .ok (.iload_n 1, 1) := by decide +kernel
theorem d_G_set_68 : decode b_G_set 68 = .ok (.iload_n 2, 1) := by decide +kernel
theorem d_G_set_69 : decode b_G_set 69 = .ok (.iastore, 1) := by decide +kernel
theorem d_G_set_70 : decode b_G_set 70 = .ok (.aload_n 0, 1) := by decide +kernel
theorem d_G_set_71 : decode b_G_set 71 = .ok (.iconst 0, 1) := by decide +kernel
theorem d_G_set_72 : decode b_G_set 72 = .ok (.putfield 88, 3) := by decide +kernel
theorem d_G_set_75 : decode b_G_set 75 = .ok (.iload_n 3, 1) := by decide +kernel
theorem d_G_set_76 : decode b_G_set 76 = .ok (.ireturn, 1) := by decide +kernel
theorem d_G_isWithin_0 : decode b_G_isWithin 0 = .ok (.iload_n 0, 1) := by decide +kernel
theorem d_G_isWithin_1 : decode b_G_isWithin 1 = .ok (.iload_n 1, 1) := by decide +kernel
theorem d_G_isWithin_2 : decode b_G_isWithin 2 = .ok (.if_icmp .lt 12, 3) := by decide +kernel
theorem d_G_isWithin_5 : decode b_G_isWithin 5 = .ok (.iload_n 0, 1) := by decide +kernel
theorem d_G_isWithin_6 : decode b_G_isWithin 6 = .ok (.iload_n 2, 1) := by decide +kernel
theorem d_G_isWithin_7 : decode b_G_isWithin 7 = .ok (.if_icmp .gt 7, 3) := by decide +kernel
theorem d_G_isWithin_10 : decode b_G_isWithin 10 = .ok (.iconst 1, 1) := by decide +kernel
theorem d_G_isWithin_11 : decode b_G_isWithin 11 = .ok (.goto 4, 3) := by decide +kernel
theorem d_G_isWithin_14 : decode b_G_isWithin 14 = .ok (.iconst 0, 1) := by decide +kernel
theorem d_G_isWithin_15 : decode b_G_isWithin 15 = .ok (.ireturn, 1) := by decide +kernel
theorem d_G_refuseWhenOnIsWished_0 : decode b_G_refuseWhenOnIsWished 0 = .ok (.aload_n 0, 1) := by decide +kernel
theorem d_G_refuseWhenOnIsWished_1 : decode b_G_refuseWhenOnIsWished 1 = .ok (.getfield 38, 3) := by decide +kernel
theorem d_G_refuseWhenOnIsWished_4 : decode b_G_refuseWhenOnIsWished 4 = .ok (.getfield 115, 3) := by decide +kernel
theorem d_G_refuseWhenOnIsWished_7 : decode b_G_refuseWhenOnIsWished 7 = .ok (.ifCond .eq 13, 3) := by decide +kernel
theorem d_G_refuseWhenOnIsWished_10 : decode b_G_refuseWhenOnIsWished 10 = .ok (.new 110, 3) := by decide +kernel
theorem d_G_refuseWhenOnIsWished_13 : decode b_G_refuseWhenOnIsWished 13 = .ok (.dup, 1) := by decide +kernel
theorem d_G_refuseWhenOnIsWished_14 : decode b_G_refuseWhenOnIsWished 14 = .ok (.ldc 240, 2) := by decide +kernel
theorem d_G_refuseWhenOnIsWished_16 : decode b_G_refuseWhenOnIsWished 16 = .ok (.invokespecial 114, 3) := by decide +kernel
theorem d_G_refuseWhenOnIsWished_19 : decode b_G_refuseWhenOnIsWished 19 = .ok (.athrow, 1) := by decide +kernel
theorem d_G_refuseWhenOnIsWished_20 : decode b_G_refuseWhenOnIsWished 20 = .ok (.return_, 1) := by decide +kernel
theorem d_G_curve_0 : decode b_G_curve 0 = .ok (.aload_n 0, 1) := by decide +kernel
theorem d_G_curve_1 : decode b_G_curve 1 = .ok (.aload_n 0, 1) := by decide +kernel
theorem d_G_curve_2 : decode b_G_curve 2 = .ok (.getfield 31, 3) := by decide +kernel
theorem d_G_curve_5 : decode b_G_curve 5 = .ok (.getfield 92, 3) := by decide +kernel
theorem d_G_curve_8 : decode b_G_curve 8 = .ok (.iload_n 1, 1) := by decide +kernel
theorem d_G_curve_9 : decode b_G_curve 9 = .ok (.iload_n 2, 1) := by decide +kernel
theorem d_G_curve_10 : decode b_G_curve 10 = .ok (.iload_n 3, 1) := by decide +kernel
theorem d_G_curve_11 : decode b_G_curve 11 = .ok (.iload 4, 2) := by decide +kernel
theorem d_G_curve_13 : decode b_G_curve 13 = .ok (.invokevirtual 96, 3) := by decide +kernel
theorem d_G_curve_16 : decode b_G_curve 16 = .ok (.return_, 1) := by decide +kernel
theorem d_G_place_0 : decode b_G_place 0 = .ok (.iload_n 2, 1) := by decide +kernel
theorem d_G_place_1 : decode b_G_place 1 = .ok (.iconst 0, 1) := by decide +kernel
theorem d_G_place_2 : decode b_G_place 2 = .ok (.aload_n 1, 1) := by decide +kernel
theorem d_G_place_3 : decode b_G_place 3 = .ok (.arraylength, 1) := by decide +kernel
theorem d_G_place_4 : decode b_G_place 4 = .ok (.iconst 1, 1) := by decide +kernel
theorem d_G_place_5 : decode b_G_place 5 = .ok (.isub, 1) := by decide +kernel
theorem d_G_place_6 : decode b_G_place 6 = .ok (.invokestatic 63, 3) := by decide +kernel
theorem d_G_place_9 : decode b_G_place 9 = .ok (.ifCond .ne 13, 3) := by decide +kernel
theorem d_G_place_12 : decode b_G_place 12 = .ok (.new 67, 3) := by decide +kernel
theorem d_G_place_15 : decode b_G_place 15 = .ok (.dup, 1) := by decide +kernel
theorem d_G_place_16 : decode b_G_place 16 = .ok (.ldc 242, 2) := by decide +kernel
theorem d_G_place_18 : decode b_G_place 18 = .ok (.invokespecial 71, 3) := by decide +kernel
theorem d_G_place_21 : decode b_G_place 21 = .ok (.athrow, 1) := by decide +kernel
theorem d_G_place_22 : decode b_G_place 22 = .ok (.iload_n 3, 1) := by decide +kernel
theorem d_G_place_23 : decode b_G_place 23 = .ok (.iconst 0, 1) := by decide +kernel
theorem d_G_place_24 : decode b_G_place 24 = .ok (.iconst 4, 1) := by decide +kernel
theorem d_G_place_25 : decode b_G_place 25 = .ok (.invokestatic 63, 3) := by decide +kernel
theorem d_G_place_28 : decode b_G_place 28 = .ok (.ifCond .eq 26, 3) := by decide +kernel
theorem d_G_place_31 : decode b_G_place 31 = .ok (.iload 4, 2) := by decide +kernel
theorem d_G_place_33 : decode b_G_place 33 = .ok (.iconst 0, 1) := by decide +kernel
theorem d_G_place_34 : decode b_G_place 34 = .ok (.ldc 244, 2) := by decide +kernel
theorem d_G_place_36 : decode b_G_place 36 = .ok (.invokestatic 63, 3) := by decide +kernel
theorem d_G_place_39 : decode b_G_place 39 = .ok (.ifCond .eq 15, 3) := by decide +kernel
theorem d_G_place_42 : decode b_G_place 42 = .ok (.iload 5, 2) := by decide +kernel
theorem d_G_place_44 : decode b_G_place 44 = .ok (.iconst 1, 1) := by decide +kernel
theorem d_G_place_45 : decode b_G_place 45 = .ok (.sipush 1000, 3) := by decide +kernel
theorem d_G_place_48 : decode b_G_place 48 = .ok (.invokestatic 63, 3) := by decide +kernel
theorem d_G_place_51 : decode b_G_place 51 = .ok (.ifCond .ne 13, 3) := by decide +kernel
theorem d_G_place_54 : decode b_G_place 54 = .ok (.new 80, 3) := by decide +kernel
theorem d_G_place_57 : decode b_G_place 57 = .ok (.dup, 1) := by decide +kernel
theorem d_G_place_58 : decode b_G_place 58 = .ok (.ldc 245, 2) := by decide +kernel
theorem d_G_place_60 : decode b_G_place 60 = .ok (.invokespecial 84, 3) := by decide +kernel
theorem d_G_place_63 : decode b_G_place 63 = .ok (.athrow, 1) := by decide +kernel
theorem d_G_place_64 : decode b_G_place 64 = .ok (.aload_n 0, 1) := by decide +kernel
theorem d_G_place_65 : decode b_G_place 65 = .ok (.invokevirtual 85, 3) := by decide +kernel
theorem d_G_place_68 : decode b_G_place 68 = .ok (.aload_n 1, 1) := by decide +kernel
theorem d_G_place_69 : decode b_G_place 69 = .ok (.iload_n 2, 1) := by decide +kernel
theorem d_G_place_70 : decode b_G_place 70 = .ok (.aaload, 1) := by decide +kernel
theorem d_G_place_71 : decode b_G_place 71 = .ok (.iload_n 3, 1) := by decide +kernel
theorem d_G_place_72 : decode b_G_place 72 = .ok (.iload 4, 2) := by decide +kernel
theorem d_G_place_74 : decode b_G_place 74 = .ok (.iload 5, 2) := by decide +kernel
theorem d_G_place_76 : decode b_G_place 76 = .ok (.invokevirtual 247, 3) := by decide +kernel
theorem d_G_place_79 : decode b_G_place 79 = .ok (.aload_n 0, 1) := by decide +kernel
theorem d_G_place_80 : decode b_G_place 80 = .ok (.iconst 0, 1) := by decide +kernel
theorem d_G_place_81 : decode b_G_place 81 = .ok (.putfield 88, 3) := by decide +kernel
theorem d_G_place_84 : decode b_G_place 84 = .ok (.return_, 1) := by decide +kernel
theorem d_Pt_become_0 : decode b_Pt_become 0 = .ok (.aload_n 0, 1) := by decide +kernel
theorem d_Pt_become_1 : decode b_Pt_become 1 = .ok (.iload_n 1, 1) := by decide +kernel
theorem d_Pt_become_2 : decode b_Pt_become 2 = .ok (.putfield 9, 3) := by decide +kernel
theorem d_Pt_become_5 : decode b_Pt_become 5 = .ok (.aload_n 0, 1) := by decide +kernel
theorem d_Pt_become_6 : decode b_Pt_become 6 = .ok (.iload_n 2, 1) := by decide +kernel
theorem d_Pt_become_7 : decode b_Pt_become 7 = .ok (.putfield 18, 3) := by decide +kernel
theorem d_Pt_become_10 : decode b_Pt_become 10 = .ok (.aload_n 0, 1) := by decide +kernel
theorem d_Pt_become_11 : decode b_Pt_become 11 = .ok (.iload_n 3, 1) := by decide +kernel
theorem d_Pt_become_12 : decode b_Pt_become 12 = .ok (.putfield 15, 3) := by decide +kernel
theorem d_Pt_become_15 : decode b_Pt_become 15 = .ok (.aload_n 0, 1) := by decide +kernel
theorem d_Pt_become_16 : decode b_Pt_become 16 = .ok (.iconst 0, 1) := by decide +kernel
theorem d_Pt_become_17 : decode b_Pt_become 17 = .ok (.putfield 21, 3) := by decide +kernel
theorem d_Pt_become_20 : decode b_Pt_become 20 = .ok (.return_, 1) := by decide +kernel
theorem d_G_stay_0 : decode b_G_stay 0 = .ok (.aload_n 0, 1) := by decide +kernel
theorem d_G_stay_1 : decode b_G_stay 1 = .ok (.aload_n 0, 1) := by decide +kernel
theorem d_G_stay_2 : decode b_G_stay 2 = .ok (.getfield 31, 3) := by decide +kernel
theorem d_G_stay_5 : decode b_G_stay 5 = .ok (.getfield 100, 3) := by decide +kernel
theorem d_G_stay_8 : decode b_G_stay 8 = .ok (.iload_n 1, 1) := by decide +kernel
theorem d_G_stay_9 : decode b_G_stay 9 = .ok (.iload_n 2, 1) := by decide +kernel
theorem d_G_stay_10 : decode b_G_stay 10 = .ok (.iload_n 3, 1) := by decide +kernel
theorem d_G_stay_11 : decode b_G_stay 11 = .ok (.iload 4, 2) := by decide +kernel
theorem d_G_stay_13 : decode b_G_stay 13 = .ok (.invokevirtual 96, 3) := by decide +kernel
theorem d_G_stay_16 : decode b_G_stay 16 = .ok (.return_, 1) := by decide +kernel
theorem d_G_on_0 : decode b_G_on 0 = .ok (.aload_n 0, 1) := by decide +kernel
theorem d_G_on_1 : decode b_G_on 1 = .ok (.getfield 88, 3) := by decide +kernel
theorem d_G_on_4 : decode b_G_on 4 = .ok (.ifCond .eq 13, 3) := by decide +kernel
theorem d_G_on_7 : decode b_G_on 7 = .ok (.aload_n 0, 1) := by decide +kernel
theorem d_G_on_8 : decode b_G_on 8 = .ok (.getfield 38, 3) := by decide +kernel
theorem d_G_on_11 : decode b_G_on 11 = .ok (.getfield 107, 3) := by decide +kernel
theorem d_G_on_14 : decode b_G_on 14 = .ok (.ifCond .eq 13, 3) := by decide +kernel
theorem d_G_on_17 : decode b_G_on 17 = .ok (.new 110, 3) := by decide +kernel
theorem d_G_on_20 : decode b_G_on 20 = .ok (.dup, 1) := by decide +kernel
theorem d_G_on_21 : decode b_G_on 21 = .ok (.ldc 112, 2) := by decide +kernel
theorem d_G_on_23 : decode b_G_on 23 = .ok (.invokespecial 114, 3) := by decide +kernel
theorem d_G_on_26 : decode b_G_on 26 = .ok (.athrow, 1) := by decide +kernel
theorem d_G_on_27 : decode b_G_on 27 = .ok (.aload_n 0, 1) := by decide +kernel
theorem d_G_on_28 : decode b_G_on 28 = .ok (.getfield 38, 3) := by decide +kernel
theorem d_G_on_31 : decode b_G_on 31 = .ok (.getfield 115, 3) := by decide +kernel
theorem d_G_on_34 : decode b_G_on 34 = .ok (.istore_n 1, 1) := by decide +kernel
theorem d_G_on_35 : decode b_G_on 35 = .ok (.aload_n 0, 1) := by decide +kernel
theorem d_G_on_36 : decode b_G_on 36 = .ok (.getfield 38, 3) := by decide +kernel
theorem d_G_on_39 : decode b_G_on 39 = .ok (.iconst 1, 1) := by decide +kernel
theorem d_G_on_40 : decode b_G_on 40 = .ok (.putfield 115, 3) := by decide +kernel
theorem d_G_on_43 : decode b_G_on 43 = .ok (.iload_n 1, 1) := by decide +kernel
theorem d_G_on_44 : decode b_G_on 44 = .ok (.ifCond .ne 7, 3) := by decide +kernel
theorem d_G_on_47 : decode b_G_on 47 = .ok (.iconst 1, 1) := by decide +kernel
theorem d_G_on_48 : decode b_G_on 48 = .ok (.goto 4, 3) := by decide +kernel
theorem d_G_on_51 : decode b_G_on 51 = .ok (.iconst 0, 1) := by decide +kernel
theorem d_G_on_52 : decode b_G_on 52 = .ok (.ireturn, 1) := by decide +kernel
theorem d_G_power_0 : decode b_G_power 0 = .ok (.iload_n 1, 1) := by decide +kernel
theorem d_G_power_1 : decode b_G_power 1 = .ok (.iconst 0, 1) := by decide +kernel
theorem d_G_power_2 : decode b_G_power 2 = .ok (.sipush 20000, 3) := by decide +kernel
theorem d_G_power_5 : decode b_G_power 5 = .ok (.invokestatic 63, 3) := by decide +kernel
theorem d_G_power_8 : decode b_G_power 8 = .ok (.ifCond .eq 16, 3) := by decide +kernel
theorem d_G_power_11 : decode b_G_power 11 = .ok (.iload_n 2, 1) := by decide +kernel
theorem d_G_power_12 : decode b_G_power 12 = .ok (.sipush (-20000), 3) := by decide +kernel
theorem d_G_power_15 : decode b_G_power 15 = .ok (.sipush 20000, 3) := by decide +kernel
theorem d_G_power_18 : decode b_G_power 18 = .ok (.invokestatic 63, 3) := by decide +kernel
theorem d_G_power_21 : decode b_G_power 21 = .ok (.ifCond .ne 13, 3) := by decide +kernel
theorem d_G_power_24 : decode b_G_power 24 = .ok (.new 80, 3) := by decide +kernel
theorem d_G_power_27 : decode b_G_power 27 = .ok (.dup, 1) := by decide +kernel
theorem d_G_power_28 : decode b_G_power 28 = .ok (.ldc 132, 2) := by decide +kernel
theorem d_G_power_30 : decode b_G_power 30 = .ok (.invokespecial 84, 3) := by decide +kernel
theorem d_G_power_33 : decode b_G_power 33 = .ok (.athrow, 1) := by decide +kernel
theorem d_G_power_34 : decode b_G_power 34 = .ok (.aload_n 0, 1) := by decide +kernel
theorem d_G_power_35 : decode b_G_power 35 = .ok (.getfield 45, 3) := by decide +kernel
theorem d_G_power_38 : decode b_G_power 38 = .ok (.iload_n 1, 1) := by decide +kernel
theorem d_G_power_39 : decode b_G_power 39 = .ok (.putfield 134, 3) := by decide +kernel
theorem d_G_power_42 : decode b_G_power 42 = .ok (.aload_n 0, 1) := by decide +kernel
theorem d_G_power_43 : decode b_G_power 43 = .ok (.getfield 45, 3) := by decide +kernel
theorem d_G_power_46 : decode b_G_power 46 = .ok (.iload_n 2, 1) := by decide +kernel
theorem d_G_power_47 : decode b_G_power 47 = .ok (.putfield 137, 3) := by decide +kernel
theorem d_G_power_50 : decode b_G_power 50 = .ok (.return_, 1) := by decide +kernel
theorem d_G_sample_0 : decode b_G_sample 0 = .ok (.iload_n 1, 1) := by decide +kernel
theorem d_G_sample_1 : decode b_G_sample 1 = .ok (.invokestatic 140, 3) := by decide +kernel
theorem d_G_sample_4 : decode b_G_sample 4 = .ok (.ifCond .eq 17, 3) := by decide +kernel
theorem d_G_sample_7 : decode b_G_sample 7 = .ok (.iload_n 2, 1) := by decide +kernel
theorem d_G_sample_8 : decode b_G_sample 8 = .ok (.invokestatic 140, 3) := by decide +kernel
theorem d_G_sample_11 : decode b_G_sample 11 = .ok (.ifCond .eq 10, 3) := by decide +kernel
theorem d_G_sample_14 : decode b_G_sample 14 = .ok (.iload_n 3, 1) := by decide +kernel
theorem d_G_sample_15 : decode b_G_sample 15 = .ok (.invokestatic 140, 3) := by decide +kernel
theorem d_G_sample_18 : decode b_G_sample 18 = .ok (.ifCond .ne 13, 3) := by decide +kernel
theorem d_G_sample_21 : decode b_G_sample 21 = .ok (.new 80, 3) := by decide +kernel
theorem d_G_sample_24 : decode b_G_sample 24 = .ok (.dup, 1) := by decide +kernel
theorem d_G_sample_25 : decode b_G_sample 25 = .ok (.ldc 144, 2) := by decide +kernel
theorem d_G_sample_27 : decode b_G_sample 27 = .ok (.invokespecial 84, 3) := by decide +kernel
theorem d_G_sample_30 : decode b_G_sample 30 = .ok (.athrow, 1) := by decide +kernel
theorem d_G_sample_31 : decode b_G_sample 31 = .ok (.aload_n 0, 1) := by decide +kernel
theorem d_G_sample_32 : decode b_G_sample 32 = .ok (.iload_n 1, 1) := by decide +kernel
theorem d_G_sample_33 : decode b_G_sample 33 = .ok (.iload_n 2, 1) := by decide +kernel
theorem d_G_sample_34 : decode b_G_sample 34 = .ok (.iload_n 3, 1) := by decide +kernel
theorem d_G_sample_35 : decode b_G_sample 35 = .ok (.invokevirtual 146, 3) := by decide +kernel
theorem d_G_sample_38 : decode b_G_sample 38 = .ok (.ldc 150, 2) := by decide +kernel
theorem d_G_sample_40 : decode b_G_sample 40 = .ok (.aload_n 0, 1) := by decide +kernel
theorem d_G_sample_41 : decode b_G_sample 41 = .ok (.getfield 45, 3) := by decide +kernel
theorem d_G_sample_44 : decode b_G_sample 44 = .ok (.getfield 151, 3) := by decide +kernel
theorem d_G_sample_47 : decode b_G_sample 47 = .ok (.imul, 1) := by decide +kernel
theorem d_G_sample_48 : decode b_G_sample 48 = .ok (.aload_n 0, 1) := by decide +kernel
theorem d_G_sample_49 : decode b_G_sample 49 = .ok (.getfield 45, 3) := by decide +kernel
theorem d_G_sample_52 : decode b_G_sample 52 = .ok (.getfield 154, 3) := by decide +kernel
theorem d_G_sample_55 : decode b_G_sample 55 = .ok (.iadd, 1) := by decide +kernel
theorem d_G_sample_56 : decode b_G_sample 56 = .ok (.ireturn, 1) := by decide +kernel
theorem d_G_isSample_0 : decode b_G_isSample 0 = .ok (.iload_n 0, 1) := by decide +kernel
theorem d_G_isSample_1 : decode b_G_isSample 1 = .ok (.sipush (-32768), 3) := by decide +kernel
theorem d_G_isSample_4 : decode b_G_isSample 4 = .ok (.sipush 32767, 3) := by decide +kernel
theorem d_G_isSample_7 : decode b_G_isSample 7 = .ok (.invokestatic 63, 3) := by decide +kernel
theorem d_G_isSample_10 : decode b_G_isSample 10 = .ok (.ireturn, 1) := by decide +kernel
theorem d_G_step_0 : decode b_G_step 0 = .ok (.aload_n 0, 1) := by decide +kernel
theorem d_G_step_1 : decode b_G_step 1 = .ok (.getfield 24, 3) := by decide +kernel
theorem d_G_step_4 : decode b_G_step 4 = .ok (.iload_n 1, 1) := by decide +kernel
theorem d_G_step_5 : decode b_G_step 5 = .ok (.iload_n 2, 1) := by decide +kernel
theorem d_G_step_6 : decode b_G_step 6 = .ok (.iload_n 3, 1) := by decide +kernel
theorem d_G_step_7 : decode b_G_step 7 = .ok (.invokevirtual 251, 3) := by decide +kernel
theorem d_G_step_10 : decode b_G_step 10 = .ok (.aload_n 0, 1) := by decide +kernel
theorem d_G_step_11 : decode b_G_step 11 = .ok (.getfield 31, 3) := by decide +kernel
theorem d_G_step_14 : decode b_G_step 14 = .ok (.aload_n 0, 1) := by decide +kernel
theorem d_G_step_15 : decode b_G_step 15 = .ok (.getfield 24, 3) := by decide +kernel
theorem d_G_step_18 : decode b_G_step 18 = .ok (.getfield 186, 3) := by decide +kernel
theorem d_G_step_21 : decode b_G_step 21 = .ok (.aload_n 0, 1) := by decide +kernel
theorem d_G_step_22 : decode b_G_step 22 = .ok (.getfield 24, 3) := by decide +kernel
theorem d_G_step_25 : decode b_G_step 25 = .ok (.getfield 183, 3) := by decide +kernel
theorem d_G_step_28 : decode b_G_step 28 = .ok (.invokevirtual 254, 3) := by decide +kernel
theorem d_G_step_31 : decode b_G_step 31 = .ok (.aload_n 0, 1) := by decide +kernel
theorem d_G_step_32 : decode b_G_step 32 = .ok (.getfield 31, 3) := by decide +kernel
theorem d_G_step_35 : decode b_G_step 35 = .ok (.invokevirtual 257, 3) := by decide +kernel
theorem d_G_step_38 : decode b_G_step 38 = .ok (.istore 4, 2) := by decide +kernel
theorem d_G_step_40 : decode b_G_step 40 = .ok (.aload_n 0, 1) := by decide +kernel
theorem d_G_step_41 : decode b_G_step 41 = .ok (.iload 4, 2) := by decide +kernel
theorem d_G_step_43 : decode b_G_step 43 = .ok (.invokevirtual 260, 3) := by decide +kernel
theorem d_G_step_46 : decode b_G_step 46 = .ok (.aload_n 0, 1) := by decide +kernel
theorem d_G_step_47 : decode b_G_step 47 = .ok (.iload 4, 2) := by decide +kernel
theorem d_G_step_49 : decode b_G_step 49 = .ok (.iconst (-1), 1) := by decide +kernel
theorem d_G_step_50 : decode b_G_step 50 = .ok (.if_icmp .ne 14, 3) := by decide +kernel
theorem d_G_step_53 : decode b_G_step 53 = .ok (.aload_n 0, 1) := by decide +kernel
theorem d_G_step_54 : decode b_G_step 54 = .ok (.invokevirtual 264, 3) := by decide +kernel
theorem d_G_step_57 : decode b_G_step 57 = .ok (.ifCond .eq 7, 3) := by decide +kernel
theorem d_G_step_60 : decode b_G_step 60 = .ok (.iconst 1, 1) := by decide +kernel
theorem d_G_step_61 : decode b_G_step 61 = .ok (.goto 4, 3) := by decide +kernel
theorem d_G_step_64 : decode b_G_step 64 = .ok (.iconst 0, 1) := by decide +kernel
theorem d_G_step_65 : decode b_G_step 65 = .ok (.invokevirtual 268, 3) := by decide +kernel
theorem d_G_step_68 : decode b_G_step 68 = .ok (.aload_n 0, 1) := by decide +kernel
theorem d_G_step_69 : decode b_G_step 69 = .ok (.invokevirtual 272, 3) := by decide +kernel
theorem d_G_step_72 : decode b_G_step 72 = .ok (.aload_n 0, 1) := by decide +kernel
theorem d_G_step_73 : decode b_G_step 73 = .ok (.getfield 38, 3) := by decide +kernel
theorem d_G_step_76 : decode b_G_step 76 = .ok (.getfield 118, 3) := by decide +kernel
theorem d_G_step_79 : decode b_G_step 79 = .ok (.ifCond .eq 31, 3) := by decide +kernel
theorem d_G_step_82 : decode b_G_step 82 = .ok (.aload_n 0, 1) := by decide +kernel
theorem d_G_step_83 : decode b_G_step 83 = .ok (.getfield 45, 3) := by decide +kernel
theorem d_G_step_86 : decode b_G_step 86 = .ok (.aload_n 0, 1) := by decide +kernel
theorem d_G_step_87 : decode b_G_step 87 = .ok (.getfield 18, 3) := by decide +kernel
theorem d_G_step_90 : decode b_G_step 90 = .ok (.aload_n 0, 1) := by decide +kernel
theorem d_G_step_91 : decode b_G_step 91 = .ok (.getfield 24, 3) := by decide +kernel
theorem d_G_step_94 : decode b_G_step 94 = .ok (.getfield 186, 3) := by decide +kernel
theorem d_G_step_97 : decode b_G_step 97 = .ok (.aload_n 0, 1) := by decide +kernel
theorem d_G_step_98 : decode b_G_step 98 = .ok (.getfield 24, 3) := by decide +kernel
theorem d_G_step_101 : decode b_G_step 101 = .ok (.getfield 183, 3) := by decide +kernel
theorem d_G_step_104 : decode b_G_step 104 = .ok (.invokevirtual 275, 3) := by decide +kernel
theorem d_G_step_107 : decode b_G_step 107 = .ok (.goto 10, 3) := by decide +kernel
theorem d_G_step_110 : decode b_G_step 110 = .ok (.aload_n 0, 1) := by decide +kernel
theorem d_G_step_111 : decode b_G_step 111 = .ok (.getfield 45, 3) := by decide +kernel
theorem d_G_step_114 : decode b_G_step 114 = .ok (.invokevirtual 279, 3) := by decide +kernel
theorem d_G_step_117 : decode b_G_step 117 = .ok (.aload_n 0, 1) := by decide +kernel
theorem d_G_step_118 : decode b_G_step 118 = .ok (.dup, 1) := by decide +kernel
theorem d_G_step_119 : decode b_G_step 119 = .ok (.getfield 225, 3) := by decide +kernel
theorem d_G_step_122 : decode b_G_step 122 = .ok (.aload_n 0, 1) := by decide +kernel
theorem d_G_step_123 : decode b_G_step 123 = .ok (.getfield 45, 3) := by decide +kernel
theorem d_G_step_126 : decode b_G_step 126 = .ok (.getfield 151, 3) := by decide +kernel
theorem d_G_step_129 : decode b_G_step 129 = .ok (.i2l, 1) := by decide +kernel
theorem d_G_step_130 : decode b_G_step 130 = .ok (.aload_n 0, 1) := by decide +kernel
theorem d_G_step_131 : decode b_G_step 131 = .ok (.getfield 24, 3) := by decide +kernel
theorem d_G_step_134 : decode b_G_step 134 = .ok (.getfield 186, 3) := by decide +kernel
theorem d_G_step_137 : decode b_G_step 137 = .ok (.i2l, 1) := by decide +kernel
theorem d_G_step_138 : decode b_G_step 138 = .ok (.lmul, 1) := by decide +kernel
theorem d_G_step_139 : decode b_G_step 139 = .ok (.ladd, 1) := by decide +kernel
theorem d_G_step_140 : decode b_G_step 140 = .ok (.putfield 225, 3) := by decide +kernel
theorem d_G_step_143 : decode b_G_step 143 = .ok (.aload_n 0, 1) := by decide +kernel
theorem d_G_step_144 : decode b_G_step 144 = .ok (.dup, 1) := by decide +kernel
theorem d_G_step_145 : decode b_G_step 145 = .ok (.getfield 121, 3) := by decide +kernel
theorem d_G_step_148 : decode b_G_step 148 = .ok (.iconst 1, 1) := by decide +kernel
theorem d_G_step_149 : decode b_G_step 149 = .ok (.iadd, 1) := by decide +kernel
theorem d_G_step_150 : decode b_G_step 150 = .ok (.putfield 121, 3) := by decide +kernel
theorem d_G_step_153 : decode b_G_step 153 = .ok (.return_, 1) := by decide +kernel
theorem d_Lo_follow_0 : decode b_Lo_follow 0 = .ok (.iconst 2, 1) := by decide +kernel
theorem d_Lo_follow_1 : decode b_Lo_follow 1 = .ok (.iload_n 1, 1) := by decide +kernel
theorem d_Lo_follow_2 : decode b_Lo_follow 2 = .ok (.imul, 1) := by decide +kernel
theorem d_Lo_follow_3 : decode b_Lo_follow 3 = .ok (.iload_n 2, 1) := by decide +kernel
theorem d_Lo_follow_4 : decode b_Lo_follow 4 = .ok (.isub, 1) := by decide +kernel
theorem d_Lo_follow_5 : decode b_Lo_follow 5 = .ok (.iload_n 3, 1) := by decide +kernel
theorem d_Lo_follow_6 : decode b_Lo_follow 6 = .ok (.isub, 1) := by decide +kernel
theorem d_Lo_follow_7 : decode b_Lo_follow 7 = .ok (.istore 4, 2) := by decide +kernel
theorem d_Lo_follow_9 : decode b_Lo_follow 9 = .ok (.iload_n 2, 1) := by decide +kernel
theorem d_Lo_follow_10 : decode b_Lo_follow 10 = .ok (.iload_n 3, 1) := by decide +kernel
theorem d_Lo_follow_11 : decode b_Lo_follow 11 = .ok (.isub, 1) := by decide +kernel
theorem d_Lo_follow_12 : decode b_Lo_follow 12 = .ok (.sipush 1774, 3) := by decide +kernel
theorem d_Lo_follow_15 : decode b_Lo_follow 15 = .ok (.imul, 1) := by decide +kernel
theorem d_Lo_follow_16 : decode b_Lo_follow 16 = .ok (.sipush 1024, 3) := by decide +kernel
theorem d_Lo_follow_19 : decode b_Lo_follow 19 = .ok (.invokestatic 39, 3) := by decide +kernel
theorem d_Lo_follow_22 : decode b_Lo_follow 22 = .ok (.istore 5, 2) := by decide +kernel
theorem d_Lo_follow_24 : decode b_Lo_follow 24 = .ok (.aload_n 0, 1) := by decide +kernel
theorem d_Lo_follow_25 : decode b_Lo_follow 25 = .ok (.iload 4, 2) := by decide +kernel
theorem d_Lo_follow_27 : decode b_Lo_follow 27 = .ok (.i2l, 1) := by decide +kernel
theorem d_Lo_follow_28 : decode b_Lo_follow 28 = .ok (.iload 4, 2) := by decide +kernel
theorem d_Lo_follow_30 : decode b_Lo_follow 30 = .ok (.i2l, 1) := by decide +kernel
theorem d_Lo_follow_31 : decode b_Lo_follow 31 = .ok (.lmul, 1) := by decide +kernel
theorem d_Lo_follow_32 : decode b_Lo_follow 32 = .ok (.iload 5, 2) := by decide +kernel
theorem d_Lo_follow_34 : decode b_Lo_follow 34 = .ok (.i2l, 1) := by decide +kernel
theorem d_Lo_follow_35 : decode b_Lo_follow 35 = .ok (.iload 5, 2) := by decide +kernel
theorem d_Lo_follow_37 : decode b_Lo_follow 37 = .ok (.i2l, 1) := by decide +kernel
theorem d_Lo_follow_38 : decode b_Lo_follow 38 = .ok (.lmul, 1) := by decide +kernel
theorem d_Lo_follow_39 : decode b_Lo_follow 39 = .ok (.ladd, 1) := by decide +kernel
theorem d_Lo_follow_40 : decode b_Lo_follow 40 = .ok (.invokestatic 45, 3) := by decide +kernel
theorem d_Lo_follow_43 : decode b_Lo_follow 43 = .ok (.putfield 48, 3) := by decide +kernel
theorem d_Lo_follow_46 : decode b_Lo_follow 46 = .ok (.aload_n 0, 1) := by decide +kernel
theorem d_Lo_follow_47 : decode b_Lo_follow 47 = .ok (.iload 5, 2) := by decide +kernel
theorem d_Lo_follow_49 : decode b_Lo_follow 49 = .ok (.i2l, 1) := by decide +kernel
theorem d_Lo_follow_50 : decode b_Lo_follow 50 = .ok (.aload_n 0, 1) := by decide +kernel
theorem d_Lo_follow_51 : decode b_Lo_follow 51 = .ok (.getfield 51, 3) := by decide +kernel
theorem d_Lo_follow_54 : decode b_Lo_follow 54 = .ok (.invokestatic 54, 3) := by decide +kernel
theorem d_Lo_follow_57 : decode b_Lo_follow 57 = .ok (.i2l, 1) := by decide +kernel
theorem d_Lo_follow_58 : decode b_Lo_follow 58 = .ok (.lmul, 1) := by decide +kernel
theorem d_Lo_follow_59 : decode b_Lo_follow 59 = .ok (.iload 4, 2) := by decide +kernel
theorem d_Lo_follow_61 : decode b_Lo_follow 61 = .ok (.i2l, 1) := by decide +kernel
theorem d_Lo_follow_62 : decode b_Lo_follow 62 = .ok (.aload_n 0, 1) := by decide +kernel
theorem d_Lo_follow_63 : decode b_Lo_follow 63 = .ok (.getfield 51, 3) := by decide +kernel
theorem d_Lo_follow_66 : decode b_Lo_follow 66 = .ok (.invokestatic 58, 3) := by decide +kernel
theorem d_Lo_follow_69 : decode b_Lo_follow 69 = .ok (.i2l, 1) := by decide +kernel
theorem d_Lo_follow_70 : decode b_Lo_follow 70 = .ok (.lmul, 1) := by decide +kernel
theorem d_Lo_follow_71 : decode b_Lo_follow 71 = .ok (.lsub, 1) := by decide +kernel
theorem d_Lo_follow_72 : decode b_Lo_follow 72 = .ok (.aload_n 0, 1) := by decide +kernel
theorem d_Lo_follow_73 : decode b_Lo_follow 73 = .ok (.getfield 48, 3) := by decide +kernel
theorem d_Lo_follow_76 : decode b_Lo_follow 76 = .ok (.iconst 1, 1) := by decide +kernel
theorem d_Lo_follow_77 : decode b_Lo_follow 77 = .ok (.iadd, 1) := by decide +kernel
theorem d_Lo_follow_78 : decode b_Lo_follow 78 = .ok (.i2l, 1) := by decide +kernel
theorem d_Lo_follow_79 : decode b_Lo_follow 79 = .ok (.ldiv, 1) := by decide +kernel
theorem d_Lo_follow_80 : decode b_Lo_follow 80 = .ok (.l2i, 1) := by decide +kernel
theorem d_Lo_follow_81 : decode b_Lo_follow 81 = .ok (.putfield 61, 3) := by decide +kernel
theorem d_Lo_follow_84 : decode b_Lo_follow 84 = .ok (.aload_n 0, 1) := by decide +kernel
theorem d_Lo_follow_85 : decode b_Lo_follow 85 = .ok (.aload_n 0, 1) := by decide +kernel
theorem d_Lo_follow_86 : decode b_Lo_follow 86 = .ok (.getfield 64, 3) := by decide +kernel
theorem d_Lo_follow_89 : decode b_Lo_follow 89 = .ok (.iconst 2, 1) := by decide +kernel
theorem d_Lo_follow_90 : decode b_Lo_follow 90 = .ok (.aload_n 0, 1) := by decide +kernel
theorem d_Lo_follow_91 : decode b_Lo_follow 91 = .ok (.getfield 61, 3) := by decide +kernel
theorem d_Lo_follow_94 : decode b_Lo_follow 94 = .ok (.imul, 1) := by decide +kernel
theorem d_Lo_follow_95 : decode b_Lo_follow 95 = .ok (.iadd, 1) := by decide +kernel
theorem d_Lo_follow_96 : decode b_Lo_follow 96 = .ok (.ldc 67, 2) := by decide +kernel
theorem d_Lo_follow_98 : decode b_Lo_follow 98 = .ok (.ldc 68, 2) := by decide +kernel
theorem d_Lo_follow_100 : decode b_Lo_follow 100 = .ok (.invokestatic 69, 3) := by decide +kernel
theorem d_Lo_follow_103 : decode b_Lo_follow 103 = .ok (.putfield 64, 3) := by decide +kernel
theorem d_Lo_follow_106 : decode b_Lo_follow 106 = .ok (.ldc 18, 2) := by decide +kernel
theorem d_Lo_follow_108 : decode b_Lo_follow 108 = .ok (.aload_n 0, 1) := by decide +kernel
theorem d_Lo_follow_109 : decode b_Lo_follow 109 = .ok (.getfield 64, 3) := by decide +kernel
theorem d_Lo_follow_112 : decode b_Lo_follow 112 = .ok (.iadd, 1) := by decide +kernel
theorem d_Lo_follow_113 : decode b_Lo_follow 113 = .ok (.sipush 200, 3) := by decide +kernel
theorem d_Lo_follow_116 : decode b_Lo_follow 116 = .ok (.aload_n 0, 1) := by decide +kernel
theorem d_Lo_follow_117 : decode b_Lo_follow 117 = .ok (.getfield 61, 3) := by decide +kernel
theorem d_Lo_follow_120 : decode b_Lo_follow 120 = .ok (.imul, 1) := by decide +kernel
theorem d_Lo_follow_121 : decode b_Lo_follow 121 = .ok (.iadd, 1) := by decide +kernel
theorem d_Lo_follow_122 : decode b_Lo_follow 122 = .ok (.istore 6, 2) := by decide +kernel
theorem d_Lo_follow_124 : decode b_Lo_follow 124 = .ok (.aload_n 0, 1) := by decide +kernel
theorem d_Lo_follow_125 : decode b_Lo_follow 125 = .ok (.dup, 1) := by decide +kernel
theorem d_Lo_follow_126 : decode b_Lo_follow 126 = .ok (.getfield 51, 3) := by decide +kernel
theorem d_Lo_follow_129 : decode b_Lo_follow 129 = .ok (.iload 6, 2) := by decide +kernel
theorem d_Lo_follow_131 : decode b_Lo_follow 131 = .ok (.iadd, 1) := by decide +kernel
theorem d_Lo_follow_132 : decode b_Lo_follow 132 = .ok (.putfield 51, 3) := by decide +kernel
theorem d_Lo_follow_135 : decode b_Lo_follow 135 = .ok (.aload_n 0, 1) := by decide +kernel
theorem d_Lo_follow_136 : decode b_Lo_follow 136 = .ok (.invokevirtual 73, 3) := by decide +kernel
theorem d_Lo_follow_139 : decode b_Lo_follow 139 = .ok (.aload_n 0, 1) := by decide +kernel
theorem d_Lo_follow_140 : decode b_Lo_follow 140 = .ok (.iload 6, 2) := by decide +kernel
theorem d_Lo_follow_142 : decode b_Lo_follow 142 = .ok (.invokevirtual 76, 3) := by decide +kernel
theorem d_Lo_follow_145 : decode b_Lo_follow 145 = .ok (.return_, 1) := by decide +kernel
theorem d_Ma_floorDiv_0 : decode b_Ma_floorDiv 0 = .ok (.iload_n 0, 1) := by decide +kernel
theorem d_Ma_floorDiv_1 : decode b_Ma_floorDiv 1 = .ok (.iload_n 1, 1) := by decide +kernel
theorem d_Ma_floorDiv_2 : decode b_Ma_floorDiv 2 = .ok (.idiv, 1) := by decide +kernel
theorem d_Ma_floorDiv_3 : decode b_Ma_floorDiv 3 = .ok (.istore_n 2, 1) := by decide +kernel
theorem d_Ma_floorDiv_4 : decode b_Ma_floorDiv 4 = .ok (.iload_n 0, 1) := by decide +kernel
theorem d_Ma_floorDiv_5 : decode b_Ma_floorDiv 5 = .ok (.iload_n 1, 1) := by decide +kernel
theorem d_Ma_floorDiv_6 : decode b_Ma_floorDiv 6 = .ok (.ixor, 1) := by decide +kernel
theorem d_Ma_floorDiv_7 : decode b_Ma_floorDiv 7 = .ok (.ifCond .ge 14, 3) := by decide +kernel
theorem d_Ma_floorDiv_10 : decode b_Ma_floorDiv 10 = .ok (.iload_n 2, 1) := by decide +kernel
theorem d_Ma_floorDiv_11 : decode b_Ma_floorDiv 11 = .ok (.iload_n 1, 1) := by decide +kernel
theorem d_Ma_floorDiv_12 : decode b_Ma_floorDiv 12 = .ok (.imul, 1) := by decide +kernel
theorem d_Ma_floorDiv_13 : decode b_Ma_floorDiv 13 = .ok (.iload_n 0, 1) := by decide +kernel
theorem d_Ma_floorDiv_14 : decode b_Ma_floorDiv 14 = .ok (.if_icmp .eq 7, 3) := by decide +kernel
theorem d_Ma_floorDiv_17 : decode b_Ma_floorDiv 17 = .ok (.iload_n 2, 1) := by decide +kernel
theorem d_Ma_floorDiv_18 : decode b_Ma_floorDiv 18 = .ok (.iconst 1, 1) := by decide +kernel
theorem d_Ma_floorDiv_19 : decode b_Ma_floorDiv 19 = .ok (.isub, 1) := by decide +kernel
theorem d_Ma_floorDiv_20 : decode b_Ma_floorDiv 20 = .ok (.ireturn, 1) := by decide +kernel
theorem d_Ma_floorDiv_21 : decode b_Ma_floorDiv 21 = .ok (.iload_n 2, 1) := by decide +kernel
theorem d_Ma_floorDiv_22 : decode b_Ma_floorDiv 22 = .ok (.ireturn, 1) := by decide +kernel
theorem d_G_root_0 : decode b_G_root 0 = .ok (.lconst 0, 1) := by decide +kernel
theorem d_G_root_1 : decode b_G_root 1 = .ok (.lstore_n 2, 1) := by decide +kernel
theorem d_G_root_2 : decode b_G_root 2 = .ok (.bipush 17, 2) := by decide +kernel
theorem d_G_root_4 : decode b_G_root 4 = .ok (.istore 4, 2) := by decide +kernel
theorem d_G_root_6 : decode b_G_root 6 = .ok (.iload 4, 2) := by decide +kernel
theorem d_G_root_8 : decode b_G_root 8 = .ok (.ifCond .lt 30, 3) := by decide +kernel
theorem d_G_root_11 : decode b_G_root 11 = .ok (.lload_n 2, 1) := by decide +kernel
theorem d_G_root_12 : decode b_G_root 12 = .ok (.lconst 1, 1) := by decide +kernel
theorem d_G_root_13 : decode b_G_root 13 = .ok (.iload 4, 2) := by decide +kernel
theorem d_G_root_15 : decode b_G_root 15 = .ok (.lshl, 1) := by decide +kernel
theorem d_G_root_16 : decode b_G_root 16 = .ok (.ladd, 1) := by decide +kernel
theorem d_G_root_17 : decode b_G_root 17 = .ok (.lstore 5, 2) := by decide +kernel
theorem d_G_root_19 : decode b_G_root 19 = .ok (.lload 5, 2) := by decide +kernel
theorem d_G_root_21 : decode b_G_root 21 = .ok (.lload 5, 2) := by decide +kernel
theorem d_G_root_23 : decode b_G_root 23 = .ok (.lmul, 1) := by decide +kernel
theorem d_G_root_24 : decode b_G_root 24 = .ok (.lload_n 0, 1) := by decide +kernel
theorem d_G_root_25 : decode b_G_root 25 = .ok (.lcmp, 1) := by decide +kernel
theorem d_G_root_26 : decode b_G_root 26 = .ok (.ifCond .gt 6, 3) := by decide +kernel
theorem d_G_root_29 : decode b_G_root 29 = .ok (.lload 5, 2) := by decide +kernel
theorem d_G_root_31 : decode b_G_root 31 = .ok (.lstore_n 2, 1) := by decide +kernel
theorem d_G_root_32 : decode b_G_root 32 = .ok (.iinc 4 (-1), 3) := by decide +kernel
theorem d_G_root_35 : decode b_G_root 35 = .ok (.goto (-29), 3) := by decide +kernel
theorem d_G_root_38 : decode b_G_root 38 = .ok (.lload_n 2, 1) := by decide +kernel
theorem d_G_root_39 : decode b_G_root 39 = .ok (.l2i, 1) := by decide +kernel
theorem d_G_root_40 : decode b_G_root 40 = .ok (.ireturn, 1) := by decide +kernel
theorem d_G_cosine_0 : decode b_G_cosine 0 = .ok (.iload_n 0, 1) := by decide +kernel
theorem d_G_cosine_1 : decode b_G_cosine 1 = .ok (.ldc_w 304, 3) := by decide +kernel
theorem d_G_cosine_4 : decode b_G_cosine 4 = .ok (.iadd, 1) := by decide +kernel
theorem d_G_cosine_5 : decode b_G_cosine 5 = .ok (.invokestatic 305, 3) := by decide +kernel
theorem d_G_cosine_8 : decode b_G_cosine 8 = .ok (.ireturn, 1) := by decide +kernel
theorem d_G_sine_0 : decode b_G_sine 0 = .ok (.iload_n 0, 1) := by decide +kernel
theorem d_G_sine_1 : decode b_G_sine 1 = .ok (.bipush 16, 2) := by decide +kernel
theorem d_G_sine_3 : decode b_G_sine 3 = .ok (.iushr, 1) := by decide +kernel
theorem d_G_sine_4 : decode b_G_sine 4 = .ok (.sipush 32767, 3) := by decide +kernel
theorem d_G_sine_7 : decode b_G_sine 7 = .ok (.iand, 1) := by decide +kernel
theorem d_G_sine_8 : decode b_G_sine 8 = .ok (.istore_n 1, 1) := by decide +kernel
theorem d_G_sine_9 : decode b_G_sine 9 = .ok (.iload_n 1, 1) := by decide +kernel
theorem d_G_sine_10 : decode b_G_sine 10 = .ok (.ldc_w 303, 3) := by decide +kernel
theorem d_G_sine_13 : decode b_G_sine 13 = .ok (.iload_n 1, 1) := by decide +kernel
theorem d_G_sine_14 : decode b_G_sine 14 = .ok (.isub, 1) := by decide +kernel
theorem d_G_sine_15 : decode b_G_sine 15 = .ok (.imul, 1) := by decide +kernel
theorem d_G_sine_16 : decode b_G_sine 16 = .ok (.sipush 16384, 3) := by decide +kernel
theorem d_G_sine_19 : decode b_G_sine 19 = .ok (.idiv, 1) := by decide +kernel
theorem d_G_sine_20 : decode b_G_sine 20 = .ok (.istore_n 2, 1) := by decide +kernel
theorem d_G_sine_21 : decode b_G_sine 21 = .ok (.iload_n 0, 1) := by decide +kernel
theorem d_G_sine_22 : decode b_G_sine 22 = .ok (.ifCond .ge 8, 3) := by decide +kernel
theorem d_G_sine_25 : decode b_G_sine 25 = .ok (.iload_n 2, 1) := by decide +kernel
theorem d_G_sine_26 : decode b_G_sine 26 = .ok (.ineg, 1) := by decide +kernel
theorem d_G_sine_27 : decode b_G_sine 27 = .ok (.goto 4, 3) := by decide +kernel
theorem d_G_sine_30 : decode b_G_sine 30 = .ok (.iload_n 2, 1) := by decide +kernel
theorem d_G_sine_31 : decode b_G_sine 31 = .ok (.ireturn, 1) := by decide +kernel
theorem d_G_limited_0 : decode b_G_limited 0 = .ok (.iload_n 1, 1) := by decide +kernel
theorem d_G_limited_1 : decode b_G_limited 1 = .ok (.iload_n 2, 1) := by decide +kernel
theorem d_G_limited_2 : decode b_G_limited 2 = .ok (.iload_n 0, 1) := by decide +kernel
theorem d_G_limited_3 : decode b_G_limited 3 = .ok (.invokestatic 294, 3) := by decide +kernel
theorem d_G_limited_6 : decode b_G_limited 6 = .ok (.invokestatic 300, 3) := by decide +kernel
theorem d_G_limited_9 : decode b_G_limited 9 = .ok (.ireturn, 1) := by decide +kernel
theorem d_Ma_min_0 : decode b_Ma_min 0 = .ok (.iload_n 0, 1) := by decide +kernel
theorem d_Ma_min_1 : decode b_Ma_min 1 = .ok (.iload_n 1, 1) := by decide +kernel
theorem d_Ma_min_2 : decode b_Ma_min 2 = .ok (.if_icmp .gt 7, 3) := by decide +kernel
theorem d_Ma_min_5 : decode b_Ma_min 5 = .ok (.iload_n 0, 1) := by decide +kernel
theorem d_Ma_min_6 : decode b_Ma_min 6 = .ok (.goto 4, 3) := by decide +kernel
theorem d_Ma_min_9 : decode b_Ma_min 9 = .ok (.iload_n 1, 1) := by decide +kernel
theorem d_Ma_min_10 : decode b_Ma_min 10 = .ok (.ireturn, 1) := by decide +kernel
theorem d_Ma_max_0 : decode b_Ma_max 0 = .ok (.iload_n 0, 1) := by decide +kernel
theorem d_Ma_max_1 : decode b_Ma_max 1 = .ok (.iload_n 1, 1) := by decide +kernel
theorem d_Ma_max_2 : decode b_Ma_max 2 = .ok (.if_icmp .lt 7, 3) := by decide +kernel
theorem d_Ma_max_5 : decode b_Ma_max 5 = .ok (.iload_n 0, 1) := by decide +kernel
theorem d_Ma_max_6 : decode b_Ma_max 6 = .ok (.goto 4, 3) := by decide +kernel
theorem d_Ma_max_9 : decode b_Ma_max 9 = .ok (.iload_n 1, 1) := by decide +kernel
theorem d_Ma_max_10 : decode b_Ma_max 10 = .ok (.ireturn, 1) := by decide +kernel
theorem d_Lo_keepMagnitude_0 : decode b_Lo_keepMagnitude 0 = .ok (.aload_n 0, 1) := by decide +kernel
theorem d_Lo_keepMagnitude_1 : decode b_Lo_keepMagnitude 1 = .ok (.aload_n 0, 1) := by decide +kernel
theorem d_Lo_keepMagnitude_2 : decode b_Lo_keepMagnitude 2 = .ok (.getfield 80, 3) := by decide +kernel
theorem d_Lo_keepMagnitude_5 : decode b_Lo_keepMagnitude 5 = .ok (.iconst 1, 1) := by decide +kernel
theorem d_Lo_keepMagnitude_6 : decode b_Lo_keepMagnitude 6 = .ok (.iadd, 1) := by decide +kernel
theorem d_Lo_keepMagnitude_7 : decode b_Lo_keepMagnitude 7 = .ok (.bipush 16, 2) := by decide +kernel
theorem d_Lo_keepMagnitude_9 : decode b_Lo_keepMagnitude 9 = .ok (.irem, 1) := by decide +kernel
theorem d_Lo_keepMagnitude_10 : decode b_Lo_keepMagnitude 10 = .ok (.putfield 80, 3) := by decide +kernel
theorem d_Lo_keepMagnitude_13 : decode b_Lo_keepMagnitude 13 = .ok (.aload_n 0, 1) := by decide +kernel
theorem d_Lo_keepMagnitude_14 : decode b_Lo_keepMagnitude 14 = .ok (.dup, 1) := by decide +kernel
theorem d_Lo_keepMagnitude_15 : decode b_Lo_keepMagnitude 15 = .ok (.getfield 83, 3) := by decide +kernel
theorem d_Lo_keepMagnitude_18 : decode b_Lo_keepMagnitude 18 = .ok (.aload_n 0, 1) := by decide +kernel
theorem d_Lo_keepMagnitude_19 : decode b_Lo_keepMagnitude 19 = .ok (.getfield 48, 3) := by decide +kernel
theorem d_Lo_keepMagnitude_22 : decode b_Lo_keepMagnitude 22 = .ok (.aload_n 0, 1) := by decide +kernel
theorem d_Lo_keepMagnitude_23 : decode b_Lo_keepMagnitude 23 = .ok (.getfield 11, 3) := by decide +kernel
theorem d_Lo_keepMagnitude_26 : decode b_Lo_keepMagnitude 26 = .ok (.aload_n 0, 1) := by decide +kernel
theorem d_Lo_keepMagnitude_27 : decode b_Lo_keepMagnitude 27 = .ok (.getfield 80, 3) := by decide +kernel
theorem d_Lo_keepMagnitude_30 : decode b_Lo_keepMagnitude 30 = .ok (.iaload, 1) := by decide +kernel
theorem d_Lo_keepMagnitude_31 : decode b_Lo_keepMagnitude 31 = .ok (.isub, 1) := by decide +kernel
theorem d_Lo_keepMagnitude_32 : decode b_Lo_keepMagnitude 32 = .ok (.i2l, 1) := by decide +kernel
theorem d_Lo_keepMagnitude_33 : decode b_Lo_keepMagnitude 33 = .ok (.ladd, 1) := by decide +kernel
theorem d_Lo_keepMagnitude_34 : decode b_Lo_keepMagnitude 34 = .ok (.putfield 83, 3) := by decide +kernel
theorem d_Lo_keepMagnitude_37 : decode b_Lo_keepMagnitude 37 = .ok (.aload_n 0, 1) := by decide +kernel
theorem d_Lo_keepMagnitude_38 : decode b_Lo_keepMagnitude 38 = .ok (.getfield 11, 3) := by decide +kernel
theorem d_Lo_keepMagnitude_41 : decode b_Lo_keepMagnitude 41 = .ok (.aload_n 0, 1) := by decide +kernel
theorem d_Lo_keepMagnitude_42 : decode b_Lo_keepMagnitude 42 = .ok (.getfield 80, 3) := by decide +kernel
theorem d_Lo_keepMagnitude_45 : decode b_Lo_keepMagnitude 45 = .ok (.aload_n 0, 1) := by decide +kernel
theorem d_Lo_keepMagnitude_46 : decode b_Lo_keepMagnitude 46 = .ok (.getfield 48, 3) := by decide +kernel
theorem d_Lo_keepMagnitude_49 : decode b_Lo_keepMagnitude 49 = .ok (.iastore, 1) := by decide +kernel
theorem d_Lo_keepMagnitude_50 : decode b_Lo_keepMagnitude 50 = .ok (.aload_n 0, 1) := by decide +kernel
theorem d_Lo_keepMagnitude_51 : decode b_Lo_keepMagnitude 51 = .ok (.aload_n 0, 1) := by decide +kernel
theorem d_Lo_keepMagnitude_52 : decode b_Lo_keepMagnitude 52 = .ok (.getfield 83, 3) := by decide +kernel
theorem d_Lo_keepMagnitude_55 : decode b_Lo_keepMagnitude 55 = .ok (.ldc2_w 86, 3) := by decide +kernel
theorem d_Lo_keepMagnitude_58 : decode b_Lo_keepMagnitude 58 = .ok (.ldiv, 1) := by decide +kernel
theorem d_Lo_keepMagnitude_59 : decode b_Lo_keepMagnitude 59 = .ok (.l2i, 1) := by decide +kernel
theorem d_Lo_keepMagnitude_60 : decode b_Lo_keepMagnitude 60 = .ok (.putfield 88, 3) := by decide +kernel
theorem d_Lo_keepMagnitude_63 : decode b_Lo_keepMagnitude 63 = .ok (.return_, 1) := by decide +kernel
theorem d_Lo_keepPace_0 : decode b_Lo_keepPace 0 = .ok (.aload_n 0, 1) := by decide +kernel
theorem d_Lo_keepPace_1 : decode b_Lo_keepPace 1 = .ok (.aload_n 0, 1) := by decide +kernel
theorem d_Lo_keepPace_2 : decode b_Lo_keepPace 2 = .ok (.getfield 91, 3) := by decide +kernel
theorem d_Lo_keepPace_5 : decode b_Lo_keepPace 5 = .ok (.iconst 1, 1) := by decide +kernel
theorem d_Lo_keepPace_6 : decode b_Lo_keepPace 6 = .ok (.iadd, 1) := by decide +kernel
theorem d_Lo_keepPace_7 : decode b_Lo_keepPace 7 = .ok (.bipush 32, 2) := by decide +kernel
theorem d_Lo_keepPace_9 : decode b_Lo_keepPace 9 = .ok (.irem, 1) := by decide +kernel
theorem d_Lo_keepPace_10 : decode b_Lo_keepPace 10 = .ok (.putfield 91, 3) := by decide +kernel
theorem d_Lo_keepPace_13 : decode b_Lo_keepPace 13 = .ok (.aload_n 0, 1) := by decide +kernel
theorem d_Lo_keepPace_14 : decode b_Lo_keepPace 14 = .ok (.dup, 1) := by decide +kernel
theorem d_Lo_keepPace_15 : decode b_Lo_keepPace 15 = .ok (.getfield 27, 3) := by decide +kernel
theorem d_Lo_keepPace_18 : decode b_Lo_keepPace 18 = .ok (.iload_n 1, 1) := by decide +kernel
theorem d_Lo_keepPace_19 : decode b_Lo_keepPace 19 = .ok (.aload_n 0, 1) := by decide +kernel
theorem d_Lo_keepPace_20 : decode b_Lo_keepPace 20 = .ok (.getfield 15, 3) := by decide +kernel
theorem d_Lo_keepPace_23 : decode b_Lo_keepPace 23 = .ok (.aload_n 0, 1) := by decide +kernel
theorem d_Lo_keepPace_24 : decode b_Lo_keepPace 24 = .ok (.getfield 91, 3) := by decide +kernel
theorem d_Lo_keepPace_27 : decode b_Lo_keepPace 27 = .ok (.iaload, 1) := by decide +kernel
theorem d_Lo_keepPace_28 : decode b_Lo_keepPace 28 = .ok (.isub, 1) := by decide +kernel
theorem d_Lo_keepPace_29 : decode b_Lo_keepPace 29 = .ok (.i2l, 1) := by decide +kernel
theorem d_Lo_keepPace_30 : decode b_Lo_keepPace 30 = .ok (.ladd, 1) := by decide +kernel
theorem d_Lo_keepPace_31 : decode b_Lo_keepPace 31 = .ok (.putfield 27, 3) := by decide +kernel
theorem d_Lo_keepPace_34 : decode b_Lo_keepPace 34 = .ok (.aload_n 0, 1) := by decide +kernel
theorem d_Lo_keepPace_35 : decode b_Lo_keepPace 35 = .ok (.getfield 15, 3) := by decide +kernel
theorem d_Lo_keepPace_38 : decode b_Lo_keepPace 38 = .ok (.aload_n 0, 1) := by decide +kernel
theorem d_Lo_keepPace_39 : decode b_Lo_keepPace 39 = .ok (.getfield 91, 3) := by decide +kernel
theorem d_Lo_keepPace_42 : decode b_Lo_keepPace 42 = .ok (.iload_n 1, 1) := by decide +kernel
theorem d_Lo_keepPace_43 : decode b_Lo_keepPace 43 = .ok (.iastore, 1) := by decide +kernel
theorem d_Lo_keepPace_44 : decode b_Lo_keepPace 44 = .ok (.aload_n 0, 1) := by decide +kernel
theorem d_Lo_keepPace_45 : decode b_Lo_keepPace 45 = .ok (.aload_n 0, 1) := by decide +kernel
theorem d_Lo_keepPace_46 : decode b_Lo_keepPace 46 = .ok (.getfield 27, 3) := by decide +kernel
theorem d_Lo_keepPace_49 : decode b_Lo_keepPace 49 = .ok (.invokestatic 31, 3) := by decide +kernel
theorem d_Lo_keepPace_52 : decode b_Lo_keepPace 52 = .ok (.putfield 35, 3) := by decide +kernel
theorem d_Lo_keepPace_55 : decode b_Lo_keepPace 55 = .ok (.return_, 1) := by decide +kernel
theorem d_Pr_watch_0 : decode b_Pr_watch 0 = .ok (.iconst 0, 1) := by decide +kernel
theorem d_Pr_watch_1 : decode b_Pr_watch 1 = .ok (.istore_n 3, 1) := by decide +kernel
theorem d_Pr_watch_2 : decode b_Pr_watch 2 = .ok (.iload_n 3, 1) := by decide +kernel
theorem d_Pr_watch_3 : decode b_Pr_watch 3 = .ok (.bipush 6, 2) := by decide +kernel
theorem d_Pr_watch_5 : decode b_Pr_watch 5 = .ok (.if_icmp .ge 20, 3) := by decide +kernel
theorem d_Pr_watch_8 : decode b_Pr_watch 8 = .ok (.aload_n 0, 1) := by decide +kernel
theorem d_Pr_watch_9 : decode b_Pr_watch 9 = .ok (.getfield 11, 3) := by decide +kernel
theorem d_Pr_watch_12 : decode b_Pr_watch 12 = .ok (.iload_n 3, 1) := by decide +kernel
theorem d_Pr_watch_13 : decode b_Pr_watch 13 = .ok (.aaload, 1) := by decide +kernel
theorem d_Pr_watch_14 : decode b_Pr_watch 14 = .ok (.iload_n 1, 1) := by decide +kernel
theorem d_Pr_watch_15 : decode b_Pr_watch 15 = .ok (.iload_n 2, 1) := by decide +kernel
theorem d_Pr_watch_16 : decode b_Pr_watch 16 = .ok (.invokevirtual 21, 3) := by decide +kernel
theorem d_Pr_watch_19 : decode b_Pr_watch 19 = .ok (.iinc 3 1, 3) := by decide +kernel
theorem d_Pr_watch_22 : decode b_Pr_watch 22 = .ok (.goto (-20), 3) := by decide +kernel
theorem d_Pr_watch_25 : decode b_Pr_watch 25 = .ok (.return_, 1) := by decide +kernel
theorem d_Pt_watch_0 : decode b_Pt_watch 0 = .ok (.aload_n 0, 1) := by decide +kernel
theorem d_Pt_watch_1 : decode b_Pt_watch 1 = .ok (.aload_n 0, 1) := by decide +kernel
theorem d_Pt_watch_2 : decode b_Pt_watch 2 = .ok (.iload_n 1, 1) := by decide +kernel
theorem d_Pt_watch_3 : decode b_Pt_watch 3 = .ok (.iload_n 2, 1) := by decide +kernel
theorem d_Pt_watch_4 : decode b_Pt_watch 4 = .ok (.invokevirtual 24, 3) := by decide +kernel
theorem d_Pt_watch_7 : decode b_Pt_watch 7 = .ok (.ifCond .eq 19, 3) := by decide +kernel
theorem d_Pt_watch_10 : decode b_Pt_watch 10 = .ok (.aload_n 0, 1) := by decide +kernel
theorem d_Pt_watch_11 : decode b_Pt_watch 11 = .ok (.getfield 21, 3) := by decide +kernel
theorem d_Pt_watch_14 : decode b_Pt_watch 14 = .ok (.iconst 1, 1) := by decide +kernel
theorem d_Pt_watch_15 : decode b_Pt_watch 15 = .ok (.iadd, 1) := by decide +kernel
theorem d_Pt_watch_16 : decode b_Pt_watch 16 = .ok (.aload_n 0, 1) := by decide +kernel
theorem d_Pt_watch_17 : decode b_Pt_watch 17 = .ok (.getfield 15, 3) := by decide +kernel
theorem d_Pt_watch_20 : decode b_Pt_watch 20 = .ok (.invokestatic 28, 3) := by decide +kernel
theorem d_Pt_watch_23 : decode b_Pt_watch 23 = .ok (.goto 4, 3) := by decide +kernel
theorem d_Pt_watch_26 : decode b_Pt_watch 26 = .ok (.iconst 0, 1) := by decide +kernel
theorem d_Pt_watch_27 : decode b_Pt_watch 27 = .ok (.putfield 21, 3) := by decide +kernel
theorem d_Pt_watch_30 : decode b_Pt_watch 30 = .ok (.return_, 1) := by decide +kernel
theorem d_Pt_isBeyond_0 : decode b_Pt_isBeyond 0 = .ok (.aload_n 0, 1) := by decide +kernel
theorem d_Pt_isBeyond_1 : decode b_Pt_isBeyond 1 = .ok (.getfield 9, 3) := by decide +kernel
theorem d_Pt_isBeyond_4 : decode b_Pt_isBeyond 4 = .ok (.tableswitch 88 1 4 #[32, 46, 60, 74], 32) := by decide +kernel
theorem d_Pt_isBeyond_36 : decode b_Pt_isBeyond 36 = .ok (.iload_n 1, 1) := by decide +kernel
theorem d_Pt_isBeyond_37 : decode b_Pt_isBeyond 37 = .ok (.aload_n 0, 1) := by decide +kernel
theorem d_Pt_isBeyond_38 : decode b_Pt_isBeyond 38 = .ok (.getfield 18, 3) := by decide +kernel
theorem d_Pt_isBeyond_41 : decode b_Pt_isBeyond 41 = .ok (.if_icmp .ge 7, 3) := by decide +kernel
theorem d_Pt_isBeyond_44 : decode b_Pt_isBeyond 44 = .ok (.iconst 1, 1) := by decide +kernel
theorem d_Pt_isBeyond_45 : decode b_Pt_isBeyond 45 = .ok (.goto 4, 3) := by decide +kernel
theorem d_Pt_isBeyond_48 : decode b_Pt_isBeyond 48 = .ok (.iconst 0, 1) := by decide +kernel
theorem d_Pt_isBeyond_49 : decode b_Pt_isBeyond 49 = .ok (.ireturn, 1) := by decide +kernel
theorem d_Pt_isBeyond_50 : decode b_Pt_isBeyond 50 = .ok (.iload_n 1, 1) := by decide +kernel
theorem d_Pt_isBeyond_51 : decode b_Pt_isBeyond 51 = .ok (.aload_n 0, 1) := by decide +kernel
theorem d_Pt_isBeyond_52 : decode b_Pt_isBeyond 52 = .ok (.getfield 18, 3) := by decide +kernel
theorem d_Pt_isBeyond_55 : decode b_Pt_isBeyond 55 = .ok (.if_icmp .le 7, 3) := by decide +kernel
theorem d_Pt_isBeyond_58 : decode b_Pt_isBeyond 58 = .ok (.iconst 1, 1) := by decide +kernel
theorem d_Pt_isBeyond_59 : decode b_Pt_isBeyond 59 = .ok (.goto 4, 3) := by decide +kernel
theorem d_Pt_isBeyond_62 : decode b_Pt_isBeyond 62 = .ok (.iconst 0, 1) := by decide +kernel
theorem d_Pt_isBeyond_63 : decode b_Pt_isBeyond 63 = .ok (.ireturn, 1) := by decide +kernel
theorem d_Pt_isBeyond_64 : decode b_Pt_isBeyond 64 = .ok (.iload_n 2, 1) := by decide +kernel
theorem d_Pt_isBeyond_65 : decode b_Pt_isBeyond 65 = .ok (.aload_n 0, 1) := by decide +kernel
theorem d_Pt_isBeyond_66 : decode b_Pt_isBeyond 66 = .ok (.getfield 18, 3) := by decide +kernel
theorem d_Pt_isBeyond_69 : decode b_Pt_isBeyond 69 = .ok (.if_icmp .ge 7, 3) := by decide +kernel
theorem d_Pt_isBeyond_72 : decode b_Pt_isBeyond 72 = .ok (.iconst 1, 1) := by decide +kernel
theorem d_Pt_isBeyond_73 : decode b_Pt_isBeyond 73 = .ok (.goto 4, 3) := by decide +kernel
theorem d_Pt_isBeyond_76 : decode b_Pt_isBeyond 76 = .ok (.iconst 0, 1) := by decide +kernel
theorem d_Pt_isBeyond_77 : decode b_Pt_isBeyond 77 = .ok (.ireturn, 1) := by decide +kernel
theorem d_Pt_isBeyond_78 : decode b_Pt_isBeyond 78 = .ok (.iload_n 2, 1) := by decide +kernel
theorem d_Pt_isBeyond_79 : decode b_Pt_isBeyond 79 = .ok (.aload_n 0, 1) := by decide +kernel
theorem d_Pt_isBeyond_80 : decode b_Pt_isBeyond 80 = .ok (.getfield 18, 3) := by decide +kernel
theorem d_Pt_isBeyond_83 : decode b_Pt_isBeyond 83 = .ok (.if_icmp .le 7, 3) := by decide +kernel
theorem d_Pt_isBeyond_86 : decode b_Pt_isBeyond 86 = .ok (.iconst 1, 1) := by decide +kernel
theorem d_Pt_isBeyond_87 : decode b_Pt_isBeyond 87 = .ok (.goto 4, 3) := by decide +kernel
theorem d_Pt_isBeyond_90 : decode b_Pt_isBeyond 90 = .ok (.iconst 0, 1) := by decide +kernel
theorem d_Pt_isBeyond_91 : decode b_Pt_isBeyond 91 = .ok (.ireturn, 1) := by decide +kernel
theorem d_Pt_isBeyond_92 : decode b_Pt_isBeyond 92 = .ok (.iconst 0, 1) := by decide +kernel
theorem d_Pt_isBeyond_93 : decode b_Pt_isBeyond 93 = .ok (.ireturn, 1) := by decide +kernel
theorem d_Pr_leastTripping_0 : decode b_Pr_leastTripping 0 = .ok (.iconst 0, 1) := by decide +kernel
theorem d_Pr_leastTripping_1 : decode b_Pr_leastTripping 1 = .ok (.istore_n 1, 1) := by decide +kernel
theorem d_Pr_leastTripping_2 : decode b_Pr_leastTripping 2 = .ok (.iload_n 1, 1) := by decide +kernel
theorem d_Pr_leastTripping_3 : decode b_Pr_leastTripping 3 = .ok (.bipush 6, 2) := by decide +kernel
theorem d_Pr_leastTripping_5 : decode b_Pr_leastTripping 5 = .ok (.if_icmp .ge 23, 3) := by decide +kernel
theorem d_Pr_leastTripping_8 : decode b_Pr_leastTripping 8 = .ok (.aload_n 0, 1) := by decide +kernel
theorem d_Pr_leastTripping_9 : decode b_Pr_leastTripping 9 = .ok (.getfield 11, 3) := by decide +kernel
theorem d_Pr_leastTripping_12 : decode b_Pr_leastTripping 12 = .ok (.iload_n 1, 1) := by decide +kernel
theorem d_Pr_leastTripping_13 : decode b_Pr_leastTripping 13 = .ok (.aaload, 1) := by decide +kernel
theorem d_Pr_leastTripping_14 : decode b_Pr_leastTripping 14 = .ok (.invokevirtual 25, 3) := by decide +kernel
theorem d_Pr_leastTripping_17 : decode b_Pr_leastTripping 17 = .ok (.ifCond .eq 5, 3) := by decide +kernel
theorem d_Pr_leastTripping_20 : decode b_Pr_leastTripping 20 = .ok (.iload_n 1, 1) := by decide +kernel
theorem d_Pr_leastTripping_21 : decode b_Pr_leastTripping 21 = .ok (.ireturn, 1) := by decide +kernel
theorem d_Pr_leastTripping_22 : decode b_Pr_leastTripping 22 = .ok (.iinc 1 1, 3) := by decide +kernel
theorem d_Pr_leastTripping_25 : decode b_Pr_leastTripping 25 = .ok (.goto (-23), 3) := by decide +kernel
theorem d_Pr_leastTripping_28 : decode b_Pr_leastTripping 28 = .ok (.iconst (-1), 1) := by decide +kernel
theorem d_Pr_leastTripping_29 : decode b_Pr_leastTripping 29 = .ok (.ireturn, 1) := by decide +kernel
theorem d_Pt_isTripping_0 : decode b_Pt_isTripping 0 = .ok (.aload_n 0, 1) := by decide +kernel
theorem d_Pt_isTripping_1 : decode b_Pt_isTripping 1 = .ok (.getfield 9, 3) := by decide +kernel
theorem d_Pt_isTripping_4 : decode b_Pt_isTripping 4 = .ok (.ifCond .eq 18, 3) := by decide +kernel
theorem d_Pt_isTripping_7 : decode b_Pt_isTripping 7 = .ok (.aload_n 0, 1) := by decide +kernel
theorem d_Pt_isTripping_8 : decode b_Pt_isTripping 8 = .ok (.getfield 21, 3) := by decide +kernel
theorem d_Pt_isTripping_11 : decode b_Pt_isTripping 11 = .ok (.aload_n 0, 1) := by decide +kernel
theorem d_Pt_isTripping_12 : decode b_Pt_isTripping 12 = .ok (.getfield 15, 3) := by decide +kernel
theorem d_Pt_isTripping_15 : decode b_Pt_isTripping 15 = .ok (.if_icmp .ne 7, 3) := by decide +kernel
theorem d_Pt_isTripping_18 : decode b_Pt_isTripping 18 = .ok (.iconst 1, 1) := by decide +kernel
theorem d_Pt_isTripping_19 : decode b_Pt_isTripping 19 = .ok (.goto 4, 3) := by decide +kernel
theorem d_Pt_isTripping_22 : decode b_Pt_isTripping 22 = .ok (.iconst 0, 1) := by decide +kernel
theorem d_Pt_isTripping_23 : decode b_Pt_isTripping 23 = .ok (.ireturn, 1) := by decide +kernel
theorem d_G_openByCurve_0 : decode b_G_openByCurve 0 = .ok (.iload_n 1, 1) := by decide +kernel
theorem d_G_openByCurve_1 : decode b_G_openByCurve 1 = .ok (.iconst (-1), 1) := by decide +kernel
theorem d_G_openByCurve_2 : decode b_G_openByCurve 2 = .ok (.if_icmp .eq 36, 3) := by decide +kernel
theorem d_G_openByCurve_5 : decode b_G_openByCurve 5 = .ok (.aload_n 0, 1) := by decide +kernel
theorem d_G_openByCurve_6 : decode b_G_openByCurve 6 = .ok (.getfield 38, 3) := by decide +kernel
theorem d_G_openByCurve_9 : decode b_G_openByCurve 9 = .ok (.getfield 118, 3) := by decide +kernel
theorem d_G_openByCurve_12 : decode b_G_openByCurve 12 = .ok (.ifCond .eq 26, 3) := by decide +kernel
theorem d_G_openByCurve_15 : decode b_G_openByCurve 15 = .ok (.aload_n 0, 1) := by decide +kernel
theorem d_G_openByCurve_16 : decode b_G_openByCurve 16 = .ok (.getfield 38, 3) := by decide +kernel
theorem d_G_openByCurve_19 : decode b_G_openByCurve 19 = .ok (.iconst 0, 1) := by decide +kernel
theorem d_G_openByCurve_20 : decode b_G_openByCurve 20 = .ok (.putfield 118, 3) := by decide +kernel
theorem d_G_openByCurve_23 : decode b_G_openByCurve 23 = .ok (.aload_n 0, 1) := by decide +kernel
theorem d_G_openByCurve_24 : decode b_G_openByCurve 24 = .ok (.getfield 59, 3) := by decide +kernel
theorem d_G_openByCurve_27 : decode b_G_openByCurve 27 = .ok (.bipush 10, 2) := by decide +kernel
theorem d_G_openByCurve_29 : decode b_G_openByCurve 29 = .ok (.iload_n 1, 1) := by decide +kernel
theorem d_G_openByCurve_30 : decode b_G_openByCurve 30 = .ok (.iadd, 1) := by decide +kernel
theorem d_G_openByCurve_31 : decode b_G_openByCurve 31 = .ok (.aload_n 0, 1) := by decide +kernel
theorem d_G_openByCurve_32 : decode b_G_openByCurve 32 = .ok (.getfield 121, 3) := by decide +kernel
theorem d_G_openByCurve_35 : decode b_G_openByCurve 35 = .ok (.invokevirtual 125, 3) := by decide +kernel
theorem d_G_openByCurve_38 : decode b_G_openByCurve 38 = .ok (.return_, 1) := by decide +kernel
theorem d_G_isGridQuiet_0 : decode b_G_isGridQuiet 0 = .ok (.aload_n 0, 1) := by decide +kernel
theorem d_G_isGridQuiet_1 : decode b_G_isGridQuiet 1 = .ok (.getfield 24, 3) := by decide +kernel
theorem d_G_isGridQuiet_4 : decode b_G_isGridQuiet 4 = .ok (.getfield 186, 3) := by decide +kernel
theorem d_G_isGridQuiet_7 : decode b_G_isGridQuiet 7 = .ok (.aload_n 0, 1) := by decide +kernel
theorem d_G_isGridQuiet_8 : decode b_G_isGridQuiet 8 = .ok (.getfield 18, 3) := by decide +kernel
theorem d_G_isGridQuiet_11 : decode b_G_isGridQuiet 11 = .ok (.iconst 3, 1) := by decide +kernel
theorem d_G_isGridQuiet_12 : decode b_G_isGridQuiet 12 = .ok (.iaload, 1) := by decide +kernel
theorem d_G_isGridQuiet_13 : decode b_G_isGridQuiet 13 = .ok (.aload_n 0, 1) := by decide +kernel
theorem d_G_isGridQuiet_14 : decode b_G_isGridQuiet 14 = .ok (.getfield 18, 3) := by decide +kernel
theorem d_G_isGridQuiet_17 : decode b_G_isGridQuiet 17 = .ok (.iconst 4, 1) := by decide +kernel
theorem d_G_isGridQuiet_18 : decode b_G_isGridQuiet 18 = .ok (.iaload, 1) := by decide +kernel
theorem d_G_isGridQuiet_19 : decode b_G_isGridQuiet 19 = .ok (.invokestatic 63, 3) := by decide +kernel
theorem d_G_isGridQuiet_22 : decode b_G_isGridQuiet 22 = .ok (.ifCond .eq 33, 3) := by decide +kernel
theorem d_G_isGridQuiet_25 : decode b_G_isGridQuiet 25 = .ok (.aload_n 0, 1) := by decide +kernel
theorem d_G_isGridQuiet_26 : decode b_G_isGridQuiet 26 = .ok (.getfield 24, 3) := by decide +kernel
theorem d_G_isGridQuiet_29 : decode b_G_isGridQuiet 29 = .ok (.getfield 183, 3) := by decide +kernel
theorem d_G_isGridQuiet_32 : decode b_G_isGridQuiet 32 = .ok (.aload_n 0, 1) := by decide +kernel
theorem d_G_isGridQuiet_33 : decode b_G_isGridQuiet 33 = .ok (.getfield 18, 3) := by decide +kernel
theorem d_G_isGridQuiet_36 : decode b_G_isGridQuiet 36 = .ok (.iconst 5, 1) := by decide +kernel
theorem d_G_isGridQuiet_37 : decode b_G_isGridQuiet 37 = .ok (.iaload, 1) := by decide +kernel
theorem d_G_isGridQuiet_38 : decode b_G_isGridQuiet 38 = .ok (.aload_n 0, 1) := by decide +kernel
theorem d_G_isGridQuiet_39 : decode b_G_isGridQuiet 39 = .ok (.getfield 18, 3) := by decide +kernel
theorem d_G_isGridQuiet_42 : decode b_G_isGridQuiet 42 = .ok (.bipush 6, 2) := by decide +kernel
theorem d_G_isGridQuiet_44 : decode b_G_isGridQuiet 44 = .ok (.iaload, 1) := by decide +kernel
theorem d_G_isGridQuiet_45 : decode b_G_isGridQuiet 45 = .ok (.invokestatic 63, 3) := by decide +kernel
theorem d_G_isGridQuiet_48 : decode b_G_isGridQuiet 48 = .ok (.ifCond .eq 7, 3) := by decide +kernel
theorem d_G_isGridQuiet_51 : decode b_G_isGridQuiet 51 = .ok (.iconst 1, 1) := by decide +kernel
theorem d_G_isGridQuiet_52 : decode b_G_isGridQuiet 52 = .ok (.goto 4, 3) := by decide +kernel
theorem d_G_isGridQuiet_55 : decode b_G_isGridQuiet 55 = .ok (.iconst 0, 1) := by decide +kernel
theorem d_G_isGridQuiet_56 : decode b_G_isGridQuiet 56 = .ok (.ireturn, 1) := by decide +kernel
theorem d_G_closeByQuiet_0 : decode b_G_closeByQuiet 0 = .ok (.aload_n 0, 1) := by decide +kernel
theorem d_G_closeByQuiet_1 : decode b_G_closeByQuiet 1 = .ok (.getfield 38, 3) := by decide +kernel
theorem d_G_closeByQuiet_4 : decode b_G_closeByQuiet 4 = .ok (.iload_n 1, 1) := by decide +kernel
theorem d_G_closeByQuiet_5 : decode b_G_closeByQuiet 5 = .ok (.invokevirtual 282, 3) := by decide +kernel
theorem d_G_closeByQuiet_8 : decode b_G_closeByQuiet 8 = .ok (.aload_n 0, 1) := by decide +kernel
theorem d_G_closeByQuiet_9 : decode b_G_closeByQuiet 9 = .ok (.getfield 38, 3) := by decide +kernel
theorem d_G_closeByQuiet_12 : decode b_G_closeByQuiet 12 = .ok (.aload_n 0, 1) := by decide +kernel
theorem d_G_closeByQuiet_13 : decode b_G_closeByQuiet 13 = .ok (.getfield 18, 3) := by decide +kernel
theorem d_G_closeByQuiet_16 : decode b_G_closeByQuiet 16 = .ok (.iconst 2, 1) := by decide +kernel
theorem d_G_closeByQuiet_17 : decode b_G_closeByQuiet 17 = .ok (.iaload, 1) := by decide +kernel
theorem d_G_closeByQuiet_18 : decode b_G_closeByQuiet 18 = .ok (.invokevirtual 285, 3) := by decide +kernel
theorem d_G_closeByQuiet_21 : decode b_G_closeByQuiet 21 = .ok (.ifCond .eq 23, 3) := by decide +kernel
theorem d_G_closeByQuiet_24 : decode b_G_closeByQuiet 24 = .ok (.aload_n 0, 1) := by decide +kernel
theorem d_G_closeByQuiet_25 : decode b_G_closeByQuiet 25 = .ok (.getfield 38, 3) := by decide +kernel
theorem d_G_closeByQuiet_28 : decode b_G_closeByQuiet 28 = .ok (.iconst 1, 1) := by decide +kernel
theorem d_G_closeByQuiet_29 : decode b_G_closeByQuiet 29 = .ok (.putfield 118, 3) := by decide +kernel
theorem d_G_closeByQuiet_32 : decode b_G_closeByQuiet 32 = .ok (.aload_n 0, 1) := by decide +kernel
theorem d_G_closeByQuiet_33 : decode b_G_closeByQuiet 33 = .ok (.getfield 59, 3) := by decide +kernel
theorem d_G_closeByQuiet_36 : decode b_G_closeByQuiet 36 = .ok (.iconst 1, 1) := by decide +kernel
theorem d_G_closeByQuiet_37 : decode b_G_closeByQuiet 37 = .ok (.aload_n 0, 1) := by decide +kernel
theorem d_G_closeByQuiet_38 : decode b_G_closeByQuiet 38 = .ok (.getfield 121, 3) := by decide +kernel
theorem d_G_closeByQuiet_41 : decode b_G_closeByQuiet 41 = .ok (.invokevirtual 125, 3) := by decide +kernel
theorem d_G_closeByQuiet_44 : decode b_G_closeByQuiet 44 = .ok (.return_, 1) := by decide +kernel
theorem d_Ko_countQuiet_0 : decode b_Ko_countQuiet 0 = .ok (.aload_n 0, 1) := by decide +kernel
theorem d_Ko_countQuiet_1 : decode b_Ko_countQuiet 1 = .ok (.iload_n 1, 1) := by decide +kernel
theorem d_Ko_countQuiet_2 : decode b_Ko_countQuiet 2 = .ok (.ifCond .eq 18, 3) := by decide +kernel
theorem d_Ko_countQuiet_5 : decode b_Ko_countQuiet 5 = .ok (.aload_n 0, 1) := by decide +kernel
theorem d_Ko_countQuiet_6 : decode b_Ko_countQuiet 6 = .ok (.getfield 9, 3) := by decide +kernel
theorem d_Ko_countQuiet_9 : decode b_Ko_countQuiet 9 = .ok (.iconst 1, 1) := by decide +kernel
theorem d_Ko_countQuiet_10 : decode b_Ko_countQuiet 10 = .ok (.iadd, 1) := by decide +kernel
theorem d_Ko_countQuiet_11 : decode b_Ko_countQuiet 11 = .ok (.sipush 1000, 3) := by decide +kernel
theorem d_Ko_countQuiet_14 : decode b_Ko_countQuiet 14 = .ok (.invokestatic 15, 3) := by decide +kernel
theorem d_Ko_countQuiet_17 : decode b_Ko_countQuiet 17 = .ok (.goto 4, 3) := by decide +kernel
theorem d_Ko_countQuiet_20 : decode b_Ko_countQuiet 20 = .ok (.iconst 0, 1) := by decide +kernel
theorem d_Ko_countQuiet_21 : decode b_Ko_countQuiet 21 = .ok (.putfield 9, 3) := by decide +kernel
theorem d_Ko_countQuiet_24 : decode b_Ko_countQuiet 24 = .ok (.return_, 1) := by decide +kernel
theorem d_Ko_mayClose_0 : decode b_Ko_mayClose 0 = .ok (.aload_n 0, 1) := by decide +kernel
theorem d_Ko_mayClose_1 : decode b_Ko_mayClose 1 = .ok (.getfield 21, 3) := by decide +kernel
theorem d_Ko_mayClose_4 : decode b_Ko_mayClose 4 = .ok (.ifCond .ne 29, 3) := by decide +kernel
theorem d_Ko_mayClose_7 : decode b_Ko_mayClose 7 = .ok (.aload_n 0, 1) := by decide +kernel
theorem d_Ko_mayClose_8 : decode b_Ko_mayClose 8 = .ok (.getfield 25, 3) := by decide +kernel
theorem d_Ko_mayClose_11 : decode b_Ko_mayClose 11 = .ok (.ifCond .eq 22, 3) := by decide +kernel
theorem d_Ko_mayClose_14 : decode b_Ko_mayClose 14 = .ok (.aload_n 0, 1) := by decide +kernel
theorem d_Ko_mayClose_15 : decode b_Ko_mayClose 15 = .ok (.getfield 28, 3) := by decide +kernel
theorem d_Ko_mayClose_18 : decode b_Ko_mayClose 18 = .ok (.ifCond .ne 15, 3) := by decide +kernel
theorem d_Ko_mayClose_21 : decode b_Ko_mayClose 21 = .ok (.aload_n 0, 1) := by decide +kernel
theorem d_Ko_mayClose_22 : decode b_Ko_mayClose 22 = .ok (.getfield 9, 3) := by decide +kernel
theorem d_Ko_mayClose_25 : decode b_Ko_mayClose 25 = .ok (.iload_n 1, 1) := by decide +kernel
theorem d_Ko_mayClose_26 : decode b_Ko_mayClose 26 = .ok (.if_icmp .lt 7, 3) := by decide +kernel
theorem d_Ko_mayClose_29 : decode b_Ko_mayClose 29 = .ok (.iconst 1, 1) := by decide +kernel
theorem d_Ko_mayClose_30 : decode b_Ko_mayClose 30 = .ok (.goto 4, 3) := by decide +kernel
theorem d_Ko_mayClose_33 : decode b_Ko_mayClose 33 = .ok (.iconst 0, 1) := by decide +kernel
theorem d_Ko_mayClose_34 : decode b_Ko_mayClose 34 = .ok (.ireturn, 1) := by decide +kernel
theorem d_G_lockByMissed_0 : decode b_G_lockByMissed 0 = .ok (.aload_n 0, 1) := by decide +kernel
theorem d_G_lockByMissed_1 : decode b_G_lockByMissed 1 = .ok (.getfield 38, 3) := by decide +kernel
theorem d_G_lockByMissed_4 : decode b_G_lockByMissed 4 = .ok (.invokevirtual 288, 3) := by decide +kernel
theorem d_G_lockByMissed_7 : decode b_G_lockByMissed 7 = .ok (.aload_n 0, 1) := by decide +kernel
theorem d_G_lockByMissed_8 : decode b_G_lockByMissed 8 = .ok (.getfield 38, 3) := by decide +kernel
theorem d_G_lockByMissed_11 : decode b_G_lockByMissed 11 = .ok (.getfield 204, 3) := by decide +kernel
theorem d_G_lockByMissed_14 : decode b_G_lockByMissed 14 = .ok (.aload_n 0, 1) := by decide +kernel
theorem d_G_lockByMissed_15 : decode b_G_lockByMissed 15 = .ok (.getfield 18, 3) := by decide +kernel
theorem d_G_lockByMissed_18 : decode b_G_lockByMissed 18 = .ok (.bipush 11, 2) := by decide +kernel
theorem d_G_lockByMissed_20 : decode b_G_lockByMissed 20 = .ok (.iaload, 1) := by decide +kernel
theorem d_G_lockByMissed_21 : decode b_G_lockByMissed 21 = .ok (.if_icmp .lt 22, 3) := by decide +kernel
theorem d_G_lockByMissed_24 : decode b_G_lockByMissed 24 = .ok (.aload_n 0, 1) := by decide +kernel
theorem d_G_lockByMissed_25 : decode b_G_lockByMissed 25 = .ok (.getfield 38, 3) := by decide +kernel
theorem d_G_lockByMissed_28 : decode b_G_lockByMissed 28 = .ok (.invokevirtual 291, 3) := by decide +kernel
theorem d_G_lockByMissed_31 : decode b_G_lockByMissed 31 = .ok (.aload_n 0, 1) := by decide +kernel
theorem d_G_lockByMissed_32 : decode b_G_lockByMissed 32 = .ok (.getfield 59, 3) := by decide +kernel
theorem d_G_lockByMissed_35 : decode b_G_lockByMissed 35 = .ok (.iconst 3, 1) := by decide +kernel
theorem d_G_lockByMissed_36 : decode b_G_lockByMissed 36 = .ok (.aload_n 0, 1) := by decide +kernel
theorem d_G_lockByMissed_37 : decode b_G_lockByMissed 37 = .ok (.getfield 121, 3) := by decide +kernel
theorem d_G_lockByMissed_40 : decode b_G_lockByMissed 40 = .ok (.invokevirtual 125, 3) := by decide +kernel
theorem d_G_lockByMissed_43 : decode b_G_lockByMissed 43 = .ok (.return_, 1) := by decide +kernel
theorem d_Ko_countMissed_0 : decode b_Ko_countMissed 0 = .ok (.aload_n 0, 1) := by decide +kernel
theorem d_Ko_countMissed_1 : decode b_Ko_countMissed 1 = .ok (.aload_n 0, 1) := by decide +kernel
theorem d_Ko_countMissed_2 : decode b_Ko_countMissed 2 = .ok (.getfield 31, 3) := by decide +kernel
theorem d_Ko_countMissed_5 : decode b_Ko_countMissed 5 = .ok (.aload_n 0, 1) := by decide +kernel
theorem d_Ko_countMissed_6 : decode b_Ko_countMissed 6 = .ok (.getfield 21, 3) := by decide +kernel
theorem d_Ko_countMissed_9 : decode b_Ko_countMissed 9 = .ok (.if_icmp .eq 12, 3) := by decide +kernel
theorem d_Ko_countMissed_12 : decode b_Ko_countMissed 12 = .ok (.aload_n 0, 1) := by decide +kernel
theorem d_Ko_countMissed_13 : decode b_Ko_countMissed 13 = .ok (.getfield 34, 3) := by decide +kernel
theorem d_Ko_countMissed_16 : decode b_Ko_countMissed 16 = .ok (.iconst 1, 1) := by decide +kernel
theorem d_Ko_countMissed_17 : decode b_Ko_countMissed 17 = .ok (.iadd, 1) := by decide +kernel
theorem d_Ko_countMissed_18 : decode b_Ko_countMissed 18 = .ok (.goto 4, 3) := by decide +kernel
theorem d_Ko_countMissed_21 : decode b_Ko_countMissed 21 = .ok (.iconst 0, 1) := by decide +kernel
theorem d_Ko_countMissed_22 : decode b_Ko_countMissed 22 = .ok (.putfield 34, 3) := by decide +kernel
theorem d_Ko_countMissed_25 : decode b_Ko_countMissed 25 = .ok (.return_, 1) := by decide +kernel
theorem d_Ko_lock_0 : decode b_Ko_lock 0 = .ok (.aload_n 0, 1) := by decide +kernel
theorem d_Ko_lock_1 : decode b_Ko_lock 1 = .ok (.iconst 1, 1) := by decide +kernel
theorem d_Ko_lock_2 : decode b_Ko_lock 2 = .ok (.putfield 28, 3) := by decide +kernel
theorem d_Ko_lock_5 : decode b_Ko_lock 5 = .ok (.aload_n 0, 1) := by decide +kernel
theorem d_Ko_lock_6 : decode b_Ko_lock 6 = .ok (.iconst 0, 1) := by decide +kernel
theorem d_Ko_lock_7 : decode b_Ko_lock 7 = .ok (.putfield 25, 3) := by decide +kernel
theorem d_Ko_lock_10 : decode b_Ko_lock 10 = .ok (.aload_n 0, 1) := by decide +kernel
theorem d_Ko_lock_11 : decode b_Ko_lock 11 = .ok (.iconst 0, 1) := by decide +kernel
theorem d_Ko_lock_12 : decode b_Ko_lock 12 = .ok (.putfield 21, 3) := by decide +kernel
theorem d_Ko_lock_15 : decode b_Ko_lock 15 = .ok (.aload_n 0, 1) := by decide +kernel
theorem d_Ko_lock_16 : decode b_Ko_lock 16 = .ok (.iconst 0, 1) := by decide +kernel
theorem d_Ko_lock_17 : decode b_Ko_lock 17 = .ok (.putfield 34, 3) := by decide +kernel
theorem d_Ko_lock_20 : decode b_Ko_lock 20 = .ok (.return_, 1) := by decide +kernel
theorem d_Co_approach_0 : decode b_Co_approach 0 = .ok (.aload_n 1, 1) := by decide +kernel
theorem d_Co_approach_1 : decode b_Co_approach 1 = .ok (.iconst 0, 1) := by decide +kernel
theorem d_Co_approach_2 : decode b_Co_approach 2 = .ok (.iaload, 1) := by decide +kernel
theorem d_Co_approach_3 : decode b_Co_approach 3 = .ok (.istore 4, 2) := by decide +kernel
theorem d_Co_approach_5 : decode b_Co_approach 5 = .ok (.aload_n 1, 1) := by decide +kernel
theorem d_Co_approach_6 : decode b_Co_approach 6 = .ok (.iconst 1, 1) := by decide +kernel
theorem d_Co_approach_7 : decode b_Co_approach 7 = .ok (.iaload, 1) := by decide +kernel
theorem d_Co_approach_8 : decode b_Co_approach 8 = .ok (.istore 5, 2) := by decide +kernel
theorem d_Co_approach_10 : decode b_Co_approach 10 = .ok (.aload_n 0, 1) := by decide +kernel
theorem d_Co_approach_11 : decode b_Co_approach 11 = .ok (.dup, 1) := by decide +kernel
theorem d_Co_approach_12 : decode b_Co_approach 12 = .ok (.getfield 9, 3) := by decide +kernel
theorem d_Co_approach_15 : decode b_Co_approach 15 = .ok (.aload_n 0, 1) := by decide +kernel
theorem d_Co_approach_16 : decode b_Co_approach 16 = .ok (.aload_n 1, 1) := by decide +kernel
theorem d_Co_approach_17 : decode b_Co_approach 17 = .ok (.iload_n 3, 1) := by decide +kernel
theorem d_Co_approach_18 : decode b_Co_approach 18 = .ok (.invokevirtual 21, 3) := by decide +kernel
theorem d_Co_approach_21 : decode b_Co_approach 21 = .ok (.aload_n 0, 1) := by decide +kernel
theorem d_Co_approach_22 : decode b_Co_approach 22 = .ok (.getfield 9, 3) := by decide +kernel
theorem d_Co_approach_25 : decode b_Co_approach 25 = .ok (.isub, 1) := by decide +kernel
theorem d_Co_approach_26 : decode b_Co_approach 26 = .ok (.iload 5, 2) := by decide +kernel
theorem d_Co_approach_28 : decode b_Co_approach 28 = .ok (.ineg, 1) := by decide +kernel
theorem d_Co_approach_29 : decode b_Co_approach 29 = .ok (.iload 5, 2) := by decide +kernel
theorem d_Co_approach_31 : decode b_Co_approach 31 = .ok (.invokestatic 25, 3) := by decide +kernel
theorem d_Co_approach_34 : decode b_Co_approach 34 = .ok (.iadd, 1) := by decide +kernel
theorem d_Co_approach_35 : decode b_Co_approach 35 = .ok (.putfield 9, 3) := by decide +kernel
theorem d_Co_approach_38 : decode b_Co_approach 38 = .ok (.aload_n 1, 1) := by decide +kernel
theorem d_Co_approach_39 : decode b_Co_approach 39 = .ok (.bipush 10, 2) := by decide +kernel
theorem d_Co_approach_41 : decode b_Co_approach 41 = .ok (.iaload, 1) := by decide +kernel
theorem d_Co_approach_42 : decode b_Co_approach 42 = .ok (.sipush 10000, 3) := by decide +kernel
theorem d_Co_approach_45 : decode b_Co_approach 45 = .ok (.iload_n 2, 1) := by decide +kernel
theorem d_Co_approach_46 : decode b_Co_approach 46 = .ok (.isub, 1) := by decide +kernel
theorem d_Co_approach_47 : decode b_Co_approach 47 = .ok (.imul, 1) := by decide +kernel
theorem d_Co_approach_48 : decode b_Co_approach 48 = .ok (.bipush 100, 2) := by decide +kernel
theorem d_Co_approach_50 : decode b_Co_approach 50 = .ok (.idiv, 1) := by decide +kernel
theorem d_Co_approach_51 : decode b_Co_approach 51 = .ok (.istore 6, 2) := by decide +kernel
theorem d_Co_approach_53 : decode b_Co_approach 53 = .ok (.aload_n 0, 1) := by decide +kernel
theorem d_Co_approach_54 : decode b_Co_approach 54 = .ok (.getfield 29, 3) := by decide +kernel
theorem d_Co_approach_57 : decode b_Co_approach 57 = .ok (.iload 6, 2) := by decide +kernel
theorem d_Co_approach_59 : decode b_Co_approach 59 = .ok (.iadd, 1) := by decide +kernel
theorem d_Co_approach_60 : decode b_Co_approach 60 = .ok (.iload 4, 2) := by decide +kernel
theorem d_Co_approach_62 : decode b_Co_approach 62 = .ok (.ineg, 1) := by decide +kernel
theorem d_Co_approach_63 : decode b_Co_approach 63 = .ok (.iload 4, 2) := by decide +kernel
theorem d_Co_approach_65 : decode b_Co_approach 65 = .ok (.invokestatic 25, 3) := by decide +kernel
theorem d_Co_approach_68 : decode b_Co_approach 68 = .ok (.istore 7, 2) := by decide +kernel
theorem d_Co_approach_70 : decode b_Co_approach 70 = .ok (.aload_n 1, 1) := by decide +kernel
theorem d_Co_approach_71 : decode b_Co_approach 71 = .ok (.bipush 9, 2) := by decide +kernel
theorem d_Co_approach_73 : decode b_Co_approach 73 = .ok (.iaload, 1) := by decide +kernel
theorem d_Co_approach_74 : decode b_Co_approach 74 = .ok (.ifCond .ne 44, 3) := by decide +kernel
theorem d_Co_approach_77 : decode b_Co_approach 77 = .ok (.aload_n 0, 1) := by decide +kernel
theorem d_Co_approach_78 : decode b_Co_approach 78 = .ok (.aload_n 0, 1) := by decide +kernel
theorem d_Co_approach_79 : decode b_Co_approach 79 = .ok (.getfield 9, 3) := by decide +kernel
theorem d_Co_approach_82 : decode b_Co_approach 82 = .ok (.iload 4, 2) := by decide +kernel
theorem d_Co_approach_84 : decode b_Co_approach 84 = .ok (.invokestatic 32, 3) := by decide +kernel
theorem d_Co_approach_87 : decode b_Co_approach 87 = .ok (.putfield 15, 3) := by decide +kernel
theorem d_Co_approach_90 : decode b_Co_approach 90 = .ok (.iload 4, 2) := by decide +kernel
theorem d_Co_approach_92 : decode b_Co_approach 92 = .ok (.aload_n 0, 1) := by decide +kernel
theorem d_Co_approach_93 : decode b_Co_approach 93 = .ok (.getfield 15, 3) := by decide +kernel
theorem d_Co_approach_96 : decode b_Co_approach 96 = .ok (.invokestatic 38, 3) := by decide +kernel
theorem d_Co_approach_99 : decode b_Co_approach 99 = .ok (.istore 8, 2) := by decide +kernel
theorem d_Co_approach_101 : decode b_Co_approach 101 = .ok (.aload_n 0, 1) := by decide +kernel
theorem d_Co_approach_102 : decode b_Co_approach 102 = .ok (.iload 7, 2) := by decide +kernel
theorem d_Co_approach_104 : decode b_Co_approach 104 = .ok (.iload 8, 2) := by decide +kernel
theorem d_Co_approach_106 : decode b_Co_approach 106 = .ok (.ineg, 1) := by decide +kernel
theorem d_Co_approach_107 : decode b_Co_approach 107 = .ok (.iload 8, 2) := by decide +kernel
theorem d_Co_approach_109 : decode b_Co_approach 109 = .ok (.invokestatic 25, 3) := by decide +kernel
theorem d_Co_approach_112 : decode b_Co_approach 112 = .ok (.putfield 18, 3) := by decide +kernel
theorem d_Co_approach_115 : decode b_Co_approach 115 = .ok (.goto 29, 3) := by decide +kernel
theorem d_Co_approach_118 : decode b_Co_approach 118 = .ok (.aload_n 0, 1) := by decide +kernel
theorem d_Co_approach_119 : decode b_Co_approach 119 = .ok (.iload 7, 2) := by decide +kernel
theorem d_Co_approach_121 : decode b_Co_approach 121 = .ok (.putfield 18, 3) := by decide +kernel
theorem d_Co_approach_124 : decode b_Co_approach 124 = .ok (.aload_n 0, 1) := by decide +kernel
theorem d_Co_approach_125 : decode b_Co_approach 125 = .ok (.aload_n 0, 1) := by decide +kernel
theorem d_Co_approach_126 : decode b_Co_approach 126 = .ok (.getfield 9, 3) := by decide +kernel
theorem d_Co_approach_129 : decode b_Co_approach 129 = .ok (.iload 4, 2) := by decide +kernel
theorem d_Co_approach_131 : decode b_Co_approach 131 = .ok (.aload_n 0, 1) := by decide +kernel
theorem d_Co_approach_132 : decode b_Co_approach 132 = .ok (.getfield 18, 3) := by decide +kernel
theorem d_Co_approach_135 : decode b_Co_approach 135 = .ok (.invokestatic 38, 3) := by decide +kernel
theorem d_Co_approach_138 : decode b_Co_approach 138 = .ok (.invokestatic 32, 3) := by decide +kernel
theorem d_Co_approach_141 : decode b_Co_approach 141 = .ok (.putfield 15, 3) := by decide +kernel
theorem d_Co_approach_144 : decode b_Co_approach 144 = .ok (.return_, 1) := by decide +kernel
theorem d_Co_activeTarget_0 : decode b_Co_activeTarget 0 = .ok (.aload_n 0, 1) := by decide +kernel
theorem d_Co_activeTarget_1 : decode b_Co_activeTarget 1 = .ok (.getfield 41, 3) := by decide +kernel
theorem d_Co_activeTarget_4 : decode b_Co_activeTarget 4 = .ok (.istore_n 3, 1) := by decide +kernel
theorem d_Co_activeTarget_5 : decode b_Co_activeTarget 5 = .ok (.iload_n 2, 1) := by decide +kernel
theorem d_Co_activeTarget_6 : decode b_Co_activeTarget 6 = .ok (.aload_n 1, 1) := by decide +kernel
theorem d_Co_activeTarget_7 : decode b_Co_activeTarget 7 = .ok (.bipush 7, 2) := by decide +kernel
theorem d_Co_activeTarget_9 : decode b_Co_activeTarget 9 = .ok (.iaload, 1) := by decide +kernel
theorem d_Co_activeTarget_10 : decode b_Co_activeTarget 10 = .ok (.if_icmp .le 20, 3) := by decide +kernel
theorem d_Co_activeTarget_13 : decode b_Co_activeTarget 13 = .ok (.iload_n 3, 1) := by decide +kernel
theorem d_Co_activeTarget_14 : decode b_Co_activeTarget 14 = .ok (.aload_n 1, 1) := by decide +kernel
theorem d_Co_activeTarget_15 : decode b_Co_activeTarget 15 = .ok (.bipush 8, 2) := by decide +kernel
theorem d_Co_activeTarget_17 : decode b_Co_activeTarget 17 = .ok (.iaload, 1) := by decide +kernel
theorem d_Co_activeTarget_18 : decode b_Co_activeTarget 18 = .ok (.iload_n 2, 1) := by decide +kernel
theorem d_Co_activeTarget_19 : decode b_Co_activeTarget 19 = .ok (.aload_n 1, 1) := by decide +kernel
theorem d_Co_activeTarget_20 : decode b_Co_activeTarget 20 = .ok (.bipush 7, 2) := by decide +kernel
theorem d_Co_activeTarget_22 : decode b_Co_activeTarget 22 = .ok (.iaload, 1) := by decide +kernel
theorem d_Co_activeTarget_23 : decode b_Co_activeTarget 23 = .ok (.isub, 1) := by decide +kernel
theorem d_Co_activeTarget_24 : decode b_Co_activeTarget 24 = .ok (.bipush 100, 2) := by decide +kernel
theorem d_Co_activeTarget_26 : decode b_Co_activeTarget 26 = .ok (.idiv, 1) := by decide +kernel
theorem d_Co_activeTarget_27 : decode b_Co_activeTarget 27 = .ok (.imul, 1) := by decide +kernel
theorem d_Co_activeTarget_28 : decode b_Co_activeTarget 28 = .ok (.isub, 1) := by decide +kernel
theorem d_Co_activeTarget_29 : decode b_Co_activeTarget 29 = .ok (.istore_n 3, 1) := by decide +kernel
theorem d_Co_activeTarget_30 : decode b_Co_activeTarget 30 = .ok (.iload_n 3, 1) := by decide +kernel
theorem d_Co_activeTarget_31 : decode b_Co_activeTarget 31 = .ok (.iconst 0, 1) := by decide +kernel
theorem d_Co_activeTarget_32 : decode b_Co_activeTarget 32 = .ok (.aload_n 1, 1) := by decide +kernel
theorem d_Co_activeTarget_33 : decode b_Co_activeTarget 33 = .ok (.iconst 0, 1) := by decide +kernel
theorem d_Co_activeTarget_34 : decode b_Co_activeTarget 34 = .ok (.iaload, 1) := by decide +kernel
theorem d_Co_activeTarget_35 : decode b_Co_activeTarget 35 = .ok (.invokestatic 25, 3) := by decide +kernel
theorem d_Co_activeTarget_38 : decode b_Co_activeTarget 38 = .ok (.ireturn, 1) := by decide +kernel
theorem d_Co_restOf_0 : decode b_Co_restOf 0 = .ok (.iload_n 0, 1) := by decide +kernel
theorem d_Co_restOf_1 : decode b_Co_restOf 1 = .ok (.i2l, 1) := by decide +kernel
theorem d_Co_restOf_2 : decode b_Co_restOf 2 = .ok (.iload_n 0, 1) := by decide +kernel
theorem d_Co_restOf_3 : decode b_Co_restOf 3 = .ok (.i2l, 1) := by decide +kernel
theorem d_Co_restOf_4 : decode b_Co_restOf 4 = .ok (.lmul, 1) := by decide +kernel
theorem d_Co_restOf_5 : decode b_Co_restOf 5 = .ok (.iload_n 1, 1) := by decide +kernel
theorem d_Co_restOf_6 : decode b_Co_restOf 6 = .ok (.i2l, 1) := by decide +kernel
theorem d_Co_restOf_7 : decode b_Co_restOf 7 = .ok (.iload_n 1, 1) := by decide +kernel
theorem d_Co_restOf_8 : decode b_Co_restOf 8 = .ok (.i2l, 1) := by decide +kernel
theorem d_Co_restOf_9 : decode b_Co_restOf 9 = .ok (.lmul, 1) := by decide +kernel
theorem d_Co_restOf_10 : decode b_Co_restOf 10 = .ok (.lsub, 1) := by decide +kernel
theorem d_Co_restOf_11 : decode b_Co_restOf 11 = .ok (.invokestatic 44, 3) := by decide +kernel
theorem d_Co_restOf_14 : decode b_Co_restOf 14 = .ok (.ireturn, 1) := by decide +kernel
theorem d_Co_clear_0 : decode b_Co_clear 0 = .ok (.aload_n 0, 1) := by decide +kernel
theorem d_Co_clear_1 : decode b_Co_clear 1 = .ok (.iconst 0, 1) := by decide +kernel
theorem d_Co_clear_2 : decode b_Co_clear 2 = .ok (.putfield 9, 3) := by decide +kernel
theorem d_Co_clear_5 : decode b_Co_clear 5 = .ok (.aload_n 0, 1) := by decide +kernel
theorem d_Co_clear_6 : decode b_Co_clear 6 = .ok (.iconst 0, 1) := by decide +kernel
theorem d_Co_clear_7 : decode b_Co_clear 7 = .ok (.putfield 15, 3) := by decide +kernel
theorem d_Co_clear_10 : decode b_Co_clear 10 = .ok (.aload_n 0, 1) := by decide +kernel
theorem d_Co_clear_11 : decode b_Co_clear 11 = .ok (.iconst 0, 1) := by decide +kernel
theorem d_Co_clear_12 : decode b_Co_clear 12 = .ok (.putfield 18, 3) := by decide +kernel
theorem d_Co_clear_15 : decode b_Co_clear 15 = .ok (.return_, 1) := by decide +kernel
theorem d_G_grid_0 : decode b_G_grid 0 = .ok (.iload_n 1, 1) := by decide +kernel
theorem d_G_grid_1 : decode b_G_grid 1 = .ok (.iconst 0, 1) := by decide +kernel
theorem d_G_grid_2 : decode b_G_grid 2 = .ok (.sipush 20000, 3) := by decide +kernel
theorem d_G_grid_5 : decode b_G_grid 5 = .ok (.invokestatic 63, 3) := by decide +kernel
theorem d_G_grid_8 : decode b_G_grid 8 = .ok (.ifCond .eq 14, 3) := by decide +kernel
theorem d_G_grid_11 : decode b_G_grid 11 = .ok (.iload_n 2, 1) := by decide +kernel
theorem d_G_grid_12 : decode b_G_grid 12 = .ok (.ldc 157, 2) := by decide +kernel
theorem d_G_grid_14 : decode b_G_grid 14 = .ok (.ldc 158, 2) := by decide +kernel
theorem d_G_grid_16 : decode b_G_grid 16 = .ok (.invokestatic 63, 3) := by decide +kernel
theorem d_G_grid_19 : decode b_G_grid 19 = .ok (.ifCond .ne 13, 3) := by decide +kernel
theorem d_G_grid_22 : decode b_G_grid 22 = .ok (.new 80, 3) := by decide +kernel
theorem d_G_grid_25 : decode b_G_grid 25 = .ok (.dup, 1) := by decide +kernel
theorem d_G_grid_26 : decode b_G_grid 26 = .ok (.ldc 159, 2) := by decide +kernel
theorem d_G_grid_28 : decode b_G_grid 28 = .ok (.invokespecial 84, 3) := by decide +kernel
theorem d_G_grid_31 : decode b_G_grid 31 = .ok (.athrow, 1) := by decide +kernel
theorem d_G_grid_32 : decode b_G_grid 32 = .ok (.aload_n 0, 1) := by decide +kernel
theorem d_G_grid_33 : decode b_G_grid 33 = .ok (.getfield 52, 3) := by decide +kernel
theorem d_G_grid_36 : decode b_G_grid 36 = .ok (.iload_n 1, 1) := by decide +kernel
theorem d_G_grid_37 : decode b_G_grid 37 = .ok (.iload_n 2, 1) := by decide +kernel
theorem d_G_grid_38 : decode b_G_grid 38 = .ok (.iload_n 3, 1) := by decide +kernel
theorem d_G_grid_39 : decode b_G_grid 39 = .ok (.invokevirtual 161, 3) := by decide +kernel
theorem d_G_grid_42 : decode b_G_grid 42 = .ok (.return_, 1) := by decide +kernel
theorem d_Og_become_0 : decode b_Og_become 0 = .ok (.aload_n 0, 1) := by decide +kernel
theorem d_Og_become_1 : decode b_Og_become 1 = .ok (.iconst 1, 1) := by decide +kernel
theorem d_Og_become_2 : decode b_Og_become 2 = .ok (.putfield 9, 3) := by decide +kernel
theorem d_Og_become_5 : decode b_Og_become 5 = .ok (.aload_n 0, 1) := by decide +kernel
theorem d_Og_become_6 : decode b_Og_become 6 = .ok (.iload_n 1, 1) := by decide +kernel
theorem d_Og_become_7 : decode b_Og_become 7 = .ok (.putfield 15, 3) := by decide +kernel
theorem d_Og_become_10 : decode b_Og_become 10 = .ok (.aload_n 0, 1) := by decide +kernel
theorem d_Og_become_11 : decode b_Og_become 11 = .ok (.iload_n 2, 1) := by decide +kernel
theorem d_Og_become_12 : decode b_Og_become 12 = .ok (.i2l, 1) := by decide +kernel
theorem d_Og_become_13 : decode b_Og_become 13 = .ok (.ldc2_w 19, 3) := by decide +kernel
theorem d_Og_become_16 : decode b_Og_become 16 = .ok (.lmul, 1) := by decide +kernel
theorem d_Og_become_17 : decode b_Og_become 17 = .ok (.ldc2_w 21, 3) := by decide +kernel
theorem d_Og_become_20 : decode b_Og_become 20 = .ok (.ldiv, 1) := by decide +kernel
theorem d_Og_become_21 : decode b_Og_become 21 = .ok (.l2i, 1) := by decide +kernel
theorem d_Og_become_22 : decode b_Og_become 22 = .ok (.putfield 23, 3) := by decide +kernel
theorem d_Og_become_25 : decode b_Og_become 25 = .ok (.aload_n 0, 1) := by decide +kernel
theorem d_Og_become_26 : decode b_Og_become 26 = .ok (.dup, 1) := by decide +kernel
theorem d_Og_become_27 : decode b_Og_become 27 = .ok (.getfield 26, 3) := by decide +kernel
theorem d_Og_become_30 : decode b_Og_become 30 = .ok (.iload_n 3, 1) := by decide +kernel
theorem d_Og_become_31 : decode b_Og_become 31 = .ok (.iadd, 1) := by decide +kernel
theorem d_Og_become_32 : decode b_Og_become 32 = .ok (.putfield 26, 3) := by decide +kernel
theorem d_Og_become_35 : decode b_Og_become 35 = .ok (.return_, 1) := by decide +kernel
theorem d_G_run_0 : decode b_G_run 0 = .ok (.iload_n 1, 1) := by decide +kernel
theorem d_G_run_1 : decode b_G_run 1 = .ok (.iconst 1, 1) := by decide +kernel
theorem d_G_run_2 : decode b_G_run 2 = .ok (.sipush 500, 3) := by decide +kernel
theorem d_G_run_5 : decode b_G_run 5 = .ok (.invokestatic 63, 3) := by decide +kernel
theorem d_G_run_8 : decode b_G_run 8 = .ok (.ifCond .ne 13, 3) := by decide +kernel
theorem d_G_run_11 : decode b_G_run 11 = .ok (.new 80, 3) := by decide +kernel
theorem d_G_run_14 : decode b_G_run 14 = .ok (.dup, 1) := by decide +kernel
theorem d_G_run_15 : decode b_G_run 15 = .ok (.ldc 164, 2) := by decide +kernel
theorem d_G_run_17 : decode b_G_run 17 = .ok (.invokespecial 84, 3) := by decide +kernel
theorem d_G_run_20 : decode b_G_run 20 = .ok (.athrow, 1) := by decide +kernel
theorem d_G_run_21 : decode b_G_run 21 = .ok (.aload_n 0, 1) := by decide +kernel
theorem d_G_run_22 : decode b_G_run 22 = .ok (.getfield 52, 3) := by decide +kernel
theorem d_G_run_25 : decode b_G_run 25 = .ok (.getfield 166, 3) := by decide +kernel
theorem d_G_run_28 : decode b_G_run 28 = .ok (.ifCond .ne 13, 3) := by decide +kernel
theorem d_G_run_31 : decode b_G_run 31 = .ok (.new 110, 3) := by decide +kernel
theorem d_G_run_34 : decode b_G_run 34 = .ok (.dup, 1) := by decide +kernel
theorem d_G_run_35 : decode b_G_run 35 = .ok (.ldc 169, 2) := by decide +kernel
theorem d_G_run_37 : decode b_G_run 37 = .ok (.invokespecial 114, 3) := by decide +kernel
theorem d_G_run_40 : decode b_G_run 40 = .ok (.athrow, 1) := by decide +kernel
theorem d_G_run_41 : decode b_G_run 41 = .ok (.iconst 0, 1) := by decide +kernel
theorem d_G_run_42 : decode b_G_run 42 = .ok (.istore_n 2, 1) := by decide +kernel
theorem d_G_run_43 : decode b_G_run 43 = .ok (.iconst 0, 1) := by decide +kernel
theorem d_G_run_44 : decode b_G_run 44 = .ok (.istore_n 3, 1) := by decide +kernel
theorem d_G_run_45 : decode b_G_run 45 = .ok (.iload_n 3, 1) := by decide +kernel
theorem d_G_run_46 : decode b_G_run 46 = .ok (.iload_n 1, 1) := by decide +kernel
theorem d_G_run_47 : decode b_G_run 47 = .ok (.if_icmp .ge 59, 3) := by decide +kernel
theorem d_G_run_50 : decode b_G_run 50 = .ok (.aload_n 0, 1) := by decide +kernel
theorem d_G_run_51 : decode b_G_run 51 = .ok (.aload_n 0, 1) := by decide +kernel
theorem d_G_run_52 : decode b_G_run 52 = .ok (.getfield 52, 3) := by decide +kernel
theorem d_G_run_55 : decode b_G_run 55 = .ok (.iconst 0, 1) := by decide +kernel
theorem d_G_run_56 : decode b_G_run 56 = .ok (.invokevirtual 171, 3) := by decide +kernel
theorem d_G_run_59 : decode b_G_run 59 = .ok (.aload_n 0, 1) := by decide +kernel
theorem d_G_run_60 : decode b_G_run 60 = .ok (.getfield 52, 3) := by decide +kernel
theorem d_G_run_63 : decode b_G_run 63 = .ok (.ldc 175, 2) := by decide +kernel
theorem d_G_run_65 : decode b_G_run 65 = .ok (.invokevirtual 171, 3) := by decide +kernel
theorem d_G_run_68 : decode b_G_run 68 = .ok (.aload_n 0, 1) := by decide +kernel
theorem d_G_run_69 : decode b_G_run 69 = .ok (.getfield 52, 3) := by decide +kernel
theorem d_G_run_72 : decode b_G_run 72 = .ok (.ldc 176, 2) := by decide +kernel
theorem d_G_run_74 : decode b_G_run 74 = .ok (.invokevirtual 171, 3) := by decide +kernel
theorem d_G_run_77 : decode b_G_run 77 = .ok (.invokevirtual 146, 3) := by decide +kernel
theorem d_G_run_80 : decode b_G_run 80 = .ok (.aload_n 0, 1) := by decide +kernel
theorem d_G_run_81 : decode b_G_run 81 = .ok (.getfield 52, 3) := by decide +kernel
theorem d_G_run_84 : decode b_G_run 84 = .ok (.invokevirtual 177, 3) := by decide +kernel
theorem d_G_run_87 : decode b_G_run 87 = .ok (.aload_n 0, 1) := by decide +kernel
theorem d_G_run_88 : decode b_G_run 88 = .ok (.getfield 38, 3) := by decide +kernel
theorem d_G_run_91 : decode b_G_run 91 = .ok (.getfield 118, 3) := by decide +kernel
theorem d_G_run_94 : decode b_G_run 94 = .ok (.ifCond .eq 6, 3) := by decide +kernel
theorem d_G_run_97 : decode b_G_run 97 = .ok (.iinc 2 1, 3) := by decide +kernel
theorem d_G_run_100 : decode b_G_run 100 = .ok (.iinc 3 1, 3) := by decide +kernel
theorem d_G_run_103 : decode b_G_run 103 = .ok (.goto (-58), 3) := by decide +kernel
theorem d_G_run_106 : decode b_G_run 106 = .ok (.iload_n 2, 1) := by decide +kernel
theorem d_G_run_107 : decode b_G_run 107 = .ok (.ireturn, 1) := by decide +kernel
theorem d_Og_phase_0 : decode b_Og_phase 0 = .ok (.aload_n 0, 1) := by decide +kernel
theorem d_Og_phase_1 : decode b_Og_phase 1 = .ok (.getfield 15, 3) := by decide +kernel
theorem d_Og_phase_4 : decode b_Og_phase 4 = .ok (.aload_n 0, 1) := by decide +kernel
theorem d_Og_phase_5 : decode b_Og_phase 5 = .ok (.getfield 26, 3) := by decide +kernel
theorem d_Og_phase_8 : decode b_Og_phase 8 = .ok (.iload_n 1, 1) := by decide +kernel
theorem d_Og_phase_9 : decode b_Og_phase 9 = .ok (.iadd, 1) := by decide +kernel
theorem d_Og_phase_10 : decode b_Og_phase 10 = .ok (.invokestatic 29, 3) := by decide +kernel
theorem d_Og_phase_13 : decode b_Og_phase 13 = .ok (.imul, 1) := by decide +kernel
theorem d_Og_phase_14 : decode b_Og_phase 14 = .ok (.sipush 16384, 3) := by decide +kernel
theorem d_Og_phase_17 : decode b_Og_phase 17 = .ok (.idiv, 1) := by decide +kernel
theorem d_Og_phase_18 : decode b_Og_phase 18 = .ok (.ireturn, 1) := by decide +kernel
theorem d_Og_turn_0 : decode b_Og_turn 0 = .ok (.aload_n 0, 1) := by decide +kernel
theorem d_Og_turn_1 : decode b_Og_turn 1 = .ok (.dup, 1) := by decide +kernel
theorem d_Og_turn_2 : decode b_Og_turn 2 = .ok (.getfield 26, 3) := by decide +kernel
theorem d_Og_turn_5 : decode b_Og_turn 5 = .ok (.aload_n 0, 1) := by decide +kernel
theorem d_Og_turn_6 : decode b_Og_turn 6 = .ok (.getfield 23, 3) := by decide +kernel
theorem d_Og_turn_9 : decode b_Og_turn 9 = .ok (.iadd, 1) := by decide +kernel
theorem d_Og_turn_10 : decode b_Og_turn 10 = .ok (.putfield 26, 3) := by decide +kernel
theorem d_Og_turn_13 : decode b_Og_turn 13 = .ok (.return_, 1) := by decide +kernel
theorem d_G_signal_0 : decode b_G_signal 0 = .ok (.iload_n 1, 1) := by decide +kernel
theorem d_G_signal_1 : decode b_G_signal 1 = .ok (.tableswitch 87 0 5 #[39, 47, 55, 63, 71, 79], 39) := by decide +kernel
theorem d_G_signal_40 : decode b_G_signal 40 = .ok (.aload_n 0, 1) := by decide +kernel
theorem d_G_signal_41 : decode b_G_signal 41 = .ok (.getfield 24, 3) := by decide +kernel
theorem d_G_signal_44 : decode b_G_signal 44 = .ok (.getfield 180, 3) := by decide +kernel
theorem d_G_signal_47 : decode b_G_signal 47 = .ok (.ireturn, 1) := by decide +kernel
theorem d_G_signal_48 : decode b_G_signal 48 = .ok (.aload_n 0, 1) := by decide +kernel
theorem d_G_signal_49 : decode b_G_signal 49 = .ok (.getfield 24, 3) := by decide +kernel
theorem d_G_signal_52 : decode b_G_signal 52 = .ok (.getfield 183, 3) := by decide +kernel
theorem d_G_signal_55 : decode b_G_signal 55 = .ok (.ireturn, 1) := by decide +kernel
theorem d_G_signal_56 : decode b_G_signal 56 = .ok (.aload_n 0, 1) := by decide +kernel
theorem d_G_signal_57 : decode b_G_signal 57 = .ok (.getfield 24, 3) := by decide +kernel
theorem d_G_signal_60 : decode b_G_signal 60 = .ok (.getfield 186, 3) := by decide +kernel
theorem d_G_signal_63 : decode b_G_signal 63 = .ok (.ireturn, 1) := by decide +kernel
theorem d_G_signal_64 : decode b_G_signal 64 = .ok (.aload_n 0, 1) := by decide +kernel
theorem d_G_signal_65 : decode b_G_signal 65 = .ok (.getfield 24, 3) := by decide +kernel
theorem d_G_signal_68 : decode b_G_signal 68 = .ok (.getfield 189, 3) := by decide +kernel
theorem d_G_signal_71 : decode b_G_signal 71 = .ok (.ireturn, 1) := by decide +kernel
theorem d_G_signal_72 : decode b_G_signal 72 = .ok (.aload_n 0, 1) := by decide +kernel
theorem d_G_signal_73 : decode b_G_signal 73 = .ok (.getfield 24, 3) := by decide +kernel
theorem d_G_signal_76 : decode b_G_signal 76 = .ok (.getfield 192, 3) := by decide +kernel
theorem d_G_signal_79 : decode b_G_signal 79 = .ok (.ireturn, 1) := by decide +kernel
theorem d_G_signal_80 : decode b_G_signal 80 = .ok (.aload_n 0, 1) := by decide +kernel
theorem d_G_signal_81 : decode b_G_signal 81 = .ok (.getfield 24, 3) := by decide +kernel
theorem d_G_signal_84 : decode b_G_signal 84 = .ok (.getfield 195, 3) := by decide +kernel
theorem d_G_signal_87 : decode b_G_signal 87 = .ok (.ireturn, 1) := by decide +kernel
theorem d_G_signal_88 : decode b_G_signal 88 = .ok (.new 67, 3) := by decide +kernel
theorem d_G_signal_91 : decode b_G_signal 91 = .ok (.dup, 1) := by decide +kernel
theorem d_G_signal_92 : decode b_G_signal 92 = .ok (.ldc 198, 2) := by decide +kernel
theorem d_G_signal_94 : decode b_G_signal 94 = .ok (.invokespecial 71, 3) := by decide +kernel
theorem d_G_signal_97 : decode b_G_signal 97 = .ok (.athrow, 1) := by decide +kernel
theorem d_G_state_0 : decode b_G_state 0 = .ok (.iload_n 1, 1) := by decide +kernel
theorem d_G_state_1 : decode b_G_state 1 = .ok (.tableswitch 168 0 11 #[63, 74, 85, 96, 107, 115, 123, 131, 139, 147, 155, 160], 63) := by decide +kernel
theorem d_G_state_64 : decode b_G_state 64 = .ok (.aload_n 0, 1) := by decide +kernel
theorem d_G_state_65 : decode b_G_state 65 = .ok (.getfield 38, 3) := by decide +kernel
theorem d_G_state_68 : decode b_G_state 68 = .ok (.getfield 118, 3) := by decide +kernel
theorem d_G_state_71 : decode b_G_state 71 = .ok (.invokestatic 200, 3) := by decide +kernel
theorem d_G_state_74 : decode b_G_state 74 = .ok (.ireturn, 1) := by decide +kernel
theorem d_G_state_75 : decode b_G_state 75 = .ok (.aload_n 0, 1) := by decide +kernel
theorem d_G_state_76 : decode b_G_state 76 = .ok (.getfield 38, 3) := by decide +kernel
theorem d_G_state_79 : decode b_G_state 79 = .ok (.getfield 129, 3) := by decide +kernel
theorem d_G_state_82 : decode b_G_state 82 = .ok (.invokestatic 200, 3) := by decide +kernel
theorem d_G_state_85 : decode b_G_state 85 = .ok (.ireturn, 1) := by decide +kernel
theorem d_G_state_86 : decode b_G_state 86 = .ok (.aload_n 0, 1) := by decide +kernel
theorem d_G_state_87 : decode b_G_state 87 = .ok (.getfield 38, 3) := by decide +kernel
theorem d_G_state_90 : decode b_G_state 90 = .ok (.getfield 115, 3) := by decide +kernel
theorem d_G_state_93 : decode b_G_state 93 = .ok (.invokestatic 200, 3) := by decide +kernel
theorem d_G_state_96 : decode b_G_state 96 = .ok (.ireturn, 1) := by decide +kernel
theorem d_G_state_97 : decode b_G_state 97 = .ok (.aload_n 0, 1) := by decide +kernel
theorem d_G_state_98 : decode b_G_state 98 = .ok (.getfield 38, 3) := by decide +kernel
theorem d_G_state_101 : decode b_G_state 101 = .ok (.getfield 107, 3) := by decide +kernel
theorem d_G_state_104 : decode b_G_state 104 = .ok (.invokestatic 200, 3) := by decide +kernel
theorem d_G_state_107 : decode b_G_state 107 = .ok (.ireturn, 1) := by decide +kernel
theorem d_G_state_108 : decode b_G_state 108 = .ok (.aload_n 0, 1) := by decide +kernel
theorem d_G_state_109 : decode b_G_state 109 = .ok (.getfield 88, 3) := by decide +kernel
theorem d_G_state_112 : decode b_G_state 112 = .ok (.invokestatic 200, 3) := by decide +kernel
theorem d_G_state_115 : decode b_G_state 115 = .ok (.ireturn, 1) := by decide +kernel
theorem d_G_state_116 : decode b_G_state 116 = .ok (.aload_n 0, 1) := by decide +kernel
theorem d_G_state_117 : decode b_G_state 117 = .ok (.getfield 38, 3) := by decide +kernel
theorem d_G_state_120 : decode b_G_state 120 = .ok (.getfield 204, 3) := by decide +kernel
theorem d_G_state_123 : decode b_G_state 123 = .ok (.ireturn, 1) := by decide +kernel
theorem d_G_state_124 : decode b_G_state 124 = .ok (.aload_n 0, 1) := by decide +kernel
theorem d_G_state_125 : decode b_G_state 125 = .ok (.getfield 38, 3) := by decide +kernel
theorem d_G_state_128 : decode b_G_state 128 = .ok (.getfield 207, 3) := by decide +kernel
theorem d_G_state_131 : decode b_G_state 131 = .ok (.ireturn, 1) := by decide +kernel
theorem d_G_state_132 : decode b_G_state 132 = .ok (.aload_n 0, 1) := by decide +kernel
theorem d_G_state_133 : decode b_G_state 133 = .ok (.getfield 45, 3) := by decide +kernel
theorem d_G_state_136 : decode b_G_state 136 = .ok (.getfield 210, 3) := by decide +kernel
theorem d_G_state_139 : decode b_G_state 139 = .ok (.ireturn, 1) := by decide +kernel
theorem d_G_state_140 : decode b_G_state 140 = .ok (.aload_n 0, 1) := by decide +kernel
theorem d_G_state_141 : decode b_G_state 141 = .ok (.getfield 45, 3) := by decide +kernel
theorem d_G_state_144 : decode b_G_state 144 = .ok (.getfield 151, 3) := by decide +kernel
theorem d_G_state_147 : decode b_G_state 147 = .ok (.ireturn, 1) := by decide +kernel
theorem d_G_state_148 : decode b_G_state 148 = .ok (.aload_n 0, 1) := by decide +kernel
theorem d_G_state_149 : decode b_G_state 149 = .ok (.getfield 45, 3) := by decide +kernel
theorem d_G_state_152 : decode b_G_state 152 = .ok (.getfield 154, 3) := by decide +kernel
theorem d_G_state_155 : decode b_G_state 155 = .ok (.ireturn, 1) := by decide +kernel
theorem d_G_state_156 : decode b_G_state 156 = .ok (.aload_n 0, 1) := by decide +kernel
theorem d_G_state_157 : decode b_G_state 157 = .ok (.getfield 121, 3) := by decide +kernel
theorem d_G_state_160 : decode b_G_state 160 = .ok (.ireturn, 1) := by decide +kernel
theorem d_G_state_161 : decode b_G_state 161 = .ok (.aload_n 0, 1) := by decide +kernel
theorem d_G_state_162 : decode b_G_state 162 = .ok (.getfield 59, 3) := by decide +kernel
theorem d_G_state_165 : decode b_G_state 165 = .ok (.getfield 213, 3) := by decide +kernel
theorem d_G_state_168 : decode b_G_state 168 = .ok (.ireturn, 1) := by decide +kernel
theorem d_G_state_169 : decode b_G_state 169 = .ok (.new 67, 3) := by decide +kernel
theorem d_G_state_172 : decode b_G_state 172 = .ok (.dup, 1) := by decide +kernel
theorem d_G_state_173 : decode b_G_state 173 = .ok (.ldc 216, 2) := by decide +kernel
theorem d_G_state_175 : decode b_G_state 175 = .ok (.invokespecial 71, 3) := by decide +kernel
theorem d_G_state_178 : decode b_G_state 178 = .ok (.athrow, 1) := by decide +kernel
theorem d_G_asNumber_0 : decode b_G_asNumber 0 = .ok (.iload_n 0, 1) := by decide +kernel
theorem d_G_asNumber_1 : decode b_G_asNumber 1 = .ok (.ifCond .eq 7, 3) := by decide +kernel
theorem d_G_asNumber_4 : decode b_G_asNumber 4 = .ok (.iconst 1, 1) := by decide +kernel
theorem d_G_asNumber_5 : decode b_G_asNumber 5 = .ok (.goto 4, 3) := by decide +kernel
theorem d_G_asNumber_8 : decode b_G_asNumber 8 = .ok (.iconst 0, 1) := by decide +kernel
theorem d_G_asNumber_9 : decode b_G_asNumber 9 = .ok (.ireturn, 1) := by decide +kernel
theorem d_G_count_0 : decode b_G_count 0 = .ok (.iload_n 1, 1) := by decide +kernel
theorem d_G_count_1 : decode b_G_count 1 = .ok (.iconst 0, 1) := by decide +kernel
theorem d_G_count_2 : decode b_G_count 2 = .ok (.iconst 5, 1) := by decide +kernel
theorem d_G_count_3 : decode b_G_count 3 = .ok (.invokestatic 63, 3) := by decide +kernel
theorem d_G_count_6 : decode b_G_count 6 = .ok (.ifCond .ne 13, 3) := by decide +kernel
theorem d_G_count_9 : decode b_G_count 9 = .ok (.new 67, 3) := by decide +kernel
theorem d_G_count_12 : decode b_G_count 12 = .ok (.dup, 1) := by decide +kernel
theorem d_G_count_13 : decode b_G_count 13 = .ok (.ldc 218, 2) := by decide +kernel
theorem d_G_count_15 : decode b_G_count 15 = .ok (.invokespecial 71, 3) := by decide +kernel
theorem d_G_count_18 : decode b_G_count 18 = .ok (.athrow, 1) := by decide +kernel
theorem d_G_count_19 : decode b_G_count 19 = .ok (.aload_n 0, 1) := by decide +kernel
theorem d_G_count_20 : decode b_G_count 20 = .ok (.getfield 31, 3) := by decide +kernel
theorem d_G_count_23 : decode b_G_count 23 = .ok (.getfield 92, 3) := by decide +kernel
theorem d_G_count_26 : decode b_G_count 26 = .ok (.iload_n 1, 1) := by decide +kernel
theorem d_G_count_27 : decode b_G_count 27 = .ok (.aaload, 1) := by decide +kernel
theorem d_G_count_28 : decode b_G_count 28 = .ok (.getfield 220, 3) := by decide +kernel
theorem d_G_count_31 : decode b_G_count 31 = .ok (.ireturn, 1) := by decide +kernel
theorem d_G_event_0 : decode b_G_event 0 = .ok (.aload_n 0, 1) := by decide +kernel
theorem d_G_event_1 : decode b_G_event 1 = .ok (.getfield 59, 3) := by decide +kernel
theorem d_G_event_4 : decode b_G_event 4 = .ok (.iload_n 1, 1) := by decide +kernel
theorem d_G_event_5 : decode b_G_event 5 = .ok (.invokevirtual 229, 3) := by decide +kernel
theorem d_G_event_8 : decode b_G_event 8 = .ok (.ifCond .eq 12, 3) := by decide +kernel
theorem d_G_event_11 : decode b_G_event 11 = .ok (.iload_n 2, 1) := by decide +kernel
theorem d_G_event_12 : decode b_G_event 12 = .ok (.iconst 0, 1) := by decide +kernel
theorem d_G_event_13 : decode b_G_event 13 = .ok (.iconst 1, 1) := by decide +kernel
theorem d_G_event_14 : decode b_G_event 14 = .ok (.invokestatic 63, 3) := by decide +kernel
theorem d_G_event_17 : decode b_G_event 17 = .ok (.ifCond .ne 13, 3) := by decide +kernel
theorem d_G_event_20 : decode b_G_event 20 = .ok (.new 67, 3) := by decide +kernel
theorem d_G_event_23 : decode b_G_event 23 = .ok (.dup, 1) := by decide +kernel
theorem d_G_event_24 : decode b_G_event 24 = .ok (.ldc 232, 2) := by decide +kernel
theorem d_G_event_26 : decode b_G_event 26 = .ok (.invokespecial 71, 3) := by decide +kernel
theorem d_G_event_29 : decode b_G_event 29 = .ok (.athrow, 1) := by decide +kernel
theorem d_G_event_30 : decode b_G_event 30 = .ok (.iload_n 2, 1) := by decide +kernel
theorem d_G_event_31 : decode b_G_event 31 = .ok (.ifCond .ne 14, 3) := by decide +kernel
theorem d_G_event_34 : decode b_G_event 34 = .ok (.aload_n 0, 1) := by decide +kernel
theorem d_G_event_35 : decode b_G_event 35 = .ok (.getfield 59, 3) := by decide +kernel
theorem d_G_event_38 : decode b_G_event 38 = .ok (.iload_n 1, 1) := by decide +kernel
theorem d_G_event_39 : decode b_G_event 39 = .ok (.invokevirtual 234, 3) := by decide +kernel
theorem d_G_event_42 : decode b_G_event 42 = .ok (.goto 11, 3) := by decide +kernel
theorem d_G_event_45 : decode b_G_event 45 = .ok (.aload_n 0, 1) := by decide +kernel
theorem d_G_event_46 : decode b_G_event 46 = .ok (.getfield 59, 3) := by decide +kernel
theorem d_G_event_49 : decode b_G_event 49 = .ok (.iload_n 1, 1) := by decide +kernel
theorem d_G_event_50 : decode b_G_event 50 = .ok (.invokevirtual 237, 3) := by decide +kernel
theorem d_G_event_53 : decode b_G_event 53 = .ok (.ireturn, 1) := by decide +kernel
theorem d_Ev_has_0 : decode b_Ev_has 0 = .ok (.iload_n 1, 1) := by decide +kernel
theorem d_Ev_has_1 : decode b_Ev_has 1 = .ok (.iconst 0, 1) := by decide +kernel
theorem d_Ev_has_2 : decode b_Ev_has 2 = .ok (.aload_n 0, 1) := by decide +kernel
theorem d_Ev_has_3 : decode b_Ev_has 3 = .ok (.getfield 16, 3) := by decide +kernel
theorem d_Ev_has_6 : decode b_Ev_has 6 = .ok (.bipush 16, 2) := by decide +kernel
theorem d_Ev_has_8 : decode b_Ev_has 8 = .ok (.invokestatic 24, 3) := by decide +kernel
theorem d_Ev_has_11 : decode b_Ev_has 11 = .ok (.iconst 1, 1) := by decide +kernel
theorem d_Ev_has_12 : decode b_Ev_has 12 = .ok (.isub, 1) := by decide +kernel
theorem d_Ev_has_13 : decode b_Ev_has 13 = .ok (.invokestatic 30, 3) := by decide +kernel
theorem d_Ev_has_16 : decode b_Ev_has 16 = .ok (.ireturn, 1) := by decide +kernel
theorem d_Ev_numberOf_0 : decode b_Ev_numberOf 0 = .ok (.aload_n 0, 1) := by decide +kernel
theorem d_Ev_numberOf_1 : decode b_Ev_numberOf 1 = .ok (.getfield 9, 3) := by decide +kernel
theorem d_Ev_numberOf_4 : decode b_Ev_numberOf 4 = .ok (.aload_n 0, 1) := by decide +kernel
theorem d_Ev_numberOf_5 : decode b_Ev_numberOf 5 = .ok (.getfield 16, 3) := by decide +kernel
theorem d_Ev_numberOf_8 : decode b_Ev_numberOf 8 = .ok (.iconst 1, 1) := by decide +kernel
theorem d_Ev_numberOf_9 : decode b_Ev_numberOf 9 = .ok (.isub, 1) := by decide +kernel
theorem d_Ev_numberOf_10 : decode b_Ev_numberOf 10 = .ok (.iload_n 1, 1) := by decide +kernel
theorem d_Ev_numberOf_11 : decode b_Ev_numberOf 11 = .ok (.isub, 1) := by decide +kernel
theorem d_Ev_numberOf_12 : decode b_Ev_numberOf 12 = .ok (.invokestatic 20, 3) := by decide +kernel
theorem d_Ev_numberOf_15 : decode b_Ev_numberOf 15 = .ok (.iaload, 1) := by decide +kernel
theorem d_Ev_numberOf_16 : decode b_Ev_numberOf 16 = .ok (.ireturn, 1) := by decide +kernel
theorem d_Ev_stepsAt_0 : decode b_Ev_stepsAt 0 = .ok (.aload_n 0, 1) := by decide +kernel
theorem d_Ev_stepsAt_1 : decode b_Ev_stepsAt 1 = .ok (.getfield 13, 3) := by decide +kernel
theorem d_Ev_stepsAt_4 : decode b_Ev_stepsAt 4 = .ok (.aload_n 0, 1) := by decide +kernel
theorem d_Ev_stepsAt_5 : decode b_Ev_stepsAt 5 = .ok (.getfield 16, 3) := by decide +kernel
theorem d_Ev_stepsAt_8 : decode b_Ev_stepsAt 8 = .ok (.iconst 1, 1) := by decide +kernel
theorem d_Ev_stepsAt_9 : decode b_Ev_stepsAt 9 = .ok (.isub, 1) := by decide +kernel
theorem d_Ev_stepsAt_10 : decode b_Ev_stepsAt 10 = .ok (.iload_n 1, 1) := by decide +kernel
theorem d_Ev_stepsAt_11 : decode b_Ev_stepsAt 11 = .ok (.isub, 1) := by decide +kernel
theorem d_Ev_stepsAt_12 : decode b_Ev_stepsAt 12 = .ok (.invokestatic 20, 3) := by decide +kernel
theorem d_Ev_stepsAt_15 : decode b_Ev_stepsAt 15 = .ok (.iaload, 1) := by decide +kernel
theorem d_Ev_stepsAt_16 : decode b_Ev_stepsAt 16 = .ok (.ireturn, 1) := by decide +kernel
