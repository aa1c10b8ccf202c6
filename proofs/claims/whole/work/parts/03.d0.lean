theorem dX0_init_0 : decode cX0_init 0 = .ok (.aload_n 0, 1) := by decide +kernel
theorem dX0_init_1 : decode cX0_init 1 = .ok (.invokespecial 3, 3) := by decide +kernel
theorem dX0_init_4 : decode cX0_init 4 = .ok (.aload_n 0, 1) := by decide +kernel
theorem dX0_init_5 : decode cX0_init 5 = .ok (.iconst 3, 1) := by decide +kernel
theorem dX0_init_6 : decode cX0_init 6 = .ok (.newarray .int, 2) := by decide +kernel
theorem dX0_init_8 : decode cX0_init 8 = .ok (.putfield 9, 3) := by decide +kernel
theorem dX0_init_11 : decode cX0_init 11 = .ok (.return_, 1) := by decide +kernel
theorem dX0_add_0 : decode cX0_add 0 = .ok (.aload_n 0, 1) := by decide +kernel
theorem dX0_add_1 : decode cX0_add 1 = .ok (.dup, 1) := by decide +kernel
theorem dX0_add_2 : decode cX0_add 2 = .ok (.getfield 15, 3) := by decide +kernel
theorem dX0_add_5 : decode cX0_add 5 = .ok (.aload_n 1, 1) := by decide +kernel
theorem dX0_add_6 : decode cX0_add 6 = .ok (.getfield 19, 3) := by decide +kernel
theorem dX0_add_9 : decode cX0_add 9 = .ok (.i2l, 1) := by decide +kernel
theorem dX0_add_10 : decode cX0_add 10 = .ok (.ladd, 1) := by decide +kernel
theorem dX0_add_11 : decode cX0_add 11 = .ok (.putfield 15, 3) := by decide +kernel
theorem dX0_add_14 : decode cX0_add 14 = .ok (.aload_n 0, 1) := by decide +kernel
theorem dX0_add_15 : decode cX0_add 15 = .ok (.dup, 1) := by decide +kernel
theorem dX0_add_16 : decode cX0_add 16 = .ok (.getfield 24, 3) := by decide +kernel
theorem dX0_add_19 : decode cX0_add 19 = .ok (.aload_n 1, 1) := by decide +kernel
theorem dX0_add_20 : decode cX0_add 20 = .ok (.getfield 27, 3) := by decide +kernel
theorem dX0_add_23 : decode cX0_add 23 = .ok (.i2l, 1) := by decide +kernel
theorem dX0_add_24 : decode cX0_add 24 = .ok (.ladd, 1) := by decide +kernel
theorem dX0_add_25 : decode cX0_add 25 = .ok (.putfield 24, 3) := by decide +kernel
theorem dX0_add_28 : decode cX0_add 28 = .ok (.aload_n 0, 1) := by decide +kernel
theorem dX0_add_29 : decode cX0_add 29 = .ok (.dup, 1) := by decide +kernel
theorem dX0_add_30 : decode cX0_add 30 = .ok (.getfield 29, 3) := by decide +kernel
theorem dX0_add_33 : decode cX0_add 33 = .ok (.aload_n 1, 1) := by decide +kernel
theorem dX0_add_34 : decode cX0_add 34 = .ok (.getfield 32, 3) := by decide +kernel
theorem dX0_add_37 : decode cX0_add 37 = .ok (.i2l, 1) := by decide +kernel
theorem dX0_add_38 : decode cX0_add 38 = .ok (.ladd, 1) := by decide +kernel
theorem dX0_add_39 : decode cX0_add 39 = .ok (.putfield 29, 3) := by decide +kernel
theorem dX0_add_42 : decode cX0_add 42 = .ok (.aload_n 0, 1) := by decide +kernel
theorem dX0_add_43 : decode cX0_add 43 = .ok (.dup, 1) := by decide +kernel
theorem dX0_add_44 : decode cX0_add 44 = .ok (.getfield 34, 3) := by decide +kernel
theorem dX0_add_47 : decode cX0_add 47 = .ok (.aload_n 1, 1) := by decide +kernel
theorem dX0_add_48 : decode cX0_add 48 = .ok (.getfield 37, 3) := by decide +kernel
theorem dX0_add_51 : decode cX0_add 51 = .ok (.i2l, 1) := by decide +kernel
theorem dX0_add_52 : decode cX0_add 52 = .ok (.ladd, 1) := by decide +kernel
theorem dX0_add_53 : decode cX0_add 53 = .ok (.putfield 34, 3) := by decide +kernel
theorem dX0_add_56 : decode cX0_add 56 = .ok (.aload_n 0, 1) := by decide +kernel
theorem dX0_add_57 : decode cX0_add 57 = .ok (.dup, 1) := by decide +kernel
theorem dX0_add_58 : decode cX0_add 58 = .ok (.getfield 39, 3) := by decide +kernel
theorem dX0_add_61 : decode cX0_add 61 = .ok (.aload_n 1, 1) := by decide +kernel
theorem dX0_add_62 : decode cX0_add 62 = .ok (.getfield 42, 3) := by decide +kernel
theorem dX0_add_65 : decode cX0_add 65 = .ok (.i2l, 1) := by decide +kernel
theorem dX0_add_66 : decode cX0_add 66 = .ok (.ladd, 1) := by decide +kernel
theorem dX0_add_67 : decode cX0_add 67 = .ok (.putfield 39, 3) := by decide +kernel
theorem dX0_add_70 : decode cX0_add 70 = .ok (.aload_n 0, 1) := by decide +kernel
theorem dX0_add_71 : decode cX0_add 71 = .ok (.dup, 1) := by decide +kernel
theorem dX0_add_72 : decode cX0_add 72 = .ok (.getfield 44, 3) := by decide +kernel
theorem dX0_add_75 : decode cX0_add 75 = .ok (.aload_n 1, 1) := by decide +kernel
theorem dX0_add_76 : decode cX0_add 76 = .ok (.getfield 47, 3) := by decide +kernel
theorem dX0_add_79 : decode cX0_add 79 = .ok (.i2l, 1) := by decide +kernel
theorem dX0_add_80 : decode cX0_add 80 = .ok (.ladd, 1) := by decide +kernel
theorem dX0_add_81 : decode cX0_add 81 = .ok (.putfield 44, 3) := by decide +kernel
theorem dX0_add_84 : decode cX0_add 84 = .ok (.aload_n 0, 1) := by decide +kernel
theorem dX0_add_85 : decode cX0_add 85 = .ok (.dup, 1) := by decide +kernel
theorem dX0_add_86 : decode cX0_add 86 = .ok (.getfield 49, 3) := by decide +kernel
theorem dX0_add_89 : decode cX0_add 89 = .ok (.aload_n 1, 1) := by decide +kernel
theorem dX0_add_90 : decode cX0_add 90 = .ok (.getfield 52, 3) := by decide +kernel
theorem dX0_add_93 : decode cX0_add 93 = .ok (.i2l, 1) := by decide +kernel
theorem dX0_add_94 : decode cX0_add 94 = .ok (.ladd, 1) := by decide +kernel
theorem dX0_add_95 : decode cX0_add 95 = .ok (.putfield 49, 3) := by decide +kernel
theorem dX0_add_98 : decode cX0_add 98 = .ok (.iconst 0, 1) := by decide +kernel
theorem dX0_add_99 : decode cX0_add 99 = .ok (.istore_n 2, 1) := by decide +kernel
theorem dX0_add_100 : decode cX0_add 100 = .ok (.iload_n 2, 1) := by decide +kernel
theorem dX0_add_101 : decode cX0_add 101 = .ok (.iconst 3, 1) := by decide +kernel
theorem dX0_add_102 : decode cX0_add 102 = .ok (.if_icmp .ge 24, 3) := by decide +kernel
theorem dX0_add_105 : decode cX0_add 105 = .ok (.aload_n 0, 1) := by decide +kernel
theorem dX0_add_106 : decode cX0_add 106 = .ok (.getfield 9, 3) := by decide +kernel
theorem dX0_add_109 : decode cX0_add 109 = .ok (.iload_n 2, 1) := by decide +kernel
theorem dX0_add_110 : decode cX0_add 110 = .ok (.dup2, 1) := by decide +kernel
theorem dX0_add_111 : decode cX0_add 111 = .ok (.iaload, 1) := by decide +kernel
theorem dX0_add_112 : decode cX0_add 112 = .ok (.aload_n 1, 1) := by decide +kernel
theorem dX0_add_113 : decode cX0_add 113 = .ok (.getfield 54, 3) := by decide +kernel
theorem dX0_add_116 : decode cX0_add 116 = .ok (.iload_n 2, 1) := by decide +kernel
theorem dX0_add_117 : decode cX0_add 117 = .ok (.iaload, 1) := by decide +kernel
theorem dX0_add_118 : decode cX0_add 118 = .ok (.iadd, 1) := by decide +kernel
theorem dX0_add_119 : decode cX0_add 119 = .ok (.iastore, 1) := by decide +kernel
theorem dX0_add_120 : decode cX0_add 120 = .ok (.iinc 2 1, 3) := by decide +kernel
theorem dX0_add_123 : decode cX0_add 123 = .ok (.goto (-23), 3) := by decide +kernel
theorem dX0_add_126 : decode cX0_add 126 = .ok (.return_, 1) := by decide +kernel
theorem dX1_init_0 : decode cX1_init 0 = .ok (.aload_n 0, 1) := by decide +kernel
theorem dX1_init_1 : decode cX1_init 1 = .ok (.invokespecial 3, 3) := by decide +kernel
theorem dX1_init_4 : decode cX1_init 4 = .ok (.aload_n 0, 1) := by decide +kernel
theorem dX1_init_5 : decode cX1_init 5 = .ok (.bipush 6, 2) := by decide +kernel
theorem dX1_init_7 : decode cX1_init 7 = .ok (.newarray .int, 2) := by decide +kernel
theorem dX1_init_9 : decode cX1_init 9 = .ok (.putfield 9, 3) := by decide +kernel
theorem dX1_init_12 : decode cX1_init 12 = .ok (.aload_n 0, 1) := by decide +kernel
theorem dX1_init_13 : decode cX1_init 13 = .ok (.bipush 6, 2) := by decide +kernel
theorem dX1_init_15 : decode cX1_init 15 = .ok (.newarray .int, 2) := by decide +kernel
theorem dX1_init_17 : decode cX1_init 17 = .ok (.putfield 15, 3) := by decide +kernel
theorem dX1_init_20 : decode cX1_init 20 = .ok (.return_, 1) := by decide +kernel
theorem dX1_told_0 : decode cX1_told 0 = .ok (.aload_n 0, 1) := by decide +kernel
theorem dX1_told_1 : decode cX1_told 1 = .ok (.iload_n 1, 1) := by decide +kernel
theorem dX1_told_2 : decode cX1_told 2 = .ok (.invokevirtual 18, 3) := by decide +kernel
theorem dX1_told_5 : decode cX1_told 5 = .ok (.istore_n 2, 1) := by decide +kernel
theorem dX1_told_6 : decode cX1_told 6 = .ok (.iload_n 2, 1) := by decide +kernel
theorem dX1_told_7 : decode cX1_told 7 = .ok (.ifCond .ge 7, 3) := by decide +kernel
theorem dX1_told_10 : decode cX1_told 10 = .ok (.iconst (-1), 1) := by decide +kernel
theorem dX1_told_11 : decode cX1_told 11 = .ok (.goto 9, 3) := by decide +kernel
theorem dX1_told_14 : decode cX1_told 14 = .ok (.aload_n 0, 1) := by decide +kernel
theorem dX1_told_15 : decode cX1_told 15 = .ok (.getfield 15, 3) := by decide +kernel
theorem dX1_told_18 : decode cX1_told 18 = .ok (.iload_n 2, 1) := by decide +kernel
theorem dX1_told_19 : decode cX1_told 19 = .ok (.iaload, 1) := by decide +kernel
theorem dX1_told_20 : decode cX1_told 20 = .ok (.ireturn, 1) := by decide +kernel
theorem dX1_put_0 : decode cX1_put 0 = .ok (.aload_n 0, 1) := by decide +kernel
theorem dX1_put_1 : decode cX1_put 1 = .ok (.iload_n 1, 1) := by decide +kernel
theorem dX1_put_2 : decode cX1_put 2 = .ok (.invokevirtual 18, 3) := by decide +kernel
theorem dX1_put_5 : decode cX1_put 5 = .ok (.istore_n 3, 1) := by decide +kernel
theorem dX1_put_6 : decode cX1_put 6 = .ok (.iload_n 3, 1) := by decide +kernel
theorem dX1_put_7 : decode cX1_put 7 = .ok (.ifCond .ge 35, 3) := by decide +kernel
theorem dX1_put_10 : decode cX1_put 10 = .ok (.aload_n 0, 1) := by decide +kernel
theorem dX1_put_11 : decode cX1_put 11 = .ok (.getfield 22, 3) := by decide +kernel
theorem dX1_put_14 : decode cX1_put 14 = .ok (.bipush 6, 2) := by decide +kernel
theorem dX1_put_16 : decode cX1_put 16 = .ok (.if_icmp .lt 4, 3) := by decide +kernel
theorem dX1_put_19 : decode cX1_put 19 = .ok (.return_, 1) := by decide +kernel
theorem dX1_put_20 : decode cX1_put 20 = .ok (.aload_n 0, 1) := by decide +kernel
theorem dX1_put_21 : decode cX1_put 21 = .ok (.getfield 22, 3) := by decide +kernel
theorem dX1_put_24 : decode cX1_put 24 = .ok (.istore_n 3, 1) := by decide +kernel
theorem dX1_put_25 : decode cX1_put 25 = .ok (.aload_n 0, 1) := by decide +kernel
theorem dX1_put_26 : decode cX1_put 26 = .ok (.getfield 9, 3) := by decide +kernel
theorem dX1_put_29 : decode cX1_put 29 = .ok (.iload_n 3, 1) := by decide +kernel
theorem dX1_put_30 : decode cX1_put 30 = .ok (.iload_n 1, 1) := by decide +kernel
theorem dX1_put_31 : decode cX1_put 31 = .ok (.iastore, 1) := by decide +kernel
theorem dX1_put_32 : decode cX1_put 32 = .ok (.aload_n 0, 1) := by decide +kernel
theorem dX1_put_33 : decode cX1_put 33 = .ok (.dup, 1) := by decide +kernel
theorem dX1_put_34 : decode cX1_put 34 = .ok (.getfield 22, 3) := by decide +kernel
theorem dX1_put_37 : decode cX1_put 37 = .ok (.iconst 1, 1) := by decide +kernel
theorem dX1_put_38 : decode cX1_put 38 = .ok (.iadd, 1) := by decide +kernel
theorem dX1_put_39 : decode cX1_put 39 = .ok (.putfield 22, 3) := by decide +kernel
theorem dX1_put_42 : decode cX1_put 42 = .ok (.aload_n 0, 1) := by decide +kernel
theorem dX1_put_43 : decode cX1_put 43 = .ok (.getfield 15, 3) := by decide +kernel
theorem dX1_put_46 : decode cX1_put 46 = .ok (.iload_n 3, 1) := by decide +kernel
theorem dX1_put_47 : decode cX1_put 47 = .ok (.iload_n 2, 1) := by decide +kernel
theorem dX1_put_48 : decode cX1_put 48 = .ok (.iastore, 1) := by decide +kernel
theorem dX1_put_49 : decode cX1_put 49 = .ok (.return_, 1) := by decide +kernel
theorem dX1_forget_0 : decode cX1_forget 0 = .ok (.aload_n 0, 1) := by decide +kernel
theorem dX1_forget_1 : decode cX1_forget 1 = .ok (.iload_n 1, 1) := by decide +kernel
theorem dX1_forget_2 : decode cX1_forget 2 = .ok (.invokevirtual 18, 3) := by decide +kernel
theorem dX1_forget_5 : decode cX1_forget 5 = .ok (.istore_n 2, 1) := by decide +kernel
theorem dX1_forget_6 : decode cX1_forget 6 = .ok (.iload_n 2, 1) := by decide +kernel
theorem dX1_forget_7 : decode cX1_forget 7 = .ok (.ifCond .lt 43, 3) := by decide +kernel
theorem dX1_forget_10 : decode cX1_forget 10 = .ok (.aload_n 0, 1) := by decide +kernel
theorem dX1_forget_11 : decode cX1_forget 11 = .ok (.dup, 1) := by decide +kernel
theorem dX1_forget_12 : decode cX1_forget 12 = .ok (.getfield 22, 3) := by decide +kernel
theorem dX1_forget_15 : decode cX1_forget 15 = .ok (.iconst 1, 1) := by decide +kernel
theorem dX1_forget_16 : decode cX1_forget 16 = .ok (.isub, 1) := by decide +kernel
theorem dX1_forget_17 : decode cX1_forget 17 = .ok (.putfield 22, 3) := by decide +kernel
theorem dX1_forget_20 : decode cX1_forget 20 = .ok (.aload_n 0, 1) := by decide +kernel
theorem dX1_forget_21 : decode cX1_forget 21 = .ok (.getfield 9, 3) := by decide +kernel
theorem dX1_forget_24 : decode cX1_forget 24 = .ok (.iload_n 2, 1) := by decide +kernel
theorem dX1_forget_25 : decode cX1_forget 25 = .ok (.aload_n 0, 1) := by decide +kernel
theorem dX1_forget_26 : decode cX1_forget 26 = .ok (.getfield 9, 3) := by decide +kernel
theorem dX1_forget_29 : decode cX1_forget 29 = .ok (.aload_n 0, 1) := by decide +kernel
theorem dX1_forget_30 : decode cX1_forget 30 = .ok (.getfield 22, 3) := by decide +kernel
theorem dX1_forget_33 : decode cX1_forget 33 = .ok (.iaload, 1) := by decide +kernel
theorem dX1_forget_34 : decode cX1_forget 34 = .ok (.iastore, 1) := by decide +kernel
theorem dX1_forget_35 : decode cX1_forget 35 = .ok (.aload_n 0, 1) := by decide +kernel
theorem dX1_forget_36 : decode cX1_forget 36 = .ok (.getfield 15, 3) := by decide +kernel
theorem dX1_forget_39 : decode cX1_forget 39 = .ok (.iload_n 2, 1) := by decide +kernel
theorem dX1_forget_40 : decode cX1_forget 40 = .ok (.aload_n 0, 1) := by decide +kernel
theorem dX1_forget_41 : decode cX1_forget 41 = .ok (.getfield 15, 3) := by decide +kernel
theorem dX1_forget_44 : decode cX1_forget 44 = .ok (.aload_n 0, 1) := by decide +kernel
theorem dX1_forget_45 : decode cX1_forget 45 = .ok (.getfield 22, 3) := by decide +kernel
theorem dX1_forget_48 : decode cX1_forget 48 = .ok (.iaload, 1) := by decide +kernel
theorem dX1_forget_49 : decode cX1_forget 49 = .ok (.iastore, 1) := by decide +kernel
theorem dX1_forget_50 : decode cX1_forget 50 = .ok (.return_, 1) := by decide +kernel
theorem dX1_find_0 : decode cX1_find 0 = .ok (.iconst 0, 1) := by decide +kernel
theorem dX1_find_1 : decode cX1_find 1 = .ok (.istore_n 2, 1) := by decide +kernel
theorem dX1_find_2 : decode cX1_find 2 = .ok (.iload_n 2, 1) := by decide +kernel
theorem dX1_find_3 : decode cX1_find 3 = .ok (.aload_n 0, 1) := by decide +kernel
theorem dX1_find_4 : decode cX1_find 4 = .ok (.getfield 22, 3) := by decide +kernel
theorem dX1_find_7 : decode cX1_find 7 = .ok (.if_icmp .ge 21, 3) := by decide +kernel
theorem dX1_find_10 : decode cX1_find 10 = .ok (.aload_n 0, 1) := by decide +kernel
theorem dX1_find_11 : decode cX1_find 11 = .ok (.getfield 9, 3) := by decide +kernel
theorem dX1_find_14 : decode cX1_find 14 = .ok (.iload_n 2, 1) := by decide +kernel
theorem dX1_find_15 : decode cX1_find 15 = .ok (.iaload, 1) := by decide +kernel
theorem dX1_find_16 : decode cX1_find 16 = .ok (.iload_n 1, 1) := by decide +kernel
theorem dX1_find_17 : decode cX1_find 17 = .ok (.if_icmp .ne 5, 3) := by decide +kernel
theorem dX1_find_20 : decode cX1_find 20 = .ok (.iload_n 2, 1) := by decide +kernel
theorem dX1_find_21 : decode cX1_find 21 = .ok (.ireturn, 1) := by decide +kernel
theorem dX1_find_22 : decode cX1_find 22 = .ok (.iinc 2 1, 3) := by decide +kernel
theorem dX1_find_25 : decode cX1_find 25 = .ok (.goto (-23), 3) := by decide +kernel
theorem dX1_find_28 : decode cX1_find 28 = .ok (.iconst (-1), 1) := by decide +kernel
theorem dX1_find_29 : decode cX1_find 29 = .ok (.ireturn, 1) := by decide +kernel
theorem dX2_init_0 : decode cX2_init 0 = .ok (.aload_n 0, 1) := by decide +kernel
theorem dX2_init_1 : decode cX2_init 1 = .ok (.invokespecial 3, 3) := by decide +kernel
theorem dX2_init_4 : decode cX2_init 4 = .ok (.aload_n 0, 1) := by decide +kernel
theorem dX2_init_5 : decode cX2_init 5 = .ok (.bipush 7, 2) := by decide +kernel
theorem dX2_init_7 : decode cX2_init 7 = .ok (.anewarray 9, 3) := by decide +kernel
theorem dX2_init_10 : decode cX2_init 10 = .ok (.putfield 11, 3) := by decide +kernel
theorem dX2_init_13 : decode cX2_init 13 = .ok (.aload_n 0, 1) := by decide +kernel
theorem dX2_init_14 : decode cX2_init 14 = .ok (.bipush 6, 2) := by decide +kernel
theorem dX2_init_16 : decode cX2_init 16 = .ok (.newarray .int, 2) := by decide +kernel
theorem dX2_init_18 : decode cX2_init 18 = .ok (.putfield 17, 3) := by decide +kernel
theorem dX2_init_21 : decode cX2_init 21 = .ok (.aload_n 0, 1) := by decide +kernel
theorem dX2_init_22 : decode cX2_init 22 = .ok (.bipush 6, 2) := by decide +kernel
theorem dX2_init_24 : decode cX2_init 24 = .ok (.newarray .int, 2) := by decide +kernel
theorem dX2_init_26 : decode cX2_init 26 = .ok (.putfield 21, 3) := by decide +kernel
theorem dX2_init_29 : decode cX2_init 29 = .ok (.aload_n 0, 1) := by decide +kernel
theorem dX2_init_30 : decode cX2_init 30 = .ok (.aload_n 1, 1) := by decide +kernel
theorem dX2_init_31 : decode cX2_init 31 = .ok (.putfield 24, 3) := by decide +kernel
theorem dX2_init_34 : decode cX2_init 34 = .ok (.aload_n 0, 1) := by decide +kernel
theorem dX2_init_35 : decode cX2_init 35 = .ok (.aload_n 2, 1) := by decide +kernel
theorem dX2_init_36 : decode cX2_init 36 = .ok (.putfield 28, 3) := by decide +kernel
theorem dX2_init_39 : decode cX2_init 39 = .ok (.iconst 0, 1) := by decide +kernel
theorem dX2_init_40 : decode cX2_init 40 = .ok (.istore_n 3, 1) := by decide +kernel
theorem dX2_init_41 : decode cX2_init 41 = .ok (.iload_n 3, 1) := by decide +kernel
theorem dX2_init_42 : decode cX2_init 42 = .ok (.bipush 6, 2) := by decide +kernel
theorem dX2_init_44 : decode cX2_init 44 = .ok (.if_icmp .gt 22, 3) := by decide +kernel
theorem dX2_init_47 : decode cX2_init 47 = .ok (.aload_n 0, 1) := by decide +kernel
theorem dX2_init_48 : decode cX2_init 48 = .ok (.getfield 11, 3) := by decide +kernel
theorem dX2_init_51 : decode cX2_init 51 = .ok (.iload_n 3, 1) := by decide +kernel
theorem dX2_init_52 : decode cX2_init 52 = .ok (.new 9, 3) := by decide +kernel
theorem dX2_init_55 : decode cX2_init 55 = .ok (.dup, 1) := by decide +kernel
theorem dX2_init_56 : decode cX2_init 56 = .ok (.invokespecial 32, 3) := by decide +kernel
theorem dX2_init_59 : decode cX2_init 59 = .ok (.aastore, 1) := by decide +kernel
theorem dX2_init_60 : decode cX2_init 60 = .ok (.iinc 3 1, 3) := by decide +kernel
theorem dX2_init_63 : decode cX2_init 63 = .ok (.goto (-22), 3) := by decide +kernel
theorem dX2_init_66 : decode cX2_init 66 = .ok (.return_, 1) := by decide +kernel
theorem dX2_begin_0 : decode cX2_begin 0 = .ok (.aload_n 0, 1) := by decide +kernel
theorem dX2_begin_1 : decode cX2_begin 1 = .ok (.getfield 11, 3) := by decide +kernel
theorem dX2_begin_4 : decode cX2_begin 4 = .ok (.iconst 0, 1) := by decide +kernel
theorem dX2_begin_5 : decode cX2_begin 5 = .ok (.aaload, 1) := by decide +kernel
theorem dX2_begin_6 : decode cX2_begin 6 = .ok (.aload_n 1, 1) := by decide +kernel
theorem dX2_begin_7 : decode cX2_begin 7 = .ok (.invokevirtual 33, 3) := by decide +kernel
theorem dX2_begin_10 : decode cX2_begin 10 = .ok (.aload_n 0, 1) := by decide +kernel
theorem dX2_begin_11 : decode cX2_begin 11 = .ok (.iload_n 3, 1) := by decide +kernel
theorem dX2_begin_12 : decode cX2_begin 12 = .ok (.bipush 6, 2) := by decide +kernel
theorem dX2_begin_14 : decode cX2_begin 14 = .ok (.invokestatic 37, 3) := by decide +kernel
theorem dX2_begin_17 : decode cX2_begin 17 = .ok (.putfield 43, 3) := by decide +kernel
theorem dX2_begin_20 : decode cX2_begin 20 = .ok (.iconst 0, 1) := by decide +kernel
theorem dX2_begin_21 : decode cX2_begin 21 = .ok (.istore 4, 2) := by decide +kernel
theorem dX2_begin_23 : decode cX2_begin 23 = .ok (.iload 4, 2) := by decide +kernel
theorem dX2_begin_25 : decode cX2_begin 25 = .ok (.aload_n 0, 1) := by decide +kernel
theorem dX2_begin_26 : decode cX2_begin 26 = .ok (.getfield 43, 3) := by decide +kernel
theorem dX2_begin_29 : decode cX2_begin 29 = .ok (.if_icmp .ge 41, 3) := by decide +kernel
theorem dX2_begin_32 : decode cX2_begin 32 = .ok (.aload_n 0, 1) := by decide +kernel
theorem dX2_begin_33 : decode cX2_begin 33 = .ok (.getfield 17, 3) := by decide +kernel
theorem dX2_begin_36 : decode cX2_begin 36 = .ok (.iload 4, 2) := by decide +kernel
theorem dX2_begin_38 : decode cX2_begin 38 = .ok (.aload_n 0, 1) := by decide +kernel
theorem dX2_begin_39 : decode cX2_begin 39 = .ok (.getfield 28, 3) := by decide +kernel
theorem dX2_begin_42 : decode cX2_begin 42 = .ok (.iload_n 2, 1) := by decide +kernel
theorem dX2_begin_43 : decode cX2_begin 43 = .ok (.iload 4, 2) := by decide +kernel
theorem dX2_begin_45 : decode cX2_begin 45 = .ok (.iadd, 1) := by decide +kernel
theorem dX2_begin_46 : decode cX2_begin 46 = .ok (.invokevirtual 47, 3) := by decide +kernel
theorem dX2_begin_49 : decode cX2_begin 49 = .ok (.iastore, 1) := by decide +kernel
theorem dX2_begin_50 : decode cX2_begin 50 = .ok (.aload_n 0, 1) := by decide +kernel
theorem dX2_begin_51 : decode cX2_begin 51 = .ok (.getfield 21, 3) := by decide +kernel
theorem dX2_begin_54 : decode cX2_begin 54 = .ok (.iload 4, 2) := by decide +kernel
theorem dX2_begin_56 : decode cX2_begin 56 = .ok (.iload_n 2, 1) := by decide +kernel
theorem dX2_begin_57 : decode cX2_begin 57 = .ok (.iload 4, 2) := by decide +kernel
theorem dX2_begin_59 : decode cX2_begin 59 = .ok (.iadd, 1) := by decide +kernel
theorem dX2_begin_60 : decode cX2_begin 60 = .ok (.invokestatic 52, 3) := by decide +kernel
theorem dX2_begin_63 : decode cX2_begin 63 = .ok (.iastore, 1) := by decide +kernel
theorem dX2_begin_64 : decode cX2_begin 64 = .ok (.iinc 4 1, 3) := by decide +kernel
theorem dX2_begin_67 : decode cX2_begin 67 = .ok (.goto (-44), 3) := by decide +kernel
theorem dX2_begin_70 : decode cX2_begin 70 = .ok (.return_, 1) := by decide +kernel
theorem dX2_findBest_0 : decode cX2_findBest 0 = .ok (.aload_n 0, 1) := by decide +kernel
theorem dX2_findBest_1 : decode cX2_findBest 1 = .ok (.aload_n 1, 1) := by decide +kernel
theorem dX2_findBest_2 : decode cX2_findBest 2 = .ok (.iload_n 2, 1) := by decide +kernel
theorem dX2_findBest_3 : decode cX2_findBest 3 = .ok (.iload_n 3, 1) := by decide +kernel
theorem dX2_findBest_4 : decode cX2_findBest 4 = .ok (.invokevirtual 55, 3) := by decide +kernel
theorem dX2_findBest_7 : decode cX2_findBest 7 = .ok (.aload_n 0, 1) := by decide +kernel
theorem dX2_findBest_8 : decode cX2_findBest 8 = .ok (.iconst 0, 1) := by decide +kernel
theorem dX2_findBest_9 : decode cX2_findBest 9 = .ok (.putfield 59, 3) := by decide +kernel
theorem dX2_findBest_12 : decode cX2_findBest 12 = .ok (.aload_n 0, 1) := by decide +kernel
theorem dX2_findBest_13 : decode cX2_findBest 13 = .ok (.ldc 62, 2) := by decide +kernel
theorem dX2_findBest_15 : decode cX2_findBest 15 = .ok (.putfield 63, 3) := by decide +kernel
theorem dX2_findBest_18 : decode cX2_findBest 18 = .ok (.aload_n 0, 1) := by decide +kernel
theorem dX2_findBest_19 : decode cX2_findBest 19 = .ok (.iconst 0, 1) := by decide +kernel
theorem dX2_findBest_20 : decode cX2_findBest 20 = .ok (.iconst 0, 1) := by decide +kernel
theorem dX2_findBest_21 : decode cX2_findBest 21 = .ok (.iconst 0, 1) := by decide +kernel
theorem dX2_findBest_22 : decode cX2_findBest 22 = .ok (.invokestatic 66, 3) := by decide +kernel
theorem dX2_findBest_25 : decode cX2_findBest 25 = .ok (.return_, 1) := by decide +kernel
theorem dX2_toldBy_0 : decode cX2_toldBy 0 = .ok (.iload_n 1, 1) := by decide +kernel
theorem dX2_toldBy_1 : decode cX2_toldBy 1 = .ok (.aload_n 0, 1) := by decide +kernel
theorem dX2_toldBy_2 : decode cX2_toldBy 2 = .ok (.getfield 43, 3) := by decide +kernel
theorem dX2_toldBy_5 : decode cX2_toldBy 5 = .ok (.iconst 1, 1) := by decide +kernel
theorem dX2_toldBy_6 : decode cX2_toldBy 6 = .ok (.isub, 1) := by decide +kernel
theorem dX2_toldBy_7 : decode cX2_toldBy 7 = .ok (.iload_n 2, 1) := by decide +kernel
theorem dX2_toldBy_8 : decode cX2_toldBy 8 = .ok (.isub, 1) := by decide +kernel
theorem dX2_toldBy_9 : decode cX2_toldBy 9 = .ok (.ishr, 1) := by decide +kernel
theorem dX2_toldBy_10 : decode cX2_toldBy 10 = .ok (.iconst 1, 1) := by decide +kernel
theorem dX2_toldBy_11 : decode cX2_toldBy 11 = .ok (.iand, 1) := by decide +kernel
theorem dX2_toldBy_12 : decode cX2_toldBy 12 = .ok (.ireturn, 1) := by decide +kernel
theorem dX2_costOf_0 : decode cX2_costOf 0 = .ok (.iconst 0, 1) := by decide +kernel
theorem dX2_costOf_1 : decode cX2_costOf 1 = .ok (.istore_n 2, 1) := by decide +kernel
theorem dX2_costOf_2 : decode cX2_costOf 2 = .ok (.iconst 0, 1) := by decide +kernel
theorem dX2_costOf_3 : decode cX2_costOf 3 = .ok (.istore_n 3, 1) := by decide +kernel
theorem dX2_costOf_4 : decode cX2_costOf 4 = .ok (.iload_n 3, 1) := by decide +kernel
theorem dX2_costOf_5 : decode cX2_costOf 5 = .ok (.aload_n 0, 1) := by decide +kernel
theorem dX2_costOf_6 : decode cX2_costOf 6 = .ok (.getfield 43, 3) := by decide +kernel
theorem dX2_costOf_9 : decode cX2_costOf 9 = .ok (.if_icmp .ge 54, 3) := by decide +kernel
theorem dX2_costOf_12 : decode cX2_costOf 12 = .ok (.aload_n 0, 1) := by decide +kernel
theorem dX2_costOf_13 : decode cX2_costOf 13 = .ok (.iload_n 1, 1) := by decide +kernel
theorem dX2_costOf_14 : decode cX2_costOf 14 = .ok (.iload_n 3, 1) := by decide +kernel
theorem dX2_costOf_15 : decode cX2_costOf 15 = .ok (.invokevirtual 70, 3) := by decide +kernel
theorem dX2_costOf_18 : decode cX2_costOf 18 = .ok (.istore 4, 2) := by decide +kernel
theorem dX2_costOf_20 : decode cX2_costOf 20 = .ok (.aload_n 0, 1) := by decide +kernel
theorem dX2_costOf_21 : decode cX2_costOf 21 = .ok (.iload_n 3, 1) := by decide +kernel
theorem dX2_costOf_22 : decode cX2_costOf 22 = .ok (.iload 4, 2) := by decide +kernel
theorem dX2_costOf_24 : decode cX2_costOf 24 = .ok (.invokevirtual 73, 3) := by decide +kernel
theorem dX2_costOf_27 : decode cX2_costOf 27 = .ok (.ifCond .eq 13, 3) := by decide +kernel
theorem dX2_costOf_30 : decode cX2_costOf 30 = .ok (.aload_n 0, 1) := by decide +kernel
theorem dX2_costOf_31 : decode cX2_costOf 31 = .ok (.iload_n 3, 1) := by decide +kernel
theorem dX2_costOf_32 : decode cX2_costOf 32 = .ok (.iload 4, 2) := by decide +kernel
theorem dX2_costOf_34 : decode cX2_costOf 34 = .ok (.invokevirtual 77, 3) := by decide +kernel
theorem dX2_costOf_37 : decode cX2_costOf 37 = .ok (.ifCond .ne 6, 3) := by decide +kernel
theorem dX2_costOf_40 : decode cX2_costOf 40 = .ok (.ldc 62, 2) := by decide +kernel
theorem dX2_costOf_42 : decode cX2_costOf 42 = .ok (.ireturn, 1) := by decide +kernel
theorem dX2_costOf_43 : decode cX2_costOf 43 = .ok (.iload_n 2, 1) := by decide +kernel
theorem dX2_costOf_44 : decode cX2_costOf 44 = .ok (.aload_n 0, 1) := by decide +kernel
theorem dX2_costOf_45 : decode cX2_costOf 45 = .ok (.getfield 11, 3) := by decide +kernel
theorem dX2_costOf_48 : decode cX2_costOf 48 = .ok (.iload_n 3, 1) := by decide +kernel
theorem dX2_costOf_49 : decode cX2_costOf 49 = .ok (.iconst 1, 1) := by decide +kernel
theorem dX2_costOf_50 : decode cX2_costOf 50 = .ok (.iadd, 1) := by decide +kernel
theorem dX2_costOf_51 : decode cX2_costOf 51 = .ok (.aaload, 1) := by decide +kernel
theorem dX2_costOf_52 : decode cX2_costOf 52 = .ok (.getfield 80, 3) := by decide +kernel
theorem dX2_costOf_55 : decode cX2_costOf 55 = .ok (.iadd, 1) := by decide +kernel
theorem dX2_costOf_56 : decode cX2_costOf 56 = .ok (.istore_n 2, 1) := by decide +kernel
theorem dX2_costOf_57 : decode cX2_costOf 57 = .ok (.iinc 3 1, 3) := by decide +kernel
theorem dX2_costOf_60 : decode cX2_costOf 60 = .ok (.goto (-56), 3) := by decide +kernel
theorem dX2_costOf_63 : decode cX2_costOf 63 = .ok (.iload_n 2, 1) := by decide +kernel
theorem dX2_costOf_64 : decode cX2_costOf 64 = .ok (.ireturn, 1) := by decide +kernel
theorem dX2_search_0 : decode cX2_search 0 = .ok (.iload_n 3, 1) := by decide +kernel
theorem dX2_search_1 : decode cX2_search 1 = .ok (.aload_n 0, 1) := by decide +kernel
theorem dX2_search_2 : decode cX2_search 2 = .ok (.getfield 63, 3) := by decide +kernel
theorem dX2_search_5 : decode cX2_search 5 = .ok (.if_icmp .lt 4, 3) := by decide +kernel
theorem dX2_search_8 : decode cX2_search 8 = .ok (.return_, 1) := by decide +kernel
theorem dX2_search_9 : decode cX2_search 9 = .ok (.iload_n 1, 1) := by decide +kernel
theorem dX2_search_10 : decode cX2_search 10 = .ok (.aload_n 0, 1) := by decide +kernel
theorem dX2_search_11 : decode cX2_search 11 = .ok (.getfield 43, 3) := by decide +kernel
theorem dX2_search_14 : decode cX2_search 14 = .ok (.if_icmp .lt 14, 3) := by decide +kernel
theorem dX2_search_17 : decode cX2_search 17 = .ok (.aload_n 0, 1) := by decide +kernel
theorem dX2_search_18 : decode cX2_search 18 = .ok (.iload_n 2, 1) := by decide +kernel
theorem dX2_search_19 : decode cX2_search 19 = .ok (.putfield 59, 3) := by decide +kernel
theorem dX2_search_22 : decode cX2_search 22 = .ok (.aload_n 0, 1) := by decide +kernel
theorem dX2_search_23 : decode cX2_search 23 = .ok (.iload_n 3, 1) := by decide +kernel
theorem dX2_search_24 : decode cX2_search 24 = .ok (.putfield 63, 3) := by decide +kernel
theorem dX2_search_27 : decode cX2_search 27 = .ok (.return_, 1) := by decide +kernel
theorem dX2_search_28 : decode cX2_search 28 = .ok (.iconst 0, 1) := by decide +kernel
theorem dX2_search_29 : decode cX2_search 29 = .ok (.istore 4, 2) := by decide +kernel
theorem dX2_search_31 : decode cX2_search 31 = .ok (.iload 4, 2) := by decide +kernel
theorem dX2_search_33 : decode cX2_search 33 = .ok (.iconst 1, 1) := by decide +kernel
theorem dX2_search_34 : decode cX2_search 34 = .ok (.if_icmp .gt 55, 3) := by decide +kernel
theorem dX2_search_37 : decode cX2_search 37 = .ok (.aload_n 0, 1) := by decide +kernel
theorem dX2_search_38 : decode cX2_search 38 = .ok (.iload_n 1, 1) := by decide +kernel
theorem dX2_search_39 : decode cX2_search 39 = .ok (.iload 4, 2) := by decide +kernel
theorem dX2_search_41 : decode cX2_search 41 = .ok (.invokevirtual 73, 3) := by decide +kernel
theorem dX2_search_44 : decode cX2_search 44 = .ok (.ifCond .eq 39, 3) := by decide +kernel
theorem dX2_search_47 : decode cX2_search 47 = .ok (.aload_n 0, 1) := by decide +kernel
theorem dX2_search_48 : decode cX2_search 48 = .ok (.iload_n 1, 1) := by decide +kernel
theorem dX2_search_49 : decode cX2_search 49 = .ok (.iload 4, 2) := by decide +kernel
theorem dX2_search_51 : decode cX2_search 51 = .ok (.invokevirtual 77, 3) := by decide +kernel
theorem dX2_search_54 : decode cX2_search 54 = .ok (.ifCond .eq 29, 3) := by decide +kernel
theorem dX2_search_57 : decode cX2_search 57 = .ok (.aload_n 0, 1) := by decide +kernel
theorem dX2_search_58 : decode cX2_search 58 = .ok (.iload_n 1, 1) := by decide +kernel
theorem dX2_search_59 : decode cX2_search 59 = .ok (.iconst 1, 1) := by decide +kernel
theorem dX2_search_60 : decode cX2_search 60 = .ok (.iadd, 1) := by decide +kernel
theorem dX2_search_61 : decode cX2_search 61 = .ok (.iload_n 2, 1) := by decide +kernel
theorem dX2_search_62 : decode cX2_search 62 = .ok (.iconst 2, 1) := by decide +kernel
theorem dX2_search_63 : decode cX2_search 63 = .ok (.imul, 1) := by decide +kernel
theorem dX2_search_64 : decode cX2_search 64 = .ok (.iload 4, 2) := by decide +kernel
theorem dX2_search_66 : decode cX2_search 66 = .ok (.iadd, 1) := by decide +kernel
theorem dX2_search_67 : decode cX2_search 67 = .ok (.iload_n 3, 1) := by decide +kernel
theorem dX2_search_68 : decode cX2_search 68 = .ok (.aload_n 0, 1) := by decide +kernel
theorem dX2_search_69 : decode cX2_search 69 = .ok (.getfield 11, 3) := by decide +kernel
theorem dX2_search_72 : decode cX2_search 72 = .ok (.iload_n 1, 1) := by decide +kernel
theorem dX2_search_73 : decode cX2_search 73 = .ok (.iconst 1, 1) := by decide +kernel
theorem dX2_search_74 : decode cX2_search 74 = .ok (.iadd, 1) := by decide +kernel
theorem dX2_search_75 : decode cX2_search 75 = .ok (.aaload, 1) := by decide +kernel
theorem dX2_search_76 : decode cX2_search 76 = .ok (.getfield 80, 3) := by decide +kernel
theorem dX2_search_79 : decode cX2_search 79 = .ok (.iadd, 1) := by decide +kernel
theorem dX2_search_80 : decode cX2_search 80 = .ok (.invokestatic 66, 3) := by decide +kernel
theorem dX2_search_83 : decode cX2_search 83 = .ok (.iinc 4 1, 3) := by decide +kernel
theorem dX2_search_86 : decode cX2_search 86 = .ok (.goto (-55), 3) := by decide +kernel
theorem dX2_search_89 : decode cX2_search 89 = .ok (.return_, 1) := by decide +kernel
theorem dX2_isAsOrdered_0 : decode cX2_isAsOrdered 0 = .ok (.aload_n 0, 1) := by decide +kernel
theorem dX2_isAsOrdered_1 : decode cX2_isAsOrdered 1 = .ok (.getfield 17, 3) := by decide +kernel
theorem dX2_isAsOrdered_4 : decode cX2_isAsOrdered 4 = .ok (.iload_n 1, 1) := by decide +kernel
theorem dX2_isAsOrdered_5 : decode cX2_isAsOrdered 5 = .ok (.iaload, 1) := by decide +kernel
theorem dX2_isAsOrdered_6 : decode cX2_isAsOrdered 6 = .ok (.iconst (-1), 1) := by decide +kernel
theorem dX2_isAsOrdered_7 : decode cX2_isAsOrdered 7 = .ok (.if_icmp .eq 13, 3) := by decide +kernel
theorem dX2_isAsOrdered_10 : decode cX2_isAsOrdered 10 = .ok (.aload_n 0, 1) := by decide +kernel
theorem dX2_isAsOrdered_11 : decode cX2_isAsOrdered 11 = .ok (.getfield 17, 3) := by decide +kernel
theorem dX2_isAsOrdered_14 : decode cX2_isAsOrdered 14 = .ok (.iload_n 1, 1) := by decide +kernel
theorem dX2_isAsOrdered_15 : decode cX2_isAsOrdered 15 = .ok (.iaload, 1) := by decide +kernel
theorem dX2_isAsOrdered_16 : decode cX2_isAsOrdered 16 = .ok (.iload_n 2, 1) := by decide +kernel
theorem dX2_isAsOrdered_17 : decode cX2_isAsOrdered 17 = .ok (.if_icmp .ne 7, 3) := by decide +kernel
theorem dX2_isAsOrdered_20 : decode cX2_isAsOrdered 20 = .ok (.iconst 1, 1) := by decide +kernel
theorem dX2_isAsOrdered_21 : decode cX2_isAsOrdered 21 = .ok (.goto 4, 3) := by decide +kernel
theorem dX2_isAsOrdered_24 : decode cX2_isAsOrdered 24 = .ok (.iconst 0, 1) := by decide +kernel
theorem dX2_isAsOrdered_25 : decode cX2_isAsOrdered 25 = .ok (.ireturn, 1) := by decide +kernel
theorem dX2_canPass_0 : decode cX2_canPass 0 = .ok (.aload_n 0, 1) := by decide +kernel
theorem dX2_canPass_1 : decode cX2_canPass 1 = .ok (.getfield 11, 3) := by decide +kernel
theorem dX2_canPass_4 : decode cX2_canPass 4 = .ok (.iload_n 1, 1) := by decide +kernel
theorem dX2_canPass_5 : decode cX2_canPass 5 = .ok (.iconst 1, 1) := by decide +kernel
theorem dX2_canPass_6 : decode cX2_canPass 6 = .ok (.iadd, 1) := by decide +kernel
theorem dX2_canPass_7 : decode cX2_canPass 7 = .ok (.aaload, 1) := by decide +kernel
theorem dX2_canPass_8 : decode cX2_canPass 8 = .ok (.astore_n 3, 1) := by decide +kernel
theorem dX2_canPass_9 : decode cX2_canPass 9 = .ok (.aload_n 3, 1) := by decide +kernel
theorem dX2_canPass_10 : decode cX2_canPass 10 = .ok (.aload_n 0, 1) := by decide +kernel
theorem dX2_canPass_11 : decode cX2_canPass 11 = .ok (.getfield 11, 3) := by decide +kernel
theorem dX2_canPass_14 : decode cX2_canPass 14 = .ok (.iload_n 1, 1) := by decide +kernel
theorem dX2_canPass_15 : decode cX2_canPass 15 = .ok (.aaload, 1) := by decide +kernel
theorem dX2_canPass_16 : decode cX2_canPass 16 = .ok (.invokevirtual 33, 3) := by decide +kernel
theorem dX2_canPass_19 : decode cX2_canPass 19 = .ok (.aload_n 3, 1) := by decide +kernel
theorem dX2_canPass_20 : decode cX2_canPass 20 = .ok (.aload_n 0, 1) := by decide +kernel
theorem dX2_canPass_21 : decode cX2_canPass 21 = .ok (.getfield 24, 3) := by decide +kernel
theorem dX2_canPass_24 : decode cX2_canPass 24 = .ok (.aload_n 0, 1) := by decide +kernel
theorem dX2_canPass_25 : decode cX2_canPass 25 = .ok (.getfield 21, 3) := by decide +kernel
theorem dX2_canPass_28 : decode cX2_canPass 28 = .ok (.iload_n 1, 1) := by decide +kernel
theorem dX2_canPass_29 : decode cX2_canPass 29 = .ok (.iaload, 1) := by decide +kernel
theorem dX2_canPass_30 : decode cX2_canPass 30 = .ok (.iload_n 2, 1) := by decide +kernel
theorem dX2_canPass_31 : decode cX2_canPass 31 = .ok (.iconst 1, 1) := by decide +kernel
theorem dX2_canPass_32 : decode cX2_canPass 32 = .ok (.if_icmp .ne 7, 3) := by decide +kernel
theorem dX2_canPass_35 : decode cX2_canPass 35 = .ok (.iconst 1, 1) := by decide +kernel
theorem dX2_canPass_36 : decode cX2_canPass 36 = .ok (.goto 4, 3) := by decide +kernel
theorem dX2_canPass_39 : decode cX2_canPass 39 = .ok (.iconst 0, 1) := by decide +kernel
theorem dX2_canPass_40 : decode cX2_canPass 40 = .ok (.invokevirtual 83, 3) := by decide +kernel
theorem dX2_canPass_43 : decode cX2_canPass 43 = .ok (.aload_n 3, 1) := by decide +kernel
theorem dX2_canPass_44 : decode cX2_canPass 44 = .ok (.getfield 87, 3) := by decide +kernel
theorem dX2_canPass_47 : decode cX2_canPass 47 = .ok (.ifCond .ne 7, 3) := by decide +kernel
theorem dX2_canPass_50 : decode cX2_canPass 50 = .ok (.iconst 1, 1) := by decide +kernel
theorem dX2_canPass_51 : decode cX2_canPass 51 = .ok (.goto 4, 3) := by decide +kernel
theorem dX2_canPass_54 : decode cX2_canPass 54 = .ok (.iconst 0, 1) := by decide +kernel
theorem dX2_canPass_55 : decode cX2_canPass 55 = .ok (.ireturn, 1) := by decide +kernel
theorem dX3_init_0 : decode cX3_init 0 = .ok (.aload_n 0, 1) := by decide +kernel
theorem dX3_init_1 : decode cX3_init 1 = .ok (.invokespecial 3, 3) := by decide +kernel
theorem dX3_init_4 : decode cX3_init 4 = .ok (.aload_n 0, 1) := by decide +kernel
theorem dX3_init_5 : decode cX3_init 5 = .ok (.iconst 4, 1) := by decide +kernel
theorem dX3_init_6 : decode cX3_init 6 = .ok (.newarray .int, 2) := by decide +kernel
theorem dX3_init_8 : decode cX3_init 8 = .ok (.putfield 9, 3) := by decide +kernel
theorem dX3_init_11 : decode cX3_init 11 = .ok (.aload_n 0, 1) := by decide +kernel
theorem dX3_init_12 : decode cX3_init 12 = .ok (.iconst 4, 1) := by decide +kernel
theorem dX3_init_13 : decode cX3_init 13 = .ok (.newarray .int, 2) := by decide +kernel
theorem dX3_init_15 : decode cX3_init 15 = .ok (.putfield 15, 3) := by decide +kernel
theorem dX3_init_18 : decode cX3_init 18 = .ok (.aload_n 0, 1) := by decide +kernel
theorem dX3_init_19 : decode cX3_init 19 = .ok (.iconst 3, 1) := by decide +kernel
theorem dX3_init_20 : decode cX3_init 20 = .ok (.newarray .int, 2) := by decide +kernel
theorem dX3_init_22 : decode cX3_init 22 = .ok (.putfield 18, 3) := by decide +kernel
theorem dX3_init_25 : decode cX3_init 25 = .ok (.aload_n 0, 1) := by decide +kernel
theorem dX3_init_26 : decode cX3_init 26 = .ok (.iconst 3, 1) := by decide +kernel
theorem dX3_init_27 : decode cX3_init 27 = .ok (.bipush 48, 2) := by decide +kernel
theorem dX3_init_29 : decode cX3_init 29 = .ok (.multianewarray 21 2, 4) := by decide +kernel
theorem dX3_init_33 : decode cX3_init 33 = .ok (.putfield 23, 3) := by decide +kernel
theorem dX3_init_36 : decode cX3_init 36 = .ok (.aload_n 0, 1) := by decide +kernel
theorem dX3_init_37 : decode cX3_init 37 = .ok (.bipush 48, 2) := by decide +kernel
theorem dX3_init_39 : decode cX3_init 39 = .ok (.newarray .int, 2) := by decide +kernel
theorem dX3_init_41 : decode cX3_init 41 = .ok (.putfield 26, 3) := by decide +kernel
theorem dX3_init_44 : decode cX3_init 44 = .ok (.aload_n 0, 1) := by decide +kernel
theorem dX3_init_45 : decode cX3_init 45 = .ok (.getfield 26, 3) := by decide +kernel
theorem dX3_init_48 : decode cX3_init 48 = .ok (.iconst 1, 1) := by decide +kernel
theorem dX3_init_49 : decode cX3_init 49 = .ok (.invokestatic 29, 3) := by decide +kernel
theorem dX3_init_52 : decode cX3_init 52 = .ok (.aload_n 0, 1) := by decide +kernel
theorem dX3_init_53 : decode cX3_init 53 = .ok (.bipush 25, 2) := by decide +kernel
theorem dX3_init_55 : decode cX3_init 55 = .ok (.putfield 35, 3) := by decide +kernel
theorem dX3_init_58 : decode cX3_init 58 = .ok (.aload_n 0, 1) := by decide +kernel
theorem dX3_init_59 : decode cX3_init 59 = .ok (.bipush 40, 2) := by decide +kernel
theorem dX3_init_61 : decode cX3_init 61 = .ok (.putfield 39, 3) := by decide +kernel
theorem dX3_init_64 : decode cX3_init 64 = .ok (.return_, 1) := by decide +kernel
theorem dX3_productAt_0 : decode cX3_productAt 0 = .ok (.aload_n 0, 1) := by decide +kernel
theorem dX3_productAt_1 : decode cX3_productAt 1 = .ok (.getfield 15, 3) := by decide +kernel
theorem dX3_productAt_4 : decode cX3_productAt 4 = .ok (.iload_n 1, 1) := by decide +kernel
theorem dX3_productAt_5 : decode cX3_productAt 5 = .ok (.iaload, 1) := by decide +kernel
theorem dX3_productAt_6 : decode cX3_productAt 6 = .ok (.aload_n 0, 1) := by decide +kernel
theorem dX3_productAt_7 : decode cX3_productAt 7 = .ok (.getfield 35, 3) := by decide +kernel
theorem dX3_productAt_10 : decode cX3_productAt 10 = .ok (.if_icmp .ge 5, 3) := by decide +kernel
theorem dX3_productAt_13 : decode cX3_productAt 13 = .ok (.iconst 0, 1) := by decide +kernel
theorem dX3_productAt_14 : decode cX3_productAt 14 = .ok (.ireturn, 1) := by decide +kernel
theorem dX3_productAt_15 : decode cX3_productAt 15 = .ok (.aload_n 0, 1) := by decide +kernel
theorem dX3_productAt_16 : decode cX3_productAt 16 = .ok (.getfield 9, 3) := by decide +kernel
theorem dX3_productAt_19 : decode cX3_productAt 19 = .ok (.iload_n 1, 1) := by decide +kernel
theorem dX3_productAt_20 : decode cX3_productAt 20 = .ok (.iaload, 1) := by decide +kernel
theorem dX3_productAt_21 : decode cX3_productAt 21 = .ok (.aload_n 0, 1) := by decide +kernel
theorem dX3_productAt_22 : decode cX3_productAt 22 = .ok (.getfield 15, 3) := by decide +kernel
theorem dX3_productAt_25 : decode cX3_productAt 25 = .ok (.iload_n 1, 1) := by decide +kernel
theorem dX3_productAt_26 : decode cX3_productAt 26 = .ok (.iaload, 1) := by decide +kernel
theorem dX3_productAt_27 : decode cX3_productAt 27 = .ok (.aload_n 0, 1) := by decide +kernel
theorem dX3_productAt_28 : decode cX3_productAt 28 = .ok (.getfield 35, 3) := by decide +kernel
theorem dX3_productAt_31 : decode cX3_productAt 31 = .ok (.isub, 1) := by decide +kernel
theorem dX3_productAt_32 : decode cX3_productAt 32 = .ok (.imul, 1) := by decide +kernel
theorem dX3_productAt_33 : decode cX3_productAt 33 = .ok (.bipush 100, 2) := by decide +kernel
theorem dX3_productAt_35 : decode cX3_productAt 35 = .ok (.iload_n 2, 1) := by decide +kernel
theorem dX3_productAt_36 : decode cX3_productAt 36 = .ok (.isub, 1) := by decide +kernel
theorem dX3_productAt_37 : decode cX3_productAt 37 = .ok (.imul, 1) := by decide +kernel
theorem dX3_productAt_38 : decode cX3_productAt 38 = .ok (.sipush 500, 3) := by decide +kernel
theorem dX3_productAt_41 : decode cX3_productAt 41 = .ok (.idiv, 1) := by decide +kernel
theorem dX3_productAt_42 : decode cX3_productAt 42 = .ok (.ireturn, 1) := by decide +kernel
theorem dX3_feedFor_0 : decode cX3_feedFor 0 = .ok (.aload_n 0, 1) := by decide +kernel
theorem dX3_feedFor_1 : decode cX3_feedFor 1 = .ok (.getfield 39, 3) := by decide +kernel
theorem dX3_feedFor_4 : decode cX3_feedFor 4 = .ok (.ifCond .gt 5, 3) := by decide +kernel
theorem dX3_feedFor_7 : decode cX3_feedFor 7 = .ok (.iconst 0, 1) := by decide +kernel
theorem dX3_feedFor_8 : decode cX3_feedFor 8 = .ok (.ireturn, 1) := by decide +kernel
theorem dX3_feedFor_9 : decode cX3_feedFor 9 = .ok (.iload_n 1, 1) := by decide +kernel
theorem dX3_feedFor_10 : decode cX3_feedFor 10 = .ok (.bipush 100, 2) := by decide +kernel
theorem dX3_feedFor_12 : decode cX3_feedFor 12 = .ok (.imul, 1) := by decide +kernel
theorem dX3_feedFor_13 : decode cX3_feedFor 13 = .ok (.aload_n 0, 1) := by decide +kernel
theorem dX3_feedFor_14 : decode cX3_feedFor 14 = .ok (.getfield 39, 3) := by decide +kernel
theorem dX3_feedFor_17 : decode cX3_feedFor 17 = .ok (.iadd, 1) := by decide +kernel
theorem dX3_feedFor_18 : decode cX3_feedFor 18 = .ok (.iconst 1, 1) := by decide +kernel
theorem dX3_feedFor_19 : decode cX3_feedFor 19 = .ok (.isub, 1) := by decide +kernel
theorem dX3_feedFor_20 : decode cX3_feedFor 20 = .ok (.aload_n 0, 1) := by decide +kernel
theorem dX3_feedFor_21 : decode cX3_feedFor 21 = .ok (.getfield 39, 3) := by decide +kernel
theorem dX3_feedFor_24 : decode cX3_feedFor 24 = .ok (.idiv, 1) := by decide +kernel
theorem dX3_feedFor_25 : decode cX3_feedFor 25 = .ok (.ireturn, 1) := by decide +kernel
theorem dX3_energyFor_0 : decode cX3_energyFor 0 = .ok (.iload_n 2, 1) := by decide +kernel
theorem dX3_energyFor_1 : decode cX3_energyFor 1 = .ok (.aload_n 0, 1) := by decide +kernel
theorem dX3_energyFor_2 : decode cX3_energyFor 2 = .ok (.getfield 15, 3) := by decide +kernel
theorem dX3_energyFor_5 : decode cX3_energyFor 5 = .ok (.iload_n 1, 1) := by decide +kernel
theorem dX3_energyFor_6 : decode cX3_energyFor 6 = .ok (.iaload, 1) := by decide +kernel
theorem dX3_energyFor_7 : decode cX3_energyFor 7 = .ok (.imul, 1) := by decide +kernel
theorem dX3_energyFor_8 : decode cX3_energyFor 8 = .ok (.bipush 19, 2) := by decide +kernel
theorem dX3_energyFor_10 : decode cX3_energyFor 10 = .ok (.iadd, 1) := by decide +kernel
theorem dX3_energyFor_11 : decode cX3_energyFor 11 = .ok (.bipush 20, 2) := by decide +kernel
theorem dX3_energyFor_13 : decode cX3_energyFor 13 = .ok (.idiv, 1) := by decide +kernel
theorem dX3_energyFor_14 : decode cX3_energyFor 14 = .ok (.ireturn, 1) := by decide +kernel
theorem dX3_foulingStep_0 : decode cX3_foulingStep 0 = .ok (.aload_n 0, 1) := by decide +kernel
theorem dX3_foulingStep_1 : decode cX3_foulingStep 1 = .ok (.getfield 15, 3) := by decide +kernel
theorem dX3_foulingStep_4 : decode cX3_foulingStep 4 = .ok (.iload_n 1, 1) := by decide +kernel
theorem dX3_foulingStep_5 : decode cX3_foulingStep 5 = .ok (.iaload, 1) := by decide +kernel
theorem dX3_foulingStep_6 : decode cX3_foulingStep 6 = .ok (.bipush 45, 2) := by decide +kernel
theorem dX3_foulingStep_8 : decode cX3_foulingStep 8 = .ok (.if_icmp .gt 5, 3) := by decide +kernel
theorem dX3_foulingStep_11 : decode cX3_foulingStep 11 = .ok (.iconst 1, 1) := by decide +kernel
theorem dX3_foulingStep_12 : decode cX3_foulingStep 12 = .ok (.ireturn, 1) := by decide +kernel
theorem dX3_foulingStep_13 : decode cX3_foulingStep 13 = .ok (.aload_n 0, 1) := by decide +kernel
theorem dX3_foulingStep_14 : decode cX3_foulingStep 14 = .ok (.getfield 15, 3) := by decide +kernel
theorem dX3_foulingStep_17 : decode cX3_foulingStep 17 = .ok (.iload_n 1, 1) := by decide +kernel
theorem dX3_foulingStep_18 : decode cX3_foulingStep 18 = .ok (.iaload, 1) := by decide +kernel
theorem dX3_foulingStep_19 : decode cX3_foulingStep 19 = .ok (.bipush 55, 2) := by decide +kernel
theorem dX3_foulingStep_21 : decode cX3_foulingStep 21 = .ok (.if_icmp .gt 7, 3) := by decide +kernel
theorem dX3_foulingStep_24 : decode cX3_foulingStep 24 = .ok (.iconst 2, 1) := by decide +kernel
theorem dX3_foulingStep_25 : decode cX3_foulingStep 25 = .ok (.goto 4, 3) := by decide +kernel
theorem dX3_foulingStep_28 : decode cX3_foulingStep 28 = .ok (.iconst 3, 1) := by decide +kernel
theorem dX3_foulingStep_29 : decode cX3_foulingStep 29 = .ok (.ireturn, 1) := by decide +kernel
theorem dX4_init_0 : decode cX4_init 0 = .ok (.aload_n 0, 1) := by decide +kernel
theorem dX4_init_1 : decode cX4_init 1 = .ok (.invokespecial 3, 3) := by decide +kernel
theorem dX4_init_4 : decode cX4_init 4 = .ok (.aload_n 0, 1) := by decide +kernel
theorem dX4_init_5 : decode cX4_init 5 = .ok (.iconst 4, 1) := by decide +kernel
theorem dX4_init_6 : decode cX4_init 6 = .ok (.newarray .int, 2) := by decide +kernel
theorem dX4_init_8 : decode cX4_init 8 = .ok (.putfield 9, 3) := by decide +kernel
theorem dX4_init_11 : decode cX4_init 11 = .ok (.aload_n 0, 1) := by decide +kernel
theorem dX4_init_12 : decode cX4_init 12 = .ok (.iconst 4, 1) := by decide +kernel
theorem dX4_init_13 : decode cX4_init 13 = .ok (.newarray .int, 2) := by decide +kernel
theorem dX4_init_15 : decode cX4_init 15 = .ok (.putfield 15, 3) := by decide +kernel
theorem dX4_init_18 : decode cX4_init 18 = .ok (.aload_n 0, 1) := by decide +kernel
theorem dX4_init_19 : decode cX4_init 19 = .ok (.iconst 4, 1) := by decide +kernel
theorem dX4_init_20 : decode cX4_init 20 = .ok (.newarray .int, 2) := by decide +kernel
theorem dX4_init_22 : decode cX4_init 22 = .ok (.putfield 18, 3) := by decide +kernel
theorem dX4_init_25 : decode cX4_init 25 = .ok (.aload_n 0, 1) := by decide +kernel
theorem dX4_init_26 : decode cX4_init 26 = .ok (.iconst 3, 1) := by decide +kernel
theorem dX4_init_27 : decode cX4_init 27 = .ok (.newarray .int, 2) := by decide +kernel
theorem dX4_init_29 : decode cX4_init 29 = .ok (.putfield 21, 3) := by decide +kernel
theorem dX4_init_32 : decode cX4_init 32 = .ok (.aload_n 0, 1) := by decide +kernel
theorem dX4_init_33 : decode cX4_init 33 = .ok (.iconst 3, 1) := by decide +kernel
theorem dX4_init_34 : decode cX4_init 34 = .ok (.newarray .int, 2) := by decide +kernel
theorem dX4_init_36 : decode cX4_init 36 = .ok (.putfield 24, 3) := by decide +kernel
theorem dX4_init_39 : decode cX4_init 39 = .ok (.return_, 1) := by decide +kernel
theorem dX4_copy_0 : decode cX4_copy 0 = .ok (.aload_n 1, 1) := by decide +kernel
theorem dX4_copy_1 : decode cX4_copy 1 = .ok (.getfield 9, 3) := by decide +kernel
theorem dX4_copy_4 : decode cX4_copy 4 = .ok (.iconst 0, 1) := by decide +kernel
theorem dX4_copy_5 : decode cX4_copy 5 = .ok (.aload_n 0, 1) := by decide +kernel
theorem dX4_copy_6 : decode cX4_copy 6 = .ok (.getfield 9, 3) := by decide +kernel
theorem dX4_copy_9 : decode cX4_copy 9 = .ok (.iconst 0, 1) := by decide +kernel
theorem dX4_copy_10 : decode cX4_copy 10 = .ok (.iconst 4, 1) := by decide +kernel
theorem dX4_copy_11 : decode cX4_copy 11 = .ok (.invokestatic 27, 3) := by decide +kernel
theorem dX4_copy_14 : decode cX4_copy 14 = .ok (.aload_n 1, 1) := by decide +kernel
theorem dX4_copy_15 : decode cX4_copy 15 = .ok (.getfield 15, 3) := by decide +kernel
theorem dX4_copy_18 : decode cX4_copy 18 = .ok (.iconst 0, 1) := by decide +kernel
theorem dX4_copy_19 : decode cX4_copy 19 = .ok (.aload_n 0, 1) := by decide +kernel
theorem dX4_copy_20 : decode cX4_copy 20 = .ok (.getfield 15, 3) := by decide +kernel
theorem dX4_copy_23 : decode cX4_copy 23 = .ok (.iconst 0, 1) := by decide +kernel
theorem dX4_copy_24 : decode cX4_copy 24 = .ok (.iconst 4, 1) := by decide +kernel
theorem dX4_copy_25 : decode cX4_copy 25 = .ok (.invokestatic 27, 3) := by decide +kernel
theorem dX4_copy_28 : decode cX4_copy 28 = .ok (.aload_n 1, 1) := by decide +kernel
theorem dX4_copy_29 : decode cX4_copy 29 = .ok (.getfield 18, 3) := by decide +kernel
theorem dX4_copy_32 : decode cX4_copy 32 = .ok (.iconst 0, 1) := by decide +kernel
theorem dX4_copy_33 : decode cX4_copy 33 = .ok (.aload_n 0, 1) := by decide +kernel
theorem dX4_copy_34 : decode cX4_copy 34 = .ok (.getfield 18, 3) := by decide +kernel
theorem dX4_copy_37 : decode cX4_copy 37 = .ok (.iconst 0, 1) := by decide +kernel
theorem dX4_copy_38 : decode cX4_copy 38 = .ok (.iconst 4, 1) := by decide +kernel
theorem dX4_copy_39 : decode cX4_copy 39 = .ok (.invokestatic 27, 3) := by decide +kernel
theorem dX4_copy_42 : decode cX4_copy 42 = .ok (.aload_n 1, 1) := by decide +kernel
theorem dX4_copy_43 : decode cX4_copy 43 = .ok (.getfield 21, 3) := by decide +kernel
theorem dX4_copy_46 : decode cX4_copy 46 = .ok (.iconst 0, 1) := by decide +kernel
theorem dX4_copy_47 : decode cX4_copy 47 = .ok (.aload_n 0, 1) := by decide +kernel
theorem dX4_copy_48 : decode cX4_copy 48 = .ok (.getfield 21, 3) := by decide +kernel
theorem dX4_copy_51 : decode cX4_copy 51 = .ok (.iconst 0, 1) := by decide +kernel
theorem dX4_copy_52 : decode cX4_copy 52 = .ok (.iconst 3, 1) := by decide +kernel
theorem dX4_copy_53 : decode cX4_copy 53 = .ok (.invokestatic 27, 3) := by decide +kernel
theorem dX4_copy_56 : decode cX4_copy 56 = .ok (.return_, 1) := by decide +kernel
theorem dX4_letPass_0 : decode cX4_letPass 0 = .ok (.aload_n 0, 1) := by decide +kernel
theorem dX4_letPass_1 : decode cX4_letPass 1 = .ok (.iconst 0, 1) := by decide +kernel
theorem dX4_letPass_2 : decode cX4_letPass 2 = .ok (.putfield 33, 3) := by decide +kernel
theorem dX4_letPass_5 : decode cX4_letPass 5 = .ok (.aload_n 0, 1) := by decide +kernel
theorem dX4_letPass_6 : decode cX4_letPass 6 = .ok (.iconst 0, 1) := by decide +kernel
theorem dX4_letPass_7 : decode cX4_letPass 7 = .ok (.putfield 37, 3) := by decide +kernel
theorem dX4_letPass_10 : decode cX4_letPass 10 = .ok (.aload_n 0, 1) := by decide +kernel
theorem dX4_letPass_11 : decode cX4_letPass 11 = .ok (.iconst 0, 1) := by decide +kernel
theorem dX4_letPass_12 : decode cX4_letPass 12 = .ok (.putfield 40, 3) := by decide +kernel
theorem dX4_letPass_15 : decode cX4_letPass 15 = .ok (.iconst 0, 1) := by decide +kernel
theorem dX4_letPass_16 : decode cX4_letPass 16 = .ok (.istore 4, 2) := by decide +kernel
theorem dX4_letPass_18 : decode cX4_letPass 18 = .ok (.iconst 0, 1) := by decide +kernel
theorem dX4_letPass_19 : decode cX4_letPass 19 = .ok (.istore 5, 2) := by decide +kernel
theorem dX4_letPass_21 : decode cX4_letPass 21 = .ok (.iload 5, 2) := by decide +kernel
theorem dX4_letPass_23 : decode cX4_letPass 23 = .ok (.aload_n 1, 1) := by decide +kernel
theorem dX4_letPass_24 : decode cX4_letPass 24 = .ok (.getfield 43, 3) := by decide +kernel
theorem dX4_letPass_27 : decode cX4_letPass 27 = .ok (.if_icmp .ge 44, 3) := by decide +kernel
theorem dX4_letPass_30 : decode cX4_letPass 30 = .ok (.aload_n 0, 1) := by decide +kernel
theorem dX4_letPass_31 : decode cX4_letPass 31 = .ok (.getfield 18, 3) := by decide +kernel
theorem dX4_letPass_34 : decode cX4_letPass 34 = .ok (.iload 5, 2) := by decide +kernel
theorem dX4_letPass_36 : decode cX4_letPass 36 = .ok (.iaload, 1) := by decide +kernel
theorem dX4_letPass_37 : decode cX4_letPass 37 = .ok (.ifCond .le 12, 3) := by decide +kernel
theorem dX4_letPass_40 : decode cX4_letPass 40 = .ok (.aload_n 0, 1) := by decide +kernel
theorem dX4_letPass_41 : decode cX4_letPass 41 = .ok (.iload 5, 2) := by decide +kernel
theorem dX4_letPass_43 : decode cX4_letPass 43 = .ok (.invokevirtual 48, 3) := by decide +kernel
theorem dX4_letPass_46 : decode cX4_letPass 46 = .ok (.goto 19, 3) := by decide +kernel
theorem dX4_letPass_49 : decode cX4_letPass 49 = .ok (.iload_n 3, 1) := by decide +kernel
theorem dX4_letPass_50 : decode cX4_letPass 50 = .ok (.ifCond .eq 15, 3) := by decide +kernel
theorem dX4_letPass_53 : decode cX4_letPass 53 = .ok (.iload 4, 2) := by decide +kernel
theorem dX4_letPass_55 : decode cX4_letPass 55 = .ok (.aload_n 0, 1) := by decide +kernel
theorem dX4_letPass_56 : decode cX4_letPass 56 = .ok (.aload_n 1, 1) := by decide +kernel
theorem dX4_letPass_57 : decode cX4_letPass 57 = .ok (.iload 5, 2) := by decide +kernel
theorem dX4_letPass_59 : decode cX4_letPass 59 = .ok (.invokevirtual 52, 3) := by decide +kernel
theorem dX4_letPass_62 : decode cX4_letPass 62 = .ok (.iadd, 1) := by decide +kernel
theorem dX4_letPass_63 : decode cX4_letPass 63 = .ok (.istore 4, 2) := by decide +kernel
theorem dX4_letPass_65 : decode cX4_letPass 65 = .ok (.iinc 5 1, 3) := by decide +kernel
theorem dX4_letPass_68 : decode cX4_letPass 68 = .ok (.goto (-47), 3) := by decide +kernel
theorem dX4_letPass_71 : decode cX4_letPass 71 = .ok (.aload_n 0, 1) := by decide +kernel
theorem dX4_letPass_72 : decode cX4_letPass 72 = .ok (.iload 4, 2) := by decide +kernel
theorem dX4_letPass_74 : decode cX4_letPass 74 = .ok (.aload_n 1, 1) := by decide +kernel
theorem dX4_letPass_75 : decode cX4_letPass 75 = .ok (.getfield 56, 3) := by decide +kernel
theorem dX4_letPass_78 : decode cX4_letPass 78 = .ok (.iload_n 2, 1) := by decide +kernel
theorem dX4_letPass_79 : decode cX4_letPass 79 = .ok (.iaload, 1) := by decide +kernel
theorem dX4_letPass_80 : decode cX4_letPass 80 = .ok (.imul, 1) := by decide +kernel
theorem dX4_letPass_81 : decode cX4_letPass 81 = .ok (.putfield 59, 3) := by decide +kernel
theorem dX4_letPass_84 : decode cX4_letPass 84 = .ok (.aload_n 0, 1) := by decide +kernel
theorem dX4_letPass_85 : decode cX4_letPass 85 = .ok (.aload_n 1, 1) := by decide +kernel
theorem dX4_letPass_86 : decode cX4_letPass 86 = .ok (.invokevirtual 62, 3) := by decide +kernel
theorem dX4_letPass_89 : decode cX4_letPass 89 = .ok (.aload_n 0, 1) := by decide +kernel
theorem dX4_letPass_90 : decode cX4_letPass 90 = .ok (.aload_n 1, 1) := by decide +kernel
theorem dX4_letPass_91 : decode cX4_letPass 91 = .ok (.iload_n 2, 1) := by decide +kernel
theorem dX4_letPass_92 : decode cX4_letPass 92 = .ok (.invokevirtual 66, 3) := by decide +kernel
theorem dX4_letPass_95 : decode cX4_letPass 95 = .ok (.return_, 1) := by decide +kernel
theorem dX4_goOnCleaning_0 : decode cX4_goOnCleaning 0 = .ok (.aload_n 0, 1) := by decide +kernel
theorem dX4_goOnCleaning_1 : decode cX4_goOnCleaning 1 = .ok (.getfield 18, 3) := by decide +kernel
theorem dX4_goOnCleaning_4 : decode cX4_goOnCleaning 4 = .ok (.iload_n 1, 1) := by decide +kernel
theorem dX4_goOnCleaning_5 : decode cX4_goOnCleaning 5 = .ok (.dup2, 1) := by decide +kernel
theorem dX4_goOnCleaning_6 : decode cX4_goOnCleaning 6 = .ok (.iaload, 1) := by decide +kernel
theorem dX4_goOnCleaning_7 : decode cX4_goOnCleaning 7 = .ok (.iconst 1, 1) := by decide +kernel
theorem dX4_goOnCleaning_8 : decode cX4_goOnCleaning 8 = .ok (.isub, 1) := by decide +kernel
theorem dX4_goOnCleaning_9 : decode cX4_goOnCleaning 9 = .ok (.iastore, 1) := by decide +kernel
theorem dX4_goOnCleaning_10 : decode cX4_goOnCleaning 10 = .ok (.aload_n 0, 1) := by decide +kernel
theorem dX4_goOnCleaning_11 : decode cX4_goOnCleaning 11 = .ok (.getfield 18, 3) := by decide +kernel
theorem dX4_goOnCleaning_14 : decode cX4_goOnCleaning 14 = .ok (.iload_n 1, 1) := by decide +kernel
theorem dX4_goOnCleaning_15 : decode cX4_goOnCleaning 15 = .ok (.iaload, 1) := by decide +kernel
theorem dX4_goOnCleaning_16 : decode cX4_goOnCleaning 16 = .ok (.ifCond .ne 43, 3) := by decide +kernel
theorem dX4_goOnCleaning_19 : decode cX4_goOnCleaning 19 = .ok (.aload_n 0, 1) := by decide +kernel
theorem dX4_goOnCleaning_20 : decode cX4_goOnCleaning 20 = .ok (.getfield 9, 3) := by decide +kernel
theorem dX4_goOnCleaning_23 : decode cX4_goOnCleaning 23 = .ok (.iload_n 1, 1) := by decide +kernel
theorem dX4_goOnCleaning_24 : decode cX4_goOnCleaning 24 = .ok (.aload_n 0, 1) := by decide +kernel
theorem dX4_goOnCleaning_25 : decode cX4_goOnCleaning 25 = .ok (.getfield 9, 3) := by decide +kernel
theorem dX4_goOnCleaning_28 : decode cX4_goOnCleaning 28 = .ok (.iload_n 1, 1) := by decide +kernel
theorem dX4_goOnCleaning_29 : decode cX4_goOnCleaning 29 = .ok (.iaload, 1) := by decide +kernel
theorem dX4_goOnCleaning_30 : decode cX4_goOnCleaning 30 = .ok (.iconst 4, 1) := by decide +kernel
theorem dX4_goOnCleaning_31 : decode cX4_goOnCleaning 31 = .ok (.idiv, 1) := by decide +kernel
theorem dX4_goOnCleaning_32 : decode cX4_goOnCleaning 32 = .ok (.aload_n 0, 1) := by decide +kernel
theorem dX4_goOnCleaning_33 : decode cX4_goOnCleaning 33 = .ok (.getfield 15, 3) := by decide +kernel
theorem dX4_goOnCleaning_36 : decode cX4_goOnCleaning 36 = .ok (.iload_n 1, 1) := by decide +kernel
theorem dX4_goOnCleaning_37 : decode cX4_goOnCleaning 37 = .ok (.iaload, 1) := by decide +kernel
theorem dX4_goOnCleaning_38 : decode cX4_goOnCleaning 38 = .ok (.iadd, 1) := by decide +kernel
theorem dX4_goOnCleaning_39 : decode cX4_goOnCleaning 39 = .ok (.iastore, 1) := by decide +kernel
theorem dX4_goOnCleaning_40 : decode cX4_goOnCleaning 40 = .ok (.aload_n 0, 1) := by decide +kernel
theorem dX4_goOnCleaning_41 : decode cX4_goOnCleaning 41 = .ok (.getfield 15, 3) := by decide +kernel
theorem dX4_goOnCleaning_44 : decode cX4_goOnCleaning 44 = .ok (.iload_n 1, 1) := by decide +kernel
theorem dX4_goOnCleaning_45 : decode cX4_goOnCleaning 45 = .ok (.bipush 20, 2) := by decide +kernel
theorem dX4_goOnCleaning_47 : decode cX4_goOnCleaning 47 = .ok (.aload_n 0, 1) := by decide +kernel
theorem dX4_goOnCleaning_48 : decode cX4_goOnCleaning 48 = .ok (.getfield 15, 3) := by decide +kernel
theorem dX4_goOnCleaning_51 : decode cX4_goOnCleaning 51 = .ok (.iload_n 1, 1) := by decide +kernel
theorem dX4_goOnCleaning_52 : decode cX4_goOnCleaning 52 = .ok (.iaload, 1) := by decide +kernel
theorem dX4_goOnCleaning_53 : decode cX4_goOnCleaning 53 = .ok (.iconst 1, 1) := by decide +kernel
theorem dX4_goOnCleaning_54 : decode cX4_goOnCleaning 54 = .ok (.iadd, 1) := by decide +kernel
theorem dX4_goOnCleaning_55 : decode cX4_goOnCleaning 55 = .ok (.invokestatic 70, 3) := by decide +kernel
theorem dX4_goOnCleaning_58 : decode cX4_goOnCleaning 58 = .ok (.iastore, 1) := by decide +kernel
theorem dX4_goOnCleaning_59 : decode cX4_goOnCleaning 59 = .ok (.return_, 1) := by decide +kernel
theorem dX4_runTrain_0 : decode cX4_runTrain 0 = .ok (.aload_n 1, 1) := by decide +kernel
theorem dX4_runTrain_1 : decode cX4_runTrain 1 = .ok (.iload_n 2, 1) := by decide +kernel
theorem dX4_runTrain_2 : decode cX4_runTrain 2 = .ok (.aload_n 0, 1) := by decide +kernel
theorem dX4_runTrain_3 : decode cX4_runTrain 3 = .ok (.getfield 9, 3) := by decide +kernel
theorem dX4_runTrain_6 : decode cX4_runTrain 6 = .ok (.iload_n 2, 1) := by decide +kernel
theorem dX4_runTrain_7 : decode cX4_runTrain 7 = .ok (.iaload, 1) := by decide +kernel
theorem dX4_runTrain_8 : decode cX4_runTrain 8 = .ok (.invokevirtual 76, 3) := by decide +kernel
theorem dX4_runTrain_11 : decode cX4_runTrain 11 = .ok (.istore_n 3, 1) := by decide +kernel
theorem dX4_runTrain_12 : decode cX4_runTrain 12 = .ok (.aload_n 1, 1) := by decide +kernel
theorem dX4_runTrain_13 : decode cX4_runTrain 13 = .ok (.iload_n 3, 1) := by decide +kernel
theorem dX4_runTrain_14 : decode cX4_runTrain 14 = .ok (.invokevirtual 79, 3) := by decide +kernel
theorem dX4_runTrain_17 : decode cX4_runTrain 17 = .ok (.istore 4, 2) := by decide +kernel
theorem dX4_runTrain_19 : decode cX4_runTrain 19 = .ok (.aload_n 0, 1) := by decide +kernel
