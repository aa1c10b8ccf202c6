theorem dX6_setSalinity_1 : decode cX6_setSalinity 1 = .ok (.iload_n 1, 1) := by decide +kernel
theorem dX6_setSalinity_2 : decode cX6_setSalinity 2 = .ok (.i2l, 1) := by decide +kernel
theorem dX6_setSalinity_3 : decode cX6_setSalinity 3 = .ok (.ldc2_w 67, 3) := by decide +kernel
theorem dX6_setSalinity_6 : decode cX6_setSalinity 6 = .ok (.ldc2_w 77, 3) := by decide +kernel
theorem dX6_setSalinity_9 : decode cX6_setSalinity 9 = .ok (.invokestatic 60, 3) := by decide +kernel
theorem dX6_setSalinity_12 : decode cX6_setSalinity 12 = .ok (.ifCond .eq 7, 3) := by decide +kernel
theorem dX6_setSalinity_15 : decode cX6_setSalinity 15 = .ok (.iconst 0, 1) := by decide +kernel
theorem dX6_setSalinity_16 : decode cX6_setSalinity 16 = .ok (.goto 4, 3) := by decide +kernel
theorem dX6_setSalinity_19 : decode cX6_setSalinity 19 = .ok (.iconst 1, 1) := by decide +kernel
theorem dX6_setSalinity_20 : decode cX6_setSalinity 20 = .ok (.putfield 54, 3) := by decide +kernel
theorem dX6_setSalinity_23 : decode cX6_setSalinity 23 = .ok (.aload_n 0, 1) := by decide +kernel
theorem dX6_setSalinity_24 : decode cX6_setSalinity 24 = .ok (.getfield 34, 3) := by decide +kernel
theorem dX6_setSalinity_27 : decode cX6_setSalinity 27 = .ok (.istore_n 2, 1) := by decide +kernel
theorem dX6_setSalinity_28 : decode cX6_setSalinity 28 = .ok (.aload_n 0, 1) := by decide +kernel
theorem dX6_setSalinity_29 : decode cX6_setSalinity 29 = .ok (.aload_n 0, 1) := by decide +kernel
theorem dX6_setSalinity_30 : decode cX6_setSalinity 30 = .ok (.getfield 54, 3) := by decide +kernel
theorem dX6_setSalinity_33 : decode cX6_setSalinity 33 = .ok (.ifCond .ne 7, 3) := by decide +kernel
theorem dX6_setSalinity_36 : decode cX6_setSalinity 36 = .ok (.iload_n 1, 1) := by decide +kernel
theorem dX6_setSalinity_37 : decode cX6_setSalinity 37 = .ok (.goto 4, 3) := by decide +kernel
theorem dX6_setSalinity_40 : decode cX6_setSalinity 40 = .ok (.iload_n 2, 1) := by decide +kernel
theorem dX6_setSalinity_41 : decode cX6_setSalinity 41 = .ok (.putfield 34, 3) := by decide +kernel
theorem dX6_setSalinity_44 : decode cX6_setSalinity 44 = .ok (.aload_n 0, 1) := by decide +kernel
theorem dX6_setSalinity_45 : decode cX6_setSalinity 45 = .ok (.getfield 54, 3) := by decide +kernel
theorem dX6_setSalinity_48 : decode cX6_setSalinity 48 = .ok (.ifCond .ne 7, 3) := by decide +kernel
theorem dX6_setSalinity_51 : decode cX6_setSalinity 51 = .ok (.iload_n 2, 1) := by decide +kernel
theorem dX6_setSalinity_52 : decode cX6_setSalinity 52 = .ok (.goto 4, 3) := by decide +kernel
theorem dX6_setSalinity_55 : decode cX6_setSalinity 55 = .ok (.iconst (-1), 1) := by decide +kernel
theorem dX6_setSalinity_56 : decode cX6_setSalinity 56 = .ok (.ireturn, 1) := by decide +kernel
theorem dX6_setRecovery_0 : decode cX6_setRecovery 0 = .ok (.aload_n 0, 1) := by decide +kernel
theorem dX6_setRecovery_1 : decode cX6_setRecovery 1 = .ok (.iload_n 1, 1) := by decide +kernel
theorem dX6_setRecovery_2 : decode cX6_setRecovery 2 = .ok (.i2l, 1) := by decide +kernel
theorem dX6_setRecovery_3 : decode cX6_setRecovery 3 = .ok (.ldc2_w 73, 3) := by decide +kernel
theorem dX6_setRecovery_6 : decode cX6_setRecovery 6 = .ok (.ldc2_w 79, 3) := by decide +kernel
theorem dX6_setRecovery_9 : decode cX6_setRecovery 9 = .ok (.invokestatic 60, 3) := by decide +kernel
theorem dX6_setRecovery_12 : decode cX6_setRecovery 12 = .ok (.ifCond .eq 7, 3) := by decide +kernel
theorem dX6_setRecovery_15 : decode cX6_setRecovery 15 = .ok (.iconst 0, 1) := by decide +kernel
theorem dX6_setRecovery_16 : decode cX6_setRecovery 16 = .ok (.goto 4, 3) := by decide +kernel
theorem dX6_setRecovery_19 : decode cX6_setRecovery 19 = .ok (.iconst 1, 1) := by decide +kernel
theorem dX6_setRecovery_20 : decode cX6_setRecovery 20 = .ok (.putfield 54, 3) := by decide +kernel
theorem dX6_setRecovery_23 : decode cX6_setRecovery 23 = .ok (.aload_n 0, 1) := by decide +kernel
theorem dX6_setRecovery_24 : decode cX6_setRecovery 24 = .ok (.getfield 38, 3) := by decide +kernel
theorem dX6_setRecovery_27 : decode cX6_setRecovery 27 = .ok (.istore_n 2, 1) := by decide +kernel
theorem dX6_setRecovery_28 : decode cX6_setRecovery 28 = .ok (.aload_n 0, 1) := by decide +kernel
theorem dX6_setRecovery_29 : decode cX6_setRecovery 29 = .ok (.aload_n 0, 1) := by decide +kernel
theorem dX6_setRecovery_30 : decode cX6_setRecovery 30 = .ok (.getfield 54, 3) := by decide +kernel
theorem dX6_setRecovery_33 : decode cX6_setRecovery 33 = .ok (.ifCond .ne 7, 3) := by decide +kernel
theorem dX6_setRecovery_36 : decode cX6_setRecovery 36 = .ok (.iload_n 1, 1) := by decide +kernel
theorem dX6_setRecovery_37 : decode cX6_setRecovery 37 = .ok (.goto 4, 3) := by decide +kernel
theorem dX6_setRecovery_40 : decode cX6_setRecovery 40 = .ok (.iload_n 2, 1) := by decide +kernel
theorem dX6_setRecovery_41 : decode cX6_setRecovery 41 = .ok (.putfield 38, 3) := by decide +kernel
theorem dX6_setRecovery_44 : decode cX6_setRecovery 44 = .ok (.aload_n 0, 1) := by decide +kernel
theorem dX6_setRecovery_45 : decode cX6_setRecovery 45 = .ok (.getfield 54, 3) := by decide +kernel
theorem dX6_setRecovery_48 : decode cX6_setRecovery 48 = .ok (.ifCond .ne 7, 3) := by decide +kernel
theorem dX6_setRecovery_51 : decode cX6_setRecovery 51 = .ok (.iload_n 2, 1) := by decide +kernel
theorem dX6_setRecovery_52 : decode cX6_setRecovery 52 = .ok (.goto 4, 3) := by decide +kernel
theorem dX6_setRecovery_55 : decode cX6_setRecovery 55 = .ok (.iconst (-1), 1) := by decide +kernel
theorem dX6_setRecovery_56 : decode cX6_setRecovery 56 = .ok (.ireturn, 1) := by decide +kernel
theorem dX6_clean_0 : decode cX6_clean 0 = .ok (.aload_n 0, 1) := by decide +kernel
theorem dX6_clean_1 : decode cX6_clean 1 = .ok (.aload_n 0, 1) := by decide +kernel
theorem dX6_clean_2 : decode cX6_clean 2 = .ok (.iload_n 1, 1) := by decide +kernel
theorem dX6_clean_3 : decode cX6_clean 3 = .ok (.invokevirtual 69, 3) := by decide +kernel
theorem dX6_clean_6 : decode cX6_clean 6 = .ok (.ifCond .ne 7, 3) := by decide +kernel
theorem dX6_clean_9 : decode cX6_clean 9 = .ok (.iconst 1, 1) := by decide +kernel
theorem dX6_clean_10 : decode cX6_clean 10 = .ok (.goto 44, 3) := by decide +kernel
theorem dX6_clean_13 : decode cX6_clean 13 = .ok (.aload_n 0, 1) := by decide +kernel
theorem dX6_clean_14 : decode cX6_clean 14 = .ok (.iload_n 1, 1) := by decide +kernel
theorem dX6_clean_15 : decode cX6_clean 15 = .ok (.iconst 2, 1) := by decide +kernel
theorem dX6_clean_16 : decode cX6_clean 16 = .ok (.invokevirtual 81, 3) := by decide +kernel
theorem dX6_clean_19 : decode cX6_clean 19 = .ok (.ifCond .le 7, 3) := by decide +kernel
theorem dX6_clean_22 : decode cX6_clean 22 = .ok (.iconst 2, 1) := by decide +kernel
theorem dX6_clean_23 : decode cX6_clean 23 = .ok (.goto 31, 3) := by decide +kernel
theorem dX6_clean_26 : decode cX6_clean 26 = .ok (.aload_n 0, 1) := by decide +kernel
theorem dX6_clean_27 : decode cX6_clean 27 = .ok (.getfield 64, 3) := by decide +kernel
theorem dX6_clean_30 : decode cX6_clean 30 = .ok (.ifCond .eq 19, 3) := by decide +kernel
theorem dX6_clean_33 : decode cX6_clean 33 = .ok (.aload_n 0, 1) := by decide +kernel
theorem dX6_clean_34 : decode cX6_clean 34 = .ok (.getfield 9, 3) := by decide +kernel
theorem dX6_clean_37 : decode cX6_clean 37 = .ok (.bipush 12, 2) := by decide +kernel
theorem dX6_clean_39 : decode cX6_clean 39 = .ok (.iaload, 1) := by decide +kernel
theorem dX6_clean_40 : decode cX6_clean 40 = .ok (.aload_n 0, 1) := by decide +kernel
theorem dX6_clean_41 : decode cX6_clean 41 = .ok (.getfield 16, 3) := by decide +kernel
theorem dX6_clean_44 : decode cX6_clean 44 = .ok (.iload_n 1, 1) := by decide +kernel
theorem dX6_clean_45 : decode cX6_clean 45 = .ok (.iaload, 1) := by decide +kernel
theorem dX6_clean_46 : decode cX6_clean 46 = .ok (.if_icmp .ge 7, 3) := by decide +kernel
theorem dX6_clean_49 : decode cX6_clean 49 = .ok (.iconst 3, 1) := by decide +kernel
theorem dX6_clean_50 : decode cX6_clean 50 = .ok (.goto 4, 3) := by decide +kernel
theorem dX6_clean_53 : decode cX6_clean 53 = .ok (.iconst 0, 1) := by decide +kernel
theorem dX6_clean_54 : decode cX6_clean 54 = .ok (.putfield 54, 3) := by decide +kernel
theorem dX6_clean_57 : decode cX6_clean 57 = .ok (.aload_n 0, 1) := by decide +kernel
theorem dX6_clean_58 : decode cX6_clean 58 = .ok (.getfield 54, 3) := by decide +kernel
theorem dX6_clean_61 : decode cX6_clean 61 = .ok (.ifCond .le 5, 3) := by decide +kernel
theorem dX6_clean_64 : decode cX6_clean 64 = .ok (.iconst (-1), 1) := by decide +kernel
theorem dX6_clean_65 : decode cX6_clean 65 = .ok (.ireturn, 1) := by decide +kernel
theorem dX6_clean_66 : decode cX6_clean 66 = .ok (.aload_n 0, 1) := by decide +kernel
theorem dX6_clean_67 : decode cX6_clean 67 = .ok (.getfield 9, 3) := by decide +kernel
theorem dX6_clean_70 : decode cX6_clean 70 = .ok (.bipush 12, 2) := by decide +kernel
theorem dX6_clean_72 : decode cX6_clean 72 = .ok (.dup2, 1) := by decide +kernel
theorem dX6_clean_73 : decode cX6_clean 73 = .ok (.iaload, 1) := by decide +kernel
theorem dX6_clean_74 : decode cX6_clean 74 = .ok (.aload_n 0, 1) := by decide +kernel
theorem dX6_clean_75 : decode cX6_clean 75 = .ok (.getfield 16, 3) := by decide +kernel
theorem dX6_clean_78 : decode cX6_clean 78 = .ok (.iload_n 1, 1) := by decide +kernel
theorem dX6_clean_79 : decode cX6_clean 79 = .ok (.iaload, 1) := by decide +kernel
theorem dX6_clean_80 : decode cX6_clean 80 = .ok (.isub, 1) := by decide +kernel
theorem dX6_clean_81 : decode cX6_clean 81 = .ok (.iastore, 1) := by decide +kernel
theorem dX6_clean_82 : decode cX6_clean 82 = .ok (.aload_n 0, 1) := by decide +kernel
theorem dX6_clean_83 : decode cX6_clean 83 = .ok (.getfield 9, 3) := by decide +kernel
theorem dX6_clean_86 : decode cX6_clean 86 = .ok (.iconst 3, 1) := by decide +kernel
theorem dX6_clean_87 : decode cX6_clean 87 = .ok (.iload_n 1, 1) := by decide +kernel
theorem dX6_clean_88 : decode cX6_clean 88 = .ok (.imul, 1) := by decide +kernel
theorem dX6_clean_89 : decode cX6_clean 89 = .ok (.iconst 2, 1) := by decide +kernel
theorem dX6_clean_90 : decode cX6_clean 90 = .ok (.iadd, 1) := by decide +kernel
theorem dX6_clean_91 : decode cX6_clean 91 = .ok (.iconst 2, 1) := by decide +kernel
theorem dX6_clean_92 : decode cX6_clean 92 = .ok (.aload_n 0, 1) := by decide +kernel
theorem dX6_clean_93 : decode cX6_clean 93 = .ok (.iload_n 1, 1) := by decide +kernel
theorem dX6_clean_94 : decode cX6_clean 94 = .ok (.iconst 0, 1) := by decide +kernel
theorem dX6_clean_95 : decode cX6_clean 95 = .ok (.invokevirtual 81, 3) := by decide +kernel
theorem dX6_clean_98 : decode cX6_clean 98 = .ok (.bipush 20, 2) := by decide +kernel
theorem dX6_clean_100 : decode cX6_clean 100 = .ok (.idiv, 1) := by decide +kernel
theorem dX6_clean_101 : decode cX6_clean 101 = .ok (.iadd, 1) := by decide +kernel
theorem dX6_clean_102 : decode cX6_clean 102 = .ok (.iastore, 1) := by decide +kernel
theorem dX6_clean_103 : decode cX6_clean 103 = .ok (.aload_n 0, 1) := by decide +kernel
theorem dX6_clean_104 : decode cX6_clean 104 = .ok (.iload_n 1, 1) := by decide +kernel
theorem dX6_clean_105 : decode cX6_clean 105 = .ok (.iconst 2, 1) := by decide +kernel
theorem dX6_clean_106 : decode cX6_clean 106 = .ok (.invokevirtual 81, 3) := by decide +kernel
theorem dX6_clean_109 : decode cX6_clean 109 = .ok (.ireturn, 1) := by decide +kernel
theorem dX6_fouling_0 : decode cX6_fouling 0 = .ok (.aload_n 0, 1) := by decide +kernel
theorem dX6_fouling_1 : decode cX6_fouling 1 = .ok (.aload_n 0, 1) := by decide +kernel
theorem dX6_fouling_2 : decode cX6_fouling 2 = .ok (.iload_n 1, 1) := by decide +kernel
theorem dX6_fouling_3 : decode cX6_fouling 3 = .ok (.invokevirtual 69, 3) := by decide +kernel
theorem dX6_fouling_6 : decode cX6_fouling 6 = .ok (.ifCond .eq 7, 3) := by decide +kernel
theorem dX6_fouling_9 : decode cX6_fouling 9 = .ok (.iconst 0, 1) := by decide +kernel
theorem dX6_fouling_10 : decode cX6_fouling 10 = .ok (.goto 4, 3) := by decide +kernel
theorem dX6_fouling_13 : decode cX6_fouling 13 = .ok (.iconst 1, 1) := by decide +kernel
theorem dX6_fouling_14 : decode cX6_fouling 14 = .ok (.putfield 54, 3) := by decide +kernel
theorem dX6_fouling_17 : decode cX6_fouling 17 = .ok (.aload_n 0, 1) := by decide +kernel
theorem dX6_fouling_18 : decode cX6_fouling 18 = .ok (.getfield 54, 3) := by decide +kernel
theorem dX6_fouling_21 : decode cX6_fouling 21 = .ok (.ifCond .ne 12, 3) := by decide +kernel
theorem dX6_fouling_24 : decode cX6_fouling 24 = .ok (.aload_n 0, 1) := by decide +kernel
theorem dX6_fouling_25 : decode cX6_fouling 25 = .ok (.iload_n 1, 1) := by decide +kernel
theorem dX6_fouling_26 : decode cX6_fouling 26 = .ok (.iconst 0, 1) := by decide +kernel
theorem dX6_fouling_27 : decode cX6_fouling 27 = .ok (.invokevirtual 81, 3) := by decide +kernel
theorem dX6_fouling_30 : decode cX6_fouling 30 = .ok (.goto 4, 3) := by decide +kernel
theorem dX6_fouling_33 : decode cX6_fouling 33 = .ok (.iconst (-1), 1) := by decide +kernel
theorem dX6_fouling_34 : decode cX6_fouling 34 = .ok (.ireturn, 1) := by decide +kernel
theorem dX6_wear_0 : decode cX6_wear 0 = .ok (.aload_n 0, 1) := by decide +kernel
theorem dX6_wear_1 : decode cX6_wear 1 = .ok (.aload_n 0, 1) := by decide +kernel
theorem dX6_wear_2 : decode cX6_wear 2 = .ok (.iload_n 1, 1) := by decide +kernel
theorem dX6_wear_3 : decode cX6_wear 3 = .ok (.invokevirtual 69, 3) := by decide +kernel
theorem dX6_wear_6 : decode cX6_wear 6 = .ok (.ifCond .eq 7, 3) := by decide +kernel
theorem dX6_wear_9 : decode cX6_wear 9 = .ok (.iconst 0, 1) := by decide +kernel
theorem dX6_wear_10 : decode cX6_wear 10 = .ok (.goto 4, 3) := by decide +kernel
theorem dX6_wear_13 : decode cX6_wear 13 = .ok (.iconst 1, 1) := by decide +kernel
theorem dX6_wear_14 : decode cX6_wear 14 = .ok (.putfield 54, 3) := by decide +kernel
theorem dX6_wear_17 : decode cX6_wear 17 = .ok (.aload_n 0, 1) := by decide +kernel
theorem dX6_wear_18 : decode cX6_wear 18 = .ok (.getfield 54, 3) := by decide +kernel
theorem dX6_wear_21 : decode cX6_wear 21 = .ok (.ifCond .ne 12, 3) := by decide +kernel
theorem dX6_wear_24 : decode cX6_wear 24 = .ok (.aload_n 0, 1) := by decide +kernel
theorem dX6_wear_25 : decode cX6_wear 25 = .ok (.iload_n 1, 1) := by decide +kernel
theorem dX6_wear_26 : decode cX6_wear 26 = .ok (.iconst 1, 1) := by decide +kernel
theorem dX6_wear_27 : decode cX6_wear 27 = .ok (.invokevirtual 81, 3) := by decide +kernel
theorem dX6_wear_30 : decode cX6_wear 30 = .ok (.goto 4, 3) := by decide +kernel
theorem dX6_wear_33 : decode cX6_wear 33 = .ok (.iconst (-1), 1) := by decide +kernel
theorem dX6_wear_34 : decode cX6_wear 34 = .ok (.ireturn, 1) := by decide +kernel
theorem dX6_cleaningLeft_0 : decode cX6_cleaningLeft 0 = .ok (.aload_n 0, 1) := by decide +kernel
theorem dX6_cleaningLeft_1 : decode cX6_cleaningLeft 1 = .ok (.aload_n 0, 1) := by decide +kernel
theorem dX6_cleaningLeft_2 : decode cX6_cleaningLeft 2 = .ok (.iload_n 1, 1) := by decide +kernel
theorem dX6_cleaningLeft_3 : decode cX6_cleaningLeft 3 = .ok (.invokevirtual 69, 3) := by decide +kernel
theorem dX6_cleaningLeft_6 : decode cX6_cleaningLeft 6 = .ok (.ifCond .eq 7, 3) := by decide +kernel
theorem dX6_cleaningLeft_9 : decode cX6_cleaningLeft 9 = .ok (.iconst 0, 1) := by decide +kernel
theorem dX6_cleaningLeft_10 : decode cX6_cleaningLeft 10 = .ok (.goto 4, 3) := by decide +kernel
theorem dX6_cleaningLeft_13 : decode cX6_cleaningLeft 13 = .ok (.iconst 1, 1) := by decide +kernel
theorem dX6_cleaningLeft_14 : decode cX6_cleaningLeft 14 = .ok (.putfield 54, 3) := by decide +kernel
theorem dX6_cleaningLeft_17 : decode cX6_cleaningLeft 17 = .ok (.aload_n 0, 1) := by decide +kernel
theorem dX6_cleaningLeft_18 : decode cX6_cleaningLeft 18 = .ok (.getfield 54, 3) := by decide +kernel
theorem dX6_cleaningLeft_21 : decode cX6_cleaningLeft 21 = .ok (.ifCond .ne 12, 3) := by decide +kernel
theorem dX6_cleaningLeft_24 : decode cX6_cleaningLeft 24 = .ok (.aload_n 0, 1) := by decide +kernel
theorem dX6_cleaningLeft_25 : decode cX6_cleaningLeft 25 = .ok (.iload_n 1, 1) := by decide +kernel
theorem dX6_cleaningLeft_26 : decode cX6_cleaningLeft 26 = .ok (.iconst 2, 1) := by decide +kernel
theorem dX6_cleaningLeft_27 : decode cX6_cleaningLeft 27 = .ok (.invokevirtual 81, 3) := by decide +kernel
theorem dX6_cleaningLeft_30 : decode cX6_cleaningLeft 30 = .ok (.goto 4, 3) := by decide +kernel
theorem dX6_cleaningLeft_33 : decode cX6_cleaningLeft 33 = .ok (.iconst (-1), 1) := by decide +kernel
theorem dX6_cleaningLeft_34 : decode cX6_cleaningLeft 34 = .ok (.ireturn, 1) := by decide +kernel
theorem dX6_gives_0 : decode cX6_gives 0 = .ok (.iconst 0, 1) := by decide +kernel
theorem dX6_gives_1 : decode cX6_gives 1 = .ok (.aload_n 0, 1) := by decide +kernel
theorem dX6_gives_2 : decode cX6_gives 2 = .ok (.getfield 16, 3) := by decide +kernel
theorem dX6_gives_5 : decode cX6_gives 5 = .ok (.iload_n 1, 1) := by decide +kernel
theorem dX6_gives_6 : decode cX6_gives 6 = .ok (.iaload, 1) := by decide +kernel
theorem dX6_gives_7 : decode cX6_gives 7 = .ok (.aload_n 0, 1) := by decide +kernel
theorem dX6_gives_8 : decode cX6_gives 8 = .ok (.getfield 19, 3) := by decide +kernel
theorem dX6_gives_11 : decode cX6_gives 11 = .ok (.iload_n 1, 1) := by decide +kernel
theorem dX6_gives_12 : decode cX6_gives 12 = .ok (.iaload, 1) := by decide +kernel
theorem dX6_gives_13 : decode cX6_gives 13 = .ok (.aload_n 0, 1) := by decide +kernel
theorem dX6_gives_14 : decode cX6_gives 14 = .ok (.getfield 34, 3) := by decide +kernel
theorem dX6_gives_17 : decode cX6_gives 17 = .ok (.isub, 1) := by decide +kernel
theorem dX6_gives_18 : decode cX6_gives 18 = .ok (.imul, 1) := by decide +kernel
theorem dX6_gives_19 : decode cX6_gives 19 = .ok (.bipush 100, 2) := by decide +kernel
theorem dX6_gives_21 : decode cX6_gives 21 = .ok (.aload_n 0, 1) := by decide +kernel
theorem dX6_gives_22 : decode cX6_gives 22 = .ok (.iload_n 1, 1) := by decide +kernel
theorem dX6_gives_23 : decode cX6_gives 23 = .ok (.iconst 0, 1) := by decide +kernel
theorem dX6_gives_24 : decode cX6_gives 24 = .ok (.invokevirtual 81, 3) := by decide +kernel
theorem dX6_gives_27 : decode cX6_gives 27 = .ok (.isub, 1) := by decide +kernel
theorem dX6_gives_28 : decode cX6_gives 28 = .ok (.imul, 1) := by decide +kernel
theorem dX6_gives_29 : decode cX6_gives 29 = .ok (.sipush 500, 3) := by decide +kernel
theorem dX6_gives_32 : decode cX6_gives 32 = .ok (.idiv, 1) := by decide +kernel
theorem dX6_gives_33 : decode cX6_gives 33 = .ok (.invokestatic 85, 3) := by decide +kernel
theorem dX6_gives_36 : decode cX6_gives 36 = .ok (.ireturn, 1) := by decide +kernel
theorem dX6_takes_0 : decode cX6_takes 0 = .ok (.aload_n 0, 1) := by decide +kernel
theorem dX6_takes_1 : decode cX6_takes 1 = .ok (.iload_n 1, 1) := by decide +kernel
theorem dX6_takes_2 : decode cX6_takes 2 = .ok (.invokevirtual 90, 3) := by decide +kernel
theorem dX6_takes_5 : decode cX6_takes 5 = .ok (.bipush 100, 2) := by decide +kernel
theorem dX6_takes_7 : decode cX6_takes 7 = .ok (.imul, 1) := by decide +kernel
theorem dX6_takes_8 : decode cX6_takes 8 = .ok (.aload_n 0, 1) := by decide +kernel
theorem dX6_takes_9 : decode cX6_takes 9 = .ok (.getfield 38, 3) := by decide +kernel
theorem dX6_takes_12 : decode cX6_takes 12 = .ok (.iadd, 1) := by decide +kernel
theorem dX6_takes_13 : decode cX6_takes 13 = .ok (.iconst 1, 1) := by decide +kernel
theorem dX6_takes_14 : decode cX6_takes 14 = .ok (.isub, 1) := by decide +kernel
theorem dX6_takes_15 : decode cX6_takes 15 = .ok (.aload_n 0, 1) := by decide +kernel
theorem dX6_takes_16 : decode cX6_takes 16 = .ok (.getfield 38, 3) := by decide +kernel
theorem dX6_takes_19 : decode cX6_takes 19 = .ok (.idiv, 1) := by decide +kernel
theorem dX6_takes_20 : decode cX6_takes 20 = .ok (.ireturn, 1) := by decide +kernel
theorem dX6_needs_0 : decode cX6_needs 0 = .ok (.aload_n 0, 1) := by decide +kernel
theorem dX6_needs_1 : decode cX6_needs 1 = .ok (.iload_n 1, 1) := by decide +kernel
theorem dX6_needs_2 : decode cX6_needs 2 = .ok (.invokevirtual 94, 3) := by decide +kernel
theorem dX6_needs_5 : decode cX6_needs 5 = .ok (.aload_n 0, 1) := by decide +kernel
theorem dX6_needs_6 : decode cX6_needs 6 = .ok (.getfield 19, 3) := by decide +kernel
theorem dX6_needs_9 : decode cX6_needs 9 = .ok (.iload_n 1, 1) := by decide +kernel
theorem dX6_needs_10 : decode cX6_needs 10 = .ok (.iaload, 1) := by decide +kernel
theorem dX6_needs_11 : decode cX6_needs 11 = .ok (.imul, 1) := by decide +kernel
theorem dX6_needs_12 : decode cX6_needs 12 = .ok (.bipush 19, 2) := by decide +kernel
theorem dX6_needs_14 : decode cX6_needs 14 = .ok (.iadd, 1) := by decide +kernel
theorem dX6_needs_15 : decode cX6_needs 15 = .ok (.bipush 20, 2) := by decide +kernel
theorem dX6_needs_17 : decode cX6_needs 17 = .ok (.idiv, 1) := by decide +kernel
theorem dX6_needs_18 : decode cX6_needs 18 = .ok (.ireturn, 1) := by decide +kernel
theorem dX6_productOf_0 : decode cX6_productOf 0 = .ok (.aload_n 0, 1) := by decide +kernel
theorem dX6_productOf_1 : decode cX6_productOf 1 = .ok (.aload_n 0, 1) := by decide +kernel
theorem dX6_productOf_2 : decode cX6_productOf 2 = .ok (.iload_n 1, 1) := by decide +kernel
theorem dX6_productOf_3 : decode cX6_productOf 3 = .ok (.invokevirtual 69, 3) := by decide +kernel
theorem dX6_productOf_6 : decode cX6_productOf 6 = .ok (.ifCond .ne 7, 3) := by decide +kernel
theorem dX6_productOf_9 : decode cX6_productOf 9 = .ok (.iconst 1, 1) := by decide +kernel
theorem dX6_productOf_10 : decode cX6_productOf 10 = .ok (.goto 17, 3) := by decide +kernel
theorem dX6_productOf_13 : decode cX6_productOf 13 = .ok (.aload_n 0, 1) := by decide +kernel
theorem dX6_productOf_14 : decode cX6_productOf 14 = .ok (.iload_n 1, 1) := by decide +kernel
theorem dX6_productOf_15 : decode cX6_productOf 15 = .ok (.iconst 2, 1) := by decide +kernel
theorem dX6_productOf_16 : decode cX6_productOf 16 = .ok (.invokevirtual 81, 3) := by decide +kernel
theorem dX6_productOf_19 : decode cX6_productOf 19 = .ok (.ifCond .le 7, 3) := by decide +kernel
theorem dX6_productOf_22 : decode cX6_productOf 22 = .ok (.iconst 2, 1) := by decide +kernel
theorem dX6_productOf_23 : decode cX6_productOf 23 = .ok (.goto 4, 3) := by decide +kernel
theorem dX6_productOf_26 : decode cX6_productOf 26 = .ok (.iconst 0, 1) := by decide +kernel
theorem dX6_productOf_27 : decode cX6_productOf 27 = .ok (.putfield 54, 3) := by decide +kernel
theorem dX6_productOf_30 : decode cX6_productOf 30 = .ok (.aload_n 0, 1) := by decide +kernel
theorem dX6_productOf_31 : decode cX6_productOf 31 = .ok (.getfield 54, 3) := by decide +kernel
theorem dX6_productOf_34 : decode cX6_productOf 34 = .ok (.ifCond .ne 11, 3) := by decide +kernel
theorem dX6_productOf_37 : decode cX6_productOf 37 = .ok (.aload_n 0, 1) := by decide +kernel
theorem dX6_productOf_38 : decode cX6_productOf 38 = .ok (.iload_n 1, 1) := by decide +kernel
theorem dX6_productOf_39 : decode cX6_productOf 39 = .ok (.invokevirtual 90, 3) := by decide +kernel
theorem dX6_productOf_42 : decode cX6_productOf 42 = .ok (.goto 4, 3) := by decide +kernel
theorem dX6_productOf_45 : decode cX6_productOf 45 = .ok (.iconst (-1), 1) := by decide +kernel
theorem dX6_productOf_46 : decode cX6_productOf 46 = .ok (.ireturn, 1) := by decide +kernel
theorem dX6_energyOf_0 : decode cX6_energyOf 0 = .ok (.aload_n 0, 1) := by decide +kernel
theorem dX6_energyOf_1 : decode cX6_energyOf 1 = .ok (.aload_n 0, 1) := by decide +kernel
theorem dX6_energyOf_2 : decode cX6_energyOf 2 = .ok (.iload_n 1, 1) := by decide +kernel
theorem dX6_energyOf_3 : decode cX6_energyOf 3 = .ok (.invokevirtual 69, 3) := by decide +kernel
theorem dX6_energyOf_6 : decode cX6_energyOf 6 = .ok (.ifCond .ne 7, 3) := by decide +kernel
theorem dX6_energyOf_9 : decode cX6_energyOf 9 = .ok (.iconst 1, 1) := by decide +kernel
theorem dX6_energyOf_10 : decode cX6_energyOf 10 = .ok (.goto 17, 3) := by decide +kernel
theorem dX6_energyOf_13 : decode cX6_energyOf 13 = .ok (.aload_n 0, 1) := by decide +kernel
theorem dX6_energyOf_14 : decode cX6_energyOf 14 = .ok (.iload_n 1, 1) := by decide +kernel
theorem dX6_energyOf_15 : decode cX6_energyOf 15 = .ok (.iconst 2, 1) := by decide +kernel
theorem dX6_energyOf_16 : decode cX6_energyOf 16 = .ok (.invokevirtual 81, 3) := by decide +kernel
theorem dX6_energyOf_19 : decode cX6_energyOf 19 = .ok (.ifCond .le 7, 3) := by decide +kernel
theorem dX6_energyOf_22 : decode cX6_energyOf 22 = .ok (.iconst 2, 1) := by decide +kernel
theorem dX6_energyOf_23 : decode cX6_energyOf 23 = .ok (.goto 4, 3) := by decide +kernel
theorem dX6_energyOf_26 : decode cX6_energyOf 26 = .ok (.iconst 0, 1) := by decide +kernel
theorem dX6_energyOf_27 : decode cX6_energyOf 27 = .ok (.putfield 54, 3) := by decide +kernel
theorem dX6_energyOf_30 : decode cX6_energyOf 30 = .ok (.aload_n 0, 1) := by decide +kernel
theorem dX6_energyOf_31 : decode cX6_energyOf 31 = .ok (.getfield 54, 3) := by decide +kernel
theorem dX6_energyOf_34 : decode cX6_energyOf 34 = .ok (.ifCond .ne 11, 3) := by decide +kernel
theorem dX6_energyOf_37 : decode cX6_energyOf 37 = .ok (.aload_n 0, 1) := by decide +kernel
theorem dX6_energyOf_38 : decode cX6_energyOf 38 = .ok (.iload_n 1, 1) := by decide +kernel
theorem dX6_energyOf_39 : decode cX6_energyOf 39 = .ok (.invokevirtual 97, 3) := by decide +kernel
theorem dX6_energyOf_42 : decode cX6_energyOf 42 = .ok (.goto 4, 3) := by decide +kernel
theorem dX6_energyOf_45 : decode cX6_energyOf 45 = .ok (.iconst (-1), 1) := by decide +kernel
theorem dX6_energyOf_46 : decode cX6_energyOf 46 = .ok (.ireturn, 1) := by decide +kernel
theorem dX6_readyTrains_0 : decode cX6_readyTrains 0 = .ok (.aload_n 0, 1) := by decide +kernel
theorem dX6_readyTrains_1 : decode cX6_readyTrains 1 = .ok (.iconst 0, 1) := by decide +kernel
theorem dX6_readyTrains_2 : decode cX6_readyTrains 2 = .ok (.putfield 54, 3) := by decide +kernel
theorem dX6_readyTrains_5 : decode cX6_readyTrains 5 = .ok (.iconst 0, 1) := by decide +kernel
theorem dX6_readyTrains_6 : decode cX6_readyTrains 6 = .ok (.istore_n 1, 1) := by decide +kernel
theorem dX6_readyTrains_7 : decode cX6_readyTrains 7 = .ok (.iconst 0, 1) := by decide +kernel
theorem dX6_readyTrains_8 : decode cX6_readyTrains 8 = .ok (.istore_n 2, 1) := by decide +kernel
theorem dX6_readyTrains_9 : decode cX6_readyTrains 9 = .ok (.iload_n 2, 1) := by decide +kernel
theorem dX6_readyTrains_10 : decode cX6_readyTrains 10 = .ok (.aload_n 0, 1) := by decide +kernel
theorem dX6_readyTrains_11 : decode cX6_readyTrains 11 = .ok (.getfield 57, 3) := by decide +kernel
theorem dX6_readyTrains_14 : decode cX6_readyTrains 14 = .ok (.if_icmp .ge 26, 3) := by decide +kernel
theorem dX6_readyTrains_17 : decode cX6_readyTrains 17 = .ok (.iload_n 1, 1) := by decide +kernel
theorem dX6_readyTrains_18 : decode cX6_readyTrains 18 = .ok (.aload_n 0, 1) := by decide +kernel
theorem dX6_readyTrains_19 : decode cX6_readyTrains 19 = .ok (.iload_n 2, 1) := by decide +kernel
theorem dX6_readyTrains_20 : decode cX6_readyTrains 20 = .ok (.iconst 2, 1) := by decide +kernel
theorem dX6_readyTrains_21 : decode cX6_readyTrains 21 = .ok (.invokevirtual 81, 3) := by decide +kernel
theorem dX6_readyTrains_24 : decode cX6_readyTrains 24 = .ok (.ifCond .ne 7, 3) := by decide +kernel
theorem dX6_readyTrains_27 : decode cX6_readyTrains 27 = .ok (.iconst 1, 1) := by decide +kernel
theorem dX6_readyTrains_28 : decode cX6_readyTrains 28 = .ok (.goto 4, 3) := by decide +kernel
theorem dX6_readyTrains_31 : decode cX6_readyTrains 31 = .ok (.iconst 0, 1) := by decide +kernel
theorem dX6_readyTrains_32 : decode cX6_readyTrains 32 = .ok (.iadd, 1) := by decide +kernel
theorem dX6_readyTrains_33 : decode cX6_readyTrains 33 = .ok (.istore_n 1, 1) := by decide +kernel
theorem dX6_readyTrains_34 : decode cX6_readyTrains 34 = .ok (.iinc 2 1, 3) := by decide +kernel
theorem dX6_readyTrains_37 : decode cX6_readyTrains 37 = .ok (.goto (-28), 3) := by decide +kernel
theorem dX6_readyTrains_40 : decode cX6_readyTrains 40 = .ok (.iload_n 1, 1) := by decide +kernel
theorem dX6_readyTrains_41 : decode cX6_readyTrains 41 = .ok (.ireturn, 1) := by decide +kernel
theorem dX6_addTank_0 : decode cX6_addTank 0 = .ok (.aload_n 0, 1) := by decide +kernel
theorem dX6_addTank_1 : decode cX6_addTank 1 = .ok (.iload_n 1, 1) := by decide +kernel
theorem dX6_addTank_2 : decode cX6_addTank 2 = .ok (.i2l, 1) := by decide +kernel
theorem dX6_addTank_3 : decode cX6_addTank 3 = .ok (.lconst 1, 1) := by decide +kernel
theorem dX6_addTank_4 : decode cX6_addTank 4 = .ok (.ldc2_w 100, 3) := by decide +kernel
theorem dX6_addTank_7 : decode cX6_addTank 7 = .ok (.invokestatic 60, 3) := by decide +kernel
theorem dX6_addTank_10 : decode cX6_addTank 10 = .ok (.ifCond .ne 7, 3) := by decide +kernel
theorem dX6_addTank_13 : decode cX6_addTank 13 = .ok (.iconst 1, 1) := by decide +kernel
theorem dX6_addTank_14 : decode cX6_addTank 14 = .ok (.goto 16, 3) := by decide +kernel
theorem dX6_addTank_17 : decode cX6_addTank 17 = .ok (.aload_n 0, 1) := by decide +kernel
theorem dX6_addTank_18 : decode cX6_addTank 18 = .ok (.getfield 64, 3) := by decide +kernel
theorem dX6_addTank_21 : decode cX6_addTank 21 = .ok (.iconst 3, 1) := by decide +kernel
theorem dX6_addTank_22 : decode cX6_addTank 22 = .ok (.if_icmp .ne 7, 3) := by decide +kernel
theorem dX6_addTank_25 : decode cX6_addTank 25 = .ok (.iconst 2, 1) := by decide +kernel
theorem dX6_addTank_26 : decode cX6_addTank 26 = .ok (.goto 4, 3) := by decide +kernel
theorem dX6_addTank_29 : decode cX6_addTank 29 = .ok (.iconst 0, 1) := by decide +kernel
theorem dX6_addTank_30 : decode cX6_addTank 30 = .ok (.putfield 54, 3) := by decide +kernel
theorem dX6_addTank_33 : decode cX6_addTank 33 = .ok (.aload_n 0, 1) := by decide +kernel
theorem dX6_addTank_34 : decode cX6_addTank 34 = .ok (.getfield 54, 3) := by decide +kernel
theorem dX6_addTank_37 : decode cX6_addTank 37 = .ok (.ifCond .le 5, 3) := by decide +kernel
theorem dX6_addTank_40 : decode cX6_addTank 40 = .ok (.iconst (-1), 1) := by decide +kernel
theorem dX6_addTank_41 : decode cX6_addTank 41 = .ok (.ireturn, 1) := by decide +kernel
theorem dX6_addTank_42 : decode cX6_addTank 42 = .ok (.aload_n 0, 1) := by decide +kernel
theorem dX6_addTank_43 : decode cX6_addTank 43 = .ok (.getfield 22, 3) := by decide +kernel
theorem dX6_addTank_46 : decode cX6_addTank 46 = .ok (.aload_n 0, 1) := by decide +kernel
theorem dX6_addTank_47 : decode cX6_addTank 47 = .ok (.getfield 64, 3) := by decide +kernel
theorem dX6_addTank_50 : decode cX6_addTank 50 = .ok (.iload_n 1, 1) := by decide +kernel
theorem dX6_addTank_51 : decode cX6_addTank 51 = .ok (.iastore, 1) := by decide +kernel
theorem dX6_addTank_52 : decode cX6_addTank 52 = .ok (.aload_n 0, 1) := by decide +kernel
theorem dX6_addTank_53 : decode cX6_addTank 53 = .ok (.dup, 1) := by decide +kernel
theorem dX6_addTank_54 : decode cX6_addTank 54 = .ok (.getfield 64, 3) := by decide +kernel
theorem dX6_addTank_57 : decode cX6_addTank 57 = .ok (.iconst 1, 1) := by decide +kernel
theorem dX6_addTank_58 : decode cX6_addTank 58 = .ok (.iadd, 1) := by decide +kernel
theorem dX6_addTank_59 : decode cX6_addTank 59 = .ok (.putfield 64, 3) := by decide +kernel
theorem dX6_addTank_62 : decode cX6_addTank 62 = .ok (.aload_n 0, 1) := by decide +kernel
theorem dX6_addTank_63 : decode cX6_addTank 63 = .ok (.getfield 64, 3) := by decide +kernel
theorem dX6_addTank_66 : decode cX6_addTank 66 = .ok (.iconst 1, 1) := by decide +kernel
theorem dX6_addTank_67 : decode cX6_addTank 67 = .ok (.isub, 1) := by decide +kernel
theorem dX6_addTank_68 : decode cX6_addTank 68 = .ok (.ireturn, 1) := by decide +kernel
theorem dX6_setDemand_0 : decode cX6_setDemand 0 = .ok (.iload_n 2, 1) := by decide +kernel
theorem dX6_setDemand_1 : decode cX6_setDemand 1 = .ok (.i2l, 1) := by decide +kernel
theorem dX6_setDemand_2 : decode cX6_setDemand 2 = .ok (.lconst 0, 1) := by decide +kernel
theorem dX6_setDemand_3 : decode cX6_setDemand 3 = .ok (.ldc2_w 102, 3) := by decide +kernel
theorem dX6_setDemand_6 : decode cX6_setDemand 6 = .ok (.invokestatic 60, 3) := by decide +kernel
theorem dX6_setDemand_9 : decode cX6_setDemand 9 = .ok (.ifCond .eq 33, 3) := by decide +kernel
theorem dX6_setDemand_12 : decode cX6_setDemand 12 = .ok (.iload_n 3, 1) := by decide +kernel
theorem dX6_setDemand_13 : decode cX6_setDemand 13 = .ok (.i2l, 1) := by decide +kernel
theorem dX6_setDemand_14 : decode cX6_setDemand 14 = .ok (.iload_n 2, 1) := by decide +kernel
theorem dX6_setDemand_15 : decode cX6_setDemand 15 = .ok (.i2l, 1) := by decide +kernel
theorem dX6_setDemand_16 : decode cX6_setDemand 16 = .ok (.ldc2_w 102, 3) := by decide +kernel
theorem dX6_setDemand_19 : decode cX6_setDemand 19 = .ok (.invokestatic 60, 3) := by decide +kernel
theorem dX6_setDemand_22 : decode cX6_setDemand 22 = .ok (.ifCond .eq 20, 3) := by decide +kernel
theorem dX6_setDemand_25 : decode cX6_setDemand 25 = .ok (.iload 4, 2) := by decide +kernel
theorem dX6_setDemand_27 : decode cX6_setDemand 27 = .ok (.i2l, 1) := by decide +kernel
theorem dX6_setDemand_28 : decode cX6_setDemand 28 = .ok (.lconst 0, 1) := by decide +kernel
theorem dX6_setDemand_29 : decode cX6_setDemand 29 = .ok (.ldc2_w 104, 3) := by decide +kernel
theorem dX6_setDemand_32 : decode cX6_setDemand 32 = .ok (.invokestatic 60, 3) := by decide +kernel
theorem dX6_setDemand_35 : decode cX6_setDemand 35 = .ok (.ifCond .eq 7, 3) := by decide +kernel
theorem dX6_setDemand_38 : decode cX6_setDemand 38 = .ok (.iconst 1, 1) := by decide +kernel
theorem dX6_setDemand_39 : decode cX6_setDemand 39 = .ok (.goto 4, 3) := by decide +kernel
theorem dX6_setDemand_42 : decode cX6_setDemand 42 = .ok (.iconst 0, 1) := by decide +kernel
theorem dX6_setDemand_43 : decode cX6_setDemand 43 = .ok (.istore 5, 2) := by decide +kernel
theorem dX6_setDemand_45 : decode cX6_setDemand 45 = .ok (.aload_n 0, 1) := by decide +kernel
theorem dX6_setDemand_46 : decode cX6_setDemand 46 = .ok (.aload_n 0, 1) := by decide +kernel
theorem dX6_setDemand_47 : decode cX6_setDemand 47 = .ok (.iload_n 1, 1) := by decide +kernel
theorem dX6_setDemand_48 : decode cX6_setDemand 48 = .ok (.invokevirtual 106, 3) := by decide +kernel
theorem dX6_setDemand_51 : decode cX6_setDemand 51 = .ok (.ifCond .ne 7, 3) := by decide +kernel
theorem dX6_setDemand_54 : decode cX6_setDemand 54 = .ok (.iconst 1, 1) := by decide +kernel
theorem dX6_setDemand_55 : decode cX6_setDemand 55 = .ok (.goto 13, 3) := by decide +kernel
theorem dX6_setDemand_58 : decode cX6_setDemand 58 = .ok (.iload 5, 2) := by decide +kernel
theorem dX6_setDemand_60 : decode cX6_setDemand 60 = .ok (.ifCond .ne 7, 3) := by decide +kernel
theorem dX6_setDemand_63 : decode cX6_setDemand 63 = .ok (.iconst 2, 1) := by decide +kernel
theorem dX6_setDemand_64 : decode cX6_setDemand 64 = .ok (.goto 4, 3) := by decide +kernel
theorem dX6_setDemand_67 : decode cX6_setDemand 67 = .ok (.iconst 0, 1) := by decide +kernel
theorem dX6_setDemand_68 : decode cX6_setDemand 68 = .ok (.putfield 54, 3) := by decide +kernel
theorem dX6_setDemand_71 : decode cX6_setDemand 71 = .ok (.aload_n 0, 1) := by decide +kernel
theorem dX6_setDemand_72 : decode cX6_setDemand 72 = .ok (.getfield 54, 3) := by decide +kernel
theorem dX6_setDemand_75 : decode cX6_setDemand 75 = .ok (.ifCond .le 5, 3) := by decide +kernel
theorem dX6_setDemand_78 : decode cX6_setDemand 78 = .ok (.iconst (-1), 1) := by decide +kernel
theorem dX6_setDemand_79 : decode cX6_setDemand 79 = .ok (.ireturn, 1) := by decide +kernel
theorem dX6_setDemand_80 : decode cX6_setDemand 80 = .ok (.iconst 0, 1) := by decide +kernel
theorem dX6_setDemand_81 : decode cX6_setDemand 81 = .ok (.istore 6, 2) := by decide +kernel
theorem dX6_setDemand_83 : decode cX6_setDemand 83 = .ok (.iconst 0, 1) := by decide +kernel
theorem dX6_setDemand_84 : decode cX6_setDemand 84 = .ok (.istore 7, 2) := by decide +kernel
theorem dX6_setDemand_86 : decode cX6_setDemand 86 = .ok (.iload 7, 2) := by decide +kernel
theorem dX6_setDemand_88 : decode cX6_setDemand 88 = .ok (.bipush 48, 2) := by decide +kernel
theorem dX6_setDemand_90 : decode cX6_setDemand 90 = .ok (.if_icmp .ge 68, 3) := by decide +kernel
theorem dX6_setDemand_93 : decode cX6_setDemand 93 = .ok (.aload_n 0, 1) := by decide +kernel
theorem dX6_setDemand_94 : decode cX6_setDemand 94 = .ok (.getfield 25, 3) := by decide +kernel
theorem dX6_setDemand_97 : decode cX6_setDemand 97 = .ok (.bipush 48, 2) := by decide +kernel
theorem dX6_setDemand_99 : decode cX6_setDemand 99 = .ok (.iload_n 1, 1) := by decide +kernel
theorem dX6_setDemand_100 : decode cX6_setDemand 100 = .ok (.imul, 1) := by decide +kernel
theorem dX6_setDemand_101 : decode cX6_setDemand 101 = .ok (.iload 7, 2) := by decide +kernel
theorem dX6_setDemand_103 : decode cX6_setDemand 103 = .ok (.iadd, 1) := by decide +kernel
theorem dX6_setDemand_104 : decode cX6_setDemand 104 = .ok (.iload 7, 2) := by decide +kernel
theorem dX6_setDemand_106 : decode cX6_setDemand 106 = .ok (.i2l, 1) := by decide +kernel
theorem dX6_setDemand_107 : decode cX6_setDemand 107 = .ok (.iload_n 2, 1) := by decide +kernel
theorem dX6_setDemand_108 : decode cX6_setDemand 108 = .ok (.i2l, 1) := by decide +kernel
theorem dX6_setDemand_109 : decode cX6_setDemand 109 = .ok (.iload_n 3, 1) := by decide +kernel
theorem dX6_setDemand_110 : decode cX6_setDemand 110 = .ok (.i2l, 1) := by decide +kernel
theorem dX6_setDemand_111 : decode cX6_setDemand 111 = .ok (.invokestatic 60, 3) := by decide +kernel
theorem dX6_setDemand_114 : decode cX6_setDemand 114 = .ok (.ifCond .eq 8, 3) := by decide +kernel
theorem dX6_setDemand_117 : decode cX6_setDemand 117 = .ok (.iload 4, 2) := by decide +kernel
theorem dX6_setDemand_119 : decode cX6_setDemand 119 = .ok (.goto 15, 3) := by decide +kernel
theorem dX6_setDemand_122 : decode cX6_setDemand 122 = .ok (.aload_n 0, 1) := by decide +kernel
theorem dX6_setDemand_123 : decode cX6_setDemand 123 = .ok (.getfield 25, 3) := by decide +kernel
theorem dX6_setDemand_126 : decode cX6_setDemand 126 = .ok (.bipush 48, 2) := by decide +kernel
theorem dX6_setDemand_128 : decode cX6_setDemand 128 = .ok (.iload_n 1, 1) := by decide +kernel
theorem dX6_setDemand_129 : decode cX6_setDemand 129 = .ok (.imul, 1) := by decide +kernel
theorem dX6_setDemand_130 : decode cX6_setDemand 130 = .ok (.iload 7, 2) := by decide +kernel
theorem dX6_setDemand_132 : decode cX6_setDemand 132 = .ok (.iadd, 1) := by decide +kernel
theorem dX6_setDemand_133 : decode cX6_setDemand 133 = .ok (.iaload, 1) := by decide +kernel
theorem dX6_setDemand_134 : decode cX6_setDemand 134 = .ok (.iastore, 1) := by decide +kernel
theorem dX6_setDemand_135 : decode cX6_setDemand 135 = .ok (.iload 6, 2) := by decide +kernel
theorem dX6_setDemand_137 : decode cX6_setDemand 137 = .ok (.aload_n 0, 1) := by decide +kernel
theorem dX6_setDemand_138 : decode cX6_setDemand 138 = .ok (.getfield 25, 3) := by decide +kernel
theorem dX6_setDemand_141 : decode cX6_setDemand 141 = .ok (.bipush 48, 2) := by decide +kernel
theorem dX6_setDemand_143 : decode cX6_setDemand 143 = .ok (.iload_n 1, 1) := by decide +kernel
theorem dX6_setDemand_144 : decode cX6_setDemand 144 = .ok (.imul, 1) := by decide +kernel
theorem dX6_setDemand_145 : decode cX6_setDemand 145 = .ok (.iload 7, 2) := by decide +kernel
theorem dX6_setDemand_147 : decode cX6_setDemand 147 = .ok (.iadd, 1) := by decide +kernel
theorem dX6_setDemand_148 : decode cX6_setDemand 148 = .ok (.iaload, 1) := by decide +kernel
theorem dX6_setDemand_149 : decode cX6_setDemand 149 = .ok (.iadd, 1) := by decide +kernel
theorem dX6_setDemand_150 : decode cX6_setDemand 150 = .ok (.istore 6, 2) := by decide +kernel
theorem dX6_setDemand_152 : decode cX6_setDemand 152 = .ok (.iinc 7 1, 3) := by decide +kernel
theorem dX6_setDemand_155 : decode cX6_setDemand 155 = .ok (.goto (-69), 3) := by decide +kernel
theorem dX6_setDemand_158 : decode cX6_setDemand 158 = .ok (.iload 6, 2) := by decide +kernel
theorem dX6_setDemand_160 : decode cX6_setDemand 160 = .ok (.ireturn, 1) := by decide +kernel
theorem dX6_setPrice_0 : decode cX6_setPrice 0 = .ok (.aload_n 0, 1) := by decide +kernel
theorem dX6_setPrice_1 : decode cX6_setPrice 1 = .ok (.iload_n 1, 1) := by decide +kernel
theorem dX6_setPrice_2 : decode cX6_setPrice 2 = .ok (.i2l, 1) := by decide +kernel
theorem dX6_setPrice_3 : decode cX6_setPrice 3 = .ok (.lconst 0, 1) := by decide +kernel
theorem dX6_setPrice_4 : decode cX6_setPrice 4 = .ok (.ldc2_w 102, 3) := by decide +kernel
theorem dX6_setPrice_7 : decode cX6_setPrice 7 = .ok (.invokestatic 60, 3) := by decide +kernel
theorem dX6_setPrice_10 : decode cX6_setPrice 10 = .ok (.ifCond .eq 32, 3) := by decide +kernel
theorem dX6_setPrice_13 : decode cX6_setPrice 13 = .ok (.iload_n 2, 1) := by decide +kernel
theorem dX6_setPrice_14 : decode cX6_setPrice 14 = .ok (.i2l, 1) := by decide +kernel
theorem dX6_setPrice_15 : decode cX6_setPrice 15 = .ok (.iload_n 1, 1) := by decide +kernel
theorem dX6_setPrice_16 : decode cX6_setPrice 16 = .ok (.i2l, 1) := by decide +kernel
theorem dX6_setPrice_17 : decode cX6_setPrice 17 = .ok (.ldc2_w 102, 3) := by decide +kernel
theorem dX6_setPrice_20 : decode cX6_setPrice 20 = .ok (.invokestatic 60, 3) := by decide +kernel
theorem dX6_setPrice_23 : decode cX6_setPrice 23 = .ok (.ifCond .eq 19, 3) := by decide +kernel
theorem dX6_setPrice_26 : decode cX6_setPrice 26 = .ok (.iload_n 3, 1) := by decide +kernel
theorem dX6_setPrice_27 : decode cX6_setPrice 27 = .ok (.i2l, 1) := by decide +kernel
theorem dX6_setPrice_28 : decode cX6_setPrice 28 = .ok (.lconst 0, 1) := by decide +kernel
theorem dX6_setPrice_29 : decode cX6_setPrice 29 = .ok (.ldc2_w 109, 3) := by decide +kernel
theorem dX6_setPrice_32 : decode cX6_setPrice 32 = .ok (.invokestatic 60, 3) := by decide +kernel
theorem dX6_setPrice_35 : decode cX6_setPrice 35 = .ok (.ifCond .eq 7, 3) := by decide +kernel
theorem dX6_setPrice_38 : decode cX6_setPrice 38 = .ok (.iconst 0, 1) := by decide +kernel
theorem dX6_setPrice_39 : decode cX6_setPrice 39 = .ok (.goto 4, 3) := by decide +kernel
theorem dX6_setPrice_42 : decode cX6_setPrice 42 = .ok (.iconst 1, 1) := by decide +kernel
theorem dX6_setPrice_43 : decode cX6_setPrice 43 = .ok (.putfield 54, 3) := by decide +kernel
theorem dX6_setPrice_46 : decode cX6_setPrice 46 = .ok (.aload_n 0, 1) := by decide +kernel
theorem dX6_setPrice_47 : decode cX6_setPrice 47 = .ok (.getfield 54, 3) := by decide +kernel
theorem dX6_setPrice_50 : decode cX6_setPrice 50 = .ok (.ifCond .le 5, 3) := by decide +kernel
theorem dX6_setPrice_53 : decode cX6_setPrice 53 = .ok (.iconst (-1), 1) := by decide +kernel
theorem dX6_setPrice_54 : decode cX6_setPrice 54 = .ok (.ireturn, 1) := by decide +kernel
theorem dX6_setPrice_55 : decode cX6_setPrice 55 = .ok (.iconst 0, 1) := by decide +kernel
theorem dX6_setPrice_56 : decode cX6_setPrice 56 = .ok (.istore 4, 2) := by decide +kernel
theorem dX6_setPrice_58 : decode cX6_setPrice 58 = .ok (.iconst 0, 1) := by decide +kernel
theorem dX6_setPrice_59 : decode cX6_setPrice 59 = .ok (.istore 5, 2) := by decide +kernel
theorem dX6_setPrice_61 : decode cX6_setPrice 61 = .ok (.iload 5, 2) := by decide +kernel
theorem dX6_setPrice_63 : decode cX6_setPrice 63 = .ok (.bipush 48, 2) := by decide +kernel
theorem dX6_setPrice_65 : decode cX6_setPrice 65 = .ok (.if_icmp .ge 52, 3) := by decide +kernel
theorem dX6_setPrice_68 : decode cX6_setPrice 68 = .ok (.aload_n 0, 1) := by decide +kernel
theorem dX6_setPrice_69 : decode cX6_setPrice 69 = .ok (.getfield 31, 3) := by decide +kernel
theorem dX6_setPrice_72 : decode cX6_setPrice 72 = .ok (.iload 5, 2) := by decide +kernel
theorem dX6_setPrice_74 : decode cX6_setPrice 74 = .ok (.iload 5, 2) := by decide +kernel
theorem dX6_setPrice_76 : decode cX6_setPrice 76 = .ok (.i2l, 1) := by decide +kernel
theorem dX6_setPrice_77 : decode cX6_setPrice 77 = .ok (.iload_n 1, 1) := by decide +kernel
theorem dX6_setPrice_78 : decode cX6_setPrice 78 = .ok (.i2l, 1) := by decide +kernel
theorem dX6_setPrice_79 : decode cX6_setPrice 79 = .ok (.iload_n 2, 1) := by decide +kernel
theorem dX6_setPrice_80 : decode cX6_setPrice 80 = .ok (.i2l, 1) := by decide +kernel
theorem dX6_setPrice_81 : decode cX6_setPrice 81 = .ok (.invokestatic 60, 3) := by decide +kernel
theorem dX6_setPrice_84 : decode cX6_setPrice 84 = .ok (.ifCond .eq 7, 3) := by decide +kernel
theorem dX6_setPrice_87 : decode cX6_setPrice 87 = .ok (.iload_n 3, 1) := by decide +kernel
theorem dX6_setPrice_88 : decode cX6_setPrice 88 = .ok (.goto 10, 3) := by decide +kernel
theorem dX6_setPrice_91 : decode cX6_setPrice 91 = .ok (.aload_n 0, 1) := by decide +kernel
theorem dX6_setPrice_92 : decode cX6_setPrice 92 = .ok (.getfield 31, 3) := by decide +kernel
theorem dX6_setPrice_95 : decode cX6_setPrice 95 = .ok (.iload 5, 2) := by decide +kernel
theorem dX6_setPrice_97 : decode cX6_setPrice 97 = .ok (.iaload, 1) := by decide +kernel
theorem dX6_setPrice_98 : decode cX6_setPrice 98 = .ok (.iastore, 1) := by decide +kernel
theorem dX6_setPrice_99 : decode cX6_setPrice 99 = .ok (.iload 4, 2) := by decide +kernel
theorem dX6_setPrice_101 : decode cX6_setPrice 101 = .ok (.aload_n 0, 1) := by decide +kernel
theorem dX6_setPrice_102 : decode cX6_setPrice 102 = .ok (.getfield 31, 3) := by decide +kernel
theorem dX6_setPrice_105 : decode cX6_setPrice 105 = .ok (.iload 5, 2) := by decide +kernel
theorem dX6_setPrice_107 : decode cX6_setPrice 107 = .ok (.iaload, 1) := by decide +kernel
theorem dX6_setPrice_108 : decode cX6_setPrice 108 = .ok (.iadd, 1) := by decide +kernel
theorem dX6_setPrice_109 : decode cX6_setPrice 109 = .ok (.istore 4, 2) := by decide +kernel
theorem dX6_setPrice_111 : decode cX6_setPrice 111 = .ok (.iinc 5 1, 3) := by decide +kernel
theorem dX6_setPrice_114 : decode cX6_setPrice 114 = .ok (.goto (-53), 3) := by decide +kernel
theorem dX6_setPrice_117 : decode cX6_setPrice 117 = .ok (.iload 4, 2) := by decide +kernel
theorem dX6_setPrice_119 : decode cX6_setPrice 119 = .ok (.ireturn, 1) := by decide +kernel
theorem dX6_demand_0 : decode cX6_demand 0 = .ok (.aload_n 0, 1) := by decide +kernel
theorem dX6_demand_1 : decode cX6_demand 1 = .ok (.aload_n 0, 1) := by decide +kernel
theorem dX6_demand_2 : decode cX6_demand 2 = .ok (.iload_n 1, 1) := by decide +kernel
theorem dX6_demand_3 : decode cX6_demand 3 = .ok (.invokevirtual 106, 3) := by decide +kernel
theorem dX6_demand_6 : decode cX6_demand 6 = .ok (.ifCond .ne 7, 3) := by decide +kernel
theorem dX6_demand_9 : decode cX6_demand 9 = .ok (.iconst 1, 1) := by decide +kernel
theorem dX6_demand_10 : decode cX6_demand 10 = .ok (.goto 20, 3) := by decide +kernel
theorem dX6_demand_13 : decode cX6_demand 13 = .ok (.iload_n 2, 1) := by decide +kernel
theorem dX6_demand_14 : decode cX6_demand 14 = .ok (.i2l, 1) := by decide +kernel
theorem dX6_demand_15 : decode cX6_demand 15 = .ok (.lconst 0, 1) := by decide +kernel
theorem dX6_demand_16 : decode cX6_demand 16 = .ok (.ldc2_w 102, 3) := by decide +kernel
theorem dX6_demand_19 : decode cX6_demand 19 = .ok (.invokestatic 60, 3) := by decide +kernel
theorem dX6_demand_22 : decode cX6_demand 22 = .ok (.ifCond .ne 7, 3) := by decide +kernel
theorem dX6_demand_25 : decode cX6_demand 25 = .ok (.iconst 2, 1) := by decide +kernel
theorem dX6_demand_26 : decode cX6_demand 26 = .ok (.goto 4, 3) := by decide +kernel
theorem dX6_demand_29 : decode cX6_demand 29 = .ok (.iconst 0, 1) := by decide +kernel
theorem dX6_demand_30 : decode cX6_demand 30 = .ok (.putfield 54, 3) := by decide +kernel
theorem dX6_demand_33 : decode cX6_demand 33 = .ok (.aload_n 0, 1) := by decide +kernel
theorem dX6_demand_34 : decode cX6_demand 34 = .ok (.getfield 54, 3) := by decide +kernel
theorem dX6_demand_37 : decode cX6_demand 37 = .ok (.ifCond .ne 17, 3) := by decide +kernel
theorem dX6_demand_40 : decode cX6_demand 40 = .ok (.aload_n 0, 1) := by decide +kernel
theorem dX6_demand_41 : decode cX6_demand 41 = .ok (.getfield 25, 3) := by decide +kernel
theorem dX6_demand_44 : decode cX6_demand 44 = .ok (.bipush 48, 2) := by decide +kernel
theorem dX6_demand_46 : decode cX6_demand 46 = .ok (.iload_n 1, 1) := by decide +kernel
theorem dX6_demand_47 : decode cX6_demand 47 = .ok (.imul, 1) := by decide +kernel
theorem dX6_demand_48 : decode cX6_demand 48 = .ok (.iload_n 2, 1) := by decide +kernel
theorem dX6_demand_49 : decode cX6_demand 49 = .ok (.iadd, 1) := by decide +kernel
theorem dX6_demand_50 : decode cX6_demand 50 = .ok (.iaload, 1) := by decide +kernel
theorem dX6_demand_51 : decode cX6_demand 51 = .ok (.goto 4, 3) := by decide +kernel
theorem dX6_demand_54 : decode cX6_demand 54 = .ok (.iconst (-1), 1) := by decide +kernel
theorem dX6_demand_55 : decode cX6_demand 55 = .ok (.ireturn, 1) := by decide +kernel
theorem dX6_level_0 : decode cX6_level 0 = .ok (.aload_n 0, 1) := by decide +kernel
theorem dX6_level_1 : decode cX6_level 1 = .ok (.aload_n 0, 1) := by decide +kernel
theorem dX6_level_2 : decode cX6_level 2 = .ok (.iload_n 1, 1) := by decide +kernel
theorem dX6_level_3 : decode cX6_level 3 = .ok (.invokevirtual 106, 3) := by decide +kernel
theorem dX6_level_6 : decode cX6_level 6 = .ok (.ifCond .eq 7, 3) := by decide +kernel
theorem dX6_level_9 : decode cX6_level 9 = .ok (.iconst 0, 1) := by decide +kernel
theorem dX6_level_10 : decode cX6_level 10 = .ok (.goto 4, 3) := by decide +kernel
theorem dX6_level_13 : decode cX6_level 13 = .ok (.iconst 1, 1) := by decide +kernel
theorem dX6_level_14 : decode cX6_level 14 = .ok (.putfield 54, 3) := by decide +kernel
theorem dX6_level_17 : decode cX6_level 17 = .ok (.aload_n 0, 1) := by decide +kernel
theorem dX6_level_18 : decode cX6_level 18 = .ok (.getfield 54, 3) := by decide +kernel
theorem dX6_level_21 : decode cX6_level 21 = .ok (.ifCond .ne 15, 3) := by decide +kernel
theorem dX6_level_24 : decode cX6_level 24 = .ok (.aload_n 0, 1) := by decide +kernel
theorem dX6_level_25 : decode cX6_level 25 = .ok (.getfield 9, 3) := by decide +kernel
theorem dX6_level_28 : decode cX6_level 28 = .ok (.bipush 12, 2) := by decide +kernel
theorem dX6_level_30 : decode cX6_level 30 = .ok (.iload_n 1, 1) := by decide +kernel
theorem dX6_level_31 : decode cX6_level 31 = .ok (.iadd, 1) := by decide +kernel
theorem dX6_level_32 : decode cX6_level 32 = .ok (.iaload, 1) := by decide +kernel
theorem dX6_level_33 : decode cX6_level 33 = .ok (.goto 4, 3) := by decide +kernel
theorem dX6_level_36 : decode cX6_level 36 = .ok (.iconst (-1), 1) := by decide +kernel
theorem dX6_level_37 : decode cX6_level 37 = .ok (.ireturn, 1) := by decide +kernel
theorem dX6_shortOf_0 : decode cX6_shortOf 0 = .ok (.aload_n 0, 1) := by decide +kernel
theorem dX6_shortOf_1 : decode cX6_shortOf 1 = .ok (.aload_n 0, 1) := by decide +kernel
theorem dX6_shortOf_2 : decode cX6_shortOf 2 = .ok (.iload_n 1, 1) := by decide +kernel
theorem dX6_shortOf_3 : decode cX6_shortOf 3 = .ok (.invokevirtual 106, 3) := by decide +kernel
theorem dX6_shortOf_6 : decode cX6_shortOf 6 = .ok (.ifCond .eq 7, 3) := by decide +kernel
theorem dX6_shortOf_9 : decode cX6_shortOf 9 = .ok (.iconst 0, 1) := by decide +kernel
theorem dX6_shortOf_10 : decode cX6_shortOf 10 = .ok (.goto 4, 3) := by decide +kernel
theorem dX6_shortOf_13 : decode cX6_shortOf 13 = .ok (.iconst 1, 1) := by decide +kernel
theorem dX6_shortOf_14 : decode cX6_shortOf 14 = .ok (.putfield 54, 3) := by decide +kernel
theorem dX6_shortOf_17 : decode cX6_shortOf 17 = .ok (.aload_n 0, 1) := by decide +kernel
theorem dX6_shortOf_18 : decode cX6_shortOf 18 = .ok (.getfield 54, 3) := by decide +kernel
theorem dX6_shortOf_21 : decode cX6_shortOf 21 = .ok (.ifCond .ne 12, 3) := by decide +kernel
theorem dX6_shortOf_24 : decode cX6_shortOf 24 = .ok (.aload_n 0, 1) := by decide +kernel
theorem dX6_shortOf_25 : decode cX6_shortOf 25 = .ok (.getfield 28, 3) := by decide +kernel
theorem dX6_shortOf_28 : decode cX6_shortOf 28 = .ok (.iload_n 1, 1) := by decide +kernel
theorem dX6_shortOf_29 : decode cX6_shortOf 29 = .ok (.iaload, 1) := by decide +kernel
theorem dX6_shortOf_30 : decode cX6_shortOf 30 = .ok (.goto 4, 3) := by decide +kernel
theorem dX6_shortOf_33 : decode cX6_shortOf 33 = .ok (.iconst (-1), 1) := by decide +kernel
theorem dX6_shortOf_34 : decode cX6_shortOf 34 = .ok (.ireturn, 1) := by decide +kernel
theorem dX6_cleans_0 : decode cX6_cleans 0 = .ok (.aload_n 0, 1) := by decide +kernel
theorem dX6_cleans_1 : decode cX6_cleans 1 = .ok (.getfield 9, 3) := by decide +kernel
theorem dX6_cleans_4 : decode cX6_cleans 4 = .ok (.iconst 3, 1) := by decide +kernel
theorem dX6_cleans_5 : decode cX6_cleans 5 = .ok (.iload_n 1, 1) := by decide +kernel
theorem dX6_cleans_6 : decode cX6_cleans 6 = .ok (.imul, 1) := by decide +kernel
theorem dX6_cleans_7 : decode cX6_cleans 7 = .ok (.iconst 2, 1) := by decide +kernel
theorem dX6_cleans_8 : decode cX6_cleans 8 = .ok (.iadd, 1) := by decide +kernel
theorem dX6_cleans_9 : decode cX6_cleans 9 = .ok (.dup2, 1) := by decide +kernel
theorem dX6_cleans_10 : decode cX6_cleans 10 = .ok (.iaload, 1) := by decide +kernel
theorem dX6_cleans_11 : decode cX6_cleans 11 = .ok (.iconst 1, 1) := by decide +kernel
theorem dX6_cleans_12 : decode cX6_cleans 12 = .ok (.isub, 1) := by decide +kernel
theorem dX6_cleans_13 : decode cX6_cleans 13 = .ok (.iastore, 1) := by decide +kernel
theorem dX6_cleans_14 : decode cX6_cleans 14 = .ok (.aload_n 0, 1) := by decide +kernel
theorem dX6_cleans_15 : decode cX6_cleans 15 = .ok (.iload_n 1, 1) := by decide +kernel
theorem dX6_cleans_16 : decode cX6_cleans 16 = .ok (.iconst 2, 1) := by decide +kernel
theorem dX6_cleans_17 : decode cX6_cleans 17 = .ok (.invokevirtual 81, 3) := by decide +kernel
theorem dX6_cleans_20 : decode cX6_cleans 20 = .ok (.ifCond .ne 51, 3) := by decide +kernel
theorem dX6_cleans_23 : decode cX6_cleans 23 = .ok (.aload_n 0, 1) := by decide +kernel
theorem dX6_cleans_24 : decode cX6_cleans 24 = .ok (.getfield 9, 3) := by decide +kernel
theorem dX6_cleans_27 : decode cX6_cleans 27 = .ok (.iconst 3, 1) := by decide +kernel
theorem dX6_cleans_28 : decode cX6_cleans 28 = .ok (.iload_n 1, 1) := by decide +kernel
theorem dX6_cleans_29 : decode cX6_cleans 29 = .ok (.imul, 1) := by decide +kernel
theorem dX6_cleans_30 : decode cX6_cleans 30 = .ok (.iconst 0, 1) := by decide +kernel
theorem dX6_cleans_31 : decode cX6_cleans 31 = .ok (.iadd, 1) := by decide +kernel
theorem dX6_cleans_32 : decode cX6_cleans 32 = .ok (.aload_n 0, 1) := by decide +kernel
theorem dX6_cleans_33 : decode cX6_cleans 33 = .ok (.iload_n 1, 1) := by decide +kernel
theorem dX6_cleans_34 : decode cX6_cleans 34 = .ok (.iconst 0, 1) := by decide +kernel
theorem dX6_cleans_35 : decode cX6_cleans 35 = .ok (.invokevirtual 81, 3) := by decide +kernel
theorem dX6_cleans_38 : decode cX6_cleans 38 = .ok (.iconst 4, 1) := by decide +kernel
theorem dX6_cleans_39 : decode cX6_cleans 39 = .ok (.idiv, 1) := by decide +kernel
theorem dX6_cleans_40 : decode cX6_cleans 40 = .ok (.aload_n 0, 1) := by decide +kernel
theorem dX6_cleans_41 : decode cX6_cleans 41 = .ok (.iload_n 1, 1) := by decide +kernel
theorem dX6_cleans_42 : decode cX6_cleans 42 = .ok (.iconst 1, 1) := by decide +kernel
theorem dX6_cleans_43 : decode cX6_cleans 43 = .ok (.invokevirtual 81, 3) := by decide +kernel
theorem dX6_cleans_46 : decode cX6_cleans 46 = .ok (.iadd, 1) := by decide +kernel
theorem dX6_cleans_47 : decode cX6_cleans 47 = .ok (.iastore, 1) := by decide +kernel
theorem dX6_cleans_48 : decode cX6_cleans 48 = .ok (.aload_n 0, 1) := by decide +kernel
theorem dX6_cleans_49 : decode cX6_cleans 49 = .ok (.getfield 9, 3) := by decide +kernel
theorem dX6_cleans_52 : decode cX6_cleans 52 = .ok (.iconst 3, 1) := by decide +kernel
theorem dX6_cleans_53 : decode cX6_cleans 53 = .ok (.iload_n 1, 1) := by decide +kernel
theorem dX6_cleans_54 : decode cX6_cleans 54 = .ok (.imul, 1) := by decide +kernel
theorem dX6_cleans_55 : decode cX6_cleans 55 = .ok (.iconst 1, 1) := by decide +kernel
theorem dX6_cleans_56 : decode cX6_cleans 56 = .ok (.iadd, 1) := by decide +kernel
theorem dX6_cleans_57 : decode cX6_cleans 57 = .ok (.bipush 20, 2) := by decide +kernel
theorem dX6_cleans_59 : decode cX6_cleans 59 = .ok (.aload_n 0, 1) := by decide +kernel
theorem dX6_cleans_60 : decode cX6_cleans 60 = .ok (.iload_n 1, 1) := by decide +kernel
theorem dX6_cleans_61 : decode cX6_cleans 61 = .ok (.iconst 1, 1) := by decide +kernel
theorem dX6_cleans_62 : decode cX6_cleans 62 = .ok (.invokevirtual 81, 3) := by decide +kernel
theorem dX6_cleans_65 : decode cX6_cleans 65 = .ok (.iconst 1, 1) := by decide +kernel
theorem dX6_cleans_66 : decode cX6_cleans 66 = .ok (.iadd, 1) := by decide +kernel
theorem dX6_cleans_67 : decode cX6_cleans 67 = .ok (.invokestatic 111, 3) := by decide +kernel
theorem dX6_cleans_70 : decode cX6_cleans 70 = .ok (.iastore, 1) := by decide +kernel
theorem dX6_cleans_71 : decode cX6_cleans 71 = .ok (.return_, 1) := by decide +kernel
theorem dX6_works_0 : decode cX6_works 0 = .ok (.aload_n 0, 1) := by decide +kernel
theorem dX6_works_1 : decode cX6_works 1 = .ok (.dup, 1) := by decide +kernel
theorem dX6_works_2 : decode cX6_works 2 = .ok (.getfield 114, 3) := by decide +kernel
theorem dX6_works_5 : decode cX6_works 5 = .ok (.aload_n 0, 1) := by decide +kernel
theorem dX6_works_6 : decode cX6_works 6 = .ok (.iload_n 1, 1) := by decide +kernel
theorem dX6_works_7 : decode cX6_works 7 = .ok (.invokevirtual 90, 3) := by decide +kernel
theorem dX6_works_10 : decode cX6_works 10 = .ok (.iadd, 1) := by decide +kernel
theorem dX6_works_11 : decode cX6_works 11 = .ok (.putfield 114, 3) := by decide +kernel
theorem dX6_works_14 : decode cX6_works 14 = .ok (.aload_n 0, 1) := by decide +kernel
theorem dX6_works_15 : decode cX6_works 15 = .ok (.dup, 1) := by decide +kernel
theorem dX6_works_16 : decode cX6_works 16 = .ok (.getfield 117, 3) := by decide +kernel
theorem dX6_works_19 : decode cX6_works 19 = .ok (.aload_n 0, 1) := by decide +kernel
theorem dX6_works_20 : decode cX6_works 20 = .ok (.iload_n 1, 1) := by decide +kernel
theorem dX6_works_21 : decode cX6_works 21 = .ok (.invokevirtual 94, 3) := by decide +kernel
theorem dX6_works_24 : decode cX6_works 24 = .ok (.iadd, 1) := by decide +kernel
theorem dX6_works_25 : decode cX6_works 25 = .ok (.putfield 117, 3) := by decide +kernel
theorem dX6_works_28 : decode cX6_works 28 = .ok (.aload_n 0, 1) := by decide +kernel
theorem dX6_works_29 : decode cX6_works 29 = .ok (.dup, 1) := by decide +kernel
theorem dX6_works_30 : decode cX6_works 30 = .ok (.getfield 120, 3) := by decide +kernel
theorem dX6_works_33 : decode cX6_works 33 = .ok (.aload_n 0, 1) := by decide +kernel
theorem dX6_works_34 : decode cX6_works 34 = .ok (.iload_n 1, 1) := by decide +kernel
theorem dX6_works_35 : decode cX6_works 35 = .ok (.invokevirtual 97, 3) := by decide +kernel
theorem dX6_works_38 : decode cX6_works 38 = .ok (.iadd, 1) := by decide +kernel
theorem dX6_works_39 : decode cX6_works 39 = .ok (.putfield 120, 3) := by decide +kernel
theorem dX6_works_42 : decode cX6_works 42 = .ok (.aload_n 0, 1) := by decide +kernel
theorem dX6_works_43 : decode cX6_works 43 = .ok (.getfield 19, 3) := by decide +kernel
theorem dX6_works_46 : decode cX6_works 46 = .ok (.iload_n 1, 1) := by decide +kernel
theorem dX6_works_47 : decode cX6_works 47 = .ok (.iaload, 1) := by decide +kernel
theorem dX6_works_48 : decode cX6_works 48 = .ok (.bipush 45, 2) := by decide +kernel
theorem dX6_works_50 : decode cX6_works 50 = .ok (.if_icmp .gt 7, 3) := by decide +kernel
theorem dX6_works_53 : decode cX6_works 53 = .ok (.iconst 1, 1) := by decide +kernel
theorem dX6_works_54 : decode cX6_works 54 = .ok (.goto 19, 3) := by decide +kernel
theorem dX6_works_57 : decode cX6_works 57 = .ok (.aload_n 0, 1) := by decide +kernel
theorem dX6_works_58 : decode cX6_works 58 = .ok (.getfield 19, 3) := by decide +kernel
theorem dX6_works_61 : decode cX6_works 61 = .ok (.iload_n 1, 1) := by decide +kernel
theorem dX6_works_62 : decode cX6_works 62 = .ok (.iaload, 1) := by decide +kernel
theorem dX6_works_63 : decode cX6_works 63 = .ok (.bipush 55, 2) := by decide +kernel
theorem dX6_works_65 : decode cX6_works 65 = .ok (.if_icmp .gt 7, 3) := by decide +kernel
theorem dX6_works_68 : decode cX6_works 68 = .ok (.iconst 2, 1) := by decide +kernel
theorem dX6_works_69 : decode cX6_works 69 = .ok (.goto 4, 3) := by decide +kernel
theorem dX6_works_72 : decode cX6_works 72 = .ok (.iconst 3, 1) := by decide +kernel
theorem dX6_works_73 : decode cX6_works 73 = .ok (.istore_n 2, 1) := by decide +kernel
theorem dX6_works_74 : decode cX6_works 74 = .ok (.aload_n 0, 1) := by decide +kernel
theorem dX6_works_75 : decode cX6_works 75 = .ok (.getfield 9, 3) := by decide +kernel
theorem dX6_works_78 : decode cX6_works 78 = .ok (.iconst 3, 1) := by decide +kernel
theorem dX6_works_79 : decode cX6_works 79 = .ok (.iload_n 1, 1) := by decide +kernel
theorem dX6_works_80 : decode cX6_works 80 = .ok (.imul, 1) := by decide +kernel
theorem dX6_works_81 : decode cX6_works 81 = .ok (.iconst 0, 1) := by decide +kernel
theorem dX6_works_82 : decode cX6_works 82 = .ok (.iadd, 1) := by decide +kernel
theorem dX6_works_83 : decode cX6_works 83 = .ok (.bipush 90, 2) := by decide +kernel
theorem dX6_works_85 : decode cX6_works 85 = .ok (.aload_n 0, 1) := by decide +kernel
theorem dX6_works_86 : decode cX6_works 86 = .ok (.iload_n 1, 1) := by decide +kernel
theorem dX6_works_87 : decode cX6_works 87 = .ok (.iconst 0, 1) := by decide +kernel
theorem dX6_works_88 : decode cX6_works 88 = .ok (.invokevirtual 81, 3) := by decide +kernel
theorem dX6_works_91 : decode cX6_works 91 = .ok (.iload_n 2, 1) := by decide +kernel
theorem dX6_works_92 : decode cX6_works 92 = .ok (.iadd, 1) := by decide +kernel
theorem dX6_works_93 : decode cX6_works 93 = .ok (.invokestatic 111, 3) := by decide +kernel
theorem dX6_works_96 : decode cX6_works 96 = .ok (.iastore, 1) := by decide +kernel
theorem dX6_works_97 : decode cX6_works 97 = .ok (.return_, 1) := by decide +kernel
theorem dX6_goes_0 : decode cX6_goes 0 = .ok (.aload_n 0, 1) := by decide +kernel
theorem dX6_goes_1 : decode cX6_goes 1 = .ok (.iconst 0, 1) := by decide +kernel
theorem dX6_goes_2 : decode cX6_goes 2 = .ok (.putfield 114, 3) := by decide +kernel
theorem dX6_goes_5 : decode cX6_goes 5 = .ok (.aload_n 0, 1) := by decide +kernel
theorem dX6_goes_6 : decode cX6_goes 6 = .ok (.iconst 0, 1) := by decide +kernel
theorem dX6_goes_7 : decode cX6_goes 7 = .ok (.putfield 117, 3) := by decide +kernel
theorem dX6_goes_10 : decode cX6_goes 10 = .ok (.aload_n 0, 1) := by decide +kernel
theorem dX6_goes_11 : decode cX6_goes 11 = .ok (.iconst 0, 1) := by decide +kernel
theorem dX6_goes_12 : decode cX6_goes 12 = .ok (.putfield 120, 3) := by decide +kernel
theorem dX6_goes_15 : decode cX6_goes 15 = .ok (.aload_n 0, 1) := by decide +kernel
theorem dX6_goes_16 : decode cX6_goes 16 = .ok (.iconst 0, 1) := by decide +kernel
theorem dX6_goes_17 : decode cX6_goes 17 = .ok (.putfield 123, 3) := by decide +kernel
theorem dX6_goes_20 : decode cX6_goes 20 = .ok (.iconst 0, 1) := by decide +kernel
theorem dX6_goes_21 : decode cX6_goes 21 = .ok (.istore_n 3, 1) := by decide +kernel
theorem dX6_goes_22 : decode cX6_goes 22 = .ok (.iload_n 3, 1) := by decide +kernel
theorem dX6_goes_23 : decode cX6_goes 23 = .ok (.aload_n 0, 1) := by decide +kernel
