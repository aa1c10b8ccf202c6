theorem dX4_runTrain_20 : decode cX4_runTrain 20 = .ok (.dup, 1) := by decide +kernel
theorem dX4_runTrain_21 : decode cX4_runTrain 21 = .ok (.getfield 33, 3) := by decide +kernel
theorem dX4_runTrain_24 : decode cX4_runTrain 24 = .ok (.iload_n 3, 1) := by decide +kernel
theorem dX4_runTrain_25 : decode cX4_runTrain 25 = .ok (.iadd, 1) := by decide +kernel
theorem dX4_runTrain_26 : decode cX4_runTrain 26 = .ok (.putfield 33, 3) := by decide +kernel
theorem dX4_runTrain_29 : decode cX4_runTrain 29 = .ok (.aload_n 0, 1) := by decide +kernel
theorem dX4_runTrain_30 : decode cX4_runTrain 30 = .ok (.dup, 1) := by decide +kernel
theorem dX4_runTrain_31 : decode cX4_runTrain 31 = .ok (.getfield 37, 3) := by decide +kernel
theorem dX4_runTrain_34 : decode cX4_runTrain 34 = .ok (.iload 4, 2) := by decide +kernel
theorem dX4_runTrain_36 : decode cX4_runTrain 36 = .ok (.iadd, 1) := by decide +kernel
theorem dX4_runTrain_37 : decode cX4_runTrain 37 = .ok (.putfield 37, 3) := by decide +kernel
theorem dX4_runTrain_40 : decode cX4_runTrain 40 = .ok (.aload_n 0, 1) := by decide +kernel
theorem dX4_runTrain_41 : decode cX4_runTrain 41 = .ok (.dup, 1) := by decide +kernel
theorem dX4_runTrain_42 : decode cX4_runTrain 42 = .ok (.getfield 40, 3) := by decide +kernel
theorem dX4_runTrain_45 : decode cX4_runTrain 45 = .ok (.iload 4, 2) := by decide +kernel
theorem dX4_runTrain_47 : decode cX4_runTrain 47 = .ok (.iload_n 3, 1) := by decide +kernel
theorem dX4_runTrain_48 : decode cX4_runTrain 48 = .ok (.isub, 1) := by decide +kernel
theorem dX4_runTrain_49 : decode cX4_runTrain 49 = .ok (.iadd, 1) := by decide +kernel
theorem dX4_runTrain_50 : decode cX4_runTrain 50 = .ok (.putfield 40, 3) := by decide +kernel
theorem dX4_runTrain_53 : decode cX4_runTrain 53 = .ok (.aload_n 0, 1) := by decide +kernel
theorem dX4_runTrain_54 : decode cX4_runTrain 54 = .ok (.getfield 9, 3) := by decide +kernel
theorem dX4_runTrain_57 : decode cX4_runTrain 57 = .ok (.iload_n 2, 1) := by decide +kernel
theorem dX4_runTrain_58 : decode cX4_runTrain 58 = .ok (.bipush 90, 2) := by decide +kernel
theorem dX4_runTrain_60 : decode cX4_runTrain 60 = .ok (.aload_n 0, 1) := by decide +kernel
theorem dX4_runTrain_61 : decode cX4_runTrain 61 = .ok (.getfield 9, 3) := by decide +kernel
theorem dX4_runTrain_64 : decode cX4_runTrain 64 = .ok (.iload_n 2, 1) := by decide +kernel
theorem dX4_runTrain_65 : decode cX4_runTrain 65 = .ok (.iaload, 1) := by decide +kernel
theorem dX4_runTrain_66 : decode cX4_runTrain 66 = .ok (.aload_n 1, 1) := by decide +kernel
theorem dX4_runTrain_67 : decode cX4_runTrain 67 = .ok (.iload_n 2, 1) := by decide +kernel
theorem dX4_runTrain_68 : decode cX4_runTrain 68 = .ok (.invokevirtual 83, 3) := by decide +kernel
theorem dX4_runTrain_71 : decode cX4_runTrain 71 = .ok (.iadd, 1) := by decide +kernel
theorem dX4_runTrain_72 : decode cX4_runTrain 72 = .ok (.invokestatic 70, 3) := by decide +kernel
theorem dX4_runTrain_75 : decode cX4_runTrain 75 = .ok (.iastore, 1) := by decide +kernel
theorem dX4_runTrain_76 : decode cX4_runTrain 76 = .ok (.aload_n 1, 1) := by decide +kernel
theorem dX4_runTrain_77 : decode cX4_runTrain 77 = .ok (.iload_n 2, 1) := by decide +kernel
theorem dX4_runTrain_78 : decode cX4_runTrain 78 = .ok (.iload 4, 2) := by decide +kernel
theorem dX4_runTrain_80 : decode cX4_runTrain 80 = .ok (.invokevirtual 86, 3) := by decide +kernel
theorem dX4_runTrain_83 : decode cX4_runTrain 83 = .ok (.ireturn, 1) := by decide +kernel
theorem dX4_pour_0 : decode cX4_pour 0 = .ok (.aload_n 0, 1) := by decide +kernel
theorem dX4_pour_1 : decode cX4_pour 1 = .ok (.getfield 33, 3) := by decide +kernel
theorem dX4_pour_4 : decode cX4_pour 4 = .ok (.istore_n 2, 1) := by decide +kernel
theorem dX4_pour_5 : decode cX4_pour 5 = .ok (.iconst 0, 1) := by decide +kernel
theorem dX4_pour_6 : decode cX4_pour 6 = .ok (.istore_n 3, 1) := by decide +kernel
theorem dX4_pour_7 : decode cX4_pour 7 = .ok (.iload_n 3, 1) := by decide +kernel
theorem dX4_pour_8 : decode cX4_pour 8 = .ok (.aload_n 1, 1) := by decide +kernel
theorem dX4_pour_9 : decode cX4_pour 9 = .ok (.getfield 89, 3) := by decide +kernel
theorem dX4_pour_12 : decode cX4_pour 12 = .ok (.if_icmp .ge 44, 3) := by decide +kernel
theorem dX4_pour_15 : decode cX4_pour 15 = .ok (.iload_n 2, 1) := by decide +kernel
theorem dX4_pour_16 : decode cX4_pour 16 = .ok (.aload_n 1, 1) := by decide +kernel
theorem dX4_pour_17 : decode cX4_pour 17 = .ok (.getfield 92, 3) := by decide +kernel
theorem dX4_pour_20 : decode cX4_pour 20 = .ok (.iload_n 3, 1) := by decide +kernel
theorem dX4_pour_21 : decode cX4_pour 21 = .ok (.iaload, 1) := by decide +kernel
theorem dX4_pour_22 : decode cX4_pour 22 = .ok (.aload_n 0, 1) := by decide +kernel
theorem dX4_pour_23 : decode cX4_pour 23 = .ok (.getfield 21, 3) := by decide +kernel
theorem dX4_pour_26 : decode cX4_pour 26 = .ok (.iload_n 3, 1) := by decide +kernel
theorem dX4_pour_27 : decode cX4_pour 27 = .ok (.iaload, 1) := by decide +kernel
theorem dX4_pour_28 : decode cX4_pour 28 = .ok (.isub, 1) := by decide +kernel
theorem dX4_pour_29 : decode cX4_pour 29 = .ok (.invokestatic 70, 3) := by decide +kernel
theorem dX4_pour_32 : decode cX4_pour 32 = .ok (.istore 4, 2) := by decide +kernel
theorem dX4_pour_34 : decode cX4_pour 34 = .ok (.aload_n 0, 1) := by decide +kernel
theorem dX4_pour_35 : decode cX4_pour 35 = .ok (.getfield 21, 3) := by decide +kernel
theorem dX4_pour_38 : decode cX4_pour 38 = .ok (.iload_n 3, 1) := by decide +kernel
theorem dX4_pour_39 : decode cX4_pour 39 = .ok (.dup2, 1) := by decide +kernel
theorem dX4_pour_40 : decode cX4_pour 40 = .ok (.iaload, 1) := by decide +kernel
theorem dX4_pour_41 : decode cX4_pour 41 = .ok (.iload 4, 2) := by decide +kernel
theorem dX4_pour_43 : decode cX4_pour 43 = .ok (.iadd, 1) := by decide +kernel
theorem dX4_pour_44 : decode cX4_pour 44 = .ok (.iastore, 1) := by decide +kernel
theorem dX4_pour_45 : decode cX4_pour 45 = .ok (.iload_n 2, 1) := by decide +kernel
theorem dX4_pour_46 : decode cX4_pour 46 = .ok (.iload 4, 2) := by decide +kernel
theorem dX4_pour_48 : decode cX4_pour 48 = .ok (.isub, 1) := by decide +kernel
theorem dX4_pour_49 : decode cX4_pour 49 = .ok (.istore_n 2, 1) := by decide +kernel
theorem dX4_pour_50 : decode cX4_pour 50 = .ok (.iinc 3 1, 3) := by decide +kernel
theorem dX4_pour_53 : decode cX4_pour 53 = .ok (.goto (-46), 3) := by decide +kernel
theorem dX4_pour_56 : decode cX4_pour 56 = .ok (.aload_n 0, 1) := by decide +kernel
theorem dX4_pour_57 : decode cX4_pour 57 = .ok (.iload_n 2, 1) := by decide +kernel
theorem dX4_pour_58 : decode cX4_pour 58 = .ok (.putfield 95, 3) := by decide +kernel
theorem dX4_pour_61 : decode cX4_pour 61 = .ok (.return_, 1) := by decide +kernel
theorem dX4_serve_0 : decode cX4_serve 0 = .ok (.aload_n 0, 1) := by decide +kernel
theorem dX4_serve_1 : decode cX4_serve 1 = .ok (.iconst 0, 1) := by decide +kernel
theorem dX4_serve_2 : decode cX4_serve 2 = .ok (.putfield 98, 3) := by decide +kernel
theorem dX4_serve_5 : decode cX4_serve 5 = .ok (.aload_n 0, 1) := by decide +kernel
theorem dX4_serve_6 : decode cX4_serve 6 = .ok (.iconst 0, 1) := by decide +kernel
theorem dX4_serve_7 : decode cX4_serve 7 = .ok (.putfield 101, 3) := by decide +kernel
theorem dX4_serve_10 : decode cX4_serve 10 = .ok (.iconst 0, 1) := by decide +kernel
theorem dX4_serve_11 : decode cX4_serve 11 = .ok (.istore_n 3, 1) := by decide +kernel
theorem dX4_serve_12 : decode cX4_serve 12 = .ok (.iload_n 3, 1) := by decide +kernel
theorem dX4_serve_13 : decode cX4_serve 13 = .ok (.aload_n 1, 1) := by decide +kernel
theorem dX4_serve_14 : decode cX4_serve 14 = .ok (.getfield 89, 3) := by decide +kernel
theorem dX4_serve_17 : decode cX4_serve 17 = .ok (.if_icmp .ge 76, 3) := by decide +kernel
theorem dX4_serve_20 : decode cX4_serve 20 = .ok (.aload_n 1, 1) := by decide +kernel
theorem dX4_serve_21 : decode cX4_serve 21 = .ok (.getfield 104, 3) := by decide +kernel
theorem dX4_serve_24 : decode cX4_serve 24 = .ok (.iload_n 3, 1) := by decide +kernel
theorem dX4_serve_25 : decode cX4_serve 25 = .ok (.aaload, 1) := by decide +kernel
theorem dX4_serve_26 : decode cX4_serve 26 = .ok (.iload_n 2, 1) := by decide +kernel
theorem dX4_serve_27 : decode cX4_serve 27 = .ok (.iaload, 1) := by decide +kernel
theorem dX4_serve_28 : decode cX4_serve 28 = .ok (.istore 4, 2) := by decide +kernel
theorem dX4_serve_30 : decode cX4_serve 30 = .ok (.iload 4, 2) := by decide +kernel
theorem dX4_serve_32 : decode cX4_serve 32 = .ok (.aload_n 0, 1) := by decide +kernel
theorem dX4_serve_33 : decode cX4_serve 33 = .ok (.getfield 21, 3) := by decide +kernel
theorem dX4_serve_36 : decode cX4_serve 36 = .ok (.iload_n 3, 1) := by decide +kernel
theorem dX4_serve_37 : decode cX4_serve 37 = .ok (.iaload, 1) := by decide +kernel
theorem dX4_serve_38 : decode cX4_serve 38 = .ok (.invokestatic 70, 3) := by decide +kernel
theorem dX4_serve_41 : decode cX4_serve 41 = .ok (.istore 5, 2) := by decide +kernel
theorem dX4_serve_43 : decode cX4_serve 43 = .ok (.aload_n 0, 1) := by decide +kernel
theorem dX4_serve_44 : decode cX4_serve 44 = .ok (.getfield 21, 3) := by decide +kernel
theorem dX4_serve_47 : decode cX4_serve 47 = .ok (.iload_n 3, 1) := by decide +kernel
theorem dX4_serve_48 : decode cX4_serve 48 = .ok (.dup2, 1) := by decide +kernel
theorem dX4_serve_49 : decode cX4_serve 49 = .ok (.iaload, 1) := by decide +kernel
theorem dX4_serve_50 : decode cX4_serve 50 = .ok (.iload 5, 2) := by decide +kernel
theorem dX4_serve_52 : decode cX4_serve 52 = .ok (.isub, 1) := by decide +kernel
theorem dX4_serve_53 : decode cX4_serve 53 = .ok (.iastore, 1) := by decide +kernel
theorem dX4_serve_54 : decode cX4_serve 54 = .ok (.aload_n 0, 1) := by decide +kernel
theorem dX4_serve_55 : decode cX4_serve 55 = .ok (.getfield 24, 3) := by decide +kernel
theorem dX4_serve_58 : decode cX4_serve 58 = .ok (.iload_n 3, 1) := by decide +kernel
theorem dX4_serve_59 : decode cX4_serve 59 = .ok (.iload 4, 2) := by decide +kernel
theorem dX4_serve_61 : decode cX4_serve 61 = .ok (.iload 5, 2) := by decide +kernel
theorem dX4_serve_63 : decode cX4_serve 63 = .ok (.isub, 1) := by decide +kernel
theorem dX4_serve_64 : decode cX4_serve 64 = .ok (.iastore, 1) := by decide +kernel
theorem dX4_serve_65 : decode cX4_serve 65 = .ok (.aload_n 0, 1) := by decide +kernel
theorem dX4_serve_66 : decode cX4_serve 66 = .ok (.dup, 1) := by decide +kernel
theorem dX4_serve_67 : decode cX4_serve 67 = .ok (.getfield 98, 3) := by decide +kernel
theorem dX4_serve_70 : decode cX4_serve 70 = .ok (.iload 5, 2) := by decide +kernel
theorem dX4_serve_72 : decode cX4_serve 72 = .ok (.iadd, 1) := by decide +kernel
theorem dX4_serve_73 : decode cX4_serve 73 = .ok (.putfield 98, 3) := by decide +kernel
theorem dX4_serve_76 : decode cX4_serve 76 = .ok (.aload_n 0, 1) := by decide +kernel
theorem dX4_serve_77 : decode cX4_serve 77 = .ok (.dup, 1) := by decide +kernel
theorem dX4_serve_78 : decode cX4_serve 78 = .ok (.getfield 101, 3) := by decide +kernel
theorem dX4_serve_81 : decode cX4_serve 81 = .ok (.iload 4, 2) := by decide +kernel
theorem dX4_serve_83 : decode cX4_serve 83 = .ok (.iadd, 1) := by decide +kernel
theorem dX4_serve_84 : decode cX4_serve 84 = .ok (.putfield 101, 3) := by decide +kernel
theorem dX4_serve_87 : decode cX4_serve 87 = .ok (.iinc 3 1, 3) := by decide +kernel
theorem dX4_serve_90 : decode cX4_serve 90 = .ok (.goto (-78), 3) := by decide +kernel
theorem dX4_serve_93 : decode cX4_serve 93 = .ok (.aload_n 0, 1) := by decide +kernel
theorem dX4_serve_94 : decode cX4_serve 94 = .ok (.aload_n 0, 1) := by decide +kernel
theorem dX4_serve_95 : decode cX4_serve 95 = .ok (.getfield 101, 3) := by decide +kernel
theorem dX4_serve_98 : decode cX4_serve 98 = .ok (.aload_n 0, 1) := by decide +kernel
theorem dX4_serve_99 : decode cX4_serve 99 = .ok (.getfield 98, 3) := by decide +kernel
theorem dX4_serve_102 : decode cX4_serve 102 = .ok (.isub, 1) := by decide +kernel
theorem dX4_serve_103 : decode cX4_serve 103 = .ok (.putfield 108, 3) := by decide +kernel
theorem dX4_serve_106 : decode cX4_serve 106 = .ok (.return_, 1) := by decide +kernel
theorem dX5_init_0 : decode cX5_init 0 = .ok (.aload_n 0, 1) := by decide +kernel
theorem dX5_init_1 : decode cX5_init 1 = .ok (.invokespecial 1, 3) := by decide +kernel
theorem dX5_init_4 : decode cX5_init 4 = .ok (.aload_n 0, 1) := by decide +kernel
theorem dX5_init_5 : decode cX5_init 5 = .ok (.new 7, 3) := by decide +kernel
theorem dX5_init_8 : decode cX5_init 8 = .ok (.dup, 1) := by decide +kernel
theorem dX5_init_9 : decode cX5_init 9 = .ok (.invokespecial 9, 3) := by decide +kernel
theorem dX5_init_12 : decode cX5_init 12 = .ok (.putfield 10, 3) := by decide +kernel
theorem dX5_init_15 : decode cX5_init 15 = .ok (.aload_n 0, 1) := by decide +kernel
theorem dX5_init_16 : decode cX5_init 16 = .ok (.new 16, 3) := by decide +kernel
theorem dX5_init_19 : decode cX5_init 19 = .ok (.dup, 1) := by decide +kernel
theorem dX5_init_20 : decode cX5_init 20 = .ok (.invokespecial 18, 3) := by decide +kernel
theorem dX5_init_23 : decode cX5_init 23 = .ok (.putfield 19, 3) := by decide +kernel
theorem dX5_init_26 : decode cX5_init 26 = .ok (.aload_n 0, 1) := by decide +kernel
theorem dX5_init_27 : decode cX5_init 27 = .ok (.new 23, 3) := by decide +kernel
theorem dX5_init_30 : decode cX5_init 30 = .ok (.dup, 1) := by decide +kernel
theorem dX5_init_31 : decode cX5_init 31 = .ok (.invokespecial 25, 3) := by decide +kernel
theorem dX5_init_34 : decode cX5_init 34 = .ok (.putfield 26, 3) := by decide +kernel
theorem dX5_init_37 : decode cX5_init 37 = .ok (.aload_n 0, 1) := by decide +kernel
theorem dX5_init_38 : decode cX5_init 38 = .ok (.new 30, 3) := by decide +kernel
theorem dX5_init_41 : decode cX5_init 41 = .ok (.dup, 1) := by decide +kernel
theorem dX5_init_42 : decode cX5_init 42 = .ok (.aload_n 0, 1) := by decide +kernel
theorem dX5_init_43 : decode cX5_init 43 = .ok (.getfield 10, 3) := by decide +kernel
theorem dX5_init_46 : decode cX5_init 46 = .ok (.aload_n 0, 1) := by decide +kernel
theorem dX5_init_47 : decode cX5_init 47 = .ok (.getfield 26, 3) := by decide +kernel
theorem dX5_init_50 : decode cX5_init 50 = .ok (.invokespecial 32, 3) := by decide +kernel
theorem dX5_init_53 : decode cX5_init 53 = .ok (.putfield 35, 3) := by decide +kernel
theorem dX5_init_56 : decode cX5_init 56 = .ok (.aload_n 0, 1) := by decide +kernel
theorem dX5_init_57 : decode cX5_init 57 = .ok (.new 39, 3) := by decide +kernel
theorem dX5_init_60 : decode cX5_init 60 = .ok (.dup, 1) := by decide +kernel
theorem dX5_init_61 : decode cX5_init 61 = .ok (.invokespecial 41, 3) := by decide +kernel
theorem dX5_init_64 : decode cX5_init 64 = .ok (.putfield 42, 3) := by decide +kernel
theorem dX5_init_67 : decode cX5_init 67 = .ok (.aload_n 0, 1) := by decide +kernel
theorem dX5_init_68 : decode cX5_init 68 = .ok (.iconst 4, 1) := by decide +kernel
theorem dX5_init_69 : decode cX5_init 69 = .ok (.putfield 46, 3) := by decide +kernel
theorem dX5_init_72 : decode cX5_init 72 = .ok (.aload_n 0, 1) := by decide +kernel
theorem dX5_init_73 : decode cX5_init 73 = .ok (.iconst 0, 1) := by decide +kernel
theorem dX5_init_74 : decode cX5_init 74 = .ok (.putfield 50, 3) := by decide +kernel
theorem dX5_init_77 : decode cX5_init 77 = .ok (.return_, 1) := by decide +kernel
theorem dX5_addTrain_0 : decode cX5_addTrain 0 = .ok (.iload_n 1, 1) := by decide +kernel
theorem dX5_addTrain_1 : decode cX5_addTrain 1 = .ok (.iconst 1, 1) := by decide +kernel
theorem dX5_addTrain_2 : decode cX5_addTrain 2 = .ok (.bipush 20, 2) := by decide +kernel
theorem dX5_addTrain_4 : decode cX5_addTrain 4 = .ok (.invokestatic 53, 3) := by decide +kernel
theorem dX5_addTrain_7 : decode cX5_addTrain 7 = .ok (.aload_n 0, 1) := by decide +kernel
theorem dX5_addTrain_8 : decode cX5_addTrain 8 = .ok (.getfield 10, 3) := by decide +kernel
theorem dX5_addTrain_11 : decode cX5_addTrain 11 = .ok (.getfield 57, 3) := by decide +kernel
theorem dX5_addTrain_14 : decode cX5_addTrain 14 = .ok (.iconst 4, 1) := by decide +kernel
theorem dX5_addTrain_15 : decode cX5_addTrain 15 = .ok (.if_icmp .lt 13, 3) := by decide +kernel
theorem dX5_addTrain_18 : decode cX5_addTrain 18 = .ok (.new 60, 3) := by decide +kernel
theorem dX5_addTrain_21 : decode cX5_addTrain 21 = .ok (.dup, 1) := by decide +kernel
theorem dX5_addTrain_22 : decode cX5_addTrain 22 = .ok (.ldc 62, 2) := by decide +kernel
theorem dX5_addTrain_24 : decode cX5_addTrain 24 = .ok (.invokespecial 64, 3) := by decide +kernel
theorem dX5_addTrain_27 : decode cX5_addTrain 27 = .ok (.athrow, 1) := by decide +kernel
theorem dX5_addTrain_28 : decode cX5_addTrain 28 = .ok (.aload_n 0, 1) := by decide +kernel
theorem dX5_addTrain_29 : decode cX5_addTrain 29 = .ok (.getfield 10, 3) := by decide +kernel
theorem dX5_addTrain_32 : decode cX5_addTrain 32 = .ok (.getfield 57, 3) := by decide +kernel
theorem dX5_addTrain_35 : decode cX5_addTrain 35 = .ok (.istore_n 2, 1) := by decide +kernel
theorem dX5_addTrain_36 : decode cX5_addTrain 36 = .ok (.aload_n 0, 1) := by decide +kernel
theorem dX5_addTrain_37 : decode cX5_addTrain 37 = .ok (.getfield 10, 3) := by decide +kernel
theorem dX5_addTrain_40 : decode cX5_addTrain 40 = .ok (.getfield 67, 3) := by decide +kernel
theorem dX5_addTrain_43 : decode cX5_addTrain 43 = .ok (.iload_n 2, 1) := by decide +kernel
theorem dX5_addTrain_44 : decode cX5_addTrain 44 = .ok (.iload_n 1, 1) := by decide +kernel
theorem dX5_addTrain_45 : decode cX5_addTrain 45 = .ok (.iastore, 1) := by decide +kernel
theorem dX5_addTrain_46 : decode cX5_addTrain 46 = .ok (.aload_n 0, 1) := by decide +kernel
theorem dX5_addTrain_47 : decode cX5_addTrain 47 = .ok (.getfield 10, 3) := by decide +kernel
theorem dX5_addTrain_50 : decode cX5_addTrain 50 = .ok (.getfield 71, 3) := by decide +kernel
theorem dX5_addTrain_53 : decode cX5_addTrain 53 = .ok (.iload_n 2, 1) := by decide +kernel
theorem dX5_addTrain_54 : decode cX5_addTrain 54 = .ok (.bipush 50, 2) := by decide +kernel
theorem dX5_addTrain_56 : decode cX5_addTrain 56 = .ok (.iastore, 1) := by decide +kernel
theorem dX5_addTrain_57 : decode cX5_addTrain 57 = .ok (.aload_n 0, 1) := by decide +kernel
theorem dX5_addTrain_58 : decode cX5_addTrain 58 = .ok (.getfield 10, 3) := by decide +kernel
theorem dX5_addTrain_61 : decode cX5_addTrain 61 = .ok (.iload_n 2, 1) := by decide +kernel
theorem dX5_addTrain_62 : decode cX5_addTrain 62 = .ok (.iconst 1, 1) := by decide +kernel
theorem dX5_addTrain_63 : decode cX5_addTrain 63 = .ok (.iadd, 1) := by decide +kernel
theorem dX5_addTrain_64 : decode cX5_addTrain 64 = .ok (.putfield 57, 3) := by decide +kernel
theorem dX5_addTrain_67 : decode cX5_addTrain 67 = .ok (.iload_n 2, 1) := by decide +kernel
theorem dX5_addTrain_68 : decode cX5_addTrain 68 = .ok (.ireturn, 1) := by decide +kernel
theorem dX5_setPressure_0 : decode cX5_setPressure 0 = .ok (.aload_n 0, 1) := by decide +kernel
theorem dX5_setPressure_1 : decode cX5_setPressure 1 = .ok (.iload_n 1, 1) := by decide +kernel
theorem dX5_setPressure_2 : decode cX5_setPressure 2 = .ok (.invokevirtual 74, 3) := by decide +kernel
theorem dX5_setPressure_5 : decode cX5_setPressure 5 = .ok (.iload_n 2, 1) := by decide +kernel
theorem dX5_setPressure_6 : decode cX5_setPressure 6 = .ok (.bipush 30, 2) := by decide +kernel
theorem dX5_setPressure_8 : decode cX5_setPressure 8 = .ok (.bipush 70, 2) := by decide +kernel
theorem dX5_setPressure_10 : decode cX5_setPressure 10 = .ok (.invokestatic 53, 3) := by decide +kernel
theorem dX5_setPressure_13 : decode cX5_setPressure 13 = .ok (.aload_n 0, 1) := by decide +kernel
theorem dX5_setPressure_14 : decode cX5_setPressure 14 = .ok (.getfield 10, 3) := by decide +kernel
theorem dX5_setPressure_17 : decode cX5_setPressure 17 = .ok (.getfield 71, 3) := by decide +kernel
theorem dX5_setPressure_20 : decode cX5_setPressure 20 = .ok (.iload_n 1, 1) := by decide +kernel
theorem dX5_setPressure_21 : decode cX5_setPressure 21 = .ok (.iaload, 1) := by decide +kernel
theorem dX5_setPressure_22 : decode cX5_setPressure 22 = .ok (.istore_n 3, 1) := by decide +kernel
theorem dX5_setPressure_23 : decode cX5_setPressure 23 = .ok (.aload_n 0, 1) := by decide +kernel
theorem dX5_setPressure_24 : decode cX5_setPressure 24 = .ok (.getfield 10, 3) := by decide +kernel
theorem dX5_setPressure_27 : decode cX5_setPressure 27 = .ok (.getfield 71, 3) := by decide +kernel
theorem dX5_setPressure_30 : decode cX5_setPressure 30 = .ok (.iload_n 1, 1) := by decide +kernel
theorem dX5_setPressure_31 : decode cX5_setPressure 31 = .ok (.iload_n 2, 1) := by decide +kernel
theorem dX5_setPressure_32 : decode cX5_setPressure 32 = .ok (.iastore, 1) := by decide +kernel
theorem dX5_setPressure_33 : decode cX5_setPressure 33 = .ok (.iload_n 3, 1) := by decide +kernel
theorem dX5_setPressure_34 : decode cX5_setPressure 34 = .ok (.ireturn, 1) := by decide +kernel
theorem dX5_setSalinity_0 : decode cX5_setSalinity 0 = .ok (.iload_n 1, 1) := by decide +kernel
theorem dX5_setSalinity_1 : decode cX5_setSalinity 1 = .ok (.bipush 20, 2) := by decide +kernel
theorem dX5_setSalinity_3 : decode cX5_setSalinity 3 = .ok (.bipush 35, 2) := by decide +kernel
theorem dX5_setSalinity_5 : decode cX5_setSalinity 5 = .ok (.invokestatic 53, 3) := by decide +kernel
theorem dX5_setSalinity_8 : decode cX5_setSalinity 8 = .ok (.aload_n 0, 1) := by decide +kernel
theorem dX5_setSalinity_9 : decode cX5_setSalinity 9 = .ok (.getfield 10, 3) := by decide +kernel
theorem dX5_setSalinity_12 : decode cX5_setSalinity 12 = .ok (.getfield 78, 3) := by decide +kernel
theorem dX5_setSalinity_15 : decode cX5_setSalinity 15 = .ok (.istore_n 2, 1) := by decide +kernel
theorem dX5_setSalinity_16 : decode cX5_setSalinity 16 = .ok (.aload_n 0, 1) := by decide +kernel
theorem dX5_setSalinity_17 : decode cX5_setSalinity 17 = .ok (.getfield 10, 3) := by decide +kernel
theorem dX5_setSalinity_20 : decode cX5_setSalinity 20 = .ok (.iload_n 1, 1) := by decide +kernel
theorem dX5_setSalinity_21 : decode cX5_setSalinity 21 = .ok (.putfield 78, 3) := by decide +kernel
theorem dX5_setSalinity_24 : decode cX5_setSalinity 24 = .ok (.iload_n 2, 1) := by decide +kernel
theorem dX5_setSalinity_25 : decode cX5_setSalinity 25 = .ok (.ireturn, 1) := by decide +kernel
theorem dX5_setRecovery_0 : decode cX5_setRecovery 0 = .ok (.iload_n 1, 1) := by decide +kernel
theorem dX5_setRecovery_1 : decode cX5_setRecovery 1 = .ok (.bipush 30, 2) := by decide +kernel
theorem dX5_setRecovery_3 : decode cX5_setRecovery 3 = .ok (.bipush 60, 2) := by decide +kernel
theorem dX5_setRecovery_5 : decode cX5_setRecovery 5 = .ok (.invokestatic 53, 3) := by decide +kernel
theorem dX5_setRecovery_8 : decode cX5_setRecovery 8 = .ok (.aload_n 0, 1) := by decide +kernel
theorem dX5_setRecovery_9 : decode cX5_setRecovery 9 = .ok (.getfield 10, 3) := by decide +kernel
theorem dX5_setRecovery_12 : decode cX5_setRecovery 12 = .ok (.getfield 81, 3) := by decide +kernel
theorem dX5_setRecovery_15 : decode cX5_setRecovery 15 = .ok (.istore_n 2, 1) := by decide +kernel
theorem dX5_setRecovery_16 : decode cX5_setRecovery 16 = .ok (.aload_n 0, 1) := by decide +kernel
theorem dX5_setRecovery_17 : decode cX5_setRecovery 17 = .ok (.getfield 10, 3) := by decide +kernel
theorem dX5_setRecovery_20 : decode cX5_setRecovery 20 = .ok (.iload_n 1, 1) := by decide +kernel
theorem dX5_setRecovery_21 : decode cX5_setRecovery 21 = .ok (.putfield 81, 3) := by decide +kernel
theorem dX5_setRecovery_24 : decode cX5_setRecovery 24 = .ok (.iload_n 2, 1) := by decide +kernel
theorem dX5_setRecovery_25 : decode cX5_setRecovery 25 = .ok (.ireturn, 1) := by decide +kernel
theorem dX5_clean_0 : decode cX5_clean 0 = .ok (.aload_n 0, 1) := by decide +kernel
theorem dX5_clean_1 : decode cX5_clean 1 = .ok (.iload_n 1, 1) := by decide +kernel
theorem dX5_clean_2 : decode cX5_clean 2 = .ok (.invokevirtual 74, 3) := by decide +kernel
theorem dX5_clean_5 : decode cX5_clean 5 = .ok (.aload_n 0, 1) := by decide +kernel
theorem dX5_clean_6 : decode cX5_clean 6 = .ok (.iload_n 1, 1) := by decide +kernel
theorem dX5_clean_7 : decode cX5_clean 7 = .ok (.invokevirtual 84, 3) := by decide +kernel
theorem dX5_clean_10 : decode cX5_clean 10 = .ok (.aload_n 0, 1) := by decide +kernel
theorem dX5_clean_11 : decode cX5_clean 11 = .ok (.getfield 10, 3) := by decide +kernel
theorem dX5_clean_14 : decode cX5_clean 14 = .ok (.getfield 67, 3) := by decide +kernel
theorem dX5_clean_17 : decode cX5_clean 17 = .ok (.iload_n 1, 1) := by decide +kernel
theorem dX5_clean_18 : decode cX5_clean 18 = .ok (.iaload, 1) := by decide +kernel
theorem dX5_clean_19 : decode cX5_clean 19 = .ok (.istore_n 2, 1) := by decide +kernel
theorem dX5_clean_20 : decode cX5_clean 20 = .ok (.aload_n 0, 1) := by decide +kernel
theorem dX5_clean_21 : decode cX5_clean 21 = .ok (.getfield 10, 3) := by decide +kernel
theorem dX5_clean_24 : decode cX5_clean 24 = .ok (.getfield 87, 3) := by decide +kernel
theorem dX5_clean_27 : decode cX5_clean 27 = .ok (.ifCond .eq 16, 3) := by decide +kernel
theorem dX5_clean_30 : decode cX5_clean 30 = .ok (.aload_n 0, 1) := by decide +kernel
theorem dX5_clean_31 : decode cX5_clean 31 = .ok (.getfield 19, 3) := by decide +kernel
theorem dX5_clean_34 : decode cX5_clean 34 = .ok (.getfield 90, 3) := by decide +kernel
theorem dX5_clean_37 : decode cX5_clean 37 = .ok (.iconst 0, 1) := by decide +kernel
theorem dX5_clean_38 : decode cX5_clean 38 = .ok (.iaload, 1) := by decide +kernel
theorem dX5_clean_39 : decode cX5_clean 39 = .ok (.iload_n 2, 1) := by decide +kernel
theorem dX5_clean_40 : decode cX5_clean 40 = .ok (.if_icmp .ge 13, 3) := by decide +kernel
theorem dX5_clean_43 : decode cX5_clean 43 = .ok (.new 93, 3) := by decide +kernel
theorem dX5_clean_46 : decode cX5_clean 46 = .ok (.dup, 1) := by decide +kernel
theorem dX5_clean_47 : decode cX5_clean 47 = .ok (.ldc 95, 2) := by decide +kernel
theorem dX5_clean_49 : decode cX5_clean 49 = .ok (.invokespecial 97, 3) := by decide +kernel
theorem dX5_clean_52 : decode cX5_clean 52 = .ok (.athrow, 1) := by decide +kernel
theorem dX5_clean_53 : decode cX5_clean 53 = .ok (.aload_n 0, 1) := by decide +kernel
theorem dX5_clean_54 : decode cX5_clean 54 = .ok (.getfield 19, 3) := by decide +kernel
theorem dX5_clean_57 : decode cX5_clean 57 = .ok (.getfield 90, 3) := by decide +kernel
theorem dX5_clean_60 : decode cX5_clean 60 = .ok (.iconst 0, 1) := by decide +kernel
theorem dX5_clean_61 : decode cX5_clean 61 = .ok (.dup2, 1) := by decide +kernel
theorem dX5_clean_62 : decode cX5_clean 62 = .ok (.iaload, 1) := by decide +kernel
theorem dX5_clean_63 : decode cX5_clean 63 = .ok (.iload_n 2, 1) := by decide +kernel
theorem dX5_clean_64 : decode cX5_clean 64 = .ok (.isub, 1) := by decide +kernel
theorem dX5_clean_65 : decode cX5_clean 65 = .ok (.iastore, 1) := by decide +kernel
theorem dX5_clean_66 : decode cX5_clean 66 = .ok (.aload_n 0, 1) := by decide +kernel
theorem dX5_clean_67 : decode cX5_clean 67 = .ok (.getfield 42, 3) := by decide +kernel
theorem dX5_clean_70 : decode cX5_clean 70 = .ok (.dup, 1) := by decide +kernel
theorem dX5_clean_71 : decode cX5_clean 71 = .ok (.getfield 98, 3) := by decide +kernel
theorem dX5_clean_74 : decode cX5_clean 74 = .ok (.iload_n 2, 1) := by decide +kernel
theorem dX5_clean_75 : decode cX5_clean 75 = .ok (.i2l, 1) := by decide +kernel
theorem dX5_clean_76 : decode cX5_clean 76 = .ok (.ladd, 1) := by decide +kernel
theorem dX5_clean_77 : decode cX5_clean 77 = .ok (.putfield 98, 3) := by decide +kernel
theorem dX5_clean_80 : decode cX5_clean 80 = .ok (.aload_n 0, 1) := by decide +kernel
theorem dX5_clean_81 : decode cX5_clean 81 = .ok (.getfield 19, 3) := by decide +kernel
theorem dX5_clean_84 : decode cX5_clean 84 = .ok (.getfield 102, 3) := by decide +kernel
theorem dX5_clean_87 : decode cX5_clean 87 = .ok (.iload_n 1, 1) := by decide +kernel
theorem dX5_clean_88 : decode cX5_clean 88 = .ok (.iconst 2, 1) := by decide +kernel
theorem dX5_clean_89 : decode cX5_clean 89 = .ok (.aload_n 0, 1) := by decide +kernel
theorem dX5_clean_90 : decode cX5_clean 90 = .ok (.getfield 19, 3) := by decide +kernel
theorem dX5_clean_93 : decode cX5_clean 93 = .ok (.getfield 105, 3) := by decide +kernel
theorem dX5_clean_96 : decode cX5_clean 96 = .ok (.iload_n 1, 1) := by decide +kernel
theorem dX5_clean_97 : decode cX5_clean 97 = .ok (.iaload, 1) := by decide +kernel
theorem dX5_clean_98 : decode cX5_clean 98 = .ok (.bipush 20, 2) := by decide +kernel
theorem dX5_clean_100 : decode cX5_clean 100 = .ok (.idiv, 1) := by decide +kernel
theorem dX5_clean_101 : decode cX5_clean 101 = .ok (.iadd, 1) := by decide +kernel
theorem dX5_clean_102 : decode cX5_clean 102 = .ok (.iastore, 1) := by decide +kernel
theorem dX5_clean_103 : decode cX5_clean 103 = .ok (.aload_n 0, 1) := by decide +kernel
theorem dX5_clean_104 : decode cX5_clean 104 = .ok (.getfield 19, 3) := by decide +kernel
theorem dX5_clean_107 : decode cX5_clean 107 = .ok (.getfield 102, 3) := by decide +kernel
theorem dX5_clean_110 : decode cX5_clean 110 = .ok (.iload_n 1, 1) := by decide +kernel
theorem dX5_clean_111 : decode cX5_clean 111 = .ok (.iaload, 1) := by decide +kernel
theorem dX5_clean_112 : decode cX5_clean 112 = .ok (.ireturn, 1) := by decide +kernel
theorem dX5_fouling_0 : decode cX5_fouling 0 = .ok (.aload_n 0, 1) := by decide +kernel
theorem dX5_fouling_1 : decode cX5_fouling 1 = .ok (.iload_n 1, 1) := by decide +kernel
theorem dX5_fouling_2 : decode cX5_fouling 2 = .ok (.invokevirtual 74, 3) := by decide +kernel
theorem dX5_fouling_5 : decode cX5_fouling 5 = .ok (.aload_n 0, 1) := by decide +kernel
theorem dX5_fouling_6 : decode cX5_fouling 6 = .ok (.getfield 19, 3) := by decide +kernel
theorem dX5_fouling_9 : decode cX5_fouling 9 = .ok (.getfield 105, 3) := by decide +kernel
theorem dX5_fouling_12 : decode cX5_fouling 12 = .ok (.iload_n 1, 1) := by decide +kernel
theorem dX5_fouling_13 : decode cX5_fouling 13 = .ok (.iaload, 1) := by decide +kernel
theorem dX5_fouling_14 : decode cX5_fouling 14 = .ok (.ireturn, 1) := by decide +kernel
theorem dX5_wear_0 : decode cX5_wear 0 = .ok (.aload_n 0, 1) := by decide +kernel
theorem dX5_wear_1 : decode cX5_wear 1 = .ok (.iload_n 1, 1) := by decide +kernel
theorem dX5_wear_2 : decode cX5_wear 2 = .ok (.invokevirtual 74, 3) := by decide +kernel
theorem dX5_wear_5 : decode cX5_wear 5 = .ok (.aload_n 0, 1) := by decide +kernel
theorem dX5_wear_6 : decode cX5_wear 6 = .ok (.getfield 19, 3) := by decide +kernel
theorem dX5_wear_9 : decode cX5_wear 9 = .ok (.getfield 108, 3) := by decide +kernel
theorem dX5_wear_12 : decode cX5_wear 12 = .ok (.iload_n 1, 1) := by decide +kernel
theorem dX5_wear_13 : decode cX5_wear 13 = .ok (.iaload, 1) := by decide +kernel
theorem dX5_wear_14 : decode cX5_wear 14 = .ok (.ireturn, 1) := by decide +kernel
theorem dX5_cleaningLeft_0 : decode cX5_cleaningLeft 0 = .ok (.aload_n 0, 1) := by decide +kernel
theorem dX5_cleaningLeft_1 : decode cX5_cleaningLeft 1 = .ok (.iload_n 1, 1) := by decide +kernel
theorem dX5_cleaningLeft_2 : decode cX5_cleaningLeft 2 = .ok (.invokevirtual 74, 3) := by decide +kernel
theorem dX5_cleaningLeft_5 : decode cX5_cleaningLeft 5 = .ok (.aload_n 0, 1) := by decide +kernel
theorem dX5_cleaningLeft_6 : decode cX5_cleaningLeft 6 = .ok (.getfield 19, 3) := by decide +kernel
theorem dX5_cleaningLeft_9 : decode cX5_cleaningLeft 9 = .ok (.getfield 102, 3) := by decide +kernel
theorem dX5_cleaningLeft_12 : decode cX5_cleaningLeft 12 = .ok (.iload_n 1, 1) := by decide +kernel
theorem dX5_cleaningLeft_13 : decode cX5_cleaningLeft 13 = .ok (.iaload, 1) := by decide +kernel
theorem dX5_cleaningLeft_14 : decode cX5_cleaningLeft 14 = .ok (.ireturn, 1) := by decide +kernel
theorem dX5_productOf_0 : decode cX5_productOf 0 = .ok (.aload_n 0, 1) := by decide +kernel
theorem dX5_productOf_1 : decode cX5_productOf 1 = .ok (.iload_n 1, 1) := by decide +kernel
theorem dX5_productOf_2 : decode cX5_productOf 2 = .ok (.invokevirtual 74, 3) := by decide +kernel
theorem dX5_productOf_5 : decode cX5_productOf 5 = .ok (.aload_n 0, 1) := by decide +kernel
theorem dX5_productOf_6 : decode cX5_productOf 6 = .ok (.iload_n 1, 1) := by decide +kernel
theorem dX5_productOf_7 : decode cX5_productOf 7 = .ok (.invokevirtual 84, 3) := by decide +kernel
theorem dX5_productOf_10 : decode cX5_productOf 10 = .ok (.aload_n 0, 1) := by decide +kernel
theorem dX5_productOf_11 : decode cX5_productOf 11 = .ok (.getfield 10, 3) := by decide +kernel
theorem dX5_productOf_14 : decode cX5_productOf 14 = .ok (.iload_n 1, 1) := by decide +kernel
theorem dX5_productOf_15 : decode cX5_productOf 15 = .ok (.aload_n 0, 1) := by decide +kernel
theorem dX5_productOf_16 : decode cX5_productOf 16 = .ok (.getfield 19, 3) := by decide +kernel
theorem dX5_productOf_19 : decode cX5_productOf 19 = .ok (.getfield 105, 3) := by decide +kernel
theorem dX5_productOf_22 : decode cX5_productOf 22 = .ok (.iload_n 1, 1) := by decide +kernel
theorem dX5_productOf_23 : decode cX5_productOf 23 = .ok (.iaload, 1) := by decide +kernel
theorem dX5_productOf_24 : decode cX5_productOf 24 = .ok (.invokevirtual 111, 3) := by decide +kernel
theorem dX5_productOf_27 : decode cX5_productOf 27 = .ok (.ireturn, 1) := by decide +kernel
theorem dX5_energyOf_0 : decode cX5_energyOf 0 = .ok (.aload_n 0, 1) := by decide +kernel
theorem dX5_energyOf_1 : decode cX5_energyOf 1 = .ok (.iload_n 1, 1) := by decide +kernel
theorem dX5_energyOf_2 : decode cX5_energyOf 2 = .ok (.invokevirtual 74, 3) := by decide +kernel
theorem dX5_energyOf_5 : decode cX5_energyOf 5 = .ok (.aload_n 0, 1) := by decide +kernel
theorem dX5_energyOf_6 : decode cX5_energyOf 6 = .ok (.iload_n 1, 1) := by decide +kernel
theorem dX5_energyOf_7 : decode cX5_energyOf 7 = .ok (.invokevirtual 84, 3) := by decide +kernel
theorem dX5_energyOf_10 : decode cX5_energyOf 10 = .ok (.aload_n 0, 1) := by decide +kernel
theorem dX5_energyOf_11 : decode cX5_energyOf 11 = .ok (.getfield 10, 3) := by decide +kernel
theorem dX5_energyOf_14 : decode cX5_energyOf 14 = .ok (.iload_n 1, 1) := by decide +kernel
theorem dX5_energyOf_15 : decode cX5_energyOf 15 = .ok (.aload_n 0, 1) := by decide +kernel
theorem dX5_energyOf_16 : decode cX5_energyOf 16 = .ok (.getfield 19, 3) := by decide +kernel
theorem dX5_energyOf_19 : decode cX5_energyOf 19 = .ok (.getfield 105, 3) := by decide +kernel
theorem dX5_energyOf_22 : decode cX5_energyOf 22 = .ok (.iload_n 1, 1) := by decide +kernel
theorem dX5_energyOf_23 : decode cX5_energyOf 23 = .ok (.iaload, 1) := by decide +kernel
theorem dX5_energyOf_24 : decode cX5_energyOf 24 = .ok (.invokevirtual 111, 3) := by decide +kernel
theorem dX5_energyOf_27 : decode cX5_energyOf 27 = .ok (.istore_n 2, 1) := by decide +kernel
theorem dX5_energyOf_28 : decode cX5_energyOf 28 = .ok (.aload_n 0, 1) := by decide +kernel
theorem dX5_energyOf_29 : decode cX5_energyOf 29 = .ok (.getfield 10, 3) := by decide +kernel
theorem dX5_energyOf_32 : decode cX5_energyOf 32 = .ok (.iload_n 1, 1) := by decide +kernel
theorem dX5_energyOf_33 : decode cX5_energyOf 33 = .ok (.aload_n 0, 1) := by decide +kernel
theorem dX5_energyOf_34 : decode cX5_energyOf 34 = .ok (.getfield 10, 3) := by decide +kernel
theorem dX5_energyOf_37 : decode cX5_energyOf 37 = .ok (.iload_n 2, 1) := by decide +kernel
theorem dX5_energyOf_38 : decode cX5_energyOf 38 = .ok (.invokevirtual 115, 3) := by decide +kernel
theorem dX5_energyOf_41 : decode cX5_energyOf 41 = .ok (.invokevirtual 119, 3) := by decide +kernel
theorem dX5_energyOf_44 : decode cX5_energyOf 44 = .ok (.ireturn, 1) := by decide +kernel
theorem dX5_readyTrains_0 : decode cX5_readyTrains 0 = .ok (.iconst 0, 1) := by decide +kernel
theorem dX5_readyTrains_1 : decode cX5_readyTrains 1 = .ok (.istore_n 1, 1) := by decide +kernel
theorem dX5_readyTrains_2 : decode cX5_readyTrains 2 = .ok (.iconst 0, 1) := by decide +kernel
theorem dX5_readyTrains_3 : decode cX5_readyTrains 3 = .ok (.istore_n 2, 1) := by decide +kernel
theorem dX5_readyTrains_4 : decode cX5_readyTrains 4 = .ok (.iload_n 2, 1) := by decide +kernel
theorem dX5_readyTrains_5 : decode cX5_readyTrains 5 = .ok (.aload_n 0, 1) := by decide +kernel
theorem dX5_readyTrains_6 : decode cX5_readyTrains 6 = .ok (.getfield 10, 3) := by decide +kernel
theorem dX5_readyTrains_9 : decode cX5_readyTrains 9 = .ok (.getfield 57, 3) := by decide +kernel
theorem dX5_readyTrains_12 : decode cX5_readyTrains 12 = .ok (.if_icmp .ge 24, 3) := by decide +kernel
theorem dX5_readyTrains_15 : decode cX5_readyTrains 15 = .ok (.aload_n 0, 1) := by decide +kernel
theorem dX5_readyTrains_16 : decode cX5_readyTrains 16 = .ok (.getfield 19, 3) := by decide +kernel
theorem dX5_readyTrains_19 : decode cX5_readyTrains 19 = .ok (.getfield 102, 3) := by decide +kernel
theorem dX5_readyTrains_22 : decode cX5_readyTrains 22 = .ok (.iload_n 2, 1) := by decide +kernel
theorem dX5_readyTrains_23 : decode cX5_readyTrains 23 = .ok (.iaload, 1) := by decide +kernel
theorem dX5_readyTrains_24 : decode cX5_readyTrains 24 = .ok (.ifCond .ne 6, 3) := by decide +kernel
theorem dX5_readyTrains_27 : decode cX5_readyTrains 27 = .ok (.iinc 1 1, 3) := by decide +kernel
theorem dX5_readyTrains_30 : decode cX5_readyTrains 30 = .ok (.iinc 2 1, 3) := by decide +kernel
theorem dX5_readyTrains_33 : decode cX5_readyTrains 33 = .ok (.goto (-29), 3) := by decide +kernel
theorem dX5_readyTrains_36 : decode cX5_readyTrains 36 = .ok (.iload_n 1, 1) := by decide +kernel
theorem dX5_readyTrains_37 : decode cX5_readyTrains 37 = .ok (.ireturn, 1) := by decide +kernel
theorem dX5_addTank_0 : decode cX5_addTank 0 = .ok (.iload_n 1, 1) := by decide +kernel
theorem dX5_addTank_1 : decode cX5_addTank 1 = .ok (.iconst 1, 1) := by decide +kernel
theorem dX5_addTank_2 : decode cX5_addTank 2 = .ok (.sipush 2000, 3) := by decide +kernel
theorem dX5_addTank_5 : decode cX5_addTank 5 = .ok (.invokestatic 53, 3) := by decide +kernel
theorem dX5_addTank_8 : decode cX5_addTank 8 = .ok (.aload_n 0, 1) := by decide +kernel
theorem dX5_addTank_9 : decode cX5_addTank 9 = .ok (.getfield 10, 3) := by decide +kernel
theorem dX5_addTank_12 : decode cX5_addTank 12 = .ok (.getfield 87, 3) := by decide +kernel
theorem dX5_addTank_15 : decode cX5_addTank 15 = .ok (.iconst 3, 1) := by decide +kernel
theorem dX5_addTank_16 : decode cX5_addTank 16 = .ok (.if_icmp .lt 13, 3) := by decide +kernel
theorem dX5_addTank_19 : decode cX5_addTank 19 = .ok (.new 60, 3) := by decide +kernel
theorem dX5_addTank_22 : decode cX5_addTank 22 = .ok (.dup, 1) := by decide +kernel
theorem dX5_addTank_23 : decode cX5_addTank 23 = .ok (.ldc 122, 2) := by decide +kernel
theorem dX5_addTank_25 : decode cX5_addTank 25 = .ok (.invokespecial 64, 3) := by decide +kernel
theorem dX5_addTank_28 : decode cX5_addTank 28 = .ok (.athrow, 1) := by decide +kernel
theorem dX5_addTank_29 : decode cX5_addTank 29 = .ok (.aload_n 0, 1) := by decide +kernel
theorem dX5_addTank_30 : decode cX5_addTank 30 = .ok (.getfield 10, 3) := by decide +kernel
theorem dX5_addTank_33 : decode cX5_addTank 33 = .ok (.getfield 87, 3) := by decide +kernel
theorem dX5_addTank_36 : decode cX5_addTank 36 = .ok (.istore_n 2, 1) := by decide +kernel
theorem dX5_addTank_37 : decode cX5_addTank 37 = .ok (.aload_n 0, 1) := by decide +kernel
theorem dX5_addTank_38 : decode cX5_addTank 38 = .ok (.getfield 10, 3) := by decide +kernel
theorem dX5_addTank_41 : decode cX5_addTank 41 = .ok (.getfield 124, 3) := by decide +kernel
theorem dX5_addTank_44 : decode cX5_addTank 44 = .ok (.iload_n 2, 1) := by decide +kernel
theorem dX5_addTank_45 : decode cX5_addTank 45 = .ok (.iload_n 1, 1) := by decide +kernel
theorem dX5_addTank_46 : decode cX5_addTank 46 = .ok (.iastore, 1) := by decide +kernel
theorem dX5_addTank_47 : decode cX5_addTank 47 = .ok (.aload_n 0, 1) := by decide +kernel
theorem dX5_addTank_48 : decode cX5_addTank 48 = .ok (.getfield 10, 3) := by decide +kernel
theorem dX5_addTank_51 : decode cX5_addTank 51 = .ok (.iload_n 2, 1) := by decide +kernel
theorem dX5_addTank_52 : decode cX5_addTank 52 = .ok (.iconst 1, 1) := by decide +kernel
theorem dX5_addTank_53 : decode cX5_addTank 53 = .ok (.iadd, 1) := by decide +kernel
theorem dX5_addTank_54 : decode cX5_addTank 54 = .ok (.putfield 87, 3) := by decide +kernel
theorem dX5_addTank_57 : decode cX5_addTank 57 = .ok (.iload_n 2, 1) := by decide +kernel
theorem dX5_addTank_58 : decode cX5_addTank 58 = .ok (.ireturn, 1) := by decide +kernel
theorem dX5_setDemand_0 : decode cX5_setDemand 0 = .ok (.aload_n 0, 1) := by decide +kernel
theorem dX5_setDemand_1 : decode cX5_setDemand 1 = .ok (.iload_n 1, 1) := by decide +kernel
theorem dX5_setDemand_2 : decode cX5_setDemand 2 = .ok (.invokevirtual 127, 3) := by decide +kernel
theorem dX5_setDemand_5 : decode cX5_setDemand 5 = .ok (.iload_n 2, 1) := by decide +kernel
theorem dX5_setDemand_6 : decode cX5_setDemand 6 = .ok (.iload_n 3, 1) := by decide +kernel
theorem dX5_setDemand_7 : decode cX5_setDemand 7 = .ok (.invokestatic 130, 3) := by decide +kernel
theorem dX5_setDemand_10 : decode cX5_setDemand 10 = .ok (.iload 4, 2) := by decide +kernel
theorem dX5_setDemand_12 : decode cX5_setDemand 12 = .ok (.iconst 0, 1) := by decide +kernel
theorem dX5_setDemand_13 : decode cX5_setDemand 13 = .ok (.sipush 200, 3) := by decide +kernel
theorem dX5_setDemand_16 : decode cX5_setDemand 16 = .ok (.invokestatic 53, 3) := by decide +kernel
theorem dX5_setDemand_19 : decode cX5_setDemand 19 = .ok (.aload_n 0, 1) := by decide +kernel
theorem dX5_setDemand_20 : decode cX5_setDemand 20 = .ok (.getfield 10, 3) := by decide +kernel
theorem dX5_setDemand_23 : decode cX5_setDemand 23 = .ok (.getfield 134, 3) := by decide +kernel
theorem dX5_setDemand_26 : decode cX5_setDemand 26 = .ok (.iload_n 1, 1) := by decide +kernel
theorem dX5_setDemand_27 : decode cX5_setDemand 27 = .ok (.aaload, 1) := by decide +kernel
theorem dX5_setDemand_28 : decode cX5_setDemand 28 = .ok (.iload_n 2, 1) := by decide +kernel
theorem dX5_setDemand_29 : decode cX5_setDemand 29 = .ok (.iload_n 3, 1) := by decide +kernel
theorem dX5_setDemand_30 : decode cX5_setDemand 30 = .ok (.iload 4, 2) := by decide +kernel
theorem dX5_setDemand_32 : decode cX5_setDemand 32 = .ok (.invokestatic 138, 3) := by decide +kernel
theorem dX5_setDemand_35 : decode cX5_setDemand 35 = .ok (.ireturn, 1) := by decide +kernel
theorem dX5_setPrice_0 : decode cX5_setPrice 0 = .ok (.iload_n 1, 1) := by decide +kernel
theorem dX5_setPrice_1 : decode cX5_setPrice 1 = .ok (.iload_n 2, 1) := by decide +kernel
theorem dX5_setPrice_2 : decode cX5_setPrice 2 = .ok (.invokestatic 130, 3) := by decide +kernel
theorem dX5_setPrice_5 : decode cX5_setPrice 5 = .ok (.iload_n 3, 1) := by decide +kernel
theorem dX5_setPrice_6 : decode cX5_setPrice 6 = .ok (.iconst 0, 1) := by decide +kernel
theorem dX5_setPrice_7 : decode cX5_setPrice 7 = .ok (.bipush 99, 2) := by decide +kernel
theorem dX5_setPrice_9 : decode cX5_setPrice 9 = .ok (.invokestatic 53, 3) := by decide +kernel
theorem dX5_setPrice_12 : decode cX5_setPrice 12 = .ok (.aload_n 0, 1) := by decide +kernel
theorem dX5_setPrice_13 : decode cX5_setPrice 13 = .ok (.getfield 10, 3) := by decide +kernel
theorem dX5_setPrice_16 : decode cX5_setPrice 16 = .ok (.getfield 142, 3) := by decide +kernel
theorem dX5_setPrice_19 : decode cX5_setPrice 19 = .ok (.iload_n 1, 1) := by decide +kernel
theorem dX5_setPrice_20 : decode cX5_setPrice 20 = .ok (.iload_n 2, 1) := by decide +kernel
theorem dX5_setPrice_21 : decode cX5_setPrice 21 = .ok (.iload_n 3, 1) := by decide +kernel
theorem dX5_setPrice_22 : decode cX5_setPrice 22 = .ok (.invokestatic 138, 3) := by decide +kernel
theorem dX5_setPrice_25 : decode cX5_setPrice 25 = .ok (.ireturn, 1) := by decide +kernel
theorem dX5_demand_0 : decode cX5_demand 0 = .ok (.aload_n 0, 1) := by decide +kernel
theorem dX5_demand_1 : decode cX5_demand 1 = .ok (.iload_n 1, 1) := by decide +kernel
theorem dX5_demand_2 : decode cX5_demand 2 = .ok (.invokevirtual 127, 3) := by decide +kernel
theorem dX5_demand_5 : decode cX5_demand 5 = .ok (.iload_n 2, 1) := by decide +kernel
theorem dX5_demand_6 : decode cX5_demand 6 = .ok (.iconst 0, 1) := by decide +kernel
theorem dX5_demand_7 : decode cX5_demand 7 = .ok (.bipush 47, 2) := by decide +kernel
theorem dX5_demand_9 : decode cX5_demand 9 = .ok (.invokestatic 53, 3) := by decide +kernel
theorem dX5_demand_12 : decode cX5_demand 12 = .ok (.aload_n 0, 1) := by decide +kernel
theorem dX5_demand_13 : decode cX5_demand 13 = .ok (.getfield 10, 3) := by decide +kernel
theorem dX5_demand_16 : decode cX5_demand 16 = .ok (.getfield 134, 3) := by decide +kernel
theorem dX5_demand_19 : decode cX5_demand 19 = .ok (.iload_n 1, 1) := by decide +kernel
theorem dX5_demand_20 : decode cX5_demand 20 = .ok (.aaload, 1) := by decide +kernel
theorem dX5_demand_21 : decode cX5_demand 21 = .ok (.iload_n 2, 1) := by decide +kernel
theorem dX5_demand_22 : decode cX5_demand 22 = .ok (.iaload, 1) := by decide +kernel
theorem dX5_demand_23 : decode cX5_demand 23 = .ok (.ireturn, 1) := by decide +kernel
theorem dX5_level_0 : decode cX5_level 0 = .ok (.aload_n 0, 1) := by decide +kernel
theorem dX5_level_1 : decode cX5_level 1 = .ok (.iload_n 1, 1) := by decide +kernel
theorem dX5_level_2 : decode cX5_level 2 = .ok (.invokevirtual 127, 3) := by decide +kernel
theorem dX5_level_5 : decode cX5_level 5 = .ok (.aload_n 0, 1) := by decide +kernel
theorem dX5_level_6 : decode cX5_level 6 = .ok (.getfield 19, 3) := by decide +kernel
theorem dX5_level_9 : decode cX5_level 9 = .ok (.getfield 90, 3) := by decide +kernel
theorem dX5_level_12 : decode cX5_level 12 = .ok (.iload_n 1, 1) := by decide +kernel
theorem dX5_level_13 : decode cX5_level 13 = .ok (.iaload, 1) := by decide +kernel
theorem dX5_level_14 : decode cX5_level 14 = .ok (.ireturn, 1) := by decide +kernel
theorem dX5_shortOf_0 : decode cX5_shortOf 0 = .ok (.aload_n 0, 1) := by decide +kernel
theorem dX5_shortOf_1 : decode cX5_shortOf 1 = .ok (.iload_n 1, 1) := by decide +kernel
theorem dX5_shortOf_2 : decode cX5_shortOf 2 = .ok (.invokevirtual 127, 3) := by decide +kernel
theorem dX5_shortOf_5 : decode cX5_shortOf 5 = .ok (.aload_n 0, 1) := by decide +kernel
theorem dX5_shortOf_6 : decode cX5_shortOf 6 = .ok (.getfield 42, 3) := by decide +kernel
theorem dX5_shortOf_9 : decode cX5_shortOf 9 = .ok (.getfield 145, 3) := by decide +kernel
theorem dX5_shortOf_12 : decode cX5_shortOf 12 = .ok (.iload_n 1, 1) := by decide +kernel
theorem dX5_shortOf_13 : decode cX5_shortOf 13 = .ok (.iaload, 1) := by decide +kernel
theorem dX5_shortOf_14 : decode cX5_shortOf 14 = .ok (.ireturn, 1) := by decide +kernel
theorem dX5_pass_0 : decode cX5_pass 0 = .ok (.aload_n 0, 1) := by decide +kernel
theorem dX5_pass_1 : decode cX5_pass 1 = .ok (.iload_n 1, 1) := by decide +kernel
theorem dX5_pass_2 : decode cX5_pass 2 = .ok (.invokevirtual 148, 3) := by decide +kernel
theorem dX5_pass_5 : decode cX5_pass 5 = .ok (.aload_n 0, 1) := by decide +kernel
theorem dX5_pass_6 : decode cX5_pass 6 = .ok (.getfield 19, 3) := by decide +kernel
theorem dX5_pass_9 : decode cX5_pass 9 = .ok (.getfield 152, 3) := by decide +kernel
theorem dX5_pass_12 : decode cX5_pass 12 = .ok (.ireturn, 1) := by decide +kernel
theorem dX5_run_0 : decode cX5_run 0 = .ok (.iload_n 1, 1) := by decide +kernel
theorem dX5_run_1 : decode cX5_run 1 = .ok (.iconst 1, 1) := by decide +kernel
theorem dX5_run_2 : decode cX5_run 2 = .ok (.bipush 12, 2) := by decide +kernel
theorem dX5_run_4 : decode cX5_run 4 = .ok (.invokestatic 53, 3) := by decide +kernel
theorem dX5_run_7 : decode cX5_run 7 = .ok (.iconst 0, 1) := by decide +kernel
theorem dX5_run_8 : decode cX5_run 8 = .ok (.istore_n 2, 1) := by decide +kernel
theorem dX5_run_9 : decode cX5_run 9 = .ok (.iconst 0, 1) := by decide +kernel
theorem dX5_run_10 : decode cX5_run 10 = .ok (.istore_n 3, 1) := by decide +kernel
theorem dX5_run_11 : decode cX5_run 11 = .ok (.iload_n 3, 1) := by decide +kernel
theorem dX5_run_12 : decode cX5_run 12 = .ok (.iload_n 1, 1) := by decide +kernel
theorem dX5_run_13 : decode cX5_run 13 = .ok (.if_icmp .ge 100, 3) := by decide +kernel
theorem dX5_run_16 : decode cX5_run 16 = .ok (.aload_n 0, 1) := by decide +kernel
theorem dX5_run_17 : decode cX5_run 17 = .ok (.getfield 26, 3) := by decide +kernel
theorem dX5_run_20 : decode cX5_run 20 = .ok (.aload_n 0, 1) := by decide +kernel
theorem dX5_run_21 : decode cX5_run 21 = .ok (.getfield 50, 3) := by decide +kernel
theorem dX5_run_24 : decode cX5_run 24 = .ok (.invokevirtual 155, 3) := by decide +kernel
theorem dX5_run_27 : decode cX5_run 27 = .ok (.istore 4, 2) := by decide +kernel
theorem dX5_run_29 : decode cX5_run 29 = .ok (.iload 4, 2) := by decide +kernel
theorem dX5_run_31 : decode cX5_run 31 = .ok (.iconst (-1), 1) := by decide +kernel
theorem dX5_run_32 : decode cX5_run 32 = .ok (.if_icmp .ne 55, 3) := by decide +kernel
theorem dX5_run_35 : decode cX5_run 35 = .ok (.aload_n 0, 1) := by decide +kernel
theorem dX5_run_36 : decode cX5_run 36 = .ok (.getfield 35, 3) := by decide +kernel
theorem dX5_run_39 : decode cX5_run 39 = .ok (.aload_n 0, 1) := by decide +kernel
theorem dX5_run_40 : decode cX5_run 40 = .ok (.getfield 19, 3) := by decide +kernel
theorem dX5_run_43 : decode cX5_run 43 = .ok (.aload_n 0, 1) := by decide +kernel
theorem dX5_run_44 : decode cX5_run 44 = .ok (.getfield 50, 3) := by decide +kernel
theorem dX5_run_47 : decode cX5_run 47 = .ok (.aload_n 0, 1) := by decide +kernel
theorem dX5_run_48 : decode cX5_run 48 = .ok (.getfield 46, 3) := by decide +kernel
theorem dX5_run_51 : decode cX5_run 51 = .ok (.invokevirtual 158, 3) := by decide +kernel
theorem dX5_run_54 : decode cX5_run 54 = .ok (.aload_n 0, 1) := by decide +kernel
theorem dX5_run_55 : decode cX5_run 55 = .ok (.getfield 35, 3) := by decide +kernel
theorem dX5_run_58 : decode cX5_run 58 = .ok (.getfield 162, 3) := by decide +kernel
theorem dX5_run_61 : decode cX5_run 61 = .ok (.ldc 165, 2) := by decide +kernel
theorem dX5_run_63 : decode cX5_run 63 = .ok (.if_icmp .ge 21, 3) := by decide +kernel
theorem dX5_run_66 : decode cX5_run 66 = .ok (.aload_n 0, 1) := by decide +kernel
theorem dX5_run_67 : decode cX5_run 67 = .ok (.getfield 35, 3) := by decide +kernel
theorem dX5_run_70 : decode cX5_run 70 = .ok (.aload_n 0, 1) := by decide +kernel
theorem dX5_run_71 : decode cX5_run 71 = .ok (.getfield 35, 3) := by decide +kernel
theorem dX5_run_74 : decode cX5_run 74 = .ok (.getfield 166, 3) := by decide +kernel
theorem dX5_run_77 : decode cX5_run 77 = .ok (.iconst 0, 1) := by decide +kernel
theorem dX5_run_78 : decode cX5_run 78 = .ok (.invokevirtual 169, 3) := by decide +kernel
theorem dX5_run_81 : decode cX5_run 81 = .ok (.goto 4, 3) := by decide +kernel
theorem dX5_run_84 : decode cX5_run 84 = .ok (.iconst 1, 1) := by decide +kernel
theorem dX5_run_85 : decode cX5_run 85 = .ok (.istore 4, 2) := by decide +kernel
theorem dX5_run_87 : decode cX5_run 87 = .ok (.aload_n 0, 1) := by decide +kernel
theorem dX5_run_88 : decode cX5_run 88 = .ok (.iload 4, 2) := by decide +kernel
theorem dX5_run_90 : decode cX5_run 90 = .ok (.iconst 1, 1) := by decide +kernel
theorem dX5_run_91 : decode cX5_run 91 = .ok (.if_icmp .ne 7, 3) := by decide +kernel
theorem dX5_run_94 : decode cX5_run 94 = .ok (.iconst 1, 1) := by decide +kernel
theorem dX5_run_95 : decode cX5_run 95 = .ok (.goto 4, 3) := by decide +kernel
theorem dX5_run_98 : decode cX5_run 98 = .ok (.iconst 0, 1) := by decide +kernel
theorem dX5_run_99 : decode cX5_run 99 = .ok (.invokevirtual 148, 3) := by decide +kernel
theorem dX5_run_102 : decode cX5_run 102 = .ok (.iload_n 2, 1) := by decide +kernel
theorem dX5_run_103 : decode cX5_run 103 = .ok (.iload 4, 2) := by decide +kernel
theorem dX5_run_105 : decode cX5_run 105 = .ok (.iadd, 1) := by decide +kernel
theorem dX5_run_106 : decode cX5_run 106 = .ok (.istore_n 2, 1) := by decide +kernel
theorem dX5_run_107 : decode cX5_run 107 = .ok (.iinc 3 1, 3) := by decide +kernel
theorem dX5_run_110 : decode cX5_run 110 = .ok (.goto (-99), 3) := by decide +kernel
theorem dX5_run_113 : decode cX5_run 113 = .ok (.iload_n 2, 1) := by decide +kernel
theorem dX5_run_114 : decode cX5_run 114 = .ok (.ireturn, 1) := by decide +kernel
theorem dX5_setHorizon_0 : decode cX5_setHorizon 0 = .ok (.iload_n 1, 1) := by decide +kernel
theorem dX5_setHorizon_1 : decode cX5_setHorizon 1 = .ok (.iconst 1, 1) := by decide +kernel
theorem dX5_setHorizon_2 : decode cX5_setHorizon 2 = .ok (.bipush 6, 2) := by decide +kernel
theorem dX5_setHorizon_4 : decode cX5_setHorizon 4 = .ok (.invokestatic 53, 3) := by decide +kernel
theorem dX5_setHorizon_7 : decode cX5_setHorizon 7 = .ok (.aload_n 0, 1) := by decide +kernel
theorem dX5_setHorizon_8 : decode cX5_setHorizon 8 = .ok (.getfield 46, 3) := by decide +kernel
theorem dX5_setHorizon_11 : decode cX5_setHorizon 11 = .ok (.istore_n 2, 1) := by decide +kernel
theorem dX5_setHorizon_12 : decode cX5_setHorizon 12 = .ok (.aload_n 0, 1) := by decide +kernel
theorem dX5_setHorizon_13 : decode cX5_setHorizon 13 = .ok (.iload_n 1, 1) := by decide +kernel
theorem dX5_setHorizon_14 : decode cX5_setHorizon 14 = .ok (.putfield 46, 3) := by decide +kernel
theorem dX5_setHorizon_17 : decode cX5_setHorizon 17 = .ok (.iload_n 2, 1) := by decide +kernel
theorem dX5_setHorizon_18 : decode cX5_setHorizon 18 = .ok (.ireturn, 1) := by decide +kernel
theorem dX5_order_0 : decode cX5_order 0 = .ok (.iload_n 1, 1) := by decide +kernel
theorem dX5_order_1 : decode cX5_order 1 = .ok (.aload_n 0, 1) := by decide +kernel
theorem dX5_order_2 : decode cX5_order 2 = .ok (.getfield 50, 3) := by decide +kernel
theorem dX5_order_5 : decode cX5_order 5 = .ok (.if_icmp .ge 13, 3) := by decide +kernel
theorem dX5_order_8 : decode cX5_order 8 = .ok (.new 172, 3) := by decide +kernel
theorem dX5_order_11 : decode cX5_order 11 = .ok (.dup, 1) := by decide +kernel
theorem dX5_order_12 : decode cX5_order 12 = .ok (.ldc 174, 2) := by decide +kernel
theorem dX5_order_14 : decode cX5_order 14 = .ok (.invokespecial 176, 3) := by decide +kernel
theorem dX5_order_17 : decode cX5_order 17 = .ok (.athrow, 1) := by decide +kernel
theorem dX5_order_18 : decode cX5_order 18 = .ok (.aload_n 0, 1) := by decide +kernel
theorem dX5_order_19 : decode cX5_order 19 = .ok (.getfield 26, 3) := by decide +kernel
theorem dX5_order_22 : decode cX5_order 22 = .ok (.iload_n 1, 1) := by decide +kernel
theorem dX5_order_23 : decode cX5_order 23 = .ok (.invokevirtual 155, 3) := by decide +kernel
theorem dX5_order_26 : decode cX5_order 26 = .ok (.iconst (-1), 1) := by decide +kernel
theorem dX5_order_27 : decode cX5_order 27 = .ok (.if_icmp .ne 25, 3) := by decide +kernel
theorem dX5_order_30 : decode cX5_order 30 = .ok (.aload_n 0, 1) := by decide +kernel
theorem dX5_order_31 : decode cX5_order 31 = .ok (.getfield 26, 3) := by decide +kernel
theorem dX5_order_34 : decode cX5_order 34 = .ok (.getfield 177, 3) := by decide +kernel
theorem dX5_order_37 : decode cX5_order 37 = .ok (.bipush 6, 2) := by decide +kernel
theorem dX5_order_39 : decode cX5_order 39 = .ok (.if_icmp .lt 13, 3) := by decide +kernel
theorem dX5_order_42 : decode cX5_order 42 = .ok (.new 60, 3) := by decide +kernel
theorem dX5_order_45 : decode cX5_order 45 = .ok (.dup, 1) := by decide +kernel
theorem dX5_order_46 : decode cX5_order 46 = .ok (.ldc 180, 2) := by decide +kernel
theorem dX5_order_48 : decode cX5_order 48 = .ok (.invokespecial 64, 3) := by decide +kernel
theorem dX5_order_51 : decode cX5_order 51 = .ok (.athrow, 1) := by decide +kernel
theorem dX5_order_52 : decode cX5_order 52 = .ok (.aload_n 0, 1) := by decide +kernel
theorem dX5_order_53 : decode cX5_order 53 = .ok (.getfield 26, 3) := by decide +kernel
theorem dX5_order_56 : decode cX5_order 56 = .ok (.iload_n 1, 1) := by decide +kernel
theorem dX5_order_57 : decode cX5_order 57 = .ok (.iload_n 2, 1) := by decide +kernel
theorem dX5_order_58 : decode cX5_order 58 = .ok (.ifCond .eq 7, 3) := by decide +kernel
theorem dX5_order_61 : decode cX5_order 61 = .ok (.iconst 1, 1) := by decide +kernel
theorem dX5_order_62 : decode cX5_order 62 = .ok (.goto 4, 3) := by decide +kernel
theorem dX5_order_65 : decode cX5_order 65 = .ok (.iconst 0, 1) := by decide +kernel
theorem dX5_order_66 : decode cX5_order 66 = .ok (.invokevirtual 182, 3) := by decide +kernel
theorem dX5_order_69 : decode cX5_order 69 = .ok (.aload_n 0, 1) := by decide +kernel
theorem dX5_order_70 : decode cX5_order 70 = .ok (.getfield 26, 3) := by decide +kernel
theorem dX5_order_73 : decode cX5_order 73 = .ok (.getfield 177, 3) := by decide +kernel
theorem dX5_order_76 : decode cX5_order 76 = .ok (.ireturn, 1) := by decide +kernel
theorem dX5_takeBack_0 : decode cX5_takeBack 0 = .ok (.aload_n 0, 1) := by decide +kernel
theorem dX5_takeBack_1 : decode cX5_takeBack 1 = .ok (.getfield 26, 3) := by decide +kernel
theorem dX5_takeBack_4 : decode cX5_takeBack 4 = .ok (.iload_n 1, 1) := by decide +kernel
theorem dX5_takeBack_5 : decode cX5_takeBack 5 = .ok (.invokevirtual 155, 3) := by decide +kernel
theorem dX5_takeBack_8 : decode cX5_takeBack 8 = .ok (.istore_n 2, 1) := by decide +kernel
theorem dX5_takeBack_9 : decode cX5_takeBack 9 = .ok (.iload_n 2, 1) := by decide +kernel
theorem dX5_takeBack_10 : decode cX5_takeBack 10 = .ok (.iconst (-1), 1) := by decide +kernel
theorem dX5_takeBack_11 : decode cX5_takeBack 11 = .ok (.if_icmp .ne 13, 3) := by decide +kernel
theorem dX5_takeBack_14 : decode cX5_takeBack 14 = .ok (.new 185, 3) := by decide +kernel
theorem dX5_takeBack_17 : decode cX5_takeBack 17 = .ok (.dup, 1) := by decide +kernel
theorem dX5_takeBack_18 : decode cX5_takeBack 18 = .ok (.ldc 187, 2) := by decide +kernel
theorem dX5_takeBack_20 : decode cX5_takeBack 20 = .ok (.invokespecial 189, 3) := by decide +kernel
theorem dX5_takeBack_23 : decode cX5_takeBack 23 = .ok (.athrow, 1) := by decide +kernel
theorem dX5_takeBack_24 : decode cX5_takeBack 24 = .ok (.aload_n 0, 1) := by decide +kernel
theorem dX5_takeBack_25 : decode cX5_takeBack 25 = .ok (.getfield 26, 3) := by decide +kernel
theorem dX5_takeBack_28 : decode cX5_takeBack 28 = .ok (.iload_n 1, 1) := by decide +kernel
theorem dX5_takeBack_29 : decode cX5_takeBack 29 = .ok (.invokevirtual 190, 3) := by decide +kernel
theorem dX5_takeBack_32 : decode cX5_takeBack 32 = .ok (.iload_n 2, 1) := by decide +kernel
theorem dX5_takeBack_33 : decode cX5_takeBack 33 = .ok (.iconst 1, 1) := by decide +kernel
theorem dX5_takeBack_34 : decode cX5_takeBack 34 = .ok (.if_icmp .ne 7, 3) := by decide +kernel
theorem dX5_takeBack_37 : decode cX5_takeBack 37 = .ok (.iconst 1, 1) := by decide +kernel
theorem dX5_takeBack_38 : decode cX5_takeBack 38 = .ok (.goto 4, 3) := by decide +kernel
theorem dX5_takeBack_41 : decode cX5_takeBack 41 = .ok (.iconst 0, 1) := by decide +kernel
theorem dX5_takeBack_42 : decode cX5_takeBack 42 = .ok (.ireturn, 1) := by decide +kernel
theorem dX5_halfHour_0 : decode cX5_halfHour 0 = .ok (.aload_n 0, 1) := by decide +kernel
theorem dX5_halfHour_1 : decode cX5_halfHour 1 = .ok (.getfield 50, 3) := by decide +kernel
theorem dX5_halfHour_4 : decode cX5_halfHour 4 = .ok (.ireturn, 1) := by decide +kernel
theorem dX5_bestCost_0 : decode cX5_bestCost 0 = .ok (.iload_n 1, 1) := by decide +kernel
theorem dX5_bestCost_1 : decode cX5_bestCost 1 = .ok (.iconst 1, 1) := by decide +kernel
theorem dX5_bestCost_2 : decode cX5_bestCost 2 = .ok (.bipush 6, 2) := by decide +kernel
theorem dX5_bestCost_4 : decode cX5_bestCost 4 = .ok (.invokestatic 53, 3) := by decide +kernel
theorem dX5_bestCost_7 : decode cX5_bestCost 7 = .ok (.aload_n 0, 1) := by decide +kernel
theorem dX5_bestCost_8 : decode cX5_bestCost 8 = .ok (.getfield 35, 3) := by decide +kernel
theorem dX5_bestCost_11 : decode cX5_bestCost 11 = .ok (.aload_n 0, 1) := by decide +kernel
theorem dX5_bestCost_12 : decode cX5_bestCost 12 = .ok (.getfield 19, 3) := by decide +kernel
theorem dX5_bestCost_15 : decode cX5_bestCost 15 = .ok (.aload_n 0, 1) := by decide +kernel
theorem dX5_bestCost_16 : decode cX5_bestCost 16 = .ok (.getfield 50, 3) := by decide +kernel
theorem dX5_bestCost_19 : decode cX5_bestCost 19 = .ok (.iload_n 1, 1) := by decide +kernel
theorem dX5_bestCost_20 : decode cX5_bestCost 20 = .ok (.invokevirtual 158, 3) := by decide +kernel
theorem dX5_bestCost_23 : decode cX5_bestCost 23 = .ok (.aload_n 0, 1) := by decide +kernel
theorem dX5_bestCost_24 : decode cX5_bestCost 24 = .ok (.getfield 35, 3) := by decide +kernel
theorem dX5_bestCost_27 : decode cX5_bestCost 27 = .ok (.getfield 162, 3) := by decide +kernel
theorem dX5_bestCost_30 : decode cX5_bestCost 30 = .ok (.invokestatic 193, 3) := by decide +kernel
theorem dX5_bestCost_33 : decode cX5_bestCost 33 = .ok (.aload_n 0, 1) := by decide +kernel
theorem dX5_bestCost_34 : decode cX5_bestCost 34 = .ok (.getfield 35, 3) := by decide +kernel
theorem dX5_bestCost_37 : decode cX5_bestCost 37 = .ok (.getfield 162, 3) := by decide +kernel
theorem dX5_bestCost_40 : decode cX5_bestCost 40 = .ok (.ireturn, 1) := by decide +kernel
theorem dX5_bestCostByTrying_0 : decode cX5_bestCostByTrying 0 = .ok (.iload_n 1, 1) := by decide +kernel
theorem dX5_bestCostByTrying_1 : decode cX5_bestCostByTrying 1 = .ok (.iconst 1, 1) := by decide +kernel
theorem dX5_bestCostByTrying_2 : decode cX5_bestCostByTrying 2 = .ok (.bipush 6, 2) := by decide +kernel
theorem dX5_bestCostByTrying_4 : decode cX5_bestCostByTrying 4 = .ok (.invokestatic 53, 3) := by decide +kernel
theorem dX5_bestCostByTrying_7 : decode cX5_bestCostByTrying 7 = .ok (.aload_n 0, 1) := by decide +kernel
theorem dX5_bestCostByTrying_8 : decode cX5_bestCostByTrying 8 = .ok (.getfield 35, 3) := by decide +kernel
theorem dX5_bestCostByTrying_11 : decode cX5_bestCostByTrying 11 = .ok (.aload_n 0, 1) := by decide +kernel
theorem dX5_bestCostByTrying_12 : decode cX5_bestCostByTrying 12 = .ok (.getfield 19, 3) := by decide +kernel
theorem dX5_bestCostByTrying_15 : decode cX5_bestCostByTrying 15 = .ok (.aload_n 0, 1) := by decide +kernel
theorem dX5_bestCostByTrying_16 : decode cX5_bestCostByTrying 16 = .ok (.getfield 50, 3) := by decide +kernel
theorem dX5_bestCostByTrying_19 : decode cX5_bestCostByTrying 19 = .ok (.iload_n 1, 1) := by decide +kernel
theorem dX5_bestCostByTrying_20 : decode cX5_bestCostByTrying 20 = .ok (.invokevirtual 196, 3) := by decide +kernel
theorem dX5_bestCostByTrying_23 : decode cX5_bestCostByTrying 23 = .ok (.ldc 165, 2) := by decide +kernel
theorem dX5_bestCostByTrying_25 : decode cX5_bestCostByTrying 25 = .ok (.istore_n 2, 1) := by decide +kernel
theorem dX5_bestCostByTrying_26 : decode cX5_bestCostByTrying 26 = .ok (.iconst 0, 1) := by decide +kernel
theorem dX5_bestCostByTrying_27 : decode cX5_bestCostByTrying 27 = .ok (.istore_n 3, 1) := by decide +kernel
theorem dX5_bestCostByTrying_28 : decode cX5_bestCostByTrying 28 = .ok (.iload_n 3, 1) := by decide +kernel
theorem dX5_bestCostByTrying_29 : decode cX5_bestCostByTrying 29 = .ok (.iconst 1, 1) := by decide +kernel
