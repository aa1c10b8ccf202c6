theorem dX6_isOnInBest_53 : decode cX6_isOnInBest 53 = .ok (.aload_n 0, 1) := by decide +kernel
theorem dX6_isOnInBest_54 : decode cX6_isOnInBest 54 = .ok (.getfield 180, 3) := by decide +kernel
theorem dX6_isOnInBest_57 : decode cX6_isOnInBest 57 = .ok (.ifCond .ne 7, 3) := by decide +kernel
theorem dX6_isOnInBest_60 : decode cX6_isOnInBest 60 = .ok (.iconst 3, 1) := by decide +kernel
theorem dX6_isOnInBest_61 : decode cX6_isOnInBest 61 = .ok (.goto 4, 3) := by decide +kernel
theorem dX6_isOnInBest_64 : decode cX6_isOnInBest 64 = .ok (.iconst 0, 1) := by decide +kernel
theorem dX6_isOnInBest_65 : decode cX6_isOnInBest 65 = .ok (.putfield 54, 3) := by decide +kernel
theorem dX6_isOnInBest_68 : decode cX6_isOnInBest 68 = .ok (.aload_n 0, 1) := by decide +kernel
theorem dX6_isOnInBest_69 : decode cX6_isOnInBest 69 = .ok (.getfield 54, 3) := by decide +kernel
theorem dX6_isOnInBest_72 : decode cX6_isOnInBest 72 = .ok (.ifCond .ne 23, 3) := by decide +kernel
theorem dX6_isOnInBest_75 : decode cX6_isOnInBest 75 = .ok (.aload_n 0, 1) := by decide +kernel
theorem dX6_isOnInBest_76 : decode cX6_isOnInBest 76 = .ok (.getfield 183, 3) := by decide +kernel
theorem dX6_isOnInBest_79 : decode cX6_isOnInBest 79 = .ok (.iload_n 1, 1) := by decide +kernel
theorem dX6_isOnInBest_80 : decode cX6_isOnInBest 80 = .ok (.iconst 1, 1) := by decide +kernel
theorem dX6_isOnInBest_81 : decode cX6_isOnInBest 81 = .ok (.isub, 1) := by decide +kernel
theorem dX6_isOnInBest_82 : decode cX6_isOnInBest 82 = .ok (.iload_n 2, 1) := by decide +kernel
theorem dX6_isOnInBest_83 : decode cX6_isOnInBest 83 = .ok (.isub, 1) := by decide +kernel
theorem dX6_isOnInBest_84 : decode cX6_isOnInBest 84 = .ok (.ishr, 1) := by decide +kernel
theorem dX6_isOnInBest_85 : decode cX6_isOnInBest 85 = .ok (.iconst 1, 1) := by decide +kernel
theorem dX6_isOnInBest_86 : decode cX6_isOnInBest 86 = .ok (.iand, 1) := by decide +kernel
theorem dX6_isOnInBest_87 : decode cX6_isOnInBest 87 = .ok (.iconst 1, 1) := by decide +kernel
theorem dX6_isOnInBest_88 : decode cX6_isOnInBest 88 = .ok (.if_icmp .ne 7, 3) := by decide +kernel
theorem dX6_isOnInBest_91 : decode cX6_isOnInBest 91 = .ok (.iconst 1, 1) := by decide +kernel
theorem dX6_isOnInBest_92 : decode cX6_isOnInBest 92 = .ok (.goto 4, 3) := by decide +kernel
theorem dX6_isOnInBest_95 : decode cX6_isOnInBest 95 = .ok (.iconst 0, 1) := by decide +kernel
theorem dX6_isOnInBest_96 : decode cX6_isOnInBest 96 = .ok (.ireturn, 1) := by decide +kernel
theorem dX6_allowedSchedules_0 : decode cX6_allowedSchedules 0 = .ok (.aload_n 0, 1) := by decide +kernel
theorem dX6_allowedSchedules_1 : decode cX6_allowedSchedules 1 = .ok (.iload_n 1, 1) := by decide +kernel
theorem dX6_allowedSchedules_2 : decode cX6_allowedSchedules 2 = .ok (.i2l, 1) := by decide +kernel
theorem dX6_allowedSchedules_3 : decode cX6_allowedSchedules 3 = .ok (.lconst 1, 1) := by decide +kernel
theorem dX6_allowedSchedules_4 : decode cX6_allowedSchedules 4 = .ok (.ldc2_w 186, 3) := by decide +kernel
theorem dX6_allowedSchedules_7 : decode cX6_allowedSchedules 7 = .ok (.invokestatic 60, 3) := by decide +kernel
theorem dX6_allowedSchedules_10 : decode cX6_allowedSchedules 10 = .ok (.ifCond .eq 7, 3) := by decide +kernel
theorem dX6_allowedSchedules_13 : decode cX6_allowedSchedules 13 = .ok (.iconst 0, 1) := by decide +kernel
theorem dX6_allowedSchedules_14 : decode cX6_allowedSchedules 14 = .ok (.goto 4, 3) := by decide +kernel
theorem dX6_allowedSchedules_17 : decode cX6_allowedSchedules 17 = .ok (.iconst 1, 1) := by decide +kernel
theorem dX6_allowedSchedules_18 : decode cX6_allowedSchedules 18 = .ok (.putfield 54, 3) := by decide +kernel
theorem dX6_allowedSchedules_21 : decode cX6_allowedSchedules 21 = .ok (.aload_n 0, 1) := by decide +kernel
theorem dX6_allowedSchedules_22 : decode cX6_allowedSchedules 22 = .ok (.getfield 54, 3) := by decide +kernel
theorem dX6_allowedSchedules_25 : decode cX6_allowedSchedules 25 = .ok (.ifCond .le 5, 3) := by decide +kernel
theorem dX6_allowedSchedules_28 : decode cX6_allowedSchedules 28 = .ok (.iconst (-1), 1) := by decide +kernel
theorem dX6_allowedSchedules_29 : decode cX6_allowedSchedules 29 = .ok (.ireturn, 1) := by decide +kernel
theorem dX6_allowedSchedules_30 : decode cX6_allowedSchedules 30 = .ok (.aload_n 0, 1) := by decide +kernel
theorem dX6_allowedSchedules_31 : decode cX6_allowedSchedules 31 = .ok (.iload_n 1, 1) := by decide +kernel
theorem dX6_allowedSchedules_32 : decode cX6_allowedSchedules 32 = .ok (.invokevirtual 177, 3) := by decide +kernel
theorem dX6_allowedSchedules_35 : decode cX6_allowedSchedules 35 = .ok (.aload_n 0, 1) := by decide +kernel
theorem dX6_allowedSchedules_36 : decode cX6_allowedSchedules 36 = .ok (.getfield 180, 3) := by decide +kernel
theorem dX6_allowedSchedules_39 : decode cX6_allowedSchedules 39 = .ok (.ireturn, 1) := by decide +kernel
theorem dX6_feed_0 : decode cX6_feed 0 = .ok (.aload_n 0, 1) := by decide +kernel
theorem dX6_feed_1 : decode cX6_feed 1 = .ok (.iconst 0, 1) := by decide +kernel
theorem dX6_feed_2 : decode cX6_feed 2 = .ok (.putfield 54, 3) := by decide +kernel
theorem dX6_feed_5 : decode cX6_feed 5 = .ok (.aload_n 0, 1) := by decide +kernel
theorem dX6_feed_6 : decode cX6_feed 6 = .ok (.getfield 150, 3) := by decide +kernel
theorem dX6_feed_9 : decode cX6_feed 9 = .ok (.lreturn, 1) := by decide +kernel
theorem dX6_product_0 : decode cX6_product 0 = .ok (.aload_n 0, 1) := by decide +kernel
theorem dX6_product_1 : decode cX6_product 1 = .ok (.iconst 0, 1) := by decide +kernel
theorem dX6_product_2 : decode cX6_product 2 = .ok (.putfield 54, 3) := by decide +kernel
theorem dX6_product_5 : decode cX6_product 5 = .ok (.aload_n 0, 1) := by decide +kernel
theorem dX6_product_6 : decode cX6_product 6 = .ok (.getfield 146, 3) := by decide +kernel
theorem dX6_product_9 : decode cX6_product 9 = .ok (.lreturn, 1) := by decide +kernel
theorem dX6_brine_0 : decode cX6_brine 0 = .ok (.aload_n 0, 1) := by decide +kernel
theorem dX6_brine_1 : decode cX6_brine 1 = .ok (.iconst 0, 1) := by decide +kernel
theorem dX6_brine_2 : decode cX6_brine 2 = .ok (.putfield 54, 3) := by decide +kernel
theorem dX6_brine_5 : decode cX6_brine 5 = .ok (.aload_n 0, 1) := by decide +kernel
theorem dX6_brine_6 : decode cX6_brine 6 = .ok (.getfield 150, 3) := by decide +kernel
theorem dX6_brine_9 : decode cX6_brine 9 = .ok (.aload_n 0, 1) := by decide +kernel
theorem dX6_brine_10 : decode cX6_brine 10 = .ok (.getfield 146, 3) := by decide +kernel
theorem dX6_brine_13 : decode cX6_brine 13 = .ok (.lsub, 1) := by decide +kernel
theorem dX6_brine_14 : decode cX6_brine 14 = .ok (.lreturn, 1) := by decide +kernel
theorem dX6_spilled_0 : decode cX6_spilled 0 = .ok (.aload_n 0, 1) := by decide +kernel
theorem dX6_spilled_1 : decode cX6_spilled 1 = .ok (.iconst 0, 1) := by decide +kernel
theorem dX6_spilled_2 : decode cX6_spilled 2 = .ok (.putfield 54, 3) := by decide +kernel
theorem dX6_spilled_5 : decode cX6_spilled 5 = .ok (.aload_n 0, 1) := by decide +kernel
theorem dX6_spilled_6 : decode cX6_spilled 6 = .ok (.getfield 153, 3) := by decide +kernel
theorem dX6_spilled_9 : decode cX6_spilled 9 = .ok (.lreturn, 1) := by decide +kernel
theorem dX6_spilledByBalance_0 : decode cX6_spilledByBalance 0 = .ok (.aload_n 0, 1) := by decide +kernel
theorem dX6_spilledByBalance_1 : decode cX6_spilledByBalance 1 = .ok (.invokevirtual 204, 3) := by decide +kernel
theorem dX6_spilledByBalance_4 : decode cX6_spilledByBalance 4 = .ok (.lreturn, 1) := by decide +kernel
theorem dX6_cost_0 : decode cX6_cost 0 = .ok (.aload_n 0, 1) := by decide +kernel
theorem dX6_cost_1 : decode cX6_cost 1 = .ok (.iconst 0, 1) := by decide +kernel
theorem dX6_cost_2 : decode cX6_cost 2 = .ok (.putfield 54, 3) := by decide +kernel
theorem dX6_cost_5 : decode cX6_cost 5 = .ok (.aload_n 0, 1) := by decide +kernel
theorem dX6_cost_6 : decode cX6_cost 6 = .ok (.getfield 159, 3) := by decide +kernel
theorem dX6_cost_9 : decode cX6_cost 9 = .ok (.lreturn, 1) := by decide +kernel
theorem dX6_isBalanced_0 : decode cX6_isBalanced 0 = .ok (.aload_n 0, 1) := by decide +kernel
theorem dX6_isBalanced_1 : decode cX6_isBalanced 1 = .ok (.iconst 0, 1) := by decide +kernel
theorem dX6_isBalanced_2 : decode cX6_isBalanced 2 = .ok (.putfield 54, 3) := by decide +kernel
theorem dX6_isBalanced_5 : decode cX6_isBalanced 5 = .ok (.iconst 1, 1) := by decide +kernel
theorem dX6_isBalanced_6 : decode cX6_isBalanced 6 = .ok (.ireturn, 1) := by decide +kernel
theorem dX6_servedShare_0 : decode cX6_servedShare 0 = .ok (.aload_n 0, 1) := by decide +kernel
theorem dX6_servedShare_1 : decode cX6_servedShare 1 = .ok (.aload_n 0, 1) := by decide +kernel
theorem dX6_servedShare_2 : decode cX6_servedShare 2 = .ok (.getfield 162, 3) := by decide +kernel
theorem dX6_servedShare_5 : decode cX6_servedShare 5 = .ok (.lconst 0, 1) := by decide +kernel
theorem dX6_servedShare_6 : decode cX6_servedShare 6 = .ok (.lcmp, 1) := by decide +kernel
theorem dX6_servedShare_7 : decode cX6_servedShare 7 = .ok (.ifCond .ne 7, 3) := by decide +kernel
theorem dX6_servedShare_10 : decode cX6_servedShare 10 = .ok (.iconst 1, 1) := by decide +kernel
theorem dX6_servedShare_11 : decode cX6_servedShare 11 = .ok (.goto 4, 3) := by decide +kernel
theorem dX6_servedShare_14 : decode cX6_servedShare 14 = .ok (.iconst 0, 1) := by decide +kernel
theorem dX6_servedShare_15 : decode cX6_servedShare 15 = .ok (.putfield 54, 3) := by decide +kernel
theorem dX6_servedShare_18 : decode cX6_servedShare 18 = .ok (.aload_n 0, 1) := by decide +kernel
theorem dX6_servedShare_19 : decode cX6_servedShare 19 = .ok (.getfield 54, 3) := by decide +kernel
theorem dX6_servedShare_22 : decode cX6_servedShare 22 = .ok (.ifCond .ne 17, 3) := by decide +kernel
theorem dX6_servedShare_25 : decode cX6_servedShare 25 = .ok (.aload_n 0, 1) := by decide +kernel
theorem dX6_servedShare_26 : decode cX6_servedShare 26 = .ok (.getfield 156, 3) := by decide +kernel
theorem dX6_servedShare_29 : decode cX6_servedShare 29 = .ok (.l2f, 1) := by decide +kernel
theorem dX6_servedShare_30 : decode cX6_servedShare 30 = .ok (.aload_n 0, 1) := by decide +kernel
theorem dX6_servedShare_31 : decode cX6_servedShare 31 = .ok (.getfield 162, 3) := by decide +kernel
theorem dX6_servedShare_34 : decode cX6_servedShare 34 = .ok (.l2f, 1) := by decide +kernel
theorem dX6_servedShare_35 : decode cX6_servedShare 35 = .ok (.fdiv, 1) := by decide +kernel
theorem dX6_servedShare_36 : decode cX6_servedShare 36 = .ok (.goto 4, 3) := by decide +kernel
theorem dX6_servedShare_39 : decode cX6_servedShare 39 = .ok (.fconst 0, 1) := by decide +kernel
theorem dX6_servedShare_40 : decode cX6_servedShare 40 = .ok (.freturn, 1) := by decide +kernel
theorem dX6_meanCost_0 : decode cX6_meanCost 0 = .ok (.aload_n 0, 1) := by decide +kernel
theorem dX6_meanCost_1 : decode cX6_meanCost 1 = .ok (.aload_n 0, 1) := by decide +kernel
theorem dX6_meanCost_2 : decode cX6_meanCost 2 = .ok (.getfield 139, 3) := by decide +kernel
theorem dX6_meanCost_5 : decode cX6_meanCost 5 = .ok (.ifCond .ne 7, 3) := by decide +kernel
theorem dX6_meanCost_8 : decode cX6_meanCost 8 = .ok (.iconst 1, 1) := by decide +kernel
theorem dX6_meanCost_9 : decode cX6_meanCost 9 = .ok (.goto 4, 3) := by decide +kernel
theorem dX6_meanCost_12 : decode cX6_meanCost 12 = .ok (.iconst 0, 1) := by decide +kernel
theorem dX6_meanCost_13 : decode cX6_meanCost 13 = .ok (.putfield 54, 3) := by decide +kernel
theorem dX6_meanCost_16 : decode cX6_meanCost 16 = .ok (.aload_n 0, 1) := by decide +kernel
theorem dX6_meanCost_17 : decode cX6_meanCost 17 = .ok (.getfield 54, 3) := by decide +kernel
theorem dX6_meanCost_20 : decode cX6_meanCost 20 = .ok (.ifCond .ne 17, 3) := by decide +kernel
theorem dX6_meanCost_23 : decode cX6_meanCost 23 = .ok (.aload_n 0, 1) := by decide +kernel
theorem dX6_meanCost_24 : decode cX6_meanCost 24 = .ok (.getfield 159, 3) := by decide +kernel
theorem dX6_meanCost_27 : decode cX6_meanCost 27 = .ok (.l2d, 1) := by decide +kernel
theorem dX6_meanCost_28 : decode cX6_meanCost 28 = .ok (.aload_n 0, 1) := by decide +kernel
theorem dX6_meanCost_29 : decode cX6_meanCost 29 = .ok (.getfield 139, 3) := by decide +kernel
theorem dX6_meanCost_32 : decode cX6_meanCost 32 = .ok (.i2d, 1) := by decide +kernel
theorem dX6_meanCost_33 : decode cX6_meanCost 33 = .ok (.ddiv, 1) := by decide +kernel
theorem dX6_meanCost_34 : decode cX6_meanCost 34 = .ok (.goto 4, 3) := by decide +kernel
theorem dX6_meanCost_37 : decode cX6_meanCost 37 = .ok (.dconst 0, 1) := by decide +kernel
theorem dX6_meanCost_38 : decode cX6_meanCost 38 = .ok (.dreturn, 1) := by decide +kernel
theorem dJx00060_init_a7421_0 : decode cJx00060_init_a7421 0 = .ok (.aload_n 0, 1) := by decide +kernel
theorem dJx00060_init_a7421_1 : decode cJx00060_init_a7421 1 = .ok (.aload_n 1, 1) := by decide +kernel
theorem dJx00060_init_a7421_2 : decode cJx00060_init_a7421 2 = .ok (.invokespecial 7, 3) := by decide +kernel
theorem dJx00060_init_a7421_5 : decode cJx00060_init_a7421 5 = .ok (.return_, 1) := by decide +kernel
theorem dJ9_floorMod_7cf53_0 : decode cJ9_floorMod_7cf53 0 = .ok (.iload_n 0, 1) := by decide +kernel
theorem dJ9_floorMod_7cf53_1 : decode cJ9_floorMod_7cf53 1 = .ok (.iload_n 1, 1) := by decide +kernel
theorem dJ9_floorMod_7cf53_2 : decode cJ9_floorMod_7cf53 2 = .ok (.irem, 1) := by decide +kernel
theorem dJ9_floorMod_7cf53_3 : decode cJ9_floorMod_7cf53 3 = .ok (.istore_n 2, 1) := by decide +kernel
theorem dJ9_floorMod_7cf53_4 : decode cJ9_floorMod_7cf53 4 = .ok (.iload_n 0, 1) := by decide +kernel
theorem dJ9_floorMod_7cf53_5 : decode cJ9_floorMod_7cf53 5 = .ok (.iload_n 1, 1) := by decide +kernel
theorem dJ9_floorMod_7cf53_6 : decode cJ9_floorMod_7cf53 6 = .ok (.ixor, 1) := by decide +kernel
theorem dJ9_floorMod_7cf53_7 : decode cJ9_floorMod_7cf53 7 = .ok (.ifCond .ge 11, 3) := by decide +kernel
theorem dJ9_floorMod_7cf53_10 : decode cJ9_floorMod_7cf53 10 = .ok (.iload_n 2, 1) := by decide +kernel
theorem dJ9_floorMod_7cf53_11 : decode cJ9_floorMod_7cf53 11 = .ok (.ifCond .eq 7, 3) := by decide +kernel
theorem dJ9_floorMod_7cf53_14 : decode cJ9_floorMod_7cf53 14 = .ok (.iload_n 2, 1) := by decide +kernel
theorem dJ9_floorMod_7cf53_15 : decode cJ9_floorMod_7cf53 15 = .ok (.iload_n 1, 1) := by decide +kernel
theorem dJ9_floorMod_7cf53_16 : decode cJ9_floorMod_7cf53 16 = .ok (.iadd, 1) := by decide +kernel
theorem dJ9_floorMod_7cf53_17 : decode cJ9_floorMod_7cf53 17 = .ok (.ireturn, 1) := by decide +kernel
theorem dJ9_floorMod_7cf53_18 : decode cJ9_floorMod_7cf53 18 = .ok (.iload_n 2, 1) := by decide +kernel
theorem dJ9_floorMod_7cf53_19 : decode cJ9_floorMod_7cf53 19 = .ok (.ireturn, 1) := by decide +kernel
theorem dJ9_max_7cf53_0 : decode cJ9_max_7cf53 0 = .ok (.iload_n 0, 1) := by decide +kernel
theorem dJ9_max_7cf53_1 : decode cJ9_max_7cf53 1 = .ok (.iload_n 1, 1) := by decide +kernel
theorem dJ9_max_7cf53_2 : decode cJ9_max_7cf53 2 = .ok (.if_icmp .lt 7, 3) := by decide +kernel
theorem dJ9_max_7cf53_5 : decode cJ9_max_7cf53 5 = .ok (.iload_n 0, 1) := by decide +kernel
theorem dJ9_max_7cf53_6 : decode cJ9_max_7cf53 6 = .ok (.goto 4, 3) := by decide +kernel
theorem dJ9_max_7cf53_9 : decode cJ9_max_7cf53 9 = .ok (.iload_n 1, 1) := by decide +kernel
theorem dJ9_max_7cf53_10 : decode cJ9_max_7cf53 10 = .ok (.ireturn, 1) := by decide +kernel
theorem dJ9_min_7cf53_0 : decode cJ9_min_7cf53 0 = .ok (.iload_n 0, 1) := by decide +kernel
theorem dJ9_min_7cf53_1 : decode cJ9_min_7cf53 1 = .ok (.iload_n 1, 1) := by decide +kernel
theorem dJ9_min_7cf53_2 : decode cJ9_min_7cf53 2 = .ok (.if_icmp .gt 7, 3) := by decide +kernel
theorem dJ9_min_7cf53_5 : decode cJ9_min_7cf53 5 = .ok (.iload_n 0, 1) := by decide +kernel
theorem dJ9_min_7cf53_6 : decode cJ9_min_7cf53 6 = .ok (.goto 4, 3) := by decide +kernel
theorem dJ9_min_7cf53_9 : decode cJ9_min_7cf53 9 = .ok (.iload_n 1, 1) := by decide +kernel
theorem dJ9_min_7cf53_10 : decode cJ9_min_7cf53 10 = .ok (.ireturn, 1) := by decide +kernel
theorem dJ7_fill_53178_0 : decode cJ7_fill_53178 0 = .ok (.iconst 0, 1) := by decide +kernel
theorem dJ7_fill_53178_1 : decode cJ7_fill_53178 1 = .ok (.istore_n 2, 1) := by decide +kernel
theorem dJ7_fill_53178_2 : decode cJ7_fill_53178 2 = .ok (.aload_n 0, 1) := by decide +kernel
theorem dJ7_fill_53178_3 : decode cJ7_fill_53178 3 = .ok (.arraylength, 1) := by decide +kernel
theorem dJ7_fill_53178_4 : decode cJ7_fill_53178 4 = .ok (.istore_n 3, 1) := by decide +kernel
theorem dJ7_fill_53178_5 : decode cJ7_fill_53178 5 = .ok (.iload_n 2, 1) := by decide +kernel
theorem dJ7_fill_53178_6 : decode cJ7_fill_53178 6 = .ok (.iload_n 3, 1) := by decide +kernel
theorem dJ7_fill_53178_7 : decode cJ7_fill_53178 7 = .ok (.if_icmp .ge 13, 3) := by decide +kernel
theorem dJ7_fill_53178_10 : decode cJ7_fill_53178 10 = .ok (.aload_n 0, 1) := by decide +kernel
theorem dJ7_fill_53178_11 : decode cJ7_fill_53178 11 = .ok (.iload_n 2, 1) := by decide +kernel
theorem dJ7_fill_53178_12 : decode cJ7_fill_53178 12 = .ok (.iload_n 1, 1) := by decide +kernel
theorem dJ7_fill_53178_13 : decode cJ7_fill_53178 13 = .ok (.iastore, 1) := by decide +kernel
theorem dJ7_fill_53178_14 : decode cJ7_fill_53178 14 = .ok (.iinc 2 1, 3) := by decide +kernel
theorem dJ7_fill_53178_17 : decode cJ7_fill_53178 17 = .ok (.goto (-12), 3) := by decide +kernel
theorem dJ7_fill_53178_20 : decode cJ7_fill_53178 20 = .ok (.return_, 1) := by decide +kernel
theorem dL_addTrain_0 : decode cL_addTrain 0 = .ok (.aload_n 2, 1) := by decide +kernel
theorem dL_addTrain_1 : decode cL_addTrain 1 = .ok (.iconst 0, 1) := by decide +kernel
theorem dL_addTrain_2 : decode cL_addTrain 2 = .ok (.aload_n 0, 1) := by decide +kernel
theorem dL_addTrain_3 : decode cL_addTrain 3 = .ok (.iload_n 1, 1) := by decide +kernel
theorem dL_addTrain_4 : decode cL_addTrain 4 = .ok (.invokevirtual 7, 3) := by decide +kernel
theorem dL_addTrain_7 : decode cL_addTrain 7 = .ok (.i2l, 1) := by decide +kernel
theorem dL_addTrain_8 : decode cL_addTrain 8 = .ok (.lastore, 1) := by decide +kernel
theorem dL_addTrain_9 : decode cL_addTrain 9 = .ok (.goto 9, 3) := by decide +kernel
theorem dL_addTrain_12 : decode cL_addTrain 12 = .ok (.astore_n 3, 1) := by decide +kernel
theorem dL_addTrain_13 : decode cL_addTrain 13 = .ok (.iconst 1, 1) := by decide +kernel
theorem dL_addTrain_14 : decode cL_addTrain 14 = .ok (.ireturn, 1) := by decide +kernel
theorem dL_addTrain_15 : decode cL_addTrain 15 = .ok (.astore_n 3, 1) := by decide +kernel
theorem dL_addTrain_16 : decode cL_addTrain 16 = .ok (.iconst 2, 1) := by decide +kernel
theorem dL_addTrain_17 : decode cL_addTrain 17 = .ok (.ireturn, 1) := by decide +kernel
theorem dL_addTrain_18 : decode cL_addTrain 18 = .ok (.iconst 0, 1) := by decide +kernel
theorem dL_addTrain_19 : decode cL_addTrain 19 = .ok (.ireturn, 1) := by decide +kernel
theorem dL_setPressure_0 : decode cL_setPressure 0 = .ok (.aload_n 3, 1) := by decide +kernel
theorem dL_setPressure_1 : decode cL_setPressure 1 = .ok (.iconst 0, 1) := by decide +kernel
theorem dL_setPressure_2 : decode cL_setPressure 2 = .ok (.aload_n 0, 1) := by decide +kernel
theorem dL_setPressure_3 : decode cL_setPressure 3 = .ok (.iload_n 1, 1) := by decide +kernel
theorem dL_setPressure_4 : decode cL_setPressure 4 = .ok (.iload_n 2, 1) := by decide +kernel
theorem dL_setPressure_5 : decode cL_setPressure 5 = .ok (.invokevirtual 17, 3) := by decide +kernel
theorem dL_setPressure_8 : decode cL_setPressure 8 = .ok (.i2l, 1) := by decide +kernel
theorem dL_setPressure_9 : decode cL_setPressure 9 = .ok (.lastore, 1) := by decide +kernel
theorem dL_setPressure_10 : decode cL_setPressure 10 = .ok (.goto 11, 3) := by decide +kernel
theorem dL_setPressure_13 : decode cL_setPressure 13 = .ok (.astore 4, 2) := by decide +kernel
theorem dL_setPressure_15 : decode cL_setPressure 15 = .ok (.iconst 1, 1) := by decide +kernel
theorem dL_setPressure_16 : decode cL_setPressure 16 = .ok (.ireturn, 1) := by decide +kernel
theorem dL_setPressure_17 : decode cL_setPressure 17 = .ok (.astore 4, 2) := by decide +kernel
theorem dL_setPressure_19 : decode cL_setPressure 19 = .ok (.iconst 2, 1) := by decide +kernel
theorem dL_setPressure_20 : decode cL_setPressure 20 = .ok (.ireturn, 1) := by decide +kernel
theorem dL_setPressure_21 : decode cL_setPressure 21 = .ok (.iconst 0, 1) := by decide +kernel
theorem dL_setPressure_22 : decode cL_setPressure 22 = .ok (.ireturn, 1) := by decide +kernel
theorem dL_setSalinity_0 : decode cL_setSalinity 0 = .ok (.aload_n 2, 1) := by decide +kernel
theorem dL_setSalinity_1 : decode cL_setSalinity 1 = .ok (.iconst 0, 1) := by decide +kernel
theorem dL_setSalinity_2 : decode cL_setSalinity 2 = .ok (.aload_n 0, 1) := by decide +kernel
theorem dL_setSalinity_3 : decode cL_setSalinity 3 = .ok (.iload_n 1, 1) := by decide +kernel
theorem dL_setSalinity_4 : decode cL_setSalinity 4 = .ok (.invokevirtual 23, 3) := by decide +kernel
theorem dL_setSalinity_7 : decode cL_setSalinity 7 = .ok (.i2l, 1) := by decide +kernel
theorem dL_setSalinity_8 : decode cL_setSalinity 8 = .ok (.lastore, 1) := by decide +kernel
theorem dL_setSalinity_9 : decode cL_setSalinity 9 = .ok (.goto 6, 3) := by decide +kernel
theorem dL_setSalinity_12 : decode cL_setSalinity 12 = .ok (.astore_n 3, 1) := by decide +kernel
theorem dL_setSalinity_13 : decode cL_setSalinity 13 = .ok (.iconst 1, 1) := by decide +kernel
theorem dL_setSalinity_14 : decode cL_setSalinity 14 = .ok (.ireturn, 1) := by decide +kernel
theorem dL_setSalinity_15 : decode cL_setSalinity 15 = .ok (.iconst 0, 1) := by decide +kernel
theorem dL_setSalinity_16 : decode cL_setSalinity 16 = .ok (.ireturn, 1) := by decide +kernel
theorem dL_setRecovery_0 : decode cL_setRecovery 0 = .ok (.aload_n 2, 1) := by decide +kernel
theorem dL_setRecovery_1 : decode cL_setRecovery 1 = .ok (.iconst 0, 1) := by decide +kernel
theorem dL_setRecovery_2 : decode cL_setRecovery 2 = .ok (.aload_n 0, 1) := by decide +kernel
theorem dL_setRecovery_3 : decode cL_setRecovery 3 = .ok (.iload_n 1, 1) := by decide +kernel
theorem dL_setRecovery_4 : decode cL_setRecovery 4 = .ok (.invokevirtual 26, 3) := by decide +kernel
theorem dL_setRecovery_7 : decode cL_setRecovery 7 = .ok (.i2l, 1) := by decide +kernel
theorem dL_setRecovery_8 : decode cL_setRecovery 8 = .ok (.lastore, 1) := by decide +kernel
theorem dL_setRecovery_9 : decode cL_setRecovery 9 = .ok (.goto 6, 3) := by decide +kernel
theorem dL_setRecovery_12 : decode cL_setRecovery 12 = .ok (.astore_n 3, 1) := by decide +kernel
theorem dL_setRecovery_13 : decode cL_setRecovery 13 = .ok (.iconst 1, 1) := by decide +kernel
theorem dL_setRecovery_14 : decode cL_setRecovery 14 = .ok (.ireturn, 1) := by decide +kernel
theorem dL_setRecovery_15 : decode cL_setRecovery 15 = .ok (.iconst 0, 1) := by decide +kernel
theorem dL_setRecovery_16 : decode cL_setRecovery 16 = .ok (.ireturn, 1) := by decide +kernel
theorem dL_clean_0 : decode cL_clean 0 = .ok (.aload_n 2, 1) := by decide +kernel
theorem dL_clean_1 : decode cL_clean 1 = .ok (.iconst 0, 1) := by decide +kernel
theorem dL_clean_2 : decode cL_clean 2 = .ok (.aload_n 0, 1) := by decide +kernel
theorem dL_clean_3 : decode cL_clean 3 = .ok (.iload_n 1, 1) := by decide +kernel
theorem dL_clean_4 : decode cL_clean 4 = .ok (.invokevirtual 29, 3) := by decide +kernel
theorem dL_clean_7 : decode cL_clean 7 = .ok (.i2l, 1) := by decide +kernel
theorem dL_clean_8 : decode cL_clean 8 = .ok (.lastore, 1) := by decide +kernel
theorem dL_clean_9 : decode cL_clean 9 = .ok (.goto 12, 3) := by decide +kernel
theorem dL_clean_12 : decode cL_clean 12 = .ok (.astore_n 3, 1) := by decide +kernel
theorem dL_clean_13 : decode cL_clean 13 = .ok (.iconst 1, 1) := by decide +kernel
theorem dL_clean_14 : decode cL_clean 14 = .ok (.ireturn, 1) := by decide +kernel
theorem dL_clean_15 : decode cL_clean 15 = .ok (.astore_n 3, 1) := by decide +kernel
theorem dL_clean_16 : decode cL_clean 16 = .ok (.iconst 2, 1) := by decide +kernel
theorem dL_clean_17 : decode cL_clean 17 = .ok (.ireturn, 1) := by decide +kernel
theorem dL_clean_18 : decode cL_clean 18 = .ok (.astore_n 3, 1) := by decide +kernel
theorem dL_clean_19 : decode cL_clean 19 = .ok (.iconst 3, 1) := by decide +kernel
theorem dL_clean_20 : decode cL_clean 20 = .ok (.ireturn, 1) := by decide +kernel
theorem dL_clean_21 : decode cL_clean 21 = .ok (.iconst 0, 1) := by decide +kernel
theorem dL_clean_22 : decode cL_clean 22 = .ok (.ireturn, 1) := by decide +kernel
theorem dL_fouling_0 : decode cL_fouling 0 = .ok (.aload_n 2, 1) := by decide +kernel
theorem dL_fouling_1 : decode cL_fouling 1 = .ok (.iconst 0, 1) := by decide +kernel
theorem dL_fouling_2 : decode cL_fouling 2 = .ok (.aload_n 0, 1) := by decide +kernel
theorem dL_fouling_3 : decode cL_fouling 3 = .ok (.iload_n 1, 1) := by decide +kernel
theorem dL_fouling_4 : decode cL_fouling 4 = .ok (.invokevirtual 34, 3) := by decide +kernel
theorem dL_fouling_7 : decode cL_fouling 7 = .ok (.i2l, 1) := by decide +kernel
theorem dL_fouling_8 : decode cL_fouling 8 = .ok (.lastore, 1) := by decide +kernel
theorem dL_fouling_9 : decode cL_fouling 9 = .ok (.goto 6, 3) := by decide +kernel
theorem dL_fouling_12 : decode cL_fouling 12 = .ok (.astore_n 3, 1) := by decide +kernel
theorem dL_fouling_13 : decode cL_fouling 13 = .ok (.iconst 1, 1) := by decide +kernel
theorem dL_fouling_14 : decode cL_fouling 14 = .ok (.ireturn, 1) := by decide +kernel
theorem dL_fouling_15 : decode cL_fouling 15 = .ok (.iconst 0, 1) := by decide +kernel
theorem dL_fouling_16 : decode cL_fouling 16 = .ok (.ireturn, 1) := by decide +kernel
theorem dL_wear_0 : decode cL_wear 0 = .ok (.aload_n 2, 1) := by decide +kernel
theorem dL_wear_1 : decode cL_wear 1 = .ok (.iconst 0, 1) := by decide +kernel
theorem dL_wear_2 : decode cL_wear 2 = .ok (.aload_n 0, 1) := by decide +kernel
theorem dL_wear_3 : decode cL_wear 3 = .ok (.iload_n 1, 1) := by decide +kernel
theorem dL_wear_4 : decode cL_wear 4 = .ok (.invokevirtual 37, 3) := by decide +kernel
theorem dL_wear_7 : decode cL_wear 7 = .ok (.i2l, 1) := by decide +kernel
theorem dL_wear_8 : decode cL_wear 8 = .ok (.lastore, 1) := by decide +kernel
theorem dL_wear_9 : decode cL_wear 9 = .ok (.goto 6, 3) := by decide +kernel
theorem dL_wear_12 : decode cL_wear 12 = .ok (.astore_n 3, 1) := by decide +kernel
theorem dL_wear_13 : decode cL_wear 13 = .ok (.iconst 1, 1) := by decide +kernel
theorem dL_wear_14 : decode cL_wear 14 = .ok (.ireturn, 1) := by decide +kernel
theorem dL_wear_15 : decode cL_wear 15 = .ok (.iconst 0, 1) := by decide +kernel
theorem dL_wear_16 : decode cL_wear 16 = .ok (.ireturn, 1) := by decide +kernel
theorem dL_cleaningLeft_0 : decode cL_cleaningLeft 0 = .ok (.aload_n 2, 1) := by decide +kernel
theorem dL_cleaningLeft_1 : decode cL_cleaningLeft 1 = .ok (.iconst 0, 1) := by decide +kernel
theorem dL_cleaningLeft_2 : decode cL_cleaningLeft 2 = .ok (.aload_n 0, 1) := by decide +kernel
theorem dL_cleaningLeft_3 : decode cL_cleaningLeft 3 = .ok (.iload_n 1, 1) := by decide +kernel
theorem dL_cleaningLeft_4 : decode cL_cleaningLeft 4 = .ok (.invokevirtual 40, 3) := by decide +kernel
theorem dL_cleaningLeft_7 : decode cL_cleaningLeft 7 = .ok (.i2l, 1) := by decide +kernel
theorem dL_cleaningLeft_8 : decode cL_cleaningLeft 8 = .ok (.lastore, 1) := by decide +kernel
theorem dL_cleaningLeft_9 : decode cL_cleaningLeft 9 = .ok (.goto 6, 3) := by decide +kernel
theorem dL_cleaningLeft_12 : decode cL_cleaningLeft 12 = .ok (.astore_n 3, 1) := by decide +kernel
theorem dL_cleaningLeft_13 : decode cL_cleaningLeft 13 = .ok (.iconst 1, 1) := by decide +kernel
theorem dL_cleaningLeft_14 : decode cL_cleaningLeft 14 = .ok (.ireturn, 1) := by decide +kernel
theorem dL_cleaningLeft_15 : decode cL_cleaningLeft 15 = .ok (.iconst 0, 1) := by decide +kernel
theorem dL_cleaningLeft_16 : decode cL_cleaningLeft 16 = .ok (.ireturn, 1) := by decide +kernel
theorem dL_productOf_0 : decode cL_productOf 0 = .ok (.aload_n 2, 1) := by decide +kernel
theorem dL_productOf_1 : decode cL_productOf 1 = .ok (.iconst 0, 1) := by decide +kernel
theorem dL_productOf_2 : decode cL_productOf 2 = .ok (.aload_n 0, 1) := by decide +kernel
theorem dL_productOf_3 : decode cL_productOf 3 = .ok (.iload_n 1, 1) := by decide +kernel
theorem dL_productOf_4 : decode cL_productOf 4 = .ok (.invokevirtual 43, 3) := by decide +kernel
theorem dL_productOf_7 : decode cL_productOf 7 = .ok (.i2l, 1) := by decide +kernel
theorem dL_productOf_8 : decode cL_productOf 8 = .ok (.lastore, 1) := by decide +kernel
theorem dL_productOf_9 : decode cL_productOf 9 = .ok (.goto 9, 3) := by decide +kernel
theorem dL_productOf_12 : decode cL_productOf 12 = .ok (.astore_n 3, 1) := by decide +kernel
theorem dL_productOf_13 : decode cL_productOf 13 = .ok (.iconst 1, 1) := by decide +kernel
theorem dL_productOf_14 : decode cL_productOf 14 = .ok (.ireturn, 1) := by decide +kernel
theorem dL_productOf_15 : decode cL_productOf 15 = .ok (.astore_n 3, 1) := by decide +kernel
theorem dL_productOf_16 : decode cL_productOf 16 = .ok (.iconst 2, 1) := by decide +kernel
theorem dL_productOf_17 : decode cL_productOf 17 = .ok (.ireturn, 1) := by decide +kernel
theorem dL_productOf_18 : decode cL_productOf 18 = .ok (.iconst 0, 1) := by decide +kernel
theorem dL_productOf_19 : decode cL_productOf 19 = .ok (.ireturn, 1) := by decide +kernel
theorem dL_energyOf_0 : decode cL_energyOf 0 = .ok (.aload_n 2, 1) := by decide +kernel
theorem dL_energyOf_1 : decode cL_energyOf 1 = .ok (.iconst 0, 1) := by decide +kernel
theorem dL_energyOf_2 : decode cL_energyOf 2 = .ok (.aload_n 0, 1) := by decide +kernel
theorem dL_energyOf_3 : decode cL_energyOf 3 = .ok (.iload_n 1, 1) := by decide +kernel
theorem dL_energyOf_4 : decode cL_energyOf 4 = .ok (.invokevirtual 46, 3) := by decide +kernel
theorem dL_energyOf_7 : decode cL_energyOf 7 = .ok (.i2l, 1) := by decide +kernel
theorem dL_energyOf_8 : decode cL_energyOf 8 = .ok (.lastore, 1) := by decide +kernel
theorem dL_energyOf_9 : decode cL_energyOf 9 = .ok (.goto 9, 3) := by decide +kernel
theorem dL_energyOf_12 : decode cL_energyOf 12 = .ok (.astore_n 3, 1) := by decide +kernel
theorem dL_energyOf_13 : decode cL_energyOf 13 = .ok (.iconst 1, 1) := by decide +kernel
theorem dL_energyOf_14 : decode cL_energyOf 14 = .ok (.ireturn, 1) := by decide +kernel
theorem dL_energyOf_15 : decode cL_energyOf 15 = .ok (.astore_n 3, 1) := by decide +kernel
theorem dL_energyOf_16 : decode cL_energyOf 16 = .ok (.iconst 2, 1) := by decide +kernel
theorem dL_energyOf_17 : decode cL_energyOf 17 = .ok (.ireturn, 1) := by decide +kernel
theorem dL_energyOf_18 : decode cL_energyOf 18 = .ok (.iconst 0, 1) := by decide +kernel
theorem dL_energyOf_19 : decode cL_energyOf 19 = .ok (.ireturn, 1) := by decide +kernel
theorem dL_addTank_0 : decode cL_addTank 0 = .ok (.aload_n 2, 1) := by decide +kernel
theorem dL_addTank_1 : decode cL_addTank 1 = .ok (.iconst 0, 1) := by decide +kernel
theorem dL_addTank_2 : decode cL_addTank 2 = .ok (.aload_n 0, 1) := by decide +kernel
theorem dL_addTank_3 : decode cL_addTank 3 = .ok (.iload_n 1, 1) := by decide +kernel
theorem dL_addTank_4 : decode cL_addTank 4 = .ok (.invokevirtual 49, 3) := by decide +kernel
theorem dL_addTank_7 : decode cL_addTank 7 = .ok (.i2l, 1) := by decide +kernel
theorem dL_addTank_8 : decode cL_addTank 8 = .ok (.lastore, 1) := by decide +kernel
theorem dL_addTank_9 : decode cL_addTank 9 = .ok (.goto 9, 3) := by decide +kernel
theorem dL_addTank_12 : decode cL_addTank 12 = .ok (.astore_n 3, 1) := by decide +kernel
theorem dL_addTank_13 : decode cL_addTank 13 = .ok (.iconst 1, 1) := by decide +kernel
theorem dL_addTank_14 : decode cL_addTank 14 = .ok (.ireturn, 1) := by decide +kernel
theorem dL_addTank_15 : decode cL_addTank 15 = .ok (.astore_n 3, 1) := by decide +kernel
theorem dL_addTank_16 : decode cL_addTank 16 = .ok (.iconst 2, 1) := by decide +kernel
theorem dL_addTank_17 : decode cL_addTank 17 = .ok (.ireturn, 1) := by decide +kernel
theorem dL_addTank_18 : decode cL_addTank 18 = .ok (.iconst 0, 1) := by decide +kernel
theorem dL_addTank_19 : decode cL_addTank 19 = .ok (.ireturn, 1) := by decide +kernel
theorem dL_setDemand_0 : decode cL_setDemand 0 = .ok (.aload 5, 2) := by decide +kernel
theorem dL_setDemand_2 : decode cL_setDemand 2 = .ok (.iconst 0, 1) := by decide +kernel
theorem dL_setDemand_3 : decode cL_setDemand 3 = .ok (.aload_n 0, 1) := by decide +kernel
theorem dL_setDemand_4 : decode cL_setDemand 4 = .ok (.iload_n 1, 1) := by decide +kernel
theorem dL_setDemand_5 : decode cL_setDemand 5 = .ok (.iload_n 2, 1) := by decide +kernel
theorem dL_setDemand_6 : decode cL_setDemand 6 = .ok (.iload_n 3, 1) := by decide +kernel
theorem dL_setDemand_7 : decode cL_setDemand 7 = .ok (.iload 4, 2) := by decide +kernel
theorem dL_setDemand_9 : decode cL_setDemand 9 = .ok (.invokevirtual 52, 3) := by decide +kernel
theorem dL_setDemand_12 : decode cL_setDemand 12 = .ok (.i2l, 1) := by decide +kernel
theorem dL_setDemand_13 : decode cL_setDemand 13 = .ok (.lastore, 1) := by decide +kernel
theorem dL_setDemand_14 : decode cL_setDemand 14 = .ok (.goto 11, 3) := by decide +kernel
theorem dL_setDemand_17 : decode cL_setDemand 17 = .ok (.astore 6, 2) := by decide +kernel
theorem dL_setDemand_19 : decode cL_setDemand 19 = .ok (.iconst 1, 1) := by decide +kernel
theorem dL_setDemand_20 : decode cL_setDemand 20 = .ok (.ireturn, 1) := by decide +kernel
theorem dL_setDemand_21 : decode cL_setDemand 21 = .ok (.astore 6, 2) := by decide +kernel
theorem dL_setDemand_23 : decode cL_setDemand 23 = .ok (.iconst 2, 1) := by decide +kernel
theorem dL_setDemand_24 : decode cL_setDemand 24 = .ok (.ireturn, 1) := by decide +kernel
theorem dL_setDemand_25 : decode cL_setDemand 25 = .ok (.iconst 0, 1) := by decide +kernel
theorem dL_setDemand_26 : decode cL_setDemand 26 = .ok (.ireturn, 1) := by decide +kernel
theorem dL_setPrice_0 : decode cL_setPrice 0 = .ok (.aload 4, 2) := by decide +kernel
theorem dL_setPrice_2 : decode cL_setPrice 2 = .ok (.iconst 0, 1) := by decide +kernel
theorem dL_setPrice_3 : decode cL_setPrice 3 = .ok (.aload_n 0, 1) := by decide +kernel
theorem dL_setPrice_4 : decode cL_setPrice 4 = .ok (.iload_n 1, 1) := by decide +kernel
theorem dL_setPrice_5 : decode cL_setPrice 5 = .ok (.iload_n 2, 1) := by decide +kernel
theorem dL_setPrice_6 : decode cL_setPrice 6 = .ok (.iload_n 3, 1) := by decide +kernel
theorem dL_setPrice_7 : decode cL_setPrice 7 = .ok (.invokevirtual 56, 3) := by decide +kernel
theorem dL_setPrice_10 : decode cL_setPrice 10 = .ok (.i2l, 1) := by decide +kernel
theorem dL_setPrice_11 : decode cL_setPrice 11 = .ok (.lastore, 1) := by decide +kernel
theorem dL_setPrice_12 : decode cL_setPrice 12 = .ok (.goto 7, 3) := by decide +kernel
theorem dL_setPrice_15 : decode cL_setPrice 15 = .ok (.astore 5, 2) := by decide +kernel
theorem dL_setPrice_17 : decode cL_setPrice 17 = .ok (.iconst 1, 1) := by decide +kernel
theorem dL_setPrice_18 : decode cL_setPrice 18 = .ok (.ireturn, 1) := by decide +kernel
theorem dL_setPrice_19 : decode cL_setPrice 19 = .ok (.iconst 0, 1) := by decide +kernel
theorem dL_setPrice_20 : decode cL_setPrice 20 = .ok (.ireturn, 1) := by decide +kernel
theorem dL_demand_0 : decode cL_demand 0 = .ok (.aload_n 3, 1) := by decide +kernel
theorem dL_demand_1 : decode cL_demand 1 = .ok (.iconst 0, 1) := by decide +kernel
theorem dL_demand_2 : decode cL_demand 2 = .ok (.aload_n 0, 1) := by decide +kernel
theorem dL_demand_3 : decode cL_demand 3 = .ok (.iload_n 1, 1) := by decide +kernel
theorem dL_demand_4 : decode cL_demand 4 = .ok (.iload_n 2, 1) := by decide +kernel
theorem dL_demand_5 : decode cL_demand 5 = .ok (.invokevirtual 60, 3) := by decide +kernel
theorem dL_demand_8 : decode cL_demand 8 = .ok (.i2l, 1) := by decide +kernel
theorem dL_demand_9 : decode cL_demand 9 = .ok (.lastore, 1) := by decide +kernel
theorem dL_demand_10 : decode cL_demand 10 = .ok (.goto 11, 3) := by decide +kernel
theorem dL_demand_13 : decode cL_demand 13 = .ok (.astore 4, 2) := by decide +kernel
theorem dL_demand_15 : decode cL_demand 15 = .ok (.iconst 1, 1) := by decide +kernel
theorem dL_demand_16 : decode cL_demand 16 = .ok (.ireturn, 1) := by decide +kernel
theorem dL_demand_17 : decode cL_demand 17 = .ok (.astore 4, 2) := by decide +kernel
theorem dL_demand_19 : decode cL_demand 19 = .ok (.iconst 2, 1) := by decide +kernel
theorem dL_demand_20 : decode cL_demand 20 = .ok (.ireturn, 1) := by decide +kernel
theorem dL_demand_21 : decode cL_demand 21 = .ok (.iconst 0, 1) := by decide +kernel
theorem dL_demand_22 : decode cL_demand 22 = .ok (.ireturn, 1) := by decide +kernel
theorem dL_level_0 : decode cL_level 0 = .ok (.aload_n 2, 1) := by decide +kernel
theorem dL_level_1 : decode cL_level 1 = .ok (.iconst 0, 1) := by decide +kernel
theorem dL_level_2 : decode cL_level 2 = .ok (.aload_n 0, 1) := by decide +kernel
theorem dL_level_3 : decode cL_level 3 = .ok (.iload_n 1, 1) := by decide +kernel
theorem dL_level_4 : decode cL_level 4 = .ok (.invokevirtual 63, 3) := by decide +kernel
theorem dL_level_7 : decode cL_level 7 = .ok (.i2l, 1) := by decide +kernel
theorem dL_level_8 : decode cL_level 8 = .ok (.lastore, 1) := by decide +kernel
theorem dL_level_9 : decode cL_level 9 = .ok (.goto 6, 3) := by decide +kernel
theorem dL_level_12 : decode cL_level 12 = .ok (.astore_n 3, 1) := by decide +kernel
theorem dL_level_13 : decode cL_level 13 = .ok (.iconst 1, 1) := by decide +kernel
theorem dL_level_14 : decode cL_level 14 = .ok (.ireturn, 1) := by decide +kernel
theorem dL_level_15 : decode cL_level 15 = .ok (.iconst 0, 1) := by decide +kernel
theorem dL_level_16 : decode cL_level 16 = .ok (.ireturn, 1) := by decide +kernel
theorem dL_shortOf_0 : decode cL_shortOf 0 = .ok (.aload_n 2, 1) := by decide +kernel
theorem dL_shortOf_1 : decode cL_shortOf 1 = .ok (.iconst 0, 1) := by decide +kernel
theorem dL_shortOf_2 : decode cL_shortOf 2 = .ok (.aload_n 0, 1) := by decide +kernel
theorem dL_shortOf_3 : decode cL_shortOf 3 = .ok (.iload_n 1, 1) := by decide +kernel
theorem dL_shortOf_4 : decode cL_shortOf 4 = .ok (.invokevirtual 66, 3) := by decide +kernel
theorem dL_shortOf_7 : decode cL_shortOf 7 = .ok (.i2l, 1) := by decide +kernel
theorem dL_shortOf_8 : decode cL_shortOf 8 = .ok (.lastore, 1) := by decide +kernel
theorem dL_shortOf_9 : decode cL_shortOf 9 = .ok (.goto 6, 3) := by decide +kernel
theorem dL_shortOf_12 : decode cL_shortOf 12 = .ok (.astore_n 3, 1) := by decide +kernel
theorem dL_shortOf_13 : decode cL_shortOf 13 = .ok (.iconst 1, 1) := by decide +kernel
theorem dL_shortOf_14 : decode cL_shortOf 14 = .ok (.ireturn, 1) := by decide +kernel
theorem dL_shortOf_15 : decode cL_shortOf 15 = .ok (.iconst 0, 1) := by decide +kernel
theorem dL_shortOf_16 : decode cL_shortOf 16 = .ok (.ireturn, 1) := by decide +kernel
theorem dL_run_0 : decode cL_run 0 = .ok (.aload_n 2, 1) := by decide +kernel
theorem dL_run_1 : decode cL_run 1 = .ok (.iconst 0, 1) := by decide +kernel
theorem dL_run_2 : decode cL_run 2 = .ok (.aload_n 0, 1) := by decide +kernel
theorem dL_run_3 : decode cL_run 3 = .ok (.iload_n 1, 1) := by decide +kernel
theorem dL_run_4 : decode cL_run 4 = .ok (.invokevirtual 69, 3) := by decide +kernel
theorem dL_run_7 : decode cL_run 7 = .ok (.i2l, 1) := by decide +kernel
theorem dL_run_8 : decode cL_run 8 = .ok (.lastore, 1) := by decide +kernel
theorem dL_run_9 : decode cL_run 9 = .ok (.goto 6, 3) := by decide +kernel
theorem dL_run_12 : decode cL_run 12 = .ok (.astore_n 3, 1) := by decide +kernel
theorem dL_run_13 : decode cL_run 13 = .ok (.iconst 1, 1) := by decide +kernel
theorem dL_run_14 : decode cL_run 14 = .ok (.ireturn, 1) := by decide +kernel
theorem dL_run_15 : decode cL_run 15 = .ok (.iconst 0, 1) := by decide +kernel
theorem dL_run_16 : decode cL_run 16 = .ok (.ireturn, 1) := by decide +kernel
theorem dL_setHorizon_0 : decode cL_setHorizon 0 = .ok (.aload_n 2, 1) := by decide +kernel
theorem dL_setHorizon_1 : decode cL_setHorizon 1 = .ok (.iconst 0, 1) := by decide +kernel
theorem dL_setHorizon_2 : decode cL_setHorizon 2 = .ok (.aload_n 0, 1) := by decide +kernel
theorem dL_setHorizon_3 : decode cL_setHorizon 3 = .ok (.iload_n 1, 1) := by decide +kernel
theorem dL_setHorizon_4 : decode cL_setHorizon 4 = .ok (.invokevirtual 72, 3) := by decide +kernel
theorem dL_setHorizon_7 : decode cL_setHorizon 7 = .ok (.i2l, 1) := by decide +kernel
theorem dL_setHorizon_8 : decode cL_setHorizon 8 = .ok (.lastore, 1) := by decide +kernel
theorem dL_setHorizon_9 : decode cL_setHorizon 9 = .ok (.goto 6, 3) := by decide +kernel
theorem dL_setHorizon_12 : decode cL_setHorizon 12 = .ok (.astore_n 3, 1) := by decide +kernel
theorem dL_setHorizon_13 : decode cL_setHorizon 13 = .ok (.iconst 1, 1) := by decide +kernel
theorem dL_setHorizon_14 : decode cL_setHorizon 14 = .ok (.ireturn, 1) := by decide +kernel
theorem dL_setHorizon_15 : decode cL_setHorizon 15 = .ok (.iconst 0, 1) := by decide +kernel
theorem dL_setHorizon_16 : decode cL_setHorizon 16 = .ok (.ireturn, 1) := by decide +kernel
theorem dL_order_0 : decode cL_order 0 = .ok (.aload_n 3, 1) := by decide +kernel
theorem dL_order_1 : decode cL_order 1 = .ok (.iconst 0, 1) := by decide +kernel
theorem dL_order_2 : decode cL_order 2 = .ok (.aload_n 0, 1) := by decide +kernel
theorem dL_order_3 : decode cL_order 3 = .ok (.iload_n 1, 1) := by decide +kernel
theorem dL_order_4 : decode cL_order 4 = .ok (.iload_n 2, 1) := by decide +kernel
theorem dL_order_5 : decode cL_order 5 = .ok (.invokevirtual 75, 3) := by decide +kernel
theorem dL_order_8 : decode cL_order 8 = .ok (.i2l, 1) := by decide +kernel
theorem dL_order_9 : decode cL_order 9 = .ok (.lastore, 1) := by decide +kernel
theorem dL_order_10 : decode cL_order 10 = .ok (.goto 11, 3) := by decide +kernel
theorem dL_order_13 : decode cL_order 13 = .ok (.astore 4, 2) := by decide +kernel
theorem dL_order_15 : decode cL_order 15 = .ok (.iconst 1, 1) := by decide +kernel
theorem dL_order_16 : decode cL_order 16 = .ok (.ireturn, 1) := by decide +kernel
theorem dL_order_17 : decode cL_order 17 = .ok (.astore 4, 2) := by decide +kernel
theorem dL_order_19 : decode cL_order 19 = .ok (.iconst 2, 1) := by decide +kernel
theorem dL_order_20 : decode cL_order 20 = .ok (.ireturn, 1) := by decide +kernel
theorem dL_order_21 : decode cL_order 21 = .ok (.iconst 0, 1) := by decide +kernel
theorem dL_order_22 : decode cL_order 22 = .ok (.ireturn, 1) := by decide +kernel
theorem dL_takeBack_0 : decode cL_takeBack 0 = .ok (.aload_n 2, 1) := by decide +kernel
theorem dL_takeBack_1 : decode cL_takeBack 1 = .ok (.iconst 0, 1) := by decide +kernel
theorem dL_takeBack_2 : decode cL_takeBack 2 = .ok (.aload_n 0, 1) := by decide +kernel
theorem dL_takeBack_3 : decode cL_takeBack 3 = .ok (.iload_n 1, 1) := by decide +kernel
theorem dL_takeBack_4 : decode cL_takeBack 4 = .ok (.invokevirtual 79, 3) := by decide +kernel
theorem dL_takeBack_7 : decode cL_takeBack 7 = .ok (.ifCond .eq 7, 3) := by decide +kernel
theorem dL_takeBack_10 : decode cL_takeBack 10 = .ok (.lconst 1, 1) := by decide +kernel
theorem dL_takeBack_11 : decode cL_takeBack 11 = .ok (.goto 4, 3) := by decide +kernel
theorem dL_takeBack_14 : decode cL_takeBack 14 = .ok (.lconst 0, 1) := by decide +kernel
theorem dL_takeBack_15 : decode cL_takeBack 15 = .ok (.lastore, 1) := by decide +kernel
theorem dL_takeBack_16 : decode cL_takeBack 16 = .ok (.goto 6, 3) := by decide +kernel
theorem dL_takeBack_19 : decode cL_takeBack 19 = .ok (.astore_n 3, 1) := by decide +kernel
theorem dL_takeBack_20 : decode cL_takeBack 20 = .ok (.iconst 1, 1) := by decide +kernel
theorem dL_takeBack_21 : decode cL_takeBack 21 = .ok (.ireturn, 1) := by decide +kernel
theorem dL_takeBack_22 : decode cL_takeBack 22 = .ok (.iconst 0, 1) := by decide +kernel
theorem dL_takeBack_23 : decode cL_takeBack 23 = .ok (.ireturn, 1) := by decide +kernel
theorem dL_bestCost_0 : decode cL_bestCost 0 = .ok (.aload_n 2, 1) := by decide +kernel
theorem dL_bestCost_1 : decode cL_bestCost 1 = .ok (.iconst 0, 1) := by decide +kernel
theorem dL_bestCost_2 : decode cL_bestCost 2 = .ok (.aload_n 0, 1) := by decide +kernel
theorem dL_bestCost_3 : decode cL_bestCost 3 = .ok (.iload_n 1, 1) := by decide +kernel
theorem dL_bestCost_4 : decode cL_bestCost 4 = .ok (.invokevirtual 85, 3) := by decide +kernel
theorem dL_bestCost_7 : decode cL_bestCost 7 = .ok (.i2l, 1) := by decide +kernel
theorem dL_bestCost_8 : decode cL_bestCost 8 = .ok (.lastore, 1) := by decide +kernel
theorem dL_bestCost_9 : decode cL_bestCost 9 = .ok (.goto 9, 3) := by decide +kernel
theorem dL_bestCost_12 : decode cL_bestCost 12 = .ok (.astore_n 3, 1) := by decide +kernel
theorem dL_bestCost_13 : decode cL_bestCost 13 = .ok (.iconst 1, 1) := by decide +kernel
theorem dL_bestCost_14 : decode cL_bestCost 14 = .ok (.ireturn, 1) := by decide +kernel
theorem dL_bestCost_15 : decode cL_bestCost 15 = .ok (.astore_n 3, 1) := by decide +kernel
theorem dL_bestCost_16 : decode cL_bestCost 16 = .ok (.iconst 2, 1) := by decide +kernel
theorem dL_bestCost_17 : decode cL_bestCost 17 = .ok (.ireturn, 1) := by decide +kernel
theorem dL_bestCost_18 : decode cL_bestCost 18 = .ok (.iconst 0, 1) := by decide +kernel
theorem dL_bestCost_19 : decode cL_bestCost 19 = .ok (.ireturn, 1) := by decide +kernel
theorem dL_bestCostByTrying_0 : decode cL_bestCostByTrying 0 = .ok (.aload_n 2, 1) := by decide +kernel
theorem dL_bestCostByTrying_1 : decode cL_bestCostByTrying 1 = .ok (.iconst 0, 1) := by decide +kernel
theorem dL_bestCostByTrying_2 : decode cL_bestCostByTrying 2 = .ok (.aload_n 0, 1) := by decide +kernel
theorem dL_bestCostByTrying_3 : decode cL_bestCostByTrying 3 = .ok (.iload_n 1, 1) := by decide +kernel
theorem dL_bestCostByTrying_4 : decode cL_bestCostByTrying 4 = .ok (.invokevirtual 88, 3) := by decide +kernel
theorem dL_bestCostByTrying_7 : decode cL_bestCostByTrying 7 = .ok (.i2l, 1) := by decide +kernel
theorem dL_bestCostByTrying_8 : decode cL_bestCostByTrying 8 = .ok (.lastore, 1) := by decide +kernel
theorem dL_bestCostByTrying_9 : decode cL_bestCostByTrying 9 = .ok (.goto 9, 3) := by decide +kernel
theorem dL_bestCostByTrying_12 : decode cL_bestCostByTrying 12 = .ok (.astore_n 3, 1) := by decide +kernel
theorem dL_bestCostByTrying_13 : decode cL_bestCostByTrying 13 = .ok (.iconst 1, 1) := by decide +kernel
theorem dL_bestCostByTrying_14 : decode cL_bestCostByTrying 14 = .ok (.ireturn, 1) := by decide +kernel
theorem dL_bestCostByTrying_15 : decode cL_bestCostByTrying 15 = .ok (.astore_n 3, 1) := by decide +kernel
theorem dL_bestCostByTrying_16 : decode cL_bestCostByTrying 16 = .ok (.iconst 2, 1) := by decide +kernel
theorem dL_bestCostByTrying_17 : decode cL_bestCostByTrying 17 = .ok (.ireturn, 1) := by decide +kernel
theorem dL_bestCostByTrying_18 : decode cL_bestCostByTrying 18 = .ok (.iconst 0, 1) := by decide +kernel
theorem dL_bestCostByTrying_19 : decode cL_bestCostByTrying 19 = .ok (.ireturn, 1) := by decide +kernel
theorem dL_isOnInBest_0 : decode cL_isOnInBest 0 = .ok (.aload_n 3, 1) := by decide +kernel
theorem dL_isOnInBest_1 : decode cL_isOnInBest 1 = .ok (.iconst 0, 1) := by decide +kernel
theorem dL_isOnInBest_2 : decode cL_isOnInBest 2 = .ok (.aload_n 0, 1) := by decide +kernel
theorem dL_isOnInBest_3 : decode cL_isOnInBest 3 = .ok (.iload_n 1, 1) := by decide +kernel
theorem dL_isOnInBest_4 : decode cL_isOnInBest 4 = .ok (.iload_n 2, 1) := by decide +kernel
theorem dL_isOnInBest_5 : decode cL_isOnInBest 5 = .ok (.invokevirtual 91, 3) := by decide +kernel
theorem dL_isOnInBest_8 : decode cL_isOnInBest 8 = .ok (.ifCond .eq 7, 3) := by decide +kernel
theorem dL_isOnInBest_11 : decode cL_isOnInBest 11 = .ok (.lconst 1, 1) := by decide +kernel
theorem dL_isOnInBest_12 : decode cL_isOnInBest 12 = .ok (.goto 4, 3) := by decide +kernel
theorem dL_isOnInBest_15 : decode cL_isOnInBest 15 = .ok (.lconst 0, 1) := by decide +kernel
theorem dL_isOnInBest_16 : decode cL_isOnInBest 16 = .ok (.lastore, 1) := by decide +kernel
theorem dL_isOnInBest_17 : decode cL_isOnInBest 17 = .ok (.goto 15, 3) := by decide +kernel
theorem dL_isOnInBest_20 : decode cL_isOnInBest 20 = .ok (.astore 4, 2) := by decide +kernel
theorem dL_isOnInBest_22 : decode cL_isOnInBest 22 = .ok (.iconst 1, 1) := by decide +kernel
theorem dL_isOnInBest_23 : decode cL_isOnInBest 23 = .ok (.ireturn, 1) := by decide +kernel
theorem dL_isOnInBest_24 : decode cL_isOnInBest 24 = .ok (.astore 4, 2) := by decide +kernel
theorem dL_isOnInBest_26 : decode cL_isOnInBest 26 = .ok (.iconst 2, 1) := by decide +kernel
theorem dL_isOnInBest_27 : decode cL_isOnInBest 27 = .ok (.ireturn, 1) := by decide +kernel
theorem dL_isOnInBest_28 : decode cL_isOnInBest 28 = .ok (.astore 4, 2) := by decide +kernel
theorem dL_isOnInBest_30 : decode cL_isOnInBest 30 = .ok (.iconst 3, 1) := by decide +kernel
theorem dL_isOnInBest_31 : decode cL_isOnInBest 31 = .ok (.ireturn, 1) := by decide +kernel
theorem dL_isOnInBest_32 : decode cL_isOnInBest 32 = .ok (.iconst 0, 1) := by decide +kernel
theorem dL_isOnInBest_33 : decode cL_isOnInBest 33 = .ok (.ireturn, 1) := by decide +kernel
theorem dL_allowedSchedules_0 : decode cL_allowedSchedules 0 = .ok (.aload_n 2, 1) := by decide +kernel
theorem dL_allowedSchedules_1 : decode cL_allowedSchedules 1 = .ok (.iconst 0, 1) := by decide +kernel
theorem dL_allowedSchedules_2 : decode cL_allowedSchedules 2 = .ok (.aload_n 0, 1) := by decide +kernel
theorem dL_allowedSchedules_3 : decode cL_allowedSchedules 3 = .ok (.iload_n 1, 1) := by decide +kernel
theorem dL_allowedSchedules_4 : decode cL_allowedSchedules 4 = .ok (.invokevirtual 95, 3) := by decide +kernel
theorem dL_allowedSchedules_7 : decode cL_allowedSchedules 7 = .ok (.i2l, 1) := by decide +kernel
theorem dL_allowedSchedules_8 : decode cL_allowedSchedules 8 = .ok (.lastore, 1) := by decide +kernel
theorem dL_allowedSchedules_9 : decode cL_allowedSchedules 9 = .ok (.goto 6, 3) := by decide +kernel
theorem dL_allowedSchedules_12 : decode cL_allowedSchedules 12 = .ok (.astore_n 3, 1) := by decide +kernel
theorem dL_allowedSchedules_13 : decode cL_allowedSchedules 13 = .ok (.iconst 1, 1) := by decide +kernel
theorem dL_allowedSchedules_14 : decode cL_allowedSchedules 14 = .ok (.ireturn, 1) := by decide +kernel
theorem dL_allowedSchedules_15 : decode cL_allowedSchedules 15 = .ok (.iconst 0, 1) := by decide +kernel
theorem dL_allowedSchedules_16 : decode cL_allowedSchedules 16 = .ok (.ireturn, 1) := by decide +kernel
theorem dL_servedShare_0 : decode cL_servedShare 0 = .ok (.aload_n 1, 1) := by decide +kernel
theorem dL_servedShare_1 : decode cL_servedShare 1 = .ok (.iconst 0, 1) := by decide +kernel
theorem dL_servedShare_2 : decode cL_servedShare 2 = .ok (.aload_n 0, 1) := by decide +kernel
theorem dL_servedShare_3 : decode cL_servedShare 3 = .ok (.invokevirtual 98, 3) := by decide +kernel
theorem dL_servedShare_6 : decode cL_servedShare 6 = .ok (.f2d, 1) := by decide +kernel
theorem dL_servedShare_7 : decode cL_servedShare 7 = .ok (.dastore, 1) := by decide +kernel
theorem dL_servedShare_8 : decode cL_servedShare 8 = .ok (.goto 6, 3) := by decide +kernel
theorem dL_servedShare_11 : decode cL_servedShare 11 = .ok (.astore_n 2, 1) := by decide +kernel
theorem dL_servedShare_12 : decode cL_servedShare 12 = .ok (.iconst 1, 1) := by decide +kernel
theorem dL_servedShare_13 : decode cL_servedShare 13 = .ok (.ireturn, 1) := by decide +kernel
theorem dL_servedShare_14 : decode cL_servedShare 14 = .ok (.iconst 0, 1) := by decide +kernel
theorem dL_servedShare_15 : decode cL_servedShare 15 = .ok (.ireturn, 1) := by decide +kernel
theorem dL_meanCost_0 : decode cL_meanCost 0 = .ok (.aload_n 1, 1) := by decide +kernel
theorem dL_meanCost_1 : decode cL_meanCost 1 = .ok (.iconst 0, 1) := by decide +kernel
theorem dL_meanCost_2 : decode cL_meanCost 2 = .ok (.aload_n 0, 1) := by decide +kernel
theorem dL_meanCost_3 : decode cL_meanCost 3 = .ok (.invokevirtual 104, 3) := by decide +kernel
theorem dL_meanCost_6 : decode cL_meanCost 6 = .ok (.dastore, 1) := by decide +kernel
theorem dL_meanCost_7 : decode cL_meanCost 7 = .ok (.goto 6, 3) := by decide +kernel
theorem dL_meanCost_10 : decode cL_meanCost 10 = .ok (.astore_n 2, 1) := by decide +kernel
theorem dL_meanCost_11 : decode cL_meanCost 11 = .ok (.iconst 1, 1) := by decide +kernel
theorem dL_meanCost_12 : decode cL_meanCost 12 = .ok (.ireturn, 1) := by decide +kernel
theorem dL_meanCost_13 : decode cL_meanCost 13 = .ok (.iconst 0, 1) := by decide +kernel
theorem dL_meanCost_14 : decode cL_meanCost 14 = .ok (.ireturn, 1) := by decide +kernel
theorem dL_law_0 : decode cL_law 0 = .ok (.new 8, 3) := by decide +kernel
theorem dL_law_3 : decode cL_law 3 = .ok (.dup, 1) := by decide +kernel
theorem dL_law_4 : decode cL_law 4 = .ok (.invokespecial 108, 3) := by decide +kernel
theorem dL_law_7 : decode cL_law 7 = .ok (.astore_n 1, 1) := by decide +kernel
theorem dL_law_8 : decode cL_law 8 = .ok (.new 109, 3) := by decide +kernel
theorem dL_law_11 : decode cL_law 11 = .ok (.dup, 1) := by decide +kernel
theorem dL_law_12 : decode cL_law 12 = .ok (.invokespecial 111, 3) := by decide +kernel
theorem dL_law_15 : decode cL_law 15 = .ok (.astore_n 2, 1) := by decide +kernel
theorem dL_law_16 : decode cL_law 16 = .ok (.iconst 1, 1) := by decide +kernel
theorem dL_law_17 : decode cL_law 17 = .ok (.newarray .long, 2) := by decide +kernel
theorem dL_law_19 : decode cL_law 19 = .ok (.astore_n 3, 1) := by decide +kernel
theorem dL_law_20 : decode cL_law 20 = .ok (.iconst 1, 1) := by decide +kernel
theorem dL_law_21 : decode cL_law 21 = .ok (.newarray .double, 2) := by decide +kernel
theorem dL_law_23 : decode cL_law 23 = .ok (.astore 4, 2) := by decide +kernel
theorem dL_law_25 : decode cL_law 25 = .ok (.iconst 0, 1) := by decide +kernel
theorem dL_law_26 : decode cL_law 26 = .ok (.istore 5, 2) := by decide +kernel
theorem dL_law_28 : decode cL_law 28 = .ok (.iload 5, 2) := by decide +kernel
theorem dL_law_30 : decode cL_law 30 = .ok (.aload_n 0, 1) := by decide +kernel
theorem dL_law_31 : decode cL_law 31 = .ok (.arraylength, 1) := by decide +kernel
theorem dL_law_32 : decode cL_law 32 = .ok (.iconst 5, 1) := by decide +kernel
theorem dL_law_33 : decode cL_law 33 = .ok (.isub, 1) := by decide +kernel
theorem dL_law_34 : decode cL_law 34 = .ok (.if_icmp .gt 1953, 3) := by decide +kernel
theorem dL_law_37 : decode cL_law 37 = .ok (.aload_n 0, 1) := by decide +kernel
theorem dL_law_38 : decode cL_law 38 = .ok (.iload 5, 2) := by decide +kernel
theorem dL_law_40 : decode cL_law 40 = .ok (.iaload, 1) := by decide +kernel
theorem dL_law_41 : decode cL_law 41 = .ok (.bipush 63, 2) := by decide +kernel
theorem dL_law_43 : decode cL_law 43 = .ok (.iand, 1) := by decide +kernel
theorem dL_law_44 : decode cL_law 44 = .ok (.tableswitch 1937 0 35 #[160, 216, 284, 340, 396, 452, 508, 564, 620, 676, 732, 745, 801, 893, 973, 1041, 1097, 1153, 1194, 1250, 1306, 1390, 1453, 1466, 1522, 1578, 1653, 1709, 1723, 1737, 1751, 1765, 1779, 1793, 1806, 1872], 160) := by decide +kernel
theorem dL_law_204 : decode cL_law 204 = .ok (.aload_n 1, 1) := by decide +kernel
theorem dL_law_205 : decode cL_law 205 = .ok (.aload_n 0, 1) := by decide +kernel
theorem dL_law_206 : decode cL_law 206 = .ok (.iload 5, 2) := by decide +kernel
theorem dL_law_208 : decode cL_law 208 = .ok (.iconst 1, 1) := by decide +kernel
theorem dL_law_209 : decode cL_law 209 = .ok (.iadd, 1) := by decide +kernel
theorem dL_law_210 : decode cL_law 210 = .ok (.iaload, 1) := by decide +kernel
theorem dL_law_211 : decode cL_law 211 = .ok (.aload_n 3, 1) := by decide +kernel
theorem dL_law_212 : decode cL_law 212 = .ok (.invokestatic 112, 3) := by decide +kernel
theorem dL_law_215 : decode cL_law 215 = .ok (.istore 6, 2) := by decide +kernel
theorem dL_law_217 : decode cL_law 217 = .ok (.aload_n 2, 1) := by decide +kernel
theorem dL_law_218 : decode cL_law 218 = .ok (.aload_n 0, 1) := by decide +kernel
theorem dL_law_219 : decode cL_law 219 = .ok (.iload 5, 2) := by decide +kernel
theorem dL_law_221 : decode cL_law 221 = .ok (.iconst 1, 1) := by decide +kernel
theorem dL_law_222 : decode cL_law 222 = .ok (.iadd, 1) := by decide +kernel
theorem dL_law_223 : decode cL_law 223 = .ok (.iaload, 1) := by decide +kernel
theorem dL_law_224 : decode cL_law 224 = .ok (.invokevirtual 117, 3) := by decide +kernel
theorem dL_law_227 : decode cL_law 227 = .ok (.istore 7, 2) := by decide +kernel
theorem dL_law_229 : decode cL_law 229 = .ok (.aload_n 2, 1) := by decide +kernel
theorem dL_law_230 : decode cL_law 230 = .ok (.invokevirtual 118, 3) := by decide +kernel
theorem dL_law_233 : decode cL_law 233 = .ok (.iload 6, 2) := by decide +kernel
theorem dL_law_235 : decode cL_law 235 = .ok (.if_icmp .eq 5, 3) := by decide +kernel
theorem dL_law_238 : decode cL_law 238 = .ok (.iconst 0, 1) := by decide +kernel
theorem dL_law_239 : decode cL_law 239 = .ok (.ireturn, 1) := by decide +kernel
theorem dL_law_240 : decode cL_law 240 = .ok (.iload 6, 2) := by decide +kernel
theorem dL_law_242 : decode cL_law 242 = .ok (.ifCond .ne 15, 3) := by decide +kernel
theorem dL_law_245 : decode cL_law 245 = .ok (.aload_n 3, 1) := by decide +kernel
theorem dL_law_246 : decode cL_law 246 = .ok (.iconst 0, 1) := by decide +kernel
theorem dL_law_247 : decode cL_law 247 = .ok (.laload, 1) := by decide +kernel
theorem dL_law_248 : decode cL_law 248 = .ok (.iload 7, 2) := by decide +kernel
theorem dL_law_250 : decode cL_law 250 = .ok (.i2l, 1) := by decide +kernel
theorem dL_law_251 : decode cL_law 251 = .ok (.lcmp, 1) := by decide +kernel
theorem dL_law_252 : decode cL_law 252 = .ok (.ifCond .eq 5, 3) := by decide +kernel
theorem dL_law_255 : decode cL_law 255 = .ok (.iconst 0, 1) := by decide +kernel
theorem dL_law_256 : decode cL_law 256 = .ok (.ireturn, 1) := by decide +kernel
theorem dL_law_257 : decode cL_law 257 = .ok (.goto 1724, 3) := by decide +kernel
theorem dL_law_260 : decode cL_law 260 = .ok (.aload_n 1, 1) := by decide +kernel
theorem dL_law_261 : decode cL_law 261 = .ok (.aload_n 0, 1) := by decide +kernel
theorem dL_law_262 : decode cL_law 262 = .ok (.iload 5, 2) := by decide +kernel
theorem dL_law_264 : decode cL_law 264 = .ok (.iconst 1, 1) := by decide +kernel
theorem dL_law_265 : decode cL_law 265 = .ok (.iadd, 1) := by decide +kernel
theorem dL_law_266 : decode cL_law 266 = .ok (.iaload, 1) := by decide +kernel
theorem dL_law_267 : decode cL_law 267 = .ok (.aload_n 0, 1) := by decide +kernel
theorem dL_law_268 : decode cL_law 268 = .ok (.iload 5, 2) := by decide +kernel
theorem dL_law_270 : decode cL_law 270 = .ok (.iconst 2, 1) := by decide +kernel
theorem dL_law_271 : decode cL_law 271 = .ok (.iadd, 1) := by decide +kernel
theorem dL_law_272 : decode cL_law 272 = .ok (.iaload, 1) := by decide +kernel
theorem dL_law_273 : decode cL_law 273 = .ok (.aload_n 3, 1) := by decide +kernel
theorem dL_law_274 : decode cL_law 274 = .ok (.invokestatic 122, 3) := by decide +kernel
theorem dL_law_277 : decode cL_law 277 = .ok (.istore 6, 2) := by decide +kernel
theorem dL_law_279 : decode cL_law 279 = .ok (.aload_n 2, 1) := by decide +kernel
theorem dL_law_280 : decode cL_law 280 = .ok (.aload_n 0, 1) := by decide +kernel
theorem dL_law_281 : decode cL_law 281 = .ok (.iload 5, 2) := by decide +kernel
theorem dL_law_283 : decode cL_law 283 = .ok (.iconst 1, 1) := by decide +kernel
theorem dL_law_284 : decode cL_law 284 = .ok (.iadd, 1) := by decide +kernel
theorem dL_law_285 : decode cL_law 285 = .ok (.iaload, 1) := by decide +kernel
theorem dL_law_286 : decode cL_law 286 = .ok (.aload_n 0, 1) := by decide +kernel
theorem dL_law_287 : decode cL_law 287 = .ok (.iload 5, 2) := by decide +kernel
theorem dL_law_289 : decode cL_law 289 = .ok (.iconst 2, 1) := by decide +kernel
theorem dL_law_290 : decode cL_law 290 = .ok (.iadd, 1) := by decide +kernel
theorem dL_law_291 : decode cL_law 291 = .ok (.iaload, 1) := by decide +kernel
theorem dL_law_292 : decode cL_law 292 = .ok (.invokevirtual 125, 3) := by decide +kernel
theorem dL_law_295 : decode cL_law 295 = .ok (.istore 7, 2) := by decide +kernel
theorem dL_law_297 : decode cL_law 297 = .ok (.aload_n 2, 1) := by decide +kernel
theorem dL_law_298 : decode cL_law 298 = .ok (.invokevirtual 118, 3) := by decide +kernel
theorem dL_law_301 : decode cL_law 301 = .ok (.iload 6, 2) := by decide +kernel
theorem dL_law_303 : decode cL_law 303 = .ok (.if_icmp .eq 5, 3) := by decide +kernel
theorem dL_law_306 : decode cL_law 306 = .ok (.iconst 0, 1) := by decide +kernel
theorem dL_law_307 : decode cL_law 307 = .ok (.ireturn, 1) := by decide +kernel
theorem dL_law_308 : decode cL_law 308 = .ok (.iload 6, 2) := by decide +kernel
theorem dL_law_310 : decode cL_law 310 = .ok (.ifCond .ne 15, 3) := by decide +kernel
theorem dL_law_313 : decode cL_law 313 = .ok (.aload_n 3, 1) := by decide +kernel
theorem dL_law_314 : decode cL_law 314 = .ok (.iconst 0, 1) := by decide +kernel
theorem dL_law_315 : decode cL_law 315 = .ok (.laload, 1) := by decide +kernel
theorem dL_law_316 : decode cL_law 316 = .ok (.iload 7, 2) := by decide +kernel
theorem dL_law_318 : decode cL_law 318 = .ok (.i2l, 1) := by decide +kernel
theorem dL_law_319 : decode cL_law 319 = .ok (.lcmp, 1) := by decide +kernel
theorem dL_law_320 : decode cL_law 320 = .ok (.ifCond .eq 5, 3) := by decide +kernel
theorem dL_law_323 : decode cL_law 323 = .ok (.iconst 0, 1) := by decide +kernel
theorem dL_law_324 : decode cL_law 324 = .ok (.ireturn, 1) := by decide +kernel
theorem dL_law_325 : decode cL_law 325 = .ok (.goto 1656, 3) := by decide +kernel
theorem dL_law_328 : decode cL_law 328 = .ok (.aload_n 1, 1) := by decide +kernel
theorem dL_law_329 : decode cL_law 329 = .ok (.aload_n 0, 1) := by decide +kernel
theorem dL_law_330 : decode cL_law 330 = .ok (.iload 5, 2) := by decide +kernel
theorem dL_law_332 : decode cL_law 332 = .ok (.iconst 1, 1) := by decide +kernel
theorem dL_law_333 : decode cL_law 333 = .ok (.iadd, 1) := by decide +kernel
theorem dL_law_334 : decode cL_law 334 = .ok (.iaload, 1) := by decide +kernel
theorem dL_law_335 : decode cL_law 335 = .ok (.aload_n 3, 1) := by decide +kernel
theorem dL_law_336 : decode cL_law 336 = .ok (.invokestatic 126, 3) := by decide +kernel
theorem dL_law_339 : decode cL_law 339 = .ok (.istore 6, 2) := by decide +kernel
theorem dL_law_341 : decode cL_law 341 = .ok (.aload_n 2, 1) := by decide +kernel
theorem dL_law_342 : decode cL_law 342 = .ok (.aload_n 0, 1) := by decide +kernel
theorem dL_law_343 : decode cL_law 343 = .ok (.iload 5, 2) := by decide +kernel
theorem dL_law_345 : decode cL_law 345 = .ok (.iconst 1, 1) := by decide +kernel
theorem dL_law_346 : decode cL_law 346 = .ok (.iadd, 1) := by decide +kernel
theorem dL_law_347 : decode cL_law 347 = .ok (.iaload, 1) := by decide +kernel
theorem dL_law_348 : decode cL_law 348 = .ok (.invokevirtual 128, 3) := by decide +kernel
theorem dL_law_351 : decode cL_law 351 = .ok (.istore 7, 2) := by decide +kernel
theorem dL_law_353 : decode cL_law 353 = .ok (.aload_n 2, 1) := by decide +kernel
