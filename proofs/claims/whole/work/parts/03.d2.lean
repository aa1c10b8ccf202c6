theorem dX5_bestCostByTrying_30 : decode cX5_bestCostByTrying 30 = .ok (.iload_n 1, 1) := by decide +kernel
theorem dX5_bestCostByTrying_31 : decode cX5_bestCostByTrying 31 = .ok (.ishl, 1) := by decide +kernel
theorem dX5_bestCostByTrying_32 : decode cX5_bestCostByTrying 32 = .ok (.if_icmp .ge 22, 3) := by decide +kernel
theorem dX5_bestCostByTrying_35 : decode cX5_bestCostByTrying 35 = .ok (.iload_n 2, 1) := by decide +kernel
theorem dX5_bestCostByTrying_36 : decode cX5_bestCostByTrying 36 = .ok (.aload_n 0, 1) := by decide +kernel
theorem dX5_bestCostByTrying_37 : decode cX5_bestCostByTrying 37 = .ok (.getfield 35, 3) := by decide +kernel
theorem dX5_bestCostByTrying_40 : decode cX5_bestCostByTrying 40 = .ok (.iload_n 3, 1) := by decide +kernel
theorem dX5_bestCostByTrying_41 : decode cX5_bestCostByTrying 41 = .ok (.invokevirtual 199, 3) := by decide +kernel
theorem dX5_bestCostByTrying_44 : decode cX5_bestCostByTrying 44 = .ok (.invokestatic 202, 3) := by decide +kernel
theorem dX5_bestCostByTrying_47 : decode cX5_bestCostByTrying 47 = .ok (.istore_n 2, 1) := by decide +kernel
theorem dX5_bestCostByTrying_48 : decode cX5_bestCostByTrying 48 = .ok (.iinc 3 1, 3) := by decide +kernel
theorem dX5_bestCostByTrying_51 : decode cX5_bestCostByTrying 51 = .ok (.goto (-23), 3) := by decide +kernel
theorem dX5_bestCostByTrying_54 : decode cX5_bestCostByTrying 54 = .ok (.iload_n 2, 1) := by decide +kernel
theorem dX5_bestCostByTrying_55 : decode cX5_bestCostByTrying 55 = .ok (.invokestatic 193, 3) := by decide +kernel
theorem dX5_bestCostByTrying_58 : decode cX5_bestCostByTrying 58 = .ok (.iload_n 2, 1) := by decide +kernel
theorem dX5_bestCostByTrying_59 : decode cX5_bestCostByTrying 59 = .ok (.ireturn, 1) := by decide +kernel
theorem dX5_isOnInBest_0 : decode cX5_isOnInBest 0 = .ok (.iload_n 1, 1) := by decide +kernel
theorem dX5_isOnInBest_1 : decode cX5_isOnInBest 1 = .ok (.iconst 1, 1) := by decide +kernel
theorem dX5_isOnInBest_2 : decode cX5_isOnInBest 2 = .ok (.bipush 6, 2) := by decide +kernel
theorem dX5_isOnInBest_4 : decode cX5_isOnInBest 4 = .ok (.invokestatic 53, 3) := by decide +kernel
theorem dX5_isOnInBest_7 : decode cX5_isOnInBest 7 = .ok (.iload_n 2, 1) := by decide +kernel
theorem dX5_isOnInBest_8 : decode cX5_isOnInBest 8 = .ok (.ifCond .lt 8, 3) := by decide +kernel
theorem dX5_isOnInBest_11 : decode cX5_isOnInBest 11 = .ok (.iload_n 2, 1) := by decide +kernel
theorem dX5_isOnInBest_12 : decode cX5_isOnInBest 12 = .ok (.iload_n 1, 1) := by decide +kernel
theorem dX5_isOnInBest_13 : decode cX5_isOnInBest 13 = .ok (.if_icmp .lt 13, 3) := by decide +kernel
theorem dX5_isOnInBest_16 : decode cX5_isOnInBest 16 = .ok (.new 207, 3) := by decide +kernel
theorem dX5_isOnInBest_19 : decode cX5_isOnInBest 19 = .ok (.dup, 1) := by decide +kernel
theorem dX5_isOnInBest_20 : decode cX5_isOnInBest 20 = .ok (.ldc 209, 2) := by decide +kernel
theorem dX5_isOnInBest_22 : decode cX5_isOnInBest 22 = .ok (.invokespecial 211, 3) := by decide +kernel
theorem dX5_isOnInBest_25 : decode cX5_isOnInBest 25 = .ok (.athrow, 1) := by decide +kernel
theorem dX5_isOnInBest_26 : decode cX5_isOnInBest 26 = .ok (.aload_n 0, 1) := by decide +kernel
theorem dX5_isOnInBest_27 : decode cX5_isOnInBest 27 = .ok (.getfield 35, 3) := by decide +kernel
theorem dX5_isOnInBest_30 : decode cX5_isOnInBest 30 = .ok (.aload_n 0, 1) := by decide +kernel
theorem dX5_isOnInBest_31 : decode cX5_isOnInBest 31 = .ok (.getfield 19, 3) := by decide +kernel
theorem dX5_isOnInBest_34 : decode cX5_isOnInBest 34 = .ok (.aload_n 0, 1) := by decide +kernel
theorem dX5_isOnInBest_35 : decode cX5_isOnInBest 35 = .ok (.getfield 50, 3) := by decide +kernel
theorem dX5_isOnInBest_38 : decode cX5_isOnInBest 38 = .ok (.iload_n 1, 1) := by decide +kernel
theorem dX5_isOnInBest_39 : decode cX5_isOnInBest 39 = .ok (.invokevirtual 158, 3) := by decide +kernel
theorem dX5_isOnInBest_42 : decode cX5_isOnInBest 42 = .ok (.aload_n 0, 1) := by decide +kernel
theorem dX5_isOnInBest_43 : decode cX5_isOnInBest 43 = .ok (.getfield 35, 3) := by decide +kernel
theorem dX5_isOnInBest_46 : decode cX5_isOnInBest 46 = .ok (.getfield 162, 3) := by decide +kernel
theorem dX5_isOnInBest_49 : decode cX5_isOnInBest 49 = .ok (.invokestatic 193, 3) := by decide +kernel
theorem dX5_isOnInBest_52 : decode cX5_isOnInBest 52 = .ok (.aload_n 0, 1) := by decide +kernel
theorem dX5_isOnInBest_53 : decode cX5_isOnInBest 53 = .ok (.getfield 35, 3) := by decide +kernel
theorem dX5_isOnInBest_56 : decode cX5_isOnInBest 56 = .ok (.aload_n 0, 1) := by decide +kernel
theorem dX5_isOnInBest_57 : decode cX5_isOnInBest 57 = .ok (.getfield 35, 3) := by decide +kernel
theorem dX5_isOnInBest_60 : decode cX5_isOnInBest 60 = .ok (.getfield 166, 3) := by decide +kernel
theorem dX5_isOnInBest_63 : decode cX5_isOnInBest 63 = .ok (.iload_n 2, 1) := by decide +kernel
theorem dX5_isOnInBest_64 : decode cX5_isOnInBest 64 = .ok (.invokevirtual 169, 3) := by decide +kernel
theorem dX5_isOnInBest_67 : decode cX5_isOnInBest 67 = .ok (.iconst 1, 1) := by decide +kernel
theorem dX5_isOnInBest_68 : decode cX5_isOnInBest 68 = .ok (.if_icmp .ne 7, 3) := by decide +kernel
theorem dX5_isOnInBest_71 : decode cX5_isOnInBest 71 = .ok (.iconst 1, 1) := by decide +kernel
theorem dX5_isOnInBest_72 : decode cX5_isOnInBest 72 = .ok (.goto 4, 3) := by decide +kernel
theorem dX5_isOnInBest_75 : decode cX5_isOnInBest 75 = .ok (.iconst 0, 1) := by decide +kernel
theorem dX5_isOnInBest_76 : decode cX5_isOnInBest 76 = .ok (.ireturn, 1) := by decide +kernel
theorem dX5_allowedSchedules_0 : decode cX5_allowedSchedules 0 = .ok (.iload_n 1, 1) := by decide +kernel
theorem dX5_allowedSchedules_1 : decode cX5_allowedSchedules 1 = .ok (.iconst 1, 1) := by decide +kernel
theorem dX5_allowedSchedules_2 : decode cX5_allowedSchedules 2 = .ok (.bipush 6, 2) := by decide +kernel
theorem dX5_allowedSchedules_4 : decode cX5_allowedSchedules 4 = .ok (.invokestatic 53, 3) := by decide +kernel
theorem dX5_allowedSchedules_7 : decode cX5_allowedSchedules 7 = .ok (.aload_n 0, 1) := by decide +kernel
theorem dX5_allowedSchedules_8 : decode cX5_allowedSchedules 8 = .ok (.getfield 35, 3) := by decide +kernel
theorem dX5_allowedSchedules_11 : decode cX5_allowedSchedules 11 = .ok (.aload_n 0, 1) := by decide +kernel
theorem dX5_allowedSchedules_12 : decode cX5_allowedSchedules 12 = .ok (.getfield 19, 3) := by decide +kernel
theorem dX5_allowedSchedules_15 : decode cX5_allowedSchedules 15 = .ok (.aload_n 0, 1) := by decide +kernel
theorem dX5_allowedSchedules_16 : decode cX5_allowedSchedules 16 = .ok (.getfield 50, 3) := by decide +kernel
theorem dX5_allowedSchedules_19 : decode cX5_allowedSchedules 19 = .ok (.iload_n 1, 1) := by decide +kernel
theorem dX5_allowedSchedules_20 : decode cX5_allowedSchedules 20 = .ok (.invokevirtual 196, 3) := by decide +kernel
theorem dX5_allowedSchedules_23 : decode cX5_allowedSchedules 23 = .ok (.iconst 0, 1) := by decide +kernel
theorem dX5_allowedSchedules_24 : decode cX5_allowedSchedules 24 = .ok (.istore_n 2, 1) := by decide +kernel
theorem dX5_allowedSchedules_25 : decode cX5_allowedSchedules 25 = .ok (.iconst 0, 1) := by decide +kernel
theorem dX5_allowedSchedules_26 : decode cX5_allowedSchedules 26 = .ok (.istore_n 3, 1) := by decide +kernel
theorem dX5_allowedSchedules_27 : decode cX5_allowedSchedules 27 = .ok (.iload_n 3, 1) := by decide +kernel
theorem dX5_allowedSchedules_28 : decode cX5_allowedSchedules 28 = .ok (.iconst 1, 1) := by decide +kernel
theorem dX5_allowedSchedules_29 : decode cX5_allowedSchedules 29 = .ok (.iload_n 1, 1) := by decide +kernel
theorem dX5_allowedSchedules_30 : decode cX5_allowedSchedules 30 = .ok (.ishl, 1) := by decide +kernel
theorem dX5_allowedSchedules_31 : decode cX5_allowedSchedules 31 = .ok (.if_icmp .ge 25, 3) := by decide +kernel
theorem dX5_allowedSchedules_34 : decode cX5_allowedSchedules 34 = .ok (.aload_n 0, 1) := by decide +kernel
theorem dX5_allowedSchedules_35 : decode cX5_allowedSchedules 35 = .ok (.getfield 35, 3) := by decide +kernel
theorem dX5_allowedSchedules_38 : decode cX5_allowedSchedules 38 = .ok (.iload_n 3, 1) := by decide +kernel
theorem dX5_allowedSchedules_39 : decode cX5_allowedSchedules 39 = .ok (.invokevirtual 199, 3) := by decide +kernel
theorem dX5_allowedSchedules_42 : decode cX5_allowedSchedules 42 = .ok (.ldc 165, 2) := by decide +kernel
theorem dX5_allowedSchedules_44 : decode cX5_allowedSchedules 44 = .ok (.if_icmp .ge 6, 3) := by decide +kernel
theorem dX5_allowedSchedules_47 : decode cX5_allowedSchedules 47 = .ok (.iinc 2 1, 3) := by decide +kernel
theorem dX5_allowedSchedules_50 : decode cX5_allowedSchedules 50 = .ok (.iinc 3 1, 3) := by decide +kernel
theorem dX5_allowedSchedules_53 : decode cX5_allowedSchedules 53 = .ok (.goto (-26), 3) := by decide +kernel
theorem dX5_allowedSchedules_56 : decode cX5_allowedSchedules 56 = .ok (.iload_n 2, 1) := by decide +kernel
theorem dX5_allowedSchedules_57 : decode cX5_allowedSchedules 57 = .ok (.ireturn, 1) := by decide +kernel
theorem dX5_feed_0 : decode cX5_feed 0 = .ok (.aload_n 0, 1) := by decide +kernel
theorem dX5_feed_1 : decode cX5_feed 1 = .ok (.getfield 42, 3) := by decide +kernel
theorem dX5_feed_4 : decode cX5_feed 4 = .ok (.getfield 212, 3) := by decide +kernel
theorem dX5_feed_7 : decode cX5_feed 7 = .ok (.lreturn, 1) := by decide +kernel
theorem dX5_product_0 : decode cX5_product 0 = .ok (.aload_n 0, 1) := by decide +kernel
theorem dX5_product_1 : decode cX5_product 1 = .ok (.getfield 42, 3) := by decide +kernel
theorem dX5_product_4 : decode cX5_product 4 = .ok (.getfield 215, 3) := by decide +kernel
theorem dX5_product_7 : decode cX5_product 7 = .ok (.lreturn, 1) := by decide +kernel
theorem dX5_brine_0 : decode cX5_brine 0 = .ok (.aload_n 0, 1) := by decide +kernel
theorem dX5_brine_1 : decode cX5_brine 1 = .ok (.getfield 42, 3) := by decide +kernel
theorem dX5_brine_4 : decode cX5_brine 4 = .ok (.getfield 217, 3) := by decide +kernel
theorem dX5_brine_7 : decode cX5_brine 7 = .ok (.lreturn, 1) := by decide +kernel
theorem dX5_spilled_0 : decode cX5_spilled 0 = .ok (.aload_n 0, 1) := by decide +kernel
theorem dX5_spilled_1 : decode cX5_spilled 1 = .ok (.getfield 42, 3) := by decide +kernel
theorem dX5_spilled_4 : decode cX5_spilled 4 = .ok (.getfield 220, 3) := by decide +kernel
theorem dX5_spilled_7 : decode cX5_spilled 7 = .ok (.lreturn, 1) := by decide +kernel
theorem dX5_spilledByBalance_0 : decode cX5_spilledByBalance 0 = .ok (.lconst 0, 1) := by decide +kernel
theorem dX5_spilledByBalance_1 : decode cX5_spilledByBalance 1 = .ok (.lstore_n 1, 1) := by decide +kernel
theorem dX5_spilledByBalance_2 : decode cX5_spilledByBalance 2 = .ok (.iconst 0, 1) := by decide +kernel
theorem dX5_spilledByBalance_3 : decode cX5_spilledByBalance 3 = .ok (.istore_n 3, 1) := by decide +kernel
theorem dX5_spilledByBalance_4 : decode cX5_spilledByBalance 4 = .ok (.iload_n 3, 1) := by decide +kernel
theorem dX5_spilledByBalance_5 : decode cX5_spilledByBalance 5 = .ok (.aload_n 0, 1) := by decide +kernel
theorem dX5_spilledByBalance_6 : decode cX5_spilledByBalance 6 = .ok (.getfield 10, 3) := by decide +kernel
theorem dX5_spilledByBalance_9 : decode cX5_spilledByBalance 9 = .ok (.getfield 87, 3) := by decide +kernel
theorem dX5_spilledByBalance_12 : decode cX5_spilledByBalance 12 = .ok (.if_icmp .ge 22, 3) := by decide +kernel
theorem dX5_spilledByBalance_15 : decode cX5_spilledByBalance 15 = .ok (.lload_n 1, 1) := by decide +kernel
theorem dX5_spilledByBalance_16 : decode cX5_spilledByBalance 16 = .ok (.aload_n 0, 1) := by decide +kernel
theorem dX5_spilledByBalance_17 : decode cX5_spilledByBalance 17 = .ok (.getfield 19, 3) := by decide +kernel
theorem dX5_spilledByBalance_20 : decode cX5_spilledByBalance 20 = .ok (.getfield 90, 3) := by decide +kernel
theorem dX5_spilledByBalance_23 : decode cX5_spilledByBalance 23 = .ok (.iload_n 3, 1) := by decide +kernel
theorem dX5_spilledByBalance_24 : decode cX5_spilledByBalance 24 = .ok (.iaload, 1) := by decide +kernel
theorem dX5_spilledByBalance_25 : decode cX5_spilledByBalance 25 = .ok (.i2l, 1) := by decide +kernel
theorem dX5_spilledByBalance_26 : decode cX5_spilledByBalance 26 = .ok (.ladd, 1) := by decide +kernel
theorem dX5_spilledByBalance_27 : decode cX5_spilledByBalance 27 = .ok (.lstore_n 1, 1) := by decide +kernel
theorem dX5_spilledByBalance_28 : decode cX5_spilledByBalance 28 = .ok (.iinc 3 1, 3) := by decide +kernel
theorem dX5_spilledByBalance_31 : decode cX5_spilledByBalance 31 = .ok (.goto (-27), 3) := by decide +kernel
theorem dX5_spilledByBalance_34 : decode cX5_spilledByBalance 34 = .ok (.aload_n 0, 1) := by decide +kernel
theorem dX5_spilledByBalance_35 : decode cX5_spilledByBalance 35 = .ok (.getfield 42, 3) := by decide +kernel
theorem dX5_spilledByBalance_38 : decode cX5_spilledByBalance 38 = .ok (.getfield 215, 3) := by decide +kernel
theorem dX5_spilledByBalance_41 : decode cX5_spilledByBalance 41 = .ok (.aload_n 0, 1) := by decide +kernel
theorem dX5_spilledByBalance_42 : decode cX5_spilledByBalance 42 = .ok (.getfield 42, 3) := by decide +kernel
theorem dX5_spilledByBalance_45 : decode cX5_spilledByBalance 45 = .ok (.getfield 223, 3) := by decide +kernel
theorem dX5_spilledByBalance_48 : decode cX5_spilledByBalance 48 = .ok (.lsub, 1) := by decide +kernel
theorem dX5_spilledByBalance_49 : decode cX5_spilledByBalance 49 = .ok (.aload_n 0, 1) := by decide +kernel
theorem dX5_spilledByBalance_50 : decode cX5_spilledByBalance 50 = .ok (.getfield 42, 3) := by decide +kernel
theorem dX5_spilledByBalance_53 : decode cX5_spilledByBalance 53 = .ok (.getfield 98, 3) := by decide +kernel
theorem dX5_spilledByBalance_56 : decode cX5_spilledByBalance 56 = .ok (.lsub, 1) := by decide +kernel
theorem dX5_spilledByBalance_57 : decode cX5_spilledByBalance 57 = .ok (.lload_n 1, 1) := by decide +kernel
theorem dX5_spilledByBalance_58 : decode cX5_spilledByBalance 58 = .ok (.lsub, 1) := by decide +kernel
theorem dX5_spilledByBalance_59 : decode cX5_spilledByBalance 59 = .ok (.lreturn, 1) := by decide +kernel
theorem dX5_cost_0 : decode cX5_cost 0 = .ok (.aload_n 0, 1) := by decide +kernel
theorem dX5_cost_1 : decode cX5_cost 1 = .ok (.getfield 42, 3) := by decide +kernel
theorem dX5_cost_4 : decode cX5_cost 4 = .ok (.getfield 226, 3) := by decide +kernel
theorem dX5_cost_7 : decode cX5_cost 7 = .ok (.lreturn, 1) := by decide +kernel
theorem dX5_isBalanced_0 : decode cX5_isBalanced 0 = .ok (.aload_n 0, 1) := by decide +kernel
theorem dX5_isBalanced_1 : decode cX5_isBalanced 1 = .ok (.getfield 42, 3) := by decide +kernel
theorem dX5_isBalanced_4 : decode cX5_isBalanced 4 = .ok (.getfield 212, 3) := by decide +kernel
theorem dX5_isBalanced_7 : decode cX5_isBalanced 7 = .ok (.aload_n 0, 1) := by decide +kernel
theorem dX5_isBalanced_8 : decode cX5_isBalanced 8 = .ok (.getfield 42, 3) := by decide +kernel
theorem dX5_isBalanced_11 : decode cX5_isBalanced 11 = .ok (.getfield 215, 3) := by decide +kernel
theorem dX5_isBalanced_14 : decode cX5_isBalanced 14 = .ok (.aload_n 0, 1) := by decide +kernel
theorem dX5_isBalanced_15 : decode cX5_isBalanced 15 = .ok (.getfield 42, 3) := by decide +kernel
theorem dX5_isBalanced_18 : decode cX5_isBalanced 18 = .ok (.getfield 217, 3) := by decide +kernel
theorem dX5_isBalanced_21 : decode cX5_isBalanced 21 = .ok (.ladd, 1) := by decide +kernel
theorem dX5_isBalanced_22 : decode cX5_isBalanced 22 = .ok (.lcmp, 1) := by decide +kernel
theorem dX5_isBalanced_23 : decode cX5_isBalanced 23 = .ok (.ifCond .ne 22, 3) := by decide +kernel
theorem dX5_isBalanced_26 : decode cX5_isBalanced 26 = .ok (.aload_n 0, 1) := by decide +kernel
theorem dX5_isBalanced_27 : decode cX5_isBalanced 27 = .ok (.getfield 42, 3) := by decide +kernel
theorem dX5_isBalanced_30 : decode cX5_isBalanced 30 = .ok (.getfield 220, 3) := by decide +kernel
theorem dX5_isBalanced_33 : decode cX5_isBalanced 33 = .ok (.aload_n 0, 1) := by decide +kernel
theorem dX5_isBalanced_34 : decode cX5_isBalanced 34 = .ok (.invokevirtual 229, 3) := by decide +kernel
theorem dX5_isBalanced_37 : decode cX5_isBalanced 37 = .ok (.lcmp, 1) := by decide +kernel
theorem dX5_isBalanced_38 : decode cX5_isBalanced 38 = .ok (.ifCond .ne 7, 3) := by decide +kernel
theorem dX5_isBalanced_41 : decode cX5_isBalanced 41 = .ok (.iconst 1, 1) := by decide +kernel
theorem dX5_isBalanced_42 : decode cX5_isBalanced 42 = .ok (.goto 4, 3) := by decide +kernel
theorem dX5_isBalanced_45 : decode cX5_isBalanced 45 = .ok (.iconst 0, 1) := by decide +kernel
theorem dX5_isBalanced_46 : decode cX5_isBalanced 46 = .ok (.ireturn, 1) := by decide +kernel
theorem dX5_servedShare_0 : decode cX5_servedShare 0 = .ok (.aload_n 0, 1) := by decide +kernel
theorem dX5_servedShare_1 : decode cX5_servedShare 1 = .ok (.getfield 42, 3) := by decide +kernel
theorem dX5_servedShare_4 : decode cX5_servedShare 4 = .ok (.getfield 233, 3) := by decide +kernel
theorem dX5_servedShare_7 : decode cX5_servedShare 7 = .ok (.lconst 0, 1) := by decide +kernel
theorem dX5_servedShare_8 : decode cX5_servedShare 8 = .ok (.lcmp, 1) := by decide +kernel
theorem dX5_servedShare_9 : decode cX5_servedShare 9 = .ok (.ifCond .ne 13, 3) := by decide +kernel
theorem dX5_servedShare_12 : decode cX5_servedShare 12 = .ok (.new 236, 3) := by decide +kernel
theorem dX5_servedShare_15 : decode cX5_servedShare 15 = .ok (.dup, 1) := by decide +kernel
theorem dX5_servedShare_16 : decode cX5_servedShare 16 = .ok (.ldc 238, 2) := by decide +kernel
theorem dX5_servedShare_18 : decode cX5_servedShare 18 = .ok (.invokespecial 240, 3) := by decide +kernel
theorem dX5_servedShare_21 : decode cX5_servedShare 21 = .ok (.athrow, 1) := by decide +kernel
theorem dX5_servedShare_22 : decode cX5_servedShare 22 = .ok (.aload_n 0, 1) := by decide +kernel
theorem dX5_servedShare_23 : decode cX5_servedShare 23 = .ok (.getfield 42, 3) := by decide +kernel
theorem dX5_servedShare_26 : decode cX5_servedShare 26 = .ok (.getfield 223, 3) := by decide +kernel
theorem dX5_servedShare_29 : decode cX5_servedShare 29 = .ok (.l2f, 1) := by decide +kernel
theorem dX5_servedShare_30 : decode cX5_servedShare 30 = .ok (.aload_n 0, 1) := by decide +kernel
theorem dX5_servedShare_31 : decode cX5_servedShare 31 = .ok (.getfield 42, 3) := by decide +kernel
theorem dX5_servedShare_34 : decode cX5_servedShare 34 = .ok (.getfield 233, 3) := by decide +kernel
theorem dX5_servedShare_37 : decode cX5_servedShare 37 = .ok (.l2f, 1) := by decide +kernel
theorem dX5_servedShare_38 : decode cX5_servedShare 38 = .ok (.fdiv, 1) := by decide +kernel
theorem dX5_servedShare_39 : decode cX5_servedShare 39 = .ok (.freturn, 1) := by decide +kernel
theorem dX5_meanCost_0 : decode cX5_meanCost 0 = .ok (.aload_n 0, 1) := by decide +kernel
theorem dX5_meanCost_1 : decode cX5_meanCost 1 = .ok (.getfield 50, 3) := by decide +kernel
theorem dX5_meanCost_4 : decode cX5_meanCost 4 = .ok (.ifCond .ne 13, 3) := by decide +kernel
theorem dX5_meanCost_7 : decode cX5_meanCost 7 = .ok (.new 236, 3) := by decide +kernel
theorem dX5_meanCost_10 : decode cX5_meanCost 10 = .ok (.dup, 1) := by decide +kernel
theorem dX5_meanCost_11 : decode cX5_meanCost 11 = .ok (.ldc 241, 2) := by decide +kernel
theorem dX5_meanCost_13 : decode cX5_meanCost 13 = .ok (.invokespecial 240, 3) := by decide +kernel
theorem dX5_meanCost_16 : decode cX5_meanCost 16 = .ok (.athrow, 1) := by decide +kernel
theorem dX5_meanCost_17 : decode cX5_meanCost 17 = .ok (.aload_n 0, 1) := by decide +kernel
theorem dX5_meanCost_18 : decode cX5_meanCost 18 = .ok (.getfield 42, 3) := by decide +kernel
theorem dX5_meanCost_21 : decode cX5_meanCost 21 = .ok (.getfield 226, 3) := by decide +kernel
theorem dX5_meanCost_24 : decode cX5_meanCost 24 = .ok (.l2d, 1) := by decide +kernel
theorem dX5_meanCost_25 : decode cX5_meanCost 25 = .ok (.aload_n 0, 1) := by decide +kernel
theorem dX5_meanCost_26 : decode cX5_meanCost 26 = .ok (.getfield 50, 3) := by decide +kernel
theorem dX5_meanCost_29 : decode cX5_meanCost 29 = .ok (.i2d, 1) := by decide +kernel
theorem dX5_meanCost_30 : decode cX5_meanCost 30 = .ok (.ddiv, 1) := by decide +kernel
theorem dX5_meanCost_31 : decode cX5_meanCost 31 = .ok (.dreturn, 1) := by decide +kernel
theorem dX5_checkRange_0 : decode cX5_checkRange 0 = .ok (.iload_n 0, 1) := by decide +kernel
theorem dX5_checkRange_1 : decode cX5_checkRange 1 = .ok (.iload_n 1, 1) := by decide +kernel
theorem dX5_checkRange_2 : decode cX5_checkRange 2 = .ok (.if_icmp .lt 8, 3) := by decide +kernel
theorem dX5_checkRange_5 : decode cX5_checkRange 5 = .ok (.iload_n 0, 1) := by decide +kernel
theorem dX5_checkRange_6 : decode cX5_checkRange 6 = .ok (.iload_n 2, 1) := by decide +kernel
theorem dX5_checkRange_7 : decode cX5_checkRange 7 = .ok (.if_icmp .le 13, 3) := by decide +kernel
theorem dX5_checkRange_10 : decode cX5_checkRange 10 = .ok (.new 172, 3) := by decide +kernel
theorem dX5_checkRange_13 : decode cX5_checkRange 13 = .ok (.dup, 1) := by decide +kernel
theorem dX5_checkRange_14 : decode cX5_checkRange 14 = .ok (.ldc 243, 2) := by decide +kernel
theorem dX5_checkRange_16 : decode cX5_checkRange 16 = .ok (.invokespecial 176, 3) := by decide +kernel
theorem dX5_checkRange_19 : decode cX5_checkRange 19 = .ok (.athrow, 1) := by decide +kernel
theorem dX5_checkRange_20 : decode cX5_checkRange 20 = .ok (.return_, 1) := by decide +kernel
theorem dX5_checkSlots_0 : decode cX5_checkSlots 0 = .ok (.iload_n 0, 1) := by decide +kernel
theorem dX5_checkSlots_1 : decode cX5_checkSlots 1 = .ok (.iconst 0, 1) := by decide +kernel
theorem dX5_checkSlots_2 : decode cX5_checkSlots 2 = .ok (.bipush 47, 2) := by decide +kernel
theorem dX5_checkSlots_4 : decode cX5_checkSlots 4 = .ok (.invokestatic 53, 3) := by decide +kernel
theorem dX5_checkSlots_7 : decode cX5_checkSlots 7 = .ok (.iload_n 1, 1) := by decide +kernel
theorem dX5_checkSlots_8 : decode cX5_checkSlots 8 = .ok (.iload_n 0, 1) := by decide +kernel
theorem dX5_checkSlots_9 : decode cX5_checkSlots 9 = .ok (.bipush 47, 2) := by decide +kernel
theorem dX5_checkSlots_11 : decode cX5_checkSlots 11 = .ok (.invokestatic 53, 3) := by decide +kernel
theorem dX5_checkSlots_14 : decode cX5_checkSlots 14 = .ok (.return_, 1) := by decide +kernel
theorem dX5_checkAllowed_0 : decode cX5_checkAllowed 0 = .ok (.iload_n 0, 1) := by decide +kernel
theorem dX5_checkAllowed_1 : decode cX5_checkAllowed 1 = .ok (.ldc 165, 2) := by decide +kernel
theorem dX5_checkAllowed_3 : decode cX5_checkAllowed 3 = .ok (.if_icmp .lt 13, 3) := by decide +kernel
theorem dX5_checkAllowed_6 : decode cX5_checkAllowed 6 = .ok (.new 185, 3) := by decide +kernel
theorem dX5_checkAllowed_9 : decode cX5_checkAllowed 9 = .ok (.dup, 1) := by decide +kernel
theorem dX5_checkAllowed_10 : decode cX5_checkAllowed 10 = .ok (.ldc 245, 2) := by decide +kernel
theorem dX5_checkAllowed_12 : decode cX5_checkAllowed 12 = .ok (.invokespecial 189, 3) := by decide +kernel
theorem dX5_checkAllowed_15 : decode cX5_checkAllowed 15 = .ok (.athrow, 1) := by decide +kernel
theorem dX5_checkAllowed_16 : decode cX5_checkAllowed 16 = .ok (.return_, 1) := by decide +kernel
theorem dX5_checkTrain_0 : decode cX5_checkTrain 0 = .ok (.iload_n 1, 1) := by decide +kernel
theorem dX5_checkTrain_1 : decode cX5_checkTrain 1 = .ok (.ifCond .lt 14, 3) := by decide +kernel
theorem dX5_checkTrain_4 : decode cX5_checkTrain 4 = .ok (.iload_n 1, 1) := by decide +kernel
theorem dX5_checkTrain_5 : decode cX5_checkTrain 5 = .ok (.aload_n 0, 1) := by decide +kernel
theorem dX5_checkTrain_6 : decode cX5_checkTrain 6 = .ok (.getfield 10, 3) := by decide +kernel
theorem dX5_checkTrain_9 : decode cX5_checkTrain 9 = .ok (.getfield 57, 3) := by decide +kernel
theorem dX5_checkTrain_12 : decode cX5_checkTrain 12 = .ok (.if_icmp .lt 13, 3) := by decide +kernel
theorem dX5_checkTrain_15 : decode cX5_checkTrain 15 = .ok (.new 207, 3) := by decide +kernel
theorem dX5_checkTrain_18 : decode cX5_checkTrain 18 = .ok (.dup, 1) := by decide +kernel
theorem dX5_checkTrain_19 : decode cX5_checkTrain 19 = .ok (.ldc 247, 2) := by decide +kernel
theorem dX5_checkTrain_21 : decode cX5_checkTrain 21 = .ok (.invokespecial 211, 3) := by decide +kernel
theorem dX5_checkTrain_24 : decode cX5_checkTrain 24 = .ok (.athrow, 1) := by decide +kernel
theorem dX5_checkTrain_25 : decode cX5_checkTrain 25 = .ok (.return_, 1) := by decide +kernel
theorem dX5_checkReady_0 : decode cX5_checkReady 0 = .ok (.aload_n 0, 1) := by decide +kernel
theorem dX5_checkReady_1 : decode cX5_checkReady 1 = .ok (.getfield 19, 3) := by decide +kernel
theorem dX5_checkReady_4 : decode cX5_checkReady 4 = .ok (.getfield 102, 3) := by decide +kernel
theorem dX5_checkReady_7 : decode cX5_checkReady 7 = .ok (.iload_n 1, 1) := by decide +kernel
theorem dX5_checkReady_8 : decode cX5_checkReady 8 = .ok (.iaload, 1) := by decide +kernel
theorem dX5_checkReady_9 : decode cX5_checkReady 9 = .ok (.ifCond .le 13, 3) := by decide +kernel
theorem dX5_checkReady_12 : decode cX5_checkReady 12 = .ok (.new 60, 3) := by decide +kernel
theorem dX5_checkReady_15 : decode cX5_checkReady 15 = .ok (.dup, 1) := by decide +kernel
theorem dX5_checkReady_16 : decode cX5_checkReady 16 = .ok (.ldc 249, 2) := by decide +kernel
theorem dX5_checkReady_18 : decode cX5_checkReady 18 = .ok (.invokespecial 64, 3) := by decide +kernel
theorem dX5_checkReady_21 : decode cX5_checkReady 21 = .ok (.athrow, 1) := by decide +kernel
theorem dX5_checkReady_22 : decode cX5_checkReady 22 = .ok (.return_, 1) := by decide +kernel
theorem dX5_checkTank_0 : decode cX5_checkTank 0 = .ok (.iload_n 1, 1) := by decide +kernel
theorem dX5_checkTank_1 : decode cX5_checkTank 1 = .ok (.ifCond .lt 14, 3) := by decide +kernel
theorem dX5_checkTank_4 : decode cX5_checkTank 4 = .ok (.iload_n 1, 1) := by decide +kernel
theorem dX5_checkTank_5 : decode cX5_checkTank 5 = .ok (.aload_n 0, 1) := by decide +kernel
theorem dX5_checkTank_6 : decode cX5_checkTank 6 = .ok (.getfield 10, 3) := by decide +kernel
theorem dX5_checkTank_9 : decode cX5_checkTank 9 = .ok (.getfield 87, 3) := by decide +kernel
theorem dX5_checkTank_12 : decode cX5_checkTank 12 = .ok (.if_icmp .lt 13, 3) := by decide +kernel
theorem dX5_checkTank_15 : decode cX5_checkTank 15 = .ok (.new 207, 3) := by decide +kernel
theorem dX5_checkTank_18 : decode cX5_checkTank 18 = .ok (.dup, 1) := by decide +kernel
theorem dX5_checkTank_19 : decode cX5_checkTank 19 = .ok (.ldc 251, 2) := by decide +kernel
theorem dX5_checkTank_21 : decode cX5_checkTank 21 = .ok (.invokespecial 211, 3) := by decide +kernel
theorem dX5_checkTank_24 : decode cX5_checkTank 24 = .ok (.athrow, 1) := by decide +kernel
theorem dX5_checkTank_25 : decode cX5_checkTank 25 = .ok (.return_, 1) := by decide +kernel
theorem dX5_fillSlots_0 : decode cX5_fillSlots 0 = .ok (.iconst 0, 1) := by decide +kernel
theorem dX5_fillSlots_1 : decode cX5_fillSlots 1 = .ok (.istore 4, 2) := by decide +kernel
theorem dX5_fillSlots_3 : decode cX5_fillSlots 3 = .ok (.iconst 0, 1) := by decide +kernel
theorem dX5_fillSlots_4 : decode cX5_fillSlots 4 = .ok (.istore 5, 2) := by decide +kernel
theorem dX5_fillSlots_6 : decode cX5_fillSlots 6 = .ok (.iload 5, 2) := by decide +kernel
theorem dX5_fillSlots_8 : decode cX5_fillSlots 8 = .ok (.aload_n 0, 1) := by decide +kernel
theorem dX5_fillSlots_9 : decode cX5_fillSlots 9 = .ok (.arraylength, 1) := by decide +kernel
theorem dX5_fillSlots_10 : decode cX5_fillSlots 10 = .ok (.if_icmp .ge 35, 3) := by decide +kernel
theorem dX5_fillSlots_13 : decode cX5_fillSlots 13 = .ok (.iload 5, 2) := by decide +kernel
theorem dX5_fillSlots_15 : decode cX5_fillSlots 15 = .ok (.iload_n 1, 1) := by decide +kernel
theorem dX5_fillSlots_16 : decode cX5_fillSlots 16 = .ok (.if_icmp .lt 14, 3) := by decide +kernel
theorem dX5_fillSlots_19 : decode cX5_fillSlots 19 = .ok (.iload 5, 2) := by decide +kernel
theorem dX5_fillSlots_21 : decode cX5_fillSlots 21 = .ok (.iload_n 2, 1) := by decide +kernel
theorem dX5_fillSlots_22 : decode cX5_fillSlots 22 = .ok (.if_icmp .gt 8, 3) := by decide +kernel
theorem dX5_fillSlots_25 : decode cX5_fillSlots 25 = .ok (.aload_n 0, 1) := by decide +kernel
theorem dX5_fillSlots_26 : decode cX5_fillSlots 26 = .ok (.iload 5, 2) := by decide +kernel
theorem dX5_fillSlots_28 : decode cX5_fillSlots 28 = .ok (.iload_n 3, 1) := by decide +kernel
theorem dX5_fillSlots_29 : decode cX5_fillSlots 29 = .ok (.iastore, 1) := by decide +kernel
theorem dX5_fillSlots_30 : decode cX5_fillSlots 30 = .ok (.iload 4, 2) := by decide +kernel
theorem dX5_fillSlots_32 : decode cX5_fillSlots 32 = .ok (.aload_n 0, 1) := by decide +kernel
theorem dX5_fillSlots_33 : decode cX5_fillSlots 33 = .ok (.iload 5, 2) := by decide +kernel
theorem dX5_fillSlots_35 : decode cX5_fillSlots 35 = .ok (.iaload, 1) := by decide +kernel
theorem dX5_fillSlots_36 : decode cX5_fillSlots 36 = .ok (.iadd, 1) := by decide +kernel
theorem dX5_fillSlots_37 : decode cX5_fillSlots 37 = .ok (.istore 4, 2) := by decide +kernel
theorem dX5_fillSlots_39 : decode cX5_fillSlots 39 = .ok (.iinc 5 1, 3) := by decide +kernel
theorem dX5_fillSlots_42 : decode cX5_fillSlots 42 = .ok (.goto (-36), 3) := by decide +kernel
theorem dX5_fillSlots_45 : decode cX5_fillSlots 45 = .ok (.iload 4, 2) := by decide +kernel
theorem dX5_fillSlots_47 : decode cX5_fillSlots 47 = .ok (.ireturn, 1) := by decide +kernel
theorem dX5_slotOf_0 : decode cX5_slotOf 0 = .ok (.iload_n 0, 1) := by decide +kernel
theorem dX5_slotOf_1 : decode cX5_slotOf 1 = .ok (.bipush 48, 2) := by decide +kernel
theorem dX5_slotOf_3 : decode cX5_slotOf 3 = .ok (.invokestatic 253, 3) := by decide +kernel
theorem dX5_slotOf_6 : decode cX5_slotOf 6 = .ok (.ireturn, 1) := by decide +kernel
theorem dX5_passPresent_0 : decode cX5_passPresent 0 = .ok (.aload_n 0, 1) := by decide +kernel
theorem dX5_passPresent_1 : decode cX5_passPresent 1 = .ok (.getfield 19, 3) := by decide +kernel
theorem dX5_passPresent_4 : decode cX5_passPresent 4 = .ok (.aload_n 0, 1) := by decide +kernel
theorem dX5_passPresent_5 : decode cX5_passPresent 5 = .ok (.getfield 10, 3) := by decide +kernel
theorem dX5_passPresent_8 : decode cX5_passPresent 8 = .ok (.aload_n 0, 1) := by decide +kernel
theorem dX5_passPresent_9 : decode cX5_passPresent 9 = .ok (.getfield 50, 3) := by decide +kernel
theorem dX5_passPresent_12 : decode cX5_passPresent 12 = .ok (.invokestatic 256, 3) := by decide +kernel
theorem dX5_passPresent_15 : decode cX5_passPresent 15 = .ok (.iload_n 1, 1) := by decide +kernel
theorem dX5_passPresent_16 : decode cX5_passPresent 16 = .ok (.invokevirtual 259, 3) := by decide +kernel
theorem dX5_passPresent_19 : decode cX5_passPresent 19 = .ok (.aload_n 0, 1) := by decide +kernel
theorem dX5_passPresent_20 : decode cX5_passPresent 20 = .ok (.getfield 42, 3) := by decide +kernel
theorem dX5_passPresent_23 : decode cX5_passPresent 23 = .ok (.aload_n 0, 1) := by decide +kernel
theorem dX5_passPresent_24 : decode cX5_passPresent 24 = .ok (.getfield 19, 3) := by decide +kernel
theorem dX5_passPresent_27 : decode cX5_passPresent 27 = .ok (.invokevirtual 263, 3) := by decide +kernel
theorem dX5_passPresent_30 : decode cX5_passPresent 30 = .ok (.aload_n 0, 1) := by decide +kernel
theorem dX5_passPresent_31 : decode cX5_passPresent 31 = .ok (.getfield 26, 3) := by decide +kernel
theorem dX5_passPresent_34 : decode cX5_passPresent 34 = .ok (.aload_n 0, 1) := by decide +kernel
theorem dX5_passPresent_35 : decode cX5_passPresent 35 = .ok (.getfield 50, 3) := by decide +kernel
theorem dX5_passPresent_38 : decode cX5_passPresent 38 = .ok (.invokevirtual 190, 3) := by decide +kernel
theorem dX5_passPresent_41 : decode cX5_passPresent 41 = .ok (.aload_n 0, 1) := by decide +kernel
theorem dX5_passPresent_42 : decode cX5_passPresent 42 = .ok (.dup, 1) := by decide +kernel
theorem dX5_passPresent_43 : decode cX5_passPresent 43 = .ok (.getfield 50, 3) := by decide +kernel
theorem dX5_passPresent_46 : decode cX5_passPresent 46 = .ok (.iconst 1, 1) := by decide +kernel
theorem dX5_passPresent_47 : decode cX5_passPresent 47 = .ok (.iadd, 1) := by decide +kernel
theorem dX5_passPresent_48 : decode cX5_passPresent 48 = .ok (.putfield 50, 3) := by decide +kernel
theorem dX5_passPresent_51 : decode cX5_passPresent 51 = .ok (.return_, 1) := by decide +kernel
theorem dX6_init_0 : decode cX6_init 0 = .ok (.aload_n 0, 1) := by decide +kernel
theorem dX6_init_1 : decode cX6_init 1 = .ok (.invokespecial 3, 3) := by decide +kernel
theorem dX6_init_4 : decode cX6_init 4 = .ok (.aload_n 0, 1) := by decide +kernel
theorem dX6_init_5 : decode cX6_init 5 = .ok (.bipush 15, 2) := by decide +kernel
theorem dX6_init_7 : decode cX6_init 7 = .ok (.newarray .int, 2) := by decide +kernel
theorem dX6_init_9 : decode cX6_init 9 = .ok (.putfield 9, 3) := by decide +kernel
theorem dX6_init_12 : decode cX6_init 12 = .ok (.aload_n 0, 1) := by decide +kernel
theorem dX6_init_13 : decode cX6_init 13 = .ok (.bipush 15, 2) := by decide +kernel
theorem dX6_init_15 : decode cX6_init 15 = .ok (.newarray .int, 2) := by decide +kernel
theorem dX6_init_17 : decode cX6_init 17 = .ok (.putfield 13, 3) := by decide +kernel
theorem dX6_init_20 : decode cX6_init 20 = .ok (.aload_n 0, 1) := by decide +kernel
theorem dX6_init_21 : decode cX6_init 21 = .ok (.iconst 4, 1) := by decide +kernel
theorem dX6_init_22 : decode cX6_init 22 = .ok (.newarray .int, 2) := by decide +kernel
theorem dX6_init_24 : decode cX6_init 24 = .ok (.putfield 16, 3) := by decide +kernel
theorem dX6_init_27 : decode cX6_init 27 = .ok (.aload_n 0, 1) := by decide +kernel
theorem dX6_init_28 : decode cX6_init 28 = .ok (.iconst 4, 1) := by decide +kernel
theorem dX6_init_29 : decode cX6_init 29 = .ok (.newarray .int, 2) := by decide +kernel
theorem dX6_init_31 : decode cX6_init 31 = .ok (.putfield 19, 3) := by decide +kernel
theorem dX6_init_34 : decode cX6_init 34 = .ok (.aload_n 0, 1) := by decide +kernel
theorem dX6_init_35 : decode cX6_init 35 = .ok (.iconst 3, 1) := by decide +kernel
theorem dX6_init_36 : decode cX6_init 36 = .ok (.newarray .int, 2) := by decide +kernel
theorem dX6_init_38 : decode cX6_init 38 = .ok (.putfield 22, 3) := by decide +kernel
theorem dX6_init_41 : decode cX6_init 41 = .ok (.aload_n 0, 1) := by decide +kernel
theorem dX6_init_42 : decode cX6_init 42 = .ok (.sipush 144, 3) := by decide +kernel
theorem dX6_init_45 : decode cX6_init 45 = .ok (.newarray .int, 2) := by decide +kernel
theorem dX6_init_47 : decode cX6_init 47 = .ok (.putfield 25, 3) := by decide +kernel
theorem dX6_init_50 : decode cX6_init 50 = .ok (.aload_n 0, 1) := by decide +kernel
theorem dX6_init_51 : decode cX6_init 51 = .ok (.iconst 3, 1) := by decide +kernel
theorem dX6_init_52 : decode cX6_init 52 = .ok (.newarray .int, 2) := by decide +kernel
theorem dX6_init_54 : decode cX6_init 54 = .ok (.putfield 28, 3) := by decide +kernel
theorem dX6_init_57 : decode cX6_init 57 = .ok (.aload_n 0, 1) := by decide +kernel
theorem dX6_init_58 : decode cX6_init 58 = .ok (.bipush 48, 2) := by decide +kernel
theorem dX6_init_60 : decode cX6_init 60 = .ok (.newarray .int, 2) := by decide +kernel
theorem dX6_init_62 : decode cX6_init 62 = .ok (.dup, 1) := by decide +kernel
theorem dX6_init_63 : decode cX6_init 63 = .ok (.iconst 0, 1) := by decide +kernel
theorem dX6_init_64 : decode cX6_init 64 = .ok (.iconst 1, 1) := by decide +kernel
theorem dX6_init_65 : decode cX6_init 65 = .ok (.iastore, 1) := by decide +kernel
theorem dX6_init_66 : decode cX6_init 66 = .ok (.dup, 1) := by decide +kernel
theorem dX6_init_67 : decode cX6_init 67 = .ok (.iconst 1, 1) := by decide +kernel
theorem dX6_init_68 : decode cX6_init 68 = .ok (.iconst 1, 1) := by decide +kernel
theorem dX6_init_69 : decode cX6_init 69 = .ok (.iastore, 1) := by decide +kernel
theorem dX6_init_70 : decode cX6_init 70 = .ok (.dup, 1) := by decide +kernel
theorem dX6_init_71 : decode cX6_init 71 = .ok (.iconst 2, 1) := by decide +kernel
theorem dX6_init_72 : decode cX6_init 72 = .ok (.iconst 1, 1) := by decide +kernel
theorem dX6_init_73 : decode cX6_init 73 = .ok (.iastore, 1) := by decide +kernel
theorem dX6_init_74 : decode cX6_init 74 = .ok (.dup, 1) := by decide +kernel
theorem dX6_init_75 : decode cX6_init 75 = .ok (.iconst 3, 1) := by decide +kernel
theorem dX6_init_76 : decode cX6_init 76 = .ok (.iconst 1, 1) := by decide +kernel
theorem dX6_init_77 : decode cX6_init 77 = .ok (.iastore, 1) := by decide +kernel
theorem dX6_init_78 : decode cX6_init 78 = .ok (.dup, 1) := by decide +kernel
theorem dX6_init_79 : decode cX6_init 79 = .ok (.iconst 4, 1) := by decide +kernel
theorem dX6_init_80 : decode cX6_init 80 = .ok (.iconst 1, 1) := by decide +kernel
theorem dX6_init_81 : decode cX6_init 81 = .ok (.iastore, 1) := by decide +kernel
theorem dX6_init_82 : decode cX6_init 82 = .ok (.dup, 1) := by decide +kernel
theorem dX6_init_83 : decode cX6_init 83 = .ok (.iconst 5, 1) := by decide +kernel
theorem dX6_init_84 : decode cX6_init 84 = .ok (.iconst 1, 1) := by decide +kernel
theorem dX6_init_85 : decode cX6_init 85 = .ok (.iastore, 1) := by decide +kernel
theorem dX6_init_86 : decode cX6_init 86 = .ok (.dup, 1) := by decide +kernel
theorem dX6_init_87 : decode cX6_init 87 = .ok (.bipush 6, 2) := by decide +kernel
theorem dX6_init_89 : decode cX6_init 89 = .ok (.iconst 1, 1) := by decide +kernel
theorem dX6_init_90 : decode cX6_init 90 = .ok (.iastore, 1) := by decide +kernel
theorem dX6_init_91 : decode cX6_init 91 = .ok (.dup, 1) := by decide +kernel
theorem dX6_init_92 : decode cX6_init 92 = .ok (.bipush 7, 2) := by decide +kernel
theorem dX6_init_94 : decode cX6_init 94 = .ok (.iconst 1, 1) := by decide +kernel
theorem dX6_init_95 : decode cX6_init 95 = .ok (.iastore, 1) := by decide +kernel
theorem dX6_init_96 : decode cX6_init 96 = .ok (.dup, 1) := by decide +kernel
theorem dX6_init_97 : decode cX6_init 97 = .ok (.bipush 8, 2) := by decide +kernel
theorem dX6_init_99 : decode cX6_init 99 = .ok (.iconst 1, 1) := by decide +kernel
theorem dX6_init_100 : decode cX6_init 100 = .ok (.iastore, 1) := by decide +kernel
theorem dX6_init_101 : decode cX6_init 101 = .ok (.dup, 1) := by decide +kernel
theorem dX6_init_102 : decode cX6_init 102 = .ok (.bipush 9, 2) := by decide +kernel
theorem dX6_init_104 : decode cX6_init 104 = .ok (.iconst 1, 1) := by decide +kernel
theorem dX6_init_105 : decode cX6_init 105 = .ok (.iastore, 1) := by decide +kernel
theorem dX6_init_106 : decode cX6_init 106 = .ok (.dup, 1) := by decide +kernel
theorem dX6_init_107 : decode cX6_init 107 = .ok (.bipush 10, 2) := by decide +kernel
theorem dX6_init_109 : decode cX6_init 109 = .ok (.iconst 1, 1) := by decide +kernel
theorem dX6_init_110 : decode cX6_init 110 = .ok (.iastore, 1) := by decide +kernel
theorem dX6_init_111 : decode cX6_init 111 = .ok (.dup, 1) := by decide +kernel
theorem dX6_init_112 : decode cX6_init 112 = .ok (.bipush 11, 2) := by decide +kernel
theorem dX6_init_114 : decode cX6_init 114 = .ok (.iconst 1, 1) := by decide +kernel
theorem dX6_init_115 : decode cX6_init 115 = .ok (.iastore, 1) := by decide +kernel
theorem dX6_init_116 : decode cX6_init 116 = .ok (.dup, 1) := by decide +kernel
theorem dX6_init_117 : decode cX6_init 117 = .ok (.bipush 12, 2) := by decide +kernel
theorem dX6_init_119 : decode cX6_init 119 = .ok (.iconst 1, 1) := by decide +kernel
theorem dX6_init_120 : decode cX6_init 120 = .ok (.iastore, 1) := by decide +kernel
theorem dX6_init_121 : decode cX6_init 121 = .ok (.dup, 1) := by decide +kernel
theorem dX6_init_122 : decode cX6_init 122 = .ok (.bipush 13, 2) := by decide +kernel
theorem dX6_init_124 : decode cX6_init 124 = .ok (.iconst 1, 1) := by decide +kernel
theorem dX6_init_125 : decode cX6_init 125 = .ok (.iastore, 1) := by decide +kernel
theorem dX6_init_126 : decode cX6_init 126 = .ok (.dup, 1) := by decide +kernel
theorem dX6_init_127 : decode cX6_init 127 = .ok (.bipush 14, 2) := by decide +kernel
theorem dX6_init_129 : decode cX6_init 129 = .ok (.iconst 1, 1) := by decide +kernel
theorem dX6_init_130 : decode cX6_init 130 = .ok (.iastore, 1) := by decide +kernel
theorem dX6_init_131 : decode cX6_init 131 = .ok (.dup, 1) := by decide +kernel
theorem dX6_init_132 : decode cX6_init 132 = .ok (.bipush 15, 2) := by decide +kernel
theorem dX6_init_134 : decode cX6_init 134 = .ok (.iconst 1, 1) := by decide +kernel
theorem dX6_init_135 : decode cX6_init 135 = .ok (.iastore, 1) := by decide +kernel
theorem dX6_init_136 : decode cX6_init 136 = .ok (.dup, 1) := by decide +kernel
theorem dX6_init_137 : decode cX6_init 137 = .ok (.bipush 16, 2) := by decide +kernel
theorem dX6_init_139 : decode cX6_init 139 = .ok (.iconst 1, 1) := by decide +kernel
theorem dX6_init_140 : decode cX6_init 140 = .ok (.iastore, 1) := by decide +kernel
theorem dX6_init_141 : decode cX6_init 141 = .ok (.dup, 1) := by decide +kernel
theorem dX6_init_142 : decode cX6_init 142 = .ok (.bipush 17, 2) := by decide +kernel
theorem dX6_init_144 : decode cX6_init 144 = .ok (.iconst 1, 1) := by decide +kernel
theorem dX6_init_145 : decode cX6_init 145 = .ok (.iastore, 1) := by decide +kernel
theorem dX6_init_146 : decode cX6_init 146 = .ok (.dup, 1) := by decide +kernel
theorem dX6_init_147 : decode cX6_init 147 = .ok (.bipush 18, 2) := by decide +kernel
theorem dX6_init_149 : decode cX6_init 149 = .ok (.iconst 1, 1) := by decide +kernel
theorem dX6_init_150 : decode cX6_init 150 = .ok (.iastore, 1) := by decide +kernel
theorem dX6_init_151 : decode cX6_init 151 = .ok (.dup, 1) := by decide +kernel
theorem dX6_init_152 : decode cX6_init 152 = .ok (.bipush 19, 2) := by decide +kernel
theorem dX6_init_154 : decode cX6_init 154 = .ok (.iconst 1, 1) := by decide +kernel
theorem dX6_init_155 : decode cX6_init 155 = .ok (.iastore, 1) := by decide +kernel
theorem dX6_init_156 : decode cX6_init 156 = .ok (.dup, 1) := by decide +kernel
theorem dX6_init_157 : decode cX6_init 157 = .ok (.bipush 20, 2) := by decide +kernel
theorem dX6_init_159 : decode cX6_init 159 = .ok (.iconst 1, 1) := by decide +kernel
theorem dX6_init_160 : decode cX6_init 160 = .ok (.iastore, 1) := by decide +kernel
theorem dX6_init_161 : decode cX6_init 161 = .ok (.dup, 1) := by decide +kernel
theorem dX6_init_162 : decode cX6_init 162 = .ok (.bipush 21, 2) := by decide +kernel
theorem dX6_init_164 : decode cX6_init 164 = .ok (.iconst 1, 1) := by decide +kernel
theorem dX6_init_165 : decode cX6_init 165 = .ok (.iastore, 1) := by decide +kernel
theorem dX6_init_166 : decode cX6_init 166 = .ok (.dup, 1) := by decide +kernel
theorem dX6_init_167 : decode cX6_init 167 = .ok (.bipush 22, 2) := by decide +kernel
theorem dX6_init_169 : decode cX6_init 169 = .ok (.iconst 1, 1) := by decide +kernel
theorem dX6_init_170 : decode cX6_init 170 = .ok (.iastore, 1) := by decide +kernel
theorem dX6_init_171 : decode cX6_init 171 = .ok (.dup, 1) := by decide +kernel
theorem dX6_init_172 : decode cX6_init 172 = .ok (.bipush 23, 2) := by decide +kernel
theorem dX6_init_174 : decode cX6_init 174 = .ok (.iconst 1, 1) := by decide +kernel
theorem dX6_init_175 : decode cX6_init 175 = .ok (.iastore, 1) := by decide +kernel
theorem dX6_init_176 : decode cX6_init 176 = .ok (.dup, 1) := by decide +kernel
theorem dX6_init_177 : decode cX6_init 177 = .ok (.bipush 24, 2) := by decide +kernel
theorem dX6_init_179 : decode cX6_init 179 = .ok (.iconst 1, 1) := by decide +kernel
theorem dX6_init_180 : decode cX6_init 180 = .ok (.iastore, 1) := by decide +kernel
theorem dX6_init_181 : decode cX6_init 181 = .ok (.dup, 1) := by decide +kernel
theorem dX6_init_182 : decode cX6_init 182 = .ok (.bipush 25, 2) := by decide +kernel
theorem dX6_init_184 : decode cX6_init 184 = .ok (.iconst 1, 1) := by decide +kernel
theorem dX6_init_185 : decode cX6_init 185 = .ok (.iastore, 1) := by decide +kernel
theorem dX6_init_186 : decode cX6_init 186 = .ok (.dup, 1) := by decide +kernel
theorem dX6_init_187 : decode cX6_init 187 = .ok (.bipush 26, 2) := by decide +kernel
theorem dX6_init_189 : decode cX6_init 189 = .ok (.iconst 1, 1) := by decide +kernel
theorem dX6_init_190 : decode cX6_init 190 = .ok (.iastore, 1) := by decide +kernel
theorem dX6_init_191 : decode cX6_init 191 = .ok (.dup, 1) := by decide +kernel
theorem dX6_init_192 : decode cX6_init 192 = .ok (.bipush 27, 2) := by decide +kernel
theorem dX6_init_194 : decode cX6_init 194 = .ok (.iconst 1, 1) := by decide +kernel
theorem dX6_init_195 : decode cX6_init 195 = .ok (.iastore, 1) := by decide +kernel
theorem dX6_init_196 : decode cX6_init 196 = .ok (.dup, 1) := by decide +kernel
theorem dX6_init_197 : decode cX6_init 197 = .ok (.bipush 28, 2) := by decide +kernel
theorem dX6_init_199 : decode cX6_init 199 = .ok (.iconst 1, 1) := by decide +kernel
theorem dX6_init_200 : decode cX6_init 200 = .ok (.iastore, 1) := by decide +kernel
theorem dX6_init_201 : decode cX6_init 201 = .ok (.dup, 1) := by decide +kernel
theorem dX6_init_202 : decode cX6_init 202 = .ok (.bipush 29, 2) := by decide +kernel
theorem dX6_init_204 : decode cX6_init 204 = .ok (.iconst 1, 1) := by decide +kernel
theorem dX6_init_205 : decode cX6_init 205 = .ok (.iastore, 1) := by decide +kernel
theorem dX6_init_206 : decode cX6_init 206 = .ok (.dup, 1) := by decide +kernel
theorem dX6_init_207 : decode cX6_init 207 = .ok (.bipush 30, 2) := by decide +kernel
theorem dX6_init_209 : decode cX6_init 209 = .ok (.iconst 1, 1) := by decide +kernel
theorem dX6_init_210 : decode cX6_init 210 = .ok (.iastore, 1) := by decide +kernel
theorem dX6_init_211 : decode cX6_init 211 = .ok (.dup, 1) := by decide +kernel
theorem dX6_init_212 : decode cX6_init 212 = .ok (.bipush 31, 2) := by decide +kernel
theorem dX6_init_214 : decode cX6_init 214 = .ok (.iconst 1, 1) := by decide +kernel
theorem dX6_init_215 : decode cX6_init 215 = .ok (.iastore, 1) := by decide +kernel
theorem dX6_init_216 : decode cX6_init 216 = .ok (.dup, 1) := by decide +kernel
theorem dX6_init_217 : decode cX6_init 217 = .ok (.bipush 32, 2) := by decide +kernel
theorem dX6_init_219 : decode cX6_init 219 = .ok (.iconst 1, 1) := by decide +kernel
theorem dX6_init_220 : decode cX6_init 220 = .ok (.iastore, 1) := by decide +kernel
theorem dX6_init_221 : decode cX6_init 221 = .ok (.dup, 1) := by decide +kernel
theorem dX6_init_222 : decode cX6_init 222 = .ok (.bipush 33, 2) := by decide +kernel
theorem dX6_init_224 : decode cX6_init 224 = .ok (.iconst 1, 1) := by decide +kernel
theorem dX6_init_225 : decode cX6_init 225 = .ok (.iastore, 1) := by decide +kernel
theorem dX6_init_226 : decode cX6_init 226 = .ok (.dup, 1) := by decide +kernel
theorem dX6_init_227 : decode cX6_init 227 = .ok (.bipush 34, 2) := by decide +kernel
theorem dX6_init_229 : decode cX6_init 229 = .ok (.iconst 1, 1) := by decide +kernel
theorem dX6_init_230 : decode cX6_init 230 = .ok (.iastore, 1) := by decide +kernel
theorem dX6_init_231 : decode cX6_init 231 = .ok (.dup, 1) := by decide +kernel
theorem dX6_init_232 : decode cX6_init 232 = .ok (.bipush 35, 2) := by decide +kernel
theorem dX6_init_234 : decode cX6_init 234 = .ok (.iconst 1, 1) := by decide +kernel
theorem dX6_init_235 : decode cX6_init 235 = .ok (.iastore, 1) := by decide +kernel
theorem dX6_init_236 : decode cX6_init 236 = .ok (.dup, 1) := by decide +kernel
theorem dX6_init_237 : decode cX6_init 237 = .ok (.bipush 36, 2) := by decide +kernel
theorem dX6_init_239 : decode cX6_init 239 = .ok (.iconst 1, 1) := by decide +kernel
theorem dX6_init_240 : decode cX6_init 240 = .ok (.iastore, 1) := by decide +kernel
theorem dX6_init_241 : decode cX6_init 241 = .ok (.dup, 1) := by decide +kernel
theorem dX6_init_242 : decode cX6_init 242 = .ok (.bipush 37, 2) := by decide +kernel
theorem dX6_init_244 : decode cX6_init 244 = .ok (.iconst 1, 1) := by decide +kernel
theorem dX6_init_245 : decode cX6_init 245 = .ok (.iastore, 1) := by decide +kernel
theorem dX6_init_246 : decode cX6_init 246 = .ok (.dup, 1) := by decide +kernel
theorem dX6_init_247 : decode cX6_init 247 = .ok (.bipush 38, 2) := by decide +kernel
theorem dX6_init_249 : decode cX6_init 249 = .ok (.iconst 1, 1) := by decide +kernel
theorem dX6_init_250 : decode cX6_init 250 = .ok (.iastore, 1) := by decide +kernel
theorem dX6_init_251 : decode cX6_init 251 = .ok (.dup, 1) := by decide +kernel
theorem dX6_init_252 : decode cX6_init 252 = .ok (.bipush 39, 2) := by decide +kernel
theorem dX6_init_254 : decode cX6_init 254 = .ok (.iconst 1, 1) := by decide +kernel
theorem dX6_init_255 : decode cX6_init 255 = .ok (.iastore, 1) := by decide +kernel
theorem dX6_init_256 : decode cX6_init 256 = .ok (.dup, 1) := by decide +kernel
theorem dX6_init_257 : decode cX6_init 257 = .ok (.bipush 40, 2) := by decide +kernel
theorem dX6_init_259 : decode cX6_init 259 = .ok (.iconst 1, 1) := by decide +kernel
theorem dX6_init_260 : decode cX6_init 260 = .ok (.iastore, 1) := by decide +kernel
theorem dX6_init_261 : decode cX6_init 261 = .ok (.dup, 1) := by decide +kernel
theorem dX6_init_262 : decode cX6_init 262 = .ok (.bipush 41, 2) := by decide +kernel
theorem dX6_init_264 : decode cX6_init 264 = .ok (.iconst 1, 1) := by decide +kernel
theorem dX6_init_265 : decode cX6_init 265 = .ok (.iastore, 1) := by decide +kernel
theorem dX6_init_266 : decode cX6_init 266 = .ok (.dup, 1) := by decide +kernel
theorem dX6_init_267 : decode cX6_init 267 = .ok (.bipush 42, 2) := by decide +kernel
theorem dX6_init_269 : decode cX6_init 269 = .ok (.iconst 1, 1) := by decide +kernel
theorem dX6_init_270 : decode cX6_init 270 = .ok (.iastore, 1) := by decide +kernel
theorem dX6_init_271 : decode cX6_init 271 = .ok (.dup, 1) := by decide +kernel
theorem dX6_init_272 : decode cX6_init 272 = .ok (.bipush 43, 2) := by decide +kernel
theorem dX6_init_274 : decode cX6_init 274 = .ok (.iconst 1, 1) := by decide +kernel
theorem dX6_init_275 : decode cX6_init 275 = .ok (.iastore, 1) := by decide +kernel
theorem dX6_init_276 : decode cX6_init 276 = .ok (.dup, 1) := by decide +kernel
theorem dX6_init_277 : decode cX6_init 277 = .ok (.bipush 44, 2) := by decide +kernel
theorem dX6_init_279 : decode cX6_init 279 = .ok (.iconst 1, 1) := by decide +kernel
theorem dX6_init_280 : decode cX6_init 280 = .ok (.iastore, 1) := by decide +kernel
theorem dX6_init_281 : decode cX6_init 281 = .ok (.dup, 1) := by decide +kernel
theorem dX6_init_282 : decode cX6_init 282 = .ok (.bipush 45, 2) := by decide +kernel
theorem dX6_init_284 : decode cX6_init 284 = .ok (.iconst 1, 1) := by decide +kernel
theorem dX6_init_285 : decode cX6_init 285 = .ok (.iastore, 1) := by decide +kernel
theorem dX6_init_286 : decode cX6_init 286 = .ok (.dup, 1) := by decide +kernel
theorem dX6_init_287 : decode cX6_init 287 = .ok (.bipush 46, 2) := by decide +kernel
theorem dX6_init_289 : decode cX6_init 289 = .ok (.iconst 1, 1) := by decide +kernel
theorem dX6_init_290 : decode cX6_init 290 = .ok (.iastore, 1) := by decide +kernel
theorem dX6_init_291 : decode cX6_init 291 = .ok (.dup, 1) := by decide +kernel
theorem dX6_init_292 : decode cX6_init 292 = .ok (.bipush 47, 2) := by decide +kernel
theorem dX6_init_294 : decode cX6_init 294 = .ok (.iconst 1, 1) := by decide +kernel
theorem dX6_init_295 : decode cX6_init 295 = .ok (.iastore, 1) := by decide +kernel
theorem dX6_init_296 : decode cX6_init 296 = .ok (.putfield 31, 3) := by decide +kernel
theorem dX6_init_299 : decode cX6_init 299 = .ok (.aload_n 0, 1) := by decide +kernel
theorem dX6_init_300 : decode cX6_init 300 = .ok (.bipush 25, 2) := by decide +kernel
theorem dX6_init_302 : decode cX6_init 302 = .ok (.putfield 34, 3) := by decide +kernel
theorem dX6_init_305 : decode cX6_init 305 = .ok (.aload_n 0, 1) := by decide +kernel
theorem dX6_init_306 : decode cX6_init 306 = .ok (.bipush 40, 2) := by decide +kernel
theorem dX6_init_308 : decode cX6_init 308 = .ok (.putfield 38, 3) := by decide +kernel
theorem dX6_init_311 : decode cX6_init 311 = .ok (.aload_n 0, 1) := by decide +kernel
theorem dX6_init_312 : decode cX6_init 312 = .ok (.iconst 4, 1) := by decide +kernel
theorem dX6_init_313 : decode cX6_init 313 = .ok (.putfield 41, 3) := by decide +kernel
theorem dX6_init_316 : decode cX6_init 316 = .ok (.aload_n 0, 1) := by decide +kernel
theorem dX6_init_317 : decode cX6_init 317 = .ok (.bipush 6, 2) := by decide +kernel
theorem dX6_init_319 : decode cX6_init 319 = .ok (.newarray .int, 2) := by decide +kernel
theorem dX6_init_321 : decode cX6_init 321 = .ok (.putfield 44, 3) := by decide +kernel
theorem dX6_init_324 : decode cX6_init 324 = .ok (.aload_n 0, 1) := by decide +kernel
theorem dX6_init_325 : decode cX6_init 325 = .ok (.bipush 6, 2) := by decide +kernel
theorem dX6_init_327 : decode cX6_init 327 = .ok (.newarray .boolean, 2) := by decide +kernel
theorem dX6_init_329 : decode cX6_init 329 = .ok (.putfield 47, 3) := by decide +kernel
theorem dX6_init_332 : decode cX6_init 332 = .ok (.aload_n 0, 1) := by decide +kernel
theorem dX6_init_333 : decode cX6_init 333 = .ok (.iconst 3, 1) := by decide +kernel
theorem dX6_init_334 : decode cX6_init 334 = .ok (.newarray .int, 2) := by decide +kernel
theorem dX6_init_336 : decode cX6_init 336 = .ok (.putfield 51, 3) := by decide +kernel
theorem dX6_init_339 : decode cX6_init 339 = .ok (.return_, 1) := by decide +kernel
theorem dX6_thrown_0 : decode cX6_thrown 0 = .ok (.aload_n 0, 1) := by decide +kernel
theorem dX6_thrown_1 : decode cX6_thrown 1 = .ok (.getfield 54, 3) := by decide +kernel
theorem dX6_thrown_4 : decode cX6_thrown 4 = .ok (.ireturn, 1) := by decide +kernel
theorem dX6_in_0 : decode cX6_in 0 = .ok (.lload_n 0, 1) := by decide +kernel
theorem dX6_in_1 : decode cX6_in 1 = .ok (.lload_n 2, 1) := by decide +kernel
theorem dX6_in_2 : decode cX6_in 2 = .ok (.lcmp, 1) := by decide +kernel
theorem dX6_in_3 : decode cX6_in 3 = .ok (.ifCond .lt 14, 3) := by decide +kernel
theorem dX6_in_6 : decode cX6_in 6 = .ok (.lload_n 0, 1) := by decide +kernel
theorem dX6_in_7 : decode cX6_in 7 = .ok (.lload 4, 2) := by decide +kernel
theorem dX6_in_9 : decode cX6_in 9 = .ok (.lcmp, 1) := by decide +kernel
theorem dX6_in_10 : decode cX6_in 10 = .ok (.ifCond .gt 7, 3) := by decide +kernel
theorem dX6_in_13 : decode cX6_in 13 = .ok (.iconst 1, 1) := by decide +kernel
theorem dX6_in_14 : decode cX6_in 14 = .ok (.goto 4, 3) := by decide +kernel
theorem dX6_in_17 : decode cX6_in 17 = .ok (.iconst 0, 1) := by decide +kernel
theorem dX6_in_18 : decode cX6_in 18 = .ok (.ireturn, 1) := by decide +kernel
theorem dX6_isTrain_0 : decode cX6_isTrain 0 = .ok (.iload_n 1, 1) := by decide +kernel
theorem dX6_isTrain_1 : decode cX6_isTrain 1 = .ok (.i2l, 1) := by decide +kernel
theorem dX6_isTrain_2 : decode cX6_isTrain 2 = .ok (.lconst 0, 1) := by decide +kernel
theorem dX6_isTrain_3 : decode cX6_isTrain 3 = .ok (.aload_n 0, 1) := by decide +kernel
theorem dX6_isTrain_4 : decode cX6_isTrain 4 = .ok (.getfield 57, 3) := by decide +kernel
theorem dX6_isTrain_7 : decode cX6_isTrain 7 = .ok (.iconst 1, 1) := by decide +kernel
theorem dX6_isTrain_8 : decode cX6_isTrain 8 = .ok (.isub, 1) := by decide +kernel
theorem dX6_isTrain_9 : decode cX6_isTrain 9 = .ok (.i2l, 1) := by decide +kernel
theorem dX6_isTrain_10 : decode cX6_isTrain 10 = .ok (.invokestatic 60, 3) := by decide +kernel
theorem dX6_isTrain_13 : decode cX6_isTrain 13 = .ok (.ireturn, 1) := by decide +kernel
theorem dX6_isTank_0 : decode cX6_isTank 0 = .ok (.iload_n 1, 1) := by decide +kernel
theorem dX6_isTank_1 : decode cX6_isTank 1 = .ok (.i2l, 1) := by decide +kernel
theorem dX6_isTank_2 : decode cX6_isTank 2 = .ok (.lconst 0, 1) := by decide +kernel
theorem dX6_isTank_3 : decode cX6_isTank 3 = .ok (.aload_n 0, 1) := by decide +kernel
theorem dX6_isTank_4 : decode cX6_isTank 4 = .ok (.getfield 64, 3) := by decide +kernel
theorem dX6_isTank_7 : decode cX6_isTank 7 = .ok (.iconst 1, 1) := by decide +kernel
theorem dX6_isTank_8 : decode cX6_isTank 8 = .ok (.isub, 1) := by decide +kernel
theorem dX6_isTank_9 : decode cX6_isTank 9 = .ok (.i2l, 1) := by decide +kernel
theorem dX6_isTank_10 : decode cX6_isTank 10 = .ok (.invokestatic 60, 3) := by decide +kernel
theorem dX6_isTank_13 : decode cX6_isTank 13 = .ok (.ireturn, 1) := by decide +kernel
theorem dX6_of_0 : decode cX6_of 0 = .ok (.aload_n 0, 1) := by decide +kernel
theorem dX6_of_1 : decode cX6_of 1 = .ok (.getfield 9, 3) := by decide +kernel
theorem dX6_of_4 : decode cX6_of 4 = .ok (.iconst 3, 1) := by decide +kernel
theorem dX6_of_5 : decode cX6_of 5 = .ok (.iload_n 1, 1) := by decide +kernel
theorem dX6_of_6 : decode cX6_of 6 = .ok (.imul, 1) := by decide +kernel
theorem dX6_of_7 : decode cX6_of 7 = .ok (.iload_n 2, 1) := by decide +kernel
theorem dX6_of_8 : decode cX6_of 8 = .ok (.iadd, 1) := by decide +kernel
theorem dX6_of_9 : decode cX6_of 9 = .ok (.iaload, 1) := by decide +kernel
theorem dX6_of_10 : decode cX6_of 10 = .ok (.ireturn, 1) := by decide +kernel
theorem dX6_addTrain_0 : decode cX6_addTrain 0 = .ok (.aload_n 0, 1) := by decide +kernel
theorem dX6_addTrain_1 : decode cX6_addTrain 1 = .ok (.iload_n 1, 1) := by decide +kernel
theorem dX6_addTrain_2 : decode cX6_addTrain 2 = .ok (.i2l, 1) := by decide +kernel
theorem dX6_addTrain_3 : decode cX6_addTrain 3 = .ok (.lconst 1, 1) := by decide +kernel
theorem dX6_addTrain_4 : decode cX6_addTrain 4 = .ok (.ldc2_w 67, 3) := by decide +kernel
theorem dX6_addTrain_7 : decode cX6_addTrain 7 = .ok (.invokestatic 60, 3) := by decide +kernel
theorem dX6_addTrain_10 : decode cX6_addTrain 10 = .ok (.ifCond .ne 7, 3) := by decide +kernel
theorem dX6_addTrain_13 : decode cX6_addTrain 13 = .ok (.iconst 1, 1) := by decide +kernel
theorem dX6_addTrain_14 : decode cX6_addTrain 14 = .ok (.goto 16, 3) := by decide +kernel
theorem dX6_addTrain_17 : decode cX6_addTrain 17 = .ok (.aload_n 0, 1) := by decide +kernel
theorem dX6_addTrain_18 : decode cX6_addTrain 18 = .ok (.getfield 57, 3) := by decide +kernel
theorem dX6_addTrain_21 : decode cX6_addTrain 21 = .ok (.iconst 4, 1) := by decide +kernel
theorem dX6_addTrain_22 : decode cX6_addTrain 22 = .ok (.if_icmp .ne 7, 3) := by decide +kernel
theorem dX6_addTrain_25 : decode cX6_addTrain 25 = .ok (.iconst 2, 1) := by decide +kernel
theorem dX6_addTrain_26 : decode cX6_addTrain 26 = .ok (.goto 4, 3) := by decide +kernel
theorem dX6_addTrain_29 : decode cX6_addTrain 29 = .ok (.iconst 0, 1) := by decide +kernel
theorem dX6_addTrain_30 : decode cX6_addTrain 30 = .ok (.putfield 54, 3) := by decide +kernel
theorem dX6_addTrain_33 : decode cX6_addTrain 33 = .ok (.aload_n 0, 1) := by decide +kernel
theorem dX6_addTrain_34 : decode cX6_addTrain 34 = .ok (.getfield 54, 3) := by decide +kernel
theorem dX6_addTrain_37 : decode cX6_addTrain 37 = .ok (.ifCond .le 5, 3) := by decide +kernel
theorem dX6_addTrain_40 : decode cX6_addTrain 40 = .ok (.iconst (-1), 1) := by decide +kernel
theorem dX6_addTrain_41 : decode cX6_addTrain 41 = .ok (.ireturn, 1) := by decide +kernel
theorem dX6_addTrain_42 : decode cX6_addTrain 42 = .ok (.aload_n 0, 1) := by decide +kernel
theorem dX6_addTrain_43 : decode cX6_addTrain 43 = .ok (.getfield 16, 3) := by decide +kernel
theorem dX6_addTrain_46 : decode cX6_addTrain 46 = .ok (.aload_n 0, 1) := by decide +kernel
theorem dX6_addTrain_47 : decode cX6_addTrain 47 = .ok (.getfield 57, 3) := by decide +kernel
theorem dX6_addTrain_50 : decode cX6_addTrain 50 = .ok (.iload_n 1, 1) := by decide +kernel
theorem dX6_addTrain_51 : decode cX6_addTrain 51 = .ok (.iastore, 1) := by decide +kernel
theorem dX6_addTrain_52 : decode cX6_addTrain 52 = .ok (.aload_n 0, 1) := by decide +kernel
theorem dX6_addTrain_53 : decode cX6_addTrain 53 = .ok (.getfield 19, 3) := by decide +kernel
theorem dX6_addTrain_56 : decode cX6_addTrain 56 = .ok (.aload_n 0, 1) := by decide +kernel
theorem dX6_addTrain_57 : decode cX6_addTrain 57 = .ok (.getfield 57, 3) := by decide +kernel
theorem dX6_addTrain_60 : decode cX6_addTrain 60 = .ok (.bipush 50, 2) := by decide +kernel
theorem dX6_addTrain_62 : decode cX6_addTrain 62 = .ok (.iastore, 1) := by decide +kernel
theorem dX6_addTrain_63 : decode cX6_addTrain 63 = .ok (.aload_n 0, 1) := by decide +kernel
theorem dX6_addTrain_64 : decode cX6_addTrain 64 = .ok (.dup, 1) := by decide +kernel
theorem dX6_addTrain_65 : decode cX6_addTrain 65 = .ok (.getfield 57, 3) := by decide +kernel
theorem dX6_addTrain_68 : decode cX6_addTrain 68 = .ok (.iconst 1, 1) := by decide +kernel
theorem dX6_addTrain_69 : decode cX6_addTrain 69 = .ok (.iadd, 1) := by decide +kernel
theorem dX6_addTrain_70 : decode cX6_addTrain 70 = .ok (.putfield 57, 3) := by decide +kernel
theorem dX6_addTrain_73 : decode cX6_addTrain 73 = .ok (.aload_n 0, 1) := by decide +kernel
theorem dX6_addTrain_74 : decode cX6_addTrain 74 = .ok (.getfield 57, 3) := by decide +kernel
theorem dX6_addTrain_77 : decode cX6_addTrain 77 = .ok (.iconst 1, 1) := by decide +kernel
theorem dX6_addTrain_78 : decode cX6_addTrain 78 = .ok (.isub, 1) := by decide +kernel
theorem dX6_addTrain_79 : decode cX6_addTrain 79 = .ok (.ireturn, 1) := by decide +kernel
theorem dX6_setPressure_0 : decode cX6_setPressure 0 = .ok (.aload_n 0, 1) := by decide +kernel
theorem dX6_setPressure_1 : decode cX6_setPressure 1 = .ok (.aload_n 0, 1) := by decide +kernel
theorem dX6_setPressure_2 : decode cX6_setPressure 2 = .ok (.iload_n 1, 1) := by decide +kernel
theorem dX6_setPressure_3 : decode cX6_setPressure 3 = .ok (.invokevirtual 69, 3) := by decide +kernel
theorem dX6_setPressure_6 : decode cX6_setPressure 6 = .ok (.ifCond .ne 7, 3) := by decide +kernel
theorem dX6_setPressure_9 : decode cX6_setPressure 9 = .ok (.iconst 1, 1) := by decide +kernel
theorem dX6_setPressure_10 : decode cX6_setPressure 10 = .ok (.goto 22, 3) := by decide +kernel
theorem dX6_setPressure_13 : decode cX6_setPressure 13 = .ok (.iload_n 2, 1) := by decide +kernel
theorem dX6_setPressure_14 : decode cX6_setPressure 14 = .ok (.i2l, 1) := by decide +kernel
theorem dX6_setPressure_15 : decode cX6_setPressure 15 = .ok (.ldc2_w 73, 3) := by decide +kernel
theorem dX6_setPressure_18 : decode cX6_setPressure 18 = .ok (.ldc2_w 75, 3) := by decide +kernel
theorem dX6_setPressure_21 : decode cX6_setPressure 21 = .ok (.invokestatic 60, 3) := by decide +kernel
theorem dX6_setPressure_24 : decode cX6_setPressure 24 = .ok (.ifCond .ne 7, 3) := by decide +kernel
theorem dX6_setPressure_27 : decode cX6_setPressure 27 = .ok (.iconst 2, 1) := by decide +kernel
theorem dX6_setPressure_28 : decode cX6_setPressure 28 = .ok (.goto 4, 3) := by decide +kernel
theorem dX6_setPressure_31 : decode cX6_setPressure 31 = .ok (.iconst 0, 1) := by decide +kernel
theorem dX6_setPressure_32 : decode cX6_setPressure 32 = .ok (.putfield 54, 3) := by decide +kernel
theorem dX6_setPressure_35 : decode cX6_setPressure 35 = .ok (.aload_n 0, 1) := by decide +kernel
theorem dX6_setPressure_36 : decode cX6_setPressure 36 = .ok (.getfield 54, 3) := by decide +kernel
theorem dX6_setPressure_39 : decode cX6_setPressure 39 = .ok (.ifCond .le 5, 3) := by decide +kernel
theorem dX6_setPressure_42 : decode cX6_setPressure 42 = .ok (.iconst (-1), 1) := by decide +kernel
theorem dX6_setPressure_43 : decode cX6_setPressure 43 = .ok (.ireturn, 1) := by decide +kernel
theorem dX6_setPressure_44 : decode cX6_setPressure 44 = .ok (.aload_n 0, 1) := by decide +kernel
theorem dX6_setPressure_45 : decode cX6_setPressure 45 = .ok (.getfield 19, 3) := by decide +kernel
theorem dX6_setPressure_48 : decode cX6_setPressure 48 = .ok (.iload_n 1, 1) := by decide +kernel
theorem dX6_setPressure_49 : decode cX6_setPressure 49 = .ok (.iaload, 1) := by decide +kernel
theorem dX6_setPressure_50 : decode cX6_setPressure 50 = .ok (.istore_n 3, 1) := by decide +kernel
theorem dX6_setPressure_51 : decode cX6_setPressure 51 = .ok (.aload_n 0, 1) := by decide +kernel
theorem dX6_setPressure_52 : decode cX6_setPressure 52 = .ok (.getfield 19, 3) := by decide +kernel
theorem dX6_setPressure_55 : decode cX6_setPressure 55 = .ok (.iload_n 1, 1) := by decide +kernel
theorem dX6_setPressure_56 : decode cX6_setPressure 56 = .ok (.iload_n 2, 1) := by decide +kernel
theorem dX6_setPressure_57 : decode cX6_setPressure 57 = .ok (.iastore, 1) := by decide +kernel
theorem dX6_setPressure_58 : decode cX6_setPressure 58 = .ok (.iload_n 3, 1) := by decide +kernel
theorem dX6_setPressure_59 : decode cX6_setPressure 59 = .ok (.ireturn, 1) := by decide +kernel
theorem dX6_setSalinity_0 : decode cX6_setSalinity 0 = .ok (.aload_n 0, 1) := by decide +kernel
