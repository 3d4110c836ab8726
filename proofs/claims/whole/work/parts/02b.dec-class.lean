theorem dX0_init_0 : decode cX0_init 0 = .ok (.aload_n 0, 1) := by decide +kernel
theorem dX0_init_1 : decode cX0_init 1 = .ok (.iconst 1, 1) := by decide +kernel
theorem dX0_init_2 : decode cX0_init 2 = .ok (.iconst 1, 1) := by decide +kernel
theorem dX0_init_3 : decode cX0_init 3 = .ok (.iload 4, 2) := by decide +kernel
theorem dX0_init_5 : decode cX0_init 5 = .ok (.ishl, 1) := by decide +kernel
theorem dX0_init_6 : decode cX0_init 6 = .ok (.iconst 1, 1) := by decide +kernel
theorem dX0_init_7 : decode cX0_init 7 = .ok (.iload 4, 2) := by decide +kernel
theorem dX0_init_9 : decode cX0_init 9 = .ok (.ishl, 1) := by decide +kernel
theorem dX0_init_10 : decode cX0_init 10 = .ok (.iconst 1, 1) := by decide +kernel
theorem dX0_init_11 : decode cX0_init 11 = .ok (.invokespecial 1, 3) := by decide +kernel
theorem dX0_init_14 : decode cX0_init 14 = .ok (.aload_n 0, 1) := by decide +kernel
theorem dX0_init_15 : decode cX0_init 15 = .ok (.aload_n 1, 1) := by decide +kernel
theorem dX0_init_16 : decode cX0_init 16 = .ok (.putfield 7, 3) := by decide +kernel
theorem dX0_init_19 : decode cX0_init 19 = .ok (.aload_n 0, 1) := by decide +kernel
theorem dX0_init_20 : decode cX0_init 20 = .ok (.aload_n 2, 1) := by decide +kernel
theorem dX0_init_21 : decode cX0_init 21 = .ok (.putfield 13, 3) := by decide +kernel
theorem dX0_init_24 : decode cX0_init 24 = .ok (.aload_n 0, 1) := by decide +kernel
theorem dX0_init_25 : decode cX0_init 25 = .ok (.iload_n 3, 1) := by decide +kernel
theorem dX0_init_26 : decode cX0_init 26 = .ok (.putfield 16, 3) := by decide +kernel
theorem dX0_init_29 : decode cX0_init 29 = .ok (.aload_n 0, 1) := by decide +kernel
theorem dX0_init_30 : decode cX0_init 30 = .ok (.iload 4, 2) := by decide +kernel
theorem dX0_init_32 : decode cX0_init 32 = .ok (.invokestatic 20, 3) := by decide +kernel
theorem dX0_init_35 : decode cX0_init 35 = .ok (.putfield 26, 3) := by decide +kernel
theorem dX0_init_38 : decode cX0_init 38 = .ok (.return_, 1) := by decide +kernel
theorem dX0_asks_0 : decode cX0_asks 0 = .ok (.aload_n 0, 1) := by decide +kernel
theorem dX0_asks_1 : decode cX0_asks 1 = .ok (.getfield 16, 3) := by decide +kernel
theorem dX0_asks_4 : decode cX0_asks 4 = .ok (.ireturn, 1) := by decide +kernel
theorem dX0_slotOf_0 : decode cX0_slotOf 0 = .ok (.iload_n 1, 1) := by decide +kernel
theorem dX0_slotOf_1 : decode cX0_slotOf 1 = .ok (.aload_n 0, 1) := by decide +kernel
theorem dX0_slotOf_2 : decode cX0_slotOf 2 = .ok (.getfield 26, 3) := by decide +kernel
theorem dX0_slotOf_5 : decode cX0_slotOf 5 = .ok (.iand, 1) := by decide +kernel
theorem dX0_slotOf_6 : decode cX0_slotOf 6 = .ok (.ireturn, 1) := by decide +kernel
theorem dX0_ownWay_0 : decode cX0_ownWay 0 = .ok (.aload_n 0, 1) := by decide +kernel
theorem dX0_ownWay_1 : decode cX0_ownWay 1 = .ok (.getfield 29, 3) := by decide +kernel
theorem dX0_ownWay_4 : decode cX0_ownWay 4 = .ok (.aload_n 0, 1) := by decide +kernel
theorem dX0_ownWay_5 : decode cX0_ownWay 5 = .ok (.iload_n 1, 1) := by decide +kernel
theorem dX0_ownWay_6 : decode cX0_ownWay 6 = .ok (.invokevirtual 33, 3) := by decide +kernel
theorem dX0_ownWay_9 : decode cX0_ownWay 9 = .ok (.invokevirtual 36, 3) := by decide +kernel
theorem dX0_ownWay_12 : decode cX0_ownWay 12 = .ok (.iconst 1, 1) := by decide +kernel
theorem dX0_ownWay_13 : decode cX0_ownWay 13 = .ok (.if_icmp .ne 13, 3) := by decide +kernel
theorem dX0_ownWay_16 : decode cX0_ownWay 16 = .ok (.aload_n 0, 1) := by decide +kernel
theorem dX0_ownWay_17 : decode cX0_ownWay 17 = .ok (.getfield 13, 3) := by decide +kernel
theorem dX0_ownWay_20 : decode cX0_ownWay 20 = .ok (.getfield 41, 3) := by decide +kernel
theorem dX0_ownWay_23 : decode cX0_ownWay 23 = .ok (.goto 10, 3) := by decide +kernel
theorem dX0_ownWay_26 : decode cX0_ownWay 26 = .ok (.aload_n 0, 1) := by decide +kernel
theorem dX0_ownWay_27 : decode cX0_ownWay 27 = .ok (.getfield 7, 3) := by decide +kernel
theorem dX0_ownWay_30 : decode cX0_ownWay 30 = .ok (.getfield 41, 3) := by decide +kernel
theorem dX0_ownWay_33 : decode cX0_ownWay 33 = .ok (.ireturn, 1) := by decide +kernel
theorem dX0_learn_0 : decode cX0_learn 0 = .ok (.aload_n 0, 1) := by decide +kernel
theorem dX0_learn_1 : decode cX0_learn 1 = .ok (.getfield 7, 3) := by decide +kernel
theorem dX0_learn_4 : decode cX0_learn 4 = .ok (.getfield 41, 3) := by decide +kernel
theorem dX0_learn_7 : decode cX0_learn 7 = .ok (.aload_n 0, 1) := by decide +kernel
theorem dX0_learn_8 : decode cX0_learn 8 = .ok (.getfield 13, 3) := by decide +kernel
theorem dX0_learn_11 : decode cX0_learn 11 = .ok (.getfield 41, 3) := by decide +kernel
theorem dX0_learn_14 : decode cX0_learn 14 = .ok (.if_icmp .eq 31, 3) := by decide +kernel
theorem dX0_learn_17 : decode cX0_learn 17 = .ok (.aload_n 0, 1) := by decide +kernel
theorem dX0_learn_18 : decode cX0_learn 18 = .ok (.getfield 29, 3) := by decide +kernel
theorem dX0_learn_21 : decode cX0_learn 21 = .ok (.aload_n 0, 1) := by decide +kernel
theorem dX0_learn_22 : decode cX0_learn 22 = .ok (.iload_n 1, 1) := by decide +kernel
theorem dX0_learn_23 : decode cX0_learn 23 = .ok (.invokevirtual 33, 3) := by decide +kernel
theorem dX0_learn_26 : decode cX0_learn 26 = .ok (.aload_n 0, 1) := by decide +kernel
theorem dX0_learn_27 : decode cX0_learn 27 = .ok (.getfield 13, 3) := by decide +kernel
theorem dX0_learn_30 : decode cX0_learn 30 = .ok (.getfield 41, 3) := by decide +kernel
theorem dX0_learn_33 : decode cX0_learn 33 = .ok (.iload_n 2, 1) := by decide +kernel
theorem dX0_learn_34 : decode cX0_learn 34 = .ok (.if_icmp .ne 7, 3) := by decide +kernel
theorem dX0_learn_37 : decode cX0_learn 37 = .ok (.iconst 1, 1) := by decide +kernel
theorem dX0_learn_38 : decode cX0_learn 38 = .ok (.goto 4, 3) := by decide +kernel
theorem dX0_learn_41 : decode cX0_learn 41 = .ok (.iconst 0, 1) := by decide +kernel
theorem dX0_learn_42 : decode cX0_learn 42 = .ok (.invokevirtual 44, 3) := by decide +kernel
theorem dX0_learn_45 : decode cX0_learn 45 = .ok (.return_, 1) := by decide +kernel
theorem dX1_init_0 : decode cX1_init 0 = .ok (.aload_n 0, 1) := by decide +kernel
theorem dX1_init_1 : decode cX1_init 1 = .ok (.iconst 1, 1) := by decide +kernel
theorem dX1_init_2 : decode cX1_init 2 = .ok (.iconst 1, 1) := by decide +kernel
theorem dX1_init_3 : decode cX1_init 3 = .ok (.iload_n 1, 1) := by decide +kernel
theorem dX1_init_4 : decode cX1_init 4 = .ok (.ishl, 1) := by decide +kernel
theorem dX1_init_5 : decode cX1_init 5 = .ok (.iconst 1, 1) := by decide +kernel
theorem dX1_init_6 : decode cX1_init 6 = .ok (.iload_n 1, 1) := by decide +kernel
theorem dX1_init_7 : decode cX1_init 7 = .ok (.ishl, 1) := by decide +kernel
theorem dX1_init_8 : decode cX1_init 8 = .ok (.iconst 1, 1) := by decide +kernel
theorem dX1_init_9 : decode cX1_init 9 = .ok (.invokespecial 1, 3) := by decide +kernel
theorem dX1_init_12 : decode cX1_init 12 = .ok (.aload_n 0, 1) := by decide +kernel
theorem dX1_init_13 : decode cX1_init 13 = .ok (.iload_n 1, 1) := by decide +kernel
theorem dX1_init_14 : decode cX1_init 14 = .ok (.invokestatic 7, 3) := by decide +kernel
theorem dX1_init_17 : decode cX1_init 17 = .ok (.putfield 13, 3) := by decide +kernel
theorem dX1_init_20 : decode cX1_init 20 = .ok (.aload_n 0, 1) := by decide +kernel
theorem dX1_init_21 : decode cX1_init 21 = .ok (.iload_n 2, 1) := by decide +kernel
theorem dX1_init_22 : decode cX1_init 22 = .ok (.invokestatic 7, 3) := by decide +kernel
theorem dX1_init_25 : decode cX1_init 25 = .ok (.putfield 19, 3) := by decide +kernel
theorem dX1_init_28 : decode cX1_init 28 = .ok (.aload_n 0, 1) := by decide +kernel
theorem dX1_init_29 : decode cX1_init 29 = .ok (.iload_n 3, 1) := by decide +kernel
theorem dX1_init_30 : decode cX1_init 30 = .ok (.putfield 22, 3) := by decide +kernel
theorem dX1_init_33 : decode cX1_init 33 = .ok (.aload_n 0, 1) := by decide +kernel
theorem dX1_init_34 : decode cX1_init 34 = .ok (.iload 4, 2) := by decide +kernel
theorem dX1_init_36 : decode cX1_init 36 = .ok (.putfield 26, 3) := by decide +kernel
theorem dX1_init_39 : decode cX1_init 39 = .ok (.return_, 1) := by decide +kernel
theorem dX1_slotOf_0 : decode cX1_slotOf 0 = .ok (.aload_n 0, 1) := by decide +kernel
theorem dX1_slotOf_1 : decode cX1_slotOf 1 = .ok (.getfield 22, 3) := by decide +kernel
theorem dX1_slotOf_4 : decode cX1_slotOf 4 = .ok (.ifCond .eq 15, 3) := by decide +kernel
theorem dX1_slotOf_7 : decode cX1_slotOf 7 = .ok (.aload_n 0, 1) := by decide +kernel
theorem dX1_slotOf_8 : decode cX1_slotOf 8 = .ok (.getfield 29, 3) := by decide +kernel
theorem dX1_slotOf_11 : decode cX1_slotOf 11 = .ok (.getfield 33, 3) := by decide +kernel
theorem dX1_slotOf_14 : decode cX1_slotOf 14 = .ok (.iload_n 1, 1) := by decide +kernel
theorem dX1_slotOf_15 : decode cX1_slotOf 15 = .ok (.iaload, 1) := by decide +kernel
theorem dX1_slotOf_16 : decode cX1_slotOf 16 = .ok (.goto 10, 3) := by decide +kernel
theorem dX1_slotOf_19 : decode cX1_slotOf 19 = .ok (.aload_n 0, 1) := by decide +kernel
theorem dX1_slotOf_20 : decode cX1_slotOf 20 = .ok (.getfield 29, 3) := by decide +kernel
theorem dX1_slotOf_23 : decode cX1_slotOf 23 = .ok (.getfield 39, 3) := by decide +kernel
theorem dX1_slotOf_26 : decode cX1_slotOf 26 = .ok (.istore_n 2, 1) := by decide +kernel
theorem dX1_slotOf_27 : decode cX1_slotOf 27 = .ok (.iload_n 2, 1) := by decide +kernel
theorem dX1_slotOf_28 : decode cX1_slotOf 28 = .ok (.aload_n 0, 1) := by decide +kernel
theorem dX1_slotOf_29 : decode cX1_slotOf 29 = .ok (.getfield 19, 3) := by decide +kernel
theorem dX1_slotOf_32 : decode cX1_slotOf 32 = .ok (.iand, 1) := by decide +kernel
theorem dX1_slotOf_33 : decode cX1_slotOf 33 = .ok (.aload_n 0, 1) := by decide +kernel
theorem dX1_slotOf_34 : decode cX1_slotOf 34 = .ok (.getfield 26, 3) := by decide +kernel
theorem dX1_slotOf_37 : decode cX1_slotOf 37 = .ok (.iload_n 1, 1) := by decide +kernel
theorem dX1_slotOf_38 : decode cX1_slotOf 38 = .ok (.imul, 1) := by decide +kernel
theorem dX1_slotOf_39 : decode cX1_slotOf 39 = .ok (.ixor, 1) := by decide +kernel
theorem dX1_slotOf_40 : decode cX1_slotOf 40 = .ok (.aload_n 0, 1) := by decide +kernel
theorem dX1_slotOf_41 : decode cX1_slotOf 41 = .ok (.getfield 13, 3) := by decide +kernel
theorem dX1_slotOf_44 : decode cX1_slotOf 44 = .ok (.iand, 1) := by decide +kernel
theorem dX1_slotOf_45 : decode cX1_slotOf 45 = .ok (.ireturn, 1) := by decide +kernel
theorem dX1_ownWay_0 : decode cX1_ownWay 0 = .ok (.aload_n 0, 1) := by decide +kernel
theorem dX1_ownWay_1 : decode cX1_ownWay 1 = .ok (.getfield 29, 3) := by decide +kernel
theorem dX1_ownWay_4 : decode cX1_ownWay 4 = .ok (.aload_n 0, 1) := by decide +kernel
theorem dX1_ownWay_5 : decode cX1_ownWay 5 = .ok (.iload_n 1, 1) := by decide +kernel
theorem dX1_ownWay_6 : decode cX1_ownWay 6 = .ok (.invokevirtual 42, 3) := by decide +kernel
theorem dX1_ownWay_9 : decode cX1_ownWay 9 = .ok (.invokevirtual 45, 3) := by decide +kernel
theorem dX1_ownWay_12 : decode cX1_ownWay 12 = .ok (.ireturn, 1) := by decide +kernel
theorem dX1_learn_0 : decode cX1_learn 0 = .ok (.aload_n 0, 1) := by decide +kernel
theorem dX1_learn_1 : decode cX1_learn 1 = .ok (.getfield 29, 3) := by decide +kernel
theorem dX1_learn_4 : decode cX1_learn 4 = .ok (.aload_n 0, 1) := by decide +kernel
theorem dX1_learn_5 : decode cX1_learn 5 = .ok (.iload_n 1, 1) := by decide +kernel
theorem dX1_learn_6 : decode cX1_learn 6 = .ok (.invokevirtual 42, 3) := by decide +kernel
theorem dX1_learn_9 : decode cX1_learn 9 = .ok (.iload_n 2, 1) := by decide +kernel
theorem dX1_learn_10 : decode cX1_learn 10 = .ok (.invokevirtual 48, 3) := by decide +kernel
theorem dX1_learn_13 : decode cX1_learn 13 = .ok (.return_, 1) := by decide +kernel
theorem dX2_init_0 : decode cX2_init 0 = .ok (.aload_n 0, 1) := by decide +kernel
theorem dX2_init_1 : decode cX2_init 1 = .ok (.iconst 0, 1) := by decide +kernel
theorem dX2_init_2 : decode cX2_init 2 = .ok (.iconst 0, 1) := by decide +kernel
theorem dX2_init_3 : decode cX2_init 3 = .ok (.iconst 0, 1) := by decide +kernel
theorem dX2_init_4 : decode cX2_init 4 = .ok (.iconst 0, 1) := by decide +kernel
theorem dX2_init_5 : decode cX2_init 5 = .ok (.invokespecial 3, 3) := by decide +kernel
theorem dX2_init_8 : decode cX2_init 8 = .ok (.aload_n 0, 1) := by decide +kernel
theorem dX2_init_9 : decode cX2_init 9 = .ok (.aload_n 1, 1) := by decide +kernel
theorem dX2_init_10 : decode cX2_init 10 = .ok (.putfield 9, 3) := by decide +kernel
theorem dX2_init_13 : decode cX2_init 13 = .ok (.aload_n 0, 1) := by decide +kernel
theorem dX2_init_14 : decode cX2_init 14 = .ok (.iload_n 2, 1) := by decide +kernel
theorem dX2_init_15 : decode cX2_init 15 = .ok (.putfield 15, 3) := by decide +kernel
theorem dX2_init_18 : decode cX2_init 18 = .ok (.return_, 1) := by decide +kernel
theorem dX2_ownWay_0 : decode cX2_ownWay 0 = .ok (.aload_n 0, 1) := by decide +kernel
theorem dX2_ownWay_1 : decode cX2_ownWay 1 = .ok (.getfield 15, 3) := by decide +kernel
theorem dX2_ownWay_4 : decode cX2_ownWay 4 = .ok (.iconst 2, 1) := by decide +kernel
theorem dX2_ownWay_5 : decode cX2_ownWay 5 = .ok (.if_icmp .eq 8, 3) := by decide +kernel
theorem dX2_ownWay_8 : decode cX2_ownWay 8 = .ok (.aload_n 0, 1) := by decide +kernel
theorem dX2_ownWay_9 : decode cX2_ownWay 9 = .ok (.getfield 15, 3) := by decide +kernel
theorem dX2_ownWay_12 : decode cX2_ownWay 12 = .ok (.ireturn, 1) := by decide +kernel
theorem dX2_ownWay_13 : decode cX2_ownWay 13 = .ok (.aload_n 0, 1) := by decide +kernel
theorem dX2_ownWay_14 : decode cX2_ownWay 14 = .ok (.getfield 9, 3) := by decide +kernel
theorem dX2_ownWay_17 : decode cX2_ownWay 17 = .ok (.getfield 19, 3) := by decide +kernel
theorem dX2_ownWay_20 : decode cX2_ownWay 20 = .ok (.iload_n 1, 1) := by decide +kernel
theorem dX2_ownWay_21 : decode cX2_ownWay 21 = .ok (.iaload, 1) := by decide +kernel
theorem dX2_ownWay_22 : decode cX2_ownWay 22 = .ok (.iload_n 1, 1) := by decide +kernel
theorem dX2_ownWay_23 : decode cX2_ownWay 23 = .ok (.if_icmp .gt 7, 3) := by decide +kernel
theorem dX2_ownWay_26 : decode cX2_ownWay 26 = .ok (.iconst 1, 1) := by decide +kernel
theorem dX2_ownWay_27 : decode cX2_ownWay 27 = .ok (.goto 4, 3) := by decide +kernel
theorem dX2_ownWay_30 : decode cX2_ownWay 30 = .ok (.iconst 0, 1) := by decide +kernel
theorem dX2_ownWay_31 : decode cX2_ownWay 31 = .ok (.ireturn, 1) := by decide +kernel
theorem dX2_learn_0 : decode cX2_learn 0 = .ok (.return_, 1) := by decide +kernel
theorem dX2_slotOf_0 : decode cX2_slotOf 0 = .ok (.iconst (-1), 1) := by decide +kernel
theorem dX2_slotOf_1 : decode cX2_slotOf 1 = .ok (.ireturn, 1) := by decide +kernel
theorem dX2_look_0 : decode cX2_look 0 = .ok (.sipush (-1001), 3) := by decide +kernel
theorem dX2_look_3 : decode cX2_look 3 = .ok (.ireturn, 1) := by decide +kernel
theorem dX3_init_0 : decode cX3_init 0 = .ok (.aload_n 0, 1) := by decide +kernel
theorem dX3_init_1 : decode cX3_init 1 = .ok (.invokespecial 3, 3) := by decide +kernel
theorem dX3_init_4 : decode cX3_init 4 = .ok (.aload_n 0, 1) := by decide +kernel
theorem dX3_init_5 : decode cX3_init 5 = .ok (.bipush 64, 2) := by decide +kernel
theorem dX3_init_7 : decode cX3_init 7 = .ok (.newarray .int, 2) := by decide +kernel
theorem dX3_init_9 : decode cX3_init 9 = .ok (.putfield 9, 3) := by decide +kernel
theorem dX3_init_12 : decode cX3_init 12 = .ok (.aload_n 0, 1) := by decide +kernel
theorem dX3_init_13 : decode cX3_init 13 = .ok (.iconst 2, 1) := by decide +kernel
theorem dX3_init_14 : decode cX3_init 14 = .ok (.anewarray 15, 3) := by decide +kernel
theorem dX3_init_17 : decode cX3_init 17 = .ok (.putfield 17, 3) := by decide +kernel
theorem dX3_init_20 : decode cX3_init 20 = .ok (.aload_n 0, 1) := by decide +kernel
theorem dX3_init_21 : decode cX3_init 21 = .ok (.iload_n 1, 1) := by decide +kernel
theorem dX3_init_22 : decode cX3_init 22 = .ok (.putfield 21, 3) := by decide +kernel
theorem dX3_init_25 : decode cX3_init 25 = .ok (.aload_n 0, 1) := by decide +kernel
theorem dX3_init_26 : decode cX3_init 26 = .ok (.iload_n 2, 1) := by decide +kernel
theorem dX3_init_27 : decode cX3_init 27 = .ok (.putfield 25, 3) := by decide +kernel
theorem dX3_init_30 : decode cX3_init 30 = .ok (.aload_n 0, 1) := by decide +kernel
theorem dX3_init_31 : decode cX3_init 31 = .ok (.getfield 9, 3) := by decide +kernel
theorem dX3_init_34 : decode cX3_init 34 = .ok (.iconst (-1), 1) := by decide +kernel
theorem dX3_init_35 : decode cX3_init 35 = .ok (.invokestatic 28, 3) := by decide +kernel
theorem dX3_init_38 : decode cX3_init 38 = .ok (.aload_n 0, 1) := by decide +kernel
theorem dX3_init_39 : decode cX3_init 39 = .ok (.new 15, 3) := by decide +kernel
theorem dX3_init_42 : decode cX3_init 42 = .ok (.dup, 1) := by decide +kernel
theorem dX3_init_43 : decode cX3_init 43 = .ok (.iload_n 1, 1) := by decide +kernel
theorem dX3_init_44 : decode cX3_init 44 = .ok (.iload_n 2, 1) := by decide +kernel
theorem dX3_init_45 : decode cX3_init 45 = .ok (.imul, 1) := by decide +kernel
theorem dX3_init_46 : decode cX3_init 46 = .ok (.iload_n 3, 1) := by decide +kernel
theorem dX3_init_47 : decode cX3_init 47 = .ok (.invokespecial 34, 3) := by decide +kernel
theorem dX3_init_50 : decode cX3_init 50 = .ok (.putfield 37, 3) := by decide +kernel
theorem dX3_init_53 : decode cX3_init 53 = .ok (.aload_n 0, 1) := by decide +kernel
theorem dX3_init_54 : decode cX3_init 54 = .ok (.getfield 37, 3) := by decide +kernel
theorem dX3_init_57 : decode cX3_init 57 = .ok (.getfield 41, 3) := by decide +kernel
theorem dX3_init_60 : decode cX3_init 60 = .ok (.iload 4, 2) := by decide +kernel
theorem dX3_init_62 : decode cX3_init 62 = .ok (.invokestatic 28, 3) := by decide +kernel
theorem dX3_init_65 : decode cX3_init 65 = .ok (.aload_n 0, 1) := by decide +kernel
theorem dX3_init_66 : decode cX3_init 66 = .ok (.aload_n 0, 1) := by decide +kernel
theorem dX3_init_67 : decode cX3_init 67 = .ok (.getfield 37, 3) := by decide +kernel
theorem dX3_init_70 : decode cX3_init 70 = .ok (.invokevirtual 44, 3) := by decide +kernel
theorem dX3_init_73 : decode cX3_init 73 = .ok (.putfield 48, 3) := by decide +kernel
theorem dX3_init_76 : decode cX3_init 76 = .ok (.aload_n 0, 1) := by decide +kernel
theorem dX3_init_77 : decode cX3_init 77 = .ok (.getfield 48, 3) := by decide +kernel
theorem dX3_init_80 : decode cX3_init 80 = .ok (.aload_n 0, 1) := by decide +kernel
theorem dX3_init_81 : decode cX3_init 81 = .ok (.getfield 37, 3) := by decide +kernel
theorem dX3_init_84 : decode cX3_init 84 = .ok (.invokevirtual 51, 3) := by decide +kernel
theorem dX3_init_87 : decode cX3_init 87 = .ok (.return_, 1) := by decide +kernel
theorem dX3_asks_0 : decode cX3_asks 0 = .ok (.iconst 0, 1) := by decide +kernel
theorem dX3_asks_1 : decode cX3_asks 1 = .ok (.ireturn, 1) := by decide +kernel
theorem dX3_canClash_0 : decode cX3_canClash 0 = .ok (.aload_n 0, 1) := by decide +kernel
theorem dX3_canClash_1 : decode cX3_canClash 1 = .ok (.getfield 48, 3) := by decide +kernel
theorem dX3_canClash_4 : decode cX3_canClash 4 = .ok (.getfield 55, 3) := by decide +kernel
theorem dX3_canClash_7 : decode cX3_canClash 7 = .ok (.arraylength, 1) := by decide +kernel
theorem dX3_canClash_8 : decode cX3_canClash 8 = .ok (.ifCond .le 7, 3) := by decide +kernel
theorem dX3_canClash_11 : decode cX3_canClash 11 = .ok (.iconst 1, 1) := by decide +kernel
theorem dX3_canClash_12 : decode cX3_canClash 12 = .ok (.goto 4, 3) := by decide +kernel
theorem dX3_canClash_15 : decode cX3_canClash 15 = .ok (.iconst 0, 1) := by decide +kernel
theorem dX3_canClash_16 : decode cX3_canClash 16 = .ok (.ireturn, 1) := by decide +kernel
theorem dX3_say_0 : decode cX3_say 0 = .ok (.aload_n 0, 1) := by decide +kernel
theorem dX3_say_1 : decode cX3_say 1 = .ok (.aload_n 0, 1) := by decide +kernel
theorem dX3_say_2 : decode cX3_say 2 = .ok (.getfield 9, 3) := by decide +kernel
theorem dX3_say_5 : decode cX3_say 5 = .ok (.iload_n 1, 1) := by decide +kernel
theorem dX3_say_6 : decode cX3_say 6 = .ok (.iaload, 1) := by decide +kernel
theorem dX3_say_7 : decode cX3_say 7 = .ok (.iconst (-1), 1) := by decide +kernel
theorem dX3_say_8 : decode cX3_say 8 = .ok (.if_icmp .ne 11, 3) := by decide +kernel
theorem dX3_say_11 : decode cX3_say 11 = .ok (.aload_n 0, 1) := by decide +kernel
theorem dX3_say_12 : decode cX3_say 12 = .ok (.iload_n 1, 1) := by decide +kernel
theorem dX3_say_13 : decode cX3_say 13 = .ok (.invokevirtual 58, 3) := by decide +kernel
theorem dX3_say_16 : decode cX3_say 16 = .ok (.goto 9, 3) := by decide +kernel
theorem dX3_say_19 : decode cX3_say 19 = .ok (.aload_n 0, 1) := by decide +kernel
theorem dX3_say_20 : decode cX3_say 20 = .ok (.getfield 9, 3) := by decide +kernel
theorem dX3_say_23 : decode cX3_say 23 = .ok (.iload_n 1, 1) := by decide +kernel
theorem dX3_say_24 : decode cX3_say 24 = .ok (.iaload, 1) := by decide +kernel
theorem dX3_say_25 : decode cX3_say 25 = .ok (.putfield 62, 3) := by decide +kernel
theorem dX3_say_28 : decode cX3_say 28 = .ok (.return_, 1) := by decide +kernel
theorem dX3_meetBranch_0 : decode cX3_meetBranch 0 = .ok (.aload_n 0, 1) := by decide +kernel
theorem dX3_meetBranch_1 : decode cX3_meetBranch 1 = .ok (.iload_n 1, 1) := by decide +kernel
theorem dX3_meetBranch_2 : decode cX3_meetBranch 2 = .ok (.invokevirtual 65, 3) := by decide +kernel
theorem dX3_meetBranch_5 : decode cX3_meetBranch 5 = .ok (.aload_n 0, 1) := by decide +kernel
theorem dX3_meetBranch_6 : decode cX3_meetBranch 6 = .ok (.getfield 48, 3) := by decide +kernel
theorem dX3_meetBranch_9 : decode cX3_meetBranch 9 = .ok (.iload_n 1, 1) := by decide +kernel
theorem dX3_meetBranch_10 : decode cX3_meetBranch 10 = .ok (.aload_n 0, 1) := by decide +kernel
theorem dX3_meetBranch_11 : decode cX3_meetBranch 11 = .ok (.getfield 62, 3) := by decide +kernel
theorem dX3_meetBranch_14 : decode cX3_meetBranch 14 = .ok (.iload_n 2, 1) := by decide +kernel
theorem dX3_meetBranch_15 : decode cX3_meetBranch 15 = .ok (.if_icmp .eq 7, 3) := by decide +kernel
theorem dX3_meetBranch_18 : decode cX3_meetBranch 18 = .ok (.iconst 1, 1) := by decide +kernel
theorem dX3_meetBranch_19 : decode cX3_meetBranch 19 = .ok (.goto 4, 3) := by decide +kernel
theorem dX3_meetBranch_22 : decode cX3_meetBranch 22 = .ok (.iconst 0, 1) := by decide +kernel
theorem dX3_meetBranch_23 : decode cX3_meetBranch 23 = .ok (.invokevirtual 69, 3) := by decide +kernel
theorem dX3_meetBranch_26 : decode cX3_meetBranch 26 = .ok (.aload_n 0, 1) := by decide +kernel
theorem dX3_meetBranch_27 : decode cX3_meetBranch 27 = .ok (.iload_n 1, 1) := by decide +kernel
theorem dX3_meetBranch_28 : decode cX3_meetBranch 28 = .ok (.invokevirtual 73, 3) := by decide +kernel
theorem dX3_meetBranch_31 : decode cX3_meetBranch 31 = .ok (.istore_n 3, 1) := by decide +kernel
theorem dX3_meetBranch_32 : decode cX3_meetBranch 32 = .ok (.iload_n 3, 1) := by decide +kernel
theorem dX3_meetBranch_33 : decode cX3_meetBranch 33 = .ok (.iconst (-1), 1) := by decide +kernel
theorem dX3_meetBranch_34 : decode cX3_meetBranch 34 = .ok (.if_icmp .eq 12, 3) := by decide +kernel
theorem dX3_meetBranch_37 : decode cX3_meetBranch 37 = .ok (.aload_n 0, 1) := by decide +kernel
theorem dX3_meetBranch_38 : decode cX3_meetBranch 38 = .ok (.getfield 48, 3) := by decide +kernel
theorem dX3_meetBranch_41 : decode cX3_meetBranch 41 = .ok (.iload_n 3, 1) := by decide +kernel
theorem dX3_meetBranch_42 : decode cX3_meetBranch 42 = .ok (.iload_n 1, 1) := by decide +kernel
theorem dX3_meetBranch_43 : decode cX3_meetBranch 43 = .ok (.invokevirtual 76, 3) := by decide +kernel
theorem dX3_meetBranch_46 : decode cX3_meetBranch 46 = .ok (.aload_n 0, 1) := by decide +kernel
theorem dX3_meetBranch_47 : decode cX3_meetBranch 47 = .ok (.iload_n 1, 1) := by decide +kernel
theorem dX3_meetBranch_48 : decode cX3_meetBranch 48 = .ok (.iload_n 2, 1) := by decide +kernel
theorem dX3_meetBranch_49 : decode cX3_meetBranch 49 = .ok (.invokevirtual 79, 3) := by decide +kernel
theorem dX3_meetBranch_52 : decode cX3_meetBranch 52 = .ok (.aload_n 0, 1) := by decide +kernel
theorem dX3_meetBranch_53 : decode cX3_meetBranch 53 = .ok (.getfield 48, 3) := by decide +kernel
theorem dX3_meetBranch_56 : decode cX3_meetBranch 56 = .ok (.iload_n 1, 1) := by decide +kernel
theorem dX3_meetBranch_57 : decode cX3_meetBranch 57 = .ok (.iload_n 2, 1) := by decide +kernel
theorem dX3_meetBranch_58 : decode cX3_meetBranch 58 = .ok (.invokevirtual 82, 3) := by decide +kernel
theorem dX3_meetBranch_61 : decode cX3_meetBranch 61 = .ok (.return_, 1) := by decide +kernel
theorem dX3_forget_0 : decode cX3_forget 0 = .ok (.aload_n 0, 1) := by decide +kernel
theorem dX3_forget_1 : decode cX3_forget 1 = .ok (.getfield 48, 3) := by decide +kernel
theorem dX3_forget_4 : decode cX3_forget 4 = .ok (.aload_n 0, 1) := by decide +kernel
theorem dX3_forget_5 : decode cX3_forget 5 = .ok (.getfield 37, 3) := by decide +kernel
theorem dX3_forget_8 : decode cX3_forget 8 = .ok (.invokevirtual 51, 3) := by decide +kernel
theorem dX3_forget_11 : decode cX3_forget 11 = .ok (.return_, 1) := by decide +kernel
theorem dX3_look_0 : decode cX3_look 0 = .ok (.iload_n 1, 1) := by decide +kernel
theorem dX3_look_1 : decode cX3_look 1 = .ok (.iconst 0, 1) := by decide +kernel
theorem dX3_look_2 : decode cX3_look 2 = .ok (.aload_n 0, 1) := by decide +kernel
theorem dX3_look_3 : decode cX3_look 3 = .ok (.getfield 21, 3) := by decide +kernel
theorem dX3_look_6 : decode cX3_look 6 = .ok (.iconst 1, 1) := by decide +kernel
theorem dX3_look_7 : decode cX3_look 7 = .ok (.isub, 1) := by decide +kernel
theorem dX3_look_8 : decode cX3_look 8 = .ok (.invokestatic 85, 3) := by decide +kernel
theorem dX3_look_11 : decode cX3_look 11 = .ok (.ifCond .eq 17, 3) := by decide +kernel
theorem dX3_look_14 : decode cX3_look 14 = .ok (.iload_n 2, 1) := by decide +kernel
theorem dX3_look_15 : decode cX3_look 15 = .ok (.iconst 0, 1) := by decide +kernel
theorem dX3_look_16 : decode cX3_look 16 = .ok (.aload_n 0, 1) := by decide +kernel
theorem dX3_look_17 : decode cX3_look 17 = .ok (.getfield 25, 3) := by decide +kernel
theorem dX3_look_20 : decode cX3_look 20 = .ok (.iconst 1, 1) := by decide +kernel
theorem dX3_look_21 : decode cX3_look 21 = .ok (.isub, 1) := by decide +kernel
theorem dX3_look_22 : decode cX3_look 22 = .ok (.invokestatic 85, 3) := by decide +kernel
theorem dX3_look_25 : decode cX3_look 25 = .ok (.ifCond .ne 7, 3) := by decide +kernel
theorem dX3_look_28 : decode cX3_look 28 = .ok (.sipush (-1000), 3) := by decide +kernel
theorem dX3_look_31 : decode cX3_look 31 = .ok (.ireturn, 1) := by decide +kernel
theorem dX3_look_32 : decode cX3_look 32 = .ok (.aload_n 0, 1) := by decide +kernel
theorem dX3_look_33 : decode cX3_look 33 = .ok (.getfield 48, 3) := by decide +kernel
theorem dX3_look_36 : decode cX3_look 36 = .ok (.getfield 41, 3) := by decide +kernel
theorem dX3_look_39 : decode cX3_look 39 = .ok (.iload_n 1, 1) := by decide +kernel
theorem dX3_look_40 : decode cX3_look 40 = .ok (.aload_n 0, 1) := by decide +kernel
theorem dX3_look_41 : decode cX3_look 41 = .ok (.getfield 25, 3) := by decide +kernel
theorem dX3_look_44 : decode cX3_look 44 = .ok (.imul, 1) := by decide +kernel
theorem dX3_look_45 : decode cX3_look 45 = .ok (.iload_n 2, 1) := by decide +kernel
theorem dX3_look_46 : decode cX3_look 46 = .ok (.iadd, 1) := by decide +kernel
theorem dX3_look_47 : decode cX3_look 47 = .ok (.iaload, 1) := by decide +kernel
theorem dX3_look_48 : decode cX3_look 48 = .ok (.ireturn, 1) := by decide +kernel
theorem dX4_init_0 : decode cX4_init 0 = .ok (.aload_n 0, 1) := by decide +kernel
theorem dX4_init_1 : decode cX4_init 1 = .ok (.invokespecial 3, 3) := by decide +kernel
theorem dX4_init_4 : decode cX4_init 4 = .ok (.aload_n 0, 1) := by decide +kernel
theorem dX4_init_5 : decode cX4_init 5 = .ok (.bipush 64, 2) := by decide +kernel
theorem dX4_init_7 : decode cX4_init 7 = .ok (.newarray .int, 2) := by decide +kernel
theorem dX4_init_9 : decode cX4_init 9 = .ok (.putfield 9, 3) := by decide +kernel
theorem dX4_init_12 : decode cX4_init 12 = .ok (.aload_n 0, 1) := by decide +kernel
theorem dX4_init_13 : decode cX4_init 13 = .ok (.bipush 64, 2) := by decide +kernel
theorem dX4_init_15 : decode cX4_init 15 = .ok (.newarray .int, 2) := by decide +kernel
theorem dX4_init_17 : decode cX4_init 17 = .ok (.putfield 15, 3) := by decide +kernel
theorem dX4_init_20 : decode cX4_init 20 = .ok (.aload_n 0, 1) := by decide +kernel
theorem dX4_init_21 : decode cX4_init 21 = .ok (.bipush 40, 2) := by decide +kernel
theorem dX4_init_23 : decode cX4_init 23 = .ok (.newarray .int, 2) := by decide +kernel
theorem dX4_init_25 : decode cX4_init 25 = .ok (.putfield 18, 3) := by decide +kernel
theorem dX4_init_28 : decode cX4_init 28 = .ok (.aload_n 0, 1) := by decide +kernel
theorem dX4_init_29 : decode cX4_init 29 = .ok (.iload_n 1, 1) := by decide +kernel
theorem dX4_init_30 : decode cX4_init 30 = .ok (.newarray .int, 2) := by decide +kernel
theorem dX4_init_32 : decode cX4_init 32 = .ok (.putfield 21, 3) := by decide +kernel
theorem dX4_init_35 : decode cX4_init 35 = .ok (.aload_n 0, 1) := by decide +kernel
theorem dX4_init_36 : decode cX4_init 36 = .ok (.iload_n 2, 1) := by decide +kernel
theorem dX4_init_37 : decode cX4_init 37 = .ok (.newarray .int, 2) := by decide +kernel
theorem dX4_init_39 : decode cX4_init 39 = .ok (.putfield 24, 3) := by decide +kernel
theorem dX4_init_42 : decode cX4_init 42 = .ok (.aload_n 0, 1) := by decide +kernel
theorem dX4_init_43 : decode cX4_init 43 = .ok (.getfield 24, 3) := by decide +kernel
theorem dX4_init_46 : decode cX4_init 46 = .ok (.bipush (-6), 2) := by decide +kernel
theorem dX4_init_48 : decode cX4_init 48 = .ok (.invokestatic 27, 3) := by decide +kernel
theorem dX4_init_51 : decode cX4_init 51 = .ok (.return_, 1) := by decide +kernel
theorem dX4_twin_0 : decode cX4_twin 0 = .ok (.new 10, 3) := by decide +kernel
theorem dX4_twin_3 : decode cX4_twin 3 = .ok (.dup, 1) := by decide +kernel
theorem dX4_twin_4 : decode cX4_twin 4 = .ok (.aload_n 0, 1) := by decide +kernel
theorem dX4_twin_5 : decode cX4_twin 5 = .ok (.getfield 21, 3) := by decide +kernel
theorem dX4_twin_8 : decode cX4_twin 8 = .ok (.arraylength, 1) := by decide +kernel
theorem dX4_twin_9 : decode cX4_twin 9 = .ok (.aload_n 0, 1) := by decide +kernel
theorem dX4_twin_10 : decode cX4_twin 10 = .ok (.getfield 24, 3) := by decide +kernel
theorem dX4_twin_13 : decode cX4_twin 13 = .ok (.arraylength, 1) := by decide +kernel
theorem dX4_twin_14 : decode cX4_twin 14 = .ok (.invokespecial 33, 3) := by decide +kernel
theorem dX4_twin_17 : decode cX4_twin 17 = .ok (.areturn, 1) := by decide +kernel
theorem dX4_take_0 : decode cX4_take 0 = .ok (.aload_n 1, 1) := by decide +kernel
theorem dX4_take_1 : decode cX4_take 1 = .ok (.getfield 21, 3) := by decide +kernel
theorem dX4_take_4 : decode cX4_take 4 = .ok (.iconst 0, 1) := by decide +kernel
theorem dX4_take_5 : decode cX4_take 5 = .ok (.aload_n 0, 1) := by decide +kernel
theorem dX4_take_6 : decode cX4_take 6 = .ok (.getfield 21, 3) := by decide +kernel
theorem dX4_take_9 : decode cX4_take 9 = .ok (.iconst 0, 1) := by decide +kernel
theorem dX4_take_10 : decode cX4_take 10 = .ok (.aload_n 0, 1) := by decide +kernel
theorem dX4_take_11 : decode cX4_take 11 = .ok (.getfield 21, 3) := by decide +kernel
theorem dX4_take_14 : decode cX4_take 14 = .ok (.arraylength, 1) := by decide +kernel
theorem dX4_take_15 : decode cX4_take 15 = .ok (.aload_n 1, 1) := by decide +kernel
theorem dX4_take_16 : decode cX4_take 16 = .ok (.getfield 21, 3) := by decide +kernel
theorem dX4_take_19 : decode cX4_take 19 = .ok (.arraylength, 1) := by decide +kernel
theorem dX4_take_20 : decode cX4_take 20 = .ok (.invokestatic 36, 3) := by decide +kernel
theorem dX4_take_23 : decode cX4_take 23 = .ok (.invokestatic 42, 3) := by decide +kernel
theorem dX4_take_26 : decode cX4_take 26 = .ok (.aload_n 1, 1) := by decide +kernel
theorem dX4_take_27 : decode cX4_take 27 = .ok (.getfield 24, 3) := by decide +kernel
theorem dX4_take_30 : decode cX4_take 30 = .ok (.iconst 0, 1) := by decide +kernel
theorem dX4_take_31 : decode cX4_take 31 = .ok (.aload_n 0, 1) := by decide +kernel
theorem dX4_take_32 : decode cX4_take 32 = .ok (.getfield 24, 3) := by decide +kernel
theorem dX4_take_35 : decode cX4_take 35 = .ok (.iconst 0, 1) := by decide +kernel
theorem dX4_take_36 : decode cX4_take 36 = .ok (.aload_n 0, 1) := by decide +kernel
theorem dX4_take_37 : decode cX4_take 37 = .ok (.getfield 24, 3) := by decide +kernel
theorem dX4_take_40 : decode cX4_take 40 = .ok (.arraylength, 1) := by decide +kernel
theorem dX4_take_41 : decode cX4_take 41 = .ok (.aload_n 1, 1) := by decide +kernel
theorem dX4_take_42 : decode cX4_take 42 = .ok (.getfield 24, 3) := by decide +kernel
theorem dX4_take_45 : decode cX4_take 45 = .ok (.arraylength, 1) := by decide +kernel
theorem dX4_take_46 : decode cX4_take 46 = .ok (.invokestatic 36, 3) := by decide +kernel
theorem dX4_take_49 : decode cX4_take 49 = .ok (.invokestatic 42, 3) := by decide +kernel
theorem dX4_take_52 : decode cX4_take 52 = .ok (.aload_n 1, 1) := by decide +kernel
theorem dX4_take_53 : decode cX4_take 53 = .ok (.getfield 9, 3) := by decide +kernel
theorem dX4_take_56 : decode cX4_take 56 = .ok (.iconst 0, 1) := by decide +kernel
theorem dX4_take_57 : decode cX4_take 57 = .ok (.aload_n 0, 1) := by decide +kernel
theorem dX4_take_58 : decode cX4_take 58 = .ok (.getfield 9, 3) := by decide +kernel
theorem dX4_take_61 : decode cX4_take 61 = .ok (.iconst 0, 1) := by decide +kernel
theorem dX4_take_62 : decode cX4_take 62 = .ok (.bipush 64, 2) := by decide +kernel
theorem dX4_take_64 : decode cX4_take 64 = .ok (.invokestatic 42, 3) := by decide +kernel
theorem dX4_take_67 : decode cX4_take 67 = .ok (.aload_n 1, 1) := by decide +kernel
theorem dX4_take_68 : decode cX4_take 68 = .ok (.getfield 15, 3) := by decide +kernel
theorem dX4_take_71 : decode cX4_take 71 = .ok (.iconst 0, 1) := by decide +kernel
theorem dX4_take_72 : decode cX4_take 72 = .ok (.aload_n 0, 1) := by decide +kernel
theorem dX4_take_73 : decode cX4_take 73 = .ok (.getfield 15, 3) := by decide +kernel
theorem dX4_take_76 : decode cX4_take 76 = .ok (.iconst 0, 1) := by decide +kernel
theorem dX4_take_77 : decode cX4_take 77 = .ok (.bipush 64, 2) := by decide +kernel
theorem dX4_take_79 : decode cX4_take 79 = .ok (.invokestatic 42, 3) := by decide +kernel
theorem dX4_take_82 : decode cX4_take 82 = .ok (.aload_n 1, 1) := by decide +kernel
theorem dX4_take_83 : decode cX4_take 83 = .ok (.getfield 18, 3) := by decide +kernel
theorem dX4_take_86 : decode cX4_take 86 = .ok (.iconst 0, 1) := by decide +kernel
theorem dX4_take_87 : decode cX4_take 87 = .ok (.aload_n 0, 1) := by decide +kernel
theorem dX4_take_88 : decode cX4_take 88 = .ok (.getfield 18, 3) := by decide +kernel
theorem dX4_take_91 : decode cX4_take 91 = .ok (.iconst 0, 1) := by decide +kernel
theorem dX4_take_92 : decode cX4_take 92 = .ok (.bipush 40, 2) := by decide +kernel
theorem dX4_take_94 : decode cX4_take 94 = .ok (.invokestatic 42, 3) := by decide +kernel
theorem dX4_take_97 : decode cX4_take 97 = .ok (.aload_n 0, 1) := by decide +kernel
theorem dX4_take_98 : decode cX4_take 98 = .ok (.aload_n 1, 1) := by decide +kernel
theorem dX4_take_99 : decode cX4_take 99 = .ok (.getfield 48, 3) := by decide +kernel
theorem dX4_take_102 : decode cX4_take 102 = .ok (.putfield 48, 3) := by decide +kernel
theorem dX4_take_105 : decode cX4_take 105 = .ok (.aload_n 0, 1) := by decide +kernel
theorem dX4_take_106 : decode cX4_take 106 = .ok (.aload_n 1, 1) := by decide +kernel
theorem dX4_take_107 : decode cX4_take 107 = .ok (.getfield 52, 3) := by decide +kernel
theorem dX4_take_110 : decode cX4_take 110 = .ok (.putfield 52, 3) := by decide +kernel
theorem dX4_take_113 : decode cX4_take 113 = .ok (.aload_n 0, 1) := by decide +kernel
theorem dX4_take_114 : decode cX4_take 114 = .ok (.aload_n 1, 1) := by decide +kernel
theorem dX4_take_115 : decode cX4_take 115 = .ok (.getfield 55, 3) := by decide +kernel
theorem dX4_take_118 : decode cX4_take 118 = .ok (.putfield 55, 3) := by decide +kernel
theorem dX4_take_121 : decode cX4_take 121 = .ok (.aload_n 0, 1) := by decide +kernel
theorem dX4_take_122 : decode cX4_take 122 = .ok (.aload_n 1, 1) := by decide +kernel
theorem dX4_take_123 : decode cX4_take 123 = .ok (.getfield 58, 3) := by decide +kernel
theorem dX4_take_126 : decode cX4_take 126 = .ok (.putfield 58, 3) := by decide +kernel
theorem dX4_take_129 : decode cX4_take 129 = .ok (.aload_n 0, 1) := by decide +kernel
theorem dX4_take_130 : decode cX4_take 130 = .ok (.aload_n 1, 1) := by decide +kernel
theorem dX4_take_131 : decode cX4_take 131 = .ok (.getfield 61, 3) := by decide +kernel
theorem dX4_take_134 : decode cX4_take 134 = .ok (.putfield 61, 3) := by decide +kernel
theorem dX4_take_137 : decode cX4_take 137 = .ok (.return_, 1) := by decide +kernel
theorem dX4_countAsked_0 : decode cX4_countAsked 0 = .ok (.aload_n 0, 1) := by decide +kernel
theorem dX4_countAsked_1 : decode cX4_countAsked 1 = .ok (.dup, 1) := by decide +kernel
theorem dX4_countAsked_2 : decode cX4_countAsked 2 = .ok (.getfield 52, 3) := by decide +kernel
theorem dX4_countAsked_5 : decode cX4_countAsked 5 = .ok (.iconst 1, 1) := by decide +kernel
theorem dX4_countAsked_6 : decode cX4_countAsked 6 = .ok (.iadd, 1) := by decide +kernel
theorem dX4_countAsked_7 : decode cX4_countAsked 7 = .ok (.putfield 52, 3) := by decide +kernel
theorem dX4_countAsked_10 : decode cX4_countAsked 10 = .ok (.iload_n 2, 1) := by decide +kernel
theorem dX4_countAsked_11 : decode cX4_countAsked 11 = .ok (.ifCond .ne 4, 3) := by decide +kernel
theorem dX4_countAsked_14 : decode cX4_countAsked 14 = .ok (.return_, 1) := by decide +kernel
theorem dX4_countAsked_15 : decode cX4_countAsked 15 = .ok (.aload_n 0, 1) := by decide +kernel
theorem dX4_countAsked_16 : decode cX4_countAsked 16 = .ok (.dup, 1) := by decide +kernel
theorem dX4_countAsked_17 : decode cX4_countAsked 17 = .ok (.getfield 55, 3) := by decide +kernel
theorem dX4_countAsked_20 : decode cX4_countAsked 20 = .ok (.iconst 1, 1) := by decide +kernel
theorem dX4_countAsked_21 : decode cX4_countAsked 21 = .ok (.iadd, 1) := by decide +kernel
theorem dX4_countAsked_22 : decode cX4_countAsked 22 = .ok (.putfield 55, 3) := by decide +kernel
theorem dX4_countAsked_25 : decode cX4_countAsked 25 = .ok (.aload_n 0, 1) := by decide +kernel
theorem dX4_countAsked_26 : decode cX4_countAsked 26 = .ok (.getfield 15, 3) := by decide +kernel
theorem dX4_countAsked_29 : decode cX4_countAsked 29 = .ok (.iload_n 1, 1) := by decide +kernel
theorem dX4_countAsked_30 : decode cX4_countAsked 30 = .ok (.dup2, 1) := by decide +kernel
theorem dX4_countAsked_31 : decode cX4_countAsked 31 = .ok (.iaload, 1) := by decide +kernel
theorem dX4_countAsked_32 : decode cX4_countAsked 32 = .ok (.iconst 1, 1) := by decide +kernel
theorem dX4_countAsked_33 : decode cX4_countAsked 33 = .ok (.iadd, 1) := by decide +kernel
theorem dX4_countAsked_34 : decode cX4_countAsked 34 = .ok (.iastore, 1) := by decide +kernel
theorem dX4_countAsked_35 : decode cX4_countAsked 35 = .ok (.return_, 1) := by decide +kernel
theorem dX4_useSlot_0 : decode cX4_useSlot 0 = .ok (.aload_n 0, 1) := by decide +kernel
theorem dX4_useSlot_1 : decode cX4_useSlot 1 = .ok (.getfield 24, 3) := by decide +kernel
theorem dX4_useSlot_4 : decode cX4_useSlot 4 = .ok (.iload_n 1, 1) := by decide +kernel
theorem dX4_useSlot_5 : decode cX4_useSlot 5 = .ok (.iaload, 1) := by decide +kernel
theorem dX4_useSlot_6 : decode cX4_useSlot 6 = .ok (.istore_n 3, 1) := by decide +kernel
theorem dX4_useSlot_7 : decode cX4_useSlot 7 = .ok (.aload_n 0, 1) := by decide +kernel
theorem dX4_useSlot_8 : decode cX4_useSlot 8 = .ok (.getfield 24, 3) := by decide +kernel
theorem dX4_useSlot_11 : decode cX4_useSlot 11 = .ok (.iload_n 1, 1) := by decide +kernel
theorem dX4_useSlot_12 : decode cX4_useSlot 12 = .ok (.iload_n 2, 1) := by decide +kernel
theorem dX4_useSlot_13 : decode cX4_useSlot 13 = .ok (.iastore, 1) := by decide +kernel
theorem dX4_useSlot_14 : decode cX4_useSlot 14 = .ok (.iload_n 3, 1) := by decide +kernel
theorem dX4_useSlot_15 : decode cX4_useSlot 15 = .ok (.bipush (-6), 2) := by decide +kernel
theorem dX4_useSlot_17 : decode cX4_useSlot 17 = .ok (.if_icmp .eq 8, 3) := by decide +kernel
theorem dX4_useSlot_20 : decode cX4_useSlot 20 = .ok (.iload_n 3, 1) := by decide +kernel
theorem dX4_useSlot_21 : decode cX4_useSlot 21 = .ok (.iload_n 2, 1) := by decide +kernel
theorem dX4_useSlot_22 : decode cX4_useSlot 22 = .ok (.if_icmp .ne 4, 3) := by decide +kernel
theorem dX4_useSlot_25 : decode cX4_useSlot 25 = .ok (.return_, 1) := by decide +kernel
theorem dX4_useSlot_26 : decode cX4_useSlot 26 = .ok (.aload_n 0, 1) := by decide +kernel
theorem dX4_useSlot_27 : decode cX4_useSlot 27 = .ok (.dup, 1) := by decide +kernel
theorem dX4_useSlot_28 : decode cX4_useSlot 28 = .ok (.getfield 58, 3) := by decide +kernel
theorem dX4_useSlot_31 : decode cX4_useSlot 31 = .ok (.iconst 1, 1) := by decide +kernel
theorem dX4_useSlot_32 : decode cX4_useSlot 32 = .ok (.iadd, 1) := by decide +kernel
theorem dX4_useSlot_33 : decode cX4_useSlot 33 = .ok (.putfield 58, 3) := by decide +kernel
theorem dX4_useSlot_36 : decode cX4_useSlot 36 = .ok (.aload_n 0, 1) := by decide +kernel
theorem dX4_useSlot_37 : decode cX4_useSlot 37 = .ok (.bipush 64, 2) := by decide +kernel
theorem dX4_useSlot_39 : decode cX4_useSlot 39 = .ok (.iload_n 3, 1) := by decide +kernel
theorem dX4_useSlot_40 : decode cX4_useSlot 40 = .ok (.iload_n 2, 1) := by decide +kernel
theorem dX4_useSlot_41 : decode cX4_useSlot 41 = .ok (.invokestatic 36, 3) := by decide +kernel
theorem dX4_useSlot_44 : decode cX4_useSlot 44 = .ok (.imul, 1) := by decide +kernel
theorem dX4_useSlot_45 : decode cX4_useSlot 45 = .ok (.iload_n 3, 1) := by decide +kernel
theorem dX4_useSlot_46 : decode cX4_useSlot 46 = .ok (.iload_n 2, 1) := by decide +kernel
theorem dX4_useSlot_47 : decode cX4_useSlot 47 = .ok (.invokestatic 64, 3) := by decide +kernel
theorem dX4_useSlot_50 : decode cX4_useSlot 50 = .ok (.iadd, 1) := by decide +kernel
theorem dX4_useSlot_51 : decode cX4_useSlot 51 = .ok (.invokevirtual 67, 3) := by decide +kernel
theorem dX4_useSlot_54 : decode cX4_useSlot 54 = .ok (.return_, 1) := by decide +kernel
theorem dX4_keepPair_0 : decode cX4_keepPair 0 = .ok (.iconst 0, 1) := by decide +kernel
theorem dX4_keepPair_1 : decode cX4_keepPair 1 = .ok (.istore_n 2, 1) := by decide +kernel
theorem dX4_keepPair_2 : decode cX4_keepPair 2 = .ok (.iload_n 2, 1) := by decide +kernel
theorem dX4_keepPair_3 : decode cX4_keepPair 3 = .ok (.aload_n 0, 1) := by decide +kernel
theorem dX4_keepPair_4 : decode cX4_keepPair 4 = .ok (.getfield 61, 3) := by decide +kernel
theorem dX4_keepPair_7 : decode cX4_keepPair 7 = .ok (.if_icmp .ge 20, 3) := by decide +kernel
theorem dX4_keepPair_10 : decode cX4_keepPair 10 = .ok (.aload_n 0, 1) := by decide +kernel
theorem dX4_keepPair_11 : decode cX4_keepPair 11 = .ok (.getfield 18, 3) := by decide +kernel
theorem dX4_keepPair_14 : decode cX4_keepPair 14 = .ok (.iload_n 2, 1) := by decide +kernel
theorem dX4_keepPair_15 : decode cX4_keepPair 15 = .ok (.iaload, 1) := by decide +kernel
theorem dX4_keepPair_16 : decode cX4_keepPair 16 = .ok (.iload_n 1, 1) := by decide +kernel
theorem dX4_keepPair_17 : decode cX4_keepPair 17 = .ok (.if_icmp .ne 4, 3) := by decide +kernel
theorem dX4_keepPair_20 : decode cX4_keepPair 20 = .ok (.return_, 1) := by decide +kernel
theorem dX4_keepPair_21 : decode cX4_keepPair 21 = .ok (.iinc 2 1, 3) := by decide +kernel
theorem dX4_keepPair_24 : decode cX4_keepPair 24 = .ok (.goto (-22), 3) := by decide +kernel
theorem dX4_keepPair_27 : decode cX4_keepPair 27 = .ok (.aload_n 0, 1) := by decide +kernel
theorem dX4_keepPair_28 : decode cX4_keepPair 28 = .ok (.getfield 61, 3) := by decide +kernel
theorem dX4_keepPair_31 : decode cX4_keepPair 31 = .ok (.bipush 40, 2) := by decide +kernel
theorem dX4_keepPair_33 : decode cX4_keepPair 33 = .ok (.if_icmp .lt 4, 3) := by decide +kernel
theorem dX4_keepPair_36 : decode cX4_keepPair 36 = .ok (.return_, 1) := by decide +kernel
theorem dX4_keepPair_37 : decode cX4_keepPair 37 = .ok (.aload_n 0, 1) := by decide +kernel
theorem dX4_keepPair_38 : decode cX4_keepPair 38 = .ok (.getfield 18, 3) := by decide +kernel
theorem dX4_keepPair_41 : decode cX4_keepPair 41 = .ok (.aload_n 0, 1) := by decide +kernel
theorem dX4_keepPair_42 : decode cX4_keepPair 42 = .ok (.getfield 61, 3) := by decide +kernel
theorem dX4_keepPair_45 : decode cX4_keepPair 45 = .ok (.iload_n 1, 1) := by decide +kernel
theorem dX4_keepPair_46 : decode cX4_keepPair 46 = .ok (.iastore, 1) := by decide +kernel
theorem dX4_keepPair_47 : decode cX4_keepPair 47 = .ok (.aload_n 0, 1) := by decide +kernel
theorem dX4_keepPair_48 : decode cX4_keepPair 48 = .ok (.dup, 1) := by decide +kernel
theorem dX4_keepPair_49 : decode cX4_keepPair 49 = .ok (.getfield 61, 3) := by decide +kernel
theorem dX4_keepPair_52 : decode cX4_keepPair 52 = .ok (.iconst 1, 1) := by decide +kernel
theorem dX4_keepPair_53 : decode cX4_keepPair 53 = .ok (.iadd, 1) := by decide +kernel
theorem dX4_keepPair_54 : decode cX4_keepPair 54 = .ok (.putfield 61, 3) := by decide +kernel
theorem dX4_keepPair_57 : decode cX4_keepPair 57 = .ok (.return_, 1) := by decide +kernel
theorem dX4_addWay_0 : decode cX4_addWay 0 = .ok (.aload_n 0, 1) := by decide +kernel
theorem dX4_addWay_1 : decode cX4_addWay 1 = .ok (.aload_n 0, 1) := by decide +kernel
theorem dX4_addWay_2 : decode cX4_addWay 2 = .ok (.getfield 48, 3) := by decide +kernel
theorem dX4_addWay_5 : decode cX4_addWay 5 = .ok (.iconst 1, 1) := by decide +kernel
theorem dX4_addWay_6 : decode cX4_addWay 6 = .ok (.ishl, 1) := by decide +kernel
theorem dX4_addWay_7 : decode cX4_addWay 7 = .ok (.iload_n 2, 1) := by decide +kernel
theorem dX4_addWay_8 : decode cX4_addWay 8 = .ok (.ior, 1) := by decide +kernel
theorem dX4_addWay_9 : decode cX4_addWay 9 = .ok (.bipush 8, 2) := by decide +kernel
theorem dX4_addWay_11 : decode cX4_addWay 11 = .ok (.invokestatic 71, 3) := by decide +kernel
theorem dX4_addWay_14 : decode cX4_addWay 14 = .ok (.iand, 1) := by decide +kernel
theorem dX4_addWay_15 : decode cX4_addWay 15 = .ok (.putfield 48, 3) := by decide +kernel
theorem dX4_addWay_18 : decode cX4_addWay 18 = .ok (.aload_n 0, 1) := by decide +kernel
theorem dX4_addWay_19 : decode cX4_addWay 19 = .ok (.getfield 9, 3) := by decide +kernel
theorem dX4_addWay_22 : decode cX4_addWay 22 = .ok (.iload_n 1, 1) := by decide +kernel
theorem dX4_addWay_23 : decode cX4_addWay 23 = .ok (.aload_n 0, 1) := by decide +kernel
theorem dX4_addWay_24 : decode cX4_addWay 24 = .ok (.getfield 9, 3) := by decide +kernel
theorem dX4_addWay_27 : decode cX4_addWay 27 = .ok (.iload_n 1, 1) := by decide +kernel
theorem dX4_addWay_28 : decode cX4_addWay 28 = .ok (.iaload, 1) := by decide +kernel
theorem dX4_addWay_29 : decode cX4_addWay 29 = .ok (.iconst 1, 1) := by decide +kernel
theorem dX4_addWay_30 : decode cX4_addWay 30 = .ok (.ishl, 1) := by decide +kernel
theorem dX4_addWay_31 : decode cX4_addWay 31 = .ok (.iload_n 2, 1) := by decide +kernel
theorem dX4_addWay_32 : decode cX4_addWay 32 = .ok (.ior, 1) := by decide +kernel
theorem dX4_addWay_33 : decode cX4_addWay 33 = .ok (.bipush 8, 2) := by decide +kernel
theorem dX4_addWay_35 : decode cX4_addWay 35 = .ok (.invokestatic 71, 3) := by decide +kernel
theorem dX4_addWay_38 : decode cX4_addWay 38 = .ok (.iand, 1) := by decide +kernel
theorem dX4_addWay_39 : decode cX4_addWay 39 = .ok (.iastore, 1) := by decide +kernel
theorem dX4_addWay_40 : decode cX4_addWay 40 = .ok (.return_, 1) := by decide +kernel
theorem dX4_counterWay_0 : decode cX4_counterWay 0 = .ok (.aload_n 0, 1) := by decide +kernel
theorem dX4_counterWay_1 : decode cX4_counterWay 1 = .ok (.getfield 21, 3) := by decide +kernel
theorem dX4_counterWay_4 : decode cX4_counterWay 4 = .ok (.iload_n 1, 1) := by decide +kernel
theorem dX4_counterWay_5 : decode cX4_counterWay 5 = .ok (.iaload, 1) := by decide +kernel
theorem dX4_counterWay_6 : decode cX4_counterWay 6 = .ok (.iconst 2, 1) := by decide +kernel
theorem dX4_counterWay_7 : decode cX4_counterWay 7 = .ok (.if_icmp .lt 7, 3) := by decide +kernel
theorem dX4_counterWay_10 : decode cX4_counterWay 10 = .ok (.iconst 1, 1) := by decide +kernel
theorem dX4_counterWay_11 : decode cX4_counterWay 11 = .ok (.goto 4, 3) := by decide +kernel
theorem dX4_counterWay_14 : decode cX4_counterWay 14 = .ok (.iconst 0, 1) := by decide +kernel
theorem dX4_counterWay_15 : decode cX4_counterWay 15 = .ok (.ireturn, 1) := by decide +kernel
theorem dX4_teachCounter_0 : decode cX4_teachCounter 0 = .ok (.aload_n 0, 1) := by decide +kernel
theorem dX4_teachCounter_1 : decode cX4_teachCounter 1 = .ok (.getfield 21, 3) := by decide +kernel
theorem dX4_teachCounter_4 : decode cX4_teachCounter 4 = .ok (.iload_n 1, 1) := by decide +kernel
theorem dX4_teachCounter_5 : decode cX4_teachCounter 5 = .ok (.iload_n 2, 1) := by decide +kernel
theorem dX4_teachCounter_6 : decode cX4_teachCounter 6 = .ok (.iconst 1, 1) := by decide +kernel
theorem dX4_teachCounter_7 : decode cX4_teachCounter 7 = .ok (.if_icmp .ne 18, 3) := by decide +kernel
theorem dX4_teachCounter_10 : decode cX4_teachCounter 10 = .ok (.aload_n 0, 1) := by decide +kernel
theorem dX4_teachCounter_11 : decode cX4_teachCounter 11 = .ok (.getfield 21, 3) := by decide +kernel
theorem dX4_teachCounter_14 : decode cX4_teachCounter 14 = .ok (.iload_n 1, 1) := by decide +kernel
theorem dX4_teachCounter_15 : decode cX4_teachCounter 15 = .ok (.iaload, 1) := by decide +kernel
theorem dX4_teachCounter_16 : decode cX4_teachCounter 16 = .ok (.iconst 1, 1) := by decide +kernel
theorem dX4_teachCounter_17 : decode cX4_teachCounter 17 = .ok (.iadd, 1) := by decide +kernel
theorem dX4_teachCounter_18 : decode cX4_teachCounter 18 = .ok (.iconst 3, 1) := by decide +kernel
theorem dX4_teachCounter_19 : decode cX4_teachCounter 19 = .ok (.invokestatic 36, 3) := by decide +kernel
theorem dX4_teachCounter_22 : decode cX4_teachCounter 22 = .ok (.goto 15, 3) := by decide +kernel
theorem dX4_teachCounter_25 : decode cX4_teachCounter 25 = .ok (.aload_n 0, 1) := by decide +kernel
theorem dX4_teachCounter_26 : decode cX4_teachCounter 26 = .ok (.getfield 21, 3) := by decide +kernel
theorem dX4_teachCounter_29 : decode cX4_teachCounter 29 = .ok (.iload_n 1, 1) := by decide +kernel
theorem dX4_teachCounter_30 : decode cX4_teachCounter 30 = .ok (.iaload, 1) := by decide +kernel
theorem dX4_teachCounter_31 : decode cX4_teachCounter 31 = .ok (.iconst 1, 1) := by decide +kernel
theorem dX4_teachCounter_32 : decode cX4_teachCounter 32 = .ok (.isub, 1) := by decide +kernel
theorem dX4_teachCounter_33 : decode cX4_teachCounter 33 = .ok (.iconst 0, 1) := by decide +kernel
theorem dX4_teachCounter_34 : decode cX4_teachCounter 34 = .ok (.invokestatic 64, 3) := by decide +kernel
theorem dX4_teachCounter_37 : decode cX4_teachCounter 37 = .ok (.iastore, 1) := by decide +kernel
theorem dX4_teachCounter_38 : decode cX4_teachCounter 38 = .ok (.return_, 1) := by decide +kernel
theorem dX5_init_0 : decode cX5_init 0 = .ok (.aload_n 0, 1) := by decide +kernel
theorem dX5_init_1 : decode cX5_init 1 = .ok (.bipush 64, 2) := by decide +kernel
theorem dX5_init_3 : decode cX5_init 3 = .ok (.iconst 3, 1) := by decide +kernel
theorem dX5_init_4 : decode cX5_init 4 = .ok (.iconst 0, 1) := by decide +kernel
theorem dX5_init_5 : decode cX5_init 5 = .ok (.iconst 0, 1) := by decide +kernel
theorem dX5_init_6 : decode cX5_init 6 = .ok (.invokespecial 5, 3) := by decide +kernel
theorem dX5_init_9 : decode cX5_init 9 = .ok (.aload_n 0, 1) := by decide +kernel
theorem dX5_init_10 : decode cX5_init 10 = .ok (.iload_n 1, 1) := by decide +kernel
theorem dX5_init_11 : decode cX5_init 11 = .ok (.putfield 11, 3) := by decide +kernel
theorem dX5_init_14 : decode cX5_init 14 = .ok (.iconst 0, 1) := by decide +kernel
theorem dX5_init_15 : decode cX5_init 15 = .ok (.istore_n 2, 1) := by decide +kernel
theorem dX5_init_16 : decode cX5_init 16 = .ok (.iload_n 2, 1) := by decide +kernel
theorem dX5_init_17 : decode cX5_init 17 = .ok (.bipush 64, 2) := by decide +kernel
theorem dX5_init_19 : decode cX5_init 19 = .ok (.if_icmp .ge 23, 3) := by decide +kernel
theorem dX5_init_22 : decode cX5_init 22 = .ok (.aload_n 0, 1) := by decide +kernel
theorem dX5_init_23 : decode cX5_init 23 = .ok (.getfield 15, 3) := by decide +kernel
theorem dX5_init_26 : decode cX5_init 26 = .ok (.getfield 19, 3) := by decide +kernel
theorem dX5_init_29 : decode cX5_init 29 = .ok (.iload_n 2, 1) := by decide +kernel
theorem dX5_init_30 : decode cX5_init 30 = .ok (.iconst 3, 1) := by decide +kernel
theorem dX5_init_31 : decode cX5_init 31 = .ok (.imul, 1) := by decide +kernel
theorem dX5_init_32 : decode cX5_init 32 = .ok (.iconst 1, 1) := by decide +kernel
theorem dX5_init_33 : decode cX5_init 33 = .ok (.iadd, 1) := by decide +kernel
theorem dX5_init_34 : decode cX5_init 34 = .ok (.iconst (-1), 1) := by decide +kernel
theorem dX5_init_35 : decode cX5_init 35 = .ok (.iastore, 1) := by decide +kernel
theorem dX5_init_36 : decode cX5_init 36 = .ok (.iinc 2 1, 3) := by decide +kernel
theorem dX5_init_39 : decode cX5_init 39 = .ok (.goto (-23), 3) := by decide +kernel
theorem dX5_init_42 : decode cX5_init 42 = .ok (.aload_n 0, 1) := by decide +kernel
theorem dX5_init_43 : decode cX5_init 43 = .ok (.getfield 25, 3) := by decide +kernel
theorem dX5_init_46 : decode cX5_init 46 = .ok (.aload_n 0, 1) := by decide +kernel
theorem dX5_init_47 : decode cX5_init 47 = .ok (.getfield 15, 3) := by decide +kernel
theorem dX5_init_50 : decode cX5_init 50 = .ok (.invokevirtual 28, 3) := by decide +kernel
theorem dX5_init_53 : decode cX5_init 53 = .ok (.return_, 1) := by decide +kernel
theorem dX5_ownWay_0 : decode cX5_ownWay 0 = .ok (.iload_n 1, 1) := by decide +kernel
theorem dX5_ownWay_1 : decode cX5_ownWay 1 = .ok (.iconst 3, 1) := by decide +kernel
theorem dX5_ownWay_2 : decode cX5_ownWay 2 = .ok (.imul, 1) := by decide +kernel
theorem dX5_ownWay_3 : decode cX5_ownWay 3 = .ok (.istore_n 2, 1) := by decide +kernel
theorem dX5_ownWay_4 : decode cX5_ownWay 4 = .ok (.aload_n 0, 1) := by decide +kernel
theorem dX5_ownWay_5 : decode cX5_ownWay 5 = .ok (.getfield 25, 3) := by decide +kernel
theorem dX5_ownWay_8 : decode cX5_ownWay 8 = .ok (.getfield 19, 3) := by decide +kernel
theorem dX5_ownWay_11 : decode cX5_ownWay 11 = .ok (.iload_n 2, 1) := by decide +kernel
theorem dX5_ownWay_12 : decode cX5_ownWay 12 = .ok (.iconst 2, 1) := by decide +kernel
theorem dX5_ownWay_13 : decode cX5_ownWay 13 = .ok (.iadd, 1) := by decide +kernel
theorem dX5_ownWay_14 : decode cX5_ownWay 14 = .ok (.iaload, 1) := by decide +kernel
theorem dX5_ownWay_15 : decode cX5_ownWay 15 = .ok (.aload_n 0, 1) := by decide +kernel
theorem dX5_ownWay_16 : decode cX5_ownWay 16 = .ok (.getfield 11, 3) := by decide +kernel
theorem dX5_ownWay_19 : decode cX5_ownWay 19 = .ok (.if_icmp .lt 7, 3) := by decide +kernel
theorem dX5_ownWay_22 : decode cX5_ownWay 22 = .ok (.iconst 1, 1) := by decide +kernel
theorem dX5_ownWay_23 : decode cX5_ownWay 23 = .ok (.goto 4, 3) := by decide +kernel
theorem dX5_ownWay_26 : decode cX5_ownWay 26 = .ok (.iconst 0, 1) := by decide +kernel
theorem dX5_ownWay_27 : decode cX5_ownWay 27 = .ok (.istore_n 3, 1) := by decide +kernel
theorem dX5_ownWay_28 : decode cX5_ownWay 28 = .ok (.iload_n 3, 1) := by decide +kernel
theorem dX5_ownWay_29 : decode cX5_ownWay 29 = .ok (.ifCond .eq 32, 3) := by decide +kernel
theorem dX5_ownWay_32 : decode cX5_ownWay 32 = .ok (.aload_n 0, 1) := by decide +kernel
theorem dX5_ownWay_33 : decode cX5_ownWay 33 = .ok (.getfield 25, 3) := by decide +kernel
theorem dX5_ownWay_36 : decode cX5_ownWay 36 = .ok (.getfield 19, 3) := by decide +kernel
theorem dX5_ownWay_39 : decode cX5_ownWay 39 = .ok (.iload_n 2, 1) := by decide +kernel
theorem dX5_ownWay_40 : decode cX5_ownWay 40 = .ok (.iconst 0, 1) := by decide +kernel
theorem dX5_ownWay_41 : decode cX5_ownWay 41 = .ok (.iadd, 1) := by decide +kernel
theorem dX5_ownWay_42 : decode cX5_ownWay 42 = .ok (.iaload, 1) := by decide +kernel
theorem dX5_ownWay_43 : decode cX5_ownWay 43 = .ok (.aload_n 0, 1) := by decide +kernel
theorem dX5_ownWay_44 : decode cX5_ownWay 44 = .ok (.getfield 25, 3) := by decide +kernel
theorem dX5_ownWay_47 : decode cX5_ownWay 47 = .ok (.getfield 19, 3) := by decide +kernel
theorem dX5_ownWay_50 : decode cX5_ownWay 50 = .ok (.iload_n 2, 1) := by decide +kernel
theorem dX5_ownWay_51 : decode cX5_ownWay 51 = .ok (.iconst 1, 1) := by decide +kernel
theorem dX5_ownWay_52 : decode cX5_ownWay 52 = .ok (.iadd, 1) := by decide +kernel
theorem dX5_ownWay_53 : decode cX5_ownWay 53 = .ok (.iaload, 1) := by decide +kernel
theorem dX5_ownWay_54 : decode cX5_ownWay 54 = .ok (.if_icmp .ne 7, 3) := by decide +kernel
theorem dX5_ownWay_57 : decode cX5_ownWay 57 = .ok (.iconst 0, 1) := by decide +kernel
theorem dX5_ownWay_58 : decode cX5_ownWay 58 = .ok (.goto 4, 3) := by decide +kernel
theorem dX5_ownWay_61 : decode cX5_ownWay 61 = .ok (.iconst 1, 1) := by decide +kernel
theorem dX5_ownWay_62 : decode cX5_ownWay 62 = .ok (.ireturn, 1) := by decide +kernel
theorem dX5_learn_0 : decode cX5_learn 0 = .ok (.iload_n 1, 1) := by decide +kernel
theorem dX5_learn_1 : decode cX5_learn 1 = .ok (.iconst 3, 1) := by decide +kernel
theorem dX5_learn_2 : decode cX5_learn 2 = .ok (.imul, 1) := by decide +kernel
theorem dX5_learn_3 : decode cX5_learn 3 = .ok (.istore_n 3, 1) := by decide +kernel
theorem dX5_learn_4 : decode cX5_learn 4 = .ok (.aload_n 0, 1) := by decide +kernel
theorem dX5_learn_5 : decode cX5_learn 5 = .ok (.getfield 25, 3) := by decide +kernel
theorem dX5_learn_8 : decode cX5_learn 8 = .ok (.getfield 19, 3) := by decide +kernel
theorem dX5_learn_11 : decode cX5_learn 11 = .ok (.iload_n 3, 1) := by decide +kernel
theorem dX5_learn_12 : decode cX5_learn 12 = .ok (.iconst 0, 1) := by decide +kernel
theorem dX5_learn_13 : decode cX5_learn 13 = .ok (.iadd, 1) := by decide +kernel
theorem dX5_learn_14 : decode cX5_learn 14 = .ok (.iaload, 1) := by decide +kernel
theorem dX5_learn_15 : decode cX5_learn 15 = .ok (.istore 4, 2) := by decide +kernel
theorem dX5_learn_17 : decode cX5_learn 17 = .ok (.iload_n 2, 1) := by decide +kernel
theorem dX5_learn_18 : decode cX5_learn 18 = .ok (.iconst 1, 1) := by decide +kernel
theorem dX5_learn_19 : decode cX5_learn 19 = .ok (.if_icmp .ne 25, 3) := by decide +kernel
theorem dX5_learn_22 : decode cX5_learn 22 = .ok (.aload_n 0, 1) := by decide +kernel
theorem dX5_learn_23 : decode cX5_learn 23 = .ok (.getfield 25, 3) := by decide +kernel
theorem dX5_learn_26 : decode cX5_learn 26 = .ok (.getfield 19, 3) := by decide +kernel
theorem dX5_learn_29 : decode cX5_learn 29 = .ok (.iload_n 3, 1) := by decide +kernel
theorem dX5_learn_30 : decode cX5_learn 30 = .ok (.iconst 0, 1) := by decide +kernel
theorem dX5_learn_31 : decode cX5_learn 31 = .ok (.iadd, 1) := by decide +kernel
theorem dX5_learn_32 : decode cX5_learn 32 = .ok (.iload 4, 2) := by decide +kernel
theorem dX5_learn_34 : decode cX5_learn 34 = .ok (.iconst 1, 1) := by decide +kernel
theorem dX5_learn_35 : decode cX5_learn 35 = .ok (.iadd, 1) := by decide +kernel
theorem dX5_learn_36 : decode cX5_learn 36 = .ok (.sipush 255, 3) := by decide +kernel
theorem dX5_learn_39 : decode cX5_learn 39 = .ok (.invokestatic 32, 3) := by decide +kernel
theorem dX5_learn_42 : decode cX5_learn 42 = .ok (.iastore, 1) := by decide +kernel
theorem dX5_learn_43 : decode cX5_learn 43 = .ok (.return_, 1) := by decide +kernel
theorem dX5_learn_44 : decode cX5_learn 44 = .ok (.iload 4, 2) := by decide +kernel
theorem dX5_learn_46 : decode cX5_learn 46 = .ok (.aload_n 0, 1) := by decide +kernel
theorem dX5_learn_47 : decode cX5_learn 47 = .ok (.getfield 25, 3) := by decide +kernel
theorem dX5_learn_50 : decode cX5_learn 50 = .ok (.getfield 19, 3) := by decide +kernel
theorem dX5_learn_53 : decode cX5_learn 53 = .ok (.iload_n 3, 1) := by decide +kernel
theorem dX5_learn_54 : decode cX5_learn 54 = .ok (.iconst 1, 1) := by decide +kernel
theorem dX5_learn_55 : decode cX5_learn 55 = .ok (.iadd, 1) := by decide +kernel
theorem dX5_learn_56 : decode cX5_learn 56 = .ok (.iaload, 1) := by decide +kernel
theorem dX5_learn_57 : decode cX5_learn 57 = .ok (.if_icmp .ne 7, 3) := by decide +kernel
theorem dX5_learn_60 : decode cX5_learn 60 = .ok (.iconst 1, 1) := by decide +kernel
theorem dX5_learn_61 : decode cX5_learn 61 = .ok (.goto 4, 3) := by decide +kernel
theorem dX5_learn_64 : decode cX5_learn 64 = .ok (.iconst 0, 1) := by decide +kernel
theorem dX5_learn_65 : decode cX5_learn 65 = .ok (.istore 5, 2) := by decide +kernel
theorem dX5_learn_67 : decode cX5_learn 67 = .ok (.aload_n 0, 1) := by decide +kernel
theorem dX5_learn_68 : decode cX5_learn 68 = .ok (.getfield 25, 3) := by decide +kernel
theorem dX5_learn_71 : decode cX5_learn 71 = .ok (.getfield 19, 3) := by decide +kernel
theorem dX5_learn_74 : decode cX5_learn 74 = .ok (.iload_n 3, 1) := by decide +kernel
theorem dX5_learn_75 : decode cX5_learn 75 = .ok (.iconst 2, 1) := by decide +kernel
theorem dX5_learn_76 : decode cX5_learn 76 = .ok (.iadd, 1) := by decide +kernel
theorem dX5_learn_77 : decode cX5_learn 77 = .ok (.iload 5, 2) := by decide +kernel
theorem dX5_learn_79 : decode cX5_learn 79 = .ok (.ifCond .eq 23, 3) := by decide +kernel
theorem dX5_learn_82 : decode cX5_learn 82 = .ok (.aload_n 0, 1) := by decide +kernel
theorem dX5_learn_83 : decode cX5_learn 83 = .ok (.getfield 25, 3) := by decide +kernel
theorem dX5_learn_86 : decode cX5_learn 86 = .ok (.getfield 19, 3) := by decide +kernel
theorem dX5_learn_89 : decode cX5_learn 89 = .ok (.iload_n 3, 1) := by decide +kernel
theorem dX5_learn_90 : decode cX5_learn 90 = .ok (.iconst 2, 1) := by decide +kernel
theorem dX5_learn_91 : decode cX5_learn 91 = .ok (.iadd, 1) := by decide +kernel
theorem dX5_learn_92 : decode cX5_learn 92 = .ok (.iaload, 1) := by decide +kernel
theorem dX5_learn_93 : decode cX5_learn 93 = .ok (.iconst 1, 1) := by decide +kernel
theorem dX5_learn_94 : decode cX5_learn 94 = .ok (.iadd, 1) := by decide +kernel
theorem dX5_learn_95 : decode cX5_learn 95 = .ok (.iconst 3, 1) := by decide +kernel
theorem dX5_learn_96 : decode cX5_learn 96 = .ok (.invokestatic 32, 3) := by decide +kernel
theorem dX5_learn_99 : decode cX5_learn 99 = .ok (.goto 4, 3) := by decide +kernel
theorem dX5_learn_102 : decode cX5_learn 102 = .ok (.iconst 0, 1) := by decide +kernel
theorem dX5_learn_103 : decode cX5_learn 103 = .ok (.iastore, 1) := by decide +kernel
theorem dX5_learn_104 : decode cX5_learn 104 = .ok (.aload_n 0, 1) := by decide +kernel
theorem dX5_learn_105 : decode cX5_learn 105 = .ok (.getfield 25, 3) := by decide +kernel
theorem dX5_learn_108 : decode cX5_learn 108 = .ok (.getfield 19, 3) := by decide +kernel
theorem dX5_learn_111 : decode cX5_learn 111 = .ok (.iload_n 3, 1) := by decide +kernel
theorem dX5_learn_112 : decode cX5_learn 112 = .ok (.iconst 1, 1) := by decide +kernel
theorem dX5_learn_113 : decode cX5_learn 113 = .ok (.iadd, 1) := by decide +kernel
theorem dX5_learn_114 : decode cX5_learn 114 = .ok (.iload 4, 2) := by decide +kernel
theorem dX5_learn_116 : decode cX5_learn 116 = .ok (.iastore, 1) := by decide +kernel
theorem dX5_learn_117 : decode cX5_learn 117 = .ok (.aload_n 0, 1) := by decide +kernel
theorem dX5_learn_118 : decode cX5_learn 118 = .ok (.getfield 25, 3) := by decide +kernel
theorem dX5_learn_121 : decode cX5_learn 121 = .ok (.getfield 19, 3) := by decide +kernel
theorem dX5_learn_124 : decode cX5_learn 124 = .ok (.iload_n 3, 1) := by decide +kernel
theorem dX5_learn_125 : decode cX5_learn 125 = .ok (.iconst 0, 1) := by decide +kernel
theorem dX5_learn_126 : decode cX5_learn 126 = .ok (.iadd, 1) := by decide +kernel
theorem dX5_learn_127 : decode cX5_learn 127 = .ok (.iconst 0, 1) := by decide +kernel
theorem dX5_learn_128 : decode cX5_learn 128 = .ok (.iastore, 1) := by decide +kernel
theorem dX5_learn_129 : decode cX5_learn 129 = .ok (.return_, 1) := by decide +kernel
theorem dX5_slotOf_0 : decode cX5_slotOf 0 = .ok (.iconst (-1), 1) := by decide +kernel
theorem dX5_slotOf_1 : decode cX5_slotOf 1 = .ok (.ireturn, 1) := by decide +kernel
theorem dX6_init_0 : decode cX6_init 0 = .ok (.aload_n 0, 1) := by decide +kernel
theorem dX6_init_1 : decode cX6_init 1 = .ok (.invokespecial 3, 3) := by decide +kernel
theorem dX6_init_4 : decode cX6_init 4 = .ok (.aload_n 0, 1) := by decide +kernel
theorem dX6_init_5 : decode cX6_init 5 = .ok (.bipush 64, 2) := by decide +kernel
theorem dX6_init_7 : decode cX6_init 7 = .ok (.newarray .int, 2) := by decide +kernel
theorem dX6_init_9 : decode cX6_init 9 = .ok (.putfield 9, 3) := by decide +kernel
theorem dX6_init_12 : decode cX6_init 12 = .ok (.aload_n 0, 1) := by decide +kernel
theorem dX6_init_13 : decode cX6_init 13 = .ok (.bipush 64, 2) := by decide +kernel
theorem dX6_init_15 : decode cX6_init 15 = .ok (.newarray .int, 2) := by decide +kernel
theorem dX6_init_17 : decode cX6_init 17 = .ok (.putfield 15, 3) := by decide +kernel
theorem dX6_init_20 : decode cX6_init 20 = .ok (.aload_n 0, 1) := by decide +kernel
theorem dX6_init_21 : decode cX6_init 21 = .ok (.bipush 64, 2) := by decide +kernel
theorem dX6_init_23 : decode cX6_init 23 = .ok (.newarray .int, 2) := by decide +kernel
theorem dX6_init_25 : decode cX6_init 25 = .ok (.putfield 18, 3) := by decide +kernel
theorem dX6_init_28 : decode cX6_init 28 = .ok (.aload_n 0, 1) := by decide +kernel
theorem dX6_init_29 : decode cX6_init 29 = .ok (.bipush 64, 2) := by decide +kernel
theorem dX6_init_31 : decode cX6_init 31 = .ok (.newarray .int, 2) := by decide +kernel
theorem dX6_init_33 : decode cX6_init 33 = .ok (.putfield 21, 3) := by decide +kernel
theorem dX6_init_36 : decode cX6_init 36 = .ok (.aload_n 0, 1) := by decide +kernel
theorem dX6_init_37 : decode cX6_init 37 = .ok (.bipush 8, 2) := by decide +kernel
theorem dX6_init_39 : decode cX6_init 39 = .ok (.newarray .int, 2) := by decide +kernel
theorem dX6_init_41 : decode cX6_init 41 = .ok (.putfield 24, 3) := by decide +kernel
theorem dX6_init_44 : decode cX6_init 44 = .ok (.aload_n 0, 1) := by decide +kernel
theorem dX6_init_45 : decode cX6_init 45 = .ok (.bipush 32, 2) := by decide +kernel
theorem dX6_init_47 : decode cX6_init 47 = .ok (.newarray .int, 2) := by decide +kernel
theorem dX6_init_49 : decode cX6_init 49 = .ok (.putfield 27, 3) := by decide +kernel
theorem dX6_init_52 : decode cX6_init 52 = .ok (.return_, 1) := by decide +kernel
theorem dX6_write_0 : decode cX6_write 0 = .ok (.aload_n 0, 1) := by decide +kernel
theorem dX6_write_1 : decode cX6_write 1 = .ok (.getfield 9, 3) := by decide +kernel
theorem dX6_write_4 : decode cX6_write 4 = .ok (.iload_n 1, 1) := by decide +kernel
theorem dX6_write_5 : decode cX6_write 5 = .ok (.iload_n 2, 1) := by decide +kernel
theorem dX6_write_6 : decode cX6_write 6 = .ok (.iastore, 1) := by decide +kernel
theorem dX6_write_7 : decode cX6_write 7 = .ok (.aload_n 0, 1) := by decide +kernel
theorem dX6_write_8 : decode cX6_write 8 = .ok (.getfield 15, 3) := by decide +kernel
theorem dX6_write_11 : decode cX6_write 11 = .ok (.iload_n 1, 1) := by decide +kernel
theorem dX6_write_12 : decode cX6_write 12 = .ok (.iload_n 3, 1) := by decide +kernel
theorem dX6_write_13 : decode cX6_write 13 = .ok (.iastore, 1) := by decide +kernel
theorem dX6_write_14 : decode cX6_write 14 = .ok (.aload_n 0, 1) := by decide +kernel
theorem dX6_write_15 : decode cX6_write 15 = .ok (.getfield 18, 3) := by decide +kernel
theorem dX6_write_18 : decode cX6_write 18 = .ok (.iload_n 1, 1) := by decide +kernel
theorem dX6_write_19 : decode cX6_write 19 = .ok (.iload 4, 2) := by decide +kernel
theorem dX6_write_21 : decode cX6_write 21 = .ok (.iastore, 1) := by decide +kernel
theorem dX6_write_22 : decode cX6_write 22 = .ok (.aload_n 0, 1) := by decide +kernel
theorem dX6_write_23 : decode cX6_write 23 = .ok (.getfield 21, 3) := by decide +kernel
theorem dX6_write_26 : decode cX6_write 26 = .ok (.iload_n 1, 1) := by decide +kernel
theorem dX6_write_27 : decode cX6_write 27 = .ok (.iload 5, 2) := by decide +kernel
theorem dX6_write_29 : decode cX6_write 29 = .ok (.iastore, 1) := by decide +kernel
theorem dX6_write_30 : decode cX6_write 30 = .ok (.return_, 1) := by decide +kernel
theorem dX6_step_0 : decode cX6_step 0 = .ok (.aload_n 0, 1) := by decide +kernel
theorem dX6_step_1 : decode cX6_step 1 = .ok (.getfield 30, 3) := by decide +kernel
theorem dX6_step_4 : decode cX6_step 4 = .ok (.istore_n 1, 1) := by decide +kernel
theorem dX6_step_5 : decode cX6_step 5 = .ok (.aload_n 0, 1) := by decide +kernel
theorem dX6_step_6 : decode cX6_step 6 = .ok (.getfield 9, 3) := by decide +kernel
theorem dX6_step_9 : decode cX6_step 9 = .ok (.iload_n 1, 1) := by decide +kernel
theorem dX6_step_10 : decode cX6_step 10 = .ok (.iaload, 1) := by decide +kernel
theorem dX6_step_11 : decode cX6_step 11 = .ok (.istore_n 2, 1) := by decide +kernel
theorem dX6_step_12 : decode cX6_step 12 = .ok (.iload_n 2, 1) := by decide +kernel
theorem dX6_step_13 : decode cX6_step 13 = .ok (.ifCond .ne 5, 3) := by decide +kernel
theorem dX6_step_16 : decode cX6_step 16 = .ok (.iconst (-1), 1) := by decide +kernel
theorem dX6_step_17 : decode cX6_step 17 = .ok (.ireturn, 1) := by decide +kernel
theorem dX6_step_18 : decode cX6_step 18 = .ok (.aload_n 0, 1) := by decide +kernel
theorem dX6_step_19 : decode cX6_step 19 = .ok (.dup, 1) := by decide +kernel
theorem dX6_step_20 : decode cX6_step 20 = .ok (.getfield 34, 3) := by decide +kernel
theorem dX6_step_23 : decode cX6_step 23 = .ok (.iconst 1, 1) := by decide +kernel
theorem dX6_step_24 : decode cX6_step 24 = .ok (.iadd, 1) := by decide +kernel
theorem dX6_step_25 : decode cX6_step 25 = .ok (.putfield 34, 3) := by decide +kernel
theorem dX6_step_28 : decode cX6_step 28 = .ok (.aload_n 0, 1) := by decide +kernel
theorem dX6_step_29 : decode cX6_step 29 = .ok (.iload_n 1, 1) := by decide +kernel
theorem dX6_step_30 : decode cX6_step 30 = .ok (.iconst 1, 1) := by decide +kernel
theorem dX6_step_31 : decode cX6_step 31 = .ok (.iadd, 1) := by decide +kernel
theorem dX6_step_32 : decode cX6_step 32 = .ok (.bipush 63, 2) := by decide +kernel
theorem dX6_step_34 : decode cX6_step 34 = .ok (.iand, 1) := by decide +kernel
theorem dX6_step_35 : decode cX6_step 35 = .ok (.putfield 30, 3) := by decide +kernel
theorem dX6_step_38 : decode cX6_step 38 = .ok (.iload_n 2, 1) := by decide +kernel
theorem dX6_step_39 : decode cX6_step 39 = .ok (.bipush 9, 2) := by decide +kernel
theorem dX6_step_41 : decode cX6_step 41 = .ok (.if_icmp .ge 28, 3) := by decide +kernel
theorem dX6_step_44 : decode cX6_step 44 = .ok (.aload_n 0, 1) := by decide +kernel
theorem dX6_step_45 : decode cX6_step 45 = .ok (.iload_n 2, 1) := by decide +kernel
theorem dX6_step_46 : decode cX6_step 46 = .ok (.aload_n 0, 1) := by decide +kernel
theorem dX6_step_47 : decode cX6_step 47 = .ok (.getfield 15, 3) := by decide +kernel
theorem dX6_step_50 : decode cX6_step 50 = .ok (.iload_n 1, 1) := by decide +kernel
theorem dX6_step_51 : decode cX6_step 51 = .ok (.iaload, 1) := by decide +kernel
theorem dX6_step_52 : decode cX6_step 52 = .ok (.aload_n 0, 1) := by decide +kernel
theorem dX6_step_53 : decode cX6_step 53 = .ok (.getfield 18, 3) := by decide +kernel
theorem dX6_step_56 : decode cX6_step 56 = .ok (.iload_n 1, 1) := by decide +kernel
theorem dX6_step_57 : decode cX6_step 57 = .ok (.iaload, 1) := by decide +kernel
theorem dX6_step_58 : decode cX6_step 58 = .ok (.aload_n 0, 1) := by decide +kernel
theorem dX6_step_59 : decode cX6_step 59 = .ok (.getfield 21, 3) := by decide +kernel
theorem dX6_step_62 : decode cX6_step 62 = .ok (.iload_n 1, 1) := by decide +kernel
theorem dX6_step_63 : decode cX6_step 63 = .ok (.iaload, 1) := by decide +kernel
theorem dX6_step_64 : decode cX6_step 64 = .ok (.invokevirtual 37, 3) := by decide +kernel
theorem dX6_step_67 : decode cX6_step 67 = .ok (.iconst 2, 1) := by decide +kernel
theorem dX6_step_68 : decode cX6_step 68 = .ok (.ireturn, 1) := by decide +kernel
theorem dX6_step_69 : decode cX6_step 69 = .ok (.iload_n 2, 1) := by decide +kernel
theorem dX6_step_70 : decode cX6_step 70 = .ok (.bipush 12, 2) := by decide +kernel
theorem dX6_step_72 : decode cX6_step 72 = .ok (.if_icmp .eq 32, 3) := by decide +kernel
theorem dX6_step_75 : decode cX6_step 75 = .ok (.iload_n 2, 1) := by decide +kernel
theorem dX6_step_76 : decode cX6_step 76 = .ok (.aload_n 0, 1) := by decide +kernel
theorem dX6_step_77 : decode cX6_step 77 = .ok (.getfield 24, 3) := by decide +kernel
theorem dX6_step_80 : decode cX6_step 80 = .ok (.aload_n 0, 1) := by decide +kernel
theorem dX6_step_81 : decode cX6_step 81 = .ok (.getfield 15, 3) := by decide +kernel
theorem dX6_step_84 : decode cX6_step 84 = .ok (.iload_n 1, 1) := by decide +kernel
theorem dX6_step_85 : decode cX6_step 85 = .ok (.iaload, 1) := by decide +kernel
theorem dX6_step_86 : decode cX6_step 86 = .ok (.iaload, 1) := by decide +kernel
theorem dX6_step_87 : decode cX6_step 87 = .ok (.aload_n 0, 1) := by decide +kernel
theorem dX6_step_88 : decode cX6_step 88 = .ok (.getfield 24, 3) := by decide +kernel
theorem dX6_step_91 : decode cX6_step 91 = .ok (.aload_n 0, 1) := by decide +kernel
theorem dX6_step_92 : decode cX6_step 92 = .ok (.getfield 18, 3) := by decide +kernel
theorem dX6_step_95 : decode cX6_step 95 = .ok (.iload_n 1, 1) := by decide +kernel
theorem dX6_step_96 : decode cX6_step 96 = .ok (.iaload, 1) := by decide +kernel
theorem dX6_step_97 : decode cX6_step 97 = .ok (.iaload, 1) := by decide +kernel
theorem dX6_step_98 : decode cX6_step 98 = .ok (.invokestatic 41, 3) := by decide +kernel
theorem dX6_step_101 : decode cX6_step 101 = .ok (.ifCond .eq 7, 3) := by decide +kernel
theorem dX6_step_104 : decode cX6_step 104 = .ok (.iconst 1, 1) := by decide +kernel
theorem dX6_step_105 : decode cX6_step 105 = .ok (.goto 4, 3) := by decide +kernel
theorem dX6_step_108 : decode cX6_step 108 = .ok (.iconst 0, 1) := by decide +kernel
theorem dX6_step_109 : decode cX6_step 109 = .ok (.istore_n 3, 1) := by decide +kernel
theorem dX6_step_110 : decode cX6_step 110 = .ok (.iload_n 3, 1) := by decide +kernel
theorem dX6_step_111 : decode cX6_step 111 = .ok (.ifCond .eq 16, 3) := by decide +kernel
theorem dX6_step_114 : decode cX6_step 114 = .ok (.aload_n 0, 1) := by decide +kernel
theorem dX6_step_115 : decode cX6_step 115 = .ok (.aload_n 0, 1) := by decide +kernel
theorem dX6_step_116 : decode cX6_step 116 = .ok (.getfield 21, 3) := by decide +kernel
theorem dX6_step_119 : decode cX6_step 119 = .ok (.iload_n 1, 1) := by decide +kernel
theorem dX6_step_120 : decode cX6_step 120 = .ok (.iaload, 1) := by decide +kernel
theorem dX6_step_121 : decode cX6_step 121 = .ok (.bipush 63, 2) := by decide +kernel
theorem dX6_step_123 : decode cX6_step 123 = .ok (.iand, 1) := by decide +kernel
theorem dX6_step_124 : decode cX6_step 124 = .ok (.putfield 30, 3) := by decide +kernel
theorem dX6_step_127 : decode cX6_step 127 = .ok (.iload_n 2, 1) := by decide +kernel
theorem dX6_step_128 : decode cX6_step 128 = .ok (.bipush 12, 2) := by decide +kernel
theorem dX6_step_130 : decode cX6_step 130 = .ok (.if_icmp .ne 5, 3) := by decide +kernel
theorem dX6_step_133 : decode cX6_step 133 = .ok (.iconst 2, 1) := by decide +kernel
theorem dX6_step_134 : decode cX6_step 134 = .ok (.ireturn, 1) := by decide +kernel
theorem dX6_step_135 : decode cX6_step 135 = .ok (.iload_n 3, 1) := by decide +kernel
theorem dX6_step_136 : decode cX6_step 136 = .ok (.ifCond .eq 7, 3) := by decide +kernel
theorem dX6_step_139 : decode cX6_step 139 = .ok (.iconst 1, 1) := by decide +kernel
theorem dX6_step_140 : decode cX6_step 140 = .ok (.goto 4, 3) := by decide +kernel
theorem dX6_step_143 : decode cX6_step 143 = .ok (.iconst 0, 1) := by decide +kernel
theorem dX6_step_144 : decode cX6_step 144 = .ok (.ireturn, 1) := by decide +kernel
theorem dX6_holds_0 : decode cX6_holds 0 = .ok (.iload_n 0, 1) := by decide +kernel
theorem dX6_holds_1 : decode cX6_holds 1 = .ok (.bipush 9, 2) := by decide +kernel
theorem dX6_holds_3 : decode cX6_holds 3 = .ok (.if_icmp .ne 14, 3) := by decide +kernel
theorem dX6_holds_6 : decode cX6_holds 6 = .ok (.iload_n 1, 1) := by decide +kernel
theorem dX6_holds_7 : decode cX6_holds 7 = .ok (.iload_n 2, 1) := by decide +kernel
theorem dX6_holds_8 : decode cX6_holds 8 = .ok (.if_icmp .ge 7, 3) := by decide +kernel
theorem dX6_holds_11 : decode cX6_holds 11 = .ok (.iconst 1, 1) := by decide +kernel
theorem dX6_holds_12 : decode cX6_holds 12 = .ok (.goto 4, 3) := by decide +kernel
theorem dX6_holds_15 : decode cX6_holds 15 = .ok (.iconst 0, 1) := by decide +kernel
theorem dX6_holds_16 : decode cX6_holds 16 = .ok (.ireturn, 1) := by decide +kernel
theorem dX6_holds_17 : decode cX6_holds 17 = .ok (.iload_n 0, 1) := by decide +kernel
theorem dX6_holds_18 : decode cX6_holds 18 = .ok (.bipush 10, 2) := by decide +kernel
theorem dX6_holds_20 : decode cX6_holds 20 = .ok (.if_icmp .ne 14, 3) := by decide +kernel
theorem dX6_holds_23 : decode cX6_holds 23 = .ok (.iload_n 1, 1) := by decide +kernel
theorem dX6_holds_24 : decode cX6_holds 24 = .ok (.iload_n 2, 1) := by decide +kernel
theorem dX6_holds_25 : decode cX6_holds 25 = .ok (.if_icmp .ne 7, 3) := by decide +kernel
theorem dX6_holds_28 : decode cX6_holds 28 = .ok (.iconst 1, 1) := by decide +kernel
theorem dX6_holds_29 : decode cX6_holds 29 = .ok (.goto 4, 3) := by decide +kernel
theorem dX6_holds_32 : decode cX6_holds 32 = .ok (.iconst 0, 1) := by decide +kernel
theorem dX6_holds_33 : decode cX6_holds 33 = .ok (.ireturn, 1) := by decide +kernel
theorem dX6_holds_34 : decode cX6_holds 34 = .ok (.iload_n 1, 1) := by decide +kernel
theorem dX6_holds_35 : decode cX6_holds 35 = .ok (.ifCond .eq 7, 3) := by decide +kernel
theorem dX6_holds_38 : decode cX6_holds 38 = .ok (.iconst 1, 1) := by decide +kernel
theorem dX6_holds_39 : decode cX6_holds 39 = .ok (.goto 4, 3) := by decide +kernel
theorem dX6_holds_42 : decode cX6_holds 42 = .ok (.iconst 0, 1) := by decide +kernel
theorem dX6_holds_43 : decode cX6_holds 43 = .ok (.ireturn, 1) := by decide +kernel
theorem dX6_reckon_0 : decode cX6_reckon 0 = .ok (.aload_n 0, 1) := by decide +kernel
theorem dX6_reckon_1 : decode cX6_reckon 1 = .ok (.getfield 24, 3) := by decide +kernel
theorem dX6_reckon_4 : decode cX6_reckon 4 = .ok (.iload_n 3, 1) := by decide +kernel
theorem dX6_reckon_5 : decode cX6_reckon 5 = .ok (.iaload, 1) := by decide +kernel
theorem dX6_reckon_6 : decode cX6_reckon 6 = .ok (.bipush 31, 2) := by decide +kernel
theorem dX6_reckon_8 : decode cX6_reckon 8 = .ok (.iand, 1) := by decide +kernel
theorem dX6_reckon_9 : decode cX6_reckon 9 = .ok (.istore 5, 2) := by decide +kernel
theorem dX6_reckon_11 : decode cX6_reckon 11 = .ok (.iload_n 1, 1) := by decide +kernel
theorem dX6_reckon_12 : decode cX6_reckon 12 = .ok (.tableswitch 176 1 8 #[48, 59, 77, 95, 113, 131, 144, 160], 48) := by decide +kernel
theorem dX6_reckon_60 : decode cX6_reckon 60 = .ok (.aload_n 0, 1) := by decide +kernel
theorem dX6_reckon_61 : decode cX6_reckon 61 = .ok (.getfield 24, 3) := by decide +kernel
theorem dX6_reckon_64 : decode cX6_reckon 64 = .ok (.iload_n 2, 1) := by decide +kernel
theorem dX6_reckon_65 : decode cX6_reckon 65 = .ok (.iload 4, 2) := by decide +kernel
theorem dX6_reckon_67 : decode cX6_reckon 67 = .ok (.iastore, 1) := by decide +kernel
theorem dX6_reckon_68 : decode cX6_reckon 68 = .ok (.goto 120, 3) := by decide +kernel
theorem dX6_reckon_71 : decode cX6_reckon 71 = .ok (.aload_n 0, 1) := by decide +kernel
theorem dX6_reckon_72 : decode cX6_reckon 72 = .ok (.getfield 24, 3) := by decide +kernel
theorem dX6_reckon_75 : decode cX6_reckon 75 = .ok (.iload_n 2, 1) := by decide +kernel
theorem dX6_reckon_76 : decode cX6_reckon 76 = .ok (.dup2, 1) := by decide +kernel
theorem dX6_reckon_77 : decode cX6_reckon 77 = .ok (.iaload, 1) := by decide +kernel
theorem dX6_reckon_78 : decode cX6_reckon 78 = .ok (.aload_n 0, 1) := by decide +kernel
theorem dX6_reckon_79 : decode cX6_reckon 79 = .ok (.getfield 24, 3) := by decide +kernel
theorem dX6_reckon_82 : decode cX6_reckon 82 = .ok (.iload_n 3, 1) := by decide +kernel
theorem dX6_reckon_83 : decode cX6_reckon 83 = .ok (.iaload, 1) := by decide +kernel
theorem dX6_reckon_84 : decode cX6_reckon 84 = .ok (.iadd, 1) := by decide +kernel
theorem dX6_reckon_85 : decode cX6_reckon 85 = .ok (.iastore, 1) := by decide +kernel
theorem dX6_reckon_86 : decode cX6_reckon 86 = .ok (.goto 102, 3) := by decide +kernel
theorem dX6_reckon_89 : decode cX6_reckon 89 = .ok (.aload_n 0, 1) := by decide +kernel
theorem dX6_reckon_90 : decode cX6_reckon 90 = .ok (.getfield 24, 3) := by decide +kernel
theorem dX6_reckon_93 : decode cX6_reckon 93 = .ok (.iload_n 2, 1) := by decide +kernel
theorem dX6_reckon_94 : decode cX6_reckon 94 = .ok (.dup2, 1) := by decide +kernel
theorem dX6_reckon_95 : decode cX6_reckon 95 = .ok (.iaload, 1) := by decide +kernel
theorem dX6_reckon_96 : decode cX6_reckon 96 = .ok (.aload_n 0, 1) := by decide +kernel
theorem dX6_reckon_97 : decode cX6_reckon 97 = .ok (.getfield 24, 3) := by decide +kernel
theorem dX6_reckon_100 : decode cX6_reckon 100 = .ok (.iload_n 3, 1) := by decide +kernel
theorem dX6_reckon_101 : decode cX6_reckon 101 = .ok (.iaload, 1) := by decide +kernel
theorem dX6_reckon_102 : decode cX6_reckon 102 = .ok (.isub, 1) := by decide +kernel
theorem dX6_reckon_103 : decode cX6_reckon 103 = .ok (.iastore, 1) := by decide +kernel
theorem dX6_reckon_104 : decode cX6_reckon 104 = .ok (.goto 84, 3) := by decide +kernel
theorem dX6_reckon_107 : decode cX6_reckon 107 = .ok (.aload_n 0, 1) := by decide +kernel
theorem dX6_reckon_108 : decode cX6_reckon 108 = .ok (.getfield 24, 3) := by decide +kernel
theorem dX6_reckon_111 : decode cX6_reckon 111 = .ok (.iload_n 2, 1) := by decide +kernel
theorem dX6_reckon_112 : decode cX6_reckon 112 = .ok (.dup2, 1) := by decide +kernel
theorem dX6_reckon_113 : decode cX6_reckon 113 = .ok (.iaload, 1) := by decide +kernel
theorem dX6_reckon_114 : decode cX6_reckon 114 = .ok (.aload_n 0, 1) := by decide +kernel
theorem dX6_reckon_115 : decode cX6_reckon 115 = .ok (.getfield 24, 3) := by decide +kernel
theorem dX6_reckon_118 : decode cX6_reckon 118 = .ok (.iload_n 3, 1) := by decide +kernel
theorem dX6_reckon_119 : decode cX6_reckon 119 = .ok (.iaload, 1) := by decide +kernel
theorem dX6_reckon_120 : decode cX6_reckon 120 = .ok (.imul, 1) := by decide +kernel
theorem dX6_reckon_121 : decode cX6_reckon 121 = .ok (.iastore, 1) := by decide +kernel
theorem dX6_reckon_122 : decode cX6_reckon 122 = .ok (.goto 66, 3) := by decide +kernel
theorem dX6_reckon_125 : decode cX6_reckon 125 = .ok (.aload_n 0, 1) := by decide +kernel
theorem dX6_reckon_126 : decode cX6_reckon 126 = .ok (.getfield 24, 3) := by decide +kernel
theorem dX6_reckon_129 : decode cX6_reckon 129 = .ok (.iload_n 2, 1) := by decide +kernel
theorem dX6_reckon_130 : decode cX6_reckon 130 = .ok (.dup2, 1) := by decide +kernel
theorem dX6_reckon_131 : decode cX6_reckon 131 = .ok (.iaload, 1) := by decide +kernel
theorem dX6_reckon_132 : decode cX6_reckon 132 = .ok (.aload_n 0, 1) := by decide +kernel
theorem dX6_reckon_133 : decode cX6_reckon 133 = .ok (.getfield 24, 3) := by decide +kernel
theorem dX6_reckon_136 : decode cX6_reckon 136 = .ok (.iload_n 3, 1) := by decide +kernel
theorem dX6_reckon_137 : decode cX6_reckon 137 = .ok (.iaload, 1) := by decide +kernel
theorem dX6_reckon_138 : decode cX6_reckon 138 = .ok (.iand, 1) := by decide +kernel
theorem dX6_reckon_139 : decode cX6_reckon 139 = .ok (.iastore, 1) := by decide +kernel
theorem dX6_reckon_140 : decode cX6_reckon 140 = .ok (.goto 48, 3) := by decide +kernel
theorem dX6_reckon_143 : decode cX6_reckon 143 = .ok (.aload_n 0, 1) := by decide +kernel
theorem dX6_reckon_144 : decode cX6_reckon 144 = .ok (.getfield 24, 3) := by decide +kernel
theorem dX6_reckon_147 : decode cX6_reckon 147 = .ok (.iload_n 2, 1) := by decide +kernel
theorem dX6_reckon_148 : decode cX6_reckon 148 = .ok (.dup2, 1) := by decide +kernel
theorem dX6_reckon_149 : decode cX6_reckon 149 = .ok (.iaload, 1) := by decide +kernel
theorem dX6_reckon_150 : decode cX6_reckon 150 = .ok (.iconst 1, 1) := by decide +kernel
theorem dX6_reckon_151 : decode cX6_reckon 151 = .ok (.iushr, 1) := by decide +kernel
theorem dX6_reckon_152 : decode cX6_reckon 152 = .ok (.iastore, 1) := by decide +kernel
theorem dX6_reckon_153 : decode cX6_reckon 153 = .ok (.goto 35, 3) := by decide +kernel
theorem dX6_reckon_156 : decode cX6_reckon 156 = .ok (.aload_n 0, 1) := by decide +kernel
theorem dX6_reckon_157 : decode cX6_reckon 157 = .ok (.getfield 24, 3) := by decide +kernel
theorem dX6_reckon_160 : decode cX6_reckon 160 = .ok (.iload_n 2, 1) := by decide +kernel
theorem dX6_reckon_161 : decode cX6_reckon 161 = .ok (.aload_n 0, 1) := by decide +kernel
theorem dX6_reckon_162 : decode cX6_reckon 162 = .ok (.getfield 27, 3) := by decide +kernel
theorem dX6_reckon_165 : decode cX6_reckon 165 = .ok (.iload 5, 2) := by decide +kernel
theorem dX6_reckon_167 : decode cX6_reckon 167 = .ok (.iaload, 1) := by decide +kernel
theorem dX6_reckon_168 : decode cX6_reckon 168 = .ok (.iastore, 1) := by decide +kernel
theorem dX6_reckon_169 : decode cX6_reckon 169 = .ok (.goto 19, 3) := by decide +kernel
theorem dX6_reckon_172 : decode cX6_reckon 172 = .ok (.aload_n 0, 1) := by decide +kernel
theorem dX6_reckon_173 : decode cX6_reckon 173 = .ok (.getfield 27, 3) := by decide +kernel
theorem dX6_reckon_176 : decode cX6_reckon 176 = .ok (.iload 5, 2) := by decide +kernel
theorem dX6_reckon_178 : decode cX6_reckon 178 = .ok (.aload_n 0, 1) := by decide +kernel
theorem dX6_reckon_179 : decode cX6_reckon 179 = .ok (.getfield 24, 3) := by decide +kernel
theorem dX6_reckon_182 : decode cX6_reckon 182 = .ok (.iload_n 2, 1) := by decide +kernel
theorem dX6_reckon_183 : decode cX6_reckon 183 = .ok (.iaload, 1) := by decide +kernel
theorem dX6_reckon_184 : decode cX6_reckon 184 = .ok (.iastore, 1) := by decide +kernel
theorem dX6_reckon_185 : decode cX6_reckon 185 = .ok (.goto 3, 3) := by decide +kernel
theorem dX6_reckon_188 : decode cX6_reckon 188 = .ok (.return_, 1) := by decide +kernel
theorem dX7_init_0 : decode cX7_init 0 = .ok (.aload_n 0, 1) := by decide +kernel
theorem dX7_init_1 : decode cX7_init 1 = .ok (.invokespecial 5, 3) := by decide +kernel
theorem dX7_init_4 : decode cX7_init 4 = .ok (.aload_n 0, 1) := by decide +kernel
theorem dX7_init_5 : decode cX7_init 5 = .ok (.sipush 3000, 3) := by decide +kernel
theorem dX7_init_8 : decode cX7_init 8 = .ok (.newarray .int, 2) := by decide +kernel
theorem dX7_init_10 : decode cX7_init 10 = .ok (.putfield 11, 3) := by decide +kernel
theorem dX7_init_13 : decode cX7_init 13 = .ok (.aload_n 0, 1) := by decide +kernel
theorem dX7_init_14 : decode cX7_init 14 = .ok (.sipush 128, 3) := by decide +kernel
theorem dX7_init_17 : decode cX7_init 17 = .ok (.newarray .int, 2) := by decide +kernel
theorem dX7_init_19 : decode cX7_init 19 = .ok (.putfield 15, 3) := by decide +kernel
theorem dX7_init_22 : decode cX7_init 22 = .ok (.aload_n 0, 1) := by decide +kernel
theorem dX7_init_23 : decode cX7_init 23 = .ok (.sipush 16384, 3) := by decide +kernel
theorem dX7_init_26 : decode cX7_init 26 = .ok (.newarray .int, 2) := by decide +kernel
theorem dX7_init_28 : decode cX7_init 28 = .ok (.putfield 18, 3) := by decide +kernel
theorem dX7_init_31 : decode cX7_init 31 = .ok (.aload_n 0, 1) := by decide +kernel
theorem dX7_init_32 : decode cX7_init 32 = .ok (.sipush 3000, 3) := by decide +kernel
theorem dX7_init_35 : decode cX7_init 35 = .ok (.newarray .int, 2) := by decide +kernel
theorem dX7_init_37 : decode cX7_init 37 = .ok (.putfield 21, 3) := by decide +kernel
theorem dX7_init_40 : decode cX7_init 40 = .ok (.aload_n 0, 1) := by decide +kernel
theorem dX7_init_41 : decode cX7_init 41 = .ok (.bipush 64, 2) := by decide +kernel
theorem dX7_init_43 : decode cX7_init 43 = .ok (.newarray .int, 2) := by decide +kernel
theorem dX7_init_45 : decode cX7_init 45 = .ok (.putfield 24, 3) := by decide +kernel
theorem dX7_init_48 : decode cX7_init 48 = .ok (.return_, 1) := by decide +kernel
theorem dX7_add_0 : decode cX7_add 0 = .ok (.aload_n 0, 1) := by decide +kernel
theorem dX7_add_1 : decode cX7_add 1 = .ok (.getfield 27, 3) := by decide +kernel
theorem dX7_add_4 : decode cX7_add 4 = .ok (.sipush 3000, 3) := by decide +kernel
theorem dX7_add_7 : decode cX7_add 7 = .ok (.if_icmp .lt 4, 3) := by decide +kernel
theorem dX7_add_10 : decode cX7_add 10 = .ok (.return_, 1) := by decide +kernel
theorem dX7_add_11 : decode cX7_add 11 = .ok (.aload_n 0, 1) := by decide +kernel
theorem dX7_add_12 : decode cX7_add 12 = .ok (.getfield 11, 3) := by decide +kernel
theorem dX7_add_15 : decode cX7_add 15 = .ok (.aload_n 0, 1) := by decide +kernel
theorem dX7_add_16 : decode cX7_add 16 = .ok (.getfield 27, 3) := by decide +kernel
theorem dX7_add_19 : decode cX7_add 19 = .ok (.iconst 2, 1) := by decide +kernel
theorem dX7_add_20 : decode cX7_add 20 = .ok (.iload_n 1, 1) := by decide +kernel
theorem dX7_add_21 : decode cX7_add 21 = .ok (.imul, 1) := by decide +kernel
theorem dX7_add_22 : decode cX7_add 22 = .ok (.iload_n 2, 1) := by decide +kernel
theorem dX7_add_23 : decode cX7_add 23 = .ok (.iadd, 1) := by decide +kernel
theorem dX7_add_24 : decode cX7_add 24 = .ok (.iastore, 1) := by decide +kernel
theorem dX7_add_25 : decode cX7_add 25 = .ok (.aload_n 0, 1) := by decide +kernel
theorem dX7_add_26 : decode cX7_add 26 = .ok (.getfield 15, 3) := by decide +kernel
theorem dX7_add_29 : decode cX7_add 29 = .ok (.iconst 2, 1) := by decide +kernel
theorem dX7_add_30 : decode cX7_add 30 = .ok (.iload_n 1, 1) := by decide +kernel
theorem dX7_add_31 : decode cX7_add 31 = .ok (.imul, 1) := by decide +kernel
theorem dX7_add_32 : decode cX7_add 32 = .ok (.iload_n 2, 1) := by decide +kernel
theorem dX7_add_33 : decode cX7_add 33 = .ok (.iadd, 1) := by decide +kernel
theorem dX7_add_34 : decode cX7_add 34 = .ok (.dup2, 1) := by decide +kernel
theorem dX7_add_35 : decode cX7_add 35 = .ok (.iaload, 1) := by decide +kernel
theorem dX7_add_36 : decode cX7_add 36 = .ok (.iconst 1, 1) := by decide +kernel
theorem dX7_add_37 : decode cX7_add 37 = .ok (.iadd, 1) := by decide +kernel
theorem dX7_add_38 : decode cX7_add 38 = .ok (.iastore, 1) := by decide +kernel
theorem dX7_add_39 : decode cX7_add 39 = .ok (.aload_n 0, 1) := by decide +kernel
theorem dX7_add_40 : decode cX7_add 40 = .ok (.dup, 1) := by decide +kernel
theorem dX7_add_41 : decode cX7_add 41 = .ok (.getfield 27, 3) := by decide +kernel
theorem dX7_add_44 : decode cX7_add 44 = .ok (.iconst 1, 1) := by decide +kernel
theorem dX7_add_45 : decode cX7_add 45 = .ok (.iadd, 1) := by decide +kernel
theorem dX7_add_46 : decode cX7_add 46 = .ok (.putfield 27, 3) := by decide +kernel
theorem dX7_add_49 : decode cX7_add 49 = .ok (.return_, 1) := by decide +kernel
theorem dX7_clear_0 : decode cX7_clear 0 = .ok (.aload_n 0, 1) := by decide +kernel
theorem dX7_clear_1 : decode cX7_clear 1 = .ok (.iconst 0, 1) := by decide +kernel
theorem dX7_clear_2 : decode cX7_clear 2 = .ok (.putfield 27, 3) := by decide +kernel
theorem dX7_clear_5 : decode cX7_clear 5 = .ok (.aload_n 0, 1) := by decide +kernel
theorem dX7_clear_6 : decode cX7_clear 6 = .ok (.getfield 15, 3) := by decide +kernel
theorem dX7_clear_9 : decode cX7_clear 9 = .ok (.iconst 0, 1) := by decide +kernel
theorem dX7_clear_10 : decode cX7_clear 10 = .ok (.invokestatic 31, 3) := by decide +kernel
theorem dX7_clear_13 : decode cX7_clear 13 = .ok (.return_, 1) := by decide +kernel
theorem dX7_placeOf_0 : decode cX7_placeOf 0 = .ok (.aload_n 0, 1) := by decide +kernel
theorem dX7_placeOf_1 : decode cX7_placeOf 1 = .ok (.getfield 11, 3) := by decide +kernel
theorem dX7_placeOf_4 : decode cX7_placeOf 4 = .ok (.iload_n 1, 1) := by decide +kernel
theorem dX7_placeOf_5 : decode cX7_placeOf 5 = .ok (.iaload, 1) := by decide +kernel
theorem dX7_placeOf_6 : decode cX7_placeOf 6 = .ok (.iconst 1, 1) := by decide +kernel
theorem dX7_placeOf_7 : decode cX7_placeOf 7 = .ok (.ishr, 1) := by decide +kernel
theorem dX7_placeOf_8 : decode cX7_placeOf 8 = .ok (.ireturn, 1) := by decide +kernel
theorem dX7_wayOf_0 : decode cX7_wayOf 0 = .ok (.aload_n 0, 1) := by decide +kernel
theorem dX7_wayOf_1 : decode cX7_wayOf 1 = .ok (.getfield 11, 3) := by decide +kernel
theorem dX7_wayOf_4 : decode cX7_wayOf 4 = .ok (.iload_n 1, 1) := by decide +kernel
theorem dX7_wayOf_5 : decode cX7_wayOf 5 = .ok (.iaload, 1) := by decide +kernel
theorem dX7_wayOf_6 : decode cX7_wayOf 6 = .ok (.iconst 1, 1) := by decide +kernel
theorem dX7_wayOf_7 : decode cX7_wayOf 7 = .ok (.iand, 1) := by decide +kernel
theorem dX7_wayOf_8 : decode cX7_wayOf 8 = .ok (.ireturn, 1) := by decide +kernel
theorem dX7_count_0 : decode cX7_count 0 = .ok (.aload_n 0, 1) := by decide +kernel
theorem dX7_count_1 : decode cX7_count 1 = .ok (.getfield 15, 3) := by decide +kernel
theorem dX7_count_4 : decode cX7_count 4 = .ok (.iconst 2, 1) := by decide +kernel
theorem dX7_count_5 : decode cX7_count 5 = .ok (.iload_n 1, 1) := by decide +kernel
theorem dX7_count_6 : decode cX7_count 6 = .ok (.imul, 1) := by decide +kernel
theorem dX7_count_7 : decode cX7_count 7 = .ok (.iload_n 2, 1) := by decide +kernel
theorem dX7_count_8 : decode cX7_count 8 = .ok (.iadd, 1) := by decide +kernel
theorem dX7_count_9 : decode cX7_count 9 = .ok (.iaload, 1) := by decide +kernel
theorem dX7_count_10 : decode cX7_count 10 = .ok (.ireturn, 1) := by decide +kernel
theorem dX7_usualWay_0 : decode cX7_usualWay 0 = .ok (.aload_n 0, 1) := by decide +kernel
theorem dX7_usualWay_1 : decode cX7_usualWay 1 = .ok (.iload_n 1, 1) := by decide +kernel
theorem dX7_usualWay_2 : decode cX7_usualWay 2 = .ok (.iconst 0, 1) := by decide +kernel
theorem dX7_usualWay_3 : decode cX7_usualWay 3 = .ok (.invokevirtual 37, 3) := by decide +kernel
theorem dX7_usualWay_6 : decode cX7_usualWay 6 = .ok (.istore_n 2, 1) := by decide +kernel
theorem dX7_usualWay_7 : decode cX7_usualWay 7 = .ok (.aload_n 0, 1) := by decide +kernel
theorem dX7_usualWay_8 : decode cX7_usualWay 8 = .ok (.iload_n 1, 1) := by decide +kernel
theorem dX7_usualWay_9 : decode cX7_usualWay 9 = .ok (.iconst 1, 1) := by decide +kernel
theorem dX7_usualWay_10 : decode cX7_usualWay 10 = .ok (.invokevirtual 37, 3) := by decide +kernel
theorem dX7_usualWay_13 : decode cX7_usualWay 13 = .ok (.istore_n 3, 1) := by decide +kernel
theorem dX7_usualWay_14 : decode cX7_usualWay 14 = .ok (.iload_n 2, 1) := by decide +kernel
theorem dX7_usualWay_15 : decode cX7_usualWay 15 = .ok (.iload_n 3, 1) := by decide +kernel
theorem dX7_usualWay_16 : decode cX7_usualWay 16 = .ok (.iadd, 1) := by decide +kernel
theorem dX7_usualWay_17 : decode cX7_usualWay 17 = .ok (.ifCond .ne 5, 3) := by decide +kernel
theorem dX7_usualWay_20 : decode cX7_usualWay 20 = .ok (.iconst (-1), 1) := by decide +kernel
theorem dX7_usualWay_21 : decode cX7_usualWay 21 = .ok (.ireturn, 1) := by decide +kernel
theorem dX7_usualWay_22 : decode cX7_usualWay 22 = .ok (.iload_n 3, 1) := by decide +kernel
theorem dX7_usualWay_23 : decode cX7_usualWay 23 = .ok (.iload_n 2, 1) := by decide +kernel
theorem dX7_usualWay_24 : decode cX7_usualWay 24 = .ok (.if_icmp .lt 7, 3) := by decide +kernel
theorem dX7_usualWay_27 : decode cX7_usualWay 27 = .ok (.iconst 1, 1) := by decide +kernel
theorem dX7_usualWay_28 : decode cX7_usualWay 28 = .ok (.goto 4, 3) := by decide +kernel
theorem dX7_usualWay_31 : decode cX7_usualWay 31 = .ok (.iconst 0, 1) := by decide +kernel
theorem dX7_usualWay_32 : decode cX7_usualWay 32 = .ok (.ireturn, 1) := by decide +kernel
theorem dX7_survey_0 : decode cX7_survey 0 = .ok (.aload_n 0, 1) := by decide +kernel
theorem dX7_survey_1 : decode cX7_survey 1 = .ok (.getfield 24, 3) := by decide +kernel
theorem dX7_survey_4 : decode cX7_survey 4 = .ok (.iconst 0, 1) := by decide +kernel
theorem dX7_survey_5 : decode cX7_survey 5 = .ok (.invokestatic 31, 3) := by decide +kernel
theorem dX7_survey_8 : decode cX7_survey 8 = .ok (.aload_n 0, 1) := by decide +kernel
theorem dX7_survey_9 : decode cX7_survey 9 = .ok (.iconst 0, 1) := by decide +kernel
theorem dX7_survey_10 : decode cX7_survey 10 = .ok (.putfield 41, 3) := by decide +kernel
theorem dX7_survey_13 : decode cX7_survey 13 = .ok (.aload_n 0, 1) := by decide +kernel
theorem dX7_survey_14 : decode cX7_survey 14 = .ok (.iconst 0, 1) := by decide +kernel
theorem dX7_survey_15 : decode cX7_survey 15 = .ok (.putfield 44, 3) := by decide +kernel
theorem dX7_survey_18 : decode cX7_survey 18 = .ok (.iconst 0, 1) := by decide +kernel
theorem dX7_survey_19 : decode cX7_survey 19 = .ok (.istore_n 3, 1) := by decide +kernel
theorem dX7_survey_20 : decode cX7_survey 20 = .ok (.iload_n 3, 1) := by decide +kernel
theorem dX7_survey_21 : decode cX7_survey 21 = .ok (.aload_n 0, 1) := by decide +kernel
theorem dX7_survey_22 : decode cX7_survey 22 = .ok (.getfield 27, 3) := by decide +kernel
theorem dX7_survey_25 : decode cX7_survey 25 = .ok (.if_icmp .ge 89, 3) := by decide +kernel
theorem dX7_survey_28 : decode cX7_survey 28 = .ok (.aload_n 0, 1) := by decide +kernel
theorem dX7_survey_29 : decode cX7_survey 29 = .ok (.iload_n 3, 1) := by decide +kernel
theorem dX7_survey_30 : decode cX7_survey 30 = .ok (.invokevirtual 47, 3) := by decide +kernel
theorem dX7_survey_33 : decode cX7_survey 33 = .ok (.istore 4, 2) := by decide +kernel
theorem dX7_survey_35 : decode cX7_survey 35 = .ok (.aload_n 0, 1) := by decide +kernel
theorem dX7_survey_36 : decode cX7_survey 36 = .ok (.iload_n 3, 1) := by decide +kernel
theorem dX7_survey_37 : decode cX7_survey 37 = .ok (.invokevirtual 51, 3) := by decide +kernel
theorem dX7_survey_40 : decode cX7_survey 40 = .ok (.istore 5, 2) := by decide +kernel
theorem dX7_survey_42 : decode cX7_survey 42 = .ok (.iload_n 2, 1) := by decide +kernel
theorem dX7_survey_43 : decode cX7_survey 43 = .ok (.ifCond .eq 8, 3) := by decide +kernel
theorem dX7_survey_46 : decode cX7_survey 46 = .ok (.iload 4, 2) := by decide +kernel
theorem dX7_survey_48 : decode cX7_survey 48 = .ok (.goto 4, 3) := by decide +kernel
theorem dX7_survey_51 : decode cX7_survey 51 = .ok (.iconst 0, 1) := by decide +kernel
theorem dX7_survey_52 : decode cX7_survey 52 = .ok (.istore 6, 2) := by decide +kernel
theorem dX7_survey_54 : decode cX7_survey 54 = .ok (.aload_n 0, 1) := by decide +kernel
theorem dX7_survey_55 : decode cX7_survey 55 = .ok (.getfield 21, 3) := by decide +kernel
theorem dX7_survey_58 : decode cX7_survey 58 = .ok (.iload_n 3, 1) := by decide +kernel
theorem dX7_survey_59 : decode cX7_survey 59 = .ok (.iload 4, 2) := by decide +kernel
theorem dX7_survey_61 : decode cX7_survey 61 = .ok (.iload_n 1, 1) := by decide +kernel
theorem dX7_survey_62 : decode cX7_survey 62 = .ok (.ishl, 1) := by decide +kernel
theorem dX7_survey_63 : decode cX7_survey 63 = .ok (.aload_n 0, 1) := by decide +kernel
theorem dX7_survey_64 : decode cX7_survey 64 = .ok (.getfield 24, 3) := by decide +kernel
theorem dX7_survey_67 : decode cX7_survey 67 = .ok (.iload 6, 2) := by decide +kernel
theorem dX7_survey_69 : decode cX7_survey 69 = .ok (.iaload, 1) := by decide +kernel
theorem dX7_survey_70 : decode cX7_survey 70 = .ok (.ior, 1) := by decide +kernel
theorem dX7_survey_71 : decode cX7_survey 71 = .ok (.iastore, 1) := by decide +kernel
theorem dX7_survey_72 : decode cX7_survey 72 = .ok (.aload_n 0, 1) := by decide +kernel
theorem dX7_survey_73 : decode cX7_survey 73 = .ok (.aload_n 0, 1) := by decide +kernel
theorem dX7_survey_74 : decode cX7_survey 74 = .ok (.getfield 21, 3) := by decide +kernel
theorem dX7_survey_77 : decode cX7_survey 77 = .ok (.iload_n 3, 1) := by decide +kernel
theorem dX7_survey_78 : decode cX7_survey 78 = .ok (.iaload, 1) := by decide +kernel
theorem dX7_survey_79 : decode cX7_survey 79 = .ok (.iload 5, 2) := by decide +kernel
theorem dX7_survey_81 : decode cX7_survey 81 = .ok (.invokevirtual 54, 3) := by decide +kernel
theorem dX7_survey_84 : decode cX7_survey 84 = .ok (.aload_n 0, 1) := by decide +kernel
theorem dX7_survey_85 : decode cX7_survey 85 = .ok (.getfield 24, 3) := by decide +kernel
theorem dX7_survey_88 : decode cX7_survey 88 = .ok (.iload 6, 2) := by decide +kernel
theorem dX7_survey_90 : decode cX7_survey 90 = .ok (.aload_n 0, 1) := by decide +kernel
theorem dX7_survey_91 : decode cX7_survey 91 = .ok (.getfield 24, 3) := by decide +kernel
theorem dX7_survey_94 : decode cX7_survey 94 = .ok (.iload 6, 2) := by decide +kernel
theorem dX7_survey_96 : decode cX7_survey 96 = .ok (.iaload, 1) := by decide +kernel
theorem dX7_survey_97 : decode cX7_survey 97 = .ok (.iconst 1, 1) := by decide +kernel
theorem dX7_survey_98 : decode cX7_survey 98 = .ok (.ishl, 1) := by decide +kernel
theorem dX7_survey_99 : decode cX7_survey 99 = .ok (.iload 5, 2) := by decide +kernel
theorem dX7_survey_101 : decode cX7_survey 101 = .ok (.ior, 1) := by decide +kernel
theorem dX7_survey_102 : decode cX7_survey 102 = .ok (.iload_n 1, 1) := by decide +kernel
theorem dX7_survey_103 : decode cX7_survey 103 = .ok (.invokestatic 58, 3) := by decide +kernel
theorem dX7_survey_106 : decode cX7_survey 106 = .ok (.iand, 1) := by decide +kernel
theorem dX7_survey_107 : decode cX7_survey 107 = .ok (.iastore, 1) := by decide +kernel
theorem dX7_survey_108 : decode cX7_survey 108 = .ok (.iinc 3 1, 3) := by decide +kernel
theorem dX7_survey_111 : decode cX7_survey 111 = .ok (.goto (-91), 3) := by decide +kernel
theorem dX7_survey_114 : decode cX7_survey 114 = .ok (.iconst 0, 1) := by decide +kernel
theorem dX7_survey_115 : decode cX7_survey 115 = .ok (.istore_n 3, 1) := by decide +kernel
theorem dX7_survey_116 : decode cX7_survey 116 = .ok (.iload_n 3, 1) := by decide +kernel
theorem dX7_survey_117 : decode cX7_survey 117 = .ok (.aload_n 0, 1) := by decide +kernel
theorem dX7_survey_118 : decode cX7_survey 118 = .ok (.getfield 27, 3) := by decide +kernel
theorem dX7_survey_121 : decode cX7_survey 121 = .ok (.if_icmp .ge 21, 3) := by decide +kernel
theorem dX7_survey_124 : decode cX7_survey 124 = .ok (.aload_n 0, 1) := by decide +kernel
theorem dX7_survey_125 : decode cX7_survey 125 = .ok (.getfield 18, 3) := by decide +kernel
theorem dX7_survey_128 : decode cX7_survey 128 = .ok (.aload_n 0, 1) := by decide +kernel
theorem dX7_survey_129 : decode cX7_survey 129 = .ok (.getfield 21, 3) := by decide +kernel
theorem dX7_survey_132 : decode cX7_survey 132 = .ok (.iload_n 3, 1) := by decide +kernel
theorem dX7_survey_133 : decode cX7_survey 133 = .ok (.iaload, 1) := by decide +kernel
theorem dX7_survey_134 : decode cX7_survey 134 = .ok (.iconst 0, 1) := by decide +kernel
theorem dX7_survey_135 : decode cX7_survey 135 = .ok (.iastore, 1) := by decide +kernel
theorem dX7_survey_136 : decode cX7_survey 136 = .ok (.iinc 3 1, 3) := by decide +kernel
theorem dX7_survey_139 : decode cX7_survey 139 = .ok (.goto (-23), 3) := by decide +kernel
theorem dX7_survey_142 : decode cX7_survey 142 = .ok (.return_, 1) := by decide +kernel
theorem dX7_tally_0 : decode cX7_tally 0 = .ok (.aload_n 0, 1) := by decide +kernel
theorem dX7_tally_1 : decode cX7_tally 1 = .ok (.getfield 18, 3) := by decide +kernel
theorem dX7_tally_4 : decode cX7_tally 4 = .ok (.iload_n 1, 1) := by decide +kernel
theorem dX7_tally_5 : decode cX7_tally 5 = .ok (.iaload, 1) := by decide +kernel
theorem dX7_tally_6 : decode cX7_tally 6 = .ok (.ldc 61, 2) := by decide +kernel
theorem dX7_tally_8 : decode cX7_tally 8 = .ok (.iand, 1) := by decide +kernel
theorem dX7_tally_9 : decode cX7_tally 9 = .ok (.istore_n 3, 1) := by decide +kernel
theorem dX7_tally_10 : decode cX7_tally 10 = .ok (.aload_n 0, 1) := by decide +kernel
theorem dX7_tally_11 : decode cX7_tally 11 = .ok (.getfield 18, 3) := by decide +kernel
theorem dX7_tally_14 : decode cX7_tally 14 = .ok (.iload_n 1, 1) := by decide +kernel
theorem dX7_tally_15 : decode cX7_tally 15 = .ok (.iaload, 1) := by decide +kernel
theorem dX7_tally_16 : decode cX7_tally 16 = .ok (.bipush 16, 2) := by decide +kernel
theorem dX7_tally_18 : decode cX7_tally 18 = .ok (.ishr, 1) := by decide +kernel
theorem dX7_tally_19 : decode cX7_tally 19 = .ok (.istore 4, 2) := by decide +kernel
theorem dX7_tally_21 : decode cX7_tally 21 = .ok (.iload_n 3, 1) := by decide +kernel
theorem dX7_tally_22 : decode cX7_tally 22 = .ok (.iload 4, 2) := by decide +kernel
theorem dX7_tally_24 : decode cX7_tally 24 = .ok (.iadd, 1) := by decide +kernel
theorem dX7_tally_25 : decode cX7_tally 25 = .ok (.ifCond .ne 13, 3) := by decide +kernel
theorem dX7_tally_28 : decode cX7_tally 28 = .ok (.aload_n 0, 1) := by decide +kernel
theorem dX7_tally_29 : decode cX7_tally 29 = .ok (.dup, 1) := by decide +kernel
theorem dX7_tally_30 : decode cX7_tally 30 = .ok (.getfield 44, 3) := by decide +kernel
theorem dX7_tally_33 : decode cX7_tally 33 = .ok (.iconst 1, 1) := by decide +kernel
theorem dX7_tally_34 : decode cX7_tally 34 = .ok (.iadd, 1) := by decide +kernel
theorem dX7_tally_35 : decode cX7_tally 35 = .ok (.putfield 44, 3) := by decide +kernel
theorem dX7_tally_38 : decode cX7_tally 38 = .ok (.iload_n 2, 1) := by decide +kernel
theorem dX7_tally_39 : decode cX7_tally 39 = .ok (.iconst 1, 1) := by decide +kernel
theorem dX7_tally_40 : decode cX7_tally 40 = .ok (.if_icmp .ne 12, 3) := by decide +kernel
theorem dX7_tally_43 : decode cX7_tally 43 = .ok (.iload 4, 2) := by decide +kernel
theorem dX7_tally_45 : decode cX7_tally 45 = .ok (.iload_n 3, 1) := by decide +kernel
theorem dX7_tally_46 : decode cX7_tally 46 = .ok (.if_icmp .ge 22, 3) := by decide +kernel
theorem dX7_tally_49 : decode cX7_tally 49 = .ok (.goto 9, 3) := by decide +kernel
theorem dX7_tally_52 : decode cX7_tally 52 = .ok (.iload_n 3, 1) := by decide +kernel
theorem dX7_tally_53 : decode cX7_tally 53 = .ok (.iload 4, 2) := by decide +kernel
theorem dX7_tally_55 : decode cX7_tally 55 = .ok (.if_icmp .ge 13, 3) := by decide +kernel
theorem dX7_tally_58 : decode cX7_tally 58 = .ok (.aload_n 0, 1) := by decide +kernel
theorem dX7_tally_59 : decode cX7_tally 59 = .ok (.dup, 1) := by decide +kernel
theorem dX7_tally_60 : decode cX7_tally 60 = .ok (.getfield 41, 3) := by decide +kernel
theorem dX7_tally_63 : decode cX7_tally 63 = .ok (.iconst 1, 1) := by decide +kernel
theorem dX7_tally_64 : decode cX7_tally 64 = .ok (.iadd, 1) := by decide +kernel
theorem dX7_tally_65 : decode cX7_tally 65 = .ok (.putfield 41, 3) := by decide +kernel
theorem dX7_tally_68 : decode cX7_tally 68 = .ok (.aload_n 0, 1) := by decide +kernel
theorem dX7_tally_69 : decode cX7_tally 69 = .ok (.getfield 18, 3) := by decide +kernel
theorem dX7_tally_72 : decode cX7_tally 72 = .ok (.iload_n 1, 1) := by decide +kernel
theorem dX7_tally_73 : decode cX7_tally 73 = .ok (.dup2, 1) := by decide +kernel
theorem dX7_tally_74 : decode cX7_tally 74 = .ok (.iaload, 1) := by decide +kernel
theorem dX7_tally_75 : decode cX7_tally 75 = .ok (.iload_n 2, 1) := by decide +kernel
theorem dX7_tally_76 : decode cX7_tally 76 = .ok (.iconst 1, 1) := by decide +kernel
theorem dX7_tally_77 : decode cX7_tally 77 = .ok (.if_icmp .ne 8, 3) := by decide +kernel
theorem dX7_tally_80 : decode cX7_tally 80 = .ok (.ldc 62, 2) := by decide +kernel
theorem dX7_tally_82 : decode cX7_tally 82 = .ok (.goto 4, 3) := by decide +kernel
theorem dX7_tally_85 : decode cX7_tally 85 = .ok (.iconst 1, 1) := by decide +kernel
theorem dX7_tally_86 : decode cX7_tally 86 = .ok (.iadd, 1) := by decide +kernel
theorem dX7_tally_87 : decode cX7_tally 87 = .ok (.iastore, 1) := by decide +kernel
theorem dX7_tally_88 : decode cX7_tally 88 = .ok (.return_, 1) := by decide +kernel
theorem dX8_init_0 : decode cX8_init 0 = .ok (.aload_n 0, 1) := by decide +kernel
theorem dX8_init_1 : decode cX8_init 1 = .ok (.iconst 3, 1) := by decide +kernel
theorem dX8_init_2 : decode cX8_init 2 = .ok (.iconst 1, 1) := by decide +kernel
theorem dX8_init_3 : decode cX8_init 3 = .ok (.iload_n 1, 1) := by decide +kernel
theorem dX8_init_4 : decode cX8_init 4 = .ok (.ishl, 1) := by decide +kernel
theorem dX8_init_5 : decode cX8_init 5 = .ok (.iconst 0, 1) := by decide +kernel
theorem dX8_init_6 : decode cX8_init 6 = .ok (.iconst 1, 1) := by decide +kernel
theorem dX8_init_7 : decode cX8_init 7 = .ok (.invokespecial 3, 3) := by decide +kernel
theorem dX8_init_10 : decode cX8_init 10 = .ok (.aload_n 0, 1) := by decide +kernel
theorem dX8_init_11 : decode cX8_init 11 = .ok (.iload_n 1, 1) := by decide +kernel
theorem dX8_init_12 : decode cX8_init 12 = .ok (.invokestatic 9, 3) := by decide +kernel
theorem dX8_init_15 : decode cX8_init 15 = .ok (.putfield 15, 3) := by decide +kernel
theorem dX8_init_18 : decode cX8_init 18 = .ok (.aload_n 0, 1) := by decide +kernel
theorem dX8_init_19 : decode cX8_init 19 = .ok (.iload_n 2, 1) := by decide +kernel
theorem dX8_init_20 : decode cX8_init 20 = .ok (.putfield 19, 3) := by decide +kernel
theorem dX8_init_23 : decode cX8_init 23 = .ok (.return_, 1) := by decide +kernel
theorem dX8_cellOf_0 : decode cX8_cellOf 0 = .ok (.aload_n 0, 1) := by decide +kernel
theorem dX8_cellOf_1 : decode cX8_cellOf 1 = .ok (.getfield 22, 3) := by decide +kernel
theorem dX8_cellOf_4 : decode cX8_cellOf 4 = .ok (.getfield 26, 3) := by decide +kernel
theorem dX8_cellOf_7 : decode cX8_cellOf 7 = .ok (.iload_n 1, 1) := by decide +kernel
theorem dX8_cellOf_8 : decode cX8_cellOf 8 = .ok (.aload_n 0, 1) := by decide +kernel
theorem dX8_cellOf_9 : decode cX8_cellOf 9 = .ok (.getfield 19, 3) := by decide +kernel
theorem dX8_cellOf_12 : decode cX8_cellOf 12 = .ok (.imul, 1) := by decide +kernel
theorem dX8_cellOf_13 : decode cX8_cellOf 13 = .ok (.invokestatic 9, 3) := by decide +kernel
theorem dX8_cellOf_16 : decode cX8_cellOf 16 = .ok (.iand, 1) := by decide +kernel
theorem dX8_cellOf_17 : decode cX8_cellOf 17 = .ok (.istore_n 3, 1) := by decide +kernel
theorem dX8_cellOf_18 : decode cX8_cellOf 18 = .ok (.iload_n 1, 1) := by decide +kernel
theorem dX8_cellOf_19 : decode cX8_cellOf 19 = .ok (.aload_n 0, 1) := by decide +kernel
theorem dX8_cellOf_20 : decode cX8_cellOf 20 = .ok (.getfield 29, 3) := by decide +kernel
theorem dX8_cellOf_23 : decode cX8_cellOf 23 = .ok (.imul, 1) := by decide +kernel
theorem dX8_cellOf_24 : decode cX8_cellOf 24 = .ok (.iconst 5, 1) := by decide +kernel
theorem dX8_cellOf_25 : decode cX8_cellOf 25 = .ok (.iload_n 2, 1) := by decide +kernel
theorem dX8_cellOf_26 : decode cX8_cellOf 26 = .ok (.imul, 1) := by decide +kernel
theorem dX8_cellOf_27 : decode cX8_cellOf 27 = .ok (.iload_n 3, 1) := by decide +kernel
theorem dX8_cellOf_28 : decode cX8_cellOf 28 = .ok (.ixor, 1) := by decide +kernel
theorem dX8_cellOf_29 : decode cX8_cellOf 29 = .ok (.aload_n 0, 1) := by decide +kernel
theorem dX8_cellOf_30 : decode cX8_cellOf 30 = .ok (.getfield 15, 3) := by decide +kernel
theorem dX8_cellOf_33 : decode cX8_cellOf 33 = .ok (.iand, 1) := by decide +kernel
theorem dX8_cellOf_34 : decode cX8_cellOf 34 = .ok (.iadd, 1) := by decide +kernel
theorem dX8_cellOf_35 : decode cX8_cellOf 35 = .ok (.ireturn, 1) := by decide +kernel
theorem dX8_ownWay_0 : decode cX8_ownWay 0 = .ok (.iconst 0, 1) := by decide +kernel
theorem dX8_ownWay_1 : decode cX8_ownWay 1 = .ok (.istore_n 2, 1) := by decide +kernel
theorem dX8_ownWay_2 : decode cX8_ownWay 2 = .ok (.iconst 0, 1) := by decide +kernel
theorem dX8_ownWay_3 : decode cX8_ownWay 3 = .ok (.istore_n 3, 1) := by decide +kernel
theorem dX8_ownWay_4 : decode cX8_ownWay 4 = .ok (.iload_n 3, 1) := by decide +kernel
theorem dX8_ownWay_5 : decode cX8_ownWay 5 = .ok (.iconst 3, 1) := by decide +kernel
theorem dX8_ownWay_6 : decode cX8_ownWay 6 = .ok (.if_icmp .ge 25, 3) := by decide +kernel
theorem dX8_ownWay_9 : decode cX8_ownWay 9 = .ok (.iload_n 2, 1) := by decide +kernel
theorem dX8_ownWay_10 : decode cX8_ownWay 10 = .ok (.aload_n 0, 1) := by decide +kernel
theorem dX8_ownWay_11 : decode cX8_ownWay 11 = .ok (.getfield 22, 3) := by decide +kernel
theorem dX8_ownWay_14 : decode cX8_ownWay 14 = .ok (.aload_n 0, 1) := by decide +kernel
theorem dX8_ownWay_15 : decode cX8_ownWay 15 = .ok (.iload_n 3, 1) := by decide +kernel
theorem dX8_ownWay_16 : decode cX8_ownWay 16 = .ok (.iload_n 1, 1) := by decide +kernel
theorem dX8_ownWay_17 : decode cX8_ownWay 17 = .ok (.invokevirtual 32, 3) := by decide +kernel
theorem dX8_ownWay_20 : decode cX8_ownWay 20 = .ok (.invokevirtual 36, 3) := by decide +kernel
theorem dX8_ownWay_23 : decode cX8_ownWay 23 = .ok (.iadd, 1) := by decide +kernel
theorem dX8_ownWay_24 : decode cX8_ownWay 24 = .ok (.istore_n 2, 1) := by decide +kernel
theorem dX8_ownWay_25 : decode cX8_ownWay 25 = .ok (.iinc 3 1, 3) := by decide +kernel
theorem dX8_ownWay_28 : decode cX8_ownWay 28 = .ok (.goto (-24), 3) := by decide +kernel
theorem dX8_ownWay_31 : decode cX8_ownWay 31 = .ok (.iload_n 2, 1) := by decide +kernel
theorem dX8_ownWay_32 : decode cX8_ownWay 32 = .ok (.iconst 2, 1) := by decide +kernel
theorem dX8_ownWay_33 : decode cX8_ownWay 33 = .ok (.if_icmp .lt 7, 3) := by decide +kernel
theorem dX8_ownWay_36 : decode cX8_ownWay 36 = .ok (.iconst 1, 1) := by decide +kernel
theorem dX8_ownWay_37 : decode cX8_ownWay 37 = .ok (.goto 4, 3) := by decide +kernel
theorem dX8_ownWay_40 : decode cX8_ownWay 40 = .ok (.iconst 0, 1) := by decide +kernel
theorem dX8_ownWay_41 : decode cX8_ownWay 41 = .ok (.ireturn, 1) := by decide +kernel
theorem dX8_learn_0 : decode cX8_learn 0 = .ok (.iconst 0, 1) := by decide +kernel
theorem dX8_learn_1 : decode cX8_learn 1 = .ok (.istore_n 3, 1) := by decide +kernel
theorem dX8_learn_2 : decode cX8_learn 2 = .ok (.iload_n 3, 1) := by decide +kernel
theorem dX8_learn_3 : decode cX8_learn 3 = .ok (.iconst 3, 1) := by decide +kernel
theorem dX8_learn_4 : decode cX8_learn 4 = .ok (.if_icmp .ge 23, 3) := by decide +kernel
theorem dX8_learn_7 : decode cX8_learn 7 = .ok (.aload_n 0, 1) := by decide +kernel
theorem dX8_learn_8 : decode cX8_learn 8 = .ok (.getfield 22, 3) := by decide +kernel
theorem dX8_learn_11 : decode cX8_learn 11 = .ok (.aload_n 0, 1) := by decide +kernel
theorem dX8_learn_12 : decode cX8_learn 12 = .ok (.iload_n 3, 1) := by decide +kernel
theorem dX8_learn_13 : decode cX8_learn 13 = .ok (.iload_n 1, 1) := by decide +kernel
theorem dX8_learn_14 : decode cX8_learn 14 = .ok (.invokevirtual 32, 3) := by decide +kernel
theorem dX8_learn_17 : decode cX8_learn 17 = .ok (.iload_n 2, 1) := by decide +kernel
theorem dX8_learn_18 : decode cX8_learn 18 = .ok (.invokevirtual 39, 3) := by decide +kernel
theorem dX8_learn_21 : decode cX8_learn 21 = .ok (.iinc 3 1, 3) := by decide +kernel
theorem dX8_learn_24 : decode cX8_learn 24 = .ok (.goto (-22), 3) := by decide +kernel
theorem dX8_learn_27 : decode cX8_learn 27 = .ok (.return_, 1) := by decide +kernel
theorem dX8_slotOf_0 : decode cX8_slotOf 0 = .ok (.iconst (-1), 1) := by decide +kernel
theorem dX8_slotOf_1 : decode cX8_slotOf 1 = .ok (.ireturn, 1) := by decide +kernel
theorem dX9_init_0 : decode cX9_init 0 = .ok (.aload_n 0, 1) := by decide +kernel
theorem dX9_init_1 : decode cX9_init 1 = .ok (.iconst 1, 1) := by decide +kernel
theorem dX9_init_2 : decode cX9_init 2 = .ok (.iload_n 1, 1) := by decide +kernel
theorem dX9_init_3 : decode cX9_init 3 = .ok (.ishl, 1) := by decide +kernel
theorem dX9_init_4 : decode cX9_init 4 = .ok (.iload_n 2, 1) := by decide +kernel
theorem dX9_init_5 : decode cX9_init 5 = .ok (.iconst 1, 1) := by decide +kernel
theorem dX9_init_6 : decode cX9_init 6 = .ok (.iadd, 1) := by decide +kernel
theorem dX9_init_7 : decode cX9_init 7 = .ok (.iconst 1, 1) := by decide +kernel
theorem dX9_init_8 : decode cX9_init 8 = .ok (.iload_n 1, 1) := by decide +kernel
theorem dX9_init_9 : decode cX9_init 9 = .ok (.ishl, 1) := by decide +kernel
theorem dX9_init_10 : decode cX9_init 10 = .ok (.iconst 0, 1) := by decide +kernel
theorem dX9_init_11 : decode cX9_init 11 = .ok (.invokespecial 1, 3) := by decide +kernel
theorem dX9_init_14 : decode cX9_init 14 = .ok (.aload_n 0, 1) := by decide +kernel
theorem dX9_init_15 : decode cX9_init 15 = .ok (.iload_n 1, 1) := by decide +kernel
theorem dX9_init_16 : decode cX9_init 16 = .ok (.invokestatic 7, 3) := by decide +kernel
theorem dX9_init_19 : decode cX9_init 19 = .ok (.putfield 13, 3) := by decide +kernel
theorem dX9_init_22 : decode cX9_init 22 = .ok (.aload_n 0, 1) := by decide +kernel
theorem dX9_init_23 : decode cX9_init 23 = .ok (.iload_n 3, 1) := by decide +kernel
theorem dX9_init_24 : decode cX9_init 24 = .ok (.putfield 19, 3) := by decide +kernel
theorem dX9_init_27 : decode cX9_init 27 = .ok (.return_, 1) := by decide +kernel
theorem dX9_slotOf_0 : decode cX9_slotOf 0 = .ok (.iload_n 1, 1) := by decide +kernel
theorem dX9_slotOf_1 : decode cX9_slotOf 1 = .ok (.aload_n 0, 1) := by decide +kernel
theorem dX9_slotOf_2 : decode cX9_slotOf 2 = .ok (.getfield 13, 3) := by decide +kernel
theorem dX9_slotOf_5 : decode cX9_slotOf 5 = .ok (.iand, 1) := by decide +kernel
theorem dX9_slotOf_6 : decode cX9_slotOf 6 = .ok (.ireturn, 1) := by decide +kernel
theorem dX9_bitOf_0 : decode cX9_bitOf 0 = .ok (.iload_n 1, 1) := by decide +kernel
theorem dX9_bitOf_1 : decode cX9_bitOf 1 = .ok (.ifCond .ne 7, 3) := by decide +kernel
theorem dX9_bitOf_4 : decode cX9_bitOf 4 = .ok (.iconst 1, 1) := by decide +kernel
theorem dX9_bitOf_5 : decode cX9_bitOf 5 = .ok (.goto 16, 3) := by decide +kernel
theorem dX9_bitOf_8 : decode cX9_bitOf 8 = .ok (.aload_n 0, 1) := by decide +kernel
theorem dX9_bitOf_9 : decode cX9_bitOf 9 = .ok (.getfield 22, 3) := by decide +kernel
theorem dX9_bitOf_12 : decode cX9_bitOf 12 = .ok (.getfield 26, 3) := by decide +kernel
theorem dX9_bitOf_15 : decode cX9_bitOf 15 = .ok (.iload_n 1, 1) := by decide +kernel
theorem dX9_bitOf_16 : decode cX9_bitOf 16 = .ok (.iconst 1, 1) := by decide +kernel
theorem dX9_bitOf_17 : decode cX9_bitOf 17 = .ok (.isub, 1) := by decide +kernel
theorem dX9_bitOf_18 : decode cX9_bitOf 18 = .ok (.ishr, 1) := by decide +kernel
theorem dX9_bitOf_19 : decode cX9_bitOf 19 = .ok (.iconst 1, 1) := by decide +kernel
theorem dX9_bitOf_20 : decode cX9_bitOf 20 = .ok (.iand, 1) := by decide +kernel
theorem dX9_bitOf_21 : decode cX9_bitOf 21 = .ok (.ireturn, 1) := by decide +kernel
theorem dX9_sumAt_0 : decode cX9_sumAt 0 = .ok (.aload_n 0, 1) := by decide +kernel
theorem dX9_sumAt_1 : decode cX9_sumAt 1 = .ok (.iload_n 1, 1) := by decide +kernel
theorem dX9_sumAt_2 : decode cX9_sumAt 2 = .ok (.invokevirtual 31, 3) := by decide +kernel
theorem dX9_sumAt_5 : decode cX9_sumAt 5 = .ok (.aload_n 0, 1) := by decide +kernel
theorem dX9_sumAt_6 : decode cX9_sumAt 6 = .ok (.getfield 34, 3) := by decide +kernel
theorem dX9_sumAt_9 : decode cX9_sumAt 9 = .ok (.imul, 1) := by decide +kernel
theorem dX9_sumAt_10 : decode cX9_sumAt 10 = .ok (.istore_n 2, 1) := by decide +kernel
theorem dX9_sumAt_11 : decode cX9_sumAt 11 = .ok (.iconst 0, 1) := by decide +kernel
theorem dX9_sumAt_12 : decode cX9_sumAt 12 = .ok (.istore_n 3, 1) := by decide +kernel
theorem dX9_sumAt_13 : decode cX9_sumAt 13 = .ok (.iconst 0, 1) := by decide +kernel
theorem dX9_sumAt_14 : decode cX9_sumAt 14 = .ok (.istore 4, 2) := by decide +kernel
theorem dX9_sumAt_16 : decode cX9_sumAt 16 = .ok (.iload 4, 2) := by decide +kernel
theorem dX9_sumAt_18 : decode cX9_sumAt 18 = .ok (.aload_n 0, 1) := by decide +kernel
theorem dX9_sumAt_19 : decode cX9_sumAt 19 = .ok (.getfield 34, 3) := by decide +kernel
theorem dX9_sumAt_22 : decode cX9_sumAt 22 = .ok (.if_icmp .ge 50, 3) := by decide +kernel
theorem dX9_sumAt_25 : decode cX9_sumAt 25 = .ok (.iload_n 3, 1) := by decide +kernel
theorem dX9_sumAt_26 : decode cX9_sumAt 26 = .ok (.aload_n 0, 1) := by decide +kernel
theorem dX9_sumAt_27 : decode cX9_sumAt 27 = .ok (.iload 4, 2) := by decide +kernel
theorem dX9_sumAt_29 : decode cX9_sumAt 29 = .ok (.invokevirtual 37, 3) := by decide +kernel
theorem dX9_sumAt_32 : decode cX9_sumAt 32 = .ok (.iconst 1, 1) := by decide +kernel
theorem dX9_sumAt_33 : decode cX9_sumAt 33 = .ok (.if_icmp .ne 18, 3) := by decide +kernel
theorem dX9_sumAt_36 : decode cX9_sumAt 36 = .ok (.aload_n 0, 1) := by decide +kernel
theorem dX9_sumAt_37 : decode cX9_sumAt 37 = .ok (.getfield 22, 3) := by decide +kernel
theorem dX9_sumAt_40 : decode cX9_sumAt 40 = .ok (.getfield 40, 3) := by decide +kernel
theorem dX9_sumAt_43 : decode cX9_sumAt 43 = .ok (.iload_n 2, 1) := by decide +kernel
theorem dX9_sumAt_44 : decode cX9_sumAt 44 = .ok (.iload 4, 2) := by decide +kernel
theorem dX9_sumAt_46 : decode cX9_sumAt 46 = .ok (.iadd, 1) := by decide +kernel
theorem dX9_sumAt_47 : decode cX9_sumAt 47 = .ok (.iaload, 1) := by decide +kernel
theorem dX9_sumAt_48 : decode cX9_sumAt 48 = .ok (.goto 16, 3) := by decide +kernel
theorem dX9_sumAt_51 : decode cX9_sumAt 51 = .ok (.aload_n 0, 1) := by decide +kernel
theorem dX9_sumAt_52 : decode cX9_sumAt 52 = .ok (.getfield 22, 3) := by decide +kernel
theorem dX9_sumAt_55 : decode cX9_sumAt 55 = .ok (.getfield 40, 3) := by decide +kernel
theorem dX9_sumAt_58 : decode cX9_sumAt 58 = .ok (.iload_n 2, 1) := by decide +kernel
theorem dX9_sumAt_59 : decode cX9_sumAt 59 = .ok (.iload 4, 2) := by decide +kernel
theorem dX9_sumAt_61 : decode cX9_sumAt 61 = .ok (.iadd, 1) := by decide +kernel
theorem dX9_sumAt_62 : decode cX9_sumAt 62 = .ok (.iaload, 1) := by decide +kernel
theorem dX9_sumAt_63 : decode cX9_sumAt 63 = .ok (.ineg, 1) := by decide +kernel
theorem dX9_sumAt_64 : decode cX9_sumAt 64 = .ok (.iadd, 1) := by decide +kernel
theorem dX9_sumAt_65 : decode cX9_sumAt 65 = .ok (.istore_n 3, 1) := by decide +kernel
theorem dX9_sumAt_66 : decode cX9_sumAt 66 = .ok (.iinc 4 1, 3) := by decide +kernel
theorem dX9_sumAt_69 : decode cX9_sumAt 69 = .ok (.goto (-53), 3) := by decide +kernel
theorem dX9_sumAt_72 : decode cX9_sumAt 72 = .ok (.iload_n 3, 1) := by decide +kernel
theorem dX9_sumAt_73 : decode cX9_sumAt 73 = .ok (.ireturn, 1) := by decide +kernel
theorem dX9_ownWay_0 : decode cX9_ownWay 0 = .ok (.aload_n 0, 1) := by decide +kernel
theorem dX9_ownWay_1 : decode cX9_ownWay 1 = .ok (.iload_n 1, 1) := by decide +kernel
theorem dX9_ownWay_2 : decode cX9_ownWay 2 = .ok (.invokevirtual 44, 3) := by decide +kernel
theorem dX9_ownWay_5 : decode cX9_ownWay 5 = .ok (.ifCond .lt 7, 3) := by decide +kernel
theorem dX9_ownWay_8 : decode cX9_ownWay 8 = .ok (.iconst 1, 1) := by decide +kernel
theorem dX9_ownWay_9 : decode cX9_ownWay 9 = .ok (.goto 4, 3) := by decide +kernel
theorem dX9_ownWay_12 : decode cX9_ownWay 12 = .ok (.iconst 0, 1) := by decide +kernel
theorem dX9_ownWay_13 : decode cX9_ownWay 13 = .ok (.ireturn, 1) := by decide +kernel
theorem dX9_learn_0 : decode cX9_learn 0 = .ok (.aload_n 0, 1) := by decide +kernel
theorem dX9_learn_1 : decode cX9_learn 1 = .ok (.iload_n 1, 1) := by decide +kernel
theorem dX9_learn_2 : decode cX9_learn 2 = .ok (.invokevirtual 44, 3) := by decide +kernel
theorem dX9_learn_5 : decode cX9_learn 5 = .ok (.istore_n 3, 1) := by decide +kernel
theorem dX9_learn_6 : decode cX9_learn 6 = .ok (.iload_n 3, 1) := by decide +kernel
theorem dX9_learn_7 : decode cX9_learn 7 = .ok (.ifCond .lt 7, 3) := by decide +kernel
theorem dX9_learn_10 : decode cX9_learn 10 = .ok (.iconst 1, 1) := by decide +kernel
theorem dX9_learn_11 : decode cX9_learn 11 = .ok (.goto 4, 3) := by decide +kernel
theorem dX9_learn_14 : decode cX9_learn 14 = .ok (.iconst 0, 1) := by decide +kernel
theorem dX9_learn_15 : decode cX9_learn 15 = .ok (.iload_n 2, 1) := by decide +kernel
theorem dX9_learn_16 : decode cX9_learn 16 = .ok (.iconst 1, 1) := by decide +kernel
theorem dX9_learn_17 : decode cX9_learn 17 = .ok (.if_icmp .ne 7, 3) := by decide +kernel
theorem dX9_learn_20 : decode cX9_learn 20 = .ok (.iconst 1, 1) := by decide +kernel
theorem dX9_learn_21 : decode cX9_learn 21 = .ok (.goto 4, 3) := by decide +kernel
theorem dX9_learn_24 : decode cX9_learn 24 = .ok (.iconst 0, 1) := by decide +kernel
theorem dX9_learn_25 : decode cX9_learn 25 = .ok (.if_icmp .ne 7, 3) := by decide +kernel
theorem dX9_learn_28 : decode cX9_learn 28 = .ok (.iconst 1, 1) := by decide +kernel
theorem dX9_learn_29 : decode cX9_learn 29 = .ok (.goto 4, 3) := by decide +kernel
theorem dX9_learn_32 : decode cX9_learn 32 = .ok (.iconst 0, 1) := by decide +kernel
theorem dX9_learn_33 : decode cX9_learn 33 = .ok (.istore 4, 2) := by decide +kernel
theorem dX9_learn_35 : decode cX9_learn 35 = .ok (.iload 4, 2) := by decide +kernel
theorem dX9_learn_37 : decode cX9_learn 37 = .ok (.ifCond .eq 15, 3) := by decide +kernel
theorem dX9_learn_40 : decode cX9_learn 40 = .ok (.iload_n 3, 1) := by decide +kernel
theorem dX9_learn_41 : decode cX9_learn 41 = .ok (.invokestatic 47, 3) := by decide +kernel
theorem dX9_learn_44 : decode cX9_learn 44 = .ok (.aload_n 0, 1) := by decide +kernel
theorem dX9_learn_45 : decode cX9_learn 45 = .ok (.getfield 19, 3) := by decide +kernel
theorem dX9_learn_48 : decode cX9_learn 48 = .ok (.if_icmp .le 4, 3) := by decide +kernel
theorem dX9_learn_51 : decode cX9_learn 51 = .ok (.return_, 1) := by decide +kernel
theorem dX9_learn_52 : decode cX9_learn 52 = .ok (.aload_n 0, 1) := by decide +kernel
theorem dX9_learn_53 : decode cX9_learn 53 = .ok (.iload_n 1, 1) := by decide +kernel
theorem dX9_learn_54 : decode cX9_learn 54 = .ok (.invokevirtual 31, 3) := by decide +kernel
theorem dX9_learn_57 : decode cX9_learn 57 = .ok (.aload_n 0, 1) := by decide +kernel
theorem dX9_learn_58 : decode cX9_learn 58 = .ok (.getfield 34, 3) := by decide +kernel
theorem dX9_learn_61 : decode cX9_learn 61 = .ok (.imul, 1) := by decide +kernel
theorem dX9_learn_62 : decode cX9_learn 62 = .ok (.istore 5, 2) := by decide +kernel
theorem dX9_learn_64 : decode cX9_learn 64 = .ok (.iconst 0, 1) := by decide +kernel
theorem dX9_learn_65 : decode cX9_learn 65 = .ok (.istore 6, 2) := by decide +kernel
theorem dX9_learn_67 : decode cX9_learn 67 = .ok (.iload 6, 2) := by decide +kernel
theorem dX9_learn_69 : decode cX9_learn 69 = .ok (.aload_n 0, 1) := by decide +kernel
theorem dX9_learn_70 : decode cX9_learn 70 = .ok (.getfield 34, 3) := by decide +kernel
theorem dX9_learn_73 : decode cX9_learn 73 = .ok (.if_icmp .ge 65, 3) := by decide +kernel
theorem dX9_learn_76 : decode cX9_learn 76 = .ok (.aload_n 0, 1) := by decide +kernel
theorem dX9_learn_77 : decode cX9_learn 77 = .ok (.getfield 22, 3) := by decide +kernel
theorem dX9_learn_80 : decode cX9_learn 80 = .ok (.getfield 40, 3) := by decide +kernel
theorem dX9_learn_83 : decode cX9_learn 83 = .ok (.iload 5, 2) := by decide +kernel
theorem dX9_learn_85 : decode cX9_learn 85 = .ok (.iload 6, 2) := by decide +kernel
theorem dX9_learn_87 : decode cX9_learn 87 = .ok (.iadd, 1) := by decide +kernel
theorem dX9_learn_88 : decode cX9_learn 88 = .ok (.iaload, 1) := by decide +kernel
theorem dX9_learn_89 : decode cX9_learn 89 = .ok (.aload_n 0, 1) := by decide +kernel
theorem dX9_learn_90 : decode cX9_learn 90 = .ok (.iload 6, 2) := by decide +kernel
theorem dX9_learn_92 : decode cX9_learn 92 = .ok (.invokevirtual 37, 3) := by decide +kernel
theorem dX9_learn_95 : decode cX9_learn 95 = .ok (.iload_n 2, 1) := by decide +kernel
theorem dX9_learn_96 : decode cX9_learn 96 = .ok (.if_icmp .ne 7, 3) := by decide +kernel
theorem dX9_learn_99 : decode cX9_learn 99 = .ok (.iconst 1, 1) := by decide +kernel
theorem dX9_learn_100 : decode cX9_learn 100 = .ok (.goto 4, 3) := by decide +kernel
theorem dX9_learn_103 : decode cX9_learn 103 = .ok (.iconst (-1), 1) := by decide +kernel
theorem dX9_learn_104 : decode cX9_learn 104 = .ok (.iadd, 1) := by decide +kernel
theorem dX9_learn_105 : decode cX9_learn 105 = .ok (.istore 7, 2) := by decide +kernel
theorem dX9_learn_107 : decode cX9_learn 107 = .ok (.aload_n 0, 1) := by decide +kernel
theorem dX9_learn_108 : decode cX9_learn 108 = .ok (.getfield 22, 3) := by decide +kernel
theorem dX9_learn_111 : decode cX9_learn 111 = .ok (.getfield 40, 3) := by decide +kernel
theorem dX9_learn_114 : decode cX9_learn 114 = .ok (.iload 5, 2) := by decide +kernel
theorem dX9_learn_116 : decode cX9_learn 116 = .ok (.iload 6, 2) := by decide +kernel
theorem dX9_learn_118 : decode cX9_learn 118 = .ok (.iadd, 1) := by decide +kernel
theorem dX9_learn_119 : decode cX9_learn 119 = .ok (.bipush (-64), 2) := by decide +kernel
theorem dX9_learn_121 : decode cX9_learn 121 = .ok (.bipush 63, 2) := by decide +kernel
theorem dX9_learn_123 : decode cX9_learn 123 = .ok (.iload 7, 2) := by decide +kernel
theorem dX9_learn_125 : decode cX9_learn 125 = .ok (.invokestatic 52, 3) := by decide +kernel
theorem dX9_learn_128 : decode cX9_learn 128 = .ok (.invokestatic 56, 3) := by decide +kernel
theorem dX9_learn_131 : decode cX9_learn 131 = .ok (.iastore, 1) := by decide +kernel
theorem dX9_learn_132 : decode cX9_learn 132 = .ok (.iinc 6 1, 3) := by decide +kernel
theorem dX9_learn_135 : decode cX9_learn 135 = .ok (.goto (-68), 3) := by decide +kernel
theorem dX9_learn_138 : decode cX9_learn 138 = .ok (.return_, 1) := by decide +kernel
theorem dX10_init_0 : decode cX10_init 0 = .ok (.aload_n 0, 1) := by decide +kernel
theorem dX10_init_1 : decode cX10_init 1 = .ok (.invokespecial 3, 3) := by decide +kernel
theorem dX10_init_4 : decode cX10_init 4 = .ok (.aload_n 0, 1) := by decide +kernel
theorem dX10_init_5 : decode cX10_init 5 = .ok (.new 9, 3) := by decide +kernel
theorem dX10_init_8 : decode cX10_init 8 = .ok (.dup, 1) := by decide +kernel
theorem dX10_init_9 : decode cX10_init 9 = .ok (.invokespecial 11, 3) := by decide +kernel
theorem dX10_init_12 : decode cX10_init 12 = .ok (.putfield 12, 3) := by decide +kernel
theorem dX10_init_15 : decode cX10_init 15 = .ok (.aload_n 0, 1) := by decide +kernel
theorem dX10_init_16 : decode cX10_init 16 = .ok (.new 16, 3) := by decide +kernel
theorem dX10_init_19 : decode cX10_init 19 = .ok (.dup, 1) := by decide +kernel
theorem dX10_init_20 : decode cX10_init 20 = .ok (.invokespecial 18, 3) := by decide +kernel
theorem dX10_init_23 : decode cX10_init 23 = .ok (.putfield 19, 3) := by decide +kernel
theorem dX10_init_26 : decode cX10_init 26 = .ok (.aload_n 0, 1) := by decide +kernel
theorem dX10_init_27 : decode cX10_init 27 = .ok (.bipush 8, 2) := by decide +kernel
theorem dX10_init_29 : decode cX10_init 29 = .ok (.anewarray 23, 3) := by decide +kernel
theorem dX10_init_32 : decode cX10_init 32 = .ok (.putfield 25, 3) := by decide +kernel
theorem dX10_init_35 : decode cX10_init 35 = .ok (.return_, 1) := by decide +kernel
theorem dX10_op_0 : decode cX10_op 0 = .ok (.iload_n 1, 1) := by decide +kernel
theorem dX10_op_1 : decode cX10_op 1 = .ok (.invokestatic 29, 3) := by decide +kernel
theorem dX10_op_4 : decode cX10_op 4 = .ok (.ifCond .ne 5, 3) := by decide +kernel
theorem dX10_op_7 : decode cX10_op 7 = .ok (.iconst (-1), 1) := by decide +kernel
theorem dX10_op_8 : decode cX10_op 8 = .ok (.ireturn, 1) := by decide +kernel
theorem dX10_op_9 : decode cX10_op 9 = .ok (.iload_n 2, 1) := by decide +kernel
theorem dX10_op_10 : decode cX10_op 10 = .ok (.iconst 0, 1) := by decide +kernel
theorem dX10_op_11 : decode cX10_op 11 = .ok (.bipush 12, 2) := by decide +kernel
theorem dX10_op_13 : decode cX10_op 13 = .ok (.invokestatic 33, 3) := by decide +kernel
theorem dX10_op_16 : decode cX10_op 16 = .ok (.ifCond .eq 18, 3) := by decide +kernel
theorem dX10_op_19 : decode cX10_op 19 = .ok (.iload_n 3, 1) := by decide +kernel
theorem dX10_op_20 : decode cX10_op 20 = .ok (.invokestatic 37, 3) := by decide +kernel
theorem dX10_op_23 : decode cX10_op 23 = .ok (.ifCond .eq 11, 3) := by decide +kernel
theorem dX10_op_26 : decode cX10_op 26 = .ok (.iload 4, 2) := by decide +kernel
theorem dX10_op_28 : decode cX10_op 28 = .ok (.invokestatic 37, 3) := by decide +kernel
theorem dX10_op_31 : decode cX10_op 31 = .ok (.ifCond .ne 6, 3) := by decide +kernel
theorem dX10_op_34 : decode cX10_op 34 = .ok (.bipush (-2), 2) := by decide +kernel
theorem dX10_op_36 : decode cX10_op 36 = .ok (.ireturn, 1) := by decide +kernel
theorem dX10_op_37 : decode cX10_op 37 = .ok (.iload_n 2, 1) := by decide +kernel
theorem dX10_op_38 : decode cX10_op 38 = .ok (.bipush 9, 2) := by decide +kernel
theorem dX10_op_40 : decode cX10_op 40 = .ok (.if_icmp .lt 14, 3) := by decide +kernel
theorem dX10_op_43 : decode cX10_op 43 = .ok (.iload 5, 2) := by decide +kernel
theorem dX10_op_45 : decode cX10_op 45 = .ok (.invokestatic 29, 3) := by decide +kernel
theorem dX10_op_48 : decode cX10_op 48 = .ok (.ifCond .ne 6, 3) := by decide +kernel
theorem dX10_op_51 : decode cX10_op 51 = .ok (.bipush (-2), 2) := by decide +kernel
theorem dX10_op_53 : decode cX10_op 53 = .ok (.ireturn, 1) := by decide +kernel
theorem dX10_op_54 : decode cX10_op 54 = .ok (.aload_n 0, 1) := by decide +kernel
theorem dX10_op_55 : decode cX10_op 55 = .ok (.getfield 12, 3) := by decide +kernel
theorem dX10_op_58 : decode cX10_op 58 = .ok (.getfield 40, 3) := by decide +kernel
theorem dX10_op_61 : decode cX10_op 61 = .ok (.iload_n 1, 1) := by decide +kernel
theorem dX10_op_62 : decode cX10_op 62 = .ok (.iaload, 1) := by decide +kernel
theorem dX10_op_63 : decode cX10_op 63 = .ok (.istore 6, 2) := by decide +kernel
theorem dX10_op_65 : decode cX10_op 65 = .ok (.aload_n 0, 1) := by decide +kernel
theorem dX10_op_66 : decode cX10_op 66 = .ok (.getfield 12, 3) := by decide +kernel
theorem dX10_op_69 : decode cX10_op 69 = .ok (.iload_n 1, 1) := by decide +kernel
theorem dX10_op_70 : decode cX10_op 70 = .ok (.iload_n 2, 1) := by decide +kernel
theorem dX10_op_71 : decode cX10_op 71 = .ok (.iload_n 3, 1) := by decide +kernel
theorem dX10_op_72 : decode cX10_op 72 = .ok (.iload 4, 2) := by decide +kernel
theorem dX10_op_74 : decode cX10_op 74 = .ok (.iload 5, 2) := by decide +kernel
theorem dX10_op_76 : decode cX10_op 76 = .ok (.invokevirtual 44, 3) := by decide +kernel
theorem dX10_op_79 : decode cX10_op 79 = .ok (.iload 6, 2) := by decide +kernel
theorem dX10_op_81 : decode cX10_op 81 = .ok (.ireturn, 1) := by decide +kernel
theorem dX10_register_0 : decode cX10_register 0 = .ok (.iload_n 1, 1) := by decide +kernel
theorem dX10_register_1 : decode cX10_register 1 = .ok (.invokestatic 37, 3) := by decide +kernel
theorem dX10_register_4 : decode cX10_register 4 = .ok (.ifCond .ne 6, 3) := by decide +kernel
theorem dX10_register_7 : decode cX10_register 7 = .ok (.bipush (-2), 2) := by decide +kernel
theorem dX10_register_9 : decode cX10_register 9 = .ok (.ireturn, 1) := by decide +kernel
theorem dX10_register_10 : decode cX10_register 10 = .ok (.aload_n 0, 1) := by decide +kernel
theorem dX10_register_11 : decode cX10_register 11 = .ok (.getfield 12, 3) := by decide +kernel
theorem dX10_register_14 : decode cX10_register 14 = .ok (.getfield 48, 3) := by decide +kernel
theorem dX10_register_17 : decode cX10_register 17 = .ok (.iload_n 1, 1) := by decide +kernel
theorem dX10_register_18 : decode cX10_register 18 = .ok (.iload_n 2, 1) := by decide +kernel
theorem dX10_register_19 : decode cX10_register 19 = .ok (.iastore, 1) := by decide +kernel
theorem dX10_register_20 : decode cX10_register 20 = .ok (.iconst 1, 1) := by decide +kernel
theorem dX10_register_21 : decode cX10_register 21 = .ok (.ireturn, 1) := by decide +kernel
theorem dX10_value_0 : decode cX10_value 0 = .ok (.iload_n 1, 1) := by decide +kernel
theorem dX10_value_1 : decode cX10_value 1 = .ok (.invokestatic 37, 3) := by decide +kernel
theorem dX10_value_4 : decode cX10_value 4 = .ok (.ifCond .eq 15, 3) := by decide +kernel
theorem dX10_value_7 : decode cX10_value 7 = .ok (.aload_n 0, 1) := by decide +kernel
theorem dX10_value_8 : decode cX10_value 8 = .ok (.getfield 12, 3) := by decide +kernel
theorem dX10_value_11 : decode cX10_value 11 = .ok (.getfield 48, 3) := by decide +kernel
theorem dX10_value_14 : decode cX10_value 14 = .ok (.iload_n 1, 1) := by decide +kernel
theorem dX10_value_15 : decode cX10_value 15 = .ok (.iaload, 1) := by decide +kernel
theorem dX10_value_16 : decode cX10_value 16 = .ok (.goto 4, 3) := by decide +kernel
theorem dX10_value_19 : decode cX10_value 19 = .ok (.iconst 0, 1) := by decide +kernel
theorem dX10_value_20 : decode cX10_value 20 = .ok (.ireturn, 1) := by decide +kernel
theorem dX10_data_0 : decode cX10_data 0 = .ok (.iload_n 1, 1) := by decide +kernel
theorem dX10_data_1 : decode cX10_data 1 = .ok (.invokestatic 51, 3) := by decide +kernel
theorem dX10_data_4 : decode cX10_data 4 = .ok (.ifCond .ne 6, 3) := by decide +kernel
theorem dX10_data_7 : decode cX10_data 7 = .ok (.bipush (-2), 2) := by decide +kernel
theorem dX10_data_9 : decode cX10_data 9 = .ok (.ireturn, 1) := by decide +kernel
theorem dX10_data_10 : decode cX10_data 10 = .ok (.aload_n 0, 1) := by decide +kernel
theorem dX10_data_11 : decode cX10_data 11 = .ok (.getfield 12, 3) := by decide +kernel
theorem dX10_data_14 : decode cX10_data 14 = .ok (.getfield 54, 3) := by decide +kernel
theorem dX10_data_17 : decode cX10_data 17 = .ok (.iload_n 1, 1) := by decide +kernel
theorem dX10_data_18 : decode cX10_data 18 = .ok (.iload_n 2, 1) := by decide +kernel
theorem dX10_data_19 : decode cX10_data 19 = .ok (.iastore, 1) := by decide +kernel
theorem dX10_data_20 : decode cX10_data 20 = .ok (.iconst 1, 1) := by decide +kernel
theorem dX10_data_21 : decode cX10_data 21 = .ok (.ireturn, 1) := by decide +kernel
theorem dX10_stored_0 : decode cX10_stored 0 = .ok (.iload_n 1, 1) := by decide +kernel
theorem dX10_stored_1 : decode cX10_stored 1 = .ok (.invokestatic 51, 3) := by decide +kernel
theorem dX10_stored_4 : decode cX10_stored 4 = .ok (.ifCond .eq 15, 3) := by decide +kernel
theorem dX10_stored_7 : decode cX10_stored 7 = .ok (.aload_n 0, 1) := by decide +kernel
theorem dX10_stored_8 : decode cX10_stored 8 = .ok (.getfield 12, 3) := by decide +kernel
theorem dX10_stored_11 : decode cX10_stored 11 = .ok (.getfield 54, 3) := by decide +kernel
theorem dX10_stored_14 : decode cX10_stored 14 = .ok (.iload_n 1, 1) := by decide +kernel
theorem dX10_stored_15 : decode cX10_stored 15 = .ok (.iaload, 1) := by decide +kernel
theorem dX10_stored_16 : decode cX10_stored 16 = .ok (.goto 4, 3) := by decide +kernel
theorem dX10_stored_19 : decode cX10_stored 19 = .ok (.iconst 0, 1) := by decide +kernel
theorem dX10_stored_20 : decode cX10_stored 20 = .ok (.ireturn, 1) := by decide +kernel
theorem dX10_stand_0 : decode cX10_stand 0 = .ok (.iload_n 1, 1) := by decide +kernel
theorem dX10_stand_1 : decode cX10_stand 1 = .ok (.invokestatic 29, 3) := by decide +kernel
theorem dX10_stand_4 : decode cX10_stand 4 = .ok (.ifCond .ne 5, 3) := by decide +kernel
theorem dX10_stand_7 : decode cX10_stand 7 = .ok (.iconst (-1), 1) := by decide +kernel
theorem dX10_stand_8 : decode cX10_stand 8 = .ok (.ireturn, 1) := by decide +kernel
theorem dX10_stand_9 : decode cX10_stand 9 = .ok (.aload_n 0, 1) := by decide +kernel
theorem dX10_stand_10 : decode cX10_stand 10 = .ok (.getfield 12, 3) := by decide +kernel
theorem dX10_stand_13 : decode cX10_stand 13 = .ok (.getfield 57, 3) := by decide +kernel
theorem dX10_stand_16 : decode cX10_stand 16 = .ok (.istore_n 2, 1) := by decide +kernel
theorem dX10_stand_17 : decode cX10_stand 17 = .ok (.aload_n 0, 1) := by decide +kernel
theorem dX10_stand_18 : decode cX10_stand 18 = .ok (.getfield 12, 3) := by decide +kernel
theorem dX10_stand_21 : decode cX10_stand 21 = .ok (.iload_n 1, 1) := by decide +kernel
theorem dX10_stand_22 : decode cX10_stand 22 = .ok (.putfield 57, 3) := by decide +kernel
theorem dX10_stand_25 : decode cX10_stand 25 = .ok (.iload_n 2, 1) := by decide +kernel
theorem dX10_stand_26 : decode cX10_stand 26 = .ok (.ireturn, 1) := by decide +kernel
theorem dX10_run_0 : decode cX10_run 0 = .ok (.iload_n 1, 1) := by decide +kernel
theorem dX10_run_1 : decode cX10_run 1 = .ok (.iconst 0, 1) := by decide +kernel
theorem dX10_run_2 : decode cX10_run 2 = .ok (.sipush 2000, 3) := by decide +kernel
theorem dX10_run_5 : decode cX10_run 5 = .ok (.invokestatic 33, 3) := by decide +kernel
theorem dX10_run_8 : decode cX10_run 8 = .ok (.ifCond .ne 6, 3) := by decide +kernel
theorem dX10_run_11 : decode cX10_run 11 = .ok (.bipush (-2), 2) := by decide +kernel
theorem dX10_run_13 : decode cX10_run 13 = .ok (.ireturn, 1) := by decide +kernel
theorem dX10_run_14 : decode cX10_run 14 = .ok (.iconst 0, 1) := by decide +kernel
theorem dX10_run_15 : decode cX10_run 15 = .ok (.istore_n 2, 1) := by decide +kernel
theorem dX10_run_16 : decode cX10_run 16 = .ok (.iload_n 2, 1) := by decide +kernel
theorem dX10_run_17 : decode cX10_run 17 = .ok (.iload_n 1, 1) := by decide +kernel
theorem dX10_run_18 : decode cX10_run 18 = .ok (.if_icmp .ge 47, 3) := by decide +kernel
theorem dX10_run_21 : decode cX10_run 21 = .ok (.aload_n 0, 1) := by decide +kernel
theorem dX10_run_22 : decode cX10_run 22 = .ok (.getfield 12, 3) := by decide +kernel
theorem dX10_run_25 : decode cX10_run 25 = .ok (.getfield 57, 3) := by decide +kernel
theorem dX10_run_28 : decode cX10_run 28 = .ok (.istore_n 3, 1) := by decide +kernel
theorem dX10_run_29 : decode cX10_run 29 = .ok (.aload_n 0, 1) := by decide +kernel
theorem dX10_run_30 : decode cX10_run 30 = .ok (.getfield 12, 3) := by decide +kernel
theorem dX10_run_33 : decode cX10_run 33 = .ok (.invokevirtual 61, 3) := by decide +kernel
theorem dX10_run_36 : decode cX10_run 36 = .ok (.istore 4, 2) := by decide +kernel
theorem dX10_run_38 : decode cX10_run 38 = .ok (.iload 4, 2) := by decide +kernel
theorem dX10_run_40 : decode cX10_run 40 = .ok (.iconst (-1), 1) := by decide +kernel
theorem dX10_run_41 : decode cX10_run 41 = .ok (.if_icmp .ne 5, 3) := by decide +kernel
theorem dX10_run_44 : decode cX10_run 44 = .ok (.iload_n 2, 1) := by decide +kernel
theorem dX10_run_45 : decode cX10_run 45 = .ok (.ireturn, 1) := by decide +kernel
theorem dX10_run_46 : decode cX10_run 46 = .ok (.iload 4, 2) := by decide +kernel
theorem dX10_run_48 : decode cX10_run 48 = .ok (.iconst 2, 1) := by decide +kernel
theorem dX10_run_49 : decode cX10_run 49 = .ok (.if_icmp .eq 10, 3) := by decide +kernel
theorem dX10_run_52 : decode cX10_run 52 = .ok (.aload_n 0, 1) := by decide +kernel
theorem dX10_run_53 : decode cX10_run 53 = .ok (.iload_n 3, 1) := by decide +kernel
theorem dX10_run_54 : decode cX10_run 54 = .ok (.iload 4, 2) := by decide +kernel
theorem dX10_run_56 : decode cX10_run 56 = .ok (.invokevirtual 65, 3) := by decide +kernel
theorem dX10_run_59 : decode cX10_run 59 = .ok (.iinc 2 1, 3) := by decide +kernel
theorem dX10_run_62 : decode cX10_run 62 = .ok (.goto (-46), 3) := by decide +kernel
theorem dX10_run_65 : decode cX10_run 65 = .ok (.iload_n 1, 1) := by decide +kernel
theorem dX10_run_66 : decode cX10_run 66 = .ok (.ireturn, 1) := by decide +kernel
theorem dX10_branch_0 : decode cX10_branch 0 = .ok (.iload_n 1, 1) := by decide +kernel
theorem dX10_branch_1 : decode cX10_branch 1 = .ok (.invokestatic 29, 3) := by decide +kernel
theorem dX10_branch_4 : decode cX10_branch 4 = .ok (.ifCond .ne 5, 3) := by decide +kernel
theorem dX10_branch_7 : decode cX10_branch 7 = .ok (.iconst (-1), 1) := by decide +kernel
theorem dX10_branch_8 : decode cX10_branch 8 = .ok (.ireturn, 1) := by decide +kernel
theorem dX10_branch_9 : decode cX10_branch 9 = .ok (.iload_n 2, 1) := by decide +kernel
theorem dX10_branch_10 : decode cX10_branch 10 = .ok (.invokestatic 69, 3) := by decide +kernel
theorem dX10_branch_13 : decode cX10_branch 13 = .ok (.ifCond .ne 6, 3) := by decide +kernel
theorem dX10_branch_16 : decode cX10_branch 16 = .ok (.bipush (-2), 2) := by decide +kernel
theorem dX10_branch_18 : decode cX10_branch 18 = .ok (.ireturn, 1) := by decide +kernel
theorem dX10_branch_19 : decode cX10_branch 19 = .ok (.aload_n 0, 1) := by decide +kernel
theorem dX10_branch_20 : decode cX10_branch 20 = .ok (.iload_n 1, 1) := by decide +kernel
theorem dX10_branch_21 : decode cX10_branch 21 = .ok (.iload_n 2, 1) := by decide +kernel
theorem dX10_branch_22 : decode cX10_branch 22 = .ok (.invokevirtual 65, 3) := by decide +kernel
theorem dX10_branch_25 : decode cX10_branch 25 = .ok (.aload_n 0, 1) := by decide +kernel
theorem dX10_branch_26 : decode cX10_branch 26 = .ok (.getfield 72, 3) := by decide +kernel
theorem dX10_branch_29 : decode cX10_branch 29 = .ok (.ireturn, 1) := by decide +kernel
theorem dX10_at_0 : decode cX10_at 0 = .ok (.iload_n 1, 1) := by decide +kernel
theorem dX10_at_1 : decode cX10_at 1 = .ok (.iconst 0, 1) := by decide +kernel
theorem dX10_at_2 : decode cX10_at 2 = .ok (.aload_n 0, 1) := by decide +kernel
theorem dX10_at_3 : decode cX10_at 3 = .ok (.getfield 19, 3) := by decide +kernel
theorem dX10_at_6 : decode cX10_at 6 = .ok (.getfield 75, 3) := by decide +kernel
theorem dX10_at_9 : decode cX10_at 9 = .ok (.iconst 1, 1) := by decide +kernel
theorem dX10_at_10 : decode cX10_at 10 = .ok (.isub, 1) := by decide +kernel
theorem dX10_at_11 : decode cX10_at 11 = .ok (.invokestatic 33, 3) := by decide +kernel
theorem dX10_at_14 : decode cX10_at 14 = .ok (.ifCond .ne 5, 3) := by decide +kernel
theorem dX10_at_17 : decode cX10_at 17 = .ok (.iconst (-1), 1) := by decide +kernel
theorem dX10_at_18 : decode cX10_at 18 = .ok (.ireturn, 1) := by decide +kernel
theorem dX10_at_19 : decode cX10_at 19 = .ok (.iload_n 2, 1) := by decide +kernel
theorem dX10_at_20 : decode cX10_at 20 = .ok (.ifCond .ne 12, 3) := by decide +kernel
theorem dX10_at_23 : decode cX10_at 23 = .ok (.aload_n 0, 1) := by decide +kernel
theorem dX10_at_24 : decode cX10_at 24 = .ok (.getfield 19, 3) := by decide +kernel
theorem dX10_at_27 : decode cX10_at 27 = .ok (.iload_n 1, 1) := by decide +kernel
theorem dX10_at_28 : decode cX10_at 28 = .ok (.invokevirtual 78, 3) := by decide +kernel
theorem dX10_at_31 : decode cX10_at 31 = .ok (.ireturn, 1) := by decide +kernel
theorem dX10_at_32 : decode cX10_at 32 = .ok (.iload_n 2, 1) := by decide +kernel
theorem dX10_at_33 : decode cX10_at 33 = .ok (.iconst 1, 1) := by decide +kernel
theorem dX10_at_34 : decode cX10_at 34 = .ok (.if_icmp .ne 12, 3) := by decide +kernel
theorem dX10_at_37 : decode cX10_at 37 = .ok (.aload_n 0, 1) := by decide +kernel
theorem dX10_at_38 : decode cX10_at 38 = .ok (.getfield 19, 3) := by decide +kernel
theorem dX10_at_41 : decode cX10_at 41 = .ok (.iload_n 1, 1) := by decide +kernel
theorem dX10_at_42 : decode cX10_at 42 = .ok (.invokevirtual 82, 3) := by decide +kernel
theorem dX10_at_45 : decode cX10_at 45 = .ok (.ireturn, 1) := by decide +kernel
theorem dX10_at_46 : decode cX10_at 46 = .ok (.bipush (-2), 2) := by decide +kernel
theorem dX10_at_48 : decode cX10_at 48 = .ok (.ireturn, 1) := by decide +kernel
theorem dX10_guesser_0 : decode cX10_guesser 0 = .ok (.iload_n 1, 1) := by decide +kernel
theorem dX10_guesser_1 : decode cX10_guesser 1 = .ok (.bipush 7, 2) := by decide +kernel
theorem dX10_guesser_3 : decode cX10_guesser 3 = .ok (.if_icmp .ne 21, 3) := by decide +kernel
theorem dX10_guesser_6 : decode cX10_guesser 6 = .ok (.aload_n 0, 1) := by decide +kernel
theorem dX10_guesser_7 : decode cX10_guesser 7 = .ok (.iload_n 2, 1) := by decide +kernel
theorem dX10_guesser_8 : decode cX10_guesser 8 = .ok (.invokevirtual 85, 3) := by decide +kernel
theorem dX10_guesser_11 : decode cX10_guesser 11 = .ok (.ifCond .eq 11, 3) := by decide +kernel
theorem dX10_guesser_14 : decode cX10_guesser 14 = .ok (.aload_n 0, 1) := by decide +kernel
theorem dX10_guesser_15 : decode cX10_guesser 15 = .ok (.iload_n 3, 1) := by decide +kernel
theorem dX10_guesser_16 : decode cX10_guesser 16 = .ok (.invokevirtual 85, 3) := by decide +kernel
theorem dX10_guesser_19 : decode cX10_guesser 19 = .ok (.ifCond .ne 5, 3) := by decide +kernel
theorem dX10_guesser_22 : decode cX10_guesser 22 = .ok (.iconst (-1), 1) := by decide +kernel
theorem dX10_guesser_23 : decode cX10_guesser 23 = .ok (.ireturn, 1) := by decide +kernel
theorem dX10_guesser_24 : decode cX10_guesser 24 = .ok (.iload_n 1, 1) := by decide +kernel
theorem dX10_guesser_25 : decode cX10_guesser 25 = .ok (.iload_n 2, 1) := by decide +kernel
theorem dX10_guesser_26 : decode cX10_guesser 26 = .ok (.iload_n 3, 1) := by decide +kernel
theorem dX10_guesser_27 : decode cX10_guesser 27 = .ok (.iload 4, 2) := by decide +kernel
theorem dX10_guesser_29 : decode cX10_guesser 29 = .ok (.invokestatic 88, 3) := by decide +kernel
theorem dX10_guesser_32 : decode cX10_guesser 32 = .ok (.ifCond .ne 6, 3) := by decide +kernel
theorem dX10_guesser_35 : decode cX10_guesser 35 = .ok (.bipush (-2), 2) := by decide +kernel
theorem dX10_guesser_37 : decode cX10_guesser 37 = .ok (.ireturn, 1) := by decide +kernel
theorem dX10_guesser_38 : decode cX10_guesser 38 = .ok (.aload_n 0, 1) := by decide +kernel
theorem dX10_guesser_39 : decode cX10_guesser 39 = .ok (.getfield 92, 3) := by decide +kernel
theorem dX10_guesser_42 : decode cX10_guesser 42 = .ok (.bipush 8, 2) := by decide +kernel
theorem dX10_guesser_44 : decode cX10_guesser 44 = .ok (.if_icmp .lt 6, 3) := by decide +kernel
theorem dX10_guesser_47 : decode cX10_guesser 47 = .ok (.bipush (-4), 2) := by decide +kernel
theorem dX10_guesser_49 : decode cX10_guesser 49 = .ok (.ireturn, 1) := by decide +kernel
theorem dX10_guesser_50 : decode cX10_guesser 50 = .ok (.aload_n 0, 1) := by decide +kernel
theorem dX10_guesser_51 : decode cX10_guesser 51 = .ok (.getfield 25, 3) := by decide +kernel
theorem dX10_guesser_54 : decode cX10_guesser 54 = .ok (.aload_n 0, 1) := by decide +kernel
theorem dX10_guesser_55 : decode cX10_guesser 55 = .ok (.getfield 92, 3) := by decide +kernel
theorem dX10_guesser_58 : decode cX10_guesser 58 = .ok (.aload_n 0, 1) := by decide +kernel
theorem dX10_guesser_59 : decode cX10_guesser 59 = .ok (.iload_n 1, 1) := by decide +kernel
theorem dX10_guesser_60 : decode cX10_guesser 60 = .ok (.iload_n 2, 1) := by decide +kernel
theorem dX10_guesser_61 : decode cX10_guesser 61 = .ok (.iload_n 3, 1) := by decide +kernel
theorem dX10_guesser_62 : decode cX10_guesser 62 = .ok (.iload 4, 2) := by decide +kernel
theorem dX10_guesser_64 : decode cX10_guesser 64 = .ok (.invokevirtual 95, 3) := by decide +kernel
theorem dX10_guesser_67 : decode cX10_guesser 67 = .ok (.aastore, 1) := by decide +kernel
theorem dX10_guesser_68 : decode cX10_guesser 68 = .ok (.aload_n 0, 1) := by decide +kernel
theorem dX10_guesser_69 : decode cX10_guesser 69 = .ok (.dup, 1) := by decide +kernel
theorem dX10_guesser_70 : decode cX10_guesser 70 = .ok (.getfield 92, 3) := by decide +kernel
theorem dX10_guesser_73 : decode cX10_guesser 73 = .ok (.iconst 1, 1) := by decide +kernel
theorem dX10_guesser_74 : decode cX10_guesser 74 = .ok (.iadd, 1) := by decide +kernel
theorem dX10_guesser_75 : decode cX10_guesser 75 = .ok (.putfield 92, 3) := by decide +kernel
theorem dX10_guesser_78 : decode cX10_guesser 78 = .ok (.aload_n 0, 1) := by decide +kernel
theorem dX10_guesser_79 : decode cX10_guesser 79 = .ok (.getfield 92, 3) := by decide +kernel
theorem dX10_guesser_82 : decode cX10_guesser 82 = .ok (.iconst 1, 1) := by decide +kernel
theorem dX10_guesser_83 : decode cX10_guesser 83 = .ok (.isub, 1) := by decide +kernel
theorem dX10_guesser_84 : decode cX10_guesser 84 = .ok (.ireturn, 1) := by decide +kernel
theorem dX10_guess_0 : decode cX10_guess 0 = .ok (.aload_n 0, 1) := by decide +kernel
theorem dX10_guess_1 : decode cX10_guess 1 = .ok (.iload_n 1, 1) := by decide +kernel
theorem dX10_guess_2 : decode cX10_guess 2 = .ok (.invokevirtual 85, 3) := by decide +kernel
theorem dX10_guess_5 : decode cX10_guess 5 = .ok (.ifCond .eq 10, 3) := by decide +kernel
theorem dX10_guess_8 : decode cX10_guess 8 = .ok (.iload_n 2, 1) := by decide +kernel
theorem dX10_guess_9 : decode cX10_guess 9 = .ok (.invokestatic 29, 3) := by decide +kernel
theorem dX10_guess_12 : decode cX10_guess 12 = .ok (.ifCond .ne 5, 3) := by decide +kernel
theorem dX10_guess_15 : decode cX10_guess 15 = .ok (.iconst (-1), 1) := by decide +kernel
theorem dX10_guess_16 : decode cX10_guess 16 = .ok (.ireturn, 1) := by decide +kernel
theorem dX10_guess_17 : decode cX10_guess 17 = .ok (.iconst 0, 1) := by decide +kernel
theorem dX10_guess_18 : decode cX10_guess 18 = .ok (.istore_n 3, 1) := by decide +kernel
theorem dX10_guess_19 : decode cX10_guess 19 = .ok (.iload_n 3, 1) := by decide +kernel
theorem dX10_guess_20 : decode cX10_guess 20 = .ok (.iload_n 1, 1) := by decide +kernel
theorem dX10_guess_21 : decode cX10_guess 21 = .ok (.if_icmp .gt 19, 3) := by decide +kernel
theorem dX10_guess_24 : decode cX10_guess 24 = .ok (.aload_n 0, 1) := by decide +kernel
theorem dX10_guess_25 : decode cX10_guess 25 = .ok (.getfield 25, 3) := by decide +kernel
theorem dX10_guess_28 : decode cX10_guess 28 = .ok (.iload_n 3, 1) := by decide +kernel
theorem dX10_guess_29 : decode cX10_guess 29 = .ok (.aaload, 1) := by decide +kernel
theorem dX10_guess_30 : decode cX10_guess 30 = .ok (.iload_n 2, 1) := by decide +kernel
theorem dX10_guess_31 : decode cX10_guess 31 = .ok (.invokevirtual 99, 3) := by decide +kernel
theorem dX10_guess_34 : decode cX10_guess 34 = .ok (.iinc 3 1, 3) := by decide +kernel
theorem dX10_guess_37 : decode cX10_guess 37 = .ok (.goto (-18), 3) := by decide +kernel
theorem dX10_guess_40 : decode cX10_guess 40 = .ok (.aload_n 0, 1) := by decide +kernel
theorem dX10_guess_41 : decode cX10_guess 41 = .ok (.getfield 25, 3) := by decide +kernel
theorem dX10_guess_44 : decode cX10_guess 44 = .ok (.iload_n 1, 1) := by decide +kernel
theorem dX10_guess_45 : decode cX10_guess 45 = .ok (.aaload, 1) := by decide +kernel
theorem dX10_guess_46 : decode cX10_guess 46 = .ok (.getfield 103, 3) := by decide +kernel
theorem dX10_guess_49 : decode cX10_guess 49 = .ok (.ireturn, 1) := by decide +kernel
theorem dX10_hint_0 : decode cX10_hint 0 = .ok (.aload_n 0, 1) := by decide +kernel
theorem dX10_hint_1 : decode cX10_hint 1 = .ok (.iload_n 1, 1) := by decide +kernel
theorem dX10_hint_2 : decode cX10_hint 2 = .ok (.invokevirtual 85, 3) := by decide +kernel
theorem dX10_hint_5 : decode cX10_hint 5 = .ok (.ifCond .eq 10, 3) := by decide +kernel
theorem dX10_hint_8 : decode cX10_hint 8 = .ok (.iload_n 2, 1) := by decide +kernel
theorem dX10_hint_9 : decode cX10_hint 9 = .ok (.invokestatic 29, 3) := by decide +kernel
theorem dX10_hint_12 : decode cX10_hint 12 = .ok (.ifCond .ne 5, 3) := by decide +kernel
theorem dX10_hint_15 : decode cX10_hint 15 = .ok (.iconst (-1), 1) := by decide +kernel
theorem dX10_hint_16 : decode cX10_hint 16 = .ok (.ireturn, 1) := by decide +kernel
theorem dX10_hint_17 : decode cX10_hint 17 = .ok (.iload_n 3, 1) := by decide +kernel
theorem dX10_hint_18 : decode cX10_hint 18 = .ok (.iconst (-1), 1) := by decide +kernel
theorem dX10_hint_19 : decode cX10_hint 19 = .ok (.if_icmp .eq 13, 3) := by decide +kernel
theorem dX10_hint_22 : decode cX10_hint 22 = .ok (.iload_n 3, 1) := by decide +kernel
theorem dX10_hint_23 : decode cX10_hint 23 = .ok (.invokestatic 69, 3) := by decide +kernel
theorem dX10_hint_26 : decode cX10_hint 26 = .ok (.ifCond .ne 6, 3) := by decide +kernel
theorem dX10_hint_29 : decode cX10_hint 29 = .ok (.bipush (-2), 2) := by decide +kernel
theorem dX10_hint_31 : decode cX10_hint 31 = .ok (.ireturn, 1) := by decide +kernel
theorem dX10_hint_32 : decode cX10_hint 32 = .ok (.aload_n 0, 1) := by decide +kernel
theorem dX10_hint_33 : decode cX10_hint 33 = .ok (.getfield 25, 3) := by decide +kernel
theorem dX10_hint_36 : decode cX10_hint 36 = .ok (.iload_n 1, 1) := by decide +kernel
theorem dX10_hint_37 : decode cX10_hint 37 = .ok (.aaload, 1) := by decide +kernel
theorem dX10_hint_38 : decode cX10_hint 38 = .ok (.getfield 106, 3) := by decide +kernel
theorem dX10_hint_41 : decode cX10_hint 41 = .ok (.astore 4, 2) := by decide +kernel
theorem dX10_hint_43 : decode cX10_hint 43 = .ok (.aload 4, 2) := by decide +kernel
theorem dX10_hint_45 : decode cX10_hint 45 = .ok (.iload_n 2, 1) := by decide +kernel
theorem dX10_hint_46 : decode cX10_hint 46 = .ok (.iaload, 1) := by decide +kernel
theorem dX10_hint_47 : decode cX10_hint 47 = .ok (.istore 5, 2) := by decide +kernel
theorem dX10_hint_49 : decode cX10_hint 49 = .ok (.aload 4, 2) := by decide +kernel
theorem dX10_hint_51 : decode cX10_hint 51 = .ok (.iload_n 2, 1) := by decide +kernel
theorem dX10_hint_52 : decode cX10_hint 52 = .ok (.iload_n 3, 1) := by decide +kernel
theorem dX10_hint_53 : decode cX10_hint 53 = .ok (.iastore, 1) := by decide +kernel
theorem dX10_hint_54 : decode cX10_hint 54 = .ok (.iload 5, 2) := by decide +kernel
theorem dX10_hint_56 : decode cX10_hint 56 = .ok (.ireturn, 1) := by decide +kernel
theorem dX10_profile_0 : decode cX10_profile 0 = .ok (.aload_n 0, 1) := by decide +kernel
theorem dX10_profile_1 : decode cX10_profile 1 = .ok (.iload_n 1, 1) := by decide +kernel
theorem dX10_profile_2 : decode cX10_profile 2 = .ok (.invokevirtual 85, 3) := by decide +kernel
theorem dX10_profile_5 : decode cX10_profile 5 = .ok (.ifCond .ne 5, 3) := by decide +kernel
theorem dX10_profile_8 : decode cX10_profile 8 = .ok (.iconst (-1), 1) := by decide +kernel
theorem dX10_profile_9 : decode cX10_profile 9 = .ok (.ireturn, 1) := by decide +kernel
theorem dX10_profile_10 : decode cX10_profile 10 = .ok (.aload_n 0, 1) := by decide +kernel
theorem dX10_profile_11 : decode cX10_profile 11 = .ok (.getfield 25, 3) := by decide +kernel
theorem dX10_profile_14 : decode cX10_profile 14 = .ok (.iload_n 1, 1) := by decide +kernel
theorem dX10_profile_15 : decode cX10_profile 15 = .ok (.aaload, 1) := by decide +kernel
theorem dX10_profile_16 : decode cX10_profile 16 = .ok (.getfield 106, 3) := by decide +kernel
theorem dX10_profile_19 : decode cX10_profile 19 = .ok (.astore_n 2, 1) := by decide +kernel
theorem dX10_profile_20 : decode cX10_profile 20 = .ok (.iconst 0, 1) := by decide +kernel
theorem dX10_profile_21 : decode cX10_profile 21 = .ok (.istore_n 3, 1) := by decide +kernel
theorem dX10_profile_22 : decode cX10_profile 22 = .ok (.iconst 0, 1) := by decide +kernel
theorem dX10_profile_23 : decode cX10_profile 23 = .ok (.istore 4, 2) := by decide +kernel
theorem dX10_profile_25 : decode cX10_profile 25 = .ok (.iload 4, 2) := by decide +kernel
theorem dX10_profile_27 : decode cX10_profile 27 = .ok (.bipush 64, 2) := by decide +kernel
theorem dX10_profile_29 : decode cX10_profile 29 = .ok (.if_icmp .ge 33, 3) := by decide +kernel
theorem dX10_profile_32 : decode cX10_profile 32 = .ok (.aload_n 2, 1) := by decide +kernel
theorem dX10_profile_33 : decode cX10_profile 33 = .ok (.iload 4, 2) := by decide +kernel
theorem dX10_profile_35 : decode cX10_profile 35 = .ok (.aload_n 0, 1) := by decide +kernel
theorem dX10_profile_36 : decode cX10_profile 36 = .ok (.getfield 19, 3) := by decide +kernel
theorem dX10_profile_39 : decode cX10_profile 39 = .ok (.iload 4, 2) := by decide +kernel
theorem dX10_profile_41 : decode cX10_profile 41 = .ok (.invokevirtual 109, 3) := by decide +kernel
theorem dX10_profile_44 : decode cX10_profile 44 = .ok (.iastore, 1) := by decide +kernel
theorem dX10_profile_45 : decode cX10_profile 45 = .ok (.aload_n 2, 1) := by decide +kernel
theorem dX10_profile_46 : decode cX10_profile 46 = .ok (.iload 4, 2) := by decide +kernel
theorem dX10_profile_48 : decode cX10_profile 48 = .ok (.iaload, 1) := by decide +kernel
theorem dX10_profile_49 : decode cX10_profile 49 = .ok (.iconst (-1), 1) := by decide +kernel
theorem dX10_profile_50 : decode cX10_profile 50 = .ok (.if_icmp .eq 6, 3) := by decide +kernel
theorem dX10_profile_53 : decode cX10_profile 53 = .ok (.iinc 3 1, 3) := by decide +kernel
theorem dX10_profile_56 : decode cX10_profile 56 = .ok (.iinc 4 1, 3) := by decide +kernel
theorem dX10_profile_59 : decode cX10_profile 59 = .ok (.goto (-34), 3) := by decide +kernel
theorem dX10_profile_62 : decode cX10_profile 62 = .ok (.iload_n 3, 1) := by decide +kernel
theorem dX10_profile_63 : decode cX10_profile 63 = .ok (.ireturn, 1) := by decide +kernel
theorem dX10_misses_0 : decode cX10_misses 0 = .ok (.aload_n 0, 1) := by decide +kernel
theorem dX10_misses_1 : decode cX10_misses 1 = .ok (.iload_n 1, 1) := by decide +kernel
theorem dX10_misses_2 : decode cX10_misses 2 = .ok (.invokevirtual 85, 3) := by decide +kernel
theorem dX10_misses_5 : decode cX10_misses 5 = .ok (.ifCond .ne 5, 3) := by decide +kernel
theorem dX10_misses_8 : decode cX10_misses 8 = .ok (.iconst (-1), 1) := by decide +kernel
theorem dX10_misses_9 : decode cX10_misses 9 = .ok (.ireturn, 1) := by decide +kernel
theorem dX10_misses_10 : decode cX10_misses 10 = .ok (.iload_n 2, 1) := by decide +kernel
theorem dX10_misses_11 : decode cX10_misses 11 = .ok (.iconst (-1), 1) := by decide +kernel
theorem dX10_misses_12 : decode cX10_misses 12 = .ok (.if_icmp .ne 16, 3) := by decide +kernel
theorem dX10_misses_15 : decode cX10_misses 15 = .ok (.aload_n 0, 1) := by decide +kernel
theorem dX10_misses_16 : decode cX10_misses 16 = .ok (.getfield 25, 3) := by decide +kernel
theorem dX10_misses_19 : decode cX10_misses 19 = .ok (.iload_n 1, 1) := by decide +kernel
theorem dX10_misses_20 : decode cX10_misses 20 = .ok (.aaload, 1) := by decide +kernel
theorem dX10_misses_21 : decode cX10_misses 21 = .ok (.getfield 112, 3) := by decide +kernel
theorem dX10_misses_24 : decode cX10_misses 24 = .ok (.getfield 116, 3) := by decide +kernel
theorem dX10_misses_27 : decode cX10_misses 27 = .ok (.ireturn, 1) := by decide +kernel
theorem dX10_misses_28 : decode cX10_misses 28 = .ok (.iload_n 2, 1) := by decide +kernel
theorem dX10_misses_29 : decode cX10_misses 29 = .ok (.invokestatic 29, 3) := by decide +kernel
theorem dX10_misses_32 : decode cX10_misses 32 = .ok (.ifCond .eq 20, 3) := by decide +kernel
theorem dX10_misses_35 : decode cX10_misses 35 = .ok (.aload_n 0, 1) := by decide +kernel
theorem dX10_misses_36 : decode cX10_misses 36 = .ok (.getfield 25, 3) := by decide +kernel
theorem dX10_misses_39 : decode cX10_misses 39 = .ok (.iload_n 1, 1) := by decide +kernel
theorem dX10_misses_40 : decode cX10_misses 40 = .ok (.aaload, 1) := by decide +kernel
theorem dX10_misses_41 : decode cX10_misses 41 = .ok (.getfield 112, 3) := by decide +kernel
theorem dX10_misses_44 : decode cX10_misses 44 = .ok (.getfield 121, 3) := by decide +kernel
theorem dX10_misses_47 : decode cX10_misses 47 = .ok (.iload_n 2, 1) := by decide +kernel
theorem dX10_misses_48 : decode cX10_misses 48 = .ok (.iaload, 1) := by decide +kernel
theorem dX10_misses_49 : decode cX10_misses 49 = .ok (.goto 4, 3) := by decide +kernel
theorem dX10_misses_52 : decode cX10_misses 52 = .ok (.iconst (-1), 1) := by decide +kernel
theorem dX10_misses_53 : decode cX10_misses 53 = .ok (.ireturn, 1) := by decide +kernel
theorem dX10_asked_0 : decode cX10_asked 0 = .ok (.aload_n 0, 1) := by decide +kernel
theorem dX10_asked_1 : decode cX10_asked 1 = .ok (.iload_n 1, 1) := by decide +kernel
theorem dX10_asked_2 : decode cX10_asked 2 = .ok (.invokevirtual 85, 3) := by decide +kernel
theorem dX10_asked_5 : decode cX10_asked 5 = .ok (.ifCond .eq 18, 3) := by decide +kernel
theorem dX10_asked_8 : decode cX10_asked 8 = .ok (.aload_n 0, 1) := by decide +kernel
theorem dX10_asked_9 : decode cX10_asked 9 = .ok (.getfield 25, 3) := by decide +kernel
theorem dX10_asked_12 : decode cX10_asked 12 = .ok (.iload_n 1, 1) := by decide +kernel
theorem dX10_asked_13 : decode cX10_asked 13 = .ok (.aaload, 1) := by decide +kernel
theorem dX10_asked_14 : decode cX10_asked 14 = .ok (.getfield 112, 3) := by decide +kernel
theorem dX10_asked_17 : decode cX10_asked 17 = .ok (.getfield 124, 3) := by decide +kernel
theorem dX10_asked_20 : decode cX10_asked 20 = .ok (.goto 4, 3) := by decide +kernel
theorem dX10_asked_23 : decode cX10_asked 23 = .ok (.iconst (-1), 1) := by decide +kernel
theorem dX10_asked_24 : decode cX10_asked 24 = .ok (.ireturn, 1) := by decide +kernel
theorem dX10_clashes_0 : decode cX10_clashes 0 = .ok (.aload_n 0, 1) := by decide +kernel
theorem dX10_clashes_1 : decode cX10_clashes 1 = .ok (.iload_n 1, 1) := by decide +kernel
theorem dX10_clashes_2 : decode cX10_clashes 2 = .ok (.invokevirtual 85, 3) := by decide +kernel
theorem dX10_clashes_5 : decode cX10_clashes 5 = .ok (.ifCond .ne 5, 3) := by decide +kernel
theorem dX10_clashes_8 : decode cX10_clashes 8 = .ok (.iconst (-1), 1) := by decide +kernel
theorem dX10_clashes_9 : decode cX10_clashes 9 = .ok (.ireturn, 1) := by decide +kernel
theorem dX10_clashes_10 : decode cX10_clashes 10 = .ok (.aload_n 0, 1) := by decide +kernel
theorem dX10_clashes_11 : decode cX10_clashes 11 = .ok (.getfield 25, 3) := by decide +kernel
theorem dX10_clashes_14 : decode cX10_clashes 14 = .ok (.iload_n 1, 1) := by decide +kernel
theorem dX10_clashes_15 : decode cX10_clashes 15 = .ok (.aaload, 1) := by decide +kernel
theorem dX10_clashes_16 : decode cX10_clashes 16 = .ok (.invokevirtual 127, 3) := by decide +kernel
theorem dX10_clashes_19 : decode cX10_clashes 19 = .ok (.ifCond .eq 18, 3) := by decide +kernel
theorem dX10_clashes_22 : decode cX10_clashes 22 = .ok (.aload_n 0, 1) := by decide +kernel
theorem dX10_clashes_23 : decode cX10_clashes 23 = .ok (.getfield 25, 3) := by decide +kernel
theorem dX10_clashes_26 : decode cX10_clashes 26 = .ok (.iload_n 1, 1) := by decide +kernel
theorem dX10_clashes_27 : decode cX10_clashes 27 = .ok (.aaload, 1) := by decide +kernel
theorem dX10_clashes_28 : decode cX10_clashes 28 = .ok (.getfield 112, 3) := by decide +kernel
theorem dX10_clashes_31 : decode cX10_clashes 31 = .ok (.getfield 131, 3) := by decide +kernel
theorem dX10_clashes_34 : decode cX10_clashes 34 = .ok (.goto 5, 3) := by decide +kernel
theorem dX10_clashes_37 : decode cX10_clashes 37 = .ok (.bipush (-5), 2) := by decide +kernel
theorem dX10_clashes_39 : decode cX10_clashes 39 = .ok (.ireturn, 1) := by decide +kernel
theorem dX10_pair_0 : decode cX10_pair 0 = .ok (.aload_n 0, 1) := by decide +kernel
theorem dX10_pair_1 : decode cX10_pair 1 = .ok (.iload_n 1, 1) := by decide +kernel
theorem dX10_pair_2 : decode cX10_pair 2 = .ok (.invokevirtual 85, 3) := by decide +kernel
theorem dX10_pair_5 : decode cX10_pair 5 = .ok (.ifCond .ne 5, 3) := by decide +kernel
theorem dX10_pair_8 : decode cX10_pair 8 = .ok (.iconst (-1), 1) := by decide +kernel
theorem dX10_pair_9 : decode cX10_pair 9 = .ok (.ireturn, 1) := by decide +kernel
theorem dX10_pair_10 : decode cX10_pair 10 = .ok (.aload_n 0, 1) := by decide +kernel
theorem dX10_pair_11 : decode cX10_pair 11 = .ok (.getfield 25, 3) := by decide +kernel
theorem dX10_pair_14 : decode cX10_pair 14 = .ok (.iload_n 1, 1) := by decide +kernel
theorem dX10_pair_15 : decode cX10_pair 15 = .ok (.aaload, 1) := by decide +kernel
theorem dX10_pair_16 : decode cX10_pair 16 = .ok (.invokevirtual 127, 3) := by decide +kernel
theorem dX10_pair_19 : decode cX10_pair 19 = .ok (.ifCond .ne 6, 3) := by decide +kernel
theorem dX10_pair_22 : decode cX10_pair 22 = .ok (.bipush (-5), 2) := by decide +kernel
theorem dX10_pair_24 : decode cX10_pair 24 = .ok (.ireturn, 1) := by decide +kernel
theorem dX10_pair_25 : decode cX10_pair 25 = .ok (.aload_n 0, 1) := by decide +kernel
theorem dX10_pair_26 : decode cX10_pair 26 = .ok (.getfield 25, 3) := by decide +kernel
theorem dX10_pair_29 : decode cX10_pair 29 = .ok (.iload_n 1, 1) := by decide +kernel
theorem dX10_pair_30 : decode cX10_pair 30 = .ok (.aaload, 1) := by decide +kernel
theorem dX10_pair_31 : decode cX10_pair 31 = .ok (.getfield 112, 3) := by decide +kernel
theorem dX10_pair_34 : decode cX10_pair 34 = .ok (.astore_n 3, 1) := by decide +kernel
theorem dX10_pair_35 : decode cX10_pair 35 = .ok (.iload_n 2, 1) := by decide +kernel
theorem dX10_pair_36 : decode cX10_pair 36 = .ok (.iconst 0, 1) := by decide +kernel
theorem dX10_pair_37 : decode cX10_pair 37 = .ok (.aload_n 3, 1) := by decide +kernel
theorem dX10_pair_38 : decode cX10_pair 38 = .ok (.getfield 134, 3) := by decide +kernel
theorem dX10_pair_41 : decode cX10_pair 41 = .ok (.iconst 1, 1) := by decide +kernel
theorem dX10_pair_42 : decode cX10_pair 42 = .ok (.isub, 1) := by decide +kernel
theorem dX10_pair_43 : decode cX10_pair 43 = .ok (.invokestatic 33, 3) := by decide +kernel
theorem dX10_pair_46 : decode cX10_pair 46 = .ok (.ifCond .eq 12, 3) := by decide +kernel
theorem dX10_pair_49 : decode cX10_pair 49 = .ok (.aload_n 3, 1) := by decide +kernel
theorem dX10_pair_50 : decode cX10_pair 50 = .ok (.getfield 137, 3) := by decide +kernel
theorem dX10_pair_53 : decode cX10_pair 53 = .ok (.iload_n 2, 1) := by decide +kernel
theorem dX10_pair_54 : decode cX10_pair 54 = .ok (.iaload, 1) := by decide +kernel
theorem dX10_pair_55 : decode cX10_pair 55 = .ok (.goto 5, 3) := by decide +kernel
theorem dX10_pair_58 : decode cX10_pair 58 = .ok (.bipush (-6), 2) := by decide +kernel
theorem dX10_pair_60 : decode cX10_pair 60 = .ok (.ireturn, 1) := by decide +kernel
theorem dX10_inside_0 : decode cX10_inside 0 = .ok (.aload_n 0, 1) := by decide +kernel
theorem dX10_inside_1 : decode cX10_inside 1 = .ok (.iload_n 1, 1) := by decide +kernel
theorem dX10_inside_2 : decode cX10_inside 2 = .ok (.invokevirtual 85, 3) := by decide +kernel
theorem dX10_inside_5 : decode cX10_inside 5 = .ok (.ifCond .eq 17, 3) := by decide +kernel
theorem dX10_inside_8 : decode cX10_inside 8 = .ok (.aload_n 0, 1) := by decide +kernel
theorem dX10_inside_9 : decode cX10_inside 9 = .ok (.getfield 25, 3) := by decide +kernel
theorem dX10_inside_12 : decode cX10_inside 12 = .ok (.iload_n 1, 1) := by decide +kernel
theorem dX10_inside_13 : decode cX10_inside 13 = .ok (.aaload, 1) := by decide +kernel
theorem dX10_inside_14 : decode cX10_inside 14 = .ok (.iload_n 2, 1) := by decide +kernel
theorem dX10_inside_15 : decode cX10_inside 15 = .ok (.iload_n 3, 1) := by decide +kernel
theorem dX10_inside_16 : decode cX10_inside 16 = .ok (.invokevirtual 140, 3) := by decide +kernel
theorem dX10_inside_19 : decode cX10_inside 19 = .ok (.goto 6, 3) := by decide +kernel
theorem dX10_inside_22 : decode cX10_inside 22 = .ok (.sipush (-1000), 3) := by decide +kernel
theorem dX10_inside_25 : decode cX10_inside 25 = .ok (.ireturn, 1) := by decide +kernel
theorem dX10_fresh_0 : decode cX10_fresh 0 = .ok (.aload_n 0, 1) := by decide +kernel
theorem dX10_fresh_1 : decode cX10_fresh 1 = .ok (.iload_n 1, 1) := by decide +kernel
theorem dX10_fresh_2 : decode cX10_fresh 2 = .ok (.invokevirtual 85, 3) := by decide +kernel
theorem dX10_fresh_5 : decode cX10_fresh 5 = .ok (.ifCond .ne 5, 3) := by decide +kernel
theorem dX10_fresh_8 : decode cX10_fresh 8 = .ok (.iconst (-1), 1) := by decide +kernel
theorem dX10_fresh_9 : decode cX10_fresh 9 = .ok (.ireturn, 1) := by decide +kernel
theorem dX10_fresh_10 : decode cX10_fresh 10 = .ok (.aload_n 0, 1) := by decide +kernel
theorem dX10_fresh_11 : decode cX10_fresh 11 = .ok (.getfield 25, 3) := by decide +kernel
theorem dX10_fresh_14 : decode cX10_fresh 14 = .ok (.iload_n 1, 1) := by decide +kernel
theorem dX10_fresh_15 : decode cX10_fresh 15 = .ok (.aaload, 1) := by decide +kernel
theorem dX10_fresh_16 : decode cX10_fresh 16 = .ok (.getfield 112, 3) := by decide +kernel
theorem dX10_fresh_19 : decode cX10_fresh 19 = .ok (.getfield 124, 3) := by decide +kernel
theorem dX10_fresh_22 : decode cX10_fresh 22 = .ok (.istore_n 2, 1) := by decide +kernel
theorem dX10_fresh_23 : decode cX10_fresh 23 = .ok (.aload_n 0, 1) := by decide +kernel
theorem dX10_fresh_24 : decode cX10_fresh 24 = .ok (.getfield 25, 3) := by decide +kernel
theorem dX10_fresh_27 : decode cX10_fresh 27 = .ok (.iload_n 1, 1) := by decide +kernel
theorem dX10_fresh_28 : decode cX10_fresh 28 = .ok (.aaload, 1) := by decide +kernel
theorem dX10_fresh_29 : decode cX10_fresh 29 = .ok (.invokevirtual 144, 3) := by decide +kernel
theorem dX10_fresh_32 : decode cX10_fresh 32 = .ok (.iload_n 2, 1) := by decide +kernel
theorem dX10_fresh_33 : decode cX10_fresh 33 = .ok (.ireturn, 1) := by decide +kernel
theorem dX10_again_0 : decode cX10_again 0 = .ok (.aload_n 0, 1) := by decide +kernel
theorem dX10_again_1 : decode cX10_again 1 = .ok (.iload_n 1, 1) := by decide +kernel
theorem dX10_again_2 : decode cX10_again 2 = .ok (.invokevirtual 85, 3) := by decide +kernel
theorem dX10_again_5 : decode cX10_again 5 = .ok (.ifCond .ne 5, 3) := by decide +kernel
theorem dX10_again_8 : decode cX10_again 8 = .ok (.iconst (-1), 1) := by decide +kernel
theorem dX10_again_9 : decode cX10_again 9 = .ok (.ireturn, 1) := by decide +kernel
theorem dX10_again_10 : decode cX10_again 10 = .ok (.aload_n 0, 1) := by decide +kernel
theorem dX10_again_11 : decode cX10_again 11 = .ok (.iload_n 1, 1) := by decide +kernel
theorem dX10_again_12 : decode cX10_again 12 = .ok (.invokevirtual 147, 3) := by decide +kernel
theorem dX10_again_15 : decode cX10_again 15 = .ok (.istore_n 2, 1) := by decide +kernel
theorem dX10_again_16 : decode cX10_again 16 = .ok (.iconst 0, 1) := by decide +kernel
theorem dX10_again_17 : decode cX10_again 17 = .ok (.istore_n 3, 1) := by decide +kernel
theorem dX10_again_18 : decode cX10_again 18 = .ok (.iload_n 3, 1) := by decide +kernel
theorem dX10_again_19 : decode cX10_again 19 = .ok (.iload_n 1, 1) := by decide +kernel
theorem dX10_again_20 : decode cX10_again 20 = .ok (.if_icmp .gt 26, 3) := by decide +kernel
theorem dX10_again_23 : decode cX10_again 23 = .ok (.iload_n 2, 1) := by decide +kernel
theorem dX10_again_24 : decode cX10_again 24 = .ok (.iload_n 3, 1) := by decide +kernel
theorem dX10_again_25 : decode cX10_again 25 = .ok (.invokestatic 150, 3) := by decide +kernel
theorem dX10_again_28 : decode cX10_again 28 = .ok (.ifCond .eq 12, 3) := by decide +kernel
theorem dX10_again_31 : decode cX10_again 31 = .ok (.aload_n 0, 1) := by decide +kernel
theorem dX10_again_32 : decode cX10_again 32 = .ok (.getfield 25, 3) := by decide +kernel
theorem dX10_again_35 : decode cX10_again 35 = .ok (.iload_n 3, 1) := by decide +kernel
theorem dX10_again_36 : decode cX10_again 36 = .ok (.aaload, 1) := by decide +kernel
theorem dX10_again_37 : decode cX10_again 37 = .ok (.invokevirtual 144, 3) := by decide +kernel
theorem dX10_again_40 : decode cX10_again 40 = .ok (.iinc 3 1, 3) := by decide +kernel
theorem dX10_again_43 : decode cX10_again 43 = .ok (.goto (-25), 3) := by decide +kernel
theorem dX10_again_46 : decode cX10_again 46 = .ok (.iconst 0, 1) := by decide +kernel
theorem dX10_again_47 : decode cX10_again 47 = .ok (.istore_n 3, 1) := by decide +kernel
theorem dX10_again_48 : decode cX10_again 48 = .ok (.iload_n 3, 1) := by decide +kernel
theorem dX10_again_49 : decode cX10_again 49 = .ok (.aload_n 0, 1) := by decide +kernel
theorem dX10_again_50 : decode cX10_again 50 = .ok (.getfield 19, 3) := by decide +kernel
theorem dX10_again_53 : decode cX10_again 53 = .ok (.getfield 75, 3) := by decide +kernel
theorem dX10_again_56 : decode cX10_again 56 = .ok (.if_icmp .ge 67, 3) := by decide +kernel
theorem dX10_again_59 : decode cX10_again 59 = .ok (.aload_n 0, 1) := by decide +kernel
theorem dX10_again_60 : decode cX10_again 60 = .ok (.getfield 19, 3) := by decide +kernel
theorem dX10_again_63 : decode cX10_again 63 = .ok (.iload_n 3, 1) := by decide +kernel
theorem dX10_again_64 : decode cX10_again 64 = .ok (.invokevirtual 78, 3) := by decide +kernel
theorem dX10_again_67 : decode cX10_again 67 = .ok (.istore 4, 2) := by decide +kernel
theorem dX10_again_69 : decode cX10_again 69 = .ok (.aload_n 0, 1) := by decide +kernel
theorem dX10_again_70 : decode cX10_again 70 = .ok (.getfield 19, 3) := by decide +kernel
theorem dX10_again_73 : decode cX10_again 73 = .ok (.iload_n 3, 1) := by decide +kernel
theorem dX10_again_74 : decode cX10_again 74 = .ok (.invokevirtual 82, 3) := by decide +kernel
theorem dX10_again_77 : decode cX10_again 77 = .ok (.istore 5, 2) := by decide +kernel
theorem dX10_again_79 : decode cX10_again 79 = .ok (.iconst 0, 1) := by decide +kernel
theorem dX10_again_80 : decode cX10_again 80 = .ok (.istore 6, 2) := by decide +kernel
theorem dX10_again_82 : decode cX10_again 82 = .ok (.iload 6, 2) := by decide +kernel
theorem dX10_again_84 : decode cX10_again 84 = .ok (.iload_n 1, 1) := by decide +kernel
theorem dX10_again_85 : decode cX10_again 85 = .ok (.if_icmp .gt 32, 3) := by decide +kernel
theorem dX10_again_88 : decode cX10_again 88 = .ok (.iload_n 2, 1) := by decide +kernel
theorem dX10_again_89 : decode cX10_again 89 = .ok (.iload 6, 2) := by decide +kernel
theorem dX10_again_91 : decode cX10_again 91 = .ok (.invokestatic 150, 3) := by decide +kernel
theorem dX10_again_94 : decode cX10_again 94 = .ok (.ifCond .eq 17, 3) := by decide +kernel
theorem dX10_again_97 : decode cX10_again 97 = .ok (.aload_n 0, 1) := by decide +kernel
theorem dX10_again_98 : decode cX10_again 98 = .ok (.getfield 25, 3) := by decide +kernel
theorem dX10_again_101 : decode cX10_again 101 = .ok (.iload 6, 2) := by decide +kernel
theorem dX10_again_103 : decode cX10_again 103 = .ok (.aaload, 1) := by decide +kernel
theorem dX10_again_104 : decode cX10_again 104 = .ok (.iload 4, 2) := by decide +kernel
theorem dX10_again_106 : decode cX10_again 106 = .ok (.iload 5, 2) := by decide +kernel
theorem dX10_again_108 : decode cX10_again 108 = .ok (.invokevirtual 154, 3) := by decide +kernel
theorem dX10_again_111 : decode cX10_again 111 = .ok (.iinc 6 1, 3) := by decide +kernel
theorem dX10_again_114 : decode cX10_again 114 = .ok (.goto (-32), 3) := by decide +kernel
theorem dX10_again_117 : decode cX10_again 117 = .ok (.iinc 3 1, 3) := by decide +kernel
theorem dX10_again_120 : decode cX10_again 120 = .ok (.goto (-72), 3) := by decide +kernel
theorem dX10_again_123 : decode cX10_again 123 = .ok (.aload_n 0, 1) := by decide +kernel
theorem dX10_again_124 : decode cX10_again 124 = .ok (.getfield 25, 3) := by decide +kernel
theorem dX10_again_127 : decode cX10_again 127 = .ok (.iload_n 1, 1) := by decide +kernel
theorem dX10_again_128 : decode cX10_again 128 = .ok (.aaload, 1) := by decide +kernel
theorem dX10_again_129 : decode cX10_again 129 = .ok (.getfield 112, 3) := by decide +kernel
theorem dX10_again_132 : decode cX10_again 132 = .ok (.getfield 116, 3) := by decide +kernel
theorem dX10_again_135 : decode cX10_again 135 = .ok (.ireturn, 1) := by decide +kernel
theorem dX10_keep_0 : decode cX10_keep 0 = .ok (.aload_n 0, 1) := by decide +kernel
theorem dX10_keep_1 : decode cX10_keep 1 = .ok (.iload_n 1, 1) := by decide +kernel
theorem dX10_keep_2 : decode cX10_keep 2 = .ok (.invokevirtual 85, 3) := by decide +kernel
theorem dX10_keep_5 : decode cX10_keep 5 = .ok (.ifCond .eq 12, 3) := by decide +kernel
theorem dX10_keep_8 : decode cX10_keep 8 = .ok (.iload_n 2, 1) := by decide +kernel
theorem dX10_keep_9 : decode cX10_keep 9 = .ok (.iconst 0, 1) := by decide +kernel
theorem dX10_keep_10 : decode cX10_keep 10 = .ok (.iconst 1, 1) := by decide +kernel
theorem dX10_keep_11 : decode cX10_keep 11 = .ok (.invokestatic 33, 3) := by decide +kernel
theorem dX10_keep_14 : decode cX10_keep 14 = .ok (.ifCond .ne 5, 3) := by decide +kernel
theorem dX10_keep_17 : decode cX10_keep 17 = .ok (.iconst (-1), 1) := by decide +kernel
theorem dX10_keep_18 : decode cX10_keep 18 = .ok (.ireturn, 1) := by decide +kernel
theorem dX10_keep_19 : decode cX10_keep 19 = .ok (.aload_n 0, 1) := by decide +kernel
theorem dX10_keep_20 : decode cX10_keep 20 = .ok (.getfield 25, 3) := by decide +kernel
theorem dX10_keep_23 : decode cX10_keep 23 = .ok (.iload_n 1, 1) := by decide +kernel
theorem dX10_keep_24 : decode cX10_keep 24 = .ok (.aaload, 1) := by decide +kernel
theorem dX10_keep_25 : decode cX10_keep 25 = .ok (.getfield 157, 3) := by decide +kernel
theorem dX10_keep_28 : decode cX10_keep 28 = .ok (.astore_n 3, 1) := by decide +kernel
theorem dX10_keep_29 : decode cX10_keep 29 = .ok (.aload_n 3, 1) := by decide +kernel
theorem dX10_keep_30 : decode cX10_keep 30 = .ok (.iload_n 2, 1) := by decide +kernel
theorem dX10_keep_31 : decode cX10_keep 31 = .ok (.aaload, 1) := by decide +kernel
theorem dX10_keep_32 : decode cX10_keep 32 = .ok (.ifnonnull 18, 3) := by decide +kernel
theorem dX10_keep_35 : decode cX10_keep 35 = .ok (.aload_n 3, 1) := by decide +kernel
theorem dX10_keep_36 : decode cX10_keep 36 = .ok (.iload_n 2, 1) := by decide +kernel
theorem dX10_keep_37 : decode cX10_keep 37 = .ok (.aload_n 0, 1) := by decide +kernel
theorem dX10_keep_38 : decode cX10_keep 38 = .ok (.getfield 25, 3) := by decide +kernel
theorem dX10_keep_41 : decode cX10_keep 41 = .ok (.iload_n 1, 1) := by decide +kernel
theorem dX10_keep_42 : decode cX10_keep 42 = .ok (.aaload, 1) := by decide +kernel
theorem dX10_keep_43 : decode cX10_keep 43 = .ok (.getfield 112, 3) := by decide +kernel
theorem dX10_keep_46 : decode cX10_keep 46 = .ok (.invokevirtual 161, 3) := by decide +kernel
theorem dX10_keep_49 : decode cX10_keep 49 = .ok (.aastore, 1) := by decide +kernel
theorem dX10_keep_50 : decode cX10_keep 50 = .ok (.aload_n 3, 1) := by decide +kernel
theorem dX10_keep_51 : decode cX10_keep 51 = .ok (.iload_n 2, 1) := by decide +kernel
theorem dX10_keep_52 : decode cX10_keep 52 = .ok (.aaload, 1) := by decide +kernel
theorem dX10_keep_53 : decode cX10_keep 53 = .ok (.aload_n 0, 1) := by decide +kernel
theorem dX10_keep_54 : decode cX10_keep 54 = .ok (.getfield 25, 3) := by decide +kernel
theorem dX10_keep_57 : decode cX10_keep 57 = .ok (.iload_n 1, 1) := by decide +kernel
theorem dX10_keep_58 : decode cX10_keep 58 = .ok (.aaload, 1) := by decide +kernel
theorem dX10_keep_59 : decode cX10_keep 59 = .ok (.getfield 112, 3) := by decide +kernel
theorem dX10_keep_62 : decode cX10_keep 62 = .ok (.invokevirtual 165, 3) := by decide +kernel
theorem dX10_keep_65 : decode cX10_keep 65 = .ok (.iconst 1, 1) := by decide +kernel
theorem dX10_keep_66 : decode cX10_keep 66 = .ok (.ireturn, 1) := by decide +kernel
theorem dX10_back_0 : decode cX10_back 0 = .ok (.aload_n 0, 1) := by decide +kernel
theorem dX10_back_1 : decode cX10_back 1 = .ok (.iload_n 1, 1) := by decide +kernel
theorem dX10_back_2 : decode cX10_back 2 = .ok (.invokevirtual 85, 3) := by decide +kernel
theorem dX10_back_5 : decode cX10_back 5 = .ok (.ifCond .eq 12, 3) := by decide +kernel
theorem dX10_back_8 : decode cX10_back 8 = .ok (.iload_n 2, 1) := by decide +kernel
theorem dX10_back_9 : decode cX10_back 9 = .ok (.iconst 0, 1) := by decide +kernel
theorem dX10_back_10 : decode cX10_back 10 = .ok (.iconst 1, 1) := by decide +kernel
theorem dX10_back_11 : decode cX10_back 11 = .ok (.invokestatic 33, 3) := by decide +kernel
theorem dX10_back_14 : decode cX10_back 14 = .ok (.ifCond .ne 5, 3) := by decide +kernel
theorem dX10_back_17 : decode cX10_back 17 = .ok (.iconst (-1), 1) := by decide +kernel
theorem dX10_back_18 : decode cX10_back 18 = .ok (.ireturn, 1) := by decide +kernel
theorem dX10_back_19 : decode cX10_back 19 = .ok (.aload_n 0, 1) := by decide +kernel
theorem dX10_back_20 : decode cX10_back 20 = .ok (.getfield 25, 3) := by decide +kernel
theorem dX10_back_23 : decode cX10_back 23 = .ok (.iload_n 1, 1) := by decide +kernel
theorem dX10_back_24 : decode cX10_back 24 = .ok (.aaload, 1) := by decide +kernel
theorem dX10_back_25 : decode cX10_back 25 = .ok (.getfield 157, 3) := by decide +kernel
theorem dX10_back_28 : decode cX10_back 28 = .ok (.iload_n 2, 1) := by decide +kernel
theorem dX10_back_29 : decode cX10_back 29 = .ok (.aaload, 1) := by decide +kernel
theorem dX10_back_30 : decode cX10_back 30 = .ok (.astore_n 3, 1) := by decide +kernel
theorem dX10_back_31 : decode cX10_back 31 = .ok (.aload_n 3, 1) := by decide +kernel
theorem dX10_back_32 : decode cX10_back 32 = .ok (.ifnonnull 5, 3) := by decide +kernel
theorem dX10_back_35 : decode cX10_back 35 = .ok (.iconst (-1), 1) := by decide +kernel
theorem dX10_back_36 : decode cX10_back 36 = .ok (.ireturn, 1) := by decide +kernel
theorem dX10_back_37 : decode cX10_back 37 = .ok (.aload_n 0, 1) := by decide +kernel
theorem dX10_back_38 : decode cX10_back 38 = .ok (.getfield 25, 3) := by decide +kernel
theorem dX10_back_41 : decode cX10_back 41 = .ok (.iload_n 1, 1) := by decide +kernel
theorem dX10_back_42 : decode cX10_back 42 = .ok (.aaload, 1) := by decide +kernel
theorem dX10_back_43 : decode cX10_back 43 = .ok (.getfield 112, 3) := by decide +kernel
theorem dX10_back_46 : decode cX10_back 46 = .ok (.aload_n 3, 1) := by decide +kernel
theorem dX10_back_47 : decode cX10_back 47 = .ok (.invokevirtual 165, 3) := by decide +kernel
theorem dX10_back_50 : decode cX10_back 50 = .ok (.aload_n 3, 1) := by decide +kernel
theorem dX10_back_51 : decode cX10_back 51 = .ok (.getfield 124, 3) := by decide +kernel
theorem dX10_back_54 : decode cX10_back 54 = .ok (.ireturn, 1) := by decide +kernel
theorem dX10_best_0 : decode cX10_best 0 = .ok (.iload_n 1, 1) := by decide +kernel
theorem dX10_best_1 : decode cX10_best 1 = .ok (.iconst 0, 1) := by decide +kernel
theorem dX10_best_2 : decode cX10_best 2 = .ok (.bipush 8, 2) := by decide +kernel
theorem dX10_best_4 : decode cX10_best 4 = .ok (.invokestatic 33, 3) := by decide +kernel
theorem dX10_best_7 : decode cX10_best 7 = .ok (.ifCond .ne 6, 3) := by decide +kernel
theorem dX10_best_10 : decode cX10_best 10 = .ok (.bipush (-2), 2) := by decide +kernel
theorem dX10_best_12 : decode cX10_best 12 = .ok (.ireturn, 1) := by decide +kernel
theorem dX10_best_13 : decode cX10_best 13 = .ok (.aload_n 0, 1) := by decide +kernel
theorem dX10_best_14 : decode cX10_best 14 = .ok (.getfield 19, 3) := by decide +kernel
theorem dX10_best_17 : decode cX10_best 17 = .ok (.iload_n 1, 1) := by decide +kernel
theorem dX10_best_18 : decode cX10_best 18 = .ok (.iload_n 2, 1) := by decide +kernel
theorem dX10_best_19 : decode cX10_best 19 = .ok (.invokevirtual 169, 3) := by decide +kernel
theorem dX10_best_22 : decode cX10_best 22 = .ok (.aload_n 0, 1) := by decide +kernel
theorem dX10_best_23 : decode cX10_best 23 = .ok (.getfield 19, 3) := by decide +kernel
theorem dX10_best_26 : decode cX10_best 26 = .ok (.getfield 173, 3) := by decide +kernel
theorem dX10_best_29 : decode cX10_best 29 = .ok (.ireturn, 1) := by decide +kernel
theorem dX10_seen_0 : decode cX10_seen 0 = .ok (.iload_n 1, 1) := by decide +kernel
theorem dX10_seen_1 : decode cX10_seen 1 = .ok (.iconst 0, 1) := by decide +kernel
theorem dX10_seen_2 : decode cX10_seen 2 = .ok (.bipush 8, 2) := by decide +kernel
theorem dX10_seen_4 : decode cX10_seen 4 = .ok (.invokestatic 33, 3) := by decide +kernel
theorem dX10_seen_7 : decode cX10_seen 7 = .ok (.ifCond .ne 6, 3) := by decide +kernel
theorem dX10_seen_10 : decode cX10_seen 10 = .ok (.bipush (-2), 2) := by decide +kernel
theorem dX10_seen_12 : decode cX10_seen 12 = .ok (.ireturn, 1) := by decide +kernel
theorem dX10_seen_13 : decode cX10_seen 13 = .ok (.aload_n 0, 1) := by decide +kernel
theorem dX10_seen_14 : decode cX10_seen 14 = .ok (.getfield 19, 3) := by decide +kernel
theorem dX10_seen_17 : decode cX10_seen 17 = .ok (.iload_n 1, 1) := by decide +kernel
theorem dX10_seen_18 : decode cX10_seen 18 = .ok (.iload_n 2, 1) := by decide +kernel
theorem dX10_seen_19 : decode cX10_seen 19 = .ok (.invokevirtual 169, 3) := by decide +kernel
theorem dX10_seen_22 : decode cX10_seen 22 = .ok (.aload_n 0, 1) := by decide +kernel
theorem dX10_seen_23 : decode cX10_seen 23 = .ok (.getfield 19, 3) := by decide +kernel
theorem dX10_seen_26 : decode cX10_seen 26 = .ok (.getfield 176, 3) := by decide +kernel
theorem dX10_seen_29 : decode cX10_seen 29 = .ok (.ireturn, 1) := by decide +kernel
theorem dX10_often_0 : decode cX10_often 0 = .ok (.iload_n 1, 1) := by decide +kernel
theorem dX10_often_1 : decode cX10_often 1 = .ok (.invokestatic 29, 3) := by decide +kernel
theorem dX10_often_4 : decode cX10_often 4 = .ok (.ifCond .ne 5, 3) := by decide +kernel
theorem dX10_often_7 : decode cX10_often 7 = .ok (.iconst (-1), 1) := by decide +kernel
theorem dX10_often_8 : decode cX10_often 8 = .ok (.ireturn, 1) := by decide +kernel
theorem dX10_often_9 : decode cX10_often 9 = .ok (.iload_n 2, 1) := by decide +kernel
theorem dX10_often_10 : decode cX10_often 10 = .ok (.iconst (-1), 1) := by decide +kernel
theorem dX10_often_11 : decode cX10_often 11 = .ok (.if_icmp .ne 23, 3) := by decide +kernel
theorem dX10_often_14 : decode cX10_often 14 = .ok (.aload_n 0, 1) := by decide +kernel
theorem dX10_often_15 : decode cX10_often 15 = .ok (.getfield 19, 3) := by decide +kernel
theorem dX10_often_18 : decode cX10_often 18 = .ok (.iload_n 1, 1) := by decide +kernel
theorem dX10_often_19 : decode cX10_often 19 = .ok (.iconst 0, 1) := by decide +kernel
theorem dX10_often_20 : decode cX10_often 20 = .ok (.invokevirtual 179, 3) := by decide +kernel
theorem dX10_often_23 : decode cX10_often 23 = .ok (.aload_n 0, 1) := by decide +kernel
theorem dX10_often_24 : decode cX10_often 24 = .ok (.getfield 19, 3) := by decide +kernel
theorem dX10_often_27 : decode cX10_often 27 = .ok (.iload_n 1, 1) := by decide +kernel
theorem dX10_often_28 : decode cX10_often 28 = .ok (.iconst 1, 1) := by decide +kernel
theorem dX10_often_29 : decode cX10_often 29 = .ok (.invokevirtual 179, 3) := by decide +kernel
theorem dX10_often_32 : decode cX10_often 32 = .ok (.iadd, 1) := by decide +kernel
theorem dX10_often_33 : decode cX10_often 33 = .ok (.ireturn, 1) := by decide +kernel
theorem dX10_often_34 : decode cX10_often 34 = .ok (.iload_n 2, 1) := by decide +kernel
theorem dX10_often_35 : decode cX10_often 35 = .ok (.invokestatic 69, 3) := by decide +kernel
theorem dX10_often_38 : decode cX10_often 38 = .ok (.ifCond .eq 15, 3) := by decide +kernel
theorem dX10_often_41 : decode cX10_often 41 = .ok (.aload_n 0, 1) := by decide +kernel
theorem dX10_often_42 : decode cX10_often 42 = .ok (.getfield 19, 3) := by decide +kernel
theorem dX10_often_45 : decode cX10_often 45 = .ok (.iload_n 1, 1) := by decide +kernel
theorem dX10_often_46 : decode cX10_often 46 = .ok (.iload_n 2, 1) := by decide +kernel
theorem dX10_often_47 : decode cX10_often 47 = .ok (.invokevirtual 179, 3) := by decide +kernel
theorem dX10_often_50 : decode cX10_often 50 = .ok (.goto 5, 3) := by decide +kernel
theorem dX10_often_53 : decode cX10_often 53 = .ok (.bipush (-2), 2) := by decide +kernel
theorem dX10_often_55 : decode cX10_often 55 = .ok (.ireturn, 1) := by decide +kernel
theorem dX10_ticks_0 : decode cX10_ticks 0 = .ok (.aload_n 0, 1) := by decide +kernel
theorem dX10_ticks_1 : decode cX10_ticks 1 = .ok (.iload_n 1, 1) := by decide +kernel
theorem dX10_ticks_2 : decode cX10_ticks 2 = .ok (.invokevirtual 85, 3) := by decide +kernel
theorem dX10_ticks_5 : decode cX10_ticks 5 = .ok (.ifCond .ne 5, 3) := by decide +kernel
theorem dX10_ticks_8 : decode cX10_ticks 8 = .ok (.iconst (-1), 1) := by decide +kernel
theorem dX10_ticks_9 : decode cX10_ticks 9 = .ok (.ireturn, 1) := by decide +kernel
theorem dX10_ticks_10 : decode cX10_ticks 10 = .ok (.iload_n 2, 1) := by decide +kernel
theorem dX10_ticks_11 : decode cX10_ticks 11 = .ok (.iconst 0, 1) := by decide +kernel
theorem dX10_ticks_12 : decode cX10_ticks 12 = .ok (.bipush 100, 2) := by decide +kernel
theorem dX10_ticks_14 : decode cX10_ticks 14 = .ok (.invokestatic 33, 3) := by decide +kernel
theorem dX10_ticks_17 : decode cX10_ticks 17 = .ok (.ifCond .ne 6, 3) := by decide +kernel
theorem dX10_ticks_20 : decode cX10_ticks 20 = .ok (.bipush (-2), 2) := by decide +kernel
theorem dX10_ticks_22 : decode cX10_ticks 22 = .ok (.ireturn, 1) := by decide +kernel
theorem dX10_ticks_23 : decode cX10_ticks 23 = .ok (.aload_n 0, 1) := by decide +kernel
theorem dX10_ticks_24 : decode cX10_ticks 24 = .ok (.getfield 12, 3) := by decide +kernel
theorem dX10_ticks_27 : decode cX10_ticks 27 = .ok (.getfield 182, 3) := by decide +kernel
theorem dX10_ticks_30 : decode cX10_ticks 30 = .ok (.iload_n 2, 1) := by decide +kernel
theorem dX10_ticks_31 : decode cX10_ticks 31 = .ok (.aload_n 0, 1) := by decide +kernel
theorem dX10_ticks_32 : decode cX10_ticks 32 = .ok (.getfield 25, 3) := by decide +kernel
theorem dX10_ticks_35 : decode cX10_ticks 35 = .ok (.iload_n 1, 1) := by decide +kernel
theorem dX10_ticks_36 : decode cX10_ticks 36 = .ok (.aaload, 1) := by decide +kernel
theorem dX10_ticks_37 : decode cX10_ticks 37 = .ok (.getfield 112, 3) := by decide +kernel
theorem dX10_ticks_40 : decode cX10_ticks 40 = .ok (.getfield 116, 3) := by decide +kernel
theorem dX10_ticks_43 : decode cX10_ticks 43 = .ok (.imul, 1) := by decide +kernel
theorem dX10_ticks_44 : decode cX10_ticks 44 = .ok (.iadd, 1) := by decide +kernel
theorem dX10_ticks_45 : decode cX10_ticks 45 = .ok (.ireturn, 1) := by decide +kernel
theorem dX10_told_0 : decode cX10_told 0 = .ok (.iload_n 1, 1) := by decide +kernel
theorem dX10_told_1 : decode cX10_told 1 = .ok (.tableswitch 69 0 4 #[35, 43, 51, 56, 64], 35) := by decide +kernel
theorem dX10_told_36 : decode cX10_told 36 = .ok (.aload_n 0, 1) := by decide +kernel
theorem dX10_told_37 : decode cX10_told 37 = .ok (.getfield 12, 3) := by decide +kernel
theorem dX10_told_40 : decode cX10_told 40 = .ok (.getfield 57, 3) := by decide +kernel
theorem dX10_told_43 : decode cX10_told 43 = .ok (.ireturn, 1) := by decide +kernel
theorem dX10_told_44 : decode cX10_told 44 = .ok (.aload_n 0, 1) := by decide +kernel
theorem dX10_told_45 : decode cX10_told 45 = .ok (.getfield 12, 3) := by decide +kernel
theorem dX10_told_48 : decode cX10_told 48 = .ok (.getfield 182, 3) := by decide +kernel
theorem dX10_told_51 : decode cX10_told 51 = .ok (.ireturn, 1) := by decide +kernel
theorem dX10_told_52 : decode cX10_told 52 = .ok (.aload_n 0, 1) := by decide +kernel
theorem dX10_told_53 : decode cX10_told 53 = .ok (.getfield 72, 3) := by decide +kernel
theorem dX10_told_56 : decode cX10_told 56 = .ok (.ireturn, 1) := by decide +kernel
theorem dX10_told_57 : decode cX10_told 57 = .ok (.aload_n 0, 1) := by decide +kernel
theorem dX10_told_58 : decode cX10_told 58 = .ok (.getfield 19, 3) := by decide +kernel
theorem dX10_told_61 : decode cX10_told 61 = .ok (.getfield 75, 3) := by decide +kernel
theorem dX10_told_64 : decode cX10_told 64 = .ok (.ireturn, 1) := by decide +kernel
theorem dX10_told_65 : decode cX10_told 65 = .ok (.aload_n 0, 1) := by decide +kernel
theorem dX10_told_66 : decode cX10_told 66 = .ok (.getfield 92, 3) := by decide +kernel
theorem dX10_told_69 : decode cX10_told 69 = .ok (.ireturn, 1) := by decide +kernel
theorem dX10_told_70 : decode cX10_told 70 = .ok (.bipush (-2), 2) := by decide +kernel
theorem dX10_told_72 : decode cX10_told 72 = .ok (.ireturn, 1) := by decide +kernel
theorem dX10_empty_0 : decode cX10_empty 0 = .ok (.aload_n 0, 1) := by decide +kernel
theorem dX10_empty_1 : decode cX10_empty 1 = .ok (.getfield 19, 3) := by decide +kernel
theorem dX10_empty_4 : decode cX10_empty 4 = .ok (.getfield 75, 3) := by decide +kernel
theorem dX10_empty_7 : decode cX10_empty 7 = .ok (.istore_n 1, 1) := by decide +kernel
theorem dX10_empty_8 : decode cX10_empty 8 = .ok (.aload_n 0, 1) := by decide +kernel
theorem dX10_empty_9 : decode cX10_empty 9 = .ok (.getfield 19, 3) := by decide +kernel
theorem dX10_empty_12 : decode cX10_empty 12 = .ok (.invokevirtual 185, 3) := by decide +kernel
theorem dX10_empty_15 : decode cX10_empty 15 = .ok (.iload_n 1, 1) := by decide +kernel
theorem dX10_empty_16 : decode cX10_empty 16 = .ok (.ireturn, 1) := by decide +kernel
theorem dX10_within_0 : decode cX10_within 0 = .ok (.iload_n 0, 1) := by decide +kernel
theorem dX10_within_1 : decode cX10_within 1 = .ok (.iload_n 1, 1) := by decide +kernel
theorem dX10_within_2 : decode cX10_within 2 = .ok (.if_icmp .lt 12, 3) := by decide +kernel
theorem dX10_within_5 : decode cX10_within 5 = .ok (.iload_n 0, 1) := by decide +kernel
theorem dX10_within_6 : decode cX10_within 6 = .ok (.iload_n 2, 1) := by decide +kernel
theorem dX10_within_7 : decode cX10_within 7 = .ok (.if_icmp .gt 7, 3) := by decide +kernel
theorem dX10_within_10 : decode cX10_within 10 = .ok (.iconst 1, 1) := by decide +kernel
theorem dX10_within_11 : decode cX10_within 11 = .ok (.goto 4, 3) := by decide +kernel
theorem dX10_within_14 : decode cX10_within 14 = .ok (.iconst 0, 1) := by decide +kernel
theorem dX10_within_15 : decode cX10_within 15 = .ok (.ireturn, 1) := by decide +kernel
theorem dX10_isPlace_0 : decode cX10_isPlace 0 = .ok (.iload_n 0, 1) := by decide +kernel
theorem dX10_isPlace_1 : decode cX10_isPlace 1 = .ok (.iconst 0, 1) := by decide +kernel
theorem dX10_isPlace_2 : decode cX10_isPlace 2 = .ok (.bipush 63, 2) := by decide +kernel
theorem dX10_isPlace_4 : decode cX10_isPlace 4 = .ok (.invokestatic 33, 3) := by decide +kernel
theorem dX10_isPlace_7 : decode cX10_isPlace 7 = .ok (.ireturn, 1) := by decide +kernel
theorem dX10_isRegister_0 : decode cX10_isRegister 0 = .ok (.iload_n 0, 1) := by decide +kernel
theorem dX10_isRegister_1 : decode cX10_isRegister 1 = .ok (.iconst 0, 1) := by decide +kernel
theorem dX10_isRegister_2 : decode cX10_isRegister 2 = .ok (.bipush 7, 2) := by decide +kernel
theorem dX10_isRegister_4 : decode cX10_isRegister 4 = .ok (.invokestatic 33, 3) := by decide +kernel
theorem dX10_isRegister_7 : decode cX10_isRegister 7 = .ok (.ireturn, 1) := by decide +kernel
theorem dX10_isData_0 : decode cX10_isData 0 = .ok (.iload_n 0, 1) := by decide +kernel
theorem dX10_isData_1 : decode cX10_isData 1 = .ok (.iconst 0, 1) := by decide +kernel
theorem dX10_isData_2 : decode cX10_isData 2 = .ok (.bipush 31, 2) := by decide +kernel
theorem dX10_isData_4 : decode cX10_isData 4 = .ok (.invokestatic 33, 3) := by decide +kernel
theorem dX10_isData_7 : decode cX10_isData 7 = .ok (.ireturn, 1) := by decide +kernel
theorem dX10_isWay_0 : decode cX10_isWay 0 = .ok (.iload_n 0, 1) := by decide +kernel
theorem dX10_isWay_1 : decode cX10_isWay 1 = .ok (.ifCond .eq 8, 3) := by decide +kernel
theorem dX10_isWay_4 : decode cX10_isWay 4 = .ok (.iload_n 0, 1) := by decide +kernel
theorem dX10_isWay_5 : decode cX10_isWay 5 = .ok (.iconst 1, 1) := by decide +kernel
theorem dX10_isWay_6 : decode cX10_isWay 6 = .ok (.if_icmp .ne 7, 3) := by decide +kernel
theorem dX10_isWay_9 : decode cX10_isWay 9 = .ok (.iconst 1, 1) := by decide +kernel
theorem dX10_isWay_10 : decode cX10_isWay 10 = .ok (.goto 4, 3) := by decide +kernel
theorem dX10_isWay_13 : decode cX10_isWay 13 = .ok (.iconst 0, 1) := by decide +kernel
theorem dX10_isWay_14 : decode cX10_isWay 14 = .ok (.ireturn, 1) := by decide +kernel
theorem dX10_isIn_0 : decode cX10_isIn 0 = .ok (.iload_n 0, 1) := by decide +kernel
theorem dX10_isIn_1 : decode cX10_isIn 1 = .ok (.iload_n 1, 1) := by decide +kernel
theorem dX10_isIn_2 : decode cX10_isIn 2 = .ok (.ishr, 1) := by decide +kernel
theorem dX10_isIn_3 : decode cX10_isIn 3 = .ok (.iconst 1, 1) := by decide +kernel
theorem dX10_isIn_4 : decode cX10_isIn 4 = .ok (.iand, 1) := by decide +kernel
theorem dX10_isIn_5 : decode cX10_isIn 5 = .ok (.iconst 1, 1) := by decide +kernel
theorem dX10_isIn_6 : decode cX10_isIn 6 = .ok (.if_icmp .ne 7, 3) := by decide +kernel
theorem dX10_isIn_9 : decode cX10_isIn 9 = .ok (.iconst 1, 1) := by decide +kernel
theorem dX10_isIn_10 : decode cX10_isIn 10 = .ok (.goto 4, 3) := by decide +kernel
theorem dX10_isIn_13 : decode cX10_isIn 13 = .ok (.iconst 0, 1) := by decide +kernel
theorem dX10_isIn_14 : decode cX10_isIn 14 = .ok (.ireturn, 1) := by decide +kernel
theorem dX10_lowBits_0 : decode cX10_lowBits 0 = .ok (.iconst 1, 1) := by decide +kernel
theorem dX10_lowBits_1 : decode cX10_lowBits 1 = .ok (.iload_n 0, 1) := by decide +kernel
theorem dX10_lowBits_2 : decode cX10_lowBits 2 = .ok (.ishl, 1) := by decide +kernel
theorem dX10_lowBits_3 : decode cX10_lowBits 3 = .ok (.iconst 1, 1) := by decide +kernel
theorem dX10_lowBits_4 : decode cX10_lowBits 4 = .ok (.isub, 1) := by decide +kernel
theorem dX10_lowBits_5 : decode cX10_lowBits 5 = .ok (.ireturn, 1) := by decide +kernel
theorem dX10_isGuesser_0 : decode cX10_isGuesser 0 = .ok (.iload_n 1, 1) := by decide +kernel
theorem dX10_isGuesser_1 : decode cX10_isGuesser 1 = .ok (.iconst 0, 1) := by decide +kernel
theorem dX10_isGuesser_2 : decode cX10_isGuesser 2 = .ok (.aload_n 0, 1) := by decide +kernel
theorem dX10_isGuesser_3 : decode cX10_isGuesser 3 = .ok (.getfield 92, 3) := by decide +kernel
theorem dX10_isGuesser_6 : decode cX10_isGuesser 6 = .ok (.iconst 1, 1) := by decide +kernel
theorem dX10_isGuesser_7 : decode cX10_isGuesser 7 = .ok (.isub, 1) := by decide +kernel
theorem dX10_isGuesser_8 : decode cX10_isGuesser 8 = .ok (.invokestatic 33, 3) := by decide +kernel
theorem dX10_isGuesser_11 : decode cX10_isGuesser 11 = .ok (.ireturn, 1) := by decide +kernel
theorem dX10_meet_0 : decode cX10_meet 0 = .ok (.aload_n 0, 1) := by decide +kernel
theorem dX10_meet_1 : decode cX10_meet 1 = .ok (.dup, 1) := by decide +kernel
theorem dX10_meet_2 : decode cX10_meet 2 = .ok (.getfield 72, 3) := by decide +kernel
theorem dX10_meet_5 : decode cX10_meet 5 = .ok (.iconst 1, 1) := by decide +kernel
theorem dX10_meet_6 : decode cX10_meet 6 = .ok (.iadd, 1) := by decide +kernel
theorem dX10_meet_7 : decode cX10_meet 7 = .ok (.putfield 72, 3) := by decide +kernel
theorem dX10_meet_10 : decode cX10_meet 10 = .ok (.aload_n 0, 1) := by decide +kernel
theorem dX10_meet_11 : decode cX10_meet 11 = .ok (.getfield 19, 3) := by decide +kernel
theorem dX10_meet_14 : decode cX10_meet 14 = .ok (.iload_n 1, 1) := by decide +kernel
theorem dX10_meet_15 : decode cX10_meet 15 = .ok (.iload_n 2, 1) := by decide +kernel
theorem dX10_meet_16 : decode cX10_meet 16 = .ok (.invokevirtual 188, 3) := by decide +kernel
theorem dX10_meet_19 : decode cX10_meet 19 = .ok (.iconst 0, 1) := by decide +kernel
theorem dX10_meet_20 : decode cX10_meet 20 = .ok (.istore_n 3, 1) := by decide +kernel
theorem dX10_meet_21 : decode cX10_meet 21 = .ok (.iload_n 3, 1) := by decide +kernel
theorem dX10_meet_22 : decode cX10_meet 22 = .ok (.aload_n 0, 1) := by decide +kernel
theorem dX10_meet_23 : decode cX10_meet 23 = .ok (.getfield 92, 3) := by decide +kernel
theorem dX10_meet_26 : decode cX10_meet 26 = .ok (.if_icmp .ge 20, 3) := by decide +kernel
theorem dX10_meet_29 : decode cX10_meet 29 = .ok (.aload_n 0, 1) := by decide +kernel
theorem dX10_meet_30 : decode cX10_meet 30 = .ok (.getfield 25, 3) := by decide +kernel
theorem dX10_meet_33 : decode cX10_meet 33 = .ok (.iload_n 3, 1) := by decide +kernel
theorem dX10_meet_34 : decode cX10_meet 34 = .ok (.aaload, 1) := by decide +kernel
theorem dX10_meet_35 : decode cX10_meet 35 = .ok (.iload_n 1, 1) := by decide +kernel
theorem dX10_meet_36 : decode cX10_meet 36 = .ok (.iload_n 2, 1) := by decide +kernel
theorem dX10_meet_37 : decode cX10_meet 37 = .ok (.invokevirtual 154, 3) := by decide +kernel
theorem dX10_meet_40 : decode cX10_meet 40 = .ok (.iinc 3 1, 3) := by decide +kernel
theorem dX10_meet_43 : decode cX10_meet 43 = .ok (.goto (-22), 3) := by decide +kernel
theorem dX10_meet_46 : decode cX10_meet 46 = .ok (.return_, 1) := by decide +kernel
theorem dX10_fits_0 : decode cX10_fits 0 = .ok (.iload_n 0, 1) := by decide +kernel
theorem dX10_fits_1 : decode cX10_fits 1 = .ok (.tableswitch 198 0 7 #[47, 54, 62, 88, 123, 148, 183, 190], 47) := by decide +kernel
theorem dX10_fits_48 : decode cX10_fits 48 = .ok (.iload_n 1, 1) := by decide +kernel
theorem dX10_fits_49 : decode cX10_fits 49 = .ok (.iconst 0, 1) := by decide +kernel
theorem dX10_fits_50 : decode cX10_fits 50 = .ok (.iconst 2, 1) := by decide +kernel
theorem dX10_fits_51 : decode cX10_fits 51 = .ok (.invokestatic 33, 3) := by decide +kernel
theorem dX10_fits_54 : decode cX10_fits 54 = .ok (.ireturn, 1) := by decide +kernel
theorem dX10_fits_55 : decode cX10_fits 55 = .ok (.iload_n 1, 1) := by decide +kernel
theorem dX10_fits_56 : decode cX10_fits 56 = .ok (.iconst 0, 1) := by decide +kernel
theorem dX10_fits_57 : decode cX10_fits 57 = .ok (.bipush 6, 2) := by decide +kernel
theorem dX10_fits_59 : decode cX10_fits 59 = .ok (.invokestatic 33, 3) := by decide +kernel
theorem dX10_fits_62 : decode cX10_fits 62 = .ok (.ireturn, 1) := by decide +kernel
theorem dX10_fits_63 : decode cX10_fits 63 = .ok (.iload_n 1, 1) := by decide +kernel
theorem dX10_fits_64 : decode cX10_fits 64 = .ok (.iconst 0, 1) := by decide +kernel
theorem dX10_fits_65 : decode cX10_fits 65 = .ok (.bipush 8, 2) := by decide +kernel
theorem dX10_fits_67 : decode cX10_fits 67 = .ok (.invokestatic 33, 3) := by decide +kernel
theorem dX10_fits_70 : decode cX10_fits 70 = .ok (.ifCond .eq 17, 3) := by decide +kernel
theorem dX10_fits_73 : decode cX10_fits 73 = .ok (.iload_n 2, 1) := by decide +kernel
theorem dX10_fits_74 : decode cX10_fits 74 = .ok (.iconst 0, 1) := by decide +kernel
theorem dX10_fits_75 : decode cX10_fits 75 = .ok (.bipush 8, 2) := by decide +kernel
theorem dX10_fits_77 : decode cX10_fits 77 = .ok (.invokestatic 33, 3) := by decide +kernel
theorem dX10_fits_80 : decode cX10_fits 80 = .ok (.ifCond .eq 7, 3) := by decide +kernel
theorem dX10_fits_83 : decode cX10_fits 83 = .ok (.iconst 1, 1) := by decide +kernel
theorem dX10_fits_84 : decode cX10_fits 84 = .ok (.goto 4, 3) := by decide +kernel
theorem dX10_fits_87 : decode cX10_fits 87 = .ok (.iconst 0, 1) := by decide +kernel
theorem dX10_fits_88 : decode cX10_fits 88 = .ok (.ireturn, 1) := by decide +kernel
theorem dX10_fits_89 : decode cX10_fits 89 = .ok (.iload_n 1, 1) := by decide +kernel
theorem dX10_fits_90 : decode cX10_fits 90 = .ok (.iconst 0, 1) := by decide +kernel
theorem dX10_fits_91 : decode cX10_fits 91 = .ok (.bipush 8, 2) := by decide +kernel
theorem dX10_fits_93 : decode cX10_fits 93 = .ok (.invokestatic 33, 3) := by decide +kernel
theorem dX10_fits_96 : decode cX10_fits 96 = .ok (.ifCond .eq 26, 3) := by decide +kernel
theorem dX10_fits_99 : decode cX10_fits 99 = .ok (.iload_n 2, 1) := by decide +kernel
theorem dX10_fits_100 : decode cX10_fits 100 = .ok (.iconst 0, 1) := by decide +kernel
theorem dX10_fits_101 : decode cX10_fits 101 = .ok (.bipush 8, 2) := by decide +kernel
theorem dX10_fits_103 : decode cX10_fits 103 = .ok (.invokestatic 33, 3) := by decide +kernel
theorem dX10_fits_106 : decode cX10_fits 106 = .ok (.ifCond .eq 16, 3) := by decide +kernel
theorem dX10_fits_109 : decode cX10_fits 109 = .ok (.iload_n 3, 1) := by decide +kernel
theorem dX10_fits_110 : decode cX10_fits 110 = .ok (.iconst 0, 1) := by decide +kernel
theorem dX10_fits_111 : decode cX10_fits 111 = .ok (.iconst 1, 1) := by decide +kernel
theorem dX10_fits_112 : decode cX10_fits 112 = .ok (.invokestatic 33, 3) := by decide +kernel
theorem dX10_fits_115 : decode cX10_fits 115 = .ok (.ifCond .eq 7, 3) := by decide +kernel
theorem dX10_fits_118 : decode cX10_fits 118 = .ok (.iconst 1, 1) := by decide +kernel
theorem dX10_fits_119 : decode cX10_fits 119 = .ok (.goto 4, 3) := by decide +kernel
theorem dX10_fits_122 : decode cX10_fits 122 = .ok (.iconst 0, 1) := by decide +kernel
theorem dX10_fits_123 : decode cX10_fits 123 = .ok (.ireturn, 1) := by decide +kernel
theorem dX10_fits_124 : decode cX10_fits 124 = .ok (.iload_n 1, 1) := by decide +kernel
theorem dX10_fits_125 : decode cX10_fits 125 = .ok (.iconst 1, 1) := by decide +kernel
theorem dX10_fits_126 : decode cX10_fits 126 = .ok (.bipush 7, 2) := by decide +kernel
theorem dX10_fits_128 : decode cX10_fits 128 = .ok (.invokestatic 33, 3) := by decide +kernel
theorem dX10_fits_131 : decode cX10_fits 131 = .ok (.ifCond .eq 16, 3) := by decide +kernel
theorem dX10_fits_134 : decode cX10_fits 134 = .ok (.iload_n 2, 1) := by decide +kernel
theorem dX10_fits_135 : decode cX10_fits 135 = .ok (.iconst 1, 1) := by decide +kernel
theorem dX10_fits_136 : decode cX10_fits 136 = .ok (.iconst 4, 1) := by decide +kernel
theorem dX10_fits_137 : decode cX10_fits 137 = .ok (.invokestatic 33, 3) := by decide +kernel
theorem dX10_fits_140 : decode cX10_fits 140 = .ok (.ifCond .eq 7, 3) := by decide +kernel
theorem dX10_fits_143 : decode cX10_fits 143 = .ok (.iconst 1, 1) := by decide +kernel
theorem dX10_fits_144 : decode cX10_fits 144 = .ok (.goto 4, 3) := by decide +kernel
theorem dX10_fits_147 : decode cX10_fits 147 = .ok (.iconst 0, 1) := by decide +kernel
theorem dX10_fits_148 : decode cX10_fits 148 = .ok (.ireturn, 1) := by decide +kernel
theorem dX10_fits_149 : decode cX10_fits 149 = .ok (.iload_n 1, 1) := by decide +kernel
theorem dX10_fits_150 : decode cX10_fits 150 = .ok (.iconst 0, 1) := by decide +kernel
theorem dX10_fits_151 : decode cX10_fits 151 = .ok (.iconst 4, 1) := by decide +kernel
theorem dX10_fits_152 : decode cX10_fits 152 = .ok (.invokestatic 33, 3) := by decide +kernel
theorem dX10_fits_155 : decode cX10_fits 155 = .ok (.ifCond .eq 27, 3) := by decide +kernel
theorem dX10_fits_158 : decode cX10_fits 158 = .ok (.iload_n 2, 1) := by decide +kernel
theorem dX10_fits_159 : decode cX10_fits 159 = .ok (.iconst 1, 1) := by decide +kernel
theorem dX10_fits_160 : decode cX10_fits 160 = .ok (.bipush 8, 2) := by decide +kernel
theorem dX10_fits_162 : decode cX10_fits 162 = .ok (.invokestatic 33, 3) := by decide +kernel
theorem dX10_fits_165 : decode cX10_fits 165 = .ok (.ifCond .eq 17, 3) := by decide +kernel
theorem dX10_fits_168 : decode cX10_fits 168 = .ok (.iload_n 3, 1) := by decide +kernel
theorem dX10_fits_169 : decode cX10_fits 169 = .ok (.iconst 0, 1) := by decide +kernel
theorem dX10_fits_170 : decode cX10_fits 170 = .ok (.bipush 50, 2) := by decide +kernel
theorem dX10_fits_172 : decode cX10_fits 172 = .ok (.invokestatic 33, 3) := by decide +kernel
theorem dX10_fits_175 : decode cX10_fits 175 = .ok (.ifCond .eq 7, 3) := by decide +kernel
theorem dX10_fits_178 : decode cX10_fits 178 = .ok (.iconst 1, 1) := by decide +kernel
theorem dX10_fits_179 : decode cX10_fits 179 = .ok (.goto 4, 3) := by decide +kernel
theorem dX10_fits_182 : decode cX10_fits 182 = .ok (.iconst 0, 1) := by decide +kernel
theorem dX10_fits_183 : decode cX10_fits 183 = .ok (.ireturn, 1) := by decide +kernel
theorem dX10_fits_184 : decode cX10_fits 184 = .ok (.iload_n 1, 1) := by decide +kernel
theorem dX10_fits_185 : decode cX10_fits 185 = .ok (.iconst 1, 1) := by decide +kernel
theorem dX10_fits_186 : decode cX10_fits 186 = .ok (.iconst 3, 1) := by decide +kernel
theorem dX10_fits_187 : decode cX10_fits 187 = .ok (.invokestatic 33, 3) := by decide +kernel
theorem dX10_fits_190 : decode cX10_fits 190 = .ok (.ireturn, 1) := by decide +kernel
theorem dX10_fits_191 : decode cX10_fits 191 = .ok (.iload_n 3, 1) := by decide +kernel
theorem dX10_fits_192 : decode cX10_fits 192 = .ok (.iconst 0, 1) := by decide +kernel
theorem dX10_fits_193 : decode cX10_fits 193 = .ok (.bipush 6, 2) := by decide +kernel
theorem dX10_fits_195 : decode cX10_fits 195 = .ok (.invokestatic 33, 3) := by decide +kernel
theorem dX10_fits_198 : decode cX10_fits 198 = .ok (.ireturn, 1) := by decide +kernel
theorem dX10_fits_199 : decode cX10_fits 199 = .ok (.iconst 0, 1) := by decide +kernel
theorem dX10_fits_200 : decode cX10_fits 200 = .ok (.ireturn, 1) := by decide +kernel
theorem dX10_made_0 : decode cX10_made 0 = .ok (.iload_n 1, 1) := by decide +kernel
theorem dX10_made_1 : decode cX10_made 1 = .ok (.tableswitch 140 1 7 #[43, 55, 67, 80, 90, 102, 111], 43) := by decide +kernel
theorem dX10_made_44 : decode cX10_made 44 = .ok (.new 191, 3) := by decide +kernel
theorem dX10_made_47 : decode cX10_made 47 = .ok (.dup, 1) := by decide +kernel
theorem dX10_made_48 : decode cX10_made 48 = .ok (.iload_n 2, 1) := by decide +kernel
theorem dX10_made_49 : decode cX10_made 49 = .ok (.iconst 0, 1) := by decide +kernel
theorem dX10_made_50 : decode cX10_made 50 = .ok (.iconst 0, 1) := by decide +kernel
theorem dX10_made_51 : decode cX10_made 51 = .ok (.iconst 1, 1) := by decide +kernel
theorem dX10_made_52 : decode cX10_made 52 = .ok (.invokespecial 193, 3) := by decide +kernel
theorem dX10_made_55 : decode cX10_made 55 = .ok (.areturn, 1) := by decide +kernel
theorem dX10_made_56 : decode cX10_made 56 = .ok (.new 191, 3) := by decide +kernel
theorem dX10_made_59 : decode cX10_made 59 = .ok (.dup, 1) := by decide +kernel
theorem dX10_made_60 : decode cX10_made 60 = .ok (.iload_n 2, 1) := by decide +kernel
theorem dX10_made_61 : decode cX10_made 61 = .ok (.iload_n 3, 1) := by decide +kernel
theorem dX10_made_62 : decode cX10_made 62 = .ok (.iconst 0, 1) := by decide +kernel
theorem dX10_made_63 : decode cX10_made 63 = .ok (.iconst 1, 1) := by decide +kernel
theorem dX10_made_64 : decode cX10_made 64 = .ok (.invokespecial 193, 3) := by decide +kernel
theorem dX10_made_67 : decode cX10_made 67 = .ok (.areturn, 1) := by decide +kernel
theorem dX10_made_68 : decode cX10_made 68 = .ok (.new 191, 3) := by decide +kernel
theorem dX10_made_71 : decode cX10_made 71 = .ok (.dup, 1) := by decide +kernel
theorem dX10_made_72 : decode cX10_made 72 = .ok (.iload_n 2, 1) := by decide +kernel
theorem dX10_made_73 : decode cX10_made 73 = .ok (.iload_n 3, 1) := by decide +kernel
theorem dX10_made_74 : decode cX10_made 74 = .ok (.iconst 1, 1) := by decide +kernel
theorem dX10_made_75 : decode cX10_made 75 = .ok (.iload 4, 2) := by decide +kernel
theorem dX10_made_77 : decode cX10_made 77 = .ok (.invokespecial 193, 3) := by decide +kernel
theorem dX10_made_80 : decode cX10_made 80 = .ok (.areturn, 1) := by decide +kernel
theorem dX10_made_81 : decode cX10_made 81 = .ok (.new 196, 3) := by decide +kernel
theorem dX10_made_84 : decode cX10_made 84 = .ok (.dup, 1) := by decide +kernel
theorem dX10_made_85 : decode cX10_made 85 = .ok (.iload_n 2, 1) := by decide +kernel
theorem dX10_made_86 : decode cX10_made 86 = .ok (.iload_n 3, 1) := by decide +kernel
theorem dX10_made_87 : decode cX10_made 87 = .ok (.invokespecial 198, 3) := by decide +kernel
theorem dX10_made_90 : decode cX10_made 90 = .ok (.areturn, 1) := by decide +kernel
theorem dX10_made_91 : decode cX10_made 91 = .ok (.new 200, 3) := by decide +kernel
theorem dX10_made_94 : decode cX10_made 94 = .ok (.dup, 1) := by decide +kernel
theorem dX10_made_95 : decode cX10_made 95 = .ok (.iload_n 2, 1) := by decide +kernel
theorem dX10_made_96 : decode cX10_made 96 = .ok (.iload_n 3, 1) := by decide +kernel
theorem dX10_made_97 : decode cX10_made 97 = .ok (.iload 4, 2) := by decide +kernel
theorem dX10_made_99 : decode cX10_made 99 = .ok (.invokespecial 202, 3) := by decide +kernel
theorem dX10_made_102 : decode cX10_made 102 = .ok (.areturn, 1) := by decide +kernel
theorem dX10_made_103 : decode cX10_made 103 = .ok (.new 205, 3) := by decide +kernel
theorem dX10_made_106 : decode cX10_made 106 = .ok (.dup, 1) := by decide +kernel
theorem dX10_made_107 : decode cX10_made 107 = .ok (.iload_n 2, 1) := by decide +kernel
theorem dX10_made_108 : decode cX10_made 108 = .ok (.invokespecial 207, 3) := by decide +kernel
theorem dX10_made_111 : decode cX10_made 111 = .ok (.areturn, 1) := by decide +kernel
theorem dX10_made_112 : decode cX10_made 112 = .ok (.new 209, 3) := by decide +kernel
theorem dX10_made_115 : decode cX10_made 115 = .ok (.dup, 1) := by decide +kernel
theorem dX10_made_116 : decode cX10_made 116 = .ok (.aload_n 0, 1) := by decide +kernel
theorem dX10_made_117 : decode cX10_made 117 = .ok (.getfield 25, 3) := by decide +kernel
theorem dX10_made_120 : decode cX10_made 120 = .ok (.iload_n 2, 1) := by decide +kernel
theorem dX10_made_121 : decode cX10_made 121 = .ok (.aaload, 1) := by decide +kernel
theorem dX10_made_122 : decode cX10_made 122 = .ok (.aload_n 0, 1) := by decide +kernel
theorem dX10_made_123 : decode cX10_made 123 = .ok (.getfield 25, 3) := by decide +kernel
theorem dX10_made_126 : decode cX10_made 126 = .ok (.iload_n 3, 1) := by decide +kernel
theorem dX10_made_127 : decode cX10_made 127 = .ok (.aaload, 1) := by decide +kernel
theorem dX10_made_128 : decode cX10_made 128 = .ok (.iconst 1, 1) := by decide +kernel
theorem dX10_made_129 : decode cX10_made 129 = .ok (.iload_n 2, 1) := by decide +kernel
theorem dX10_made_130 : decode cX10_made 130 = .ok (.ishl, 1) := by decide +kernel
theorem dX10_made_131 : decode cX10_made 131 = .ok (.iconst 1, 1) := by decide +kernel
theorem dX10_made_132 : decode cX10_made 132 = .ok (.iload_n 3, 1) := by decide +kernel
theorem dX10_made_133 : decode cX10_made 133 = .ok (.ishl, 1) := by decide +kernel
theorem dX10_made_134 : decode cX10_made 134 = .ok (.ior, 1) := by decide +kernel
theorem dX10_made_135 : decode cX10_made 135 = .ok (.iload 4, 2) := by decide +kernel
theorem dX10_made_137 : decode cX10_made 137 = .ok (.invokespecial 211, 3) := by decide +kernel
theorem dX10_made_140 : decode cX10_made 140 = .ok (.areturn, 1) := by decide +kernel
theorem dX10_made_141 : decode cX10_made 141 = .ok (.new 214, 3) := by decide +kernel
theorem dX10_made_144 : decode cX10_made 144 = .ok (.dup, 1) := by decide +kernel
theorem dX10_made_145 : decode cX10_made 145 = .ok (.aload_n 0, 1) := by decide +kernel
theorem dX10_made_146 : decode cX10_made 146 = .ok (.getfield 12, 3) := by decide +kernel
theorem dX10_made_149 : decode cX10_made 149 = .ok (.iload_n 2, 1) := by decide +kernel
theorem dX10_made_150 : decode cX10_made 150 = .ok (.invokespecial 216, 3) := by decide +kernel
theorem dX10_made_153 : decode cX10_made 153 = .ok (.areturn, 1) := by decide +kernel
theorem dX10_groupOf_0 : decode cX10_groupOf 0 = .ok (.iconst 1, 1) := by decide +kernel
theorem dX10_groupOf_1 : decode cX10_groupOf 1 = .ok (.iload_n 1, 1) := by decide +kernel
theorem dX10_groupOf_2 : decode cX10_groupOf 2 = .ok (.ishl, 1) := by decide +kernel
theorem dX10_groupOf_3 : decode cX10_groupOf 3 = .ok (.istore_n 2, 1) := by decide +kernel
theorem dX10_groupOf_4 : decode cX10_groupOf 4 = .ok (.iload_n 1, 1) := by decide +kernel
theorem dX10_groupOf_5 : decode cX10_groupOf 5 = .ok (.istore_n 3, 1) := by decide +kernel
theorem dX10_groupOf_6 : decode cX10_groupOf 6 = .ok (.iload_n 3, 1) := by decide +kernel
theorem dX10_groupOf_7 : decode cX10_groupOf 7 = .ok (.ifCond .lt 29, 3) := by decide +kernel
theorem dX10_groupOf_10 : decode cX10_groupOf 10 = .ok (.iload_n 2, 1) := by decide +kernel
theorem dX10_groupOf_11 : decode cX10_groupOf 11 = .ok (.iload_n 3, 1) := by decide +kernel
theorem dX10_groupOf_12 : decode cX10_groupOf 12 = .ok (.invokestatic 150, 3) := by decide +kernel
theorem dX10_groupOf_15 : decode cX10_groupOf 15 = .ok (.ifCond .eq 15, 3) := by decide +kernel
theorem dX10_groupOf_18 : decode cX10_groupOf 18 = .ok (.iload_n 2, 1) := by decide +kernel
theorem dX10_groupOf_19 : decode cX10_groupOf 19 = .ok (.aload_n 0, 1) := by decide +kernel
theorem dX10_groupOf_20 : decode cX10_groupOf 20 = .ok (.getfield 25, 3) := by decide +kernel
theorem dX10_groupOf_23 : decode cX10_groupOf 23 = .ok (.iload_n 3, 1) := by decide +kernel
theorem dX10_groupOf_24 : decode cX10_groupOf 24 = .ok (.aaload, 1) := by decide +kernel
theorem dX10_groupOf_25 : decode cX10_groupOf 25 = .ok (.invokevirtual 219, 3) := by decide +kernel
theorem dX10_groupOf_28 : decode cX10_groupOf 28 = .ok (.ior, 1) := by decide +kernel
theorem dX10_groupOf_29 : decode cX10_groupOf 29 = .ok (.istore_n 2, 1) := by decide +kernel
theorem dX10_groupOf_30 : decode cX10_groupOf 30 = .ok (.iinc 3 (-1), 3) := by decide +kernel
theorem dX10_groupOf_33 : decode cX10_groupOf 33 = .ok (.goto (-27), 3) := by decide +kernel
theorem dX10_groupOf_36 : decode cX10_groupOf 36 = .ok (.iload_n 2, 1) := by decide +kernel
theorem dX10_groupOf_37 : decode cX10_groupOf 37 = .ok (.ireturn, 1) := by decide +kernel
theorem dJ9_abs_0f7a4_0 : decode cJ9_abs_0f7a4 0 = .ok (.iload_n 0, 1) := by decide +kernel
theorem dJ9_abs_0f7a4_1 : decode cJ9_abs_0f7a4 1 = .ok (.ifCond .ge 8, 3) := by decide +kernel
theorem dJ9_abs_0f7a4_4 : decode cJ9_abs_0f7a4 4 = .ok (.iload_n 0, 1) := by decide +kernel
theorem dJ9_abs_0f7a4_5 : decode cJ9_abs_0f7a4 5 = .ok (.ineg, 1) := by decide +kernel
theorem dJ9_abs_0f7a4_6 : decode cJ9_abs_0f7a4 6 = .ok (.goto 4, 3) := by decide +kernel
theorem dJ9_abs_0f7a4_9 : decode cJ9_abs_0f7a4 9 = .ok (.iload_n 0, 1) := by decide +kernel
theorem dJ9_abs_0f7a4_10 : decode cJ9_abs_0f7a4 10 = .ok (.ireturn, 1) := by decide +kernel
theorem dJ9_max_7cf53_0 : decode cJ9_max_7cf53 0 = .ok (.iload_n 0, 1) := by decide +kernel
theorem dJ9_max_7cf53_1 : decode cJ9_max_7cf53 1 = .ok (.iload_n 1, 1) := by decide +kernel
theorem dJ9_max_7cf53_2 : decode cJ9_max_7cf53 2 = .ok (.if_icmp .lt 7, 3) := by decide +kernel
theorem dJ9_max_7cf53_5 : decode cJ9_max_7cf53 5 = .ok (.iload_n 0, 1) := by decide +kernel
theorem dJ9_max_7cf53_6 : decode cJ9_max_7cf53 6 = .ok (.goto 4, 3) := by decide +kernel
theorem dJ9_max_7cf53_9 : decode cJ9_max_7cf53 9 = .ok (.iload_n 1, 1) := by decide +kernel
theorem dJ9_max_7cf53_10 : decode cJ9_max_7cf53 10 = .ok (.ireturn, 1) := by decide +kernel
theorem dJ9_min_7cf53_0 : decode cJ9_min_7cf53 0 = .ok (.iload_n 0, 1) := by decide +kernel
theorem dJ9_min_7cf53_1 : decode cJ9_min_7cf53 1 = .ok (.iload_n 1, 1) := by decide +kernel
theorem dJ9_min_7cf53_2 : decode cJ9_min_7cf53 2 = .ok (.if_icmp .gt 7, 3) := by decide +kernel
theorem dJ9_min_7cf53_5 : decode cJ9_min_7cf53 5 = .ok (.iload_n 0, 1) := by decide +kernel
theorem dJ9_min_7cf53_6 : decode cJ9_min_7cf53 6 = .ok (.goto 4, 3) := by decide +kernel
theorem dJ9_min_7cf53_9 : decode cJ9_min_7cf53 9 = .ok (.iload_n 1, 1) := by decide +kernel
theorem dJ9_min_7cf53_10 : decode cJ9_min_7cf53 10 = .ok (.ireturn, 1) := by decide +kernel
theorem dJ7_fill_53178_0 : decode cJ7_fill_53178 0 = .ok (.iconst 0, 1) := by decide +kernel
theorem dJ7_fill_53178_1 : decode cJ7_fill_53178 1 = .ok (.istore_n 2, 1) := by decide +kernel
theorem dJ7_fill_53178_2 : decode cJ7_fill_53178 2 = .ok (.aload_n 0, 1) := by decide +kernel
theorem dJ7_fill_53178_3 : decode cJ7_fill_53178 3 = .ok (.arraylength, 1) := by decide +kernel
theorem dJ7_fill_53178_4 : decode cJ7_fill_53178 4 = .ok (.istore_n 3, 1) := by decide +kernel
theorem dJ7_fill_53178_5 : decode cJ7_fill_53178 5 = .ok (.iload_n 2, 1) := by decide +kernel
theorem dJ7_fill_53178_6 : decode cJ7_fill_53178 6 = .ok (.iload_n 3, 1) := by decide +kernel
theorem dJ7_fill_53178_7 : decode cJ7_fill_53178 7 = .ok (.if_icmp .ge 13, 3) := by decide +kernel
theorem dJ7_fill_53178_10 : decode cJ7_fill_53178 10 = .ok (.aload_n 0, 1) := by decide +kernel
theorem dJ7_fill_53178_11 : decode cJ7_fill_53178 11 = .ok (.iload_n 2, 1) := by decide +kernel
theorem dJ7_fill_53178_12 : decode cJ7_fill_53178 12 = .ok (.iload_n 1, 1) := by decide +kernel
theorem dJ7_fill_53178_13 : decode cJ7_fill_53178 13 = .ok (.iastore, 1) := by decide +kernel
theorem dJ7_fill_53178_14 : decode cJ7_fill_53178 14 = .ok (.iinc 2 1, 3) := by decide +kernel
theorem dJ7_fill_53178_17 : decode cJ7_fill_53178 17 = .ok (.goto (-12), 3) := by decide +kernel
theorem dJ7_fill_53178_20 : decode cJ7_fill_53178 20 = .ok (.return_, 1) := by decide +kernel
