theorem dX1_init_0 : decode cX1_init 0 = .ok (.aload_n 0, 1) := by decide +kernel
theorem dX1_init_1 : decode cX1_init 1 = .ok (.invokespecial 1, 3) := by decide +kernel
theorem dX1_init_4 : decode cX1_init 4 = .ok (.aload_n 0, 1) := by decide +kernel
theorem dX1_init_5 : decode cX1_init 5 = .ok (.iconst 0, 1) := by decide +kernel
theorem dX1_init_6 : decode cX1_init 6 = .ok (.putfield 7, 3) := by decide +kernel
theorem dX1_init_9 : decode cX1_init 9 = .ok (.return_, 1) := by decide +kernel
theorem dX1_amount_0 : decode cX1_amount 0 = .ok (.aload_n 0, 1) := by decide +kernel
theorem dX1_amount_1 : decode cX1_amount 1 = .ok (.aload_n 0, 1) := by decide +kernel
theorem dX1_amount_2 : decode cX1_amount 2 = .ok (.getfield 7, 3) := by decide +kernel
theorem dX1_amount_5 : decode cX1_amount 5 = .ok (.ldc 13, 2) := by decide +kernel
theorem dX1_amount_7 : decode cX1_amount 7 = .ok (.imul, 1) := by decide +kernel
theorem dX1_amount_8 : decode cX1_amount 8 = .ok (.sipush 12345, 3) := by decide +kernel
theorem dX1_amount_11 : decode cX1_amount 11 = .ok (.iadd, 1) := by decide +kernel
theorem dX1_amount_12 : decode cX1_amount 12 = .ok (.ldc 16, 2) := by decide +kernel
theorem dX1_amount_14 : decode cX1_amount 14 = .ok (.iand, 1) := by decide +kernel
theorem dX1_amount_15 : decode cX1_amount 15 = .ok (.putfield 7, 3) := by decide +kernel
theorem dX1_amount_18 : decode cX1_amount 18 = .ok (.aload_n 0, 1) := by decide +kernel
theorem dX1_amount_19 : decode cX1_amount 19 = .ok (.getfield 7, 3) := by decide +kernel
theorem dX1_amount_22 : decode cX1_amount 22 = .ok (.bipush 16, 2) := by decide +kernel
theorem dX1_amount_24 : decode cX1_amount 24 = .ok (.ishr, 1) := by decide +kernel
theorem dX1_amount_25 : decode cX1_amount 25 = .ok (.iconst 2, 1) := by decide +kernel
theorem dX1_amount_26 : decode cX1_amount 26 = .ok (.iload_n 1, 1) := by decide +kernel
theorem dX1_amount_27 : decode cX1_amount 27 = .ok (.imul, 1) := by decide +kernel
theorem dX1_amount_28 : decode cX1_amount 28 = .ok (.iconst 1, 1) := by decide +kernel
theorem dX1_amount_29 : decode cX1_amount 29 = .ok (.iadd, 1) := by decide +kernel
theorem dX1_amount_30 : decode cX1_amount 30 = .ok (.invokestatic 17, 3) := by decide +kernel
theorem dX1_amount_33 : decode cX1_amount 33 = .ok (.iload_n 1, 1) := by decide +kernel
theorem dX1_amount_34 : decode cX1_amount 34 = .ok (.isub, 1) := by decide +kernel
theorem dX1_amount_35 : decode cX1_amount 35 = .ok (.ireturn, 1) := by decide +kernel
theorem dX2_init_0 : decode cX2_init 0 = .ok (.aload_n 0, 1) := by decide +kernel
theorem dX2_init_1 : decode cX2_init 1 = .ok (.invokespecial 3, 3) := by decide +kernel
theorem dX2_init_4 : decode cX2_init 4 = .ok (.aload_n 0, 1) := by decide +kernel
theorem dX2_init_5 : decode cX2_init 5 = .ok (.bipush 24, 2) := by decide +kernel
theorem dX2_init_7 : decode cX2_init 7 = .ok (.newarray .int, 2) := by decide +kernel
theorem dX2_init_9 : decode cX2_init 9 = .ok (.putfield 11, 3) := by decide +kernel
theorem dX2_init_12 : decode cX2_init 12 = .ok (.aload_n 0, 1) := by decide +kernel
theorem dX2_init_13 : decode cX2_init 13 = .ok (.bipush 24, 2) := by decide +kernel
theorem dX2_init_15 : decode cX2_init 15 = .ok (.newarray .int, 2) := by decide +kernel
theorem dX2_init_17 : decode cX2_init 17 = .ok (.putfield 15, 3) := by decide +kernel
theorem dX2_init_20 : decode cX2_init 20 = .ok (.aload_n 0, 1) := by decide +kernel
theorem dX2_init_21 : decode cX2_init 21 = .ok (.bipush 24, 2) := by decide +kernel
theorem dX2_init_23 : decode cX2_init 23 = .ok (.newarray .int, 2) := by decide +kernel
theorem dX2_init_25 : decode cX2_init 25 = .ok (.putfield 18, 3) := by decide +kernel
theorem dX2_init_28 : decode cX2_init 28 = .ok (.aload_n 0, 1) := by decide +kernel
theorem dX2_init_29 : decode cX2_init 29 = .ok (.iconst 0, 1) := by decide +kernel
theorem dX2_init_30 : decode cX2_init 30 = .ok (.putfield 21, 3) := by decide +kernel
theorem dX2_init_33 : decode cX2_init 33 = .ok (.aload_n 0, 1) := by decide +kernel
theorem dX2_init_34 : decode cX2_init 34 = .ok (.iconst (-1), 1) := by decide +kernel
theorem dX2_init_35 : decode cX2_init 35 = .ok (.putfield 25, 3) := by decide +kernel
theorem dX2_init_38 : decode cX2_init 38 = .ok (.return_, 1) := by decide +kernel
theorem dX2_add_0 : decode cX2_add 0 = .ok (.aload_n 0, 1) := by decide +kernel
theorem dX2_add_1 : decode cX2_add 1 = .ok (.getfield 21, 3) := by decide +kernel
theorem dX2_add_4 : decode cX2_add 4 = .ok (.bipush 24, 2) := by decide +kernel
theorem dX2_add_6 : decode cX2_add 6 = .ok (.if_icmp .lt 5, 3) := by decide +kernel
theorem dX2_add_9 : decode cX2_add 9 = .ok (.iconst (-1), 1) := by decide +kernel
theorem dX2_add_10 : decode cX2_add 10 = .ok (.ireturn, 1) := by decide +kernel
theorem dX2_add_11 : decode cX2_add 11 = .ok (.aload_n 0, 1) := by decide +kernel
theorem dX2_add_12 : decode cX2_add 12 = .ok (.getfield 11, 3) := by decide +kernel
theorem dX2_add_15 : decode cX2_add 15 = .ok (.aload_n 0, 1) := by decide +kernel
theorem dX2_add_16 : decode cX2_add 16 = .ok (.getfield 21, 3) := by decide +kernel
theorem dX2_add_19 : decode cX2_add 19 = .ok (.iload_n 1, 1) := by decide +kernel
theorem dX2_add_20 : decode cX2_add 20 = .ok (.iastore, 1) := by decide +kernel
theorem dX2_add_21 : decode cX2_add 21 = .ok (.aload_n 0, 1) := by decide +kernel
theorem dX2_add_22 : decode cX2_add 22 = .ok (.getfield 15, 3) := by decide +kernel
theorem dX2_add_25 : decode cX2_add 25 = .ok (.aload_n 0, 1) := by decide +kernel
theorem dX2_add_26 : decode cX2_add 26 = .ok (.getfield 21, 3) := by decide +kernel
theorem dX2_add_29 : decode cX2_add 29 = .ok (.iload_n 2, 1) := by decide +kernel
theorem dX2_add_30 : decode cX2_add 30 = .ok (.iastore, 1) := by decide +kernel
theorem dX2_add_31 : decode cX2_add 31 = .ok (.aload_n 0, 1) := by decide +kernel
theorem dX2_add_32 : decode cX2_add 32 = .ok (.getfield 18, 3) := by decide +kernel
theorem dX2_add_35 : decode cX2_add 35 = .ok (.aload_n 0, 1) := by decide +kernel
theorem dX2_add_36 : decode cX2_add 36 = .ok (.getfield 21, 3) := by decide +kernel
theorem dX2_add_39 : decode cX2_add 39 = .ok (.iload_n 3, 1) := by decide +kernel
theorem dX2_add_40 : decode cX2_add 40 = .ok (.iastore, 1) := by decide +kernel
theorem dX2_add_41 : decode cX2_add 41 = .ok (.aload_n 0, 1) := by decide +kernel
theorem dX2_add_42 : decode cX2_add 42 = .ok (.dup, 1) := by decide +kernel
theorem dX2_add_43 : decode cX2_add 43 = .ok (.getfield 21, 3) := by decide +kernel
theorem dX2_add_46 : decode cX2_add 46 = .ok (.iconst 1, 1) := by decide +kernel
theorem dX2_add_47 : decode cX2_add 47 = .ok (.iadd, 1) := by decide +kernel
theorem dX2_add_48 : decode cX2_add 48 = .ok (.putfield 21, 3) := by decide +kernel
theorem dX2_add_51 : decode cX2_add 51 = .ok (.aload_n 0, 1) := by decide +kernel
theorem dX2_add_52 : decode cX2_add 52 = .ok (.getfield 21, 3) := by decide +kernel
theorem dX2_add_55 : decode cX2_add 55 = .ok (.iconst 1, 1) := by decide +kernel
theorem dX2_add_56 : decode cX2_add 56 = .ok (.isub, 1) := by decide +kernel
theorem dX2_add_57 : decode cX2_add 57 = .ok (.ireturn, 1) := by decide +kernel
theorem dX2_forgetAll_0 : decode cX2_forgetAll 0 = .ok (.aload_n 0, 1) := by decide +kernel
theorem dX2_forgetAll_1 : decode cX2_forgetAll 1 = .ok (.iconst 0, 1) := by decide +kernel
theorem dX2_forgetAll_2 : decode cX2_forgetAll 2 = .ok (.putfield 21, 3) := by decide +kernel
theorem dX2_forgetAll_5 : decode cX2_forgetAll 5 = .ok (.aload_n 0, 1) := by decide +kernel
theorem dX2_forgetAll_6 : decode cX2_forgetAll 6 = .ok (.iconst (-1), 1) := by decide +kernel
theorem dX2_forgetAll_7 : decode cX2_forgetAll 7 = .ok (.putfield 25, 3) := by decide +kernel
theorem dX2_forgetAll_10 : decode cX2_forgetAll 10 = .ok (.return_, 1) := by decide +kernel
theorem dX2_knownNow_0 : decode cX2_knownNow 0 = .ok (.aload_n 0, 1) := by decide +kernel
theorem dX2_knownNow_1 : decode cX2_knownNow 1 = .ok (.getfield 25, 3) := by decide +kernel
theorem dX2_knownNow_4 : decode cX2_knownNow 4 = .ok (.ifCond .ge 10, 3) := by decide +kernel
theorem dX2_knownNow_7 : decode cX2_knownNow 7 = .ok (.aload_n 0, 1) := by decide +kernel
theorem dX2_knownNow_8 : decode cX2_knownNow 8 = .ok (.getfield 21, 3) := by decide +kernel
theorem dX2_knownNow_11 : decode cX2_knownNow 11 = .ok (.goto 7, 3) := by decide +kernel
theorem dX2_knownNow_14 : decode cX2_knownNow 14 = .ok (.aload_n 0, 1) := by decide +kernel
theorem dX2_knownNow_15 : decode cX2_knownNow 15 = .ok (.getfield 25, 3) := by decide +kernel
theorem dX2_knownNow_18 : decode cX2_knownNow 18 = .ok (.ireturn, 1) := by decide +kernel
theorem dX2_standing_0 : decode cX2_standing 0 = .ok (.iconst 1, 1) := by decide +kernel
theorem dX2_standing_1 : decode cX2_standing 1 = .ok (.aload_n 0, 1) := by decide +kernel
theorem dX2_standing_2 : decode cX2_standing 2 = .ok (.invokevirtual 28, 3) := by decide +kernel
theorem dX2_standing_5 : decode cX2_standing 5 = .ok (.ishl, 1) := by decide +kernel
theorem dX2_standing_6 : decode cX2_standing 6 = .ok (.iconst 1, 1) := by decide +kernel
theorem dX2_standing_7 : decode cX2_standing 7 = .ok (.isub, 1) := by decide +kernel
theorem dX2_standing_8 : decode cX2_standing 8 = .ok (.istore_n 1, 1) := by decide +kernel
theorem dX2_standing_9 : decode cX2_standing 9 = .ok (.aload_n 0, 1) := by decide +kernel
theorem dX2_standing_10 : decode cX2_standing 10 = .ok (.invokevirtual 28, 3) := by decide +kernel
theorem dX2_standing_13 : decode cX2_standing 13 = .ok (.iconst 1, 1) := by decide +kernel
theorem dX2_standing_14 : decode cX2_standing 14 = .ok (.isub, 1) := by decide +kernel
theorem dX2_standing_15 : decode cX2_standing 15 = .ok (.istore_n 2, 1) := by decide +kernel
theorem dX2_standing_16 : decode cX2_standing 16 = .ok (.iload_n 2, 1) := by decide +kernel
theorem dX2_standing_17 : decode cX2_standing 17 = .ok (.ifCond .lt 41, 3) := by decide +kernel
theorem dX2_standing_20 : decode cX2_standing 20 = .ok (.aload_n 0, 1) := by decide +kernel
theorem dX2_standing_21 : decode cX2_standing 21 = .ok (.getfield 11, 3) := by decide +kernel
theorem dX2_standing_24 : decode cX2_standing 24 = .ok (.iload_n 2, 1) := by decide +kernel
theorem dX2_standing_25 : decode cX2_standing 25 = .ok (.iaload, 1) := by decide +kernel
theorem dX2_standing_26 : decode cX2_standing 26 = .ok (.iconst 2, 1) := by decide +kernel
theorem dX2_standing_27 : decode cX2_standing 27 = .ok (.if_icmp .ne 25, 3) := by decide +kernel
theorem dX2_standing_30 : decode cX2_standing 30 = .ok (.iload_n 1, 1) := by decide +kernel
theorem dX2_standing_31 : decode cX2_standing 31 = .ok (.iload_n 2, 1) := by decide +kernel
theorem dX2_standing_32 : decode cX2_standing 32 = .ok (.ishr, 1) := by decide +kernel
theorem dX2_standing_33 : decode cX2_standing 33 = .ok (.iconst 1, 1) := by decide +kernel
theorem dX2_standing_34 : decode cX2_standing 34 = .ok (.iand, 1) := by decide +kernel
theorem dX2_standing_35 : decode cX2_standing 35 = .ok (.iconst 1, 1) := by decide +kernel
theorem dX2_standing_36 : decode cX2_standing 36 = .ok (.if_icmp .ne 16, 3) := by decide +kernel
theorem dX2_standing_39 : decode cX2_standing 39 = .ok (.iload_n 1, 1) := by decide +kernel
theorem dX2_standing_40 : decode cX2_standing 40 = .ok (.iconst 1, 1) := by decide +kernel
theorem dX2_standing_41 : decode cX2_standing 41 = .ok (.aload_n 0, 1) := by decide +kernel
theorem dX2_standing_42 : decode cX2_standing 42 = .ok (.getfield 15, 3) := by decide +kernel
theorem dX2_standing_45 : decode cX2_standing 45 = .ok (.iload_n 2, 1) := by decide +kernel
theorem dX2_standing_46 : decode cX2_standing 46 = .ok (.iaload, 1) := by decide +kernel
theorem dX2_standing_47 : decode cX2_standing 47 = .ok (.ishl, 1) := by decide +kernel
theorem dX2_standing_48 : decode cX2_standing 48 = .ok (.iconst (-1), 1) := by decide +kernel
theorem dX2_standing_49 : decode cX2_standing 49 = .ok (.ixor, 1) := by decide +kernel
theorem dX2_standing_50 : decode cX2_standing 50 = .ok (.iand, 1) := by decide +kernel
theorem dX2_standing_51 : decode cX2_standing 51 = .ok (.istore_n 1, 1) := by decide +kernel
theorem dX2_standing_52 : decode cX2_standing 52 = .ok (.iinc 2 (-1), 3) := by decide +kernel
theorem dX2_standing_55 : decode cX2_standing 55 = .ok (.goto (-39), 3) := by decide +kernel
theorem dX2_standing_58 : decode cX2_standing 58 = .ok (.iload_n 1, 1) := by decide +kernel
theorem dX2_standing_59 : decode cX2_standing 59 = .ok (.ireturn, 1) := by decide +kernel
theorem dX3_init_0 : decode cX3_init 0 = .ok (.aload_n 0, 1) := by decide +kernel
theorem dX3_init_1 : decode cX3_init 1 = .ok (.invokespecial 1, 3) := by decide +kernel
theorem dX3_init_4 : decode cX3_init 4 = .ok (.aload_n 0, 1) := by decide +kernel
theorem dX3_init_5 : decode cX3_init 5 = .ok (.sipush 2720, 3) := by decide +kernel
theorem dX3_init_8 : decode cX3_init 8 = .ok (.newarray .int, 2) := by decide +kernel
theorem dX3_init_10 : decode cX3_init 10 = .ok (.putfield 11, 3) := by decide +kernel
theorem dX3_init_13 : decode cX3_init 13 = .ok (.aload_n 0, 1) := by decide +kernel
theorem dX3_init_14 : decode cX3_init 14 = .ok (.iconst 0, 1) := by decide +kernel
theorem dX3_init_15 : decode cX3_init 15 = .ok (.putfield 15, 3) := by decide +kernel
theorem dX3_init_18 : decode cX3_init 18 = .ok (.aload_n 0, 1) := by decide +kernel
theorem dX3_init_19 : decode cX3_init 19 = .ok (.iconst 0, 1) := by decide +kernel
theorem dX3_init_20 : decode cX3_init 20 = .ok (.putfield 19, 3) := by decide +kernel
theorem dX3_init_23 : decode cX3_init 23 = .ok (.return_, 1) := by decide +kernel
theorem dX3_remember_0 : decode cX3_remember 0 = .ok (.aload_n 1, 1) := by decide +kernel
theorem dX3_remember_1 : decode cX3_remember 1 = .ok (.aload_n 0, 1) := by decide +kernel
theorem dX3_remember_2 : decode cX3_remember 2 = .ok (.getfield 11, 3) := by decide +kernel
theorem dX3_remember_5 : decode cX3_remember 5 = .ok (.aload_n 0, 1) := by decide +kernel
theorem dX3_remember_6 : decode cX3_remember 6 = .ok (.getfield 15, 3) := by decide +kernel
theorem dX3_remember_9 : decode cX3_remember 9 = .ok (.sipush 136, 3) := by decide +kernel
theorem dX3_remember_12 : decode cX3_remember 12 = .ok (.imul, 1) := by decide +kernel
theorem dX3_remember_13 : decode cX3_remember 13 = .ok (.invokevirtual 22, 3) := by decide +kernel
theorem dX3_remember_16 : decode cX3_remember 16 = .ok (.aload_n 0, 1) := by decide +kernel
theorem dX3_remember_17 : decode cX3_remember 17 = .ok (.aload_n 0, 1) := by decide +kernel
theorem dX3_remember_18 : decode cX3_remember 18 = .ok (.getfield 15, 3) := by decide +kernel
theorem dX3_remember_21 : decode cX3_remember 21 = .ok (.iconst 1, 1) := by decide +kernel
theorem dX3_remember_22 : decode cX3_remember 22 = .ok (.iadd, 1) := by decide +kernel
theorem dX3_remember_23 : decode cX3_remember 23 = .ok (.bipush 20, 2) := by decide +kernel
theorem dX3_remember_25 : decode cX3_remember 25 = .ok (.if_icmp .ge 12, 3) := by decide +kernel
theorem dX3_remember_28 : decode cX3_remember 28 = .ok (.aload_n 0, 1) := by decide +kernel
theorem dX3_remember_29 : decode cX3_remember 29 = .ok (.getfield 15, 3) := by decide +kernel
theorem dX3_remember_32 : decode cX3_remember 32 = .ok (.iconst 1, 1) := by decide +kernel
theorem dX3_remember_33 : decode cX3_remember 33 = .ok (.iadd, 1) := by decide +kernel
theorem dX3_remember_34 : decode cX3_remember 34 = .ok (.goto 4, 3) := by decide +kernel
theorem dX3_remember_37 : decode cX3_remember 37 = .ok (.iconst 0, 1) := by decide +kernel
theorem dX3_remember_38 : decode cX3_remember 38 = .ok (.putfield 15, 3) := by decide +kernel
theorem dX3_remember_41 : decode cX3_remember 41 = .ok (.aload_n 0, 1) := by decide +kernel
theorem dX3_remember_42 : decode cX3_remember 42 = .ok (.bipush 20, 2) := by decide +kernel
theorem dX3_remember_44 : decode cX3_remember 44 = .ok (.aload_n 0, 1) := by decide +kernel
theorem dX3_remember_45 : decode cX3_remember 45 = .ok (.getfield 19, 3) := by decide +kernel
theorem dX3_remember_48 : decode cX3_remember 48 = .ok (.iconst 1, 1) := by decide +kernel
theorem dX3_remember_49 : decode cX3_remember 49 = .ok (.iadd, 1) := by decide +kernel
theorem dX3_remember_50 : decode cX3_remember 50 = .ok (.invokestatic 26, 3) := by decide +kernel
theorem dX3_remember_53 : decode cX3_remember 53 = .ok (.putfield 19, 3) := by decide +kernel
theorem dX3_remember_56 : decode cX3_remember 56 = .ok (.return_, 1) := by decide +kernel
theorem dX3_recall_0 : decode cX3_recall 0 = .ok (.aload_n 0, 1) := by decide +kernel
theorem dX3_recall_1 : decode cX3_recall 1 = .ok (.getfield 19, 3) := by decide +kernel
theorem dX3_recall_4 : decode cX3_recall 4 = .ok (.ifCond .ne 5, 3) := by decide +kernel
theorem dX3_recall_7 : decode cX3_recall 7 = .ok (.iconst 0, 1) := by decide +kernel
theorem dX3_recall_8 : decode cX3_recall 8 = .ok (.ireturn, 1) := by decide +kernel
theorem dX3_recall_9 : decode cX3_recall 9 = .ok (.aload_n 0, 1) := by decide +kernel
theorem dX3_recall_10 : decode cX3_recall 10 = .ok (.aload_n 0, 1) := by decide +kernel
theorem dX3_recall_11 : decode cX3_recall 11 = .ok (.getfield 15, 3) := by decide +kernel
theorem dX3_recall_14 : decode cX3_recall 14 = .ok (.ifCond .le 12, 3) := by decide +kernel
theorem dX3_recall_17 : decode cX3_recall 17 = .ok (.aload_n 0, 1) := by decide +kernel
theorem dX3_recall_18 : decode cX3_recall 18 = .ok (.getfield 15, 3) := by decide +kernel
theorem dX3_recall_21 : decode cX3_recall 21 = .ok (.iconst 1, 1) := by decide +kernel
theorem dX3_recall_22 : decode cX3_recall 22 = .ok (.isub, 1) := by decide +kernel
theorem dX3_recall_23 : decode cX3_recall 23 = .ok (.goto 5, 3) := by decide +kernel
theorem dX3_recall_26 : decode cX3_recall 26 = .ok (.bipush 19, 2) := by decide +kernel
theorem dX3_recall_28 : decode cX3_recall 28 = .ok (.putfield 15, 3) := by decide +kernel
theorem dX3_recall_31 : decode cX3_recall 31 = .ok (.aload_n 0, 1) := by decide +kernel
theorem dX3_recall_32 : decode cX3_recall 32 = .ok (.dup, 1) := by decide +kernel
theorem dX3_recall_33 : decode cX3_recall 33 = .ok (.getfield 19, 3) := by decide +kernel
theorem dX3_recall_36 : decode cX3_recall 36 = .ok (.iconst 1, 1) := by decide +kernel
theorem dX3_recall_37 : decode cX3_recall 37 = .ok (.isub, 1) := by decide +kernel
theorem dX3_recall_38 : decode cX3_recall 38 = .ok (.putfield 19, 3) := by decide +kernel
theorem dX3_recall_41 : decode cX3_recall 41 = .ok (.aload_n 1, 1) := by decide +kernel
theorem dX3_recall_42 : decode cX3_recall 42 = .ok (.aload_n 0, 1) := by decide +kernel
theorem dX3_recall_43 : decode cX3_recall 43 = .ok (.getfield 11, 3) := by decide +kernel
theorem dX3_recall_46 : decode cX3_recall 46 = .ok (.aload_n 0, 1) := by decide +kernel
theorem dX3_recall_47 : decode cX3_recall 47 = .ok (.getfield 15, 3) := by decide +kernel
theorem dX3_recall_50 : decode cX3_recall 50 = .ok (.sipush 136, 3) := by decide +kernel
theorem dX3_recall_53 : decode cX3_recall 53 = .ok (.imul, 1) := by decide +kernel
theorem dX3_recall_54 : decode cX3_recall 54 = .ok (.invokevirtual 32, 3) := by decide +kernel
theorem dX3_recall_57 : decode cX3_recall 57 = .ok (.iconst 1, 1) := by decide +kernel
theorem dX3_recall_58 : decode cX3_recall 58 = .ok (.ireturn, 1) := by decide +kernel
theorem dX3_forgetAll_0 : decode cX3_forgetAll 0 = .ok (.aload_n 0, 1) := by decide +kernel
theorem dX3_forgetAll_1 : decode cX3_forgetAll 1 = .ok (.iconst 0, 1) := by decide +kernel
theorem dX3_forgetAll_2 : decode cX3_forgetAll 2 = .ok (.putfield 19, 3) := by decide +kernel
theorem dX3_forgetAll_5 : decode cX3_forgetAll 5 = .ok (.return_, 1) := by decide +kernel
theorem dX5_init_0 : decode cX5_init 0 = .ok (.aload_n 0, 1) := by decide +kernel
theorem dX5_init_1 : decode cX5_init 1 = .ok (.invokespecial 3, 3) := by decide +kernel
theorem dX5_init_4 : decode cX5_init 4 = .ok (.aload_n 0, 1) := by decide +kernel
theorem dX5_init_5 : decode cX5_init 5 = .ok (.bipush 32, 2) := by decide +kernel
theorem dX5_init_7 : decode cX5_init 7 = .ok (.newarray .int, 2) := by decide +kernel
theorem dX5_init_9 : decode cX5_init 9 = .ok (.putfield 9, 3) := by decide +kernel
theorem dX5_init_12 : decode cX5_init 12 = .ok (.aload_n 0, 1) := by decide +kernel
theorem dX5_init_13 : decode cX5_init 13 = .ok (.iconst 2, 1) := by decide +kernel
theorem dX5_init_14 : decode cX5_init 14 = .ok (.putfield 15, 3) := by decide +kernel
theorem dX5_init_17 : decode cX5_init 17 = .ok (.aload_n 0, 1) := by decide +kernel
theorem dX5_init_18 : decode cX5_init 18 = .ok (.iconst 1, 1) := by decide +kernel
theorem dX5_init_19 : decode cX5_init 19 = .ok (.putfield 19, 3) := by decide +kernel
theorem dX5_init_22 : decode cX5_init 22 = .ok (.return_, 1) := by decide +kernel
theorem dX5_fit_0 : decode cX5_fit 0 = .ok (.aload_n 0, 1) := by decide +kernel
theorem dX5_fit_1 : decode cX5_fit 1 = .ok (.iload_n 1, 1) := by decide +kernel
theorem dX5_fit_2 : decode cX5_fit 2 = .ok (.putfield 15, 3) := by decide +kernel
theorem dX5_fit_5 : decode cX5_fit 5 = .ok (.aload_n 0, 1) := by decide +kernel
theorem dX5_fit_6 : decode cX5_fit 6 = .ok (.iload_n 2, 1) := by decide +kernel
theorem dX5_fit_7 : decode cX5_fit 7 = .ok (.putfield 19, 3) := by decide +kernel
theorem dX5_fit_10 : decode cX5_fit 10 = .ok (.aload_n 0, 1) := by decide +kernel
theorem dX5_fit_11 : decode cX5_fit 11 = .ok (.getfield 19, 3) := by decide +kernel
theorem dX5_fit_14 : decode cX5_fit 14 = .ok (.iconst 1, 1) := by decide +kernel
theorem dX5_fit_15 : decode cX5_fit 15 = .ok (.if_icmp .lt 27, 3) := by decide +kernel
theorem dX5_fit_18 : decode cX5_fit 18 = .ok (.aload_n 0, 1) := by decide +kernel
theorem dX5_fit_19 : decode cX5_fit 19 = .ok (.getfield 19, 3) := by decide +kernel
theorem dX5_fit_22 : decode cX5_fit 22 = .ok (.getstatic 22, 3) := by decide +kernel
theorem dX5_fit_25 : decode cX5_fit 25 = .ok (.arraylength, 1) := by decide +kernel
theorem dX5_fit_26 : decode cX5_fit 26 = .ok (.if_icmp .gt 16, 3) := by decide +kernel
theorem dX5_fit_29 : decode cX5_fit 29 = .ok (.getstatic 22, 3) := by decide +kernel
theorem dX5_fit_32 : decode cX5_fit 32 = .ok (.aload_n 0, 1) := by decide +kernel
theorem dX5_fit_33 : decode cX5_fit 33 = .ok (.getfield 19, 3) := by decide +kernel
theorem dX5_fit_36 : decode cX5_fit 36 = .ok (.iconst 1, 1) := by decide +kernel
theorem dX5_fit_37 : decode cX5_fit 37 = .ok (.isub, 1) := by decide +kernel
theorem dX5_fit_38 : decode cX5_fit 38 = .ok (.iaload, 1) := by decide +kernel
theorem dX5_fit_39 : decode cX5_fit 39 = .ok (.goto 4, 3) := by decide +kernel
theorem dX5_fit_42 : decode cX5_fit 42 = .ok (.iconst 1, 1) := by decide +kernel
theorem dX5_fit_43 : decode cX5_fit 43 = .ok (.istore_n 3, 1) := by decide +kernel
theorem dX5_fit_44 : decode cX5_fit 44 = .ok (.iconst 1, 1) := by decide +kernel
theorem dX5_fit_45 : decode cX5_fit 45 = .ok (.istore 4, 2) := by decide +kernel
theorem dX5_fit_47 : decode cX5_fit 47 = .ok (.iconst 0, 1) := by decide +kernel
theorem dX5_fit_48 : decode cX5_fit 48 = .ok (.istore 5, 2) := by decide +kernel
theorem dX5_fit_50 : decode cX5_fit 50 = .ok (.iload 5, 2) := by decide +kernel
theorem dX5_fit_52 : decode cX5_fit 52 = .ok (.bipush 32, 2) := by decide +kernel
theorem dX5_fit_54 : decode cX5_fit 54 = .ok (.if_icmp .ge 27, 3) := by decide +kernel
theorem dX5_fit_57 : decode cX5_fit 57 = .ok (.aload_n 0, 1) := by decide +kernel
theorem dX5_fit_58 : decode cX5_fit 58 = .ok (.getfield 9, 3) := by decide +kernel
theorem dX5_fit_61 : decode cX5_fit 61 = .ok (.iload 5, 2) := by decide +kernel
theorem dX5_fit_63 : decode cX5_fit 63 = .ok (.iload 4, 2) := by decide +kernel
theorem dX5_fit_65 : decode cX5_fit 65 = .ok (.iastore, 1) := by decide +kernel
theorem dX5_fit_66 : decode cX5_fit 66 = .ok (.iload 4, 2) := by decide +kernel
theorem dX5_fit_68 : decode cX5_fit 68 = .ok (.iload_n 3, 1) := by decide +kernel
theorem dX5_fit_69 : decode cX5_fit 69 = .ok (.imul, 1) := by decide +kernel
theorem dX5_fit_70 : decode cX5_fit 70 = .ok (.bipush 97, 2) := by decide +kernel
theorem dX5_fit_72 : decode cX5_fit 72 = .ok (.irem, 1) := by decide +kernel
theorem dX5_fit_73 : decode cX5_fit 73 = .ok (.istore 4, 2) := by decide +kernel
theorem dX5_fit_75 : decode cX5_fit 75 = .ok (.iinc 5 1, 3) := by decide +kernel
theorem dX5_fit_78 : decode cX5_fit 78 = .ok (.goto (-28), 3) := by decide +kernel
theorem dX5_fit_81 : decode cX5_fit 81 = .ok (.return_, 1) := by decide +kernel
theorem dX5_rootTo_0 : decode cX5_rootTo 0 = .ok (.aload_n 0, 1) := by decide +kernel
theorem dX5_rootTo_1 : decode cX5_rootTo 1 = .ok (.getfield 9, 3) := by decide +kernel
theorem dX5_rootTo_4 : decode cX5_rootTo 4 = .ok (.iload_n 1, 1) := by decide +kernel
theorem dX5_rootTo_5 : decode cX5_rootTo 5 = .ok (.aload_n 0, 1) := by decide +kernel
theorem dX5_rootTo_6 : decode cX5_rootTo 6 = .ok (.getfield 15, 3) := by decide +kernel
theorem dX5_rootTo_9 : decode cX5_rootTo 9 = .ok (.iconst 1, 1) := by decide +kernel
theorem dX5_rootTo_10 : decode cX5_rootTo 10 = .ok (.isub, 1) := by decide +kernel
theorem dX5_rootTo_11 : decode cX5_rootTo 11 = .ok (.iand, 1) := by decide +kernel
theorem dX5_rootTo_12 : decode cX5_rootTo 12 = .ok (.iaload, 1) := by decide +kernel
theorem dX5_rootTo_13 : decode cX5_rootTo 13 = .ok (.ireturn, 1) := by decide +kernel
theorem dX5_binWithout_0 : decode cX5_binWithout 0 = .ok (.iconst 0, 1) := by decide +kernel
theorem dX5_binWithout_1 : decode cX5_binWithout 1 = .ok (.istore 4, 2) := by decide +kernel
theorem dX5_binWithout_3 : decode cX5_binWithout 3 = .ok (.iconst 0, 1) := by decide +kernel
theorem dX5_binWithout_4 : decode cX5_binWithout 4 = .ok (.istore 5, 2) := by decide +kernel
theorem dX5_binWithout_6 : decode cX5_binWithout 6 = .ok (.iload 5, 2) := by decide +kernel
theorem dX5_binWithout_8 : decode cX5_binWithout 8 = .ok (.aload_n 0, 1) := by decide +kernel
theorem dX5_binWithout_9 : decode cX5_binWithout 9 = .ok (.getfield 15, 3) := by decide +kernel
theorem dX5_binWithout_12 : decode cX5_binWithout 12 = .ok (.if_icmp .ge 38, 3) := by decide +kernel
theorem dX5_binWithout_15 : decode cX5_binWithout 15 = .ok (.iload 5, 2) := by decide +kernel
theorem dX5_binWithout_17 : decode cX5_binWithout 17 = .ok (.iload_n 3, 1) := by decide +kernel
theorem dX5_binWithout_18 : decode cX5_binWithout 18 = .ok (.if_icmp .eq 26, 3) := by decide +kernel
theorem dX5_binWithout_21 : decode cX5_binWithout 21 = .ok (.iload 4, 2) := by decide +kernel
theorem dX5_binWithout_23 : decode cX5_binWithout 23 = .ok (.aload_n 1, 1) := by decide +kernel
theorem dX5_binWithout_24 : decode cX5_binWithout 24 = .ok (.iload 5, 2) := by decide +kernel
theorem dX5_binWithout_26 : decode cX5_binWithout 26 = .ok (.iaload, 1) := by decide +kernel
theorem dX5_binWithout_27 : decode cX5_binWithout 27 = .ok (.bipush 97, 2) := by decide +kernel
theorem dX5_binWithout_29 : decode cX5_binWithout 29 = .ok (.invokestatic 25, 3) := by decide +kernel
theorem dX5_binWithout_32 : decode cX5_binWithout 32 = .ok (.aload_n 0, 1) := by decide +kernel
theorem dX5_binWithout_33 : decode cX5_binWithout 33 = .ok (.iload 5, 2) := by decide +kernel
theorem dX5_binWithout_35 : decode cX5_binWithout 35 = .ok (.iload_n 2, 1) := by decide +kernel
theorem dX5_binWithout_36 : decode cX5_binWithout 36 = .ok (.imul, 1) := by decide +kernel
theorem dX5_binWithout_37 : decode cX5_binWithout 37 = .ok (.invokevirtual 31, 3) := by decide +kernel
theorem dX5_binWithout_40 : decode cX5_binWithout 40 = .ok (.imul, 1) := by decide +kernel
theorem dX5_binWithout_41 : decode cX5_binWithout 41 = .ok (.iadd, 1) := by decide +kernel
theorem dX5_binWithout_42 : decode cX5_binWithout 42 = .ok (.istore 4, 2) := by decide +kernel
theorem dX5_binWithout_44 : decode cX5_binWithout 44 = .ok (.iinc 5 1, 3) := by decide +kernel
theorem dX5_binWithout_47 : decode cX5_binWithout 47 = .ok (.goto (-41), 3) := by decide +kernel
theorem dX5_binWithout_50 : decode cX5_binWithout 50 = .ok (.iload 4, 2) := by decide +kernel
theorem dX5_binWithout_52 : decode cX5_binWithout 52 = .ok (.bipush 97, 2) := by decide +kernel
theorem dX5_binWithout_54 : decode cX5_binWithout 54 = .ok (.irem, 1) := by decide +kernel
theorem dX5_binWithout_55 : decode cX5_binWithout 55 = .ok (.ireturn, 1) := by decide +kernel
theorem dX5_binWith_0 : decode cX5_binWith 0 = .ok (.iload_n 1, 1) := by decide +kernel
theorem dX5_binWith_1 : decode cX5_binWith 1 = .ok (.iload_n 2, 1) := by decide +kernel
theorem dX5_binWith_2 : decode cX5_binWith 2 = .ok (.aload_n 0, 1) := by decide +kernel
theorem dX5_binWith_3 : decode cX5_binWith 3 = .ok (.iload 4, 2) := by decide +kernel
theorem dX5_binWith_5 : decode cX5_binWith 5 = .ok (.iload_n 3, 1) := by decide +kernel
theorem dX5_binWith_6 : decode cX5_binWith 6 = .ok (.imul, 1) := by decide +kernel
theorem dX5_binWith_7 : decode cX5_binWith 7 = .ok (.invokevirtual 31, 3) := by decide +kernel
theorem dX5_binWith_10 : decode cX5_binWith 10 = .ok (.imul, 1) := by decide +kernel
theorem dX5_binWith_11 : decode cX5_binWith 11 = .ok (.iadd, 1) := by decide +kernel
theorem dX5_binWith_12 : decode cX5_binWith 12 = .ok (.bipush 97, 2) := by decide +kernel
theorem dX5_binWith_14 : decode cX5_binWith 14 = .ok (.irem, 1) := by decide +kernel
theorem dX5_binWith_15 : decode cX5_binWith 15 = .ok (.ireturn, 1) := by decide +kernel
theorem dX5_pointOf_0 : decode cX5_pointOf 0 = .ok (.iload_n 2, 1) := by decide +kernel
theorem dX5_pointOf_1 : decode cX5_pointOf 1 = .ok (.aload_n 0, 1) := by decide +kernel
theorem dX5_pointOf_2 : decode cX5_pointOf 2 = .ok (.iload_n 1, 1) := by decide +kernel
theorem dX5_pointOf_3 : decode cX5_pointOf 3 = .ok (.ineg, 1) := by decide +kernel
theorem dX5_pointOf_4 : decode cX5_pointOf 4 = .ok (.iload_n 3, 1) := by decide +kernel
theorem dX5_pointOf_5 : decode cX5_pointOf 5 = .ok (.imul, 1) := by decide +kernel
theorem dX5_pointOf_6 : decode cX5_pointOf 6 = .ok (.invokevirtual 31, 3) := by decide +kernel
theorem dX5_pointOf_9 : decode cX5_pointOf 9 = .ok (.imul, 1) := by decide +kernel
theorem dX5_pointOf_10 : decode cX5_pointOf 10 = .ok (.bipush 97, 2) := by decide +kernel
theorem dX5_pointOf_12 : decode cX5_pointOf 12 = .ok (.irem, 1) := by decide +kernel
theorem dX5_pointOf_13 : decode cX5_pointOf 13 = .ok (.istore 4, 2) := by decide +kernel
theorem dX5_pointOf_15 : decode cX5_pointOf 15 = .ok (.iconst 0, 1) := by decide +kernel
theorem dX5_pointOf_16 : decode cX5_pointOf 16 = .ok (.istore 5, 2) := by decide +kernel
theorem dX5_pointOf_18 : decode cX5_pointOf 18 = .ok (.iload 5, 2) := by decide +kernel
theorem dX5_pointOf_20 : decode cX5_pointOf 20 = .ok (.aload_n 0, 1) := by decide +kernel
theorem dX5_pointOf_21 : decode cX5_pointOf 21 = .ok (.getfield 19, 3) := by decide +kernel
theorem dX5_pointOf_24 : decode cX5_pointOf 24 = .ok (.if_icmp .ge 19, 3) := by decide +kernel
theorem dX5_pointOf_27 : decode cX5_pointOf 27 = .ok (.iload 4, 2) := by decide +kernel
theorem dX5_pointOf_29 : decode cX5_pointOf 29 = .ok (.bipush 49, 2) := by decide +kernel
theorem dX5_pointOf_31 : decode cX5_pointOf 31 = .ok (.imul, 1) := by decide +kernel
theorem dX5_pointOf_32 : decode cX5_pointOf 32 = .ok (.bipush 97, 2) := by decide +kernel
theorem dX5_pointOf_34 : decode cX5_pointOf 34 = .ok (.irem, 1) := by decide +kernel
theorem dX5_pointOf_35 : decode cX5_pointOf 35 = .ok (.istore 4, 2) := by decide +kernel
theorem dX5_pointOf_37 : decode cX5_pointOf 37 = .ok (.iinc 5 1, 3) := by decide +kernel
theorem dX5_pointOf_40 : decode cX5_pointOf 40 = .ok (.goto (-22), 3) := by decide +kernel
theorem dX5_pointOf_43 : decode cX5_pointOf 43 = .ok (.iload 4, 2) := by decide +kernel
theorem dX5_pointOf_45 : decode cX5_pointOf 45 = .ok (.ireturn, 1) := by decide +kernel
theorem dX6_init_0 : decode cX6_init 0 = .ok (.aload_n 0, 1) := by decide +kernel
theorem dX6_init_1 : decode cX6_init 1 = .ok (.invokespecial 3, 3) := by decide +kernel
theorem dX6_init_4 : decode cX6_init 4 = .ok (.aload_n 0, 1) := by decide +kernel
theorem dX6_init_5 : decode cX6_init 5 = .ok (.bipush 32, 2) := by decide +kernel
theorem dX6_init_7 : decode cX6_init 7 = .ok (.newarray .int, 2) := by decide +kernel
theorem dX6_init_9 : decode cX6_init 9 = .ok (.putfield 9, 3) := by decide +kernel
theorem dX6_init_12 : decode cX6_init 12 = .ok (.aload_n 0, 1) := by decide +kernel
theorem dX6_init_13 : decode cX6_init 13 = .ok (.bipush 32, 2) := by decide +kernel
theorem dX6_init_15 : decode cX6_init 15 = .ok (.newarray .int, 2) := by decide +kernel
theorem dX6_init_17 : decode cX6_init 17 = .ok (.putfield 15, 3) := by decide +kernel
theorem dX6_init_20 : decode cX6_init 20 = .ok (.return_, 1) := by decide +kernel
theorem dX6_fit_0 : decode cX6_fit 0 = .ok (.iconst 0, 1) := by decide +kernel
theorem dX6_fit_1 : decode cX6_fit 1 = .ok (.istore_n 2, 1) := by decide +kernel
theorem dX6_fit_2 : decode cX6_fit 2 = .ok (.iload_n 2, 1) := by decide +kernel
theorem dX6_fit_3 : decode cX6_fit 3 = .ok (.bipush 32, 2) := by decide +kernel
theorem dX6_fit_5 : decode cX6_fit 5 = .ok (.if_icmp .ge 38, 3) := by decide +kernel
theorem dX6_fit_8 : decode cX6_fit 8 = .ok (.iload_n 2, 1) := by decide +kernel
theorem dX6_fit_9 : decode cX6_fit 9 = .ok (.iconst 5, 1) := by decide +kernel
theorem dX6_fit_10 : decode cX6_fit 10 = .ok (.iload_n 1, 1) := by decide +kernel
theorem dX6_fit_11 : decode cX6_fit 11 = .ok (.isub, 1) := by decide +kernel
theorem dX6_fit_12 : decode cX6_fit 12 = .ok (.ishl, 1) := by decide +kernel
theorem dX6_fit_13 : decode cX6_fit 13 = .ok (.istore_n 3, 1) := by decide +kernel
theorem dX6_fit_14 : decode cX6_fit 14 = .ok (.aload_n 0, 1) := by decide +kernel
theorem dX6_fit_15 : decode cX6_fit 15 = .ok (.getfield 9, 3) := by decide +kernel
theorem dX6_fit_18 : decode cX6_fit 18 = .ok (.iload_n 2, 1) := by decide +kernel
theorem dX6_fit_19 : decode cX6_fit 19 = .ok (.iload_n 3, 1) := by decide +kernel
theorem dX6_fit_20 : decode cX6_fit 20 = .ok (.invokestatic 18, 3) := by decide +kernel
theorem dX6_fit_23 : decode cX6_fit 23 = .ok (.iastore, 1) := by decide +kernel
theorem dX6_fit_24 : decode cX6_fit 24 = .ok (.aload_n 0, 1) := by decide +kernel
theorem dX6_fit_25 : decode cX6_fit 25 = .ok (.getfield 15, 3) := by decide +kernel
theorem dX6_fit_28 : decode cX6_fit 28 = .ok (.iload_n 2, 1) := by decide +kernel
theorem dX6_fit_29 : decode cX6_fit 29 = .ok (.iload_n 3, 1) := by decide +kernel
theorem dX6_fit_30 : decode cX6_fit 30 = .ok (.bipush 24, 2) := by decide +kernel
theorem dX6_fit_32 : decode cX6_fit 32 = .ok (.iadd, 1) := by decide +kernel
theorem dX6_fit_33 : decode cX6_fit 33 = .ok (.invokestatic 18, 3) := by decide +kernel
theorem dX6_fit_36 : decode cX6_fit 36 = .ok (.iastore, 1) := by decide +kernel
theorem dX6_fit_37 : decode cX6_fit 37 = .ok (.iinc 2 1, 3) := by decide +kernel
theorem dX6_fit_40 : decode cX6_fit 40 = .ok (.goto (-38), 3) := by decide +kernel
theorem dX6_fit_43 : decode cX6_fit 43 = .ok (.return_, 1) := by decide +kernel
theorem dX6_cosine_0 : decode cX6_cosine 0 = .ok (.iload_n 0, 1) := by decide +kernel
theorem dX6_cosine_1 : decode cX6_cosine 1 = .ok (.bipush 31, 2) := by decide +kernel
theorem dX6_cosine_3 : decode cX6_cosine 3 = .ok (.iand, 1) := by decide +kernel
theorem dX6_cosine_4 : decode cX6_cosine 4 = .ok (.istore_n 1, 1) := by decide +kernel
theorem dX6_cosine_5 : decode cX6_cosine 5 = .ok (.iload_n 1, 1) := by decide +kernel
theorem dX6_cosine_6 : decode cX6_cosine 6 = .ok (.bipush 16, 2) := by decide +kernel
theorem dX6_cosine_8 : decode cX6_cosine 8 = .ok (.if_icmp .gt 7, 3) := by decide +kernel
theorem dX6_cosine_11 : decode cX6_cosine 11 = .ok (.iload_n 1, 1) := by decide +kernel
theorem dX6_cosine_12 : decode cX6_cosine 12 = .ok (.goto 7, 3) := by decide +kernel
theorem dX6_cosine_15 : decode cX6_cosine 15 = .ok (.bipush 32, 2) := by decide +kernel
theorem dX6_cosine_17 : decode cX6_cosine 17 = .ok (.iload_n 1, 1) := by decide +kernel
theorem dX6_cosine_18 : decode cX6_cosine 18 = .ok (.isub, 1) := by decide +kernel
theorem dX6_cosine_19 : decode cX6_cosine 19 = .ok (.istore_n 2, 1) := by decide +kernel
theorem dX6_cosine_20 : decode cX6_cosine 20 = .ok (.iload_n 2, 1) := by decide +kernel
theorem dX6_cosine_21 : decode cX6_cosine 21 = .ok (.bipush 8, 2) := by decide +kernel
theorem dX6_cosine_23 : decode cX6_cosine 23 = .ok (.if_icmp .gt 11, 3) := by decide +kernel
theorem dX6_cosine_26 : decode cX6_cosine 26 = .ok (.getstatic 22, 3) := by decide +kernel
theorem dX6_cosine_29 : decode cX6_cosine 29 = .ok (.iload_n 2, 1) := by decide +kernel
theorem dX6_cosine_30 : decode cX6_cosine 30 = .ok (.iaload, 1) := by decide +kernel
theorem dX6_cosine_31 : decode cX6_cosine 31 = .ok (.goto 12, 3) := by decide +kernel
theorem dX6_cosine_34 : decode cX6_cosine 34 = .ok (.getstatic 22, 3) := by decide +kernel
theorem dX6_cosine_37 : decode cX6_cosine 37 = .ok (.bipush 16, 2) := by decide +kernel
theorem dX6_cosine_39 : decode cX6_cosine 39 = .ok (.iload_n 2, 1) := by decide +kernel
theorem dX6_cosine_40 : decode cX6_cosine 40 = .ok (.isub, 1) := by decide +kernel
theorem dX6_cosine_41 : decode cX6_cosine 41 = .ok (.iaload, 1) := by decide +kernel
theorem dX6_cosine_42 : decode cX6_cosine 42 = .ok (.ineg, 1) := by decide +kernel
theorem dX6_cosine_43 : decode cX6_cosine 43 = .ok (.ireturn, 1) := by decide +kernel
theorem dX7_init_0 : decode cX7_init 0 = .ok (.aload_n 0, 1) := by decide +kernel
theorem dX7_init_1 : decode cX7_init 1 = .ok (.invokespecial 3, 3) := by decide +kernel
theorem dX7_init_4 : decode cX7_init 4 = .ok (.aload_n 0, 1) := by decide +kernel
theorem dX7_init_5 : decode cX7_init 5 = .ok (.bipush 32, 2) := by decide +kernel
theorem dX7_init_7 : decode cX7_init 7 = .ok (.newarray .int, 2) := by decide +kernel
theorem dX7_init_9 : decode cX7_init 9 = .ok (.putfield 9, 3) := by decide +kernel
theorem dX7_init_12 : decode cX7_init 12 = .ok (.aload_n 0, 1) := by decide +kernel
theorem dX7_init_13 : decode cX7_init 13 = .ok (.bipush 32, 2) := by decide +kernel
theorem dX7_init_15 : decode cX7_init 15 = .ok (.newarray .int, 2) := by decide +kernel
theorem dX7_init_17 : decode cX7_init 17 = .ok (.putfield 15, 3) := by decide +kernel
theorem dX7_init_20 : decode cX7_init 20 = .ok (.aload_n 0, 1) := by decide +kernel
theorem dX7_init_21 : decode cX7_init 21 = .ok (.bipush 32, 2) := by decide +kernel
theorem dX7_init_23 : decode cX7_init 23 = .ok (.newarray .int, 2) := by decide +kernel
theorem dX7_init_25 : decode cX7_init 25 = .ok (.putfield 18, 3) := by decide +kernel
theorem dX7_init_28 : decode cX7_init 28 = .ok (.aload_n 0, 1) := by decide +kernel
theorem dX7_init_29 : decode cX7_init 29 = .ok (.bipush 32, 2) := by decide +kernel
theorem dX7_init_31 : decode cX7_init 31 = .ok (.newarray .int, 2) := by decide +kernel
theorem dX7_init_33 : decode cX7_init 33 = .ok (.putfield 21, 3) := by decide +kernel
theorem dX7_init_36 : decode cX7_init 36 = .ok (.aload_n 0, 1) := by decide +kernel
theorem dX7_init_37 : decode cX7_init 37 = .ok (.iconst 5, 1) := by decide +kernel
theorem dX7_init_38 : decode cX7_init 38 = .ok (.newarray .int, 2) := by decide +kernel
theorem dX7_init_40 : decode cX7_init 40 = .ok (.putfield 24, 3) := by decide +kernel
theorem dX7_init_43 : decode cX7_init 43 = .ok (.aload_n 0, 1) := by decide +kernel
theorem dX7_init_44 : decode cX7_init 44 = .ok (.iconst 0, 1) := by decide +kernel
theorem dX7_init_45 : decode cX7_init 45 = .ok (.putfield 27, 3) := by decide +kernel
theorem dX7_init_48 : decode cX7_init 48 = .ok (.aload_n 0, 1) := by decide +kernel
theorem dX7_init_49 : decode cX7_init 49 = .ok (.iconst 0, 1) := by decide +kernel
theorem dX7_init_50 : decode cX7_init 50 = .ok (.putfield 31, 3) := by decide +kernel
theorem dX7_init_53 : decode cX7_init 53 = .ok (.aload_n 0, 1) := by decide +kernel
theorem dX7_init_54 : decode cX7_init 54 = .ok (.iconst 0, 1) := by decide +kernel
theorem dX7_init_55 : decode cX7_init 55 = .ok (.putfield 34, 3) := by decide +kernel
theorem dX7_init_58 : decode cX7_init 58 = .ok (.return_, 1) := by decide +kernel
theorem dX7_begin_0 : decode cX7_begin 0 = .ok (.aload_n 1, 1) := by decide +kernel
theorem dX7_begin_1 : decode cX7_begin 1 = .ok (.iconst 0, 1) := by decide +kernel
theorem dX7_begin_2 : decode cX7_begin 2 = .ok (.aload_n 0, 1) := by decide +kernel
theorem dX7_begin_3 : decode cX7_begin 3 = .ok (.getfield 9, 3) := by decide +kernel
theorem dX7_begin_6 : decode cX7_begin 6 = .ok (.iconst 0, 1) := by decide +kernel
theorem dX7_begin_7 : decode cX7_begin 7 = .ok (.bipush 32, 2) := by decide +kernel
theorem dX7_begin_9 : decode cX7_begin 9 = .ok (.invokestatic 38, 3) := by decide +kernel
theorem dX7_begin_12 : decode cX7_begin 12 = .ok (.aload_n 2, 1) := by decide +kernel
theorem dX7_begin_13 : decode cX7_begin 13 = .ok (.iconst 0, 1) := by decide +kernel
theorem dX7_begin_14 : decode cX7_begin 14 = .ok (.aload_n 0, 1) := by decide +kernel
theorem dX7_begin_15 : decode cX7_begin 15 = .ok (.getfield 15, 3) := by decide +kernel
theorem dX7_begin_18 : decode cX7_begin 18 = .ok (.iconst 0, 1) := by decide +kernel
theorem dX7_begin_19 : decode cX7_begin 19 = .ok (.bipush 32, 2) := by decide +kernel
theorem dX7_begin_21 : decode cX7_begin 21 = .ok (.invokestatic 38, 3) := by decide +kernel
theorem dX7_begin_24 : decode cX7_begin 24 = .ok (.aload_n 0, 1) := by decide +kernel
theorem dX7_begin_25 : decode cX7_begin 25 = .ok (.iconst 0, 1) := by decide +kernel
theorem dX7_begin_26 : decode cX7_begin 26 = .ok (.putfield 27, 3) := by decide +kernel
theorem dX7_begin_29 : decode cX7_begin 29 = .ok (.aload_n 0, 1) := by decide +kernel
theorem dX7_begin_30 : decode cX7_begin 30 = .ok (.iconst 0, 1) := by decide +kernel
theorem dX7_begin_31 : decode cX7_begin 31 = .ok (.putfield 31, 3) := by decide +kernel
theorem dX7_begin_34 : decode cX7_begin 34 = .ok (.aload_n 0, 1) := by decide +kernel
theorem dX7_begin_35 : decode cX7_begin 35 = .ok (.iconst 0, 1) := by decide +kernel
theorem dX7_begin_36 : decode cX7_begin 36 = .ok (.putfield 34, 3) := by decide +kernel
theorem dX7_begin_39 : decode cX7_begin 39 = .ok (.return_, 1) := by decide +kernel
theorem dX7_restartFrom_0 : decode cX7_restartFrom 0 = .ok (.aload_n 0, 1) := by decide +kernel
theorem dX7_restartFrom_1 : decode cX7_restartFrom 1 = .ok (.aload_n 1, 1) := by decide +kernel
theorem dX7_restartFrom_2 : decode cX7_restartFrom 2 = .ok (.getfield 18, 3) := by decide +kernel
theorem dX7_restartFrom_5 : decode cX7_restartFrom 5 = .ok (.aload_n 1, 1) := by decide +kernel
theorem dX7_restartFrom_6 : decode cX7_restartFrom 6 = .ok (.getfield 21, 3) := by decide +kernel
theorem dX7_restartFrom_9 : decode cX7_restartFrom 9 = .ok (.invokevirtual 44, 3) := by decide +kernel
theorem dX7_restartFrom_12 : decode cX7_restartFrom 12 = .ok (.return_, 1) := by decide +kernel
theorem dX7_goOnFrom_0 : decode cX7_goOnFrom 0 = .ok (.aload_n 0, 1) := by decide +kernel
theorem dX7_goOnFrom_1 : decode cX7_goOnFrom 1 = .ok (.aload_n 1, 1) := by decide +kernel
theorem dX7_goOnFrom_2 : decode cX7_goOnFrom 2 = .ok (.getfield 9, 3) := by decide +kernel
theorem dX7_goOnFrom_5 : decode cX7_goOnFrom 5 = .ok (.aload_n 1, 1) := by decide +kernel
theorem dX7_goOnFrom_6 : decode cX7_goOnFrom 6 = .ok (.getfield 15, 3) := by decide +kernel
theorem dX7_goOnFrom_9 : decode cX7_goOnFrom 9 = .ok (.invokevirtual 44, 3) := by decide +kernel
theorem dX7_goOnFrom_12 : decode cX7_goOnFrom 12 = .ok (.aload_n 0, 1) := by decide +kernel
theorem dX7_goOnFrom_13 : decode cX7_goOnFrom 13 = .ok (.aload_n 1, 1) := by decide +kernel
theorem dX7_goOnFrom_14 : decode cX7_goOnFrom 14 = .ok (.getfield 27, 3) := by decide +kernel
theorem dX7_goOnFrom_17 : decode cX7_goOnFrom 17 = .ok (.putfield 27, 3) := by decide +kernel
theorem dX7_goOnFrom_20 : decode cX7_goOnFrom 20 = .ok (.aload_n 0, 1) := by decide +kernel
theorem dX7_goOnFrom_21 : decode cX7_goOnFrom 21 = .ok (.aload_n 1, 1) := by decide +kernel
theorem dX7_goOnFrom_22 : decode cX7_goOnFrom 22 = .ok (.getfield 31, 3) := by decide +kernel
theorem dX7_goOnFrom_25 : decode cX7_goOnFrom 25 = .ok (.putfield 31, 3) := by decide +kernel
theorem dX7_goOnFrom_28 : decode cX7_goOnFrom 28 = .ok (.aload_n 0, 1) := by decide +kernel
theorem dX7_goOnFrom_29 : decode cX7_goOnFrom 29 = .ok (.aload_n 1, 1) := by decide +kernel
theorem dX7_goOnFrom_30 : decode cX7_goOnFrom 30 = .ok (.getfield 34, 3) := by decide +kernel
theorem dX7_goOnFrom_33 : decode cX7_goOnFrom 33 = .ok (.putfield 34, 3) := by decide +kernel
theorem dX7_goOnFrom_36 : decode cX7_goOnFrom 36 = .ok (.return_, 1) := by decide +kernel
theorem dX7_settle_0 : decode cX7_settle 0 = .ok (.aload_n 0, 1) := by decide +kernel
theorem dX7_settle_1 : decode cX7_settle 1 = .ok (.getfield 9, 3) := by decide +kernel
theorem dX7_settle_4 : decode cX7_settle 4 = .ok (.iconst 0, 1) := by decide +kernel
theorem dX7_settle_5 : decode cX7_settle 5 = .ok (.aload_n 0, 1) := by decide +kernel
theorem dX7_settle_6 : decode cX7_settle 6 = .ok (.getfield 18, 3) := by decide +kernel
theorem dX7_settle_9 : decode cX7_settle 9 = .ok (.iconst 0, 1) := by decide +kernel
theorem dX7_settle_10 : decode cX7_settle 10 = .ok (.bipush 32, 2) := by decide +kernel
theorem dX7_settle_12 : decode cX7_settle 12 = .ok (.invokestatic 38, 3) := by decide +kernel
theorem dX7_settle_15 : decode cX7_settle 15 = .ok (.aload_n 0, 1) := by decide +kernel
theorem dX7_settle_16 : decode cX7_settle 16 = .ok (.getfield 15, 3) := by decide +kernel
theorem dX7_settle_19 : decode cX7_settle 19 = .ok (.iconst 0, 1) := by decide +kernel
theorem dX7_settle_20 : decode cX7_settle 20 = .ok (.aload_n 0, 1) := by decide +kernel
theorem dX7_settle_21 : decode cX7_settle 21 = .ok (.getfield 21, 3) := by decide +kernel
theorem dX7_settle_24 : decode cX7_settle 24 = .ok (.iconst 0, 1) := by decide +kernel
theorem dX7_settle_25 : decode cX7_settle 25 = .ok (.bipush 32, 2) := by decide +kernel
theorem dX7_settle_27 : decode cX7_settle 27 = .ok (.invokestatic 38, 3) := by decide +kernel
theorem dX7_settle_30 : decode cX7_settle 30 = .ok (.return_, 1) := by decide +kernel
theorem dX7_greatest_0 : decode cX7_greatest 0 = .ok (.iconst 0, 1) := by decide +kernel
theorem dX7_greatest_1 : decode cX7_greatest 1 = .ok (.istore_n 3, 1) := by decide +kernel
theorem dX7_greatest_2 : decode cX7_greatest 2 = .ok (.iload_n 1, 1) := by decide +kernel
theorem dX7_greatest_3 : decode cX7_greatest 3 = .ok (.istore 4, 2) := by decide +kernel
theorem dX7_greatest_5 : decode cX7_greatest 5 = .ok (.iload 4, 2) := by decide +kernel
theorem dX7_greatest_7 : decode cX7_greatest 7 = .ok (.iload_n 2, 1) := by decide +kernel
theorem dX7_greatest_8 : decode cX7_greatest 8 = .ok (.if_icmp .ge 44, 3) := by decide +kernel
theorem dX7_greatest_11 : decode cX7_greatest 11 = .ok (.iload 4, 2) := by decide +kernel
theorem dX7_greatest_13 : decode cX7_greatest 13 = .ok (.bipush 32, 2) := by decide +kernel
theorem dX7_greatest_15 : decode cX7_greatest 15 = .ok (.if_icmp .ge 37, 3) := by decide +kernel
theorem dX7_greatest_18 : decode cX7_greatest 18 = .ok (.iload_n 3, 1) := by decide +kernel
theorem dX7_greatest_19 : decode cX7_greatest 19 = .ok (.aload_n 0, 1) := by decide +kernel
theorem dX7_greatest_20 : decode cX7_greatest 20 = .ok (.getfield 9, 3) := by decide +kernel
theorem dX7_greatest_23 : decode cX7_greatest 23 = .ok (.iload 4, 2) := by decide +kernel
theorem dX7_greatest_25 : decode cX7_greatest 25 = .ok (.iaload, 1) := by decide +kernel
theorem dX7_greatest_26 : decode cX7_greatest 26 = .ok (.invokestatic 48, 3) := by decide +kernel
theorem dX7_greatest_29 : decode cX7_greatest 29 = .ok (.aload_n 0, 1) := by decide +kernel
theorem dX7_greatest_30 : decode cX7_greatest 30 = .ok (.getfield 15, 3) := by decide +kernel
theorem dX7_greatest_33 : decode cX7_greatest 33 = .ok (.iload 4, 2) := by decide +kernel
theorem dX7_greatest_35 : decode cX7_greatest 35 = .ok (.iaload, 1) := by decide +kernel
theorem dX7_greatest_36 : decode cX7_greatest 36 = .ok (.invokestatic 48, 3) := by decide +kernel
theorem dX7_greatest_39 : decode cX7_greatest 39 = .ok (.invokestatic 54, 3) := by decide +kernel
theorem dX7_greatest_42 : decode cX7_greatest 42 = .ok (.invokestatic 54, 3) := by decide +kernel
theorem dX7_greatest_45 : decode cX7_greatest 45 = .ok (.istore_n 3, 1) := by decide +kernel
theorem dX7_greatest_46 : decode cX7_greatest 46 = .ok (.iinc 4 1, 3) := by decide +kernel
theorem dX7_greatest_49 : decode cX7_greatest 49 = .ok (.goto (-44), 3) := by decide +kernel
theorem dX7_greatest_52 : decode cX7_greatest 52 = .ok (.iload_n 3, 1) := by decide +kernel
theorem dX7_greatest_53 : decode cX7_greatest 53 = .ok (.ireturn, 1) := by decide +kernel
theorem dX7_flipIm_0 : decode cX7_flipIm 0 = .ok (.iconst 0, 1) := by decide +kernel
theorem dX7_flipIm_1 : decode cX7_flipIm 1 = .ok (.istore_n 2, 1) := by decide +kernel
theorem dX7_flipIm_2 : decode cX7_flipIm 2 = .ok (.iload_n 2, 1) := by decide +kernel
theorem dX7_flipIm_3 : decode cX7_flipIm 3 = .ok (.iload_n 1, 1) := by decide +kernel
theorem dX7_flipIm_4 : decode cX7_flipIm 4 = .ok (.if_icmp .ge 22, 3) := by decide +kernel
theorem dX7_flipIm_7 : decode cX7_flipIm 7 = .ok (.aload_n 0, 1) := by decide +kernel
theorem dX7_flipIm_8 : decode cX7_flipIm 8 = .ok (.getfield 15, 3) := by decide +kernel
theorem dX7_flipIm_11 : decode cX7_flipIm 11 = .ok (.iload_n 2, 1) := by decide +kernel
theorem dX7_flipIm_12 : decode cX7_flipIm 12 = .ok (.aload_n 0, 1) := by decide +kernel
theorem dX7_flipIm_13 : decode cX7_flipIm 13 = .ok (.getfield 15, 3) := by decide +kernel
theorem dX7_flipIm_16 : decode cX7_flipIm 16 = .ok (.iload_n 2, 1) := by decide +kernel
theorem dX7_flipIm_17 : decode cX7_flipIm 17 = .ok (.iaload, 1) := by decide +kernel
theorem dX7_flipIm_18 : decode cX7_flipIm 18 = .ok (.ineg, 1) := by decide +kernel
theorem dX7_flipIm_19 : decode cX7_flipIm 19 = .ok (.iastore, 1) := by decide +kernel
theorem dX7_flipIm_20 : decode cX7_flipIm 20 = .ok (.iinc 2 1, 3) := by decide +kernel
theorem dX7_flipIm_23 : decode cX7_flipIm 23 = .ok (.goto (-21), 3) := by decide +kernel
theorem dX7_flipIm_26 : decode cX7_flipIm 26 = .ok (.return_, 1) := by decide +kernel
theorem dX7_goBack_0 : decode cX7_goBack 0 = .ok (.aload_n 0, 1) := by decide +kernel
theorem dX7_goBack_1 : decode cX7_goBack 1 = .ok (.iload_n 1, 1) := by decide +kernel
theorem dX7_goBack_2 : decode cX7_goBack 2 = .ok (.invokevirtual 58, 3) := by decide +kernel
theorem dX7_goBack_5 : decode cX7_goBack 5 = .ok (.aload_n 0, 1) := by decide +kernel
theorem dX7_goBack_6 : decode cX7_goBack 6 = .ok (.iconst 1, 1) := by decide +kernel
theorem dX7_goBack_7 : decode cX7_goBack 7 = .ok (.putfield 34, 3) := by decide +kernel
theorem dX7_goBack_10 : decode cX7_goBack 10 = .ok (.aload_n 0, 1) := by decide +kernel
theorem dX7_goBack_11 : decode cX7_goBack 11 = .ok (.iconst 0, 1) := by decide +kernel
theorem dX7_goBack_12 : decode cX7_goBack 12 = .ok (.putfield 31, 3) := by decide +kernel
theorem dX7_goBack_15 : decode cX7_goBack 15 = .ok (.return_, 1) := by decide +kernel
theorem dX7_writeTo_0 : decode cX7_writeTo 0 = .ok (.aload_n 0, 1) := by decide +kernel
theorem dX7_writeTo_1 : decode cX7_writeTo 1 = .ok (.getfield 9, 3) := by decide +kernel
theorem dX7_writeTo_4 : decode cX7_writeTo 4 = .ok (.iconst 0, 1) := by decide +kernel
theorem dX7_writeTo_5 : decode cX7_writeTo 5 = .ok (.aload_n 1, 1) := by decide +kernel
theorem dX7_writeTo_6 : decode cX7_writeTo 6 = .ok (.iload_n 2, 1) := by decide +kernel
theorem dX7_writeTo_7 : decode cX7_writeTo 7 = .ok (.bipush 32, 2) := by decide +kernel
theorem dX7_writeTo_9 : decode cX7_writeTo 9 = .ok (.invokestatic 38, 3) := by decide +kernel
theorem dX7_writeTo_12 : decode cX7_writeTo 12 = .ok (.aload_n 0, 1) := by decide +kernel
theorem dX7_writeTo_13 : decode cX7_writeTo 13 = .ok (.getfield 15, 3) := by decide +kernel
theorem dX7_writeTo_16 : decode cX7_writeTo 16 = .ok (.iconst 0, 1) := by decide +kernel
theorem dX7_writeTo_17 : decode cX7_writeTo 17 = .ok (.aload_n 1, 1) := by decide +kernel
theorem dX7_writeTo_18 : decode cX7_writeTo 18 = .ok (.iload_n 2, 1) := by decide +kernel
theorem dX7_writeTo_19 : decode cX7_writeTo 19 = .ok (.bipush 32, 2) := by decide +kernel
theorem dX7_writeTo_21 : decode cX7_writeTo 21 = .ok (.iadd, 1) := by decide +kernel
theorem dX7_writeTo_22 : decode cX7_writeTo 22 = .ok (.bipush 32, 2) := by decide +kernel
theorem dX7_writeTo_24 : decode cX7_writeTo 24 = .ok (.invokestatic 38, 3) := by decide +kernel
theorem dX7_writeTo_27 : decode cX7_writeTo 27 = .ok (.aload_n 0, 1) := by decide +kernel
theorem dX7_writeTo_28 : decode cX7_writeTo 28 = .ok (.getfield 18, 3) := by decide +kernel
theorem dX7_writeTo_31 : decode cX7_writeTo 31 = .ok (.iconst 0, 1) := by decide +kernel
theorem dX7_writeTo_32 : decode cX7_writeTo 32 = .ok (.aload_n 1, 1) := by decide +kernel
theorem dX7_writeTo_33 : decode cX7_writeTo 33 = .ok (.iload_n 2, 1) := by decide +kernel
theorem dX7_writeTo_34 : decode cX7_writeTo 34 = .ok (.bipush 64, 2) := by decide +kernel
theorem dX7_writeTo_36 : decode cX7_writeTo 36 = .ok (.iadd, 1) := by decide +kernel
theorem dX7_writeTo_37 : decode cX7_writeTo 37 = .ok (.bipush 32, 2) := by decide +kernel
theorem dX7_writeTo_39 : decode cX7_writeTo 39 = .ok (.invokestatic 38, 3) := by decide +kernel
theorem dX7_writeTo_42 : decode cX7_writeTo 42 = .ok (.aload_n 0, 1) := by decide +kernel
theorem dX7_writeTo_43 : decode cX7_writeTo 43 = .ok (.getfield 21, 3) := by decide +kernel
theorem dX7_writeTo_46 : decode cX7_writeTo 46 = .ok (.iconst 0, 1) := by decide +kernel
theorem dX7_writeTo_47 : decode cX7_writeTo 47 = .ok (.aload_n 1, 1) := by decide +kernel
theorem dX7_writeTo_48 : decode cX7_writeTo 48 = .ok (.iload_n 2, 1) := by decide +kernel
theorem dX7_writeTo_49 : decode cX7_writeTo 49 = .ok (.bipush 96, 2) := by decide +kernel
theorem dX7_writeTo_51 : decode cX7_writeTo 51 = .ok (.iadd, 1) := by decide +kernel
theorem dX7_writeTo_52 : decode cX7_writeTo 52 = .ok (.bipush 32, 2) := by decide +kernel
theorem dX7_writeTo_54 : decode cX7_writeTo 54 = .ok (.invokestatic 38, 3) := by decide +kernel
theorem dX7_writeTo_57 : decode cX7_writeTo 57 = .ok (.iload_n 2, 1) := by decide +kernel
theorem dX7_writeTo_58 : decode cX7_writeTo 58 = .ok (.sipush 128, 3) := by decide +kernel
theorem dX7_writeTo_61 : decode cX7_writeTo 61 = .ok (.iadd, 1) := by decide +kernel
theorem dX7_writeTo_62 : decode cX7_writeTo 62 = .ok (.istore_n 3, 1) := by decide +kernel
theorem dX7_writeTo_63 : decode cX7_writeTo 63 = .ok (.aload_n 0, 1) := by decide +kernel
theorem dX7_writeTo_64 : decode cX7_writeTo 64 = .ok (.getfield 24, 3) := by decide +kernel
theorem dX7_writeTo_67 : decode cX7_writeTo 67 = .ok (.iconst 0, 1) := by decide +kernel
theorem dX7_writeTo_68 : decode cX7_writeTo 68 = .ok (.aload_n 1, 1) := by decide +kernel
theorem dX7_writeTo_69 : decode cX7_writeTo 69 = .ok (.iload_n 3, 1) := by decide +kernel
theorem dX7_writeTo_70 : decode cX7_writeTo 70 = .ok (.iconst 5, 1) := by decide +kernel
theorem dX7_writeTo_71 : decode cX7_writeTo 71 = .ok (.invokestatic 38, 3) := by decide +kernel
theorem dX7_writeTo_74 : decode cX7_writeTo 74 = .ok (.aload_n 1, 1) := by decide +kernel
theorem dX7_writeTo_75 : decode cX7_writeTo 75 = .ok (.iload_n 3, 1) := by decide +kernel
theorem dX7_writeTo_76 : decode cX7_writeTo 76 = .ok (.iconst 5, 1) := by decide +kernel
theorem dX7_writeTo_77 : decode cX7_writeTo 77 = .ok (.iadd, 1) := by decide +kernel
theorem dX7_writeTo_78 : decode cX7_writeTo 78 = .ok (.aload_n 0, 1) := by decide +kernel
theorem dX7_writeTo_79 : decode cX7_writeTo 79 = .ok (.getfield 27, 3) := by decide +kernel
theorem dX7_writeTo_82 : decode cX7_writeTo 82 = .ok (.iastore, 1) := by decide +kernel
theorem dX7_writeTo_83 : decode cX7_writeTo 83 = .ok (.aload_n 1, 1) := by decide +kernel
theorem dX7_writeTo_84 : decode cX7_writeTo 84 = .ok (.iload_n 3, 1) := by decide +kernel
theorem dX7_writeTo_85 : decode cX7_writeTo 85 = .ok (.iconst 5, 1) := by decide +kernel
theorem dX7_writeTo_86 : decode cX7_writeTo 86 = .ok (.iadd, 1) := by decide +kernel
theorem dX7_writeTo_87 : decode cX7_writeTo 87 = .ok (.iconst 1, 1) := by decide +kernel
theorem dX7_writeTo_88 : decode cX7_writeTo 88 = .ok (.iadd, 1) := by decide +kernel
theorem dX7_writeTo_89 : decode cX7_writeTo 89 = .ok (.aload_n 0, 1) := by decide +kernel
theorem dX7_writeTo_90 : decode cX7_writeTo 90 = .ok (.getfield 31, 3) := by decide +kernel
theorem dX7_writeTo_93 : decode cX7_writeTo 93 = .ok (.iastore, 1) := by decide +kernel
theorem dX7_writeTo_94 : decode cX7_writeTo 94 = .ok (.aload_n 1, 1) := by decide +kernel
theorem dX7_writeTo_95 : decode cX7_writeTo 95 = .ok (.iload_n 3, 1) := by decide +kernel
theorem dX7_writeTo_96 : decode cX7_writeTo 96 = .ok (.iconst 5, 1) := by decide +kernel
theorem dX7_writeTo_97 : decode cX7_writeTo 97 = .ok (.iadd, 1) := by decide +kernel
theorem dX7_writeTo_98 : decode cX7_writeTo 98 = .ok (.iconst 2, 1) := by decide +kernel
theorem dX7_writeTo_99 : decode cX7_writeTo 99 = .ok (.iadd, 1) := by decide +kernel
theorem dX7_writeTo_100 : decode cX7_writeTo 100 = .ok (.aload_n 0, 1) := by decide +kernel
theorem dX7_writeTo_101 : decode cX7_writeTo 101 = .ok (.getfield 34, 3) := by decide +kernel
theorem dX7_writeTo_104 : decode cX7_writeTo 104 = .ok (.ifCond .eq 7, 3) := by decide +kernel
theorem dX7_writeTo_107 : decode cX7_writeTo 107 = .ok (.iconst 1, 1) := by decide +kernel
theorem dX7_writeTo_108 : decode cX7_writeTo 108 = .ok (.goto 4, 3) := by decide +kernel
theorem dX7_writeTo_111 : decode cX7_writeTo 111 = .ok (.iconst 0, 1) := by decide +kernel
theorem dX7_writeTo_112 : decode cX7_writeTo 112 = .ok (.iastore, 1) := by decide +kernel
theorem dX7_writeTo_113 : decode cX7_writeTo 113 = .ok (.return_, 1) := by decide +kernel
theorem dX7_readFrom_0 : decode cX7_readFrom 0 = .ok (.aload_n 1, 1) := by decide +kernel
theorem dX7_readFrom_1 : decode cX7_readFrom 1 = .ok (.iload_n 2, 1) := by decide +kernel
theorem dX7_readFrom_2 : decode cX7_readFrom 2 = .ok (.aload_n 0, 1) := by decide +kernel
theorem dX7_readFrom_3 : decode cX7_readFrom 3 = .ok (.getfield 9, 3) := by decide +kernel
theorem dX7_readFrom_6 : decode cX7_readFrom 6 = .ok (.iconst 0, 1) := by decide +kernel
theorem dX7_readFrom_7 : decode cX7_readFrom 7 = .ok (.bipush 32, 2) := by decide +kernel
theorem dX7_readFrom_9 : decode cX7_readFrom 9 = .ok (.invokestatic 38, 3) := by decide +kernel
theorem dX7_readFrom_12 : decode cX7_readFrom 12 = .ok (.aload_n 1, 1) := by decide +kernel
theorem dX7_readFrom_13 : decode cX7_readFrom 13 = .ok (.iload_n 2, 1) := by decide +kernel
theorem dX7_readFrom_14 : decode cX7_readFrom 14 = .ok (.bipush 32, 2) := by decide +kernel
theorem dX7_readFrom_16 : decode cX7_readFrom 16 = .ok (.iadd, 1) := by decide +kernel
theorem dX7_readFrom_17 : decode cX7_readFrom 17 = .ok (.aload_n 0, 1) := by decide +kernel
theorem dX7_readFrom_18 : decode cX7_readFrom 18 = .ok (.getfield 15, 3) := by decide +kernel
theorem dX7_readFrom_21 : decode cX7_readFrom 21 = .ok (.iconst 0, 1) := by decide +kernel
theorem dX7_readFrom_22 : decode cX7_readFrom 22 = .ok (.bipush 32, 2) := by decide +kernel
theorem dX7_readFrom_24 : decode cX7_readFrom 24 = .ok (.invokestatic 38, 3) := by decide +kernel
theorem dX7_readFrom_27 : decode cX7_readFrom 27 = .ok (.aload_n 1, 1) := by decide +kernel
theorem dX7_readFrom_28 : decode cX7_readFrom 28 = .ok (.iload_n 2, 1) := by decide +kernel
theorem dX7_readFrom_29 : decode cX7_readFrom 29 = .ok (.bipush 64, 2) := by decide +kernel
theorem dX7_readFrom_31 : decode cX7_readFrom 31 = .ok (.iadd, 1) := by decide +kernel
theorem dX7_readFrom_32 : decode cX7_readFrom 32 = .ok (.aload_n 0, 1) := by decide +kernel
theorem dX7_readFrom_33 : decode cX7_readFrom 33 = .ok (.getfield 18, 3) := by decide +kernel
theorem dX7_readFrom_36 : decode cX7_readFrom 36 = .ok (.iconst 0, 1) := by decide +kernel
theorem dX7_readFrom_37 : decode cX7_readFrom 37 = .ok (.bipush 32, 2) := by decide +kernel
theorem dX7_readFrom_39 : decode cX7_readFrom 39 = .ok (.invokestatic 38, 3) := by decide +kernel
theorem dX7_readFrom_42 : decode cX7_readFrom 42 = .ok (.aload_n 1, 1) := by decide +kernel
theorem dX7_readFrom_43 : decode cX7_readFrom 43 = .ok (.iload_n 2, 1) := by decide +kernel
theorem dX7_readFrom_44 : decode cX7_readFrom 44 = .ok (.bipush 96, 2) := by decide +kernel
theorem dX7_readFrom_46 : decode cX7_readFrom 46 = .ok (.iadd, 1) := by decide +kernel
theorem dX7_readFrom_47 : decode cX7_readFrom 47 = .ok (.aload_n 0, 1) := by decide +kernel
theorem dX7_readFrom_48 : decode cX7_readFrom 48 = .ok (.getfield 21, 3) := by decide +kernel
theorem dX7_readFrom_51 : decode cX7_readFrom 51 = .ok (.iconst 0, 1) := by decide +kernel
theorem dX7_readFrom_52 : decode cX7_readFrom 52 = .ok (.bipush 32, 2) := by decide +kernel
theorem dX7_readFrom_54 : decode cX7_readFrom 54 = .ok (.invokestatic 38, 3) := by decide +kernel
theorem dX7_readFrom_57 : decode cX7_readFrom 57 = .ok (.iload_n 2, 1) := by decide +kernel
theorem dX7_readFrom_58 : decode cX7_readFrom 58 = .ok (.sipush 128, 3) := by decide +kernel
theorem dX7_readFrom_61 : decode cX7_readFrom 61 = .ok (.iadd, 1) := by decide +kernel
theorem dX7_readFrom_62 : decode cX7_readFrom 62 = .ok (.istore_n 3, 1) := by decide +kernel
theorem dX7_readFrom_63 : decode cX7_readFrom 63 = .ok (.aload_n 1, 1) := by decide +kernel
theorem dX7_readFrom_64 : decode cX7_readFrom 64 = .ok (.iload_n 3, 1) := by decide +kernel
theorem dX7_readFrom_65 : decode cX7_readFrom 65 = .ok (.aload_n 0, 1) := by decide +kernel
theorem dX7_readFrom_66 : decode cX7_readFrom 66 = .ok (.getfield 24, 3) := by decide +kernel
theorem dX7_readFrom_69 : decode cX7_readFrom 69 = .ok (.iconst 0, 1) := by decide +kernel
theorem dX7_readFrom_70 : decode cX7_readFrom 70 = .ok (.iconst 5, 1) := by decide +kernel
theorem dX7_readFrom_71 : decode cX7_readFrom 71 = .ok (.invokestatic 38, 3) := by decide +kernel
theorem dX7_readFrom_74 : decode cX7_readFrom 74 = .ok (.aload_n 0, 1) := by decide +kernel
theorem dX7_readFrom_75 : decode cX7_readFrom 75 = .ok (.aload_n 1, 1) := by decide +kernel
theorem dX7_readFrom_76 : decode cX7_readFrom 76 = .ok (.iload_n 3, 1) := by decide +kernel
theorem dX7_readFrom_77 : decode cX7_readFrom 77 = .ok (.iconst 5, 1) := by decide +kernel
theorem dX7_readFrom_78 : decode cX7_readFrom 78 = .ok (.iadd, 1) := by decide +kernel
theorem dX7_readFrom_79 : decode cX7_readFrom 79 = .ok (.iaload, 1) := by decide +kernel
theorem dX7_readFrom_80 : decode cX7_readFrom 80 = .ok (.putfield 27, 3) := by decide +kernel
theorem dX7_readFrom_83 : decode cX7_readFrom 83 = .ok (.aload_n 0, 1) := by decide +kernel
theorem dX7_readFrom_84 : decode cX7_readFrom 84 = .ok (.aload_n 1, 1) := by decide +kernel
theorem dX7_readFrom_85 : decode cX7_readFrom 85 = .ok (.iload_n 3, 1) := by decide +kernel
theorem dX7_readFrom_86 : decode cX7_readFrom 86 = .ok (.iconst 5, 1) := by decide +kernel
theorem dX7_readFrom_87 : decode cX7_readFrom 87 = .ok (.iadd, 1) := by decide +kernel
theorem dX7_readFrom_88 : decode cX7_readFrom 88 = .ok (.iconst 1, 1) := by decide +kernel
theorem dX7_readFrom_89 : decode cX7_readFrom 89 = .ok (.iadd, 1) := by decide +kernel
theorem dX7_readFrom_90 : decode cX7_readFrom 90 = .ok (.iaload, 1) := by decide +kernel
theorem dX7_readFrom_91 : decode cX7_readFrom 91 = .ok (.putfield 31, 3) := by decide +kernel
theorem dX7_readFrom_94 : decode cX7_readFrom 94 = .ok (.aload_n 0, 1) := by decide +kernel
theorem dX7_readFrom_95 : decode cX7_readFrom 95 = .ok (.aload_n 1, 1) := by decide +kernel
theorem dX7_readFrom_96 : decode cX7_readFrom 96 = .ok (.iload_n 3, 1) := by decide +kernel
theorem dX7_readFrom_97 : decode cX7_readFrom 97 = .ok (.iconst 5, 1) := by decide +kernel
theorem dX7_readFrom_98 : decode cX7_readFrom 98 = .ok (.iadd, 1) := by decide +kernel
theorem dX7_readFrom_99 : decode cX7_readFrom 99 = .ok (.iconst 2, 1) := by decide +kernel
theorem dX7_readFrom_100 : decode cX7_readFrom 100 = .ok (.iadd, 1) := by decide +kernel
theorem dX7_readFrom_101 : decode cX7_readFrom 101 = .ok (.iaload, 1) := by decide +kernel
theorem dX7_readFrom_102 : decode cX7_readFrom 102 = .ok (.iconst 1, 1) := by decide +kernel
theorem dX7_readFrom_103 : decode cX7_readFrom 103 = .ok (.if_icmp .ne 7, 3) := by decide +kernel
theorem dX7_readFrom_106 : decode cX7_readFrom 106 = .ok (.iconst 1, 1) := by decide +kernel
theorem dX7_readFrom_107 : decode cX7_readFrom 107 = .ok (.goto 4, 3) := by decide +kernel
theorem dX7_readFrom_110 : decode cX7_readFrom 110 = .ok (.iconst 0, 1) := by decide +kernel
theorem dX7_readFrom_111 : decode cX7_readFrom 111 = .ok (.putfield 34, 3) := by decide +kernel
theorem dX7_readFrom_114 : decode cX7_readFrom 114 = .ok (.return_, 1) := by decide +kernel
theorem dX8_init_0 : decode cX8_init 0 = .ok (.aload_n 0, 1) := by decide +kernel
theorem dX8_init_1 : decode cX8_init 1 = .ok (.invokespecial 3, 3) := by decide +kernel
theorem dX8_init_4 : decode cX8_init 4 = .ok (.aload_n 0, 1) := by decide +kernel
theorem dX8_init_5 : decode cX8_init 5 = .ok (.iconst 5, 1) := by decide +kernel
theorem dX8_init_6 : decode cX8_init 6 = .ok (.newarray .int, 2) := by decide +kernel
theorem dX8_init_8 : decode cX8_init 8 = .ok (.putfield 9, 3) := by decide +kernel
theorem dX8_init_11 : decode cX8_init 11 = .ok (.aload_n 0, 1) := by decide +kernel
theorem dX8_init_12 : decode cX8_init 12 = .ok (.invokevirtual 15, 3) := by decide +kernel
theorem dX8_init_15 : decode cX8_init 15 = .ok (.return_, 1) := by decide +kernel
theorem dX8_takeDefaults_0 : decode cX8_takeDefaults 0 = .ok (.aload_n 0, 1) := by decide +kernel
theorem dX8_takeDefaults_1 : decode cX8_takeDefaults 1 = .ok (.bipush 8, 2) := by decide +kernel
theorem dX8_takeDefaults_3 : decode cX8_takeDefaults 3 = .ok (.invokevirtual 18, 3) := by decide +kernel
theorem dX8_takeDefaults_6 : decode cX8_takeDefaults 6 = .ok (.aload_n 0, 1) := by decide +kernel
theorem dX8_takeDefaults_7 : decode cX8_takeDefaults 7 = .ok (.bipush 16, 2) := by decide +kernel
theorem dX8_takeDefaults_9 : decode cX8_takeDefaults 9 = .ok (.invokevirtual 22, 3) := by decide +kernel
theorem dX8_takeDefaults_12 : decode cX8_takeDefaults 12 = .ok (.aload_n 0, 1) := by decide +kernel
theorem dX8_takeDefaults_13 : decode cX8_takeDefaults 13 = .ok (.iconst 1, 1) := by decide +kernel
theorem dX8_takeDefaults_14 : decode cX8_takeDefaults 14 = .ok (.putfield 25, 3) := by decide +kernel
theorem dX8_takeDefaults_17 : decode cX8_takeDefaults 17 = .ok (.aload_n 0, 1) := by decide +kernel
theorem dX8_takeDefaults_18 : decode cX8_takeDefaults 18 = .ok (.iconst 0, 1) := by decide +kernel
theorem dX8_takeDefaults_19 : decode cX8_takeDefaults 19 = .ok (.putfield 29, 3) := by decide +kernel
theorem dX8_takeDefaults_22 : decode cX8_takeDefaults 22 = .ok (.aload_n 0, 1) := by decide +kernel
theorem dX8_takeDefaults_23 : decode cX8_takeDefaults 23 = .ok (.iconst 2, 1) := by decide +kernel
theorem dX8_takeDefaults_24 : decode cX8_takeDefaults 24 = .ok (.iconst 0, 1) := by decide +kernel
theorem dX8_takeDefaults_25 : decode cX8_takeDefaults 25 = .ok (.invokevirtual 32, 3) := by decide +kernel
theorem dX8_takeDefaults_28 : decode cX8_takeDefaults 28 = .ok (.return_, 1) := by decide +kernel
theorem dX8_takeSize_0 : decode cX8_takeSize 0 = .ok (.aload_n 0, 1) := by decide +kernel
theorem dX8_takeSize_1 : decode cX8_takeSize 1 = .ok (.iload_n 1, 1) := by decide +kernel
theorem dX8_takeSize_2 : decode cX8_takeSize 2 = .ok (.putfield 36, 3) := by decide +kernel
theorem dX8_takeSize_5 : decode cX8_takeSize 5 = .ok (.aload_n 0, 1) := by decide +kernel
theorem dX8_takeSize_6 : decode cX8_takeSize 6 = .ok (.iconst 1, 1) := by decide +kernel
theorem dX8_takeSize_7 : decode cX8_takeSize 7 = .ok (.putfield 39, 3) := by decide +kernel
theorem dX8_takeSize_10 : decode cX8_takeSize 10 = .ok (.iconst 2, 1) := by decide +kernel
theorem dX8_takeSize_11 : decode cX8_takeSize 11 = .ok (.istore_n 2, 1) := by decide +kernel
theorem dX8_takeSize_12 : decode cX8_takeSize 12 = .ok (.iload_n 2, 1) := by decide +kernel
theorem dX8_takeSize_13 : decode cX8_takeSize 13 = .ok (.iconst 5, 1) := by decide +kernel
theorem dX8_takeSize_14 : decode cX8_takeSize 14 = .ok (.if_icmp .gt 21, 3) := by decide +kernel
theorem dX8_takeSize_17 : decode cX8_takeSize 17 = .ok (.iconst 1, 1) := by decide +kernel
theorem dX8_takeSize_18 : decode cX8_takeSize 18 = .ok (.iload_n 2, 1) := by decide +kernel
theorem dX8_takeSize_19 : decode cX8_takeSize 19 = .ok (.ishl, 1) := by decide +kernel
theorem dX8_takeSize_20 : decode cX8_takeSize 20 = .ok (.iload_n 1, 1) := by decide +kernel
theorem dX8_takeSize_21 : decode cX8_takeSize 21 = .ok (.if_icmp .ne 8, 3) := by decide +kernel
theorem dX8_takeSize_24 : decode cX8_takeSize 24 = .ok (.aload_n 0, 1) := by decide +kernel
theorem dX8_takeSize_25 : decode cX8_takeSize 25 = .ok (.iload_n 2, 1) := by decide +kernel
theorem dX8_takeSize_26 : decode cX8_takeSize 26 = .ok (.putfield 39, 3) := by decide +kernel
theorem dX8_takeSize_29 : decode cX8_takeSize 29 = .ok (.iinc 2 1, 3) := by decide +kernel
theorem dX8_takeSize_32 : decode cX8_takeSize 32 = .ok (.goto (-20), 3) := by decide +kernel
theorem dX8_takeSize_35 : decode cX8_takeSize 35 = .ok (.return_, 1) := by decide +kernel
theorem dX8_takeBits_0 : decode cX8_takeBits 0 = .ok (.aload_n 0, 1) := by decide +kernel
theorem dX8_takeBits_1 : decode cX8_takeBits 1 = .ok (.iload_n 1, 1) := by decide +kernel
theorem dX8_takeBits_2 : decode cX8_takeBits 2 = .ok (.putfield 42, 3) := by decide +kernel
theorem dX8_takeBits_5 : decode cX8_takeBits 5 = .ok (.aload_n 0, 1) := by decide +kernel
theorem dX8_takeBits_6 : decode cX8_takeBits 6 = .ok (.iconst 1, 1) := by decide +kernel
theorem dX8_takeBits_7 : decode cX8_takeBits 7 = .ok (.iload_n 1, 1) := by decide +kernel
theorem dX8_takeBits_8 : decode cX8_takeBits 8 = .ok (.iconst 1, 1) := by decide +kernel
theorem dX8_takeBits_9 : decode cX8_takeBits 9 = .ok (.isub, 1) := by decide +kernel
theorem dX8_takeBits_10 : decode cX8_takeBits 10 = .ok (.ishl, 1) := by decide +kernel
theorem dX8_takeBits_11 : decode cX8_takeBits 11 = .ok (.iconst 1, 1) := by decide +kernel
theorem dX8_takeBits_12 : decode cX8_takeBits 12 = .ok (.isub, 1) := by decide +kernel
theorem dX8_takeBits_13 : decode cX8_takeBits 13 = .ok (.putfield 45, 3) := by decide +kernel
theorem dX8_takeBits_16 : decode cX8_takeBits 16 = .ok (.return_, 1) := by decide +kernel
theorem dX8_copyFrom_0 : decode cX8_copyFrom 0 = .ok (.aload_n 0, 1) := by decide +kernel
theorem dX8_copyFrom_1 : decode cX8_copyFrom 1 = .ok (.aload_n 1, 1) := by decide +kernel
theorem dX8_copyFrom_2 : decode cX8_copyFrom 2 = .ok (.getfield 36, 3) := by decide +kernel
theorem dX8_copyFrom_5 : decode cX8_copyFrom 5 = .ok (.putfield 36, 3) := by decide +kernel
theorem dX8_copyFrom_8 : decode cX8_copyFrom 8 = .ok (.aload_n 0, 1) := by decide +kernel
theorem dX8_copyFrom_9 : decode cX8_copyFrom 9 = .ok (.aload_n 1, 1) := by decide +kernel
theorem dX8_copyFrom_10 : decode cX8_copyFrom 10 = .ok (.getfield 39, 3) := by decide +kernel
theorem dX8_copyFrom_13 : decode cX8_copyFrom 13 = .ok (.putfield 39, 3) := by decide +kernel
theorem dX8_copyFrom_16 : decode cX8_copyFrom 16 = .ok (.aload_n 0, 1) := by decide +kernel
theorem dX8_copyFrom_17 : decode cX8_copyFrom 17 = .ok (.aload_n 1, 1) := by decide +kernel
theorem dX8_copyFrom_18 : decode cX8_copyFrom 18 = .ok (.getfield 42, 3) := by decide +kernel
theorem dX8_copyFrom_21 : decode cX8_copyFrom 21 = .ok (.invokevirtual 22, 3) := by decide +kernel
theorem dX8_copyFrom_24 : decode cX8_copyFrom 24 = .ok (.aload_n 0, 1) := by decide +kernel
theorem dX8_copyFrom_25 : decode cX8_copyFrom 25 = .ok (.aload_n 1, 1) := by decide +kernel
theorem dX8_copyFrom_26 : decode cX8_copyFrom 26 = .ok (.getfield 25, 3) := by decide +kernel
theorem dX8_copyFrom_29 : decode cX8_copyFrom 29 = .ok (.putfield 25, 3) := by decide +kernel
theorem dX8_copyFrom_32 : decode cX8_copyFrom 32 = .ok (.aload_n 0, 1) := by decide +kernel
theorem dX8_copyFrom_33 : decode cX8_copyFrom 33 = .ok (.aload_n 1, 1) := by decide +kernel
theorem dX8_copyFrom_34 : decode cX8_copyFrom 34 = .ok (.getfield 29, 3) := by decide +kernel
theorem dX8_copyFrom_37 : decode cX8_copyFrom 37 = .ok (.putfield 29, 3) := by decide +kernel
theorem dX8_copyFrom_40 : decode cX8_copyFrom 40 = .ok (.aload_n 0, 1) := by decide +kernel
theorem dX8_copyFrom_41 : decode cX8_copyFrom 41 = .ok (.aload_n 1, 1) := by decide +kernel
theorem dX8_copyFrom_42 : decode cX8_copyFrom 42 = .ok (.getfield 48, 3) := by decide +kernel
theorem dX8_copyFrom_45 : decode cX8_copyFrom 45 = .ok (.aload_n 1, 1) := by decide +kernel
theorem dX8_copyFrom_46 : decode cX8_copyFrom 46 = .ok (.getfield 51, 3) := by decide +kernel
theorem dX8_copyFrom_49 : decode cX8_copyFrom 49 = .ok (.invokevirtual 32, 3) := by decide +kernel
theorem dX8_copyFrom_52 : decode cX8_copyFrom 52 = .ok (.return_, 1) := by decide +kernel
theorem dX8_takeShape_0 : decode cX8_takeShape 0 = .ok (.aload_n 0, 1) := by decide +kernel
theorem dX8_takeShape_1 : decode cX8_takeShape 1 = .ok (.iload_n 1, 1) := by decide +kernel
theorem dX8_takeShape_2 : decode cX8_takeShape 2 = .ok (.putfield 48, 3) := by decide +kernel
theorem dX8_takeShape_5 : decode cX8_takeShape 5 = .ok (.aload_n 0, 1) := by decide +kernel
theorem dX8_takeShape_6 : decode cX8_takeShape 6 = .ok (.iload_n 2, 1) := by decide +kernel
theorem dX8_takeShape_7 : decode cX8_takeShape 7 = .ok (.putfield 51, 3) := by decide +kernel
theorem dX8_takeShape_10 : decode cX8_takeShape 10 = .ok (.aload_n 0, 1) := by decide +kernel
theorem dX8_takeShape_11 : decode cX8_takeShape 11 = .ok (.getfield 48, 3) := by decide +kernel
theorem dX8_takeShape_14 : decode cX8_takeShape 14 = .ok (.iconst 4, 1) := by decide +kernel
theorem dX8_takeShape_15 : decode cX8_takeShape 15 = .ok (.if_icmp .ne 17, 3) := by decide +kernel
theorem dX8_takeShape_18 : decode cX8_takeShape 18 = .ok (.aload_n 0, 1) := by decide +kernel
theorem dX8_takeShape_19 : decode cX8_takeShape 19 = .ok (.getfield 39, 3) := by decide +kernel
theorem dX8_takeShape_22 : decode cX8_takeShape 22 = .ok (.iconst 1, 1) := by decide +kernel
theorem dX8_takeShape_23 : decode cX8_takeShape 23 = .ok (.iand, 1) := by decide +kernel
theorem dX8_takeShape_24 : decode cX8_takeShape 24 = .ok (.iconst 1, 1) := by decide +kernel
theorem dX8_takeShape_25 : decode cX8_takeShape 25 = .ok (.if_icmp .ne 7, 3) := by decide +kernel
theorem dX8_takeShape_28 : decode cX8_takeShape 28 = .ok (.iconst 1, 1) := by decide +kernel
theorem dX8_takeShape_29 : decode cX8_takeShape 29 = .ok (.goto 4, 3) := by decide +kernel
theorem dX8_takeShape_32 : decode cX8_takeShape 32 = .ok (.iconst 0, 1) := by decide +kernel
theorem dX8_takeShape_33 : decode cX8_takeShape 33 = .ok (.istore_n 3, 1) := by decide +kernel
theorem dX8_takeShape_34 : decode cX8_takeShape 34 = .ok (.aload_n 0, 1) := by decide +kernel
theorem dX8_takeShape_35 : decode cX8_takeShape 35 = .ok (.getfield 48, 3) := by decide +kernel
theorem dX8_takeShape_38 : decode cX8_takeShape 38 = .ok (.iconst 4, 1) := by decide +kernel
theorem dX8_takeShape_39 : decode cX8_takeShape 39 = .ok (.if_icmp .ne 12, 3) := by decide +kernel
theorem dX8_takeShape_42 : decode cX8_takeShape 42 = .ok (.aload_n 0, 1) := by decide +kernel
theorem dX8_takeShape_43 : decode cX8_takeShape 43 = .ok (.getfield 39, 3) := by decide +kernel
theorem dX8_takeShape_46 : decode cX8_takeShape 46 = .ok (.iconst 1, 1) := by decide +kernel
theorem dX8_takeShape_47 : decode cX8_takeShape 47 = .ok (.ishr, 1) := by decide +kernel
theorem dX8_takeShape_48 : decode cX8_takeShape 48 = .ok (.goto 7, 3) := by decide +kernel
theorem dX8_takeShape_51 : decode cX8_takeShape 51 = .ok (.aload_n 0, 1) := by decide +kernel
theorem dX8_takeShape_52 : decode cX8_takeShape 52 = .ok (.getfield 39, 3) := by decide +kernel
theorem dX8_takeShape_55 : decode cX8_takeShape 55 = .ok (.istore 4, 2) := by decide +kernel
theorem dX8_takeShape_57 : decode cX8_takeShape 57 = .ok (.aload_n 0, 1) := by decide +kernel
theorem dX8_takeShape_58 : decode cX8_takeShape 58 = .ok (.iconst 0, 1) := by decide +kernel
theorem dX8_takeShape_59 : decode cX8_takeShape 59 = .ok (.putfield 54, 3) := by decide +kernel
theorem dX8_takeShape_62 : decode cX8_takeShape 62 = .ok (.iload_n 3, 1) := by decide +kernel
theorem dX8_takeShape_63 : decode cX8_takeShape 63 = .ok (.ifCond .eq 15, 3) := by decide +kernel
theorem dX8_takeShape_66 : decode cX8_takeShape 66 = .ok (.aload_n 0, 1) := by decide +kernel
theorem dX8_takeShape_67 : decode cX8_takeShape 67 = .ok (.getfield 51, 3) := by decide +kernel
theorem dX8_takeShape_70 : decode cX8_takeShape 70 = .ok (.ifCond .ne 8, 3) := by decide +kernel
theorem dX8_takeShape_73 : decode cX8_takeShape 73 = .ok (.aload_n 0, 1) := by decide +kernel
theorem dX8_takeShape_74 : decode cX8_takeShape 74 = .ok (.iconst 1, 1) := by decide +kernel
theorem dX8_takeShape_75 : decode cX8_takeShape 75 = .ok (.invokevirtual 57, 3) := by decide +kernel
theorem dX8_takeShape_78 : decode cX8_takeShape 78 = .ok (.iconst 0, 1) := by decide +kernel
theorem dX8_takeShape_79 : decode cX8_takeShape 79 = .ok (.istore 5, 2) := by decide +kernel
theorem dX8_takeShape_81 : decode cX8_takeShape 81 = .ok (.iload 5, 2) := by decide +kernel
theorem dX8_takeShape_83 : decode cX8_takeShape 83 = .ok (.iload 4, 2) := by decide +kernel
theorem dX8_takeShape_85 : decode cX8_takeShape 85 = .ok (.if_icmp .ge 26, 3) := by decide +kernel
theorem dX8_takeShape_88 : decode cX8_takeShape 88 = .ok (.aload_n 0, 1) := by decide +kernel
theorem dX8_takeShape_89 : decode cX8_takeShape 89 = .ok (.aload_n 0, 1) := by decide +kernel
theorem dX8_takeShape_90 : decode cX8_takeShape 90 = .ok (.getfield 48, 3) := by decide +kernel
theorem dX8_takeShape_93 : decode cX8_takeShape 93 = .ok (.iconst 4, 1) := by decide +kernel
theorem dX8_takeShape_94 : decode cX8_takeShape 94 = .ok (.if_icmp .ne 7, 3) := by decide +kernel
theorem dX8_takeShape_97 : decode cX8_takeShape 97 = .ok (.iconst 2, 1) := by decide +kernel
theorem dX8_takeShape_98 : decode cX8_takeShape 98 = .ok (.goto 4, 3) := by decide +kernel
theorem dX8_takeShape_101 : decode cX8_takeShape 101 = .ok (.iconst 1, 1) := by decide +kernel
theorem dX8_takeShape_102 : decode cX8_takeShape 102 = .ok (.invokevirtual 57, 3) := by decide +kernel
theorem dX8_takeShape_105 : decode cX8_takeShape 105 = .ok (.iinc 5 1, 3) := by decide +kernel
theorem dX8_takeShape_108 : decode cX8_takeShape 108 = .ok (.goto (-27), 3) := by decide +kernel
theorem dX8_takeShape_111 : decode cX8_takeShape 111 = .ok (.iload_n 3, 1) := by decide +kernel
theorem dX8_takeShape_112 : decode cX8_takeShape 112 = .ok (.ifCond .eq 15, 3) := by decide +kernel
theorem dX8_takeShape_115 : decode cX8_takeShape 115 = .ok (.aload_n 0, 1) := by decide +kernel
theorem dX8_takeShape_116 : decode cX8_takeShape 116 = .ok (.getfield 51, 3) := by decide +kernel
theorem dX8_takeShape_119 : decode cX8_takeShape 119 = .ok (.ifCond .eq 8, 3) := by decide +kernel
theorem dX8_takeShape_122 : decode cX8_takeShape 122 = .ok (.aload_n 0, 1) := by decide +kernel
theorem dX8_takeShape_123 : decode cX8_takeShape 123 = .ok (.iconst 1, 1) := by decide +kernel
theorem dX8_takeShape_124 : decode cX8_takeShape 124 = .ok (.invokevirtual 57, 3) := by decide +kernel
theorem dX8_takeShape_127 : decode cX8_takeShape 127 = .ok (.return_, 1) := by decide +kernel
theorem dX8_addStage_0 : decode cX8_addStage 0 = .ok (.aload_n 0, 1) := by decide +kernel
theorem dX8_addStage_1 : decode cX8_addStage 1 = .ok (.getfield 54, 3) := by decide +kernel
theorem dX8_addStage_4 : decode cX8_addStage 4 = .ok (.iconst 5, 1) := by decide +kernel
theorem dX8_addStage_5 : decode cX8_addStage 5 = .ok (.if_icmp .ge 23, 3) := by decide +kernel
theorem dX8_addStage_8 : decode cX8_addStage 8 = .ok (.aload_n 0, 1) := by decide +kernel
theorem dX8_addStage_9 : decode cX8_addStage 9 = .ok (.getfield 9, 3) := by decide +kernel
theorem dX8_addStage_12 : decode cX8_addStage 12 = .ok (.aload_n 0, 1) := by decide +kernel
theorem dX8_addStage_13 : decode cX8_addStage 13 = .ok (.getfield 54, 3) := by decide +kernel
theorem dX8_addStage_16 : decode cX8_addStage 16 = .ok (.iload_n 1, 1) := by decide +kernel
theorem dX8_addStage_17 : decode cX8_addStage 17 = .ok (.iastore, 1) := by decide +kernel
theorem dX8_addStage_18 : decode cX8_addStage 18 = .ok (.aload_n 0, 1) := by decide +kernel
theorem dX8_addStage_19 : decode cX8_addStage 19 = .ok (.dup, 1) := by decide +kernel
theorem dX8_addStage_20 : decode cX8_addStage 20 = .ok (.getfield 54, 3) := by decide +kernel
theorem dX8_addStage_23 : decode cX8_addStage 23 = .ok (.iconst 1, 1) := by decide +kernel
theorem dX8_addStage_24 : decode cX8_addStage 24 = .ok (.iadd, 1) := by decide +kernel
theorem dX8_addStage_25 : decode cX8_addStage 25 = .ok (.putfield 54, 3) := by decide +kernel
theorem dX8_addStage_28 : decode cX8_addStage 28 = .ok (.return_, 1) := by decide +kernel
theorem dX8_reversedPlace_0 : decode cX8_reversedPlace 0 = .ok (.iload_n 1, 1) := by decide +kernel
theorem dX8_reversedPlace_1 : decode cX8_reversedPlace 1 = .ok (.istore_n 2, 1) := by decide +kernel
theorem dX8_reversedPlace_2 : decode cX8_reversedPlace 2 = .ok (.iconst 0, 1) := by decide +kernel
theorem dX8_reversedPlace_3 : decode cX8_reversedPlace 3 = .ok (.istore_n 3, 1) := by decide +kernel
theorem dX8_reversedPlace_4 : decode cX8_reversedPlace 4 = .ok (.aload_n 0, 1) := by decide +kernel
theorem dX8_reversedPlace_5 : decode cX8_reversedPlace 5 = .ok (.getfield 54, 3) := by decide +kernel
theorem dX8_reversedPlace_8 : decode cX8_reversedPlace 8 = .ok (.iconst 1, 1) := by decide +kernel
theorem dX8_reversedPlace_9 : decode cX8_reversedPlace 9 = .ok (.isub, 1) := by decide +kernel
theorem dX8_reversedPlace_10 : decode cX8_reversedPlace 10 = .ok (.istore 4, 2) := by decide +kernel
theorem dX8_reversedPlace_12 : decode cX8_reversedPlace 12 = .ok (.iload 4, 2) := by decide +kernel
theorem dX8_reversedPlace_14 : decode cX8_reversedPlace 14 = .ok (.ifCond .lt 37, 3) := by decide +kernel
theorem dX8_reversedPlace_17 : decode cX8_reversedPlace 17 = .ok (.aload_n 0, 1) := by decide +kernel
theorem dX8_reversedPlace_18 : decode cX8_reversedPlace 18 = .ok (.getfield 9, 3) := by decide +kernel
theorem dX8_reversedPlace_21 : decode cX8_reversedPlace 21 = .ok (.iload 4, 2) := by decide +kernel
theorem dX8_reversedPlace_23 : decode cX8_reversedPlace 23 = .ok (.iaload, 1) := by decide +kernel
theorem dX8_reversedPlace_24 : decode cX8_reversedPlace 24 = .ok (.istore 5, 2) := by decide +kernel
theorem dX8_reversedPlace_26 : decode cX8_reversedPlace 26 = .ok (.iload_n 3, 1) := by decide +kernel
theorem dX8_reversedPlace_27 : decode cX8_reversedPlace 27 = .ok (.iload 5, 2) := by decide +kernel
theorem dX8_reversedPlace_29 : decode cX8_reversedPlace 29 = .ok (.ishl, 1) := by decide +kernel
theorem dX8_reversedPlace_30 : decode cX8_reversedPlace 30 = .ok (.iload_n 2, 1) := by decide +kernel
theorem dX8_reversedPlace_31 : decode cX8_reversedPlace 31 = .ok (.iconst 1, 1) := by decide +kernel
theorem dX8_reversedPlace_32 : decode cX8_reversedPlace 32 = .ok (.iload 5, 2) := by decide +kernel
theorem dX8_reversedPlace_34 : decode cX8_reversedPlace 34 = .ok (.ishl, 1) := by decide +kernel
theorem dX8_reversedPlace_35 : decode cX8_reversedPlace 35 = .ok (.iconst 1, 1) := by decide +kernel
theorem dX8_reversedPlace_36 : decode cX8_reversedPlace 36 = .ok (.isub, 1) := by decide +kernel
theorem dX8_reversedPlace_37 : decode cX8_reversedPlace 37 = .ok (.iand, 1) := by decide +kernel
theorem dX8_reversedPlace_38 : decode cX8_reversedPlace 38 = .ok (.ior, 1) := by decide +kernel
theorem dX8_reversedPlace_39 : decode cX8_reversedPlace 39 = .ok (.istore_n 3, 1) := by decide +kernel
theorem dX8_reversedPlace_40 : decode cX8_reversedPlace 40 = .ok (.iload_n 2, 1) := by decide +kernel
theorem dX8_reversedPlace_41 : decode cX8_reversedPlace 41 = .ok (.iload 5, 2) := by decide +kernel
theorem dX8_reversedPlace_43 : decode cX8_reversedPlace 43 = .ok (.ishr, 1) := by decide +kernel
theorem dX8_reversedPlace_44 : decode cX8_reversedPlace 44 = .ok (.istore_n 2, 1) := by decide +kernel
theorem dX8_reversedPlace_45 : decode cX8_reversedPlace 45 = .ok (.iinc 4 (-1), 3) := by decide +kernel
theorem dX8_reversedPlace_48 : decode cX8_reversedPlace 48 = .ok (.goto (-36), 3) := by decide +kernel
theorem dX8_reversedPlace_51 : decode cX8_reversedPlace 51 = .ok (.iload_n 3, 1) := by decide +kernel
theorem dX8_reversedPlace_52 : decode cX8_reversedPlace 52 = .ok (.ireturn, 1) := by decide +kernel
theorem dX8_digitOf_0 : decode cX8_digitOf 0 = .ok (.iload_n 1, 1) := by decide +kernel
theorem dX8_digitOf_1 : decode cX8_digitOf 1 = .ok (.istore_n 3, 1) := by decide +kernel
theorem dX8_digitOf_2 : decode cX8_digitOf 2 = .ok (.aload_n 0, 1) := by decide +kernel
theorem dX8_digitOf_3 : decode cX8_digitOf 3 = .ok (.getfield 54, 3) := by decide +kernel
theorem dX8_digitOf_6 : decode cX8_digitOf 6 = .ok (.iconst 1, 1) := by decide +kernel
theorem dX8_digitOf_7 : decode cX8_digitOf 7 = .ok (.isub, 1) := by decide +kernel
theorem dX8_digitOf_8 : decode cX8_digitOf 8 = .ok (.istore 4, 2) := by decide +kernel
theorem dX8_digitOf_10 : decode cX8_digitOf 10 = .ok (.iload 4, 2) := by decide +kernel
theorem dX8_digitOf_12 : decode cX8_digitOf 12 = .ok (.aload_n 0, 1) := by decide +kernel
theorem dX8_digitOf_13 : decode cX8_digitOf 13 = .ok (.getfield 54, 3) := by decide +kernel
theorem dX8_digitOf_16 : decode cX8_digitOf 16 = .ok (.iconst 1, 1) := by decide +kernel
theorem dX8_digitOf_17 : decode cX8_digitOf 17 = .ok (.isub, 1) := by decide +kernel
theorem dX8_digitOf_18 : decode cX8_digitOf 18 = .ok (.iload_n 2, 1) := by decide +kernel
theorem dX8_digitOf_19 : decode cX8_digitOf 19 = .ok (.isub, 1) := by decide +kernel
theorem dX8_digitOf_20 : decode cX8_digitOf 20 = .ok (.if_icmp .le 19, 3) := by decide +kernel
theorem dX8_digitOf_23 : decode cX8_digitOf 23 = .ok (.iload_n 3, 1) := by decide +kernel
theorem dX8_digitOf_24 : decode cX8_digitOf 24 = .ok (.aload_n 0, 1) := by decide +kernel
theorem dX8_digitOf_25 : decode cX8_digitOf 25 = .ok (.getfield 9, 3) := by decide +kernel
theorem dX8_digitOf_28 : decode cX8_digitOf 28 = .ok (.iload 4, 2) := by decide +kernel
theorem dX8_digitOf_30 : decode cX8_digitOf 30 = .ok (.iaload, 1) := by decide +kernel
theorem dX8_digitOf_31 : decode cX8_digitOf 31 = .ok (.ishr, 1) := by decide +kernel
theorem dX8_digitOf_32 : decode cX8_digitOf 32 = .ok (.istore_n 3, 1) := by decide +kernel
theorem dX8_digitOf_33 : decode cX8_digitOf 33 = .ok (.iinc 4 (-1), 3) := by decide +kernel
theorem dX8_digitOf_36 : decode cX8_digitOf 36 = .ok (.goto (-26), 3) := by decide +kernel
theorem dX8_digitOf_39 : decode cX8_digitOf 39 = .ok (.iload_n 3, 1) := by decide +kernel
theorem dX8_digitOf_40 : decode cX8_digitOf 40 = .ok (.iconst 1, 1) := by decide +kernel
theorem dX8_digitOf_41 : decode cX8_digitOf 41 = .ok (.aload_n 0, 1) := by decide +kernel
theorem dX8_digitOf_42 : decode cX8_digitOf 42 = .ok (.getfield 9, 3) := by decide +kernel
theorem dX8_digitOf_45 : decode cX8_digitOf 45 = .ok (.aload_n 0, 1) := by decide +kernel
theorem dX8_digitOf_46 : decode cX8_digitOf 46 = .ok (.getfield 54, 3) := by decide +kernel
theorem dX8_digitOf_49 : decode cX8_digitOf 49 = .ok (.iconst 1, 1) := by decide +kernel
theorem dX8_digitOf_50 : decode cX8_digitOf 50 = .ok (.isub, 1) := by decide +kernel
theorem dX8_digitOf_51 : decode cX8_digitOf 51 = .ok (.iload_n 2, 1) := by decide +kernel
theorem dX8_digitOf_52 : decode cX8_digitOf 52 = .ok (.isub, 1) := by decide +kernel
theorem dX8_digitOf_53 : decode cX8_digitOf 53 = .ok (.iaload, 1) := by decide +kernel
theorem dX8_digitOf_54 : decode cX8_digitOf 54 = .ok (.ishl, 1) := by decide +kernel
theorem dX8_digitOf_55 : decode cX8_digitOf 55 = .ok (.iconst 1, 1) := by decide +kernel
theorem dX8_digitOf_56 : decode cX8_digitOf 56 = .ok (.isub, 1) := by decide +kernel
theorem dX8_digitOf_57 : decode cX8_digitOf 57 = .ok (.iand, 1) := by decide +kernel
theorem dX8_digitOf_58 : decode cX8_digitOf 58 = .ok (.ireturn, 1) := by decide +kernel
theorem dX8_addedBeforeCut_0 : decode cX8_addedBeforeCut 0 = .ok (.aload_n 0, 1) := by decide +kernel
theorem dX8_addedBeforeCut_1 : decode cX8_addedBeforeCut 1 = .ok (.getfield 25, 3) := by decide +kernel
theorem dX8_addedBeforeCut_4 : decode cX8_addedBeforeCut 4 = .ok (.iconst 1, 1) := by decide +kernel
theorem dX8_addedBeforeCut_5 : decode cX8_addedBeforeCut 5 = .ok (.if_icmp .ne 9, 3) := by decide +kernel
theorem dX8_addedBeforeCut_8 : decode cX8_addedBeforeCut 8 = .ok (.sipush 8192, 3) := by decide +kernel
theorem dX8_addedBeforeCut_11 : decode cX8_addedBeforeCut 11 = .ok (.goto 4, 3) := by decide +kernel
theorem dX8_addedBeforeCut_14 : decode cX8_addedBeforeCut 14 = .ok (.iconst 0, 1) := by decide +kernel
theorem dX8_addedBeforeCut_15 : decode cX8_addedBeforeCut 15 = .ok (.ireturn, 1) := by decide +kernel
theorem dX8_growOf_0 : decode cX8_growOf 0 = .ok (.aload_n 0, 1) := by decide +kernel
theorem dX8_growOf_1 : decode cX8_growOf 1 = .ok (.getfield 9, 3) := by decide +kernel
theorem dX8_growOf_4 : decode cX8_growOf 4 = .ok (.iload_n 1, 1) := by decide +kernel
theorem dX8_growOf_5 : decode cX8_growOf 5 = .ok (.iaload, 1) := by decide +kernel
theorem dX8_growOf_6 : decode cX8_growOf 6 = .ok (.iconst 2, 1) := by decide +kernel
theorem dX8_growOf_7 : decode cX8_growOf 7 = .ok (.if_icmp .ne 6, 3) := by decide +kernel
theorem dX8_growOf_10 : decode cX8_growOf 10 = .ok (.bipush 12, 2) := by decide +kernel
theorem dX8_growOf_12 : decode cX8_growOf 12 = .ok (.ireturn, 1) := by decide +kernel
theorem dX8_growOf_13 : decode cX8_growOf 13 = .ok (.aload_n 0, 1) := by decide +kernel
theorem dX8_growOf_14 : decode cX8_growOf 14 = .ok (.getfield 51, 3) := by decide +kernel
theorem dX8_growOf_17 : decode cX8_growOf 17 = .ok (.ifCond .ne 7, 3) := by decide +kernel
theorem dX8_growOf_20 : decode cX8_growOf 20 = .ok (.iconst 5, 1) := by decide +kernel
theorem dX8_growOf_21 : decode cX8_growOf 21 = .ok (.goto 5, 3) := by decide +kernel
theorem dX8_growOf_24 : decode cX8_growOf 24 = .ok (.bipush 6, 2) := by decide +kernel
theorem dX8_growOf_26 : decode cX8_growOf 26 = .ok (.ireturn, 1) := by decide +kernel
