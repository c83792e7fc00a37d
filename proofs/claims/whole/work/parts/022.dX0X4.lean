theorem dX0_init_0 : decode cX0_init 0 = .ok (.aload_n 0, 1) := by decide +kernel
theorem dX0_init_1 : decode cX0_init 1 = .ok (.invokespecial 3, 3) := by decide +kernel
theorem dX0_init_4 : decode cX0_init 4 = .ok (.aload_n 0, 1) := by decide +kernel
theorem dX0_init_5 : decode cX0_init 5 = .ok (.bipush 32, 2) := by decide +kernel
theorem dX0_init_7 : decode cX0_init 7 = .ok (.newarray .int, 2) := by decide +kernel
theorem dX0_init_9 : decode cX0_init 9 = .ok (.putfield 9, 3) := by decide +kernel
theorem dX0_init_12 : decode cX0_init 12 = .ok (.aload_n 0, 1) := by decide +kernel
theorem dX0_init_13 : decode cX0_init 13 = .ok (.bipush 32, 2) := by decide +kernel
theorem dX0_init_15 : decode cX0_init 15 = .ok (.newarray .int, 2) := by decide +kernel
theorem dX0_init_17 : decode cX0_init 17 = .ok (.putfield 15, 3) := by decide +kernel
theorem dX0_init_20 : decode cX0_init 20 = .ok (.aload_n 0, 1) := by decide +kernel
theorem dX0_init_21 : decode cX0_init 21 = .ok (.iconst 4, 1) := by decide +kernel
theorem dX0_init_22 : decode cX0_init 22 = .ok (.newarray .int, 2) := by decide +kernel
theorem dX0_init_24 : decode cX0_init 24 = .ok (.putfield 18, 3) := by decide +kernel
theorem dX0_init_27 : decode cX0_init 27 = .ok (.aload_n 0, 1) := by decide +kernel
theorem dX0_init_28 : decode cX0_init 28 = .ok (.iconst 4, 1) := by decide +kernel
theorem dX0_init_29 : decode cX0_init 29 = .ok (.newarray .int, 2) := by decide +kernel
theorem dX0_init_31 : decode cX0_init 31 = .ok (.putfield 21, 3) := by decide +kernel
theorem dX0_init_34 : decode cX0_init 34 = .ok (.aload_n 0, 1) := by decide +kernel
theorem dX0_init_35 : decode cX0_init 35 = .ok (.aload_n 1, 1) := by decide +kernel
theorem dX0_init_36 : decode cX0_init 36 = .ok (.putfield 24, 3) := by decide +kernel
theorem dX0_init_39 : decode cX0_init 39 = .ok (.return_, 1) := by decide +kernel
theorem dX0_doStages_0 : decode cX0_doStages 0 = .ok (.iconst 0, 1) := by decide +kernel
theorem dX0_doStages_1 : decode cX0_doStages 1 = .ok (.istore 5, 2) := by decide +kernel
theorem dX0_doStages_3 : decode cX0_doStages 3 = .ok (.iconst 0, 1) := by decide +kernel
theorem dX0_doStages_4 : decode cX0_doStages 4 = .ok (.istore 6, 2) := by decide +kernel
theorem dX0_doStages_6 : decode cX0_doStages 6 = .ok (.iload 6, 2) := by decide +kernel
theorem dX0_doStages_8 : decode cX0_doStages 8 = .ok (.iload_n 3, 1) := by decide +kernel
theorem dX0_doStages_9 : decode cX0_doStages 9 = .ok (.if_icmp .ge 33, 3) := by decide +kernel
theorem dX0_doStages_12 : decode cX0_doStages 12 = .ok (.aload_n 1, 1) := by decide +kernel
theorem dX0_doStages_13 : decode cX0_doStages 13 = .ok (.getfield 28, 3) := by decide +kernel
theorem dX0_doStages_16 : decode cX0_doStages 16 = .ok (.aload_n 2, 1) := by decide +kernel
theorem dX0_doStages_17 : decode cX0_doStages 17 = .ok (.getfield 34, 3) := by decide +kernel
theorem dX0_doStages_20 : decode cX0_doStages 20 = .ok (.if_icmp .ge 22, 3) := by decide +kernel
theorem dX0_doStages_23 : decode cX0_doStages 23 = .ok (.iload 5, 2) := by decide +kernel
theorem dX0_doStages_25 : decode cX0_doStages 25 = .ok (.aload_n 0, 1) := by decide +kernel
theorem dX0_doStages_26 : decode cX0_doStages 26 = .ok (.aload_n 1, 1) := by decide +kernel
theorem dX0_doStages_27 : decode cX0_doStages 27 = .ok (.aload_n 2, 1) := by decide +kernel
theorem dX0_doStages_28 : decode cX0_doStages 28 = .ok (.iload 4, 2) := by decide +kernel
theorem dX0_doStages_30 : decode cX0_doStages 30 = .ok (.invokevirtual 39, 3) := by decide +kernel
theorem dX0_doStages_33 : decode cX0_doStages 33 = .ok (.iadd, 1) := by decide +kernel
theorem dX0_doStages_34 : decode cX0_doStages 34 = .ok (.istore 5, 2) := by decide +kernel
theorem dX0_doStages_36 : decode cX0_doStages 36 = .ok (.iinc 6 1, 3) := by decide +kernel
theorem dX0_doStages_39 : decode cX0_doStages 39 = .ok (.goto (-33), 3) := by decide +kernel
theorem dX0_doStages_42 : decode cX0_doStages 42 = .ok (.iload 5, 2) := by decide +kernel
theorem dX0_doStages_44 : decode cX0_doStages 44 = .ok (.ireturn, 1) := by decide +kernel
theorem dX0_doStage_0 : decode cX0_doStage 0 = .ok (.aload_n 1, 1) := by decide +kernel
theorem dX0_doStage_1 : decode cX0_doStage 1 = .ok (.getfield 28, 3) := by decide +kernel
theorem dX0_doStage_4 : decode cX0_doStage 4 = .ok (.istore 4, 2) := by decide +kernel
theorem dX0_doStage_6 : decode cX0_doStage 6 = .ok (.iload 4, 2) := by decide +kernel
theorem dX0_doStage_8 : decode cX0_doStage 8 = .ok (.aload_n 2, 1) := by decide +kernel
theorem dX0_doStage_9 : decode cX0_doStage 9 = .ok (.getfield 34, 3) := by decide +kernel
theorem dX0_doStage_12 : decode cX0_doStage 12 = .ok (.iconst 1, 1) := by decide +kernel
theorem dX0_doStage_13 : decode cX0_doStage 13 = .ok (.isub, 1) := by decide +kernel
theorem dX0_doStage_14 : decode cX0_doStage 14 = .ok (.if_icmp .ne 7, 3) := by decide +kernel
theorem dX0_doStage_17 : decode cX0_doStage 17 = .ok (.iconst 1, 1) := by decide +kernel
theorem dX0_doStage_18 : decode cX0_doStage 18 = .ok (.goto 4, 3) := by decide +kernel
theorem dX0_doStage_21 : decode cX0_doStage 21 = .ok (.iconst 0, 1) := by decide +kernel
theorem dX0_doStage_22 : decode cX0_doStage 22 = .ok (.istore 5, 2) := by decide +kernel
theorem dX0_doStage_24 : decode cX0_doStage 24 = .ok (.aload_n 2, 1) := by decide +kernel
theorem dX0_doStage_25 : decode cX0_doStage 25 = .ok (.getfield 43, 3) := by decide +kernel
theorem dX0_doStage_28 : decode cX0_doStage 28 = .ok (.ifCond .ne 14, 3) := by decide +kernel
theorem dX0_doStage_31 : decode cX0_doStage 31 = .ok (.iload 4, 2) := by decide +kernel
theorem dX0_doStage_33 : decode cX0_doStage 33 = .ok (.ifCond .ne 9, 3) := by decide +kernel
theorem dX0_doStage_36 : decode cX0_doStage 36 = .ok (.aload_n 0, 1) := by decide +kernel
theorem dX0_doStage_37 : decode cX0_doStage 37 = .ok (.aload_n 1, 1) := by decide +kernel
theorem dX0_doStage_38 : decode cX0_doStage 38 = .ok (.aload_n 2, 1) := by decide +kernel
theorem dX0_doStage_39 : decode cX0_doStage 39 = .ok (.invokevirtual 46, 3) := by decide +kernel
theorem dX0_doStage_42 : decode cX0_doStage 42 = .ok (.iload_n 3, 1) := by decide +kernel
theorem dX0_doStage_43 : decode cX0_doStage 43 = .ok (.ifCond .eq 18, 3) := by decide +kernel
theorem dX0_doStage_46 : decode cX0_doStage 46 = .ok (.aload_n 0, 1) := by decide +kernel
theorem dX0_doStage_47 : decode cX0_doStage 47 = .ok (.aload_n 1, 1) := by decide +kernel
theorem dX0_doStage_48 : decode cX0_doStage 48 = .ok (.aload_n 2, 1) := by decide +kernel
theorem dX0_doStage_49 : decode cX0_doStage 49 = .ok (.aload_n 2, 1) := by decide +kernel
theorem dX0_doStage_50 : decode cX0_doStage 50 = .ok (.iload 4, 2) := by decide +kernel
theorem dX0_doStage_52 : decode cX0_doStage 52 = .ok (.invokevirtual 50, 3) := by decide +kernel
theorem dX0_doStage_55 : decode cX0_doStage 55 = .ok (.invokevirtual 54, 3) := by decide +kernel
theorem dX0_doStage_58 : decode cX0_doStage 58 = .ok (.goto 4, 3) := by decide +kernel
theorem dX0_doStage_61 : decode cX0_doStage 61 = .ok (.iconst 0, 1) := by decide +kernel
theorem dX0_doStage_62 : decode cX0_doStage 62 = .ok (.istore 6, 2) := by decide +kernel
theorem dX0_doStage_64 : decode cX0_doStage 64 = .ok (.aload_n 0, 1) := by decide +kernel
theorem dX0_doStage_65 : decode cX0_doStage 65 = .ok (.aload_n 1, 1) := by decide +kernel
theorem dX0_doStage_66 : decode cX0_doStage 66 = .ok (.aload_n 2, 1) := by decide +kernel
theorem dX0_doStage_67 : decode cX0_doStage 67 = .ok (.iload 4, 2) := by decide +kernel
theorem dX0_doStage_69 : decode cX0_doStage 69 = .ok (.invokevirtual 58, 3) := by decide +kernel
theorem dX0_doStage_72 : decode cX0_doStage 72 = .ok (.aload_n 2, 1) := by decide +kernel
theorem dX0_doStage_73 : decode cX0_doStage 73 = .ok (.getfield 43, 3) := by decide +kernel
theorem dX0_doStage_76 : decode cX0_doStage 76 = .ok (.ifCond .eq 14, 3) := by decide +kernel
theorem dX0_doStage_79 : decode cX0_doStage 79 = .ok (.iload 5, 2) := by decide +kernel
theorem dX0_doStage_81 : decode cX0_doStage 81 = .ok (.ifCond .eq 9, 3) := by decide +kernel
theorem dX0_doStage_84 : decode cX0_doStage 84 = .ok (.aload_n 0, 1) := by decide +kernel
theorem dX0_doStage_85 : decode cX0_doStage 85 = .ok (.aload_n 1, 1) := by decide +kernel
theorem dX0_doStage_86 : decode cX0_doStage 86 = .ok (.aload_n 2, 1) := by decide +kernel
theorem dX0_doStage_87 : decode cX0_doStage 87 = .ok (.invokevirtual 46, 3) := by decide +kernel
theorem dX0_doStage_90 : decode cX0_doStage 90 = .ok (.aload_n 1, 1) := by decide +kernel
theorem dX0_doStage_91 : decode cX0_doStage 91 = .ok (.getfield 62, 3) := by decide +kernel
theorem dX0_doStage_94 : decode cX0_doStage 94 = .ok (.iload 4, 2) := by decide +kernel
theorem dX0_doStage_96 : decode cX0_doStage 96 = .ok (.iload 6, 2) := by decide +kernel
theorem dX0_doStage_98 : decode cX0_doStage 98 = .ok (.iastore, 1) := by decide +kernel
theorem dX0_doStage_99 : decode cX0_doStage 99 = .ok (.aload_n 1, 1) := by decide +kernel
theorem dX0_doStage_100 : decode cX0_doStage 100 = .ok (.dup, 1) := by decide +kernel
theorem dX0_doStage_101 : decode cX0_doStage 101 = .ok (.getfield 65, 3) := by decide +kernel
theorem dX0_doStage_104 : decode cX0_doStage 104 = .ok (.iload 6, 2) := by decide +kernel
theorem dX0_doStage_106 : decode cX0_doStage 106 = .ok (.iadd, 1) := by decide +kernel
theorem dX0_doStage_107 : decode cX0_doStage 107 = .ok (.putfield 65, 3) := by decide +kernel
theorem dX0_doStage_110 : decode cX0_doStage 110 = .ok (.aload_n 1, 1) := by decide +kernel
theorem dX0_doStage_111 : decode cX0_doStage 111 = .ok (.dup, 1) := by decide +kernel
theorem dX0_doStage_112 : decode cX0_doStage 112 = .ok (.getfield 28, 3) := by decide +kernel
theorem dX0_doStage_115 : decode cX0_doStage 115 = .ok (.iconst 1, 1) := by decide +kernel
theorem dX0_doStage_116 : decode cX0_doStage 116 = .ok (.iadd, 1) := by decide +kernel
theorem dX0_doStage_117 : decode cX0_doStage 117 = .ok (.putfield 28, 3) := by decide +kernel
theorem dX0_doStage_120 : decode cX0_doStage 120 = .ok (.aload_n 1, 1) := by decide +kernel
theorem dX0_doStage_121 : decode cX0_doStage 121 = .ok (.getfield 68, 3) := by decide +kernel
theorem dX0_doStage_124 : decode cX0_doStage 124 = .ok (.ifCond .eq 29, 3) := by decide +kernel
theorem dX0_doStage_127 : decode cX0_doStage 127 = .ok (.iload 5, 2) := by decide +kernel
theorem dX0_doStage_129 : decode cX0_doStage 129 = .ok (.ifCond .eq 24, 3) := by decide +kernel
theorem dX0_doStage_132 : decode cX0_doStage 132 = .ok (.aload_n 1, 1) := by decide +kernel
theorem dX0_doStage_133 : decode cX0_doStage 133 = .ok (.aload_n 2, 1) := by decide +kernel
theorem dX0_doStage_134 : decode cX0_doStage 134 = .ok (.getfield 72, 3) := by decide +kernel
theorem dX0_doStage_137 : decode cX0_doStage 137 = .ok (.invokevirtual 75, 3) := by decide +kernel
theorem dX0_doStage_140 : decode cX0_doStage 140 = .ok (.aload_n 1, 1) := by decide +kernel
theorem dX0_doStage_141 : decode cX0_doStage 141 = .ok (.dup, 1) := by decide +kernel
theorem dX0_doStage_142 : decode cX0_doStage 142 = .ok (.getfield 65, 3) := by decide +kernel
theorem dX0_doStage_145 : decode cX0_doStage 145 = .ok (.aload_n 2, 1) := by decide +kernel
theorem dX0_doStage_146 : decode cX0_doStage 146 = .ok (.getfield 79, 3) := by decide +kernel
theorem dX0_doStage_149 : decode cX0_doStage 149 = .ok (.isub, 1) := by decide +kernel
theorem dX0_doStage_150 : decode cX0_doStage 150 = .ok (.putfield 65, 3) := by decide +kernel
theorem dX0_doStage_153 : decode cX0_doStage 153 = .ok (.iload 6, 2) := by decide +kernel
theorem dX0_doStage_155 : decode cX0_doStage 155 = .ok (.ireturn, 1) := by decide +kernel
theorem dX0_reverseAll_0 : decode cX0_reverseAll 0 = .ok (.iconst 0, 1) := by decide +kernel
theorem dX0_reverseAll_1 : decode cX0_reverseAll 1 = .ok (.istore_n 3, 1) := by decide +kernel
theorem dX0_reverseAll_2 : decode cX0_reverseAll 2 = .ok (.iload_n 3, 1) := by decide +kernel
theorem dX0_reverseAll_3 : decode cX0_reverseAll 3 = .ok (.aload_n 2, 1) := by decide +kernel
theorem dX0_reverseAll_4 : decode cX0_reverseAll 4 = .ok (.getfield 72, 3) := by decide +kernel
theorem dX0_reverseAll_7 : decode cX0_reverseAll 7 = .ok (.if_icmp .ge 42, 3) := by decide +kernel
theorem dX0_reverseAll_10 : decode cX0_reverseAll 10 = .ok (.aload_n 2, 1) := by decide +kernel
theorem dX0_reverseAll_11 : decode cX0_reverseAll 11 = .ok (.iload_n 3, 1) := by decide +kernel
theorem dX0_reverseAll_12 : decode cX0_reverseAll 12 = .ok (.invokevirtual 82, 3) := by decide +kernel
theorem dX0_reverseAll_15 : decode cX0_reverseAll 15 = .ok (.istore 4, 2) := by decide +kernel
theorem dX0_reverseAll_17 : decode cX0_reverseAll 17 = .ok (.aload_n 0, 1) := by decide +kernel
theorem dX0_reverseAll_18 : decode cX0_reverseAll 18 = .ok (.getfield 9, 3) := by decide +kernel
theorem dX0_reverseAll_21 : decode cX0_reverseAll 21 = .ok (.iload 4, 2) := by decide +kernel
theorem dX0_reverseAll_23 : decode cX0_reverseAll 23 = .ok (.aload_n 1, 1) := by decide +kernel
theorem dX0_reverseAll_24 : decode cX0_reverseAll 24 = .ok (.getfield 85, 3) := by decide +kernel
theorem dX0_reverseAll_27 : decode cX0_reverseAll 27 = .ok (.iload_n 3, 1) := by decide +kernel
theorem dX0_reverseAll_28 : decode cX0_reverseAll 28 = .ok (.iaload, 1) := by decide +kernel
theorem dX0_reverseAll_29 : decode cX0_reverseAll 29 = .ok (.iastore, 1) := by decide +kernel
theorem dX0_reverseAll_30 : decode cX0_reverseAll 30 = .ok (.aload_n 0, 1) := by decide +kernel
theorem dX0_reverseAll_31 : decode cX0_reverseAll 31 = .ok (.getfield 15, 3) := by decide +kernel
theorem dX0_reverseAll_34 : decode cX0_reverseAll 34 = .ok (.iload 4, 2) := by decide +kernel
theorem dX0_reverseAll_36 : decode cX0_reverseAll 36 = .ok (.aload_n 1, 1) := by decide +kernel
theorem dX0_reverseAll_37 : decode cX0_reverseAll 37 = .ok (.getfield 88, 3) := by decide +kernel
theorem dX0_reverseAll_40 : decode cX0_reverseAll 40 = .ok (.iload_n 3, 1) := by decide +kernel
theorem dX0_reverseAll_41 : decode cX0_reverseAll 41 = .ok (.iaload, 1) := by decide +kernel
theorem dX0_reverseAll_42 : decode cX0_reverseAll 42 = .ok (.iastore, 1) := by decide +kernel
theorem dX0_reverseAll_43 : decode cX0_reverseAll 43 = .ok (.iinc 3 1, 3) := by decide +kernel
theorem dX0_reverseAll_46 : decode cX0_reverseAll 46 = .ok (.goto (-44), 3) := by decide +kernel
theorem dX0_reverseAll_49 : decode cX0_reverseAll 49 = .ok (.aload_n 0, 1) := by decide +kernel
theorem dX0_reverseAll_50 : decode cX0_reverseAll 50 = .ok (.aload_n 1, 1) := by decide +kernel
theorem dX0_reverseAll_51 : decode cX0_reverseAll 51 = .ok (.aload_n 2, 1) := by decide +kernel
theorem dX0_reverseAll_52 : decode cX0_reverseAll 52 = .ok (.getfield 72, 3) := by decide +kernel
theorem dX0_reverseAll_55 : decode cX0_reverseAll 55 = .ok (.invokevirtual 91, 3) := by decide +kernel
theorem dX0_reverseAll_58 : decode cX0_reverseAll 58 = .ok (.return_, 1) := by decide +kernel
theorem dX0_moveAll_0 : decode cX0_moveAll 0 = .ok (.iconst 0, 1) := by decide +kernel
theorem dX0_moveAll_1 : decode cX0_moveAll 1 = .ok (.istore 5, 2) := by decide +kernel
theorem dX0_moveAll_3 : decode cX0_moveAll 3 = .ok (.iload 5, 2) := by decide +kernel
theorem dX0_moveAll_5 : decode cX0_moveAll 5 = .ok (.iload_n 2, 1) := by decide +kernel
theorem dX0_moveAll_6 : decode cX0_moveAll 6 = .ok (.if_icmp .ge 50, 3) := by decide +kernel
theorem dX0_moveAll_9 : decode cX0_moveAll 9 = .ok (.iload_n 3, 1) := by decide +kernel
theorem dX0_moveAll_10 : decode cX0_moveAll 10 = .ok (.iload 5, 2) := by decide +kernel
theorem dX0_moveAll_12 : decode cX0_moveAll 12 = .ok (.imul, 1) := by decide +kernel
theorem dX0_moveAll_13 : decode cX0_moveAll 13 = .ok (.iload 4, 2) := by decide +kernel
theorem dX0_moveAll_15 : decode cX0_moveAll 15 = .ok (.iadd, 1) := by decide +kernel
theorem dX0_moveAll_16 : decode cX0_moveAll 16 = .ok (.iload_n 2, 1) := by decide +kernel
theorem dX0_moveAll_17 : decode cX0_moveAll 17 = .ok (.iconst 1, 1) := by decide +kernel
theorem dX0_moveAll_18 : decode cX0_moveAll 18 = .ok (.isub, 1) := by decide +kernel
theorem dX0_moveAll_19 : decode cX0_moveAll 19 = .ok (.iand, 1) := by decide +kernel
theorem dX0_moveAll_20 : decode cX0_moveAll 20 = .ok (.istore 6, 2) := by decide +kernel
theorem dX0_moveAll_22 : decode cX0_moveAll 22 = .ok (.aload_n 0, 1) := by decide +kernel
theorem dX0_moveAll_23 : decode cX0_moveAll 23 = .ok (.getfield 9, 3) := by decide +kernel
theorem dX0_moveAll_26 : decode cX0_moveAll 26 = .ok (.iload 6, 2) := by decide +kernel
theorem dX0_moveAll_28 : decode cX0_moveAll 28 = .ok (.aload_n 1, 1) := by decide +kernel
theorem dX0_moveAll_29 : decode cX0_moveAll 29 = .ok (.getfield 85, 3) := by decide +kernel
theorem dX0_moveAll_32 : decode cX0_moveAll 32 = .ok (.iload 5, 2) := by decide +kernel
theorem dX0_moveAll_34 : decode cX0_moveAll 34 = .ok (.iaload, 1) := by decide +kernel
theorem dX0_moveAll_35 : decode cX0_moveAll 35 = .ok (.iastore, 1) := by decide +kernel
theorem dX0_moveAll_36 : decode cX0_moveAll 36 = .ok (.aload_n 0, 1) := by decide +kernel
theorem dX0_moveAll_37 : decode cX0_moveAll 37 = .ok (.getfield 15, 3) := by decide +kernel
theorem dX0_moveAll_40 : decode cX0_moveAll 40 = .ok (.iload 6, 2) := by decide +kernel
theorem dX0_moveAll_42 : decode cX0_moveAll 42 = .ok (.aload_n 1, 1) := by decide +kernel
theorem dX0_moveAll_43 : decode cX0_moveAll 43 = .ok (.getfield 88, 3) := by decide +kernel
theorem dX0_moveAll_46 : decode cX0_moveAll 46 = .ok (.iload 5, 2) := by decide +kernel
theorem dX0_moveAll_48 : decode cX0_moveAll 48 = .ok (.iaload, 1) := by decide +kernel
theorem dX0_moveAll_49 : decode cX0_moveAll 49 = .ok (.iastore, 1) := by decide +kernel
theorem dX0_moveAll_50 : decode cX0_moveAll 50 = .ok (.iinc 5 1, 3) := by decide +kernel
theorem dX0_moveAll_53 : decode cX0_moveAll 53 = .ok (.goto (-50), 3) := by decide +kernel
theorem dX0_moveAll_56 : decode cX0_moveAll 56 = .ok (.aload_n 0, 1) := by decide +kernel
theorem dX0_moveAll_57 : decode cX0_moveAll 57 = .ok (.aload_n 1, 1) := by decide +kernel
theorem dX0_moveAll_58 : decode cX0_moveAll 58 = .ok (.iload_n 2, 1) := by decide +kernel
theorem dX0_moveAll_59 : decode cX0_moveAll 59 = .ok (.invokevirtual 91, 3) := by decide +kernel
theorem dX0_moveAll_62 : decode cX0_moveAll 62 = .ok (.return_, 1) := by decide +kernel
theorem dX0_takeSpare_0 : decode cX0_takeSpare 0 = .ok (.aload_n 0, 1) := by decide +kernel
theorem dX0_takeSpare_1 : decode cX0_takeSpare 1 = .ok (.getfield 9, 3) := by decide +kernel
theorem dX0_takeSpare_4 : decode cX0_takeSpare 4 = .ok (.iconst 0, 1) := by decide +kernel
theorem dX0_takeSpare_5 : decode cX0_takeSpare 5 = .ok (.aload_n 1, 1) := by decide +kernel
theorem dX0_takeSpare_6 : decode cX0_takeSpare 6 = .ok (.getfield 85, 3) := by decide +kernel
theorem dX0_takeSpare_9 : decode cX0_takeSpare 9 = .ok (.iconst 0, 1) := by decide +kernel
theorem dX0_takeSpare_10 : decode cX0_takeSpare 10 = .ok (.iload_n 2, 1) := by decide +kernel
theorem dX0_takeSpare_11 : decode cX0_takeSpare 11 = .ok (.invokestatic 95, 3) := by decide +kernel
theorem dX0_takeSpare_14 : decode cX0_takeSpare 14 = .ok (.aload_n 0, 1) := by decide +kernel
theorem dX0_takeSpare_15 : decode cX0_takeSpare 15 = .ok (.getfield 15, 3) := by decide +kernel
theorem dX0_takeSpare_18 : decode cX0_takeSpare 18 = .ok (.iconst 0, 1) := by decide +kernel
theorem dX0_takeSpare_19 : decode cX0_takeSpare 19 = .ok (.aload_n 1, 1) := by decide +kernel
theorem dX0_takeSpare_20 : decode cX0_takeSpare 20 = .ok (.getfield 88, 3) := by decide +kernel
theorem dX0_takeSpare_23 : decode cX0_takeSpare 23 = .ok (.iconst 0, 1) := by decide +kernel
theorem dX0_takeSpare_24 : decode cX0_takeSpare 24 = .ok (.iload_n 2, 1) := by decide +kernel
theorem dX0_takeSpare_25 : decode cX0_takeSpare 25 = .ok (.invokestatic 95, 3) := by decide +kernel
theorem dX0_takeSpare_28 : decode cX0_takeSpare 28 = .ok (.return_, 1) := by decide +kernel
theorem dX0_halveAsNeeded_0 : decode cX0_halveAsNeeded 0 = .ok (.iconst 0, 1) := by decide +kernel
theorem dX0_halveAsNeeded_1 : decode cX0_halveAsNeeded 1 = .ok (.istore 4, 2) := by decide +kernel
theorem dX0_halveAsNeeded_3 : decode cX0_halveAsNeeded 3 = .ok (.iload 4, 2) := by decide +kernel
theorem dX0_halveAsNeeded_5 : decode cX0_halveAsNeeded 5 = .ok (.bipush 64, 2) := by decide +kernel
theorem dX0_halveAsNeeded_7 : decode cX0_halveAsNeeded 7 = .ok (.if_icmp .ge 95, 3) := by decide +kernel
theorem dX0_halveAsNeeded_10 : decode cX0_halveAsNeeded 10 = .ok (.aload_n 1, 1) := by decide +kernel
theorem dX0_halveAsNeeded_11 : decode cX0_halveAsNeeded 11 = .ok (.iconst 0, 1) := by decide +kernel
theorem dX0_halveAsNeeded_12 : decode cX0_halveAsNeeded 12 = .ok (.aload_n 2, 1) := by decide +kernel
theorem dX0_halveAsNeeded_13 : decode cX0_halveAsNeeded 13 = .ok (.getfield 72, 3) := by decide +kernel
theorem dX0_halveAsNeeded_16 : decode cX0_halveAsNeeded 16 = .ok (.invokevirtual 101, 3) := by decide +kernel
theorem dX0_halveAsNeeded_19 : decode cX0_halveAsNeeded 19 = .ok (.i2l, 1) := by decide +kernel
theorem dX0_halveAsNeeded_20 : decode cX0_halveAsNeeded 20 = .ok (.iload_n 3, 1) := by decide +kernel
theorem dX0_halveAsNeeded_21 : decode cX0_halveAsNeeded 21 = .ok (.i2l, 1) := by decide +kernel
theorem dX0_halveAsNeeded_22 : decode cX0_halveAsNeeded 22 = .ok (.lmul, 1) := by decide +kernel
theorem dX0_halveAsNeeded_23 : decode cX0_halveAsNeeded 23 = .ok (.aload_n 2, 1) := by decide +kernel
theorem dX0_halveAsNeeded_24 : decode cX0_halveAsNeeded 24 = .ok (.getfield 105, 3) := by decide +kernel
theorem dX0_halveAsNeeded_27 : decode cX0_halveAsNeeded 27 = .ok (.i2l, 1) := by decide +kernel
theorem dX0_halveAsNeeded_28 : decode cX0_halveAsNeeded 28 = .ok (.ldc2_w 108, 3) := by decide +kernel
theorem dX0_halveAsNeeded_31 : decode cX0_halveAsNeeded 31 = .ok (.lmul, 1) := by decide +kernel
theorem dX0_halveAsNeeded_32 : decode cX0_halveAsNeeded 32 = .ok (.lcmp, 1) := by decide +kernel
theorem dX0_halveAsNeeded_33 : decode cX0_halveAsNeeded 33 = .ok (.ifCond .le 69, 3) := by decide +kernel
theorem dX0_halveAsNeeded_36 : decode cX0_halveAsNeeded 36 = .ok (.iconst 0, 1) := by decide +kernel
theorem dX0_halveAsNeeded_37 : decode cX0_halveAsNeeded 37 = .ok (.istore 5, 2) := by decide +kernel
theorem dX0_halveAsNeeded_39 : decode cX0_halveAsNeeded 39 = .ok (.iload 5, 2) := by decide +kernel
theorem dX0_halveAsNeeded_41 : decode cX0_halveAsNeeded 41 = .ok (.aload_n 2, 1) := by decide +kernel
theorem dX0_halveAsNeeded_42 : decode cX0_halveAsNeeded 42 = .ok (.getfield 72, 3) := by decide +kernel
theorem dX0_halveAsNeeded_45 : decode cX0_halveAsNeeded 45 = .ok (.if_icmp .ge 51, 3) := by decide +kernel
theorem dX0_halveAsNeeded_48 : decode cX0_halveAsNeeded 48 = .ok (.aload_n 1, 1) := by decide +kernel
theorem dX0_halveAsNeeded_49 : decode cX0_halveAsNeeded 49 = .ok (.getfield 85, 3) := by decide +kernel
theorem dX0_halveAsNeeded_52 : decode cX0_halveAsNeeded 52 = .ok (.iload 5, 2) := by decide +kernel
theorem dX0_halveAsNeeded_54 : decode cX0_halveAsNeeded 54 = .ok (.aload_n 1, 1) := by decide +kernel
theorem dX0_halveAsNeeded_55 : decode cX0_halveAsNeeded 55 = .ok (.getfield 85, 3) := by decide +kernel
theorem dX0_halveAsNeeded_58 : decode cX0_halveAsNeeded 58 = .ok (.iload 5, 2) := by decide +kernel
theorem dX0_halveAsNeeded_60 : decode cX0_halveAsNeeded 60 = .ok (.iaload, 1) := by decide +kernel
theorem dX0_halveAsNeeded_61 : decode cX0_halveAsNeeded 61 = .ok (.aload_n 2, 1) := by decide +kernel
theorem dX0_halveAsNeeded_62 : decode cX0_halveAsNeeded 62 = .ok (.getfield 110, 3) := by decide +kernel
theorem dX0_halveAsNeeded_65 : decode cX0_halveAsNeeded 65 = .ok (.iadd, 1) := by decide +kernel
theorem dX0_halveAsNeeded_66 : decode cX0_halveAsNeeded 66 = .ok (.iconst 1, 1) := by decide +kernel
theorem dX0_halveAsNeeded_67 : decode cX0_halveAsNeeded 67 = .ok (.ishr, 1) := by decide +kernel
theorem dX0_halveAsNeeded_68 : decode cX0_halveAsNeeded 68 = .ok (.iastore, 1) := by decide +kernel
theorem dX0_halveAsNeeded_69 : decode cX0_halveAsNeeded 69 = .ok (.aload_n 1, 1) := by decide +kernel
theorem dX0_halveAsNeeded_70 : decode cX0_halveAsNeeded 70 = .ok (.getfield 88, 3) := by decide +kernel
theorem dX0_halveAsNeeded_73 : decode cX0_halveAsNeeded 73 = .ok (.iload 5, 2) := by decide +kernel
theorem dX0_halveAsNeeded_75 : decode cX0_halveAsNeeded 75 = .ok (.aload_n 1, 1) := by decide +kernel
theorem dX0_halveAsNeeded_76 : decode cX0_halveAsNeeded 76 = .ok (.getfield 88, 3) := by decide +kernel
theorem dX0_halveAsNeeded_79 : decode cX0_halveAsNeeded 79 = .ok (.iload 5, 2) := by decide +kernel
theorem dX0_halveAsNeeded_81 : decode cX0_halveAsNeeded 81 = .ok (.iaload, 1) := by decide +kernel
theorem dX0_halveAsNeeded_82 : decode cX0_halveAsNeeded 82 = .ok (.aload_n 2, 1) := by decide +kernel
theorem dX0_halveAsNeeded_83 : decode cX0_halveAsNeeded 83 = .ok (.getfield 110, 3) := by decide +kernel
theorem dX0_halveAsNeeded_86 : decode cX0_halveAsNeeded 86 = .ok (.iadd, 1) := by decide +kernel
theorem dX0_halveAsNeeded_87 : decode cX0_halveAsNeeded 87 = .ok (.iconst 1, 1) := by decide +kernel
theorem dX0_halveAsNeeded_88 : decode cX0_halveAsNeeded 88 = .ok (.ishr, 1) := by decide +kernel
theorem dX0_halveAsNeeded_89 : decode cX0_halveAsNeeded 89 = .ok (.iastore, 1) := by decide +kernel
theorem dX0_halveAsNeeded_90 : decode cX0_halveAsNeeded 90 = .ok (.iinc 5 1, 3) := by decide +kernel
theorem dX0_halveAsNeeded_93 : decode cX0_halveAsNeeded 93 = .ok (.goto (-54), 3) := by decide +kernel
theorem dX0_halveAsNeeded_96 : decode cX0_halveAsNeeded 96 = .ok (.iinc 4 1, 3) := by decide +kernel
theorem dX0_halveAsNeeded_99 : decode cX0_halveAsNeeded 99 = .ok (.goto (-96), 3) := by decide +kernel
theorem dX0_halveAsNeeded_102 : decode cX0_halveAsNeeded 102 = .ok (.iload 4, 2) := by decide +kernel
theorem dX0_halveAsNeeded_104 : decode cX0_halveAsNeeded 104 = .ok (.ireturn, 1) := by decide +kernel
theorem dX0_beatWings_0 : decode cX0_beatWings 0 = .ok (.iconst 0, 1) := by decide +kernel
theorem dX0_beatWings_1 : decode cX0_beatWings 1 = .ok (.istore 4, 2) := by decide +kernel
theorem dX0_beatWings_3 : decode cX0_beatWings 3 = .ok (.iconst 0, 1) := by decide +kernel
theorem dX0_beatWings_4 : decode cX0_beatWings 4 = .ok (.istore 5, 2) := by decide +kernel
theorem dX0_beatWings_6 : decode cX0_beatWings 6 = .ok (.iload 5, 2) := by decide +kernel
theorem dX0_beatWings_8 : decode cX0_beatWings 8 = .ok (.iload_n 3, 1) := by decide +kernel
theorem dX0_beatWings_9 : decode cX0_beatWings 9 = .ok (.if_icmp .ge 21, 3) := by decide +kernel
theorem dX0_beatWings_12 : decode cX0_beatWings 12 = .ok (.iload 4, 2) := by decide +kernel
theorem dX0_beatWings_14 : decode cX0_beatWings 14 = .ok (.aload_n 2, 1) := by decide +kernel
theorem dX0_beatWings_15 : decode cX0_beatWings 15 = .ok (.getfield 113, 3) := by decide +kernel
theorem dX0_beatWings_18 : decode cX0_beatWings 18 = .ok (.iload 5, 2) := by decide +kernel
theorem dX0_beatWings_20 : decode cX0_beatWings 20 = .ok (.iaload, 1) := by decide +kernel
theorem dX0_beatWings_21 : decode cX0_beatWings 21 = .ok (.iadd, 1) := by decide +kernel
theorem dX0_beatWings_22 : decode cX0_beatWings 22 = .ok (.istore 4, 2) := by decide +kernel
theorem dX0_beatWings_24 : decode cX0_beatWings 24 = .ok (.iinc 5 1, 3) := by decide +kernel
theorem dX0_beatWings_27 : decode cX0_beatWings 27 = .ok (.goto (-21), 3) := by decide +kernel
theorem dX0_beatWings_30 : decode cX0_beatWings 30 = .ok (.aload_n 2, 1) := by decide +kernel
theorem dX0_beatWings_31 : decode cX0_beatWings 31 = .ok (.getfield 113, 3) := by decide +kernel
theorem dX0_beatWings_34 : decode cX0_beatWings 34 = .ok (.iload_n 3, 1) := by decide +kernel
theorem dX0_beatWings_35 : decode cX0_beatWings 35 = .ok (.iaload, 1) := by decide +kernel
theorem dX0_beatWings_36 : decode cX0_beatWings 36 = .ok (.istore 5, 2) := by decide +kernel
theorem dX0_beatWings_38 : decode cX0_beatWings 38 = .ok (.aload_n 2, 1) := by decide +kernel
theorem dX0_beatWings_39 : decode cX0_beatWings 39 = .ok (.getfield 43, 3) := by decide +kernel
theorem dX0_beatWings_42 : decode cX0_beatWings 42 = .ok (.ifCond .ne 8, 3) := by decide +kernel
theorem dX0_beatWings_45 : decode cX0_beatWings 45 = .ok (.iload 4, 2) := by decide +kernel
theorem dX0_beatWings_47 : decode cX0_beatWings 47 = .ok (.goto 13, 3) := by decide +kernel
theorem dX0_beatWings_50 : decode cX0_beatWings 50 = .ok (.aload_n 2, 1) := by decide +kernel
theorem dX0_beatWings_51 : decode cX0_beatWings 51 = .ok (.getfield 79, 3) := by decide +kernel
theorem dX0_beatWings_54 : decode cX0_beatWings 54 = .ok (.iload 4, 2) := by decide +kernel
theorem dX0_beatWings_56 : decode cX0_beatWings 56 = .ok (.isub, 1) := by decide +kernel
theorem dX0_beatWings_57 : decode cX0_beatWings 57 = .ok (.iload 5, 2) := by decide +kernel
theorem dX0_beatWings_59 : decode cX0_beatWings 59 = .ok (.isub, 1) := by decide +kernel
theorem dX0_beatWings_60 : decode cX0_beatWings 60 = .ok (.istore 6, 2) := by decide +kernel
theorem dX0_beatWings_62 : decode cX0_beatWings 62 = .ok (.iconst 1, 1) := by decide +kernel
theorem dX0_beatWings_63 : decode cX0_beatWings 63 = .ok (.iload 6, 2) := by decide +kernel
theorem dX0_beatWings_65 : decode cX0_beatWings 65 = .ok (.ishl, 1) := by decide +kernel
theorem dX0_beatWings_66 : decode cX0_beatWings 66 = .ok (.istore 7, 2) := by decide +kernel
theorem dX0_beatWings_68 : decode cX0_beatWings 68 = .ok (.aload_n 2, 1) := by decide +kernel
theorem dX0_beatWings_69 : decode cX0_beatWings 69 = .ok (.getfield 79, 3) := by decide +kernel
theorem dX0_beatWings_72 : decode cX0_beatWings 72 = .ok (.iload 6, 2) := by decide +kernel
theorem dX0_beatWings_74 : decode cX0_beatWings 74 = .ok (.isub, 1) := by decide +kernel
theorem dX0_beatWings_75 : decode cX0_beatWings 75 = .ok (.iload 5, 2) := by decide +kernel
theorem dX0_beatWings_77 : decode cX0_beatWings 77 = .ok (.isub, 1) := by decide +kernel
theorem dX0_beatWings_78 : decode cX0_beatWings 78 = .ok (.istore 8, 2) := by decide +kernel
theorem dX0_beatWings_80 : decode cX0_beatWings 80 = .ok (.iconst 1, 1) := by decide +kernel
theorem dX0_beatWings_81 : decode cX0_beatWings 81 = .ok (.iload 8, 2) := by decide +kernel
theorem dX0_beatWings_83 : decode cX0_beatWings 83 = .ok (.ishl, 1) := by decide +kernel
theorem dX0_beatWings_84 : decode cX0_beatWings 84 = .ok (.istore 9, 2) := by decide +kernel
theorem dX0_beatWings_86 : decode cX0_beatWings 86 = .ok (.iconst 0, 1) := by decide +kernel
theorem dX0_beatWings_87 : decode cX0_beatWings 87 = .ok (.istore 10, 2) := by decide +kernel
theorem dX0_beatWings_89 : decode cX0_beatWings 89 = .ok (.iload 10, 2) := by decide +kernel
theorem dX0_beatWings_91 : decode cX0_beatWings 91 = .ok (.iload 9, 2) := by decide +kernel
theorem dX0_beatWings_93 : decode cX0_beatWings 93 = .ok (.if_icmp .ge 55, 3) := by decide +kernel
theorem dX0_beatWings_96 : decode cX0_beatWings 96 = .ok (.iload 10, 2) := by decide +kernel
theorem dX0_beatWings_98 : decode cX0_beatWings 98 = .ok (.iload 6, 2) := by decide +kernel
theorem dX0_beatWings_100 : decode cX0_beatWings 100 = .ok (.iload 5, 2) := by decide +kernel
theorem dX0_beatWings_102 : decode cX0_beatWings 102 = .ok (.iadd, 1) := by decide +kernel
theorem dX0_beatWings_103 : decode cX0_beatWings 103 = .ok (.ishl, 1) := by decide +kernel
theorem dX0_beatWings_104 : decode cX0_beatWings 104 = .ok (.istore 11, 2) := by decide +kernel
theorem dX0_beatWings_106 : decode cX0_beatWings 106 = .ok (.iconst 0, 1) := by decide +kernel
theorem dX0_beatWings_107 : decode cX0_beatWings 107 = .ok (.istore 12, 2) := by decide +kernel
theorem dX0_beatWings_109 : decode cX0_beatWings 109 = .ok (.iload 12, 2) := by decide +kernel
theorem dX0_beatWings_111 : decode cX0_beatWings 111 = .ok (.iload 7, 2) := by decide +kernel
theorem dX0_beatWings_113 : decode cX0_beatWings 113 = .ok (.if_icmp .ge 29, 3) := by decide +kernel
theorem dX0_beatWings_116 : decode cX0_beatWings 116 = .ok (.aload_n 0, 1) := by decide +kernel
theorem dX0_beatWings_117 : decode cX0_beatWings 117 = .ok (.aload_n 1, 1) := by decide +kernel
theorem dX0_beatWings_118 : decode cX0_beatWings 118 = .ok (.aload_n 2, 1) := by decide +kernel
theorem dX0_beatWings_119 : decode cX0_beatWings 119 = .ok (.iload 11, 2) := by decide +kernel
theorem dX0_beatWings_121 : decode cX0_beatWings 121 = .ok (.iload 12, 2) := by decide +kernel
theorem dX0_beatWings_123 : decode cX0_beatWings 123 = .ok (.iadd, 1) := by decide +kernel
theorem dX0_beatWings_124 : decode cX0_beatWings 124 = .ok (.iload 6, 2) := by decide +kernel
theorem dX0_beatWings_126 : decode cX0_beatWings 126 = .ok (.iload 5, 2) := by decide +kernel
theorem dX0_beatWings_128 : decode cX0_beatWings 128 = .ok (.iload 12, 2) := by decide +kernel
theorem dX0_beatWings_130 : decode cX0_beatWings 130 = .ok (.iload 8, 2) := by decide +kernel
theorem dX0_beatWings_132 : decode cX0_beatWings 132 = .ok (.ishl, 1) := by decide +kernel
theorem dX0_beatWings_133 : decode cX0_beatWings 133 = .ok (.invokevirtual 116, 3) := by decide +kernel
theorem dX0_beatWings_136 : decode cX0_beatWings 136 = .ok (.iinc 12 1, 3) := by decide +kernel
theorem dX0_beatWings_139 : decode cX0_beatWings 139 = .ok (.goto (-30), 3) := by decide +kernel
theorem dX0_beatWings_142 : decode cX0_beatWings 142 = .ok (.iinc 10 1, 3) := by decide +kernel
theorem dX0_beatWings_145 : decode cX0_beatWings 145 = .ok (.goto (-56), 3) := by decide +kernel
theorem dX0_beatWings_148 : decode cX0_beatWings 148 = .ok (.return_, 1) := by decide +kernel
theorem dX0_beatWing_0 : decode cX0_beatWing 0 = .ok (.iconst 1, 1) := by decide +kernel
theorem dX0_beatWing_1 : decode cX0_beatWing 1 = .ok (.iload 5, 2) := by decide +kernel
theorem dX0_beatWing_3 : decode cX0_beatWing 3 = .ok (.ishl, 1) := by decide +kernel
theorem dX0_beatWing_4 : decode cX0_beatWing 4 = .ok (.istore 7, 2) := by decide +kernel
theorem dX0_beatWing_6 : decode cX0_beatWing 6 = .ok (.iconst 0, 1) := by decide +kernel
theorem dX0_beatWing_7 : decode cX0_beatWing 7 = .ok (.istore 8, 2) := by decide +kernel
theorem dX0_beatWing_9 : decode cX0_beatWing 9 = .ok (.iload 8, 2) := by decide +kernel
theorem dX0_beatWing_11 : decode cX0_beatWing 11 = .ok (.iload 7, 2) := by decide +kernel
theorem dX0_beatWing_13 : decode cX0_beatWing 13 = .ok (.if_icmp .ge 47, 3) := by decide +kernel
theorem dX0_beatWing_16 : decode cX0_beatWing 16 = .ok (.aload_n 0, 1) := by decide +kernel
theorem dX0_beatWing_17 : decode cX0_beatWing 17 = .ok (.getfield 18, 3) := by decide +kernel
theorem dX0_beatWing_20 : decode cX0_beatWing 20 = .ok (.iload 8, 2) := by decide +kernel
theorem dX0_beatWing_22 : decode cX0_beatWing 22 = .ok (.aload_n 1, 1) := by decide +kernel
theorem dX0_beatWing_23 : decode cX0_beatWing 23 = .ok (.getfield 85, 3) := by decide +kernel
theorem dX0_beatWing_26 : decode cX0_beatWing 26 = .ok (.iload_n 3, 1) := by decide +kernel
theorem dX0_beatWing_27 : decode cX0_beatWing 27 = .ok (.iload 8, 2) := by decide +kernel
theorem dX0_beatWing_29 : decode cX0_beatWing 29 = .ok (.iload 4, 2) := by decide +kernel
theorem dX0_beatWing_31 : decode cX0_beatWing 31 = .ok (.ishl, 1) := by decide +kernel
theorem dX0_beatWing_32 : decode cX0_beatWing 32 = .ok (.iadd, 1) := by decide +kernel
theorem dX0_beatWing_33 : decode cX0_beatWing 33 = .ok (.iaload, 1) := by decide +kernel
theorem dX0_beatWing_34 : decode cX0_beatWing 34 = .ok (.iastore, 1) := by decide +kernel
theorem dX0_beatWing_35 : decode cX0_beatWing 35 = .ok (.aload_n 0, 1) := by decide +kernel
theorem dX0_beatWing_36 : decode cX0_beatWing 36 = .ok (.getfield 21, 3) := by decide +kernel
theorem dX0_beatWing_39 : decode cX0_beatWing 39 = .ok (.iload 8, 2) := by decide +kernel
theorem dX0_beatWing_41 : decode cX0_beatWing 41 = .ok (.aload_n 1, 1) := by decide +kernel
theorem dX0_beatWing_42 : decode cX0_beatWing 42 = .ok (.getfield 88, 3) := by decide +kernel
theorem dX0_beatWing_45 : decode cX0_beatWing 45 = .ok (.iload_n 3, 1) := by decide +kernel
theorem dX0_beatWing_46 : decode cX0_beatWing 46 = .ok (.iload 8, 2) := by decide +kernel
theorem dX0_beatWing_48 : decode cX0_beatWing 48 = .ok (.iload 4, 2) := by decide +kernel
theorem dX0_beatWing_50 : decode cX0_beatWing 50 = .ok (.ishl, 1) := by decide +kernel
theorem dX0_beatWing_51 : decode cX0_beatWing 51 = .ok (.iadd, 1) := by decide +kernel
theorem dX0_beatWing_52 : decode cX0_beatWing 52 = .ok (.iaload, 1) := by decide +kernel
theorem dX0_beatWing_53 : decode cX0_beatWing 53 = .ok (.iastore, 1) := by decide +kernel
theorem dX0_beatWing_54 : decode cX0_beatWing 54 = .ok (.iinc 8 1, 3) := by decide +kernel
theorem dX0_beatWing_57 : decode cX0_beatWing 57 = .ok (.goto (-48), 3) := by decide +kernel
theorem dX0_beatWing_60 : decode cX0_beatWing 60 = .ok (.aload_n 2, 1) := by decide +kernel
theorem dX0_beatWing_61 : decode cX0_beatWing 61 = .ok (.getfield 43, 3) := by decide +kernel
theorem dX0_beatWing_64 : decode cX0_beatWing 64 = .ok (.ifCond .ne 12, 3) := by decide +kernel
theorem dX0_beatWing_67 : decode cX0_beatWing 67 = .ok (.aload_n 0, 1) := by decide +kernel
theorem dX0_beatWing_68 : decode cX0_beatWing 68 = .ok (.aload_n 2, 1) := by decide +kernel
theorem dX0_beatWing_69 : decode cX0_beatWing 69 = .ok (.iload 7, 2) := by decide +kernel
theorem dX0_beatWing_71 : decode cX0_beatWing 71 = .ok (.iload 6, 2) := by decide +kernel
theorem dX0_beatWing_73 : decode cX0_beatWing 73 = .ok (.invokevirtual 120, 3) := by decide +kernel
theorem dX0_beatWing_76 : decode cX0_beatWing 76 = .ok (.iload 5, 2) := by decide +kernel
theorem dX0_beatWing_78 : decode cX0_beatWing 78 = .ok (.iconst 1, 1) := by decide +kernel
theorem dX0_beatWing_79 : decode cX0_beatWing 79 = .ok (.if_icmp .ne 10, 3) := by decide +kernel
theorem dX0_beatWing_82 : decode cX0_beatWing 82 = .ok (.aload_n 0, 1) := by decide +kernel
theorem dX0_beatWing_83 : decode cX0_beatWing 83 = .ok (.invokevirtual 124, 3) := by decide +kernel
theorem dX0_beatWing_86 : decode cX0_beatWing 86 = .ok (.goto 7, 3) := by decide +kernel
theorem dX0_beatWing_89 : decode cX0_beatWing 89 = .ok (.aload_n 0, 1) := by decide +kernel
theorem dX0_beatWing_90 : decode cX0_beatWing 90 = .ok (.invokevirtual 127, 3) := by decide +kernel
theorem dX0_beatWing_93 : decode cX0_beatWing 93 = .ok (.aload_n 2, 1) := by decide +kernel
theorem dX0_beatWing_94 : decode cX0_beatWing 94 = .ok (.getfield 43, 3) := by decide +kernel
theorem dX0_beatWing_97 : decode cX0_beatWing 97 = .ok (.ifCond .eq 12, 3) := by decide +kernel
theorem dX0_beatWing_100 : decode cX0_beatWing 100 = .ok (.aload_n 0, 1) := by decide +kernel
theorem dX0_beatWing_101 : decode cX0_beatWing 101 = .ok (.aload_n 2, 1) := by decide +kernel
theorem dX0_beatWing_102 : decode cX0_beatWing 102 = .ok (.iload 7, 2) := by decide +kernel
theorem dX0_beatWing_104 : decode cX0_beatWing 104 = .ok (.iload 6, 2) := by decide +kernel
theorem dX0_beatWing_106 : decode cX0_beatWing 106 = .ok (.invokevirtual 120, 3) := by decide +kernel
theorem dX0_beatWing_109 : decode cX0_beatWing 109 = .ok (.iconst 0, 1) := by decide +kernel
theorem dX0_beatWing_110 : decode cX0_beatWing 110 = .ok (.istore 8, 2) := by decide +kernel
theorem dX0_beatWing_112 : decode cX0_beatWing 112 = .ok (.iload 8, 2) := by decide +kernel
theorem dX0_beatWing_114 : decode cX0_beatWing 114 = .ok (.iload 7, 2) := by decide +kernel
theorem dX0_beatWing_116 : decode cX0_beatWing 116 = .ok (.if_icmp .ge 47, 3) := by decide +kernel
theorem dX0_beatWing_119 : decode cX0_beatWing 119 = .ok (.aload_n 1, 1) := by decide +kernel
theorem dX0_beatWing_120 : decode cX0_beatWing 120 = .ok (.getfield 85, 3) := by decide +kernel
theorem dX0_beatWing_123 : decode cX0_beatWing 123 = .ok (.iload_n 3, 1) := by decide +kernel
theorem dX0_beatWing_124 : decode cX0_beatWing 124 = .ok (.iload 8, 2) := by decide +kernel
theorem dX0_beatWing_126 : decode cX0_beatWing 126 = .ok (.iload 4, 2) := by decide +kernel
theorem dX0_beatWing_128 : decode cX0_beatWing 128 = .ok (.ishl, 1) := by decide +kernel
theorem dX0_beatWing_129 : decode cX0_beatWing 129 = .ok (.iadd, 1) := by decide +kernel
theorem dX0_beatWing_130 : decode cX0_beatWing 130 = .ok (.aload_n 0, 1) := by decide +kernel
theorem dX0_beatWing_131 : decode cX0_beatWing 131 = .ok (.getfield 18, 3) := by decide +kernel
theorem dX0_beatWing_134 : decode cX0_beatWing 134 = .ok (.iload 8, 2) := by decide +kernel
theorem dX0_beatWing_136 : decode cX0_beatWing 136 = .ok (.iaload, 1) := by decide +kernel
theorem dX0_beatWing_137 : decode cX0_beatWing 137 = .ok (.iastore, 1) := by decide +kernel
theorem dX0_beatWing_138 : decode cX0_beatWing 138 = .ok (.aload_n 1, 1) := by decide +kernel
theorem dX0_beatWing_139 : decode cX0_beatWing 139 = .ok (.getfield 88, 3) := by decide +kernel
theorem dX0_beatWing_142 : decode cX0_beatWing 142 = .ok (.iload_n 3, 1) := by decide +kernel
theorem dX0_beatWing_143 : decode cX0_beatWing 143 = .ok (.iload 8, 2) := by decide +kernel
theorem dX0_beatWing_145 : decode cX0_beatWing 145 = .ok (.iload 4, 2) := by decide +kernel
theorem dX0_beatWing_147 : decode cX0_beatWing 147 = .ok (.ishl, 1) := by decide +kernel
theorem dX0_beatWing_148 : decode cX0_beatWing 148 = .ok (.iadd, 1) := by decide +kernel
theorem dX0_beatWing_149 : decode cX0_beatWing 149 = .ok (.aload_n 0, 1) := by decide +kernel
theorem dX0_beatWing_150 : decode cX0_beatWing 150 = .ok (.getfield 21, 3) := by decide +kernel
theorem dX0_beatWing_153 : decode cX0_beatWing 153 = .ok (.iload 8, 2) := by decide +kernel
theorem dX0_beatWing_155 : decode cX0_beatWing 155 = .ok (.iaload, 1) := by decide +kernel
theorem dX0_beatWing_156 : decode cX0_beatWing 156 = .ok (.iastore, 1) := by decide +kernel
theorem dX0_beatWing_157 : decode cX0_beatWing 157 = .ok (.iinc 8 1, 3) := by decide +kernel
theorem dX0_beatWing_160 : decode cX0_beatWing 160 = .ok (.goto (-48), 3) := by decide +kernel
theorem dX0_beatWing_163 : decode cX0_beatWing 163 = .ok (.return_, 1) := by decide +kernel
theorem dX0_turnWing_0 : decode cX0_turnWing 0 = .ok (.aload_n 1, 1) := by decide +kernel
theorem dX0_turnWing_1 : decode cX0_turnWing 1 = .ok (.invokevirtual 130, 3) := by decide +kernel
theorem dX0_turnWing_4 : decode cX0_turnWing 4 = .ok (.i2l, 1) := by decide +kernel
theorem dX0_turnWing_5 : decode cX0_turnWing 5 = .ok (.lstore 4, 2) := by decide +kernel
theorem dX0_turnWing_7 : decode cX0_turnWing 7 = .ok (.iconst 1, 1) := by decide +kernel
theorem dX0_turnWing_8 : decode cX0_turnWing 8 = .ok (.istore 6, 2) := by decide +kernel
theorem dX0_turnWing_10 : decode cX0_turnWing 10 = .ok (.iload 6, 2) := by decide +kernel
theorem dX0_turnWing_12 : decode cX0_turnWing 12 = .ok (.iload_n 2, 1) := by decide +kernel
theorem dX0_turnWing_13 : decode cX0_turnWing 13 = .ok (.if_icmp .ge 109, 3) := by decide +kernel
theorem dX0_turnWing_16 : decode cX0_turnWing 16 = .ok (.aload_n 0, 1) := by decide +kernel
theorem dX0_turnWing_17 : decode cX0_turnWing 17 = .ok (.getfield 24, 3) := by decide +kernel
theorem dX0_turnWing_20 : decode cX0_turnWing 20 = .ok (.getfield 134, 3) := by decide +kernel
theorem dX0_turnWing_23 : decode cX0_turnWing 23 = .ok (.iload 6, 2) := by decide +kernel
theorem dX0_turnWing_25 : decode cX0_turnWing 25 = .ok (.iload_n 3, 1) := by decide +kernel
theorem dX0_turnWing_26 : decode cX0_turnWing 26 = .ok (.imul, 1) := by decide +kernel
theorem dX0_turnWing_27 : decode cX0_turnWing 27 = .ok (.iaload, 1) := by decide +kernel
theorem dX0_turnWing_28 : decode cX0_turnWing 28 = .ok (.i2l, 1) := by decide +kernel
theorem dX0_turnWing_29 : decode cX0_turnWing 29 = .ok (.lstore 7, 2) := by decide +kernel
theorem dX0_turnWing_31 : decode cX0_turnWing 31 = .ok (.aload_n 0, 1) := by decide +kernel
theorem dX0_turnWing_32 : decode cX0_turnWing 32 = .ok (.getfield 24, 3) := by decide +kernel
theorem dX0_turnWing_35 : decode cX0_turnWing 35 = .ok (.getfield 139, 3) := by decide +kernel
theorem dX0_turnWing_38 : decode cX0_turnWing 38 = .ok (.iload 6, 2) := by decide +kernel
theorem dX0_turnWing_40 : decode cX0_turnWing 40 = .ok (.iload_n 3, 1) := by decide +kernel
theorem dX0_turnWing_41 : decode cX0_turnWing 41 = .ok (.imul, 1) := by decide +kernel
theorem dX0_turnWing_42 : decode cX0_turnWing 42 = .ok (.iaload, 1) := by decide +kernel
theorem dX0_turnWing_43 : decode cX0_turnWing 43 = .ok (.i2l, 1) := by decide +kernel
theorem dX0_turnWing_44 : decode cX0_turnWing 44 = .ok (.lstore 9, 2) := by decide +kernel
theorem dX0_turnWing_46 : decode cX0_turnWing 46 = .ok (.aload_n 0, 1) := by decide +kernel
theorem dX0_turnWing_47 : decode cX0_turnWing 47 = .ok (.getfield 18, 3) := by decide +kernel
theorem dX0_turnWing_50 : decode cX0_turnWing 50 = .ok (.iload 6, 2) := by decide +kernel
theorem dX0_turnWing_52 : decode cX0_turnWing 52 = .ok (.iaload, 1) := by decide +kernel
theorem dX0_turnWing_53 : decode cX0_turnWing 53 = .ok (.i2l, 1) := by decide +kernel
theorem dX0_turnWing_54 : decode cX0_turnWing 54 = .ok (.lstore 11, 2) := by decide +kernel
theorem dX0_turnWing_56 : decode cX0_turnWing 56 = .ok (.aload_n 0, 1) := by decide +kernel
theorem dX0_turnWing_57 : decode cX0_turnWing 57 = .ok (.getfield 21, 3) := by decide +kernel
theorem dX0_turnWing_60 : decode cX0_turnWing 60 = .ok (.iload 6, 2) := by decide +kernel
theorem dX0_turnWing_62 : decode cX0_turnWing 62 = .ok (.iaload, 1) := by decide +kernel
theorem dX0_turnWing_63 : decode cX0_turnWing 63 = .ok (.i2l, 1) := by decide +kernel
theorem dX0_turnWing_64 : decode cX0_turnWing 64 = .ok (.lstore 13, 2) := by decide +kernel
theorem dX0_turnWing_66 : decode cX0_turnWing 66 = .ok (.aload_n 0, 1) := by decide +kernel
theorem dX0_turnWing_67 : decode cX0_turnWing 67 = .ok (.getfield 18, 3) := by decide +kernel
theorem dX0_turnWing_70 : decode cX0_turnWing 70 = .ok (.iload 6, 2) := by decide +kernel
theorem dX0_turnWing_72 : decode cX0_turnWing 72 = .ok (.lload 11, 2) := by decide +kernel
theorem dX0_turnWing_74 : decode cX0_turnWing 74 = .ok (.lload 7, 2) := by decide +kernel
theorem dX0_turnWing_76 : decode cX0_turnWing 76 = .ok (.lmul, 1) := by decide +kernel
theorem dX0_turnWing_77 : decode cX0_turnWing 77 = .ok (.lload 13, 2) := by decide +kernel
theorem dX0_turnWing_79 : decode cX0_turnWing 79 = .ok (.lload 9, 2) := by decide +kernel
theorem dX0_turnWing_81 : decode cX0_turnWing 81 = .ok (.lmul, 1) := by decide +kernel
theorem dX0_turnWing_82 : decode cX0_turnWing 82 = .ok (.ladd, 1) := by decide +kernel
theorem dX0_turnWing_83 : decode cX0_turnWing 83 = .ok (.lload 4, 2) := by decide +kernel
theorem dX0_turnWing_85 : decode cX0_turnWing 85 = .ok (.ladd, 1) := by decide +kernel
theorem dX0_turnWing_86 : decode cX0_turnWing 86 = .ok (.bipush 14, 2) := by decide +kernel
theorem dX0_turnWing_88 : decode cX0_turnWing 88 = .ok (.lshr, 1) := by decide +kernel
theorem dX0_turnWing_89 : decode cX0_turnWing 89 = .ok (.l2i, 1) := by decide +kernel
theorem dX0_turnWing_90 : decode cX0_turnWing 90 = .ok (.iastore, 1) := by decide +kernel
theorem dX0_turnWing_91 : decode cX0_turnWing 91 = .ok (.aload_n 0, 1) := by decide +kernel
theorem dX0_turnWing_92 : decode cX0_turnWing 92 = .ok (.getfield 21, 3) := by decide +kernel
theorem dX0_turnWing_95 : decode cX0_turnWing 95 = .ok (.iload 6, 2) := by decide +kernel
theorem dX0_turnWing_97 : decode cX0_turnWing 97 = .ok (.lload 13, 2) := by decide +kernel
theorem dX0_turnWing_99 : decode cX0_turnWing 99 = .ok (.lload 7, 2) := by decide +kernel
theorem dX0_turnWing_101 : decode cX0_turnWing 101 = .ok (.lmul, 1) := by decide +kernel
theorem dX0_turnWing_102 : decode cX0_turnWing 102 = .ok (.lload 11, 2) := by decide +kernel
theorem dX0_turnWing_104 : decode cX0_turnWing 104 = .ok (.lload 9, 2) := by decide +kernel
theorem dX0_turnWing_106 : decode cX0_turnWing 106 = .ok (.lmul, 1) := by decide +kernel
theorem dX0_turnWing_107 : decode cX0_turnWing 107 = .ok (.lsub, 1) := by decide +kernel
theorem dX0_turnWing_108 : decode cX0_turnWing 108 = .ok (.lload 4, 2) := by decide +kernel
theorem dX0_turnWing_110 : decode cX0_turnWing 110 = .ok (.ladd, 1) := by decide +kernel
theorem dX0_turnWing_111 : decode cX0_turnWing 111 = .ok (.bipush 14, 2) := by decide +kernel
theorem dX0_turnWing_113 : decode cX0_turnWing 113 = .ok (.lshr, 1) := by decide +kernel
theorem dX0_turnWing_114 : decode cX0_turnWing 114 = .ok (.l2i, 1) := by decide +kernel
theorem dX0_turnWing_115 : decode cX0_turnWing 115 = .ok (.iastore, 1) := by decide +kernel
theorem dX0_turnWing_116 : decode cX0_turnWing 116 = .ok (.iinc 6 1, 3) := by decide +kernel
theorem dX0_turnWing_119 : decode cX0_turnWing 119 = .ok (.goto (-109), 3) := by decide +kernel
theorem dX0_turnWing_122 : decode cX0_turnWing 122 = .ok (.return_, 1) := by decide +kernel
theorem dX0_addTwo_0 : decode cX0_addTwo 0 = .ok (.aload_n 0, 1) := by decide +kernel
theorem dX0_addTwo_1 : decode cX0_addTwo 1 = .ok (.getfield 18, 3) := by decide +kernel
theorem dX0_addTwo_4 : decode cX0_addTwo 4 = .ok (.iconst 0, 1) := by decide +kernel
theorem dX0_addTwo_5 : decode cX0_addTwo 5 = .ok (.iaload, 1) := by decide +kernel
theorem dX0_addTwo_6 : decode cX0_addTwo 6 = .ok (.istore_n 1, 1) := by decide +kernel
theorem dX0_addTwo_7 : decode cX0_addTwo 7 = .ok (.aload_n 0, 1) := by decide +kernel
theorem dX0_addTwo_8 : decode cX0_addTwo 8 = .ok (.getfield 21, 3) := by decide +kernel
theorem dX0_addTwo_11 : decode cX0_addTwo 11 = .ok (.iconst 0, 1) := by decide +kernel
theorem dX0_addTwo_12 : decode cX0_addTwo 12 = .ok (.iaload, 1) := by decide +kernel
theorem dX0_addTwo_13 : decode cX0_addTwo 13 = .ok (.istore_n 2, 1) := by decide +kernel
theorem dX0_addTwo_14 : decode cX0_addTwo 14 = .ok (.aload_n 0, 1) := by decide +kernel
theorem dX0_addTwo_15 : decode cX0_addTwo 15 = .ok (.getfield 18, 3) := by decide +kernel
theorem dX0_addTwo_18 : decode cX0_addTwo 18 = .ok (.iconst 0, 1) := by decide +kernel
theorem dX0_addTwo_19 : decode cX0_addTwo 19 = .ok (.iload_n 1, 1) := by decide +kernel
theorem dX0_addTwo_20 : decode cX0_addTwo 20 = .ok (.aload_n 0, 1) := by decide +kernel
theorem dX0_addTwo_21 : decode cX0_addTwo 21 = .ok (.getfield 18, 3) := by decide +kernel
theorem dX0_addTwo_24 : decode cX0_addTwo 24 = .ok (.iconst 1, 1) := by decide +kernel
theorem dX0_addTwo_25 : decode cX0_addTwo 25 = .ok (.iaload, 1) := by decide +kernel
theorem dX0_addTwo_26 : decode cX0_addTwo 26 = .ok (.iadd, 1) := by decide +kernel
theorem dX0_addTwo_27 : decode cX0_addTwo 27 = .ok (.iastore, 1) := by decide +kernel
theorem dX0_addTwo_28 : decode cX0_addTwo 28 = .ok (.aload_n 0, 1) := by decide +kernel
theorem dX0_addTwo_29 : decode cX0_addTwo 29 = .ok (.getfield 21, 3) := by decide +kernel
theorem dX0_addTwo_32 : decode cX0_addTwo 32 = .ok (.iconst 0, 1) := by decide +kernel
theorem dX0_addTwo_33 : decode cX0_addTwo 33 = .ok (.iload_n 2, 1) := by decide +kernel
theorem dX0_addTwo_34 : decode cX0_addTwo 34 = .ok (.aload_n 0, 1) := by decide +kernel
theorem dX0_addTwo_35 : decode cX0_addTwo 35 = .ok (.getfield 21, 3) := by decide +kernel
theorem dX0_addTwo_38 : decode cX0_addTwo 38 = .ok (.iconst 1, 1) := by decide +kernel
theorem dX0_addTwo_39 : decode cX0_addTwo 39 = .ok (.iaload, 1) := by decide +kernel
theorem dX0_addTwo_40 : decode cX0_addTwo 40 = .ok (.iadd, 1) := by decide +kernel
theorem dX0_addTwo_41 : decode cX0_addTwo 41 = .ok (.iastore, 1) := by decide +kernel
theorem dX0_addTwo_42 : decode cX0_addTwo 42 = .ok (.aload_n 0, 1) := by decide +kernel
theorem dX0_addTwo_43 : decode cX0_addTwo 43 = .ok (.getfield 18, 3) := by decide +kernel
theorem dX0_addTwo_46 : decode cX0_addTwo 46 = .ok (.iconst 1, 1) := by decide +kernel
theorem dX0_addTwo_47 : decode cX0_addTwo 47 = .ok (.iload_n 1, 1) := by decide +kernel
theorem dX0_addTwo_48 : decode cX0_addTwo 48 = .ok (.aload_n 0, 1) := by decide +kernel
theorem dX0_addTwo_49 : decode cX0_addTwo 49 = .ok (.getfield 18, 3) := by decide +kernel
theorem dX0_addTwo_52 : decode cX0_addTwo 52 = .ok (.iconst 1, 1) := by decide +kernel
theorem dX0_addTwo_53 : decode cX0_addTwo 53 = .ok (.iaload, 1) := by decide +kernel
theorem dX0_addTwo_54 : decode cX0_addTwo 54 = .ok (.isub, 1) := by decide +kernel
theorem dX0_addTwo_55 : decode cX0_addTwo 55 = .ok (.iastore, 1) := by decide +kernel
theorem dX0_addTwo_56 : decode cX0_addTwo 56 = .ok (.aload_n 0, 1) := by decide +kernel
theorem dX0_addTwo_57 : decode cX0_addTwo 57 = .ok (.getfield 21, 3) := by decide +kernel
theorem dX0_addTwo_60 : decode cX0_addTwo 60 = .ok (.iconst 1, 1) := by decide +kernel
theorem dX0_addTwo_61 : decode cX0_addTwo 61 = .ok (.iload_n 2, 1) := by decide +kernel
theorem dX0_addTwo_62 : decode cX0_addTwo 62 = .ok (.aload_n 0, 1) := by decide +kernel
theorem dX0_addTwo_63 : decode cX0_addTwo 63 = .ok (.getfield 21, 3) := by decide +kernel
theorem dX0_addTwo_66 : decode cX0_addTwo 66 = .ok (.iconst 1, 1) := by decide +kernel
theorem dX0_addTwo_67 : decode cX0_addTwo 67 = .ok (.iaload, 1) := by decide +kernel
theorem dX0_addTwo_68 : decode cX0_addTwo 68 = .ok (.isub, 1) := by decide +kernel
theorem dX0_addTwo_69 : decode cX0_addTwo 69 = .ok (.iastore, 1) := by decide +kernel
theorem dX0_addTwo_70 : decode cX0_addTwo 70 = .ok (.return_, 1) := by decide +kernel
theorem dX0_addFour_0 : decode cX0_addFour 0 = .ok (.aload_n 0, 1) := by decide +kernel
theorem dX0_addFour_1 : decode cX0_addFour 1 = .ok (.getfield 18, 3) := by decide +kernel
theorem dX0_addFour_4 : decode cX0_addFour 4 = .ok (.iconst 0, 1) := by decide +kernel
theorem dX0_addFour_5 : decode cX0_addFour 5 = .ok (.iaload, 1) := by decide +kernel
theorem dX0_addFour_6 : decode cX0_addFour 6 = .ok (.aload_n 0, 1) := by decide +kernel
theorem dX0_addFour_7 : decode cX0_addFour 7 = .ok (.getfield 18, 3) := by decide +kernel
theorem dX0_addFour_10 : decode cX0_addFour 10 = .ok (.iconst 2, 1) := by decide +kernel
theorem dX0_addFour_11 : decode cX0_addFour 11 = .ok (.iaload, 1) := by decide +kernel
theorem dX0_addFour_12 : decode cX0_addFour 12 = .ok (.iadd, 1) := by decide +kernel
theorem dX0_addFour_13 : decode cX0_addFour 13 = .ok (.istore_n 1, 1) := by decide +kernel
theorem dX0_addFour_14 : decode cX0_addFour 14 = .ok (.aload_n 0, 1) := by decide +kernel
theorem dX0_addFour_15 : decode cX0_addFour 15 = .ok (.getfield 21, 3) := by decide +kernel
theorem dX0_addFour_18 : decode cX0_addFour 18 = .ok (.iconst 0, 1) := by decide +kernel
theorem dX0_addFour_19 : decode cX0_addFour 19 = .ok (.iaload, 1) := by decide +kernel
theorem dX0_addFour_20 : decode cX0_addFour 20 = .ok (.aload_n 0, 1) := by decide +kernel
theorem dX0_addFour_21 : decode cX0_addFour 21 = .ok (.getfield 21, 3) := by decide +kernel
theorem dX0_addFour_24 : decode cX0_addFour 24 = .ok (.iconst 2, 1) := by decide +kernel
theorem dX0_addFour_25 : decode cX0_addFour 25 = .ok (.iaload, 1) := by decide +kernel
theorem dX0_addFour_26 : decode cX0_addFour 26 = .ok (.iadd, 1) := by decide +kernel
theorem dX0_addFour_27 : decode cX0_addFour 27 = .ok (.istore_n 2, 1) := by decide +kernel
theorem dX0_addFour_28 : decode cX0_addFour 28 = .ok (.aload_n 0, 1) := by decide +kernel
theorem dX0_addFour_29 : decode cX0_addFour 29 = .ok (.getfield 18, 3) := by decide +kernel
theorem dX0_addFour_32 : decode cX0_addFour 32 = .ok (.iconst 0, 1) := by decide +kernel
theorem dX0_addFour_33 : decode cX0_addFour 33 = .ok (.iaload, 1) := by decide +kernel
theorem dX0_addFour_34 : decode cX0_addFour 34 = .ok (.aload_n 0, 1) := by decide +kernel
theorem dX0_addFour_35 : decode cX0_addFour 35 = .ok (.getfield 18, 3) := by decide +kernel
theorem dX0_addFour_38 : decode cX0_addFour 38 = .ok (.iconst 2, 1) := by decide +kernel
theorem dX0_addFour_39 : decode cX0_addFour 39 = .ok (.iaload, 1) := by decide +kernel
theorem dX0_addFour_40 : decode cX0_addFour 40 = .ok (.isub, 1) := by decide +kernel
theorem dX0_addFour_41 : decode cX0_addFour 41 = .ok (.istore_n 3, 1) := by decide +kernel
theorem dX0_addFour_42 : decode cX0_addFour 42 = .ok (.aload_n 0, 1) := by decide +kernel
theorem dX0_addFour_43 : decode cX0_addFour 43 = .ok (.getfield 21, 3) := by decide +kernel
theorem dX0_addFour_46 : decode cX0_addFour 46 = .ok (.iconst 0, 1) := by decide +kernel
theorem dX0_addFour_47 : decode cX0_addFour 47 = .ok (.iaload, 1) := by decide +kernel
theorem dX0_addFour_48 : decode cX0_addFour 48 = .ok (.aload_n 0, 1) := by decide +kernel
theorem dX0_addFour_49 : decode cX0_addFour 49 = .ok (.getfield 21, 3) := by decide +kernel
theorem dX0_addFour_52 : decode cX0_addFour 52 = .ok (.iconst 2, 1) := by decide +kernel
theorem dX0_addFour_53 : decode cX0_addFour 53 = .ok (.iaload, 1) := by decide +kernel
theorem dX0_addFour_54 : decode cX0_addFour 54 = .ok (.isub, 1) := by decide +kernel
theorem dX0_addFour_55 : decode cX0_addFour 55 = .ok (.istore 4, 2) := by decide +kernel
theorem dX0_addFour_57 : decode cX0_addFour 57 = .ok (.aload_n 0, 1) := by decide +kernel
theorem dX0_addFour_58 : decode cX0_addFour 58 = .ok (.getfield 18, 3) := by decide +kernel
theorem dX0_addFour_61 : decode cX0_addFour 61 = .ok (.iconst 1, 1) := by decide +kernel
theorem dX0_addFour_62 : decode cX0_addFour 62 = .ok (.iaload, 1) := by decide +kernel
theorem dX0_addFour_63 : decode cX0_addFour 63 = .ok (.aload_n 0, 1) := by decide +kernel
theorem dX0_addFour_64 : decode cX0_addFour 64 = .ok (.getfield 18, 3) := by decide +kernel
theorem dX0_addFour_67 : decode cX0_addFour 67 = .ok (.iconst 3, 1) := by decide +kernel
theorem dX0_addFour_68 : decode cX0_addFour 68 = .ok (.iaload, 1) := by decide +kernel
theorem dX0_addFour_69 : decode cX0_addFour 69 = .ok (.iadd, 1) := by decide +kernel
theorem dX0_addFour_70 : decode cX0_addFour 70 = .ok (.istore 5, 2) := by decide +kernel
theorem dX0_addFour_72 : decode cX0_addFour 72 = .ok (.aload_n 0, 1) := by decide +kernel
theorem dX0_addFour_73 : decode cX0_addFour 73 = .ok (.getfield 21, 3) := by decide +kernel
theorem dX0_addFour_76 : decode cX0_addFour 76 = .ok (.iconst 1, 1) := by decide +kernel
theorem dX0_addFour_77 : decode cX0_addFour 77 = .ok (.iaload, 1) := by decide +kernel
theorem dX0_addFour_78 : decode cX0_addFour 78 = .ok (.aload_n 0, 1) := by decide +kernel
theorem dX0_addFour_79 : decode cX0_addFour 79 = .ok (.getfield 21, 3) := by decide +kernel
theorem dX0_addFour_82 : decode cX0_addFour 82 = .ok (.iconst 3, 1) := by decide +kernel
theorem dX0_addFour_83 : decode cX0_addFour 83 = .ok (.iaload, 1) := by decide +kernel
theorem dX0_addFour_84 : decode cX0_addFour 84 = .ok (.iadd, 1) := by decide +kernel
theorem dX0_addFour_85 : decode cX0_addFour 85 = .ok (.istore 6, 2) := by decide +kernel
theorem dX0_addFour_87 : decode cX0_addFour 87 = .ok (.aload_n 0, 1) := by decide +kernel
theorem dX0_addFour_88 : decode cX0_addFour 88 = .ok (.getfield 21, 3) := by decide +kernel
theorem dX0_addFour_91 : decode cX0_addFour 91 = .ok (.iconst 3, 1) := by decide +kernel
theorem dX0_addFour_92 : decode cX0_addFour 92 = .ok (.iaload, 1) := by decide +kernel
theorem dX0_addFour_93 : decode cX0_addFour 93 = .ok (.aload_n 0, 1) := by decide +kernel
theorem dX0_addFour_94 : decode cX0_addFour 94 = .ok (.getfield 21, 3) := by decide +kernel
theorem dX0_addFour_97 : decode cX0_addFour 97 = .ok (.iconst 1, 1) := by decide +kernel
theorem dX0_addFour_98 : decode cX0_addFour 98 = .ok (.iaload, 1) := by decide +kernel
theorem dX0_addFour_99 : decode cX0_addFour 99 = .ok (.isub, 1) := by decide +kernel
theorem dX0_addFour_100 : decode cX0_addFour 100 = .ok (.istore 7, 2) := by decide +kernel
theorem dX0_addFour_102 : decode cX0_addFour 102 = .ok (.aload_n 0, 1) := by decide +kernel
theorem dX0_addFour_103 : decode cX0_addFour 103 = .ok (.getfield 18, 3) := by decide +kernel
theorem dX0_addFour_106 : decode cX0_addFour 106 = .ok (.iconst 1, 1) := by decide +kernel
theorem dX0_addFour_107 : decode cX0_addFour 107 = .ok (.iaload, 1) := by decide +kernel
theorem dX0_addFour_108 : decode cX0_addFour 108 = .ok (.aload_n 0, 1) := by decide +kernel
theorem dX0_addFour_109 : decode cX0_addFour 109 = .ok (.getfield 18, 3) := by decide +kernel
theorem dX0_addFour_112 : decode cX0_addFour 112 = .ok (.iconst 3, 1) := by decide +kernel
theorem dX0_addFour_113 : decode cX0_addFour 113 = .ok (.iaload, 1) := by decide +kernel
theorem dX0_addFour_114 : decode cX0_addFour 114 = .ok (.isub, 1) := by decide +kernel
theorem dX0_addFour_115 : decode cX0_addFour 115 = .ok (.istore 8, 2) := by decide +kernel
theorem dX0_addFour_117 : decode cX0_addFour 117 = .ok (.aload_n 0, 1) := by decide +kernel
theorem dX0_addFour_118 : decode cX0_addFour 118 = .ok (.getfield 18, 3) := by decide +kernel
theorem dX0_addFour_121 : decode cX0_addFour 121 = .ok (.iconst 0, 1) := by decide +kernel
theorem dX0_addFour_122 : decode cX0_addFour 122 = .ok (.iload_n 1, 1) := by decide +kernel
theorem dX0_addFour_123 : decode cX0_addFour 123 = .ok (.iload 5, 2) := by decide +kernel
theorem dX0_addFour_125 : decode cX0_addFour 125 = .ok (.iadd, 1) := by decide +kernel
theorem dX0_addFour_126 : decode cX0_addFour 126 = .ok (.iastore, 1) := by decide +kernel
theorem dX0_addFour_127 : decode cX0_addFour 127 = .ok (.aload_n 0, 1) := by decide +kernel
theorem dX0_addFour_128 : decode cX0_addFour 128 = .ok (.getfield 21, 3) := by decide +kernel
theorem dX0_addFour_131 : decode cX0_addFour 131 = .ok (.iconst 0, 1) := by decide +kernel
theorem dX0_addFour_132 : decode cX0_addFour 132 = .ok (.iload_n 2, 1) := by decide +kernel
theorem dX0_addFour_133 : decode cX0_addFour 133 = .ok (.iload 6, 2) := by decide +kernel
theorem dX0_addFour_135 : decode cX0_addFour 135 = .ok (.iadd, 1) := by decide +kernel
theorem dX0_addFour_136 : decode cX0_addFour 136 = .ok (.iastore, 1) := by decide +kernel
theorem dX0_addFour_137 : decode cX0_addFour 137 = .ok (.aload_n 0, 1) := by decide +kernel
theorem dX0_addFour_138 : decode cX0_addFour 138 = .ok (.getfield 18, 3) := by decide +kernel
theorem dX0_addFour_141 : decode cX0_addFour 141 = .ok (.iconst 1, 1) := by decide +kernel
theorem dX0_addFour_142 : decode cX0_addFour 142 = .ok (.iload_n 3, 1) := by decide +kernel
theorem dX0_addFour_143 : decode cX0_addFour 143 = .ok (.iload 7, 2) := by decide +kernel
theorem dX0_addFour_145 : decode cX0_addFour 145 = .ok (.isub, 1) := by decide +kernel
theorem dX0_addFour_146 : decode cX0_addFour 146 = .ok (.iastore, 1) := by decide +kernel
theorem dX0_addFour_147 : decode cX0_addFour 147 = .ok (.aload_n 0, 1) := by decide +kernel
theorem dX0_addFour_148 : decode cX0_addFour 148 = .ok (.getfield 21, 3) := by decide +kernel
theorem dX0_addFour_151 : decode cX0_addFour 151 = .ok (.iconst 1, 1) := by decide +kernel
theorem dX0_addFour_152 : decode cX0_addFour 152 = .ok (.iload 4, 2) := by decide +kernel
theorem dX0_addFour_154 : decode cX0_addFour 154 = .ok (.iload 8, 2) := by decide +kernel
theorem dX0_addFour_156 : decode cX0_addFour 156 = .ok (.isub, 1) := by decide +kernel
theorem dX0_addFour_157 : decode cX0_addFour 157 = .ok (.iastore, 1) := by decide +kernel
theorem dX0_addFour_158 : decode cX0_addFour 158 = .ok (.aload_n 0, 1) := by decide +kernel
theorem dX0_addFour_159 : decode cX0_addFour 159 = .ok (.getfield 18, 3) := by decide +kernel
theorem dX0_addFour_162 : decode cX0_addFour 162 = .ok (.iconst 2, 1) := by decide +kernel
theorem dX0_addFour_163 : decode cX0_addFour 163 = .ok (.iload_n 1, 1) := by decide +kernel
theorem dX0_addFour_164 : decode cX0_addFour 164 = .ok (.iload 5, 2) := by decide +kernel
theorem dX0_addFour_166 : decode cX0_addFour 166 = .ok (.isub, 1) := by decide +kernel
theorem dX0_addFour_167 : decode cX0_addFour 167 = .ok (.iastore, 1) := by decide +kernel
theorem dX0_addFour_168 : decode cX0_addFour 168 = .ok (.aload_n 0, 1) := by decide +kernel
theorem dX0_addFour_169 : decode cX0_addFour 169 = .ok (.getfield 21, 3) := by decide +kernel
theorem dX0_addFour_172 : decode cX0_addFour 172 = .ok (.iconst 2, 1) := by decide +kernel
theorem dX0_addFour_173 : decode cX0_addFour 173 = .ok (.iload_n 2, 1) := by decide +kernel
theorem dX0_addFour_174 : decode cX0_addFour 174 = .ok (.iload 6, 2) := by decide +kernel
theorem dX0_addFour_176 : decode cX0_addFour 176 = .ok (.isub, 1) := by decide +kernel
theorem dX0_addFour_177 : decode cX0_addFour 177 = .ok (.iastore, 1) := by decide +kernel
theorem dX0_addFour_178 : decode cX0_addFour 178 = .ok (.aload_n 0, 1) := by decide +kernel
theorem dX0_addFour_179 : decode cX0_addFour 179 = .ok (.getfield 18, 3) := by decide +kernel
theorem dX0_addFour_182 : decode cX0_addFour 182 = .ok (.iconst 3, 1) := by decide +kernel
theorem dX0_addFour_183 : decode cX0_addFour 183 = .ok (.iload_n 3, 1) := by decide +kernel
theorem dX0_addFour_184 : decode cX0_addFour 184 = .ok (.iload 7, 2) := by decide +kernel
theorem dX0_addFour_186 : decode cX0_addFour 186 = .ok (.iadd, 1) := by decide +kernel
theorem dX0_addFour_187 : decode cX0_addFour 187 = .ok (.iastore, 1) := by decide +kernel
theorem dX0_addFour_188 : decode cX0_addFour 188 = .ok (.aload_n 0, 1) := by decide +kernel
theorem dX0_addFour_189 : decode cX0_addFour 189 = .ok (.getfield 21, 3) := by decide +kernel
theorem dX0_addFour_192 : decode cX0_addFour 192 = .ok (.iconst 3, 1) := by decide +kernel
theorem dX0_addFour_193 : decode cX0_addFour 193 = .ok (.iload 4, 2) := by decide +kernel
theorem dX0_addFour_195 : decode cX0_addFour 195 = .ok (.iload 8, 2) := by decide +kernel
theorem dX0_addFour_197 : decode cX0_addFour 197 = .ok (.iadd, 1) := by decide +kernel
theorem dX0_addFour_198 : decode cX0_addFour 198 = .ok (.iastore, 1) := by decide +kernel
theorem dX0_addFour_199 : decode cX0_addFour 199 = .ok (.return_, 1) := by decide +kernel
theorem dX4_init_0 : decode cX4_init 0 = .ok (.aload_n 0, 1) := by decide +kernel
theorem dX4_init_1 : decode cX4_init 1 = .ok (.invokespecial 3, 3) := by decide +kernel
theorem dX4_init_4 : decode cX4_init 4 = .ok (.aload_n 0, 1) := by decide +kernel
theorem dX4_init_5 : decode cX4_init 5 = .ok (.new 9, 3) := by decide +kernel
theorem dX4_init_8 : decode cX4_init 8 = .ok (.dup, 1) := by decide +kernel
theorem dX4_init_9 : decode cX4_init 9 = .ok (.invokespecial 11, 3) := by decide +kernel
theorem dX4_init_12 : decode cX4_init 12 = .ok (.putfield 12, 3) := by decide +kernel
theorem dX4_init_15 : decode cX4_init 15 = .ok (.aload_n 0, 1) := by decide +kernel
theorem dX4_init_16 : decode cX4_init 16 = .ok (.bipush 32, 2) := by decide +kernel
theorem dX4_init_18 : decode cX4_init 18 = .ok (.newarray .int, 2) := by decide +kernel
theorem dX4_init_20 : decode cX4_init 20 = .ok (.putfield 18, 3) := by decide +kernel
theorem dX4_init_23 : decode cX4_init 23 = .ok (.aload_n 0, 1) := by decide +kernel
theorem dX4_init_24 : decode cX4_init 24 = .ok (.bipush 32, 2) := by decide +kernel
theorem dX4_init_26 : decode cX4_init 26 = .ok (.newarray .int, 2) := by decide +kernel
theorem dX4_init_28 : decode cX4_init 28 = .ok (.putfield 22, 3) := by decide +kernel
theorem dX4_init_31 : decode cX4_init 31 = .ok (.aload_n 0, 1) := by decide +kernel
theorem dX4_init_32 : decode cX4_init 32 = .ok (.iconst 0, 1) := by decide +kernel
theorem dX4_init_33 : decode cX4_init 33 = .ok (.putfield 25, 3) := by decide +kernel
theorem dX4_init_36 : decode cX4_init 36 = .ok (.aload_n 0, 1) := by decide +kernel
theorem dX4_init_37 : decode cX4_init 37 = .ok (.iconst (-1), 1) := by decide +kernel
theorem dX4_init_38 : decode cX4_init 38 = .ok (.putfield 29, 3) := by decide +kernel
theorem dX4_init_41 : decode cX4_init 41 = .ok (.return_, 1) := by decide +kernel
theorem dX4_readAll_0 : decode cX4_readAll 0 = .ok (.aload_n 0, 1) := by decide +kernel
theorem dX4_readAll_1 : decode cX4_readAll 1 = .ok (.iload_n 2, 1) := by decide +kernel
theorem dX4_readAll_2 : decode cX4_readAll 2 = .ok (.invokevirtual 32, 3) := by decide +kernel
theorem dX4_readAll_5 : decode cX4_readAll 5 = .ok (.iconst 0, 1) := by decide +kernel
theorem dX4_readAll_6 : decode cX4_readAll 6 = .ok (.istore_n 3, 1) := by decide +kernel
theorem dX4_readAll_7 : decode cX4_readAll 7 = .ok (.aload_n 0, 1) := by decide +kernel
theorem dX4_readAll_8 : decode cX4_readAll 8 = .ok (.aload_n 1, 1) := by decide +kernel
theorem dX4_readAll_9 : decode cX4_readAll 9 = .ok (.invokevirtual 36, 3) := by decide +kernel
theorem dX4_readAll_12 : decode cX4_readAll 12 = .ok (.iload_n 3, 1) := by decide +kernel
theorem dX4_readAll_13 : decode cX4_readAll 13 = .ok (.sipush 700, 3) := by decide +kernel
theorem dX4_readAll_16 : decode cX4_readAll 16 = .ok (.if_icmp .ge 31, 3) := by decide +kernel
theorem dX4_readAll_19 : decode cX4_readAll 19 = .ok (.aload_n 0, 1) := by decide +kernel
theorem dX4_readAll_20 : decode cX4_readAll 20 = .ok (.getfield 40, 3) := by decide +kernel
theorem dX4_readAll_23 : decode cX4_readAll 23 = .ok (.ifCond .eq 24, 3) := by decide +kernel
theorem dX4_readAll_26 : decode cX4_readAll 26 = .ok (.aload_n 0, 1) := by decide +kernel
theorem dX4_readAll_27 : decode cX4_readAll 27 = .ok (.aload_n 1, 1) := by decide +kernel
theorem dX4_readAll_28 : decode cX4_readAll 28 = .ok (.invokevirtual 43, 3) := by decide +kernel
theorem dX4_readAll_31 : decode cX4_readAll 31 = .ok (.ifCond .ne 5, 3) := by decide +kernel
theorem dX4_readAll_34 : decode cX4_readAll 34 = .ok (.iconst (-1), 1) := by decide +kernel
theorem dX4_readAll_35 : decode cX4_readAll 35 = .ok (.ireturn, 1) := by decide +kernel
theorem dX4_readAll_36 : decode cX4_readAll 36 = .ok (.iinc 3 1, 3) := by decide +kernel
theorem dX4_readAll_39 : decode cX4_readAll 39 = .ok (.aload_n 0, 1) := by decide +kernel
theorem dX4_readAll_40 : decode cX4_readAll 40 = .ok (.aload_n 1, 1) := by decide +kernel
theorem dX4_readAll_41 : decode cX4_readAll 41 = .ok (.invokevirtual 36, 3) := by decide +kernel
theorem dX4_readAll_44 : decode cX4_readAll 44 = .ok (.goto (-32), 3) := by decide +kernel
theorem dX4_readAll_47 : decode cX4_readAll 47 = .ok (.iload_n 3, 1) := by decide +kernel
theorem dX4_readAll_48 : decode cX4_readAll 48 = .ok (.ireturn, 1) := by decide +kernel
theorem dX4_begin_0 : decode cX4_begin 0 = .ok (.aload_n 0, 1) := by decide +kernel
theorem dX4_begin_1 : decode cX4_begin 1 = .ok (.getfield 12, 3) := by decide +kernel
theorem dX4_begin_4 : decode cX4_begin 4 = .ok (.invokevirtual 47, 3) := by decide +kernel
theorem dX4_begin_7 : decode cX4_begin 7 = .ok (.iconst 0, 1) := by decide +kernel
theorem dX4_begin_8 : decode cX4_begin 8 = .ok (.istore_n 2, 1) := by decide +kernel
theorem dX4_begin_9 : decode cX4_begin 9 = .ok (.iload_n 2, 1) := by decide +kernel
theorem dX4_begin_10 : decode cX4_begin 10 = .ok (.bipush 32, 2) := by decide +kernel
theorem dX4_begin_12 : decode cX4_begin 12 = .ok (.if_icmp .ge 23, 3) := by decide +kernel
theorem dX4_begin_15 : decode cX4_begin 15 = .ok (.aload_n 0, 1) := by decide +kernel
theorem dX4_begin_16 : decode cX4_begin 16 = .ok (.getfield 18, 3) := by decide +kernel
theorem dX4_begin_19 : decode cX4_begin 19 = .ok (.iload_n 2, 1) := by decide +kernel
theorem dX4_begin_20 : decode cX4_begin 20 = .ok (.iconst 0, 1) := by decide +kernel
theorem dX4_begin_21 : decode cX4_begin 21 = .ok (.iastore, 1) := by decide +kernel
theorem dX4_begin_22 : decode cX4_begin 22 = .ok (.aload_n 0, 1) := by decide +kernel
theorem dX4_begin_23 : decode cX4_begin 23 = .ok (.getfield 22, 3) := by decide +kernel
theorem dX4_begin_26 : decode cX4_begin 26 = .ok (.iload_n 2, 1) := by decide +kernel
theorem dX4_begin_27 : decode cX4_begin 27 = .ok (.iconst 0, 1) := by decide +kernel
theorem dX4_begin_28 : decode cX4_begin 28 = .ok (.iastore, 1) := by decide +kernel
theorem dX4_begin_29 : decode cX4_begin 29 = .ok (.iinc 2 1, 3) := by decide +kernel
theorem dX4_begin_32 : decode cX4_begin 32 = .ok (.goto (-23), 3) := by decide +kernel
theorem dX4_begin_35 : decode cX4_begin 35 = .ok (.aload_n 0, 1) := by decide +kernel
theorem dX4_begin_36 : decode cX4_begin 36 = .ok (.iconst 0, 1) := by decide +kernel
theorem dX4_begin_37 : decode cX4_begin 37 = .ok (.putfield 25, 3) := by decide +kernel
theorem dX4_begin_40 : decode cX4_begin 40 = .ok (.aload_n 0, 1) := by decide +kernel
theorem dX4_begin_41 : decode cX4_begin 41 = .ok (.iconst (-1), 1) := by decide +kernel
theorem dX4_begin_42 : decode cX4_begin 42 = .ok (.putfield 29, 3) := by decide +kernel
theorem dX4_begin_45 : decode cX4_begin 45 = .ok (.aload_n 0, 1) := by decide +kernel
theorem dX4_begin_46 : decode cX4_begin 46 = .ok (.iconst 0, 1) := by decide +kernel
theorem dX4_begin_47 : decode cX4_begin 47 = .ok (.putfield 50, 3) := by decide +kernel
theorem dX4_begin_50 : decode cX4_begin 50 = .ok (.aload_n 0, 1) := by decide +kernel
theorem dX4_begin_51 : decode cX4_begin 51 = .ok (.iconst 0, 1) := by decide +kernel
theorem dX4_begin_52 : decode cX4_begin 52 = .ok (.putfield 53, 3) := by decide +kernel
theorem dX4_begin_55 : decode cX4_begin 55 = .ok (.aload_n 0, 1) := by decide +kernel
theorem dX4_begin_56 : decode cX4_begin 56 = .ok (.iconst 0, 1) := by decide +kernel
theorem dX4_begin_57 : decode cX4_begin 57 = .ok (.putfield 56, 3) := by decide +kernel
theorem dX4_begin_60 : decode cX4_begin 60 = .ok (.aload_n 0, 1) := by decide +kernel
theorem dX4_begin_61 : decode cX4_begin 61 = .ok (.iload_n 1, 1) := by decide +kernel
theorem dX4_begin_62 : decode cX4_begin 62 = .ok (.putfield 59, 3) := by decide +kernel
theorem dX4_begin_65 : decode cX4_begin 65 = .ok (.aload_n 0, 1) := by decide +kernel
theorem dX4_begin_66 : decode cX4_begin 66 = .ok (.iconst 0, 1) := by decide +kernel
theorem dX4_begin_67 : decode cX4_begin 67 = .ok (.putfield 62, 3) := by decide +kernel
theorem dX4_begin_70 : decode cX4_begin 70 = .ok (.return_, 1) := by decide +kernel
theorem dX4_failAtToken_0 : decode cX4_failAtToken 0 = .ok (.aload_n 0, 1) := by decide +kernel
theorem dX4_failAtToken_1 : decode cX4_failAtToken 1 = .ok (.iload_n 1, 1) := by decide +kernel
theorem dX4_failAtToken_2 : decode cX4_failAtToken 2 = .ok (.putfield 25, 3) := by decide +kernel
theorem dX4_failAtToken_5 : decode cX4_failAtToken 5 = .ok (.aload_n 0, 1) := by decide +kernel
theorem dX4_failAtToken_6 : decode cX4_failAtToken 6 = .ok (.aload_n 0, 1) := by decide +kernel
theorem dX4_failAtToken_7 : decode cX4_failAtToken 7 = .ok (.getfield 65, 3) := by decide +kernel
theorem dX4_failAtToken_10 : decode cX4_failAtToken 10 = .ok (.putfield 29, 3) := by decide +kernel
theorem dX4_failAtToken_13 : decode cX4_failAtToken 13 = .ok (.iconst 0, 1) := by decide +kernel
theorem dX4_failAtToken_14 : decode cX4_failAtToken 14 = .ok (.ireturn, 1) := by decide +kernel
theorem dX4_readLine_0 : decode cX4_readLine 0 = .ok (.aload_n 0, 1) := by decide +kernel
theorem dX4_readLine_1 : decode cX4_readLine 1 = .ok (.getfield 40, 3) := by decide +kernel
theorem dX4_readLine_4 : decode cX4_readLine 4 = .ok (.iconst 1, 1) := by decide +kernel
theorem dX4_readLine_5 : decode cX4_readLine 5 = .ok (.if_icmp .ne 11, 3) := by decide +kernel
theorem dX4_readLine_8 : decode cX4_readLine 8 = .ok (.aload_n 0, 1) := by decide +kernel
theorem dX4_readLine_9 : decode cX4_readLine 9 = .ok (.aload_n 1, 1) := by decide +kernel
theorem dX4_readLine_10 : decode cX4_readLine 10 = .ok (.invokevirtual 68, 3) := by decide +kernel
theorem dX4_readLine_13 : decode cX4_readLine 13 = .ok (.goto 4, 3) := by decide +kernel
theorem dX4_readLine_16 : decode cX4_readLine 16 = .ok (.iconst (-1), 1) := by decide +kernel
theorem dX4_readLine_17 : decode cX4_readLine 17 = .ok (.istore_n 2, 1) := by decide +kernel
theorem dX4_readLine_18 : decode cX4_readLine 18 = .ok (.aload_n 0, 1) := by decide +kernel
theorem dX4_readLine_19 : decode cX4_readLine 19 = .ok (.getfield 53, 3) := by decide +kernel
theorem dX4_readLine_22 : decode cX4_readLine 22 = .ok (.aload_n 0, 1) := by decide +kernel
theorem dX4_readLine_23 : decode cX4_readLine 23 = .ok (.getfield 56, 3) := by decide +kernel
theorem dX4_readLine_26 : decode cX4_readLine 26 = .ok (.ior, 1) := by decide +kernel
theorem dX4_readLine_27 : decode cX4_readLine 27 = .ok (.ifCond .eq 7, 3) := by decide +kernel
theorem dX4_readLine_30 : decode cX4_readLine 30 = .ok (.iconst 1, 1) := by decide +kernel
theorem dX4_readLine_31 : decode cX4_readLine 31 = .ok (.goto 4, 3) := by decide +kernel
theorem dX4_readLine_34 : decode cX4_readLine 34 = .ok (.iconst 0, 1) := by decide +kernel
theorem dX4_readLine_35 : decode cX4_readLine 35 = .ok (.istore_n 3, 1) := by decide +kernel
theorem dX4_readLine_36 : decode cX4_readLine 36 = .ok (.iload_n 2, 1) := by decide +kernel
theorem dX4_readLine_37 : decode cX4_readLine 37 = .ok (.iconst (-1), 1) := by decide +kernel
theorem dX4_readLine_38 : decode cX4_readLine 38 = .ok (.if_icmp .eq 16, 3) := by decide +kernel
theorem dX4_readLine_41 : decode cX4_readLine 41 = .ok (.iload_n 3, 1) := by decide +kernel
theorem dX4_readLine_42 : decode cX4_readLine 42 = .ok (.ifCond .eq 18, 3) := by decide +kernel
theorem dX4_readLine_45 : decode cX4_readLine 45 = .ok (.iload_n 2, 1) := by decide +kernel
theorem dX4_readLine_46 : decode cX4_readLine 46 = .ok (.ifCond .eq 8, 3) := by decide +kernel
theorem dX4_readLine_49 : decode cX4_readLine 49 = .ok (.iload_n 2, 1) := by decide +kernel
theorem dX4_readLine_50 : decode cX4_readLine 50 = .ok (.iconst 1, 1) := by decide +kernel
theorem dX4_readLine_51 : decode cX4_readLine 51 = .ok (.if_icmp .ne 9, 3) := by decide +kernel
theorem dX4_readLine_54 : decode cX4_readLine 54 = .ok (.aload_n 0, 1) := by decide +kernel
theorem dX4_readLine_55 : decode cX4_readLine 55 = .ok (.iconst 1, 1) := by decide +kernel
theorem dX4_readLine_56 : decode cX4_readLine 56 = .ok (.invokevirtual 72, 3) := by decide +kernel
theorem dX4_readLine_59 : decode cX4_readLine 59 = .ok (.ireturn, 1) := by decide +kernel
theorem dX4_readLine_60 : decode cX4_readLine 60 = .ok (.iload_n 2, 1) := by decide +kernel
theorem dX4_readLine_61 : decode cX4_readLine 61 = .ok (.iconst 5, 1) := by decide +kernel
theorem dX4_readLine_62 : decode cX4_readLine 62 = .ok (.if_icmp .gt 12, 3) := by decide +kernel
theorem dX4_readLine_65 : decode cX4_readLine 65 = .ok (.aload_n 0, 1) := by decide +kernel
theorem dX4_readLine_66 : decode cX4_readLine 66 = .ok (.aload_n 1, 1) := by decide +kernel
theorem dX4_readLine_67 : decode cX4_readLine 67 = .ok (.iload_n 2, 1) := by decide +kernel
theorem dX4_readLine_68 : decode cX4_readLine 68 = .ok (.invokevirtual 76, 3) := by decide +kernel
theorem dX4_readLine_71 : decode cX4_readLine 71 = .ok (.goto 9, 3) := by decide +kernel
theorem dX4_readLine_74 : decode cX4_readLine 74 = .ok (.aload_n 0, 1) := by decide +kernel
theorem dX4_readLine_75 : decode cX4_readLine 75 = .ok (.aload_n 1, 1) := by decide +kernel
theorem dX4_readLine_76 : decode cX4_readLine 76 = .ok (.iload_n 2, 1) := by decide +kernel
theorem dX4_readLine_77 : decode cX4_readLine 77 = .ok (.invokevirtual 80, 3) := by decide +kernel
theorem dX4_readLine_80 : decode cX4_readLine 80 = .ok (.istore 4, 2) := by decide +kernel
theorem dX4_readLine_82 : decode cX4_readLine 82 = .ok (.iload 4, 2) := by decide +kernel
theorem dX4_readLine_84 : decode cX4_readLine 84 = .ok (.ifCond .ne 5, 3) := by decide +kernel
theorem dX4_readLine_87 : decode cX4_readLine 87 = .ok (.iconst 0, 1) := by decide +kernel
theorem dX4_readLine_88 : decode cX4_readLine 88 = .ok (.ireturn, 1) := by decide +kernel
theorem dX4_readLine_89 : decode cX4_readLine 89 = .ok (.aload_n 0, 1) := by decide +kernel
theorem dX4_readLine_90 : decode cX4_readLine 90 = .ok (.aload_n 1, 1) := by decide +kernel
theorem dX4_readLine_91 : decode cX4_readLine 91 = .ok (.invokevirtual 36, 3) := by decide +kernel
theorem dX4_readLine_94 : decode cX4_readLine 94 = .ok (.aload_n 0, 1) := by decide +kernel
theorem dX4_readLine_95 : decode cX4_readLine 95 = .ok (.getfield 40, 3) := by decide +kernel
theorem dX4_readLine_98 : decode cX4_readLine 98 = .ok (.iconst 3, 1) := by decide +kernel
theorem dX4_readLine_99 : decode cX4_readLine 99 = .ok (.if_icmp .eq 11, 3) := by decide +kernel
theorem dX4_readLine_102 : decode cX4_readLine 102 = .ok (.aload_n 0, 1) := by decide +kernel
theorem dX4_readLine_103 : decode cX4_readLine 103 = .ok (.iconst 1, 1) := by decide +kernel
theorem dX4_readLine_104 : decode cX4_readLine 104 = .ok (.invokevirtual 72, 3) := by decide +kernel
theorem dX4_readLine_107 : decode cX4_readLine 107 = .ok (.ifCond .eq 7, 3) := by decide +kernel
theorem dX4_readLine_110 : decode cX4_readLine 110 = .ok (.iconst 1, 1) := by decide +kernel
theorem dX4_readLine_111 : decode cX4_readLine 111 = .ok (.goto 4, 3) := by decide +kernel
theorem dX4_readLine_114 : decode cX4_readLine 114 = .ok (.iconst 0, 1) := by decide +kernel
theorem dX4_readLine_115 : decode cX4_readLine 115 = .ok (.ireturn, 1) := by decide +kernel
theorem dX4_readSetting_0 : decode cX4_readSetting 0 = .ok (.aload_n 0, 1) := by decide +kernel
theorem dX4_readSetting_1 : decode cX4_readSetting 1 = .ok (.getfield 50, 3) := by decide +kernel
theorem dX4_readSetting_4 : decode cX4_readSetting 4 = .ok (.iload_n 2, 1) := by decide +kernel
theorem dX4_readSetting_5 : decode cX4_readSetting 5 = .ok (.ishr, 1) := by decide +kernel
theorem dX4_readSetting_6 : decode cX4_readSetting 6 = .ok (.iconst 1, 1) := by decide +kernel
theorem dX4_readSetting_7 : decode cX4_readSetting 7 = .ok (.iand, 1) := by decide +kernel
theorem dX4_readSetting_8 : decode cX4_readSetting 8 = .ok (.iconst 1, 1) := by decide +kernel
theorem dX4_readSetting_9 : decode cX4_readSetting 9 = .ok (.if_icmp .ne 9, 3) := by decide +kernel
theorem dX4_readSetting_12 : decode cX4_readSetting 12 = .ok (.aload_n 0, 1) := by decide +kernel
theorem dX4_readSetting_13 : decode cX4_readSetting 13 = .ok (.iconst 3, 1) := by decide +kernel
theorem dX4_readSetting_14 : decode cX4_readSetting 14 = .ok (.invokevirtual 72, 3) := by decide +kernel
theorem dX4_readSetting_17 : decode cX4_readSetting 17 = .ok (.ireturn, 1) := by decide +kernel
theorem dX4_readSetting_18 : decode cX4_readSetting 18 = .ok (.aload_n 0, 1) := by decide +kernel
theorem dX4_readSetting_19 : decode cX4_readSetting 19 = .ok (.dup, 1) := by decide +kernel
theorem dX4_readSetting_20 : decode cX4_readSetting 20 = .ok (.getfield 50, 3) := by decide +kernel
theorem dX4_readSetting_23 : decode cX4_readSetting 23 = .ok (.iconst 1, 1) := by decide +kernel
theorem dX4_readSetting_24 : decode cX4_readSetting 24 = .ok (.iload_n 2, 1) := by decide +kernel
theorem dX4_readSetting_25 : decode cX4_readSetting 25 = .ok (.ishl, 1) := by decide +kernel
theorem dX4_readSetting_26 : decode cX4_readSetting 26 = .ok (.ior, 1) := by decide +kernel
theorem dX4_readSetting_27 : decode cX4_readSetting 27 = .ok (.putfield 50, 3) := by decide +kernel
theorem dX4_readSetting_30 : decode cX4_readSetting 30 = .ok (.aload_n 0, 1) := by decide +kernel
theorem dX4_readSetting_31 : decode cX4_readSetting 31 = .ok (.aload_n 1, 1) := by decide +kernel
theorem dX4_readSetting_32 : decode cX4_readSetting 32 = .ok (.invokevirtual 36, 3) := by decide +kernel
theorem dX4_readSetting_35 : decode cX4_readSetting 35 = .ok (.aload_n 0, 1) := by decide +kernel
theorem dX4_readSetting_36 : decode cX4_readSetting 36 = .ok (.getfield 40, 3) := by decide +kernel
theorem dX4_readSetting_39 : decode cX4_readSetting 39 = .ok (.iconst 2, 1) := by decide +kernel
theorem dX4_readSetting_40 : decode cX4_readSetting 40 = .ok (.if_icmp .eq 9, 3) := by decide +kernel
theorem dX4_readSetting_43 : decode cX4_readSetting 43 = .ok (.aload_n 0, 1) := by decide +kernel
theorem dX4_readSetting_44 : decode cX4_readSetting 44 = .ok (.iconst 1, 1) := by decide +kernel
theorem dX4_readSetting_45 : decode cX4_readSetting 45 = .ok (.invokevirtual 72, 3) := by decide +kernel
theorem dX4_readSetting_48 : decode cX4_readSetting 48 = .ok (.ireturn, 1) := by decide +kernel
theorem dX4_readSetting_49 : decode cX4_readSetting 49 = .ok (.aload_n 0, 1) := by decide +kernel
theorem dX4_readSetting_50 : decode cX4_readSetting 50 = .ok (.iload_n 2, 1) := by decide +kernel
theorem dX4_readSetting_51 : decode cX4_readSetting 51 = .ok (.invokevirtual 83, 3) := by decide +kernel
theorem dX4_readSetting_54 : decode cX4_readSetting 54 = .ok (.ifCond .ne 9, 3) := by decide +kernel
theorem dX4_readSetting_57 : decode cX4_readSetting 57 = .ok (.aload_n 0, 1) := by decide +kernel
theorem dX4_readSetting_58 : decode cX4_readSetting 58 = .ok (.iconst 2, 1) := by decide +kernel
theorem dX4_readSetting_59 : decode cX4_readSetting 59 = .ok (.invokevirtual 72, 3) := by decide +kernel
theorem dX4_readSetting_62 : decode cX4_readSetting 62 = .ok (.ireturn, 1) := by decide +kernel
theorem dX4_readSetting_63 : decode cX4_readSetting 63 = .ok (.aload_n 0, 1) := by decide +kernel
theorem dX4_readSetting_64 : decode cX4_readSetting 64 = .ok (.iload_n 2, 1) := by decide +kernel
theorem dX4_readSetting_65 : decode cX4_readSetting 65 = .ok (.invokevirtual 86, 3) := by decide +kernel
theorem dX4_readSetting_68 : decode cX4_readSetting 68 = .ok (.iconst 1, 1) := by decide +kernel
theorem dX4_readSetting_69 : decode cX4_readSetting 69 = .ok (.ireturn, 1) := by decide +kernel
theorem dX4_isSetting_0 : decode cX4_isSetting 0 = .ok (.iload_n 1, 1) := by decide +kernel
theorem dX4_isSetting_1 : decode cX4_isSetting 1 = .ok (.tableswitch 144 0 4 #[35, 84, 108, 130, 130], 35) := by decide +kernel
theorem dX4_isSetting_36 : decode cX4_isSetting 36 = .ok (.aload_n 0, 1) := by decide +kernel
theorem dX4_isSetting_37 : decode cX4_isSetting 37 = .ok (.getfield 89, 3) := by decide +kernel
theorem dX4_isSetting_40 : decode cX4_isSetting 40 = .ok (.iconst 2, 1) := by decide +kernel
theorem dX4_isSetting_41 : decode cX4_isSetting 41 = .ok (.if_icmp .eq 38, 3) := by decide +kernel
theorem dX4_isSetting_44 : decode cX4_isSetting 44 = .ok (.aload_n 0, 1) := by decide +kernel
theorem dX4_isSetting_45 : decode cX4_isSetting 45 = .ok (.getfield 89, 3) := by decide +kernel
theorem dX4_isSetting_48 : decode cX4_isSetting 48 = .ok (.iconst 4, 1) := by decide +kernel
theorem dX4_isSetting_49 : decode cX4_isSetting 49 = .ok (.if_icmp .eq 30, 3) := by decide +kernel
theorem dX4_isSetting_52 : decode cX4_isSetting 52 = .ok (.aload_n 0, 1) := by decide +kernel
theorem dX4_isSetting_53 : decode cX4_isSetting 53 = .ok (.getfield 89, 3) := by decide +kernel
theorem dX4_isSetting_56 : decode cX4_isSetting 56 = .ok (.bipush 8, 2) := by decide +kernel
theorem dX4_isSetting_58 : decode cX4_isSetting 58 = .ok (.if_icmp .eq 21, 3) := by decide +kernel
theorem dX4_isSetting_61 : decode cX4_isSetting 61 = .ok (.aload_n 0, 1) := by decide +kernel
theorem dX4_isSetting_62 : decode cX4_isSetting 62 = .ok (.getfield 89, 3) := by decide +kernel
theorem dX4_isSetting_65 : decode cX4_isSetting 65 = .ok (.bipush 16, 2) := by decide +kernel
theorem dX4_isSetting_67 : decode cX4_isSetting 67 = .ok (.if_icmp .eq 12, 3) := by decide +kernel
theorem dX4_isSetting_70 : decode cX4_isSetting 70 = .ok (.aload_n 0, 1) := by decide +kernel
theorem dX4_isSetting_71 : decode cX4_isSetting 71 = .ok (.getfield 89, 3) := by decide +kernel
theorem dX4_isSetting_74 : decode cX4_isSetting 74 = .ok (.bipush 32, 2) := by decide +kernel
theorem dX4_isSetting_76 : decode cX4_isSetting 76 = .ok (.if_icmp .ne 7, 3) := by decide +kernel
theorem dX4_isSetting_79 : decode cX4_isSetting 79 = .ok (.iconst 1, 1) := by decide +kernel
theorem dX4_isSetting_80 : decode cX4_isSetting 80 = .ok (.goto 4, 3) := by decide +kernel
theorem dX4_isSetting_83 : decode cX4_isSetting 83 = .ok (.iconst 0, 1) := by decide +kernel
theorem dX4_isSetting_84 : decode cX4_isSetting 84 = .ok (.ireturn, 1) := by decide +kernel
theorem dX4_isSetting_85 : decode cX4_isSetting 85 = .ok (.aload_n 0, 1) := by decide +kernel
theorem dX4_isSetting_86 : decode cX4_isSetting 86 = .ok (.getfield 89, 3) := by decide +kernel
theorem dX4_isSetting_89 : decode cX4_isSetting 89 = .ok (.bipush 8, 2) := by decide +kernel
theorem dX4_isSetting_91 : decode cX4_isSetting 91 = .ok (.if_icmp .lt 16, 3) := by decide +kernel
theorem dX4_isSetting_94 : decode cX4_isSetting 94 = .ok (.aload_n 0, 1) := by decide +kernel
theorem dX4_isSetting_95 : decode cX4_isSetting 95 = .ok (.getfield 89, 3) := by decide +kernel
theorem dX4_isSetting_98 : decode cX4_isSetting 98 = .ok (.bipush 16, 2) := by decide +kernel
theorem dX4_isSetting_100 : decode cX4_isSetting 100 = .ok (.if_icmp .gt 7, 3) := by decide +kernel
theorem dX4_isSetting_103 : decode cX4_isSetting 103 = .ok (.iconst 1, 1) := by decide +kernel
theorem dX4_isSetting_104 : decode cX4_isSetting 104 = .ok (.goto 4, 3) := by decide +kernel
theorem dX4_isSetting_107 : decode cX4_isSetting 107 = .ok (.iconst 0, 1) := by decide +kernel
theorem dX4_isSetting_108 : decode cX4_isSetting 108 = .ok (.ireturn, 1) := by decide +kernel
theorem dX4_isSetting_109 : decode cX4_isSetting 109 = .ok (.aload_n 0, 1) := by decide +kernel
theorem dX4_isSetting_110 : decode cX4_isSetting 110 = .ok (.getfield 89, 3) := by decide +kernel
theorem dX4_isSetting_113 : decode cX4_isSetting 113 = .ok (.iconst 2, 1) := by decide +kernel
theorem dX4_isSetting_114 : decode cX4_isSetting 114 = .ok (.if_icmp .eq 11, 3) := by decide +kernel
theorem dX4_isSetting_117 : decode cX4_isSetting 117 = .ok (.aload_n 0, 1) := by decide +kernel
theorem dX4_isSetting_118 : decode cX4_isSetting 118 = .ok (.getfield 89, 3) := by decide +kernel
theorem dX4_isSetting_121 : decode cX4_isSetting 121 = .ok (.iconst 4, 1) := by decide +kernel
theorem dX4_isSetting_122 : decode cX4_isSetting 122 = .ok (.if_icmp .ne 7, 3) := by decide +kernel
theorem dX4_isSetting_125 : decode cX4_isSetting 125 = .ok (.iconst 1, 1) := by decide +kernel
theorem dX4_isSetting_126 : decode cX4_isSetting 126 = .ok (.goto 4, 3) := by decide +kernel
theorem dX4_isSetting_129 : decode cX4_isSetting 129 = .ok (.iconst 0, 1) := by decide +kernel
theorem dX4_isSetting_130 : decode cX4_isSetting 130 = .ok (.ireturn, 1) := by decide +kernel
theorem dX4_isSetting_131 : decode cX4_isSetting 131 = .ok (.aload_n 0, 1) := by decide +kernel
theorem dX4_isSetting_132 : decode cX4_isSetting 132 = .ok (.getfield 89, 3) := by decide +kernel
theorem dX4_isSetting_135 : decode cX4_isSetting 135 = .ok (.iconst 1, 1) := by decide +kernel
theorem dX4_isSetting_136 : decode cX4_isSetting 136 = .ok (.if_icmp .gt 7, 3) := by decide +kernel
theorem dX4_isSetting_139 : decode cX4_isSetting 139 = .ok (.iconst 1, 1) := by decide +kernel
theorem dX4_isSetting_140 : decode cX4_isSetting 140 = .ok (.goto 4, 3) := by decide +kernel
theorem dX4_isSetting_143 : decode cX4_isSetting 143 = .ok (.iconst 0, 1) := by decide +kernel
theorem dX4_isSetting_144 : decode cX4_isSetting 144 = .ok (.ireturn, 1) := by decide +kernel
theorem dX4_isSetting_145 : decode cX4_isSetting 145 = .ok (.aload_n 0, 1) := by decide +kernel
theorem dX4_isSetting_146 : decode cX4_isSetting 146 = .ok (.getfield 89, 3) := by decide +kernel
theorem dX4_isSetting_149 : decode cX4_isSetting 149 = .ok (.ldc 92, 2) := by decide +kernel
theorem dX4_isSetting_151 : decode cX4_isSetting 151 = .ok (.if_icmp .gt 7, 3) := by decide +kernel
theorem dX4_isSetting_154 : decode cX4_isSetting 154 = .ok (.iconst 1, 1) := by decide +kernel
theorem dX4_isSetting_155 : decode cX4_isSetting 155 = .ok (.goto 4, 3) := by decide +kernel
theorem dX4_isSetting_158 : decode cX4_isSetting 158 = .ok (.iconst 0, 1) := by decide +kernel
theorem dX4_isSetting_159 : decode cX4_isSetting 159 = .ok (.ireturn, 1) := by decide +kernel
theorem dX4_takeSetting_0 : decode cX4_takeSetting 0 = .ok (.iload_n 1, 1) := by decide +kernel
theorem dX4_takeSetting_1 : decode cX4_takeSetting 1 = .ok (.tableswitch 105 0 4 #[35, 49, 63, 77, 91], 35) := by decide +kernel
theorem dX4_takeSetting_36 : decode cX4_takeSetting 36 = .ok (.aload_n 0, 1) := by decide +kernel
theorem dX4_takeSetting_37 : decode cX4_takeSetting 37 = .ok (.getfield 12, 3) := by decide +kernel
theorem dX4_takeSetting_40 : decode cX4_takeSetting 40 = .ok (.aload_n 0, 1) := by decide +kernel
theorem dX4_takeSetting_41 : decode cX4_takeSetting 41 = .ok (.getfield 89, 3) := by decide +kernel
theorem dX4_takeSetting_44 : decode cX4_takeSetting 44 = .ok (.invokevirtual 93, 3) := by decide +kernel
theorem dX4_takeSetting_47 : decode cX4_takeSetting 47 = .ok (.goto 70, 3) := by decide +kernel
theorem dX4_takeSetting_50 : decode cX4_takeSetting 50 = .ok (.aload_n 0, 1) := by decide +kernel
theorem dX4_takeSetting_51 : decode cX4_takeSetting 51 = .ok (.getfield 12, 3) := by decide +kernel
theorem dX4_takeSetting_54 : decode cX4_takeSetting 54 = .ok (.aload_n 0, 1) := by decide +kernel
theorem dX4_takeSetting_55 : decode cX4_takeSetting 55 = .ok (.getfield 89, 3) := by decide +kernel
theorem dX4_takeSetting_58 : decode cX4_takeSetting 58 = .ok (.invokevirtual 96, 3) := by decide +kernel
theorem dX4_takeSetting_61 : decode cX4_takeSetting 61 = .ok (.goto 56, 3) := by decide +kernel
theorem dX4_takeSetting_64 : decode cX4_takeSetting 64 = .ok (.aload_n 0, 1) := by decide +kernel
theorem dX4_takeSetting_65 : decode cX4_takeSetting 65 = .ok (.getfield 12, 3) := by decide +kernel
theorem dX4_takeSetting_68 : decode cX4_takeSetting 68 = .ok (.aload_n 0, 1) := by decide +kernel
theorem dX4_takeSetting_69 : decode cX4_takeSetting 69 = .ok (.getfield 89, 3) := by decide +kernel
theorem dX4_takeSetting_72 : decode cX4_takeSetting 72 = .ok (.putfield 99, 3) := by decide +kernel
theorem dX4_takeSetting_75 : decode cX4_takeSetting 75 = .ok (.goto 42, 3) := by decide +kernel
theorem dX4_takeSetting_78 : decode cX4_takeSetting 78 = .ok (.aload_n 0, 1) := by decide +kernel
theorem dX4_takeSetting_79 : decode cX4_takeSetting 79 = .ok (.getfield 12, 3) := by decide +kernel
theorem dX4_takeSetting_82 : decode cX4_takeSetting 82 = .ok (.aload_n 0, 1) := by decide +kernel
theorem dX4_takeSetting_83 : decode cX4_takeSetting 83 = .ok (.getfield 89, 3) := by decide +kernel
theorem dX4_takeSetting_86 : decode cX4_takeSetting 86 = .ok (.putfield 102, 3) := by decide +kernel
theorem dX4_takeSetting_89 : decode cX4_takeSetting 89 = .ok (.goto 28, 3) := by decide +kernel
theorem dX4_takeSetting_92 : decode cX4_takeSetting 92 = .ok (.aload_n 0, 1) := by decide +kernel
theorem dX4_takeSetting_93 : decode cX4_takeSetting 93 = .ok (.getfield 12, 3) := by decide +kernel
theorem dX4_takeSetting_96 : decode cX4_takeSetting 96 = .ok (.aload_n 0, 1) := by decide +kernel
theorem dX4_takeSetting_97 : decode cX4_takeSetting 97 = .ok (.getfield 89, 3) := by decide +kernel
theorem dX4_takeSetting_100 : decode cX4_takeSetting 100 = .ok (.putfield 105, 3) := by decide +kernel
theorem dX4_takeSetting_103 : decode cX4_takeSetting 103 = .ok (.goto 14, 3) := by decide +kernel
theorem dX4_takeSetting_106 : decode cX4_takeSetting 106 = .ok (.aload_n 0, 1) := by decide +kernel
theorem dX4_takeSetting_107 : decode cX4_takeSetting 107 = .ok (.getfield 12, 3) := by decide +kernel
theorem dX4_takeSetting_110 : decode cX4_takeSetting 110 = .ok (.aload_n 0, 1) := by decide +kernel
theorem dX4_takeSetting_111 : decode cX4_takeSetting 111 = .ok (.getfield 89, 3) := by decide +kernel
theorem dX4_takeSetting_114 : decode cX4_takeSetting 114 = .ok (.putfield 108, 3) := by decide +kernel
theorem dX4_takeSetting_117 : decode cX4_takeSetting 117 = .ok (.return_, 1) := by decide +kernel
theorem dX4_readPoint_0 : decode cX4_readPoint 0 = .ok (.iload_n 2, 1) := by decide +kernel
theorem dX4_readPoint_1 : decode cX4_readPoint 1 = .ok (.bipush 8, 2) := by decide +kernel
theorem dX4_readPoint_3 : decode cX4_readPoint 3 = .ok (.if_icmp .lt 7, 3) := by decide +kernel
theorem dX4_readPoint_6 : decode cX4_readPoint 6 = .ok (.iconst 1, 1) := by decide +kernel
theorem dX4_readPoint_7 : decode cX4_readPoint 7 = .ok (.goto 4, 3) := by decide +kernel
theorem dX4_readPoint_10 : decode cX4_readPoint 10 = .ok (.iconst 0, 1) := by decide +kernel
theorem dX4_readPoint_11 : decode cX4_readPoint 11 = .ok (.istore_n 3, 1) := by decide +kernel
theorem dX4_readPoint_12 : decode cX4_readPoint 12 = .ok (.aload_n 0, 1) := by decide +kernel
theorem dX4_readPoint_13 : decode cX4_readPoint 13 = .ok (.aload_n 1, 1) := by decide +kernel
theorem dX4_readPoint_14 : decode cX4_readPoint 14 = .ok (.invokevirtual 36, 3) := by decide +kernel
theorem dX4_readPoint_17 : decode cX4_readPoint 17 = .ok (.aload_n 0, 1) := by decide +kernel
theorem dX4_readPoint_18 : decode cX4_readPoint 18 = .ok (.getfield 40, 3) := by decide +kernel
theorem dX4_readPoint_21 : decode cX4_readPoint 21 = .ok (.iconst 2, 1) := by decide +kernel
theorem dX4_readPoint_22 : decode cX4_readPoint 22 = .ok (.if_icmp .eq 9, 3) := by decide +kernel
theorem dX4_readPoint_25 : decode cX4_readPoint 25 = .ok (.aload_n 0, 1) := by decide +kernel
theorem dX4_readPoint_26 : decode cX4_readPoint 26 = .ok (.iconst 1, 1) := by decide +kernel
theorem dX4_readPoint_27 : decode cX4_readPoint 27 = .ok (.invokevirtual 72, 3) := by decide +kernel
theorem dX4_readPoint_30 : decode cX4_readPoint 30 = .ok (.ireturn, 1) := by decide +kernel
theorem dX4_readPoint_31 : decode cX4_readPoint 31 = .ok (.aload_n 0, 1) := by decide +kernel
theorem dX4_readPoint_32 : decode cX4_readPoint 32 = .ok (.getfield 89, 3) := by decide +kernel
theorem dX4_readPoint_35 : decode cX4_readPoint 35 = .ok (.aload_n 0, 1) := by decide +kernel
theorem dX4_readPoint_36 : decode cX4_readPoint 36 = .ok (.getfield 12, 3) := by decide +kernel
theorem dX4_readPoint_39 : decode cX4_readPoint 39 = .ok (.getfield 111, 3) := by decide +kernel
theorem dX4_readPoint_42 : decode cX4_readPoint 42 = .ok (.if_icmp .lt 9, 3) := by decide +kernel
theorem dX4_readPoint_45 : decode cX4_readPoint 45 = .ok (.aload_n 0, 1) := by decide +kernel
theorem dX4_readPoint_46 : decode cX4_readPoint 46 = .ok (.iconst 2, 1) := by decide +kernel
theorem dX4_readPoint_47 : decode cX4_readPoint 47 = .ok (.invokevirtual 72, 3) := by decide +kernel
theorem dX4_readPoint_50 : decode cX4_readPoint 50 = .ok (.ireturn, 1) := by decide +kernel
theorem dX4_readPoint_51 : decode cX4_readPoint 51 = .ok (.aload_n 0, 1) := by decide +kernel
theorem dX4_readPoint_52 : decode cX4_readPoint 52 = .ok (.getfield 89, 3) := by decide +kernel
theorem dX4_readPoint_55 : decode cX4_readPoint 55 = .ok (.istore 4, 2) := by decide +kernel
theorem dX4_readPoint_57 : decode cX4_readPoint 57 = .ok (.iload_n 3, 1) := by decide +kernel
theorem dX4_readPoint_58 : decode cX4_readPoint 58 = .ok (.ifCond .eq 10, 3) := by decide +kernel
theorem dX4_readPoint_61 : decode cX4_readPoint 61 = .ok (.aload_n 0, 1) := by decide +kernel
theorem dX4_readPoint_62 : decode cX4_readPoint 62 = .ok (.getfield 56, 3) := by decide +kernel
theorem dX4_readPoint_65 : decode cX4_readPoint 65 = .ok (.goto 7, 3) := by decide +kernel
theorem dX4_readPoint_68 : decode cX4_readPoint 68 = .ok (.aload_n 0, 1) := by decide +kernel
theorem dX4_readPoint_69 : decode cX4_readPoint 69 = .ok (.getfield 53, 3) := by decide +kernel
theorem dX4_readPoint_72 : decode cX4_readPoint 72 = .ok (.iload 4, 2) := by decide +kernel
theorem dX4_readPoint_74 : decode cX4_readPoint 74 = .ok (.ishr, 1) := by decide +kernel
theorem dX4_readPoint_75 : decode cX4_readPoint 75 = .ok (.iconst 1, 1) := by decide +kernel
theorem dX4_readPoint_76 : decode cX4_readPoint 76 = .ok (.iand, 1) := by decide +kernel
theorem dX4_readPoint_77 : decode cX4_readPoint 77 = .ok (.iconst 1, 1) := by decide +kernel
theorem dX4_readPoint_78 : decode cX4_readPoint 78 = .ok (.if_icmp .ne 9, 3) := by decide +kernel
theorem dX4_readPoint_81 : decode cX4_readPoint 81 = .ok (.aload_n 0, 1) := by decide +kernel
theorem dX4_readPoint_82 : decode cX4_readPoint 82 = .ok (.iconst 3, 1) := by decide +kernel
theorem dX4_readPoint_83 : decode cX4_readPoint 83 = .ok (.invokevirtual 72, 3) := by decide +kernel
theorem dX4_readPoint_86 : decode cX4_readPoint 86 = .ok (.ireturn, 1) := by decide +kernel
theorem dX4_readPoint_87 : decode cX4_readPoint 87 = .ok (.aload_n 0, 1) := by decide +kernel
theorem dX4_readPoint_88 : decode cX4_readPoint 88 = .ok (.aload_n 1, 1) := by decide +kernel
theorem dX4_readPoint_89 : decode cX4_readPoint 89 = .ok (.invokevirtual 36, 3) := by decide +kernel
theorem dX4_readPoint_92 : decode cX4_readPoint 92 = .ok (.aload_n 0, 1) := by decide +kernel
theorem dX4_readPoint_93 : decode cX4_readPoint 93 = .ok (.getfield 40, 3) := by decide +kernel
theorem dX4_readPoint_96 : decode cX4_readPoint 96 = .ok (.iconst 2, 1) := by decide +kernel
theorem dX4_readPoint_97 : decode cX4_readPoint 97 = .ok (.if_icmp .eq 9, 3) := by decide +kernel
theorem dX4_readPoint_100 : decode cX4_readPoint 100 = .ok (.aload_n 0, 1) := by decide +kernel
theorem dX4_readPoint_101 : decode cX4_readPoint 101 = .ok (.iconst 1, 1) := by decide +kernel
theorem dX4_readPoint_102 : decode cX4_readPoint 102 = .ok (.invokevirtual 72, 3) := by decide +kernel
theorem dX4_readPoint_105 : decode cX4_readPoint 105 = .ok (.ireturn, 1) := by decide +kernel
theorem dX4_readPoint_106 : decode cX4_readPoint 106 = .ok (.aload_n 0, 1) := by decide +kernel
theorem dX4_readPoint_107 : decode cX4_readPoint 107 = .ok (.getfield 89, 3) := by decide +kernel
theorem dX4_readPoint_110 : decode cX4_readPoint 110 = .ok (.aload_n 0, 1) := by decide +kernel
theorem dX4_readPoint_111 : decode cX4_readPoint 111 = .ok (.getfield 12, 3) := by decide +kernel
theorem dX4_readPoint_114 : decode cX4_readPoint 114 = .ok (.getfield 114, 3) := by decide +kernel
theorem dX4_readPoint_117 : decode cX4_readPoint 117 = .ok (.if_icmp .le 9, 3) := by decide +kernel
theorem dX4_readPoint_120 : decode cX4_readPoint 120 = .ok (.aload_n 0, 1) := by decide +kernel
theorem dX4_readPoint_121 : decode cX4_readPoint 121 = .ok (.iconst 2, 1) := by decide +kernel
theorem dX4_readPoint_122 : decode cX4_readPoint 122 = .ok (.invokevirtual 72, 3) := by decide +kernel
theorem dX4_readPoint_125 : decode cX4_readPoint 125 = .ok (.ireturn, 1) := by decide +kernel
theorem dX4_readPoint_126 : decode cX4_readPoint 126 = .ok (.aload_n 0, 1) := by decide +kernel
theorem dX4_readPoint_127 : decode cX4_readPoint 127 = .ok (.iload 4, 2) := by decide +kernel
theorem dX4_readPoint_129 : decode cX4_readPoint 129 = .ok (.iload_n 3, 1) := by decide +kernel
theorem dX4_readPoint_130 : decode cX4_readPoint 130 = .ok (.iload_n 2, 1) := by decide +kernel
theorem dX4_readPoint_131 : decode cX4_readPoint 131 = .ok (.bipush 7, 2) := by decide +kernel
theorem dX4_readPoint_133 : decode cX4_readPoint 133 = .ok (.if_icmp .eq 9, 3) := by decide +kernel
theorem dX4_readPoint_136 : decode cX4_readPoint 136 = .ok (.iload_n 2, 1) := by decide +kernel
theorem dX4_readPoint_137 : decode cX4_readPoint 137 = .ok (.bipush 9, 2) := by decide +kernel
theorem dX4_readPoint_139 : decode cX4_readPoint 139 = .ok (.if_icmp .ne 11, 3) := by decide +kernel
theorem dX4_readPoint_142 : decode cX4_readPoint 142 = .ok (.aload_n 0, 1) := by decide +kernel
theorem dX4_readPoint_143 : decode cX4_readPoint 143 = .ok (.getfield 89, 3) := by decide +kernel
theorem dX4_readPoint_146 : decode cX4_readPoint 146 = .ok (.ineg, 1) := by decide +kernel
theorem dX4_readPoint_147 : decode cX4_readPoint 147 = .ok (.goto 7, 3) := by decide +kernel
theorem dX4_readPoint_150 : decode cX4_readPoint 150 = .ok (.aload_n 0, 1) := by decide +kernel
theorem dX4_readPoint_151 : decode cX4_readPoint 151 = .ok (.getfield 89, 3) := by decide +kernel
theorem dX4_readPoint_154 : decode cX4_readPoint 154 = .ok (.invokevirtual 117, 3) := by decide +kernel
theorem dX4_readPoint_157 : decode cX4_readPoint 157 = .ok (.iconst 1, 1) := by decide +kernel
theorem dX4_readPoint_158 : decode cX4_readPoint 158 = .ok (.ireturn, 1) := by decide +kernel
theorem dX4_takePoint_0 : decode cX4_takePoint 0 = .ok (.iload_n 2, 1) := by decide +kernel
theorem dX4_takePoint_1 : decode cX4_takePoint 1 = .ok (.ifCond .eq 25, 3) := by decide +kernel
theorem dX4_takePoint_4 : decode cX4_takePoint 4 = .ok (.aload_n 0, 1) := by decide +kernel
theorem dX4_takePoint_5 : decode cX4_takePoint 5 = .ok (.getfield 22, 3) := by decide +kernel
theorem dX4_takePoint_8 : decode cX4_takePoint 8 = .ok (.iload_n 1, 1) := by decide +kernel
theorem dX4_takePoint_9 : decode cX4_takePoint 9 = .ok (.iload_n 3, 1) := by decide +kernel
theorem dX4_takePoint_10 : decode cX4_takePoint 10 = .ok (.iastore, 1) := by decide +kernel
theorem dX4_takePoint_11 : decode cX4_takePoint 11 = .ok (.aload_n 0, 1) := by decide +kernel
theorem dX4_takePoint_12 : decode cX4_takePoint 12 = .ok (.dup, 1) := by decide +kernel
theorem dX4_takePoint_13 : decode cX4_takePoint 13 = .ok (.getfield 56, 3) := by decide +kernel
theorem dX4_takePoint_16 : decode cX4_takePoint 16 = .ok (.iconst 1, 1) := by decide +kernel
theorem dX4_takePoint_17 : decode cX4_takePoint 17 = .ok (.iload_n 1, 1) := by decide +kernel
theorem dX4_takePoint_18 : decode cX4_takePoint 18 = .ok (.ishl, 1) := by decide +kernel
theorem dX4_takePoint_19 : decode cX4_takePoint 19 = .ok (.ior, 1) := by decide +kernel
theorem dX4_takePoint_20 : decode cX4_takePoint 20 = .ok (.putfield 56, 3) := by decide +kernel
theorem dX4_takePoint_23 : decode cX4_takePoint 23 = .ok (.goto 22, 3) := by decide +kernel
theorem dX4_takePoint_26 : decode cX4_takePoint 26 = .ok (.aload_n 0, 1) := by decide +kernel
theorem dX4_takePoint_27 : decode cX4_takePoint 27 = .ok (.getfield 18, 3) := by decide +kernel
theorem dX4_takePoint_30 : decode cX4_takePoint 30 = .ok (.iload_n 1, 1) := by decide +kernel
theorem dX4_takePoint_31 : decode cX4_takePoint 31 = .ok (.iload_n 3, 1) := by decide +kernel
theorem dX4_takePoint_32 : decode cX4_takePoint 32 = .ok (.iastore, 1) := by decide +kernel
theorem dX4_takePoint_33 : decode cX4_takePoint 33 = .ok (.aload_n 0, 1) := by decide +kernel
theorem dX4_takePoint_34 : decode cX4_takePoint 34 = .ok (.dup, 1) := by decide +kernel
theorem dX4_takePoint_35 : decode cX4_takePoint 35 = .ok (.getfield 53, 3) := by decide +kernel
theorem dX4_takePoint_38 : decode cX4_takePoint 38 = .ok (.iconst 1, 1) := by decide +kernel
theorem dX4_takePoint_39 : decode cX4_takePoint 39 = .ok (.iload_n 1, 1) := by decide +kernel
theorem dX4_takePoint_40 : decode cX4_takePoint 40 = .ok (.ishl, 1) := by decide +kernel
theorem dX4_takePoint_41 : decode cX4_takePoint 41 = .ok (.ior, 1) := by decide +kernel
theorem dX4_takePoint_42 : decode cX4_takePoint 42 = .ok (.putfield 53, 3) := by decide +kernel
theorem dX4_takePoint_45 : decode cX4_takePoint 45 = .ok (.return_, 1) := by decide +kernel
theorem dX4_nextToken_0 : decode cX4_nextToken 0 = .ok (.aload_n 0, 1) := by decide +kernel
theorem dX4_nextToken_1 : decode cX4_nextToken 1 = .ok (.getfield 62, 3) := by decide +kernel
theorem dX4_nextToken_4 : decode cX4_nextToken 4 = .ok (.aload_n 0, 1) := by decide +kernel
theorem dX4_nextToken_5 : decode cX4_nextToken 5 = .ok (.getfield 59, 3) := by decide +kernel
theorem dX4_nextToken_8 : decode cX4_nextToken 8 = .ok (.if_icmp .ge 38, 3) := by decide +kernel
theorem dX4_nextToken_11 : decode cX4_nextToken 11 = .ok (.aload_n 1, 1) := by decide +kernel
theorem dX4_nextToken_12 : decode cX4_nextToken 12 = .ok (.aload_n 0, 1) := by decide +kernel
theorem dX4_nextToken_13 : decode cX4_nextToken 13 = .ok (.getfield 62, 3) := by decide +kernel
theorem dX4_nextToken_16 : decode cX4_nextToken 16 = .ok (.iaload, 1) := by decide +kernel
theorem dX4_nextToken_17 : decode cX4_nextToken 17 = .ok (.bipush 10, 2) := by decide +kernel
theorem dX4_nextToken_19 : decode cX4_nextToken 19 = .ok (.if_icmp .eq 14, 3) := by decide +kernel
theorem dX4_nextToken_22 : decode cX4_nextToken 22 = .ok (.aload_n 1, 1) := by decide +kernel
theorem dX4_nextToken_23 : decode cX4_nextToken 23 = .ok (.aload_n 0, 1) := by decide +kernel
theorem dX4_nextToken_24 : decode cX4_nextToken 24 = .ok (.getfield 62, 3) := by decide +kernel
theorem dX4_nextToken_27 : decode cX4_nextToken 27 = .ok (.iaload, 1) := by decide +kernel
theorem dX4_nextToken_28 : decode cX4_nextToken 28 = .ok (.bipush 32, 2) := by decide +kernel
theorem dX4_nextToken_30 : decode cX4_nextToken 30 = .ok (.if_icmp .ne 16, 3) := by decide +kernel
theorem dX4_nextToken_33 : decode cX4_nextToken 33 = .ok (.aload_n 0, 1) := by decide +kernel
theorem dX4_nextToken_34 : decode cX4_nextToken 34 = .ok (.dup, 1) := by decide +kernel
theorem dX4_nextToken_35 : decode cX4_nextToken 35 = .ok (.getfield 62, 3) := by decide +kernel
theorem dX4_nextToken_38 : decode cX4_nextToken 38 = .ok (.iconst 1, 1) := by decide +kernel
theorem dX4_nextToken_39 : decode cX4_nextToken 39 = .ok (.iadd, 1) := by decide +kernel
theorem dX4_nextToken_40 : decode cX4_nextToken 40 = .ok (.putfield 62, 3) := by decide +kernel
theorem dX4_nextToken_43 : decode cX4_nextToken 43 = .ok (.goto (-43), 3) := by decide +kernel
theorem dX4_nextToken_46 : decode cX4_nextToken 46 = .ok (.aload_n 0, 1) := by decide +kernel
theorem dX4_nextToken_47 : decode cX4_nextToken 47 = .ok (.aload_n 0, 1) := by decide +kernel
theorem dX4_nextToken_48 : decode cX4_nextToken 48 = .ok (.getfield 62, 3) := by decide +kernel
theorem dX4_nextToken_51 : decode cX4_nextToken 51 = .ok (.putfield 65, 3) := by decide +kernel
theorem dX4_nextToken_54 : decode cX4_nextToken 54 = .ok (.aload_n 0, 1) := by decide +kernel
theorem dX4_nextToken_55 : decode cX4_nextToken 55 = .ok (.getfield 62, 3) := by decide +kernel
theorem dX4_nextToken_58 : decode cX4_nextToken 58 = .ok (.aload_n 0, 1) := by decide +kernel
theorem dX4_nextToken_59 : decode cX4_nextToken 59 = .ok (.getfield 59, 3) := by decide +kernel
theorem dX4_nextToken_62 : decode cX4_nextToken 62 = .ok (.if_icmp .lt 11, 3) := by decide +kernel
theorem dX4_nextToken_65 : decode cX4_nextToken 65 = .ok (.aload_n 0, 1) := by decide +kernel
theorem dX4_nextToken_66 : decode cX4_nextToken 66 = .ok (.iconst 0, 1) := by decide +kernel
theorem dX4_nextToken_67 : decode cX4_nextToken 67 = .ok (.putfield 40, 3) := by decide +kernel
theorem dX4_nextToken_70 : decode cX4_nextToken 70 = .ok (.goto 111, 3) := by decide +kernel
theorem dX4_nextToken_73 : decode cX4_nextToken 73 = .ok (.aload_n 1, 1) := by decide +kernel
theorem dX4_nextToken_74 : decode cX4_nextToken 74 = .ok (.aload_n 0, 1) := by decide +kernel
theorem dX4_nextToken_75 : decode cX4_nextToken 75 = .ok (.getfield 62, 3) := by decide +kernel
theorem dX4_nextToken_78 : decode cX4_nextToken 78 = .ok (.iaload, 1) := by decide +kernel
theorem dX4_nextToken_79 : decode cX4_nextToken 79 = .ok (.invokestatic 121, 3) := by decide +kernel
theorem dX4_nextToken_82 : decode cX4_nextToken 82 = .ok (.ifCond .eq 44, 3) := by decide +kernel
theorem dX4_nextToken_85 : decode cX4_nextToken 85 = .ok (.aload_n 0, 1) := by decide +kernel
theorem dX4_nextToken_86 : decode cX4_nextToken 86 = .ok (.iconst 1, 1) := by decide +kernel
theorem dX4_nextToken_87 : decode cX4_nextToken 87 = .ok (.putfield 40, 3) := by decide +kernel
theorem dX4_nextToken_90 : decode cX4_nextToken 90 = .ok (.aload_n 0, 1) := by decide +kernel
theorem dX4_nextToken_91 : decode cX4_nextToken 91 = .ok (.getfield 62, 3) := by decide +kernel
theorem dX4_nextToken_94 : decode cX4_nextToken 94 = .ok (.aload_n 0, 1) := by decide +kernel
theorem dX4_nextToken_95 : decode cX4_nextToken 95 = .ok (.getfield 59, 3) := by decide +kernel
theorem dX4_nextToken_98 : decode cX4_nextToken 98 = .ok (.if_icmp .ge 83, 3) := by decide +kernel
theorem dX4_nextToken_101 : decode cX4_nextToken 101 = .ok (.aload_n 1, 1) := by decide +kernel
theorem dX4_nextToken_102 : decode cX4_nextToken 102 = .ok (.aload_n 0, 1) := by decide +kernel
theorem dX4_nextToken_103 : decode cX4_nextToken 103 = .ok (.getfield 62, 3) := by decide +kernel
theorem dX4_nextToken_106 : decode cX4_nextToken 106 = .ok (.iaload, 1) := by decide +kernel
theorem dX4_nextToken_107 : decode cX4_nextToken 107 = .ok (.invokestatic 121, 3) := by decide +kernel
theorem dX4_nextToken_110 : decode cX4_nextToken 110 = .ok (.ifCond .eq 71, 3) := by decide +kernel
theorem dX4_nextToken_113 : decode cX4_nextToken 113 = .ok (.aload_n 0, 1) := by decide +kernel
theorem dX4_nextToken_114 : decode cX4_nextToken 114 = .ok (.dup, 1) := by decide +kernel
theorem dX4_nextToken_115 : decode cX4_nextToken 115 = .ok (.getfield 62, 3) := by decide +kernel
theorem dX4_nextToken_118 : decode cX4_nextToken 118 = .ok (.iconst 1, 1) := by decide +kernel
theorem dX4_nextToken_119 : decode cX4_nextToken 119 = .ok (.iadd, 1) := by decide +kernel
theorem dX4_nextToken_120 : decode cX4_nextToken 120 = .ok (.putfield 62, 3) := by decide +kernel
theorem dX4_nextToken_123 : decode cX4_nextToken 123 = .ok (.goto (-33), 3) := by decide +kernel
theorem dX4_nextToken_126 : decode cX4_nextToken 126 = .ok (.aload_n 1, 1) := by decide +kernel
theorem dX4_nextToken_127 : decode cX4_nextToken 127 = .ok (.aload_n 0, 1) := by decide +kernel
theorem dX4_nextToken_128 : decode cX4_nextToken 128 = .ok (.getfield 62, 3) := by decide +kernel
theorem dX4_nextToken_131 : decode cX4_nextToken 131 = .ok (.iaload, 1) := by decide +kernel
theorem dX4_nextToken_132 : decode cX4_nextToken 132 = .ok (.invokestatic 124, 3) := by decide +kernel
theorem dX4_nextToken_135 : decode cX4_nextToken 135 = .ok (.ifCond .eq 16, 3) := by decide +kernel
theorem dX4_nextToken_138 : decode cX4_nextToken 138 = .ok (.aload_n 0, 1) := by decide +kernel
theorem dX4_nextToken_139 : decode cX4_nextToken 139 = .ok (.iconst 2, 1) := by decide +kernel
theorem dX4_nextToken_140 : decode cX4_nextToken 140 = .ok (.putfield 40, 3) := by decide +kernel
theorem dX4_nextToken_143 : decode cX4_nextToken 143 = .ok (.aload_n 0, 1) := by decide +kernel
theorem dX4_nextToken_144 : decode cX4_nextToken 144 = .ok (.aload_n 1, 1) := by decide +kernel
theorem dX4_nextToken_145 : decode cX4_nextToken 145 = .ok (.invokevirtual 127, 3) := by decide +kernel
theorem dX4_nextToken_148 : decode cX4_nextToken 148 = .ok (.goto 33, 3) := by decide +kernel
theorem dX4_nextToken_151 : decode cX4_nextToken 151 = .ok (.aload_n 0, 1) := by decide +kernel
theorem dX4_nextToken_152 : decode cX4_nextToken 152 = .ok (.aload_n 1, 1) := by decide +kernel
theorem dX4_nextToken_153 : decode cX4_nextToken 153 = .ok (.aload_n 0, 1) := by decide +kernel
theorem dX4_nextToken_154 : decode cX4_nextToken 154 = .ok (.getfield 62, 3) := by decide +kernel
theorem dX4_nextToken_157 : decode cX4_nextToken 157 = .ok (.iaload, 1) := by decide +kernel
theorem dX4_nextToken_158 : decode cX4_nextToken 158 = .ok (.bipush 59, 2) := by decide +kernel
theorem dX4_nextToken_160 : decode cX4_nextToken 160 = .ok (.if_icmp .ne 7, 3) := by decide +kernel
theorem dX4_nextToken_163 : decode cX4_nextToken 163 = .ok (.iconst 3, 1) := by decide +kernel
theorem dX4_nextToken_164 : decode cX4_nextToken 164 = .ok (.goto 4, 3) := by decide +kernel
theorem dX4_nextToken_167 : decode cX4_nextToken 167 = .ok (.iconst 4, 1) := by decide +kernel
theorem dX4_nextToken_168 : decode cX4_nextToken 168 = .ok (.putfield 40, 3) := by decide +kernel
theorem dX4_nextToken_171 : decode cX4_nextToken 171 = .ok (.aload_n 0, 1) := by decide +kernel
theorem dX4_nextToken_172 : decode cX4_nextToken 172 = .ok (.dup, 1) := by decide +kernel
theorem dX4_nextToken_173 : decode cX4_nextToken 173 = .ok (.getfield 62, 3) := by decide +kernel
theorem dX4_nextToken_176 : decode cX4_nextToken 176 = .ok (.iconst 1, 1) := by decide +kernel
theorem dX4_nextToken_177 : decode cX4_nextToken 177 = .ok (.iadd, 1) := by decide +kernel
theorem dX4_nextToken_178 : decode cX4_nextToken 178 = .ok (.putfield 62, 3) := by decide +kernel
theorem dX4_nextToken_181 : decode cX4_nextToken 181 = .ok (.return_, 1) := by decide +kernel
theorem dX4_readNumber_0 : decode cX4_readNumber 0 = .ok (.aload_n 0, 1) := by decide +kernel
theorem dX4_readNumber_1 : decode cX4_readNumber 1 = .ok (.iconst 0, 1) := by decide +kernel
theorem dX4_readNumber_2 : decode cX4_readNumber 2 = .ok (.putfield 89, 3) := by decide +kernel
theorem dX4_readNumber_5 : decode cX4_readNumber 5 = .ok (.aload_n 0, 1) := by decide +kernel
theorem dX4_readNumber_6 : decode cX4_readNumber 6 = .ok (.getfield 62, 3) := by decide +kernel
theorem dX4_readNumber_9 : decode cX4_readNumber 9 = .ok (.aload_n 0, 1) := by decide +kernel
theorem dX4_readNumber_10 : decode cX4_readNumber 10 = .ok (.getfield 59, 3) := by decide +kernel
theorem dX4_readNumber_13 : decode cX4_readNumber 13 = .ok (.if_icmp .ge 54, 3) := by decide +kernel
theorem dX4_readNumber_16 : decode cX4_readNumber 16 = .ok (.aload_n 1, 1) := by decide +kernel
theorem dX4_readNumber_17 : decode cX4_readNumber 17 = .ok (.aload_n 0, 1) := by decide +kernel
theorem dX4_readNumber_18 : decode cX4_readNumber 18 = .ok (.getfield 62, 3) := by decide +kernel
theorem dX4_readNumber_21 : decode cX4_readNumber 21 = .ok (.iaload, 1) := by decide +kernel
theorem dX4_readNumber_22 : decode cX4_readNumber 22 = .ok (.invokestatic 124, 3) := by decide +kernel
theorem dX4_readNumber_25 : decode cX4_readNumber 25 = .ok (.ifCond .eq 42, 3) := by decide +kernel
theorem dX4_readNumber_28 : decode cX4_readNumber 28 = .ok (.aload_n 0, 1) := by decide +kernel
theorem dX4_readNumber_29 : decode cX4_readNumber 29 = .ok (.ldc 130, 2) := by decide +kernel
theorem dX4_readNumber_31 : decode cX4_readNumber 31 = .ok (.aload_n 0, 1) := by decide +kernel
theorem dX4_readNumber_32 : decode cX4_readNumber 32 = .ok (.getfield 89, 3) := by decide +kernel
theorem dX4_readNumber_35 : decode cX4_readNumber 35 = .ok (.bipush 10, 2) := by decide +kernel
theorem dX4_readNumber_37 : decode cX4_readNumber 37 = .ok (.imul, 1) := by decide +kernel
theorem dX4_readNumber_38 : decode cX4_readNumber 38 = .ok (.aload_n 1, 1) := by decide +kernel
theorem dX4_readNumber_39 : decode cX4_readNumber 39 = .ok (.aload_n 0, 1) := by decide +kernel
theorem dX4_readNumber_40 : decode cX4_readNumber 40 = .ok (.getfield 62, 3) := by decide +kernel
theorem dX4_readNumber_43 : decode cX4_readNumber 43 = .ok (.iaload, 1) := by decide +kernel
theorem dX4_readNumber_44 : decode cX4_readNumber 44 = .ok (.iadd, 1) := by decide +kernel
theorem dX4_readNumber_45 : decode cX4_readNumber 45 = .ok (.bipush 48, 2) := by decide +kernel
theorem dX4_readNumber_47 : decode cX4_readNumber 47 = .ok (.isub, 1) := by decide +kernel
theorem dX4_readNumber_48 : decode cX4_readNumber 48 = .ok (.invokestatic 131, 3) := by decide +kernel
theorem dX4_readNumber_51 : decode cX4_readNumber 51 = .ok (.putfield 89, 3) := by decide +kernel
theorem dX4_readNumber_54 : decode cX4_readNumber 54 = .ok (.aload_n 0, 1) := by decide +kernel
theorem dX4_readNumber_55 : decode cX4_readNumber 55 = .ok (.dup, 1) := by decide +kernel
theorem dX4_readNumber_56 : decode cX4_readNumber 56 = .ok (.getfield 62, 3) := by decide +kernel
theorem dX4_readNumber_59 : decode cX4_readNumber 59 = .ok (.iconst 1, 1) := by decide +kernel
theorem dX4_readNumber_60 : decode cX4_readNumber 60 = .ok (.iadd, 1) := by decide +kernel
theorem dX4_readNumber_61 : decode cX4_readNumber 61 = .ok (.putfield 62, 3) := by decide +kernel
theorem dX4_readNumber_64 : decode cX4_readNumber 64 = .ok (.goto (-59), 3) := by decide +kernel
theorem dX4_readNumber_67 : decode cX4_readNumber 67 = .ok (.return_, 1) := by decide +kernel
theorem dX4_isLetter_0 : decode cX4_isLetter 0 = .ok (.iload_n 0, 1) := by decide +kernel
theorem dX4_isLetter_1 : decode cX4_isLetter 1 = .ok (.bipush 97, 2) := by decide +kernel
theorem dX4_isLetter_3 : decode cX4_isLetter 3 = .ok (.if_icmp .lt 13, 3) := by decide +kernel
theorem dX4_isLetter_6 : decode cX4_isLetter 6 = .ok (.iload_n 0, 1) := by decide +kernel
theorem dX4_isLetter_7 : decode cX4_isLetter 7 = .ok (.bipush 122, 2) := by decide +kernel
theorem dX4_isLetter_9 : decode cX4_isLetter 9 = .ok (.if_icmp .gt 7, 3) := by decide +kernel
theorem dX4_isLetter_12 : decode cX4_isLetter 12 = .ok (.iconst 1, 1) := by decide +kernel
theorem dX4_isLetter_13 : decode cX4_isLetter 13 = .ok (.goto 4, 3) := by decide +kernel
theorem dX4_isLetter_16 : decode cX4_isLetter 16 = .ok (.iconst 0, 1) := by decide +kernel
theorem dX4_isLetter_17 : decode cX4_isLetter 17 = .ok (.ireturn, 1) := by decide +kernel
theorem dX4_isDigit_0 : decode cX4_isDigit 0 = .ok (.iload_n 0, 1) := by decide +kernel
theorem dX4_isDigit_1 : decode cX4_isDigit 1 = .ok (.bipush 48, 2) := by decide +kernel
theorem dX4_isDigit_3 : decode cX4_isDigit 3 = .ok (.if_icmp .lt 13, 3) := by decide +kernel
theorem dX4_isDigit_6 : decode cX4_isDigit 6 = .ok (.iload_n 0, 1) := by decide +kernel
theorem dX4_isDigit_7 : decode cX4_isDigit 7 = .ok (.bipush 57, 2) := by decide +kernel
theorem dX4_isDigit_9 : decode cX4_isDigit 9 = .ok (.if_icmp .gt 7, 3) := by decide +kernel
theorem dX4_isDigit_12 : decode cX4_isDigit 12 = .ok (.iconst 1, 1) := by decide +kernel
theorem dX4_isDigit_13 : decode cX4_isDigit 13 = .ok (.goto 4, 3) := by decide +kernel
theorem dX4_isDigit_16 : decode cX4_isDigit 16 = .ok (.iconst 0, 1) := by decide +kernel
theorem dX4_isDigit_17 : decode cX4_isDigit 17 = .ok (.ireturn, 1) := by decide +kernel
theorem dX4_wordHere_0 : decode cX4_wordHere 0 = .ok (.iconst 0, 1) := by decide +kernel
theorem dX4_wordHere_1 : decode cX4_wordHere 1 = .ok (.istore_n 2, 1) := by decide +kernel
theorem dX4_wordHere_2 : decode cX4_wordHere 2 = .ok (.iload_n 2, 1) := by decide +kernel
theorem dX4_wordHere_3 : decode cX4_wordHere 3 = .ok (.bipush 10, 2) := by decide +kernel
theorem dX4_wordHere_5 : decode cX4_wordHere 5 = .ok (.if_icmp .ge 22, 3) := by decide +kernel
theorem dX4_wordHere_8 : decode cX4_wordHere 8 = .ok (.aload_n 0, 1) := by decide +kernel
theorem dX4_wordHere_9 : decode cX4_wordHere 9 = .ok (.aload_n 1, 1) := by decide +kernel
theorem dX4_wordHere_10 : decode cX4_wordHere 10 = .ok (.iload_n 2, 1) := by decide +kernel
theorem dX4_wordHere_11 : decode cX4_wordHere 11 = .ok (.iconst 5, 1) := by decide +kernel
theorem dX4_wordHere_12 : decode cX4_wordHere 12 = .ok (.imul, 1) := by decide +kernel
theorem dX4_wordHere_13 : decode cX4_wordHere 13 = .ok (.invokevirtual 137, 3) := by decide +kernel
theorem dX4_wordHere_16 : decode cX4_wordHere 16 = .ok (.ifCond .eq 5, 3) := by decide +kernel
theorem dX4_wordHere_19 : decode cX4_wordHere 19 = .ok (.iload_n 2, 1) := by decide +kernel
theorem dX4_wordHere_20 : decode cX4_wordHere 20 = .ok (.ireturn, 1) := by decide +kernel
theorem dX4_wordHere_21 : decode cX4_wordHere 21 = .ok (.iinc 2 1, 3) := by decide +kernel
theorem dX4_wordHere_24 : decode cX4_wordHere 24 = .ok (.goto (-22), 3) := by decide +kernel
theorem dX4_wordHere_27 : decode cX4_wordHere 27 = .ok (.iconst (-1), 1) := by decide +kernel
theorem dX4_wordHere_28 : decode cX4_wordHere 28 = .ok (.ireturn, 1) := by decide +kernel
theorem dX4_isWordHere_0 : decode cX4_isWordHere 0 = .ok (.aload_n 0, 1) := by decide +kernel
theorem dX4_isWordHere_1 : decode cX4_isWordHere 1 = .ok (.getfield 62, 3) := by decide +kernel
theorem dX4_isWordHere_4 : decode cX4_isWordHere 4 = .ok (.aload_n 0, 1) := by decide +kernel
theorem dX4_isWordHere_5 : decode cX4_isWordHere 5 = .ok (.getfield 65, 3) := by decide +kernel
theorem dX4_isWordHere_8 : decode cX4_isWordHere 8 = .ok (.isub, 1) := by decide +kernel
theorem dX4_isWordHere_9 : decode cX4_isWordHere 9 = .ok (.iconst 5, 1) := by decide +kernel
theorem dX4_isWordHere_10 : decode cX4_isWordHere 10 = .ok (.if_icmp .le 5, 3) := by decide +kernel
theorem dX4_isWordHere_13 : decode cX4_isWordHere 13 = .ok (.iconst 0, 1) := by decide +kernel
theorem dX4_isWordHere_14 : decode cX4_isWordHere 14 = .ok (.ireturn, 1) := by decide +kernel
theorem dX4_isWordHere_15 : decode cX4_isWordHere 15 = .ok (.iconst 0, 1) := by decide +kernel
theorem dX4_isWordHere_16 : decode cX4_isWordHere 16 = .ok (.istore_n 3, 1) := by decide +kernel
theorem dX4_isWordHere_17 : decode cX4_isWordHere 17 = .ok (.iload_n 3, 1) := by decide +kernel
theorem dX4_isWordHere_18 : decode cX4_isWordHere 18 = .ok (.iconst 5, 1) := by decide +kernel
theorem dX4_isWordHere_19 : decode cX4_isWordHere 19 = .ok (.if_icmp .ge 52, 3) := by decide +kernel
theorem dX4_isWordHere_22 : decode cX4_isWordHere 22 = .ok (.aload_n 0, 1) := by decide +kernel
theorem dX4_isWordHere_23 : decode cX4_isWordHere 23 = .ok (.getfield 65, 3) := by decide +kernel
theorem dX4_isWordHere_26 : decode cX4_isWordHere 26 = .ok (.iload_n 3, 1) := by decide +kernel
theorem dX4_isWordHere_27 : decode cX4_isWordHere 27 = .ok (.iadd, 1) := by decide +kernel
theorem dX4_isWordHere_28 : decode cX4_isWordHere 28 = .ok (.aload_n 0, 1) := by decide +kernel
theorem dX4_isWordHere_29 : decode cX4_isWordHere 29 = .ok (.getfield 62, 3) := by decide +kernel
theorem dX4_isWordHere_32 : decode cX4_isWordHere 32 = .ok (.if_icmp .ge 14, 3) := by decide +kernel
theorem dX4_isWordHere_35 : decode cX4_isWordHere 35 = .ok (.aload_n 1, 1) := by decide +kernel
theorem dX4_isWordHere_36 : decode cX4_isWordHere 36 = .ok (.aload_n 0, 1) := by decide +kernel
theorem dX4_isWordHere_37 : decode cX4_isWordHere 37 = .ok (.getfield 65, 3) := by decide +kernel
theorem dX4_isWordHere_40 : decode cX4_isWordHere 40 = .ok (.iload_n 3, 1) := by decide +kernel
theorem dX4_isWordHere_41 : decode cX4_isWordHere 41 = .ok (.iadd, 1) := by decide +kernel
theorem dX4_isWordHere_42 : decode cX4_isWordHere 42 = .ok (.iaload, 1) := by decide +kernel
theorem dX4_isWordHere_43 : decode cX4_isWordHere 43 = .ok (.goto 5, 3) := by decide +kernel
theorem dX4_isWordHere_46 : decode cX4_isWordHere 46 = .ok (.bipush 32, 2) := by decide +kernel
theorem dX4_isWordHere_48 : decode cX4_isWordHere 48 = .ok (.istore 4, 2) := by decide +kernel
theorem dX4_isWordHere_50 : decode cX4_isWordHere 50 = .ok (.iload 4, 2) := by decide +kernel
theorem dX4_isWordHere_52 : decode cX4_isWordHere 52 = .ok (.ldc 140, 2) := by decide +kernel
theorem dX4_isWordHere_54 : decode cX4_isWordHere 54 = .ok (.iload_n 2, 1) := by decide +kernel
theorem dX4_isWordHere_55 : decode cX4_isWordHere 55 = .ok (.iload_n 3, 1) := by decide +kernel
theorem dX4_isWordHere_56 : decode cX4_isWordHere 56 = .ok (.iadd, 1) := by decide +kernel
theorem dX4_isWordHere_57 : decode cX4_isWordHere 57 = .ok (.invokevirtual 142, 3) := by decide +kernel
theorem dX4_isWordHere_60 : decode cX4_isWordHere 60 = .ok (.if_icmp .eq 5, 3) := by decide +kernel
theorem dX4_isWordHere_63 : decode cX4_isWordHere 63 = .ok (.iconst 0, 1) := by decide +kernel
theorem dX4_isWordHere_64 : decode cX4_isWordHere 64 = .ok (.ireturn, 1) := by decide +kernel
theorem dX4_isWordHere_65 : decode cX4_isWordHere 65 = .ok (.iinc 3 1, 3) := by decide +kernel
theorem dX4_isWordHere_68 : decode cX4_isWordHere 68 = .ok (.goto (-51), 3) := by decide +kernel
theorem dX4_isWordHere_71 : decode cX4_isWordHere 71 = .ok (.iconst 1, 1) := by decide +kernel
theorem dX4_isWordHere_72 : decode cX4_isWordHere 72 = .ok (.ireturn, 1) := by decide +kernel
