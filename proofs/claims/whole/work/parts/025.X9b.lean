set_option maxRecDepth 20000 in
theorem ggX9_returned_X0_doStages : GoodIn wsX9_returned wsX0_doStages := goodIn_r _ [42, 43, 44, 45, 46, 47, 41, 48, 49, 50, 51, 52, 53, 54, 55, 56, 57, 58, 59, 60, 61, 62, 63, 64, 65, 66, 67, 68, 69, 70, 71, 72, 73, 74, 31, 32, 33, 75, 76, 77, 78, 79, 80, 81, 82, 83, 84, 85, 86, 87, 88, 89, 21, 90, 29, 91, 92, 13, 93, 34, 94, 95, 96, 97, 98, 99, 100, 101, 102, 103, 104, 105, 106, 107, 108, 109, 110, 111, 112, 113, 114, 115, 116, 117, 118, 119, 120, 121, 122, 123, 124, 125, 126, 127, 128, 129, 130, 131, 170, 171, 172, 173, 174, 175, 176, 177, 160, 161, 162, 163, 164, 165, 166, 167, 168, 169, 178, 179, 180, 181, 182, 183, 184] (by decide +kernel) (by decide +kernel)
set_option maxRecDepth 20000 in
theorem gX9_returned_X0_doStages : GoodIn wsX9_returned (wsV RX9 282 RX0 yX0_doStages wsX0_doStages) := goodIn_app (goodIn_of _ (by decide +kernel)) ggX9_returned_X0_doStages
set_option maxRecDepth 20000 in
theorem ggX9_returned_X7_goBack : GoodIn wsX9_returned wsX7_goBack := goodIn_r _ [135, 37, 36, 136, 129, 130, 21, 131, 34, 170, 171, 172, 173, 174, 175, 176, 177] (by decide +kernel) (by decide +kernel)
set_option maxRecDepth 20000 in
theorem gX9_returned_X7_goBack : GoodIn wsX9_returned (wsV RX9 289 RX7 yX7_goBack wsX7_goBack) := goodIn_app (goodIn_of _ (by decide +kernel)) ggX9_returned_X7_goBack
set_option maxRecDepth 20000 in
theorem ggX9_returned_X9_scaled : GoodIn wsX9_returned wsX9_scaled := goodIn_r _ [140] (by decide +kernel) (by decide +kernel)
set_option maxRecDepth 20000 in
theorem gX9_returned_X9_scaled : GoodIn wsX9_returned (va_wsS RX9 311 yX9_scaled wsX9_scaled) := goodIn_app (goodIn_of _ (by decide +kernel)) ggX9_returned_X9_scaled
theorem dX9_returned_0 : decode cX9_returned 0 = .ok (.aload_n 0, 1) := by decide +kernel
theorem dX9_returned_1 : decode cX9_returned 1 = .ok (.getfield 77, 3) := by decide +kernel
theorem dX9_returned_4 : decode cX9_returned 4 = .ok (.aload_n 0, 1) := by decide +kernel
theorem dX9_returned_5 : decode cX9_returned 5 = .ok (.getfield 19, 3) := by decide +kernel
theorem dX9_returned_8 : decode cX9_returned 8 = .ok (.invokevirtual 298, 3) := by decide +kernel
theorem dX9_returned_11 : decode cX9_returned 11 = .ok (.aload_n 0, 1) := by decide +kernel
theorem dX9_returned_12 : decode cX9_returned 12 = .ok (.getfield 56, 3) := by decide +kernel
theorem dX9_returned_15 : decode cX9_returned 15 = .ok (.aload_n 0, 1) := by decide +kernel
theorem dX9_returned_16 : decode cX9_returned 16 = .ok (.getfield 77, 3) := by decide +kernel
theorem dX9_returned_19 : decode cX9_returned 19 = .ok (.aload_n 0, 1) := by decide +kernel
theorem dX9_returned_20 : decode cX9_returned 20 = .ok (.getfield 10, 3) := by decide +kernel
theorem dX9_returned_23 : decode cX9_returned 23 = .ok (.iconst 5, 1) := by decide +kernel
theorem dX9_returned_24 : decode cX9_returned 24 = .ok (.iconst 1, 1) := by decide +kernel
theorem dX9_returned_25 : decode cX9_returned 25 = .ok (.invokevirtual 282, 3) := by decide +kernel
theorem dX9_returned_28 : decode cX9_returned 28 = .ok (.istore_n 1, 1) := by decide +kernel
theorem dX9_returned_29 : decode cX9_returned 29 = .ok (.aload_n 0, 1) := by decide +kernel
theorem dX9_returned_30 : decode cX9_returned 30 = .ok (.getfield 77, 3) := by decide +kernel
theorem dX9_returned_33 : decode cX9_returned 33 = .ok (.aload_n 0, 1) := by decide +kernel
theorem dX9_returned_34 : decode cX9_returned 34 = .ok (.getfield 10, 3) := by decide +kernel
theorem dX9_returned_37 : decode cX9_returned 37 = .ok (.getfield 115, 3) := by decide +kernel
theorem dX9_returned_40 : decode cX9_returned 40 = .ok (.invokevirtual 289, 3) := by decide +kernel
theorem dX9_returned_43 : decode cX9_returned 43 = .ok (.iload_n 1, 1) := by decide +kernel
theorem dX9_returned_44 : decode cX9_returned 44 = .ok (.aload_n 0, 1) := by decide +kernel
theorem dX9_returned_45 : decode cX9_returned 45 = .ok (.getfield 56, 3) := by decide +kernel
theorem dX9_returned_48 : decode cX9_returned 48 = .ok (.aload_n 0, 1) := by decide +kernel
theorem dX9_returned_49 : decode cX9_returned 49 = .ok (.getfield 77, 3) := by decide +kernel
theorem dX9_returned_52 : decode cX9_returned 52 = .ok (.aload_n 0, 1) := by decide +kernel
theorem dX9_returned_53 : decode cX9_returned 53 = .ok (.getfield 10, 3) := by decide +kernel
theorem dX9_returned_56 : decode cX9_returned 56 = .ok (.iconst 5, 1) := by decide +kernel
theorem dX9_returned_57 : decode cX9_returned 57 = .ok (.iconst 1, 1) := by decide +kernel
theorem dX9_returned_58 : decode cX9_returned 58 = .ok (.invokevirtual 282, 3) := by decide +kernel
theorem dX9_returned_61 : decode cX9_returned 61 = .ok (.iadd, 1) := by decide +kernel
theorem dX9_returned_62 : decode cX9_returned 62 = .ok (.istore_n 1, 1) := by decide +kernel
theorem dX9_returned_63 : decode cX9_returned 63 = .ok (.lconst 0, 1) := by decide +kernel
theorem dX9_returned_64 : decode cX9_returned 64 = .ok (.lstore_n 2, 1) := by decide +kernel
theorem dX9_returned_65 : decode cX9_returned 65 = .ok (.iconst 0, 1) := by decide +kernel
theorem dX9_returned_66 : decode cX9_returned 66 = .ok (.istore 4, 2) := by decide +kernel
theorem dX9_returned_68 : decode cX9_returned 68 = .ok (.iload 4, 2) := by decide +kernel
theorem dX9_returned_70 : decode cX9_returned 70 = .ok (.aload_n 0, 1) := by decide +kernel
theorem dX9_returned_71 : decode cX9_returned 71 = .ok (.getfield 10, 3) := by decide +kernel
theorem dX9_returned_74 : decode cX9_returned 74 = .ok (.getfield 115, 3) := by decide +kernel
theorem dX9_returned_77 : decode cX9_returned 77 = .ok (.if_icmp .ge 101, 3) := by decide +kernel
theorem dX9_returned_80 : decode cX9_returned 80 = .ok (.aload_n 0, 1) := by decide +kernel
theorem dX9_returned_81 : decode cX9_returned 81 = .ok (.getfield 77, 3) := by decide +kernel
theorem dX9_returned_84 : decode cX9_returned 84 = .ok (.getfield 175, 3) := by decide +kernel
theorem dX9_returned_87 : decode cX9_returned 87 = .ok (.iload 4, 2) := by decide +kernel
theorem dX9_returned_89 : decode cX9_returned 89 = .ok (.iaload, 1) := by decide +kernel
theorem dX9_returned_90 : decode cX9_returned 90 = .ok (.iload_n 1, 1) := by decide +kernel
theorem dX9_returned_91 : decode cX9_returned 91 = .ok (.invokestatic 311, 3) := by decide +kernel
theorem dX9_returned_94 : decode cX9_returned 94 = .ok (.aload_n 0, 1) := by decide +kernel
theorem dX9_returned_95 : decode cX9_returned 95 = .ok (.getfield 19, 3) := by decide +kernel
theorem dX9_returned_98 : decode cX9_returned 98 = .ok (.getfield 177, 3) := by decide +kernel
theorem dX9_returned_101 : decode cX9_returned 101 = .ok (.iload 4, 2) := by decide +kernel
theorem dX9_returned_103 : decode cX9_returned 103 = .ok (.iaload, 1) := by decide +kernel
theorem dX9_returned_104 : decode cX9_returned 104 = .ok (.aload_n 0, 1) := by decide +kernel
theorem dX9_returned_105 : decode cX9_returned 105 = .ok (.getfield 10, 3) := by decide +kernel
theorem dX9_returned_108 : decode cX9_returned 108 = .ok (.getfield 108, 3) := by decide +kernel
theorem dX9_returned_111 : decode cX9_returned 111 = .ok (.invokestatic 311, 3) := by decide +kernel
theorem dX9_returned_114 : decode cX9_returned 114 = .ok (.lsub, 1) := by decide +kernel
theorem dX9_returned_115 : decode cX9_returned 115 = .ok (.lstore 5, 2) := by decide +kernel
theorem dX9_returned_117 : decode cX9_returned 117 = .ok (.aload_n 0, 1) := by decide +kernel
theorem dX9_returned_118 : decode cX9_returned 118 = .ok (.getfield 77, 3) := by decide +kernel
theorem dX9_returned_121 : decode cX9_returned 121 = .ok (.getfield 176, 3) := by decide +kernel
theorem dX9_returned_124 : decode cX9_returned 124 = .ok (.iload 4, 2) := by decide +kernel
theorem dX9_returned_126 : decode cX9_returned 126 = .ok (.iaload, 1) := by decide +kernel
theorem dX9_returned_127 : decode cX9_returned 127 = .ok (.iload_n 1, 1) := by decide +kernel
theorem dX9_returned_128 : decode cX9_returned 128 = .ok (.invokestatic 311, 3) := by decide +kernel
theorem dX9_returned_131 : decode cX9_returned 131 = .ok (.aload_n 0, 1) := by decide +kernel
theorem dX9_returned_132 : decode cX9_returned 132 = .ok (.getfield 19, 3) := by decide +kernel
theorem dX9_returned_135 : decode cX9_returned 135 = .ok (.getfield 180, 3) := by decide +kernel
theorem dX9_returned_138 : decode cX9_returned 138 = .ok (.iload 4, 2) := by decide +kernel
theorem dX9_returned_140 : decode cX9_returned 140 = .ok (.iaload, 1) := by decide +kernel
theorem dX9_returned_141 : decode cX9_returned 141 = .ok (.aload_n 0, 1) := by decide +kernel
theorem dX9_returned_142 : decode cX9_returned 142 = .ok (.getfield 10, 3) := by decide +kernel
theorem dX9_returned_145 : decode cX9_returned 145 = .ok (.getfield 108, 3) := by decide +kernel
theorem dX9_returned_148 : decode cX9_returned 148 = .ok (.invokestatic 311, 3) := by decide +kernel
theorem dX9_returned_151 : decode cX9_returned 151 = .ok (.lsub, 1) := by decide +kernel
theorem dX9_returned_152 : decode cX9_returned 152 = .ok (.lstore 7, 2) := by decide +kernel
theorem dX9_returned_154 : decode cX9_returned 154 = .ok (.lload_n 2, 1) := by decide +kernel
theorem dX9_returned_155 : decode cX9_returned 155 = .ok (.lload 5, 2) := by decide +kernel
theorem dX9_returned_157 : decode cX9_returned 157 = .ok (.invokestatic 315, 3) := by decide +kernel
theorem dX9_returned_160 : decode cX9_returned 160 = .ok (.lload 7, 2) := by decide +kernel
theorem dX9_returned_162 : decode cX9_returned 162 = .ok (.invokestatic 315, 3) := by decide +kernel
theorem dX9_returned_165 : decode cX9_returned 165 = .ok (.invokestatic 321, 3) := by decide +kernel
theorem dX9_returned_168 : decode cX9_returned 168 = .ok (.invokestatic 321, 3) := by decide +kernel
theorem dX9_returned_171 : decode cX9_returned 171 = .ok (.lstore_n 2, 1) := by decide +kernel
theorem dX9_returned_172 : decode cX9_returned 172 = .ok (.iinc 4 1, 3) := by decide +kernel
theorem dX9_returned_175 : decode cX9_returned 175 = .ok (.goto (-107), 3) := by decide +kernel
theorem dX9_returned_178 : decode cX9_returned 178 = .ok (.lload_n 2, 1) := by decide +kernel
theorem dX9_returned_179 : decode cX9_returned 179 = .ok (.lreturn, 1) := by decide +kernel
theorem dX9_scaled_0 : decode cX9_scaled 0 = .ok (.iload_n 0, 1) := by decide +kernel
theorem dX9_scaled_1 : decode cX9_scaled 1 = .ok (.i2l, 1) := by decide +kernel
theorem dX9_scaled_2 : decode cX9_scaled 2 = .ok (.iload_n 1, 1) := by decide +kernel
theorem dX9_scaled_3 : decode cX9_scaled 3 = .ok (.lshl, 1) := by decide +kernel
theorem dX9_scaled_4 : decode cX9_scaled 4 = .ok (.lreturn, 1) := by decide +kernel
set_option maxRecDepth 20000 in
theorem ggX9_chance_X9_noisyHits : GoodIn wsX9_chance wsX9_noisyHits := goodIn_r _ [5, 6, 7, 8, 9, 10, 11, 12, 13, 14, 15, 16, 17, 18, 19, 20, 21, 22, 23, 24, 25, 26, 27, 28, 29, 30, 31, 32, 33, 34, 35, 4, 36, 37, 38, 39, 40, 41, 42, 43, 44, 45, 46, 47, 48, 49, 50, 51, 52, 53, 54, 55, 56, 57, 58, 59, 60, 61, 62, 63, 64, 65, 66, 67, 68, 69, 70, 71, 72, 73, 74, 75, 76, 77, 78, 79, 80, 81, 82, 83, 84, 85, 86, 87, 88, 89, 90, 91, 92, 93, 94, 95, 96, 97, 98, 99, 100, 101, 102, 103, 104, 105, 106, 107, 108, 109, 110, 111, 112, 113, 114, 115, 116, 117, 118, 119, 120, 121, 122, 123, 124, 125, 126, 127, 128, 129, 130, 131, 132, 133, 134, 135, 136, 137, 138, 139, 140, 141, 142, 143, 144, 145, 146, 147, 148, 149, 150, 151, 152, 153, 154, 155, 156, 157, 158, 159, 160, 161, 162, 163, 164, 165, 166, 167, 168, 169, 170, 171, 172, 173, 174, 175, 176, 177, 178, 179, 180, 181, 182, 183, 184, 185, 186, 187, 188, 189, 190, 191, 192, 193, 194, 195, 196, 197, 198, 199, 200] (by decide +kernel) (by decide +kernel)
set_option maxRecDepth 20000 in
theorem gX9_chance_X9_noisyHits : GoodIn wsX9_chance (wsV RX9 324 RX9 yX9_noisyHits wsX9_noisyHits) := goodIn_app (goodIn_of _ (by decide +kernel)) ggX9_chance_X9_noisyHits
theorem dX9_chance_0 : decode cX9_chance 0 = .ok (.iload_n 1, 1) := by decide +kernel
theorem dX9_chance_1 : decode cX9_chance 1 = .ok (.iconst (-1), 1) := by decide +kernel
theorem dX9_chance_2 : decode cX9_chance 2 = .ok (.if_icmp .lt 24, 3) := by decide +kernel
theorem dX9_chance_5 : decode cX9_chance 5 = .ok (.iload_n 2, 1) := by decide +kernel
theorem dX9_chance_6 : decode cX9_chance 6 = .ok (.iconst 1, 1) := by decide +kernel
theorem dX9_chance_7 : decode cX9_chance 7 = .ok (.if_icmp .lt 19, 3) := by decide +kernel
theorem dX9_chance_10 : decode cX9_chance 10 = .ok (.iload_n 2, 1) := by decide +kernel
theorem dX9_chance_11 : decode cX9_chance 11 = .ok (.bipush 99, 2) := by decide +kernel
theorem dX9_chance_13 : decode cX9_chance 13 = .ok (.if_icmp .gt 13, 3) := by decide +kernel
theorem dX9_chance_16 : decode cX9_chance 16 = .ok (.iload_n 3, 1) := by decide +kernel
theorem dX9_chance_17 : decode cX9_chance 17 = .ok (.ifCond .lt 9, 3) := by decide +kernel
theorem dX9_chance_20 : decode cX9_chance 20 = .ok (.iload_n 3, 1) := by decide +kernel
theorem dX9_chance_21 : decode cX9_chance 21 = .ok (.bipush 20, 2) := by decide +kernel
theorem dX9_chance_23 : decode cX9_chance 23 = .ok (.if_icmp .le 5, 3) := by decide +kernel
theorem dX9_chance_26 : decode cX9_chance 26 = .ok (.iconst (-1), 1) := by decide +kernel
theorem dX9_chance_27 : decode cX9_chance 27 = .ok (.ireturn, 1) := by decide +kernel
theorem dX9_chance_28 : decode cX9_chance 28 = .ok (.aload_n 0, 1) := by decide +kernel
theorem dX9_chance_29 : decode cX9_chance 29 = .ok (.iload_n 1, 1) := by decide +kernel
theorem dX9_chance_30 : decode cX9_chance 30 = .ok (.iload_n 2, 1) := by decide +kernel
theorem dX9_chance_31 : decode cX9_chance 31 = .ok (.iload_n 3, 1) := by decide +kernel
theorem dX9_chance_32 : decode cX9_chance 32 = .ok (.iconst 0, 1) := by decide +kernel
theorem dX9_chance_33 : decode cX9_chance 33 = .ok (.invokevirtual 324, 3) := by decide +kernel
theorem dX9_chance_36 : decode cX9_chance 36 = .ok (.ireturn, 1) := by decide +kernel
set_option maxRecDepth 20000 in
theorem ggX9_noise_X9_noisyHits : GoodIn wsX9_noise wsX9_noisyHits := goodIn_r _ [5, 6, 7, 8, 9, 10, 11, 12, 13, 14, 15, 16, 17, 18, 19, 20, 21, 22, 23, 24, 25, 26, 27, 28, 29, 30, 31, 32, 33, 34, 35, 4, 36, 37, 38, 39, 40, 41, 42, 43, 44, 45, 46, 47, 48, 49, 50, 51, 52, 53, 54, 55, 56, 57, 58, 59, 60, 61, 62, 63, 64, 65, 66, 67, 68, 69, 70, 71, 72, 73, 74, 75, 76, 77, 78, 79, 80, 81, 82, 83, 84, 85, 86, 87, 88, 89, 90, 91, 92, 93, 94, 95, 96, 97, 98, 99, 100, 101, 102, 103, 104, 105, 106, 107, 108, 109, 110, 111, 112, 113, 114, 115, 116, 117, 118, 119, 120, 121, 122, 123, 124, 125, 126, 127, 128, 129, 130, 131, 132, 133, 134, 135, 136, 137, 138, 139, 140, 141, 142, 143, 144, 145, 146, 147, 148, 149, 150, 151, 152, 153, 154, 155, 156, 157, 158, 159, 160, 161, 162, 163, 164, 165, 166, 167, 168, 169, 170, 171, 172, 173, 174, 175, 176, 177, 178, 179, 180, 181, 182, 183, 184, 185, 186, 187, 188, 189, 190, 191, 192, 193, 194, 195, 196, 197, 198, 199, 200] (by decide +kernel) (by decide +kernel)
set_option maxRecDepth 20000 in
theorem gX9_noise_X9_noisyHits : GoodIn wsX9_noise (wsV RX9 324 RX9 yX9_noisyHits wsX9_noisyHits) := goodIn_app (goodIn_of _ (by decide +kernel)) ggX9_noise_X9_noisyHits
theorem dX9_noise_0 : decode cX9_noise 0 = .ok (.iload_n 1, 1) := by decide +kernel
theorem dX9_noise_1 : decode cX9_noise 1 = .ok (.iconst (-1), 1) := by decide +kernel
theorem dX9_noise_2 : decode cX9_noise 2 = .ok (.if_icmp .lt 13, 3) := by decide +kernel
theorem dX9_noise_5 : decode cX9_noise 5 = .ok (.iload_n 2, 1) := by decide +kernel
theorem dX9_noise_6 : decode cX9_noise 6 = .ok (.ifCond .lt 9, 3) := by decide +kernel
theorem dX9_noise_9 : decode cX9_noise 9 = .ok (.iload_n 2, 1) := by decide +kernel
theorem dX9_noise_10 : decode cX9_noise 10 = .ok (.bipush 20, 2) := by decide +kernel
theorem dX9_noise_12 : decode cX9_noise 12 = .ok (.if_icmp .le 5, 3) := by decide +kernel
theorem dX9_noise_15 : decode cX9_noise 15 = .ok (.iconst (-1), 1) := by decide +kernel
theorem dX9_noise_16 : decode cX9_noise 16 = .ok (.ireturn, 1) := by decide +kernel
theorem dX9_noise_17 : decode cX9_noise 17 = .ok (.iconst 1, 1) := by decide +kernel
theorem dX9_noise_18 : decode cX9_noise 18 = .ok (.istore_n 3, 1) := by decide +kernel
theorem dX9_noise_19 : decode cX9_noise 19 = .ok (.iload_n 3, 1) := by decide +kernel
theorem dX9_noise_20 : decode cX9_noise 20 = .ok (.bipush 99, 2) := by decide +kernel
theorem dX9_noise_22 : decode cX9_noise 22 = .ok (.if_icmp .gt 23, 3) := by decide +kernel
theorem dX9_noise_25 : decode cX9_noise 25 = .ok (.aload_n 0, 1) := by decide +kernel
theorem dX9_noise_26 : decode cX9_noise 26 = .ok (.iload_n 1, 1) := by decide +kernel
theorem dX9_noise_27 : decode cX9_noise 27 = .ok (.iload_n 3, 1) := by decide +kernel
theorem dX9_noise_28 : decode cX9_noise 28 = .ok (.iload_n 2, 1) := by decide +kernel
theorem dX9_noise_29 : decode cX9_noise 29 = .ok (.iconst 5, 1) := by decide +kernel
theorem dX9_noise_30 : decode cX9_noise 30 = .ok (.invokevirtual 324, 3) := by decide +kernel
theorem dX9_noise_33 : decode cX9_noise 33 = .ok (.iconst 5, 1) := by decide +kernel
theorem dX9_noise_34 : decode cX9_noise 34 = .ok (.if_icmp .lt 5, 3) := by decide +kernel
theorem dX9_noise_37 : decode cX9_noise 37 = .ok (.iload_n 3, 1) := by decide +kernel
theorem dX9_noise_38 : decode cX9_noise 38 = .ok (.ireturn, 1) := by decide +kernel
theorem dX9_noise_39 : decode cX9_noise 39 = .ok (.iinc 3 1, 3) := by decide +kernel
theorem dX9_noise_42 : decode cX9_noise 42 = .ok (.goto (-23), 3) := by decide +kernel
theorem dX9_noise_45 : decode cX9_noise 45 = .ok (.bipush (-2), 2) := by decide +kernel
theorem dX9_noise_47 : decode cX9_noise 47 = .ok (.ireturn, 1) := by decide +kernel
set_option maxRecDepth 20000 in
theorem ggX9_noisyHits_X7_restartFrom : GoodIn wsX9_noisyHits wsX7_restartFrom := goodIn_r _ [12, 13, 14, 15, 16, 17, 11, 18, 19, 20, 21, 22, 23, 24, 25, 26, 27, 182, 183, 184, 185, 186, 187, 188, 189] (by decide +kernel) (by decide +kernel)
set_option maxRecDepth 20000 in
theorem gX9_noisyHits_X7_restartFrom : GoodIn wsX9_noisyHits (wsV RX9 298 RX7 yX7_restartFrom wsX7_restartFrom) := goodIn_app (goodIn_of _ (by decide +kernel)) ggX9_noisyHits_X7_restartFrom
set_option maxRecDepth 20000 in
theorem ggX9_noisyHits_X9_addNoise : GoodIn wsX9_noisyHits wsX9_addNoise := goodIn_r _ [32, 2, 33, 5, 34, 1, 35, 36, 37, 38, 39, 40, 41, 42, 43, 44, 45, 46, 47, 48, 49, 50, 31, 51, 52, 53, 54, 55, 56, 57, 58, 59, 152, 153, 154, 155, 156, 157, 158, 159, 160, 161, 162, 163, 164, 165, 166, 167, 168, 169, 170, 171, 172, 173, 174, 175, 176, 177, 178, 179, 180, 182, 183, 184, 185, 186, 187, 188, 189, 181] (by decide +kernel) (by decide +kernel)
set_option maxRecDepth 20000 in
theorem gX9_noisyHits_X9_addNoise : GoodIn wsX9_noisyHits (wsV RX9 334 RX9 yX9_addNoise wsX9_addNoise) := goodIn_app (goodIn_of _ (by decide +kernel)) ggX9_noisyHits_X9_addNoise
set_option maxRecDepth 20000 in
theorem ggX9_noisyHits_X0_doStages : GoodIn wsX9_noisyHits wsX0_doStages := goodIn_r _ [64, 65, 66, 67, 68, 69, 63, 70, 71, 72, 73, 74, 75, 76, 77, 78, 79, 80, 81, 82, 83, 84, 85, 86, 87, 88, 89, 90, 91, 92, 93, 94, 95, 96, 21, 22, 23, 97, 98, 99, 100, 101, 102, 103, 104, 105, 106, 107, 108, 109, 110, 111, 11, 112, 19, 113, 114, 55, 115, 24, 116, 58, 59, 117, 118, 119, 120, 121, 122, 123, 124, 125, 126, 127, 128, 129, 130, 131, 132, 133, 134, 135, 136, 137, 138, 139, 140, 141, 142, 143, 144, 145, 146, 147, 148, 149, 150, 151, 182, 183, 184, 185, 186, 187, 188, 189, 171, 172, 173, 174, 175, 176, 177, 178, 179, 180, 190, 191, 192, 193, 194, 195, 196] (by decide +kernel) (by decide +kernel)
set_option maxRecDepth 20000 in
theorem gX9_noisyHits_X0_doStages : GoodIn wsX9_noisyHits (wsV RX9 282 RX0 yX0_doStages wsX0_doStages) := goodIn_app (goodIn_of _ (by decide +kernel)) ggX9_noisyHits_X0_doStages
theorem dX9_noisyHits_0 : decode cX9_noisyHits 0 = .ok (.aload_n 0, 1) := by decide +kernel
theorem dX9_noisyHits_1 : decode cX9_noisyHits 1 = .ok (.getfield 70, 3) := by decide +kernel
theorem dX9_noisyHits_4 : decode cX9_noisyHits 4 = .ok (.iload_n 1, 1) := by decide +kernel
theorem dX9_noisyHits_5 : decode cX9_noisyHits 5 = .ok (.iconst (-1), 1) := by decide +kernel
theorem dX9_noisyHits_6 : decode cX9_noisyHits 6 = .ok (.if_icmp .ne 13, 3) := by decide +kernel
theorem dX9_noisyHits_9 : decode cX9_noisyHits 9 = .ok (.aload_n 0, 1) := by decide +kernel
theorem dX9_noisyHits_10 : decode cX9_noisyHits 10 = .ok (.getfield 10, 3) := by decide +kernel
theorem dX9_noisyHits_13 : decode cX9_noisyHits 13 = .ok (.getfield 328, 3) := by decide +kernel
theorem dX9_noisyHits_16 : decode cX9_noisyHits 16 = .ok (.goto 4, 3) := by decide +kernel
theorem dX9_noisyHits_19 : decode cX9_noisyHits 19 = .ok (.iload_n 1, 1) := by decide +kernel
theorem dX9_noisyHits_20 : decode cX9_noisyHits 20 = .ok (.putfield 331, 3) := by decide +kernel
theorem dX9_noisyHits_23 : decode cX9_noisyHits 23 = .ok (.iconst 0, 1) := by decide +kernel
theorem dX9_noisyHits_24 : decode cX9_noisyHits 24 = .ok (.istore 5, 2) := by decide +kernel
theorem dX9_noisyHits_26 : decode cX9_noisyHits 26 = .ok (.iconst 1, 1) := by decide +kernel
theorem dX9_noisyHits_27 : decode cX9_noisyHits 27 = .ok (.istore 6, 2) := by decide +kernel
theorem dX9_noisyHits_29 : decode cX9_noisyHits 29 = .ok (.iload 6, 2) := by decide +kernel
theorem dX9_noisyHits_31 : decode cX9_noisyHits 31 = .ok (.bipush 10, 2) := by decide +kernel
theorem dX9_noisyHits_33 : decode cX9_noisyHits 33 = .ok (.if_icmp .gt 77, 3) := by decide +kernel
theorem dX9_noisyHits_36 : decode cX9_noisyHits 36 = .ok (.aload_n 0, 1) := by decide +kernel
theorem dX9_noisyHits_37 : decode cX9_noisyHits 37 = .ok (.getfield 77, 3) := by decide +kernel
theorem dX9_noisyHits_40 : decode cX9_noisyHits 40 = .ok (.aload_n 0, 1) := by decide +kernel
theorem dX9_noisyHits_41 : decode cX9_noisyHits 41 = .ok (.getfield 19, 3) := by decide +kernel
theorem dX9_noisyHits_44 : decode cX9_noisyHits 44 = .ok (.invokevirtual 298, 3) := by decide +kernel
theorem dX9_noisyHits_47 : decode cX9_noisyHits 47 = .ok (.aload_n 0, 1) := by decide +kernel
theorem dX9_noisyHits_48 : decode cX9_noisyHits 48 = .ok (.iload_n 2, 1) := by decide +kernel
theorem dX9_noisyHits_49 : decode cX9_noisyHits 49 = .ok (.invokevirtual 334, 3) := by decide +kernel
theorem dX9_noisyHits_52 : decode cX9_noisyHits 52 = .ok (.aload_n 0, 1) := by decide +kernel
theorem dX9_noisyHits_53 : decode cX9_noisyHits 53 = .ok (.getfield 56, 3) := by decide +kernel
theorem dX9_noisyHits_56 : decode cX9_noisyHits 56 = .ok (.aload_n 0, 1) := by decide +kernel
theorem dX9_noisyHits_57 : decode cX9_noisyHits 57 = .ok (.getfield 77, 3) := by decide +kernel
theorem dX9_noisyHits_60 : decode cX9_noisyHits 60 = .ok (.aload_n 0, 1) := by decide +kernel
theorem dX9_noisyHits_61 : decode cX9_noisyHits 61 = .ok (.getfield 10, 3) := by decide +kernel
theorem dX9_noisyHits_64 : decode cX9_noisyHits 64 = .ok (.iconst 5, 1) := by decide +kernel
theorem dX9_noisyHits_65 : decode cX9_noisyHits 65 = .ok (.iconst 1, 1) := by decide +kernel
theorem dX9_noisyHits_66 : decode cX9_noisyHits 66 = .ok (.invokevirtual 282, 3) := by decide +kernel
theorem dX9_noisyHits_69 : decode cX9_noisyHits 69 = .ok (.iload_n 3, 1) := by decide +kernel
theorem dX9_noisyHits_70 : decode cX9_noisyHits 70 = .ok (.if_icmp .lt 6, 3) := by decide +kernel
theorem dX9_noisyHits_73 : decode cX9_noisyHits 73 = .ok (.iinc 5 1, 3) := by decide +kernel
theorem dX9_noisyHits_76 : decode cX9_noisyHits 76 = .ok (.iload 4, 2) := by decide +kernel
theorem dX9_noisyHits_78 : decode cX9_noisyHits 78 = .ok (.ifCond .le 26, 3) := by decide +kernel
theorem dX9_noisyHits_81 : decode cX9_noisyHits 81 = .ok (.iload 5, 2) := by decide +kernel
theorem dX9_noisyHits_83 : decode cX9_noisyHits 83 = .ok (.iload 4, 2) := by decide +kernel
theorem dX9_noisyHits_85 : decode cX9_noisyHits 85 = .ok (.if_icmp .ge 16, 3) := by decide +kernel
theorem dX9_noisyHits_88 : decode cX9_noisyHits 88 = .ok (.iload 5, 2) := by decide +kernel
theorem dX9_noisyHits_90 : decode cX9_noisyHits 90 = .ok (.bipush 10, 2) := by decide +kernel
theorem dX9_noisyHits_92 : decode cX9_noisyHits 92 = .ok (.iadd, 1) := by decide +kernel
theorem dX9_noisyHits_93 : decode cX9_noisyHits 93 = .ok (.iload 6, 2) := by decide +kernel
theorem dX9_noisyHits_95 : decode cX9_noisyHits 95 = .ok (.isub, 1) := by decide +kernel
theorem dX9_noisyHits_96 : decode cX9_noisyHits 96 = .ok (.iload 4, 2) := by decide +kernel
theorem dX9_noisyHits_98 : decode cX9_noisyHits 98 = .ok (.if_icmp .ge 6, 3) := by decide +kernel
theorem dX9_noisyHits_101 : decode cX9_noisyHits 101 = .ok (.iload 5, 2) := by decide +kernel
theorem dX9_noisyHits_103 : decode cX9_noisyHits 103 = .ok (.ireturn, 1) := by decide +kernel
theorem dX9_noisyHits_104 : decode cX9_noisyHits 104 = .ok (.iinc 6 1, 3) := by decide +kernel
theorem dX9_noisyHits_107 : decode cX9_noisyHits 107 = .ok (.goto (-78), 3) := by decide +kernel
theorem dX9_noisyHits_110 : decode cX9_noisyHits 110 = .ok (.iload 5, 2) := by decide +kernel
theorem dX9_noisyHits_112 : decode cX9_noisyHits 112 = .ok (.ireturn, 1) := by decide +kernel
set_option maxRecDepth 20000 in
theorem ggX9_addNoise_X1_amount : GoodIn wsX9_addNoise wsX1_amount := goodIn_r _ [11, 12, 13, 14, 15, 16, 17, 18, 69] (by decide +kernel) (by decide +kernel)
set_option maxRecDepth 20000 in
theorem gX9_addNoise_X1_amount : GoodIn wsX9_addNoise (wsV RX9 337 RX1 yX1_amount wsX1_amount) := goodIn_app (goodIn_of _ (by decide +kernel)) ggX9_addNoise_X1_amount
set_option maxRecDepth 20000 in
theorem ggX9_addNoise_X9_kept : GoodIn wsX9_addNoise wsX9_kept := goodIn_r _ [23, 1, 24, 25, 26, 27, 28, 29, 30, 31, 32, 33, 34, 35, 36, 37, 38, 39, 40, 41, 42, 43, 44, 45, 46, 47, 48, 49, 50, 51, 52, 53, 54, 55, 56, 57, 58, 59, 60] (by decide +kernel) (by decide +kernel)
set_option maxRecDepth 20000 in
theorem gX9_addNoise_X9_kept : GoodIn wsX9_addNoise (wsV RX9 340 RX9 yX9_kept wsX9_kept) := goodIn_app (goodIn_of _ (by decide +kernel)) ggX9_addNoise_X9_kept
theorem dX9_addNoise_0 : decode cX9_addNoise 0 = .ok (.iconst 0, 1) := by decide +kernel
theorem dX9_addNoise_1 : decode cX9_addNoise 1 = .ok (.istore_n 2, 1) := by decide +kernel
theorem dX9_addNoise_2 : decode cX9_addNoise 2 = .ok (.iload_n 2, 1) := by decide +kernel
theorem dX9_addNoise_3 : decode cX9_addNoise 3 = .ok (.aload_n 0, 1) := by decide +kernel
theorem dX9_addNoise_4 : decode cX9_addNoise 4 = .ok (.getfield 10, 3) := by decide +kernel
theorem dX9_addNoise_7 : decode cX9_addNoise 7 = .ok (.getfield 115, 3) := by decide +kernel
theorem dX9_addNoise_10 : decode cX9_addNoise 10 = .ok (.if_icmp .ge 71, 3) := by decide +kernel
theorem dX9_addNoise_13 : decode cX9_addNoise 13 = .ok (.aload_n 0, 1) := by decide +kernel
theorem dX9_addNoise_14 : decode cX9_addNoise 14 = .ok (.getfield 77, 3) := by decide +kernel
theorem dX9_addNoise_17 : decode cX9_addNoise 17 = .ok (.getfield 175, 3) := by decide +kernel
theorem dX9_addNoise_20 : decode cX9_addNoise 20 = .ok (.iload_n 2, 1) := by decide +kernel
theorem dX9_addNoise_21 : decode cX9_addNoise 21 = .ok (.aload_n 0, 1) := by decide +kernel
theorem dX9_addNoise_22 : decode cX9_addNoise 22 = .ok (.aload_n 0, 1) := by decide +kernel
theorem dX9_addNoise_23 : decode cX9_addNoise 23 = .ok (.getfield 77, 3) := by decide +kernel
theorem dX9_addNoise_26 : decode cX9_addNoise 26 = .ok (.getfield 175, 3) := by decide +kernel
theorem dX9_addNoise_29 : decode cX9_addNoise 29 = .ok (.iload_n 2, 1) := by decide +kernel
theorem dX9_addNoise_30 : decode cX9_addNoise 30 = .ok (.iaload, 1) := by decide +kernel
theorem dX9_addNoise_31 : decode cX9_addNoise 31 = .ok (.aload_n 0, 1) := by decide +kernel
theorem dX9_addNoise_32 : decode cX9_addNoise 32 = .ok (.getfield 70, 3) := by decide +kernel
theorem dX9_addNoise_35 : decode cX9_addNoise 35 = .ok (.iload_n 1, 1) := by decide +kernel
theorem dX9_addNoise_36 : decode cX9_addNoise 36 = .ok (.invokevirtual 337, 3) := by decide +kernel
theorem dX9_addNoise_39 : decode cX9_addNoise 39 = .ok (.iadd, 1) := by decide +kernel
theorem dX9_addNoise_40 : decode cX9_addNoise 40 = .ok (.invokevirtual 340, 3) := by decide +kernel
theorem dX9_addNoise_43 : decode cX9_addNoise 43 = .ok (.iastore, 1) := by decide +kernel
theorem dX9_addNoise_44 : decode cX9_addNoise 44 = .ok (.aload_n 0, 1) := by decide +kernel
theorem dX9_addNoise_45 : decode cX9_addNoise 45 = .ok (.getfield 77, 3) := by decide +kernel
theorem dX9_addNoise_48 : decode cX9_addNoise 48 = .ok (.getfield 176, 3) := by decide +kernel
theorem dX9_addNoise_51 : decode cX9_addNoise 51 = .ok (.iload_n 2, 1) := by decide +kernel
theorem dX9_addNoise_52 : decode cX9_addNoise 52 = .ok (.aload_n 0, 1) := by decide +kernel
theorem dX9_addNoise_53 : decode cX9_addNoise 53 = .ok (.aload_n 0, 1) := by decide +kernel
theorem dX9_addNoise_54 : decode cX9_addNoise 54 = .ok (.getfield 77, 3) := by decide +kernel
theorem dX9_addNoise_57 : decode cX9_addNoise 57 = .ok (.getfield 176, 3) := by decide +kernel
theorem dX9_addNoise_60 : decode cX9_addNoise 60 = .ok (.iload_n 2, 1) := by decide +kernel
theorem dX9_addNoise_61 : decode cX9_addNoise 61 = .ok (.iaload, 1) := by decide +kernel
theorem dX9_addNoise_62 : decode cX9_addNoise 62 = .ok (.aload_n 0, 1) := by decide +kernel
theorem dX9_addNoise_63 : decode cX9_addNoise 63 = .ok (.getfield 70, 3) := by decide +kernel
theorem dX9_addNoise_66 : decode cX9_addNoise 66 = .ok (.iload_n 1, 1) := by decide +kernel
theorem dX9_addNoise_67 : decode cX9_addNoise 67 = .ok (.invokevirtual 337, 3) := by decide +kernel
theorem dX9_addNoise_70 : decode cX9_addNoise 70 = .ok (.iadd, 1) := by decide +kernel
theorem dX9_addNoise_71 : decode cX9_addNoise 71 = .ok (.invokevirtual 340, 3) := by decide +kernel
theorem dX9_addNoise_74 : decode cX9_addNoise 74 = .ok (.iastore, 1) := by decide +kernel
theorem dX9_addNoise_75 : decode cX9_addNoise 75 = .ok (.iinc 2 1, 3) := by decide +kernel
theorem dX9_addNoise_78 : decode cX9_addNoise 78 = .ok (.goto (-76), 3) := by decide +kernel
theorem dX9_addNoise_81 : decode cX9_addNoise 81 = .ok (.return_, 1) := by decide +kernel
theorem dX9_kept_0 : decode cX9_kept 0 = .ok (.aload_n 0, 1) := by decide +kernel
theorem dX9_kept_1 : decode cX9_kept 1 = .ok (.getfield 10, 3) := by decide +kernel
theorem dX9_kept_4 : decode cX9_kept 4 = .ok (.getfield 220, 3) := by decide +kernel
theorem dX9_kept_7 : decode cX9_kept 7 = .ok (.ineg, 1) := by decide +kernel
theorem dX9_kept_8 : decode cX9_kept 8 = .ok (.aload_n 0, 1) := by decide +kernel
theorem dX9_kept_9 : decode cX9_kept 9 = .ok (.getfield 10, 3) := by decide +kernel
theorem dX9_kept_12 : decode cX9_kept 12 = .ok (.getfield 220, 3) := by decide +kernel
theorem dX9_kept_15 : decode cX9_kept 15 = .ok (.iload_n 1, 1) := by decide +kernel
theorem dX9_kept_16 : decode cX9_kept 16 = .ok (.invokestatic 343, 3) := by decide +kernel
theorem dX9_kept_19 : decode cX9_kept 19 = .ok (.invokestatic 346, 3) := by decide +kernel
theorem dX9_kept_22 : decode cX9_kept 22 = .ok (.ireturn, 1) := by decide +kernel
theorem dX9_directSum_0 : decode cX9_directSum 0 = .ok (.lconst 0, 1) := by decide +kernel
theorem dX9_directSum_1 : decode cX9_directSum 1 = .ok (.lstore_n 3, 1) := by decide +kernel
theorem dX9_directSum_2 : decode cX9_directSum 2 = .ok (.iconst 0, 1) := by decide +kernel
theorem dX9_directSum_3 : decode cX9_directSum 3 = .ok (.istore 5, 2) := by decide +kernel
theorem dX9_directSum_5 : decode cX9_directSum 5 = .ok (.iload 5, 2) := by decide +kernel
theorem dX9_directSum_7 : decode cX9_directSum 7 = .ok (.aload_n 0, 1) := by decide +kernel
theorem dX9_directSum_8 : decode cX9_directSum 8 = .ok (.getfield 10, 3) := by decide +kernel
theorem dX9_directSum_11 : decode cX9_directSum 11 = .ok (.getfield 115, 3) := by decide +kernel
theorem dX9_directSum_14 : decode cX9_directSum 14 = .ok (.if_icmp .ge 119, 3) := by decide +kernel
theorem dX9_directSum_17 : decode cX9_directSum 17 = .ok (.iload 5, 2) := by decide +kernel
theorem dX9_directSum_19 : decode cX9_directSum 19 = .ok (.iload_n 1, 1) := by decide +kernel
theorem dX9_directSum_20 : decode cX9_directSum 20 = .ok (.imul, 1) := by decide +kernel
theorem dX9_directSum_21 : decode cX9_directSum 21 = .ok (.aload_n 0, 1) := by decide +kernel
theorem dX9_directSum_22 : decode cX9_directSum 22 = .ok (.getfield 10, 3) := by decide +kernel
theorem dX9_directSum_25 : decode cX9_directSum 25 = .ok (.getfield 115, 3) := by decide +kernel
theorem dX9_directSum_28 : decode cX9_directSum 28 = .ok (.iconst 1, 1) := by decide +kernel
theorem dX9_directSum_29 : decode cX9_directSum 29 = .ok (.isub, 1) := by decide +kernel
theorem dX9_directSum_30 : decode cX9_directSum 30 = .ok (.iand, 1) := by decide +kernel
theorem dX9_directSum_31 : decode cX9_directSum 31 = .ok (.istore 6, 2) := by decide +kernel
theorem dX9_directSum_33 : decode cX9_directSum 33 = .ok (.aload_n 0, 1) := by decide +kernel
theorem dX9_directSum_34 : decode cX9_directSum 34 = .ok (.getfield 47, 3) := by decide +kernel
theorem dX9_directSum_37 : decode cX9_directSum 37 = .ok (.getfield 186, 3) := by decide +kernel
theorem dX9_directSum_40 : decode cX9_directSum 40 = .ok (.iload 6, 2) := by decide +kernel
theorem dX9_directSum_42 : decode cX9_directSum 42 = .ok (.iaload, 1) := by decide +kernel
theorem dX9_directSum_43 : decode cX9_directSum 43 = .ok (.i2l, 1) := by decide +kernel
theorem dX9_directSum_44 : decode cX9_directSum 44 = .ok (.lstore 7, 2) := by decide +kernel
theorem dX9_directSum_46 : decode cX9_directSum 46 = .ok (.aload_n 0, 1) := by decide +kernel
theorem dX9_directSum_47 : decode cX9_directSum 47 = .ok (.getfield 47, 3) := by decide +kernel
theorem dX9_directSum_50 : decode cX9_directSum 50 = .ok (.getfield 189, 3) := by decide +kernel
theorem dX9_directSum_53 : decode cX9_directSum 53 = .ok (.iload 6, 2) := by decide +kernel
theorem dX9_directSum_55 : decode cX9_directSum 55 = .ok (.iaload, 1) := by decide +kernel
theorem dX9_directSum_56 : decode cX9_directSum 56 = .ok (.i2l, 1) := by decide +kernel
theorem dX9_directSum_57 : decode cX9_directSum 57 = .ok (.lstore 9, 2) := by decide +kernel
theorem dX9_directSum_59 : decode cX9_directSum 59 = .ok (.lload_n 3, 1) := by decide +kernel
theorem dX9_directSum_60 : decode cX9_directSum 60 = .ok (.iload_n 2, 1) := by decide +kernel
theorem dX9_directSum_61 : decode cX9_directSum 61 = .ok (.ifCond .eq 35, 3) := by decide +kernel
theorem dX9_directSum_64 : decode cX9_directSum 64 = .ok (.aload_n 0, 1) := by decide +kernel
theorem dX9_directSum_65 : decode cX9_directSum 65 = .ok (.getfield 19, 3) := by decide +kernel
theorem dX9_directSum_68 : decode cX9_directSum 68 = .ok (.getfield 180, 3) := by decide +kernel
theorem dX9_directSum_71 : decode cX9_directSum 71 = .ok (.iload 5, 2) := by decide +kernel
theorem dX9_directSum_73 : decode cX9_directSum 73 = .ok (.iaload, 1) := by decide +kernel
theorem dX9_directSum_74 : decode cX9_directSum 74 = .ok (.i2l, 1) := by decide +kernel
theorem dX9_directSum_75 : decode cX9_directSum 75 = .ok (.lload 7, 2) := by decide +kernel
theorem dX9_directSum_77 : decode cX9_directSum 77 = .ok (.lmul, 1) := by decide +kernel
theorem dX9_directSum_78 : decode cX9_directSum 78 = .ok (.aload_n 0, 1) := by decide +kernel
theorem dX9_directSum_79 : decode cX9_directSum 79 = .ok (.getfield 19, 3) := by decide +kernel
theorem dX9_directSum_82 : decode cX9_directSum 82 = .ok (.getfield 177, 3) := by decide +kernel
theorem dX9_directSum_85 : decode cX9_directSum 85 = .ok (.iload 5, 2) := by decide +kernel
theorem dX9_directSum_87 : decode cX9_directSum 87 = .ok (.iaload, 1) := by decide +kernel
theorem dX9_directSum_88 : decode cX9_directSum 88 = .ok (.i2l, 1) := by decide +kernel
theorem dX9_directSum_89 : decode cX9_directSum 89 = .ok (.lload 9, 2) := by decide +kernel
theorem dX9_directSum_91 : decode cX9_directSum 91 = .ok (.lmul, 1) := by decide +kernel
theorem dX9_directSum_92 : decode cX9_directSum 92 = .ok (.lsub, 1) := by decide +kernel
theorem dX9_directSum_93 : decode cX9_directSum 93 = .ok (.goto 32, 3) := by decide +kernel
theorem dX9_directSum_96 : decode cX9_directSum 96 = .ok (.aload_n 0, 1) := by decide +kernel
theorem dX9_directSum_97 : decode cX9_directSum 97 = .ok (.getfield 19, 3) := by decide +kernel
theorem dX9_directSum_100 : decode cX9_directSum 100 = .ok (.getfield 177, 3) := by decide +kernel
theorem dX9_directSum_103 : decode cX9_directSum 103 = .ok (.iload 5, 2) := by decide +kernel
theorem dX9_directSum_105 : decode cX9_directSum 105 = .ok (.iaload, 1) := by decide +kernel
theorem dX9_directSum_106 : decode cX9_directSum 106 = .ok (.i2l, 1) := by decide +kernel
theorem dX9_directSum_107 : decode cX9_directSum 107 = .ok (.lload 7, 2) := by decide +kernel
theorem dX9_directSum_109 : decode cX9_directSum 109 = .ok (.lmul, 1) := by decide +kernel
theorem dX9_directSum_110 : decode cX9_directSum 110 = .ok (.aload_n 0, 1) := by decide +kernel
theorem dX9_directSum_111 : decode cX9_directSum 111 = .ok (.getfield 19, 3) := by decide +kernel
theorem dX9_directSum_114 : decode cX9_directSum 114 = .ok (.getfield 180, 3) := by decide +kernel
theorem dX9_directSum_117 : decode cX9_directSum 117 = .ok (.iload 5, 2) := by decide +kernel
theorem dX9_directSum_119 : decode cX9_directSum 119 = .ok (.iaload, 1) := by decide +kernel
theorem dX9_directSum_120 : decode cX9_directSum 120 = .ok (.i2l, 1) := by decide +kernel
theorem dX9_directSum_121 : decode cX9_directSum 121 = .ok (.lload 9, 2) := by decide +kernel
theorem dX9_directSum_123 : decode cX9_directSum 123 = .ok (.lmul, 1) := by decide +kernel
theorem dX9_directSum_124 : decode cX9_directSum 124 = .ok (.ladd, 1) := by decide +kernel
theorem dX9_directSum_125 : decode cX9_directSum 125 = .ok (.ladd, 1) := by decide +kernel
theorem dX9_directSum_126 : decode cX9_directSum 126 = .ok (.lstore_n 3, 1) := by decide +kernel
theorem dX9_directSum_127 : decode cX9_directSum 127 = .ok (.iinc 5 1, 3) := by decide +kernel
theorem dX9_directSum_130 : decode cX9_directSum 130 = .ok (.goto (-125), 3) := by decide +kernel
theorem dX9_directSum_133 : decode cX9_directSum 133 = .ok (.lload_n 3, 1) := by decide +kernel
theorem dX9_directSum_134 : decode cX9_directSum 134 = .ok (.lreturn, 1) := by decide +kernel
set_option maxRecDepth 20000 in
theorem ggX9_fillSums_X9_directSum : GoodIn wsX9_fillSums wsX9_directSum := goodIn_r _ [9, 1, 2, 10, 11, 12, 13, 14, 15, 16, 17, 18, 19, 20, 21, 22, 23, 24, 25, 26, 27, 28, 29, 30, 31, 32, 33, 34, 35, 36, 37, 38, 39, 40, 41, 42, 43, 44, 45, 46, 47, 48, 49, 50, 51, 52, 53, 54] (by decide +kernel) (by decide +kernel)
set_option maxRecDepth 20000 in
theorem gX9_fillSums_X9_directSum : GoodIn wsX9_fillSums (wsV RX9 348 RX9 yX9_directSum wsX9_directSum) := goodIn_app (goodIn_of _ (by decide +kernel)) ggX9_fillSums_X9_directSum
theorem dX9_fillSums_0 : decode cX9_fillSums 0 = .ok (.iconst 0, 1) := by decide +kernel
theorem dX9_fillSums_1 : decode cX9_fillSums 1 = .ok (.istore_n 1, 1) := by decide +kernel
theorem dX9_fillSums_2 : decode cX9_fillSums 2 = .ok (.iload_n 1, 1) := by decide +kernel
theorem dX9_fillSums_3 : decode cX9_fillSums 3 = .ok (.aload_n 0, 1) := by decide +kernel
theorem dX9_fillSums_4 : decode cX9_fillSums 4 = .ok (.getfield 10, 3) := by decide +kernel
theorem dX9_fillSums_7 : decode cX9_fillSums 7 = .ok (.getfield 115, 3) := by decide +kernel
theorem dX9_fillSums_10 : decode cX9_fillSums 10 = .ok (.if_icmp .ge 33, 3) := by decide +kernel
theorem dX9_fillSums_13 : decode cX9_fillSums 13 = .ok (.aload_n 0, 1) := by decide +kernel
theorem dX9_fillSums_14 : decode cX9_fillSums 14 = .ok (.getfield 83, 3) := by decide +kernel
theorem dX9_fillSums_17 : decode cX9_fillSums 17 = .ok (.iload_n 1, 1) := by decide +kernel
theorem dX9_fillSums_18 : decode cX9_fillSums 18 = .ok (.aload_n 0, 1) := by decide +kernel
theorem dX9_fillSums_19 : decode cX9_fillSums 19 = .ok (.iload_n 1, 1) := by decide +kernel
theorem dX9_fillSums_20 : decode cX9_fillSums 20 = .ok (.iconst 0, 1) := by decide +kernel
theorem dX9_fillSums_21 : decode cX9_fillSums 21 = .ok (.invokevirtual 348, 3) := by decide +kernel
theorem dX9_fillSums_24 : decode cX9_fillSums 24 = .ok (.lastore, 1) := by decide +kernel
theorem dX9_fillSums_25 : decode cX9_fillSums 25 = .ok (.aload_n 0, 1) := by decide +kernel
theorem dX9_fillSums_26 : decode cX9_fillSums 26 = .ok (.getfield 87, 3) := by decide +kernel
theorem dX9_fillSums_29 : decode cX9_fillSums 29 = .ok (.iload_n 1, 1) := by decide +kernel
theorem dX9_fillSums_30 : decode cX9_fillSums 30 = .ok (.aload_n 0, 1) := by decide +kernel
theorem dX9_fillSums_31 : decode cX9_fillSums 31 = .ok (.iload_n 1, 1) := by decide +kernel
theorem dX9_fillSums_32 : decode cX9_fillSums 32 = .ok (.iconst 1, 1) := by decide +kernel
theorem dX9_fillSums_33 : decode cX9_fillSums 33 = .ok (.invokevirtual 348, 3) := by decide +kernel
theorem dX9_fillSums_36 : decode cX9_fillSums 36 = .ok (.lastore, 1) := by decide +kernel
theorem dX9_fillSums_37 : decode cX9_fillSums 37 = .ok (.iinc 1 1, 3) := by decide +kernel
theorem dX9_fillSums_40 : decode cX9_fillSums 40 = .ok (.goto (-38), 3) := by decide +kernel
theorem dX9_fillSums_43 : decode cX9_fillSums 43 = .ok (.return_, 1) := by decide +kernel
set_option maxRecDepth 20000 in
theorem ggX9_offSums_X9_scaled : GoodIn wsX9_offSums wsX9_scaled := goodIn_r _ [17] (by decide +kernel) (by decide +kernel)
set_option maxRecDepth 20000 in
theorem gX9_offSums_X9_scaled : GoodIn wsX9_offSums (va_wsS RX9 311 yX9_scaled wsX9_scaled) := goodIn_app (goodIn_of _ (by decide +kernel)) ggX9_offSums_X9_scaled
theorem dX9_offSums_0 : decode cX9_offSums 0 = .ok (.aload_n 1, 1) := by decide +kernel
theorem dX9_offSums_1 : decode cX9_offSums 1 = .ok (.getfield 175, 3) := by decide +kernel
theorem dX9_offSums_4 : decode cX9_offSums 4 = .ok (.iload_n 2, 1) := by decide +kernel
theorem dX9_offSums_5 : decode cX9_offSums 5 = .ok (.iaload, 1) := by decide +kernel
theorem dX9_offSums_6 : decode cX9_offSums 6 = .ok (.aload_n 1, 1) := by decide +kernel
theorem dX9_offSums_7 : decode cX9_offSums 7 = .ok (.getfield 244, 3) := by decide +kernel
theorem dX9_offSums_10 : decode cX9_offSums 10 = .ok (.invokestatic 311, 3) := by decide +kernel
theorem dX9_offSums_13 : decode cX9_offSums 13 = .ok (.ldc2_w 272, 3) := by decide +kernel
theorem dX9_offSums_16 : decode cX9_offSums 16 = .ok (.lmul, 1) := by decide +kernel
theorem dX9_offSums_17 : decode cX9_offSums 17 = .ok (.aload_n 0, 1) := by decide +kernel
theorem dX9_offSums_18 : decode cX9_offSums 18 = .ok (.getfield 83, 3) := by decide +kernel
theorem dX9_offSums_21 : decode cX9_offSums 21 = .ok (.iload_n 2, 1) := by decide +kernel
theorem dX9_offSums_22 : decode cX9_offSums 22 = .ok (.laload, 1) := by decide +kernel
theorem dX9_offSums_23 : decode cX9_offSums 23 = .ok (.lsub, 1) := by decide +kernel
theorem dX9_offSums_24 : decode cX9_offSums 24 = .ok (.lstore_n 3, 1) := by decide +kernel
theorem dX9_offSums_25 : decode cX9_offSums 25 = .ok (.aload_n 1, 1) := by decide +kernel
theorem dX9_offSums_26 : decode cX9_offSums 26 = .ok (.getfield 176, 3) := by decide +kernel
theorem dX9_offSums_29 : decode cX9_offSums 29 = .ok (.iload_n 2, 1) := by decide +kernel
theorem dX9_offSums_30 : decode cX9_offSums 30 = .ok (.iaload, 1) := by decide +kernel
theorem dX9_offSums_31 : decode cX9_offSums 31 = .ok (.aload_n 1, 1) := by decide +kernel
theorem dX9_offSums_32 : decode cX9_offSums 32 = .ok (.getfield 244, 3) := by decide +kernel
theorem dX9_offSums_35 : decode cX9_offSums 35 = .ok (.invokestatic 311, 3) := by decide +kernel
theorem dX9_offSums_38 : decode cX9_offSums 38 = .ok (.ldc2_w 272, 3) := by decide +kernel
theorem dX9_offSums_41 : decode cX9_offSums 41 = .ok (.lmul, 1) := by decide +kernel
theorem dX9_offSums_42 : decode cX9_offSums 42 = .ok (.aload_n 0, 1) := by decide +kernel
theorem dX9_offSums_43 : decode cX9_offSums 43 = .ok (.getfield 87, 3) := by decide +kernel
theorem dX9_offSums_46 : decode cX9_offSums 46 = .ok (.iload_n 2, 1) := by decide +kernel
theorem dX9_offSums_47 : decode cX9_offSums 47 = .ok (.laload, 1) := by decide +kernel
theorem dX9_offSums_48 : decode cX9_offSums 48 = .ok (.lsub, 1) := by decide +kernel
theorem dX9_offSums_49 : decode cX9_offSums 49 = .ok (.lstore 5, 2) := by decide +kernel
theorem dX9_offSums_51 : decode cX9_offSums 51 = .ok (.lload_n 3, 1) := by decide +kernel
theorem dX9_offSums_52 : decode cX9_offSums 52 = .ok (.invokestatic 315, 3) := by decide +kernel
theorem dX9_offSums_55 : decode cX9_offSums 55 = .ok (.lload 5, 2) := by decide +kernel
theorem dX9_offSums_57 : decode cX9_offSums 57 = .ok (.invokestatic 315, 3) := by decide +kernel
theorem dX9_offSums_60 : decode cX9_offSums 60 = .ok (.invokestatic 321, 3) := by decide +kernel
theorem dX9_offSums_63 : decode cX9_offSums 63 = .ok (.lreturn, 1) := by decide +kernel
set_option maxRecDepth 20000 in
theorem ggX9_worstPlace_X9_offSums : GoodIn wsX9_worstPlace wsX9_offSums := goodIn_r _ [7, 8, 9, 10, 11, 12, 13, 14, 15, 16, 17, 18, 19, 20, 21, 22, 6, 23, 53, 54, 55, 56, 57, 58, 59, 60, 24, 25, 26, 27, 28, 29, 30, 31, 32, 33, 34, 35, 36, 37, 38, 39, 40, 41, 42] (by decide +kernel) (by decide +kernel)
set_option maxRecDepth 20000 in
theorem gX9_worstPlace_X9_offSums : GoodIn wsX9_worstPlace (wsV RX9 352 RX9 yX9_offSums wsX9_offSums) := goodIn_app (goodIn_of _ (by decide +kernel)) ggX9_worstPlace_X9_offSums
theorem dX9_worstPlace_0 : decode cX9_worstPlace 0 = .ok (.iconst 0, 1) := by decide +kernel
theorem dX9_worstPlace_1 : decode cX9_worstPlace 1 = .ok (.istore_n 2, 1) := by decide +kernel
theorem dX9_worstPlace_2 : decode cX9_worstPlace 2 = .ok (.iconst 1, 1) := by decide +kernel
theorem dX9_worstPlace_3 : decode cX9_worstPlace 3 = .ok (.istore_n 3, 1) := by decide +kernel
theorem dX9_worstPlace_4 : decode cX9_worstPlace 4 = .ok (.iload_n 3, 1) := by decide +kernel
theorem dX9_worstPlace_5 : decode cX9_worstPlace 5 = .ok (.aload_n 0, 1) := by decide +kernel
theorem dX9_worstPlace_6 : decode cX9_worstPlace 6 = .ok (.getfield 10, 3) := by decide +kernel
theorem dX9_worstPlace_9 : decode cX9_worstPlace 9 = .ok (.getfield 115, 3) := by decide +kernel
theorem dX9_worstPlace_12 : decode cX9_worstPlace 12 = .ok (.if_icmp .ge 27, 3) := by decide +kernel
theorem dX9_worstPlace_15 : decode cX9_worstPlace 15 = .ok (.aload_n 0, 1) := by decide +kernel
theorem dX9_worstPlace_16 : decode cX9_worstPlace 16 = .ok (.aload_n 1, 1) := by decide +kernel
theorem dX9_worstPlace_17 : decode cX9_worstPlace 17 = .ok (.iload_n 3, 1) := by decide +kernel
theorem dX9_worstPlace_18 : decode cX9_worstPlace 18 = .ok (.invokevirtual 352, 3) := by decide +kernel
theorem dX9_worstPlace_21 : decode cX9_worstPlace 21 = .ok (.aload_n 0, 1) := by decide +kernel
theorem dX9_worstPlace_22 : decode cX9_worstPlace 22 = .ok (.aload_n 1, 1) := by decide +kernel
theorem dX9_worstPlace_23 : decode cX9_worstPlace 23 = .ok (.iload_n 2, 1) := by decide +kernel
theorem dX9_worstPlace_24 : decode cX9_worstPlace 24 = .ok (.invokevirtual 352, 3) := by decide +kernel
theorem dX9_worstPlace_27 : decode cX9_worstPlace 27 = .ok (.lcmp, 1) := by decide +kernel
theorem dX9_worstPlace_28 : decode cX9_worstPlace 28 = .ok (.ifCond .le 5, 3) := by decide +kernel
theorem dX9_worstPlace_31 : decode cX9_worstPlace 31 = .ok (.iload_n 3, 1) := by decide +kernel
theorem dX9_worstPlace_32 : decode cX9_worstPlace 32 = .ok (.istore_n 2, 1) := by decide +kernel
theorem dX9_worstPlace_33 : decode cX9_worstPlace 33 = .ok (.iinc 3 1, 3) := by decide +kernel
theorem dX9_worstPlace_36 : decode cX9_worstPlace 36 = .ok (.goto (-32), 3) := by decide +kernel
theorem dX9_worstPlace_39 : decode cX9_worstPlace 39 = .ok (.iload_n 2, 1) := by decide +kernel
theorem dX9_worstPlace_40 : decode cX9_worstPlace 40 = .ok (.ireturn, 1) := by decide +kernel
set_option maxRecDepth 20000 in
theorem ggX9_direct_X9_isPlace : GoodIn wsX9_direct wsX9_isPlace := goodIn_r _ [6, 7, 8, 19, 20, 21, 22, 23, 24, 25, 26, 27, 28, 29, 30, 31, 32, 33, 34, 35, 36, 37, 38, 39, 40, 41, 42, 43, 44, 45, 46, 47] (by decide +kernel) (by decide +kernel)
set_option maxRecDepth 20000 in
theorem gX9_direct_X9_isPlace : GoodIn wsX9_direct (wsV RX9 159 RX9 yX9_isPlace wsX9_isPlace) := goodIn_app (goodIn_of _ (by decide +kernel)) ggX9_direct_X9_isPlace
set_option maxRecDepth 20000 in
theorem ggX9_direct_X9_directSum : GoodIn wsX9_direct wsX9_directSum := goodIn_r _ [12, 7, 8, 13, 14, 15, 16, 17, 18, 19, 20, 21, 22, 23, 24, 25, 26, 27, 28, 29, 30, 31, 32, 33, 34, 35, 36, 37, 38, 39, 40, 41, 42, 43, 44, 45, 46, 47, 48, 49, 50, 51, 52, 53, 54, 55, 56, 57] (by decide +kernel) (by decide +kernel)
set_option maxRecDepth 20000 in
theorem gX9_direct_X9_directSum : GoodIn wsX9_direct (wsV RX9 348 RX9 yX9_directSum wsX9_directSum) := goodIn_app (goodIn_of _ (by decide +kernel)) ggX9_direct_X9_directSum
theorem dX9_direct_0 : decode cX9_direct 0 = .ok (.aload_n 0, 1) := by decide +kernel
theorem dX9_direct_1 : decode cX9_direct 1 = .ok (.iload_n 1, 1) := by decide +kernel
theorem dX9_direct_2 : decode cX9_direct 2 = .ok (.invokevirtual 159, 3) := by decide +kernel
theorem dX9_direct_5 : decode cX9_direct 5 = .ok (.ifCond .eq 12, 3) := by decide +kernel
theorem dX9_direct_8 : decode cX9_direct 8 = .ok (.iload_n 2, 1) := by decide +kernel
theorem dX9_direct_9 : decode cX9_direct 9 = .ok (.ifCond .lt 8, 3) := by decide +kernel
theorem dX9_direct_12 : decode cX9_direct 12 = .ok (.iload_n 2, 1) := by decide +kernel
theorem dX9_direct_13 : decode cX9_direct 13 = .ok (.iconst 1, 1) := by decide +kernel
theorem dX9_direct_14 : decode cX9_direct 14 = .ok (.if_icmp .le 7, 3) := by decide +kernel
theorem dX9_direct_17 : decode cX9_direct 17 = .ok (.ldc2_w 358, 3) := by decide +kernel
theorem dX9_direct_20 : decode cX9_direct 20 = .ok (.lreturn, 1) := by decide +kernel
theorem dX9_direct_21 : decode cX9_direct 21 = .ok (.aload_n 0, 1) := by decide +kernel
theorem dX9_direct_22 : decode cX9_direct 22 = .ok (.iload_n 1, 1) := by decide +kernel
theorem dX9_direct_23 : decode cX9_direct 23 = .ok (.iload_n 2, 1) := by decide +kernel
theorem dX9_direct_24 : decode cX9_direct 24 = .ok (.iconst 1, 1) := by decide +kernel
theorem dX9_direct_25 : decode cX9_direct 25 = .ok (.if_icmp .ne 7, 3) := by decide +kernel
theorem dX9_direct_28 : decode cX9_direct 28 = .ok (.iconst 1, 1) := by decide +kernel
theorem dX9_direct_29 : decode cX9_direct 29 = .ok (.goto 4, 3) := by decide +kernel
theorem dX9_direct_32 : decode cX9_direct 32 = .ok (.iconst 0, 1) := by decide +kernel
theorem dX9_direct_33 : decode cX9_direct 33 = .ok (.invokevirtual 348, 3) := by decide +kernel
theorem dX9_direct_36 : decode cX9_direct 36 = .ok (.lreturn, 1) := by decide +kernel
set_option maxRecDepth 20000 in
theorem ggX9_off_X9_isPlace : GoodIn wsX9_off wsX9_isPlace := goodIn_r _ [8, 9, 10, 51, 52, 53, 54, 55, 56, 57, 58, 59, 60, 61, 62, 63, 64, 65, 66, 67, 68, 69, 70, 71, 72, 73, 74, 75, 76, 77, 78, 79] (by decide +kernel) (by decide +kernel)
set_option maxRecDepth 20000 in
theorem gX9_off_X9_isPlace : GoodIn wsX9_off (wsV RX9 159 RX9 yX9_isPlace wsX9_isPlace) := goodIn_app (goodIn_of _ (by decide +kernel)) ggX9_off_X9_isPlace
set_option maxRecDepth 20000 in
theorem ggX9_off_X9_isDoneForward : GoodIn wsX9_off wsX9_isDoneForward := goodIn_r _ [14, 3, 15, 16, 9, 17, 51, 52, 53, 54, 55, 56, 57, 58, 59, 60, 61, 62, 63, 64, 65, 66, 67, 68, 69, 80, 81, 82, 83, 84, 85, 86, 87, 70, 71, 72, 73, 74, 75, 76, 77, 78, 79] (by decide +kernel) (by decide +kernel)
set_option maxRecDepth 20000 in
theorem gX9_off_X9_isDoneForward : GoodIn wsX9_off (wsV RX9 286 RX9 yX9_isDoneForward wsX9_isDoneForward) := goodIn_app (goodIn_of _ (by decide +kernel)) ggX9_off_X9_isDoneForward
set_option maxRecDepth 20000 in
theorem ggX9_off_X9_fillSums : GoodIn wsX9_off wsX9_fillSums := goodIn_r _ [21, 9, 10, 22, 23, 24, 25, 26, 7, 27, 28, 29, 30, 3, 31, 32, 51, 52, 53, 54, 55, 56, 57, 58, 59, 60, 61, 62, 63, 64, 65, 66, 67, 68, 69, 70, 71, 72, 73, 74, 75, 76, 77, 78, 79, 88, 89, 80, 81, 82, 83, 84, 85, 86, 87] (by decide +kernel) (by decide +kernel)
set_option maxRecDepth 20000 in
theorem gX9_off_X9_fillSums : GoodIn wsX9_off (wsV RX9 362 RX9 yX9_fillSums wsX9_fillSums) := goodIn_app (goodIn_of _ (by decide +kernel)) ggX9_off_X9_fillSums
set_option maxRecDepth 20000 in
theorem ggX9_off_X9_offSums : GoodIn wsX9_off wsX9_offSums := goodIn_r _ [36, 37, 38, 39, 22, 40, 23, 41, 42, 43, 44, 45, 46, 47, 48, 49, 7, 50, 80, 81, 82, 83, 84, 85, 86, 87, 51, 52, 53, 54, 55, 56, 57, 58, 59, 60, 61, 62, 63, 64, 65, 66, 67, 68, 69] (by decide +kernel) (by decide +kernel)
set_option maxRecDepth 20000 in
theorem gX9_off_X9_offSums : GoodIn wsX9_off (wsV RX9 352 RX9 yX9_offSums wsX9_offSums) := goodIn_app (goodIn_of _ (by decide +kernel)) ggX9_off_X9_offSums
theorem dX9_off_0 : decode cX9_off 0 = .ok (.aload_n 0, 1) := by decide +kernel
theorem dX9_off_1 : decode cX9_off 1 = .ok (.iload_n 1, 1) := by decide +kernel
theorem dX9_off_2 : decode cX9_off 2 = .ok (.invokevirtual 159, 3) := by decide +kernel
theorem dX9_off_5 : decode cX9_off 5 = .ok (.ifCond .ne 7, 3) := by decide +kernel
theorem dX9_off_8 : decode cX9_off 8 = .ok (.ldc2_w 223, 3) := by decide +kernel
theorem dX9_off_11 : decode cX9_off 11 = .ok (.lreturn, 1) := by decide +kernel
theorem dX9_off_12 : decode cX9_off 12 = .ok (.aload_n 0, 1) := by decide +kernel
theorem dX9_off_13 : decode cX9_off 13 = .ok (.invokevirtual 286, 3) := by decide +kernel
theorem dX9_off_16 : decode cX9_off 16 = .ok (.ifCond .ne 7, 3) := by decide +kernel
theorem dX9_off_19 : decode cX9_off 19 = .ok (.ldc2_w 360, 3) := by decide +kernel
theorem dX9_off_22 : decode cX9_off 22 = .ok (.lreturn, 1) := by decide +kernel
theorem dX9_off_23 : decode cX9_off 23 = .ok (.aload_n 0, 1) := by decide +kernel
theorem dX9_off_24 : decode cX9_off 24 = .ok (.invokevirtual 362, 3) := by decide +kernel
theorem dX9_off_27 : decode cX9_off 27 = .ok (.aload_n 0, 1) := by decide +kernel
theorem dX9_off_28 : decode cX9_off 28 = .ok (.aload_n 0, 1) := by decide +kernel
theorem dX9_off_29 : decode cX9_off 29 = .ok (.getfield 19, 3) := by decide +kernel
theorem dX9_off_32 : decode cX9_off 32 = .ok (.iload_n 1, 1) := by decide +kernel
theorem dX9_off_33 : decode cX9_off 33 = .ok (.invokevirtual 352, 3) := by decide +kernel
theorem dX9_off_36 : decode cX9_off 36 = .ok (.lreturn, 1) := by decide +kernel
set_option maxRecDepth 20000 in
theorem ggX9_worst_X9_isDoneForward : GoodIn wsX9_worst wsX9_isDoneForward := goodIn_r _ [8, 3, 9, 10, 11, 12, 51, 52, 53, 54, 55, 56, 57, 58, 59, 60, 61, 62, 63, 64, 65, 66, 67, 68, 69, 70, 71, 72, 73, 74, 75, 76, 77, 78, 79, 80, 81, 82, 83, 84, 85, 86, 87] (by decide +kernel) (by decide +kernel)
set_option maxRecDepth 20000 in
theorem gX9_worst_X9_isDoneForward : GoodIn wsX9_worst (wsV RX9 286 RX9 yX9_isDoneForward wsX9_isDoneForward) := goodIn_app (goodIn_of _ (by decide +kernel)) ggX9_worst_X9_isDoneForward
set_option maxRecDepth 20000 in
theorem ggX9_worst_X9_fillSums : GoodIn wsX9_worst wsX9_fillSums := goodIn_r _ [16, 11, 17, 18, 19, 20, 21, 22, 7, 23, 24, 25, 26, 3, 27, 28, 51, 52, 53, 54, 55, 56, 57, 58, 59, 60, 61, 62, 63, 64, 65, 66, 67, 68, 69, 78, 79, 80, 81, 82, 83, 84, 85, 86, 87, 88, 89, 70, 71, 72, 73, 74, 75, 76, 77] (by decide +kernel) (by decide +kernel)
set_option maxRecDepth 20000 in
theorem gX9_worst_X9_fillSums : GoodIn wsX9_worst (wsV RX9 362 RX9 yX9_fillSums wsX9_fillSums) := goodIn_app (goodIn_of _ (by decide +kernel)) ggX9_worst_X9_fillSums
set_option maxRecDepth 20000 in
theorem ggX9_worst_X9_worstPlace : GoodIn wsX9_worst wsX9_worstPlace := goodIn_r _ [32, 11, 17, 33, 34, 35, 7, 36, 37, 38, 39, 18, 40, 19, 41, 42, 43, 44, 45, 46, 47, 48, 49, 50, 51, 52, 53, 54, 55, 56, 57, 58, 59, 60, 61, 62, 63, 64, 65, 66, 67, 68, 69, 78, 79, 80, 81, 82, 83, 84, 85, 86, 87, 70, 71, 72, 73, 74, 75, 76, 77] (by decide +kernel) (by decide +kernel)
set_option maxRecDepth 20000 in
theorem gX9_worst_X9_worstPlace : GoodIn wsX9_worst (wsV RX9 365 RX9 yX9_worstPlace wsX9_worstPlace) := goodIn_app (goodIn_of _ (by decide +kernel)) ggX9_worst_X9_worstPlace
set_option maxRecDepth 20000 in
theorem ggX9_worst_X9_offSums : GoodIn wsX9_worst wsX9_offSums := goodIn_r _ [36, 37, 38, 39, 18, 40, 19, 41, 42, 43, 44, 45, 46, 47, 48, 49, 7, 50, 70, 71, 72, 73, 74, 75, 76, 77, 51, 52, 53, 54, 55, 56, 57, 58, 59, 60, 61, 62, 63, 64, 65, 66, 67, 68, 69] (by decide +kernel) (by decide +kernel)
set_option maxRecDepth 20000 in
theorem gX9_worst_X9_offSums : GoodIn wsX9_worst (wsV RX9 352 RX9 yX9_offSums wsX9_offSums) := goodIn_app (goodIn_of _ (by decide +kernel)) ggX9_worst_X9_offSums
theorem dX9_worst_0 : decode cX9_worst 0 = .ok (.iload_n 1, 1) := by decide +kernel
theorem dX9_worst_1 : decode cX9_worst 1 = .ok (.ifCond .lt 8, 3) := by decide +kernel
theorem dX9_worst_4 : decode cX9_worst 4 = .ok (.iload_n 1, 1) := by decide +kernel
theorem dX9_worst_5 : decode cX9_worst 5 = .ok (.iconst 1, 1) := by decide +kernel
theorem dX9_worst_6 : decode cX9_worst 6 = .ok (.if_icmp .le 7, 3) := by decide +kernel
theorem dX9_worst_9 : decode cX9_worst 9 = .ok (.ldc2_w 223, 3) := by decide +kernel
theorem dX9_worst_12 : decode cX9_worst 12 = .ok (.lreturn, 1) := by decide +kernel
theorem dX9_worst_13 : decode cX9_worst 13 = .ok (.aload_n 0, 1) := by decide +kernel
theorem dX9_worst_14 : decode cX9_worst 14 = .ok (.invokevirtual 286, 3) := by decide +kernel
theorem dX9_worst_17 : decode cX9_worst 17 = .ok (.ifCond .ne 7, 3) := by decide +kernel
theorem dX9_worst_20 : decode cX9_worst 20 = .ok (.ldc2_w 360, 3) := by decide +kernel
theorem dX9_worst_23 : decode cX9_worst 23 = .ok (.lreturn, 1) := by decide +kernel
theorem dX9_worst_24 : decode cX9_worst 24 = .ok (.aload_n 0, 1) := by decide +kernel
theorem dX9_worst_25 : decode cX9_worst 25 = .ok (.invokevirtual 362, 3) := by decide +kernel
theorem dX9_worst_28 : decode cX9_worst 28 = .ok (.aload_n 0, 1) := by decide +kernel
theorem dX9_worst_29 : decode cX9_worst 29 = .ok (.aload_n 0, 1) := by decide +kernel
theorem dX9_worst_30 : decode cX9_worst 30 = .ok (.getfield 19, 3) := by decide +kernel
theorem dX9_worst_33 : decode cX9_worst 33 = .ok (.invokevirtual 365, 3) := by decide +kernel
theorem dX9_worst_36 : decode cX9_worst 36 = .ok (.istore_n 2, 1) := by decide +kernel
theorem dX9_worst_37 : decode cX9_worst 37 = .ok (.iload_n 1, 1) := by decide +kernel
theorem dX9_worst_38 : decode cX9_worst 38 = .ok (.iconst 1, 1) := by decide +kernel
theorem dX9_worst_39 : decode cX9_worst 39 = .ok (.if_icmp .ne 8, 3) := by decide +kernel
theorem dX9_worst_42 : decode cX9_worst 42 = .ok (.iload_n 2, 1) := by decide +kernel
theorem dX9_worst_43 : decode cX9_worst 43 = .ok (.i2l, 1) := by decide +kernel
theorem dX9_worst_44 : decode cX9_worst 44 = .ok (.goto 12, 3) := by decide +kernel
theorem dX9_worst_47 : decode cX9_worst 47 = .ok (.aload_n 0, 1) := by decide +kernel
theorem dX9_worst_48 : decode cX9_worst 48 = .ok (.aload_n 0, 1) := by decide +kernel
theorem dX9_worst_49 : decode cX9_worst 49 = .ok (.getfield 19, 3) := by decide +kernel
theorem dX9_worst_52 : decode cX9_worst 52 = .ok (.iload_n 2, 1) := by decide +kernel
theorem dX9_worst_53 : decode cX9_worst 53 = .ok (.invokevirtual 352, 3) := by decide +kernel
theorem dX9_worst_56 : decode cX9_worst 56 = .ok (.lreturn, 1) := by decide +kernel
set_option maxRecDepth 20000 in
theorem ggX9_best_X9_fillSums : GoodIn wsX9_best wsX9_fillSums := goodIn_r _ [12, 3, 13, 14, 15, 16, 17, 18, 11, 19, 20, 21, 22, 6, 23, 24, 184, 185, 186, 187, 188, 189, 190, 191, 192, 193, 194, 195, 196, 197, 198, 199, 200, 201, 202, 203, 204, 205, 206, 207, 208, 209, 210, 211, 212, 213, 214, 215, 216, 217, 218, 219, 220, 221, 222] (by decide +kernel) (by decide +kernel)
set_option maxRecDepth 20000 in
theorem gX9_best_X9_fillSums : GoodIn wsX9_best (wsV RX9 362 RX9 yX9_fillSums wsX9_fillSums) := goodIn_app (goodIn_of _ (by decide +kernel)) ggX9_best_X9_fillSums
set_option maxRecDepth 20000 in
theorem ggX9_best_X8_copyFrom : GoodIn wsX9_best wsX8_copyFrom := goodIn_r _ [29, 30, 31, 32, 33, 34, 35, 36, 37, 38, 39, 28, 40, 41, 42, 43, 44, 45, 46, 47, 48, 49, 50, 51, 203, 204, 205, 206, 207, 208, 209, 210, 211, 212] (by decide +kernel) (by decide +kernel)
set_option maxRecDepth 20000 in
theorem gX9_best_X8_copyFrom : GoodIn wsX9_best (wsV RX9 132 RX8 yX8_copyFrom wsX8_copyFrom) := goodIn_app (goodIn_of _ (by decide +kernel)) ggX9_best_X8_copyFrom
set_option maxRecDepth 20000 in
theorem ggX9_best_X8_takeShape : GoodIn wsX9_best wsX8_takeShape := goodIn_r _ [45, 35, 36, 31, 46, 47, 48, 49, 28, 50, 51, 203, 204, 205, 206, 207, 208, 209, 210, 211, 212] (by decide +kernel) (by decide +kernel)
set_option maxRecDepth 20000 in
theorem gX9_best_X8_takeShape : GoodIn wsX9_best (wsV RX9 307 RX8 yX8_takeShape wsX8_takeShape) := goodIn_app (goodIn_of _ (by decide +kernel)) ggX9_best_X8_takeShape
set_option maxRecDepth 20000 in
theorem ggX9_best_X7_restartFrom : GoodIn wsX9_best wsX7_restartFrom := goodIn_r _ [57, 58, 59, 60, 61, 62, 56, 63, 64, 65, 66, 67, 68, 69, 70, 71, 72, 215, 216, 217, 218, 219, 220, 221, 222] (by decide +kernel) (by decide +kernel)
set_option maxRecDepth 20000 in
theorem gX9_best_X7_restartFrom : GoodIn wsX9_best (wsV RX9 298 RX7 yX7_restartFrom wsX7_restartFrom) := goodIn_app (goodIn_of _ (by decide +kernel)) ggX9_best_X7_restartFrom
set_option maxRecDepth 20000 in
theorem ggX9_best_X0_doStages : GoodIn wsX9_best wsX0_doStages := goodIn_r _ [77, 78, 79, 80, 81, 82, 76, 83, 84, 85, 86, 87, 88, 89, 90, 91, 92, 93, 94, 95, 96, 97, 98, 99, 100, 28, 101, 46, 51, 102, 103, 104, 105, 106, 66, 67, 68, 107, 108, 109, 110, 36, 111, 112, 113, 114, 115, 116, 117, 118, 119, 120, 56, 121, 64, 122, 123, 124, 125, 69, 126, 127, 128, 129, 130, 131, 132, 133, 134, 135, 136, 137, 138, 139, 140, 141, 142, 143, 144, 145, 146, 147, 148, 149, 150, 33, 151, 152, 153, 154, 155, 156, 157, 158, 159, 160, 161, 162, 215, 216, 217, 218, 219, 220, 221, 222, 203, 204, 205, 206, 207, 208, 209, 210, 211, 212, 223, 224, 225, 226, 227, 213, 214] (by decide +kernel) (by decide +kernel)
set_option maxRecDepth 20000 in
theorem gX9_best_X0_doStages : GoodIn wsX9_best (wsV RX9 282 RX0 yX0_doStages wsX0_doStages) := goodIn_app (goodIn_of _ (by decide +kernel)) ggX9_best_X0_doStages
set_option maxRecDepth 20000 in
theorem ggX9_best_X9_worstPlace : GoodIn wsX9_best wsX9_worstPlace := goodIn_r _ [166, 3, 13, 167, 168, 169, 11, 170, 171, 172, 173, 14, 174, 15, 175, 176, 124, 177, 178, 179, 180, 181, 182, 183, 184, 185, 186, 187, 188, 189, 190, 191, 192, 193, 194, 195, 196, 197, 198, 199, 200, 201, 202, 203, 204, 205, 206, 207, 208, 209, 210, 211, 212, 215, 216, 217, 218, 219, 220, 221, 222] (by decide +kernel) (by decide +kernel)
set_option maxRecDepth 20000 in
theorem gX9_best_X9_worstPlace : GoodIn wsX9_best (wsV RX9 365 RX9 yX9_worstPlace wsX9_worstPlace) := goodIn_app (goodIn_of _ (by decide +kernel)) ggX9_best_X9_worstPlace
set_option maxRecDepth 20000 in
theorem ggX9_best_X9_offSums : GoodIn wsX9_best wsX9_offSums := goodIn_r _ [170, 171, 172, 173, 14, 174, 15, 175, 176, 124, 177, 178, 179, 180, 181, 182, 11, 183, 215, 216, 217, 218, 219, 220, 221, 222, 184, 185, 186, 187, 188, 189, 190, 191, 192, 193, 194, 195, 196, 197, 198, 199, 200, 201, 202] (by decide +kernel) (by decide +kernel)
set_option maxRecDepth 20000 in
theorem gX9_best_X9_offSums : GoodIn wsX9_best (wsV RX9 352 RX9 yX9_offSums wsX9_offSums) := goodIn_app (goodIn_of _ (by decide +kernel)) ggX9_best_X9_offSums
theorem dX9_best_0 : decode cX9_best 0 = .ok (.aload_n 0, 1) := by decide +kernel
theorem dX9_best_1 : decode cX9_best 1 = .ok (.invokevirtual 362, 3) := by decide +kernel
theorem dX9_best_4 : decode cX9_best 4 = .ok (.iconst 0, 1) := by decide +kernel
theorem dX9_best_5 : decode cX9_best 5 = .ok (.istore_n 1, 1) := by decide +kernel
theorem dX9_best_6 : decode cX9_best 6 = .ok (.ldc2_w 369, 3) := by decide +kernel
theorem dX9_best_9 : decode cX9_best 9 = .ok (.lstore_n 2, 1) := by decide +kernel
theorem dX9_best_10 : decode cX9_best 10 = .ok (.iconst 0, 1) := by decide +kernel
theorem dX9_best_11 : decode cX9_best 11 = .ok (.istore 4, 2) := by decide +kernel
theorem dX9_best_13 : decode cX9_best 13 = .ok (.iload 4, 2) := by decide +kernel
theorem dX9_best_15 : decode cX9_best 15 = .ok (.bipush 8, 2) := by decide +kernel
theorem dX9_best_17 : decode cX9_best 17 = .ok (.if_icmp .ge 114, 3) := by decide +kernel
theorem dX9_best_20 : decode cX9_best 20 = .ok (.aload_n 0, 1) := by decide +kernel
theorem dX9_best_21 : decode cX9_best 21 = .ok (.getfield 74, 3) := by decide +kernel
theorem dX9_best_24 : decode cX9_best 24 = .ok (.aload_n 0, 1) := by decide +kernel
theorem dX9_best_25 : decode cX9_best 25 = .ok (.getfield 10, 3) := by decide +kernel
theorem dX9_best_28 : decode cX9_best 28 = .ok (.invokevirtual 132, 3) := by decide +kernel
theorem dX9_best_31 : decode cX9_best 31 = .ok (.aload_n 0, 1) := by decide +kernel
theorem dX9_best_32 : decode cX9_best 32 = .ok (.getfield 74, 3) := by decide +kernel
theorem dX9_best_35 : decode cX9_best 35 = .ok (.iload 4, 2) := by decide +kernel
theorem dX9_best_37 : decode cX9_best 37 = .ok (.iconst 1, 1) := by decide +kernel
theorem dX9_best_38 : decode cX9_best 38 = .ok (.iand, 1) := by decide +kernel
theorem dX9_best_39 : decode cX9_best 39 = .ok (.putfield 238, 3) := by decide +kernel
theorem dX9_best_42 : decode cX9_best 42 = .ok (.aload_n 0, 1) := by decide +kernel
theorem dX9_best_43 : decode cX9_best 43 = .ok (.getfield 74, 3) := by decide +kernel
theorem dX9_best_46 : decode cX9_best 46 = .ok (.iload 4, 2) := by decide +kernel
theorem dX9_best_48 : decode cX9_best 48 = .ok (.iconst 2, 1) := by decide +kernel
theorem dX9_best_49 : decode cX9_best 49 = .ok (.iand, 1) := by decide +kernel
theorem dX9_best_50 : decode cX9_best 50 = .ok (.ifCond .ne 7, 3) := by decide +kernel
theorem dX9_best_53 : decode cX9_best 53 = .ok (.iconst 2, 1) := by decide +kernel
theorem dX9_best_54 : decode cX9_best 54 = .ok (.goto 4, 3) := by decide +kernel
theorem dX9_best_57 : decode cX9_best 57 = .ok (.iconst 4, 1) := by decide +kernel
theorem dX9_best_58 : decode cX9_best 58 = .ok (.iload 4, 2) := by decide +kernel
theorem dX9_best_60 : decode cX9_best 60 = .ok (.iconst 2, 1) := by decide +kernel
theorem dX9_best_61 : decode cX9_best 61 = .ok (.ishr, 1) := by decide +kernel
theorem dX9_best_62 : decode cX9_best 62 = .ok (.invokevirtual 307, 3) := by decide +kernel
theorem dX9_best_65 : decode cX9_best 65 = .ok (.aload_n 0, 1) := by decide +kernel
theorem dX9_best_66 : decode cX9_best 66 = .ok (.getfield 77, 3) := by decide +kernel
theorem dX9_best_69 : decode cX9_best 69 = .ok (.aload_n 0, 1) := by decide +kernel
theorem dX9_best_70 : decode cX9_best 70 = .ok (.getfield 19, 3) := by decide +kernel
theorem dX9_best_73 : decode cX9_best 73 = .ok (.invokevirtual 298, 3) := by decide +kernel
theorem dX9_best_76 : decode cX9_best 76 = .ok (.aload_n 0, 1) := by decide +kernel
theorem dX9_best_77 : decode cX9_best 77 = .ok (.getfield 56, 3) := by decide +kernel
theorem dX9_best_80 : decode cX9_best 80 = .ok (.aload_n 0, 1) := by decide +kernel
theorem dX9_best_81 : decode cX9_best 81 = .ok (.getfield 77, 3) := by decide +kernel
theorem dX9_best_84 : decode cX9_best 84 = .ok (.aload_n 0, 1) := by decide +kernel
theorem dX9_best_85 : decode cX9_best 85 = .ok (.getfield 74, 3) := by decide +kernel
theorem dX9_best_88 : decode cX9_best 88 = .ok (.iconst 5, 1) := by decide +kernel
theorem dX9_best_89 : decode cX9_best 89 = .ok (.iconst 1, 1) := by decide +kernel
theorem dX9_best_90 : decode cX9_best 90 = .ok (.invokevirtual 282, 3) := by decide +kernel
theorem dX9_best_93 : decode cX9_best 93 = .ok (.pop, 1) := by decide +kernel
theorem dX9_best_94 : decode cX9_best 94 = .ok (.aload_n 0, 1) := by decide +kernel
theorem dX9_best_95 : decode cX9_best 95 = .ok (.aload_n 0, 1) := by decide +kernel
theorem dX9_best_96 : decode cX9_best 96 = .ok (.getfield 77, 3) := by decide +kernel
theorem dX9_best_99 : decode cX9_best 99 = .ok (.aload_n 0, 1) := by decide +kernel
theorem dX9_best_100 : decode cX9_best 100 = .ok (.aload_n 0, 1) := by decide +kernel
theorem dX9_best_101 : decode cX9_best 101 = .ok (.getfield 77, 3) := by decide +kernel
theorem dX9_best_104 : decode cX9_best 104 = .ok (.invokevirtual 365, 3) := by decide +kernel
theorem dX9_best_107 : decode cX9_best 107 = .ok (.invokevirtual 352, 3) := by decide +kernel
theorem dX9_best_110 : decode cX9_best 110 = .ok (.lstore 5, 2) := by decide +kernel
theorem dX9_best_112 : decode cX9_best 112 = .ok (.lload 5, 2) := by decide +kernel
theorem dX9_best_114 : decode cX9_best 114 = .ok (.lload_n 2, 1) := by decide +kernel
theorem dX9_best_115 : decode cX9_best 115 = .ok (.lcmp, 1) := by decide +kernel
theorem dX9_best_116 : decode cX9_best 116 = .ok (.ifCond .ge 9, 3) := by decide +kernel
theorem dX9_best_119 : decode cX9_best 119 = .ok (.lload 5, 2) := by decide +kernel
theorem dX9_best_121 : decode cX9_best 121 = .ok (.lstore_n 2, 1) := by decide +kernel
theorem dX9_best_122 : decode cX9_best 122 = .ok (.iload 4, 2) := by decide +kernel
theorem dX9_best_124 : decode cX9_best 124 = .ok (.istore_n 1, 1) := by decide +kernel
theorem dX9_best_125 : decode cX9_best 125 = .ok (.iinc 4 1, 3) := by decide +kernel
theorem dX9_best_128 : decode cX9_best 128 = .ok (.goto (-115), 3) := by decide +kernel
theorem dX9_best_131 : decode cX9_best 131 = .ok (.iload_n 1, 1) := by decide +kernel
theorem dX9_best_132 : decode cX9_best 132 = .ok (.ireturn, 1) := by decide +kernel
set_option maxRecDepth 20000 in
theorem ggX9_peak_X9_isPlace : GoodIn wsX9_peak wsX9_isPlace := goodIn_r _ [7, 1, 2, 25, 26, 27, 28, 29, 30, 31, 32, 33, 34, 35, 36, 37, 38, 39, 40, 41, 42, 43, 44, 45, 46, 47, 48, 49, 50, 51, 52, 53] (by decide +kernel) (by decide +kernel)
set_option maxRecDepth 20000 in
theorem gX9_peak_X9_isPlace : GoodIn wsX9_peak (wsV RX9 159 RX9 yX9_isPlace wsX9_isPlace) := goodIn_app (goodIn_of _ (by decide +kernel)) ggX9_peak_X9_isPlace
set_option maxRecDepth 20000 in
theorem ggX9_peak_X9_isDoneForward : GoodIn wsX9_peak wsX9_isDoneForward := goodIn_r _ [11, 12, 13, 14, 1, 15, 25, 26, 27, 28, 29, 30, 31, 32, 33, 34, 35, 36, 37, 38, 39, 40, 41, 42, 43, 54, 55, 56, 57, 58, 59, 60, 61, 44, 45, 46, 47, 48, 49, 50, 51, 52, 53] (by decide +kernel) (by decide +kernel)
set_option maxRecDepth 20000 in
theorem gX9_peak_X9_isDoneForward : GoodIn wsX9_peak (wsV RX9 286 RX9 yX9_isDoneForward wsX9_isDoneForward) := goodIn_app (goodIn_of _ (by decide +kernel)) ggX9_peak_X9_isDoneForward
set_option maxRecDepth 20000 in
theorem ggX9_peak_X9_louderOnes : GoodIn wsX9_peak wsX9_louderOnes := goodIn_r _ [19, 12, 20, 21, 1, 2, 22, 23, 6, 24, 25, 26, 27, 28, 29, 30, 31, 32, 33, 34, 35, 36, 37, 38, 39, 40, 41, 42, 43, 54, 55, 56, 57, 58, 59, 60, 61, 44, 45, 46, 47, 48, 49, 50, 51, 52, 53] (by decide +kernel) (by decide +kernel)
set_option maxRecDepth 20000 in
theorem gX9_peak_X9_louderOnes : GoodIn wsX9_peak (wsV RX9 371 RX9 yX9_louderOnes wsX9_louderOnes) := goodIn_app (goodIn_of _ (by decide +kernel)) ggX9_peak_X9_louderOnes
theorem dX9_peak_0 : decode cX9_peak 0 = .ok (.aload_n 0, 1) := by decide +kernel
theorem dX9_peak_1 : decode cX9_peak 1 = .ok (.iload_n 1, 1) := by decide +kernel
theorem dX9_peak_2 : decode cX9_peak 2 = .ok (.invokevirtual 159, 3) := by decide +kernel
theorem dX9_peak_5 : decode cX9_peak 5 = .ok (.ifCond .ne 5, 3) := by decide +kernel
theorem dX9_peak_8 : decode cX9_peak 8 = .ok (.iconst (-1), 1) := by decide +kernel
theorem dX9_peak_9 : decode cX9_peak 9 = .ok (.ireturn, 1) := by decide +kernel
theorem dX9_peak_10 : decode cX9_peak 10 = .ok (.aload_n 0, 1) := by decide +kernel
theorem dX9_peak_11 : decode cX9_peak 11 = .ok (.invokevirtual 286, 3) := by decide +kernel
theorem dX9_peak_14 : decode cX9_peak 14 = .ok (.ifCond .ne 6, 3) := by decide +kernel
theorem dX9_peak_17 : decode cX9_peak 17 = .ok (.bipush (-2), 2) := by decide +kernel
theorem dX9_peak_19 : decode cX9_peak 19 = .ok (.ireturn, 1) := by decide +kernel
theorem dX9_peak_20 : decode cX9_peak 20 = .ok (.iconst 0, 1) := by decide +kernel
theorem dX9_peak_21 : decode cX9_peak 21 = .ok (.istore_n 2, 1) := by decide +kernel
theorem dX9_peak_22 : decode cX9_peak 22 = .ok (.iconst 0, 1) := by decide +kernel
theorem dX9_peak_23 : decode cX9_peak 23 = .ok (.istore_n 3, 1) := by decide +kernel
theorem dX9_peak_24 : decode cX9_peak 24 = .ok (.iload_n 3, 1) := by decide +kernel
theorem dX9_peak_25 : decode cX9_peak 25 = .ok (.aload_n 0, 1) := by decide +kernel
theorem dX9_peak_26 : decode cX9_peak 26 = .ok (.getfield 10, 3) := by decide +kernel
theorem dX9_peak_29 : decode cX9_peak 29 = .ok (.getfield 115, 3) := by decide +kernel
theorem dX9_peak_32 : decode cX9_peak 32 = .ok (.if_icmp .ge 20, 3) := by decide +kernel
theorem dX9_peak_35 : decode cX9_peak 35 = .ok (.aload_n 0, 1) := by decide +kernel
theorem dX9_peak_36 : decode cX9_peak 36 = .ok (.iload_n 3, 1) := by decide +kernel
theorem dX9_peak_37 : decode cX9_peak 37 = .ok (.invokevirtual 371, 3) := by decide +kernel
theorem dX9_peak_40 : decode cX9_peak 40 = .ok (.iload_n 1, 1) := by decide +kernel
theorem dX9_peak_41 : decode cX9_peak 41 = .ok (.if_icmp .ne 5, 3) := by decide +kernel
theorem dX9_peak_44 : decode cX9_peak 44 = .ok (.iload_n 3, 1) := by decide +kernel
theorem dX9_peak_45 : decode cX9_peak 45 = .ok (.istore_n 2, 1) := by decide +kernel
theorem dX9_peak_46 : decode cX9_peak 46 = .ok (.iinc 3 1, 3) := by decide +kernel
theorem dX9_peak_49 : decode cX9_peak 49 = .ok (.goto (-25), 3) := by decide +kernel
theorem dX9_peak_52 : decode cX9_peak 52 = .ok (.iload_n 2, 1) := by decide +kernel
theorem dX9_peak_53 : decode cX9_peak 53 = .ok (.ireturn, 1) := by decide +kernel
set_option maxRecDepth 20000 in
theorem ggX9_louderOnes_X9_loudness : GoodIn wsX9_louderOnes wsX9_loudness := goodIn_r _ [9] (by decide +kernel) (by decide +kernel)
set_option maxRecDepth 20000 in
theorem gX9_louderOnes_X9_loudness : GoodIn wsX9_louderOnes (va_wsS RX9 225 yX9_loudness wsX9_loudness) := goodIn_app (goodIn_of _ (by decide +kernel)) ggX9_louderOnes_X9_loudness
theorem dX9_louderOnes_0 : decode cX9_louderOnes 0 = .ok (.aload_n 0, 1) := by decide +kernel
theorem dX9_louderOnes_1 : decode cX9_louderOnes 1 = .ok (.getfield 19, 3) := by decide +kernel
theorem dX9_louderOnes_4 : decode cX9_louderOnes 4 = .ok (.getfield 175, 3) := by decide +kernel
theorem dX9_louderOnes_7 : decode cX9_louderOnes 7 = .ok (.iload_n 1, 1) := by decide +kernel
theorem dX9_louderOnes_8 : decode cX9_louderOnes 8 = .ok (.iaload, 1) := by decide +kernel
theorem dX9_louderOnes_9 : decode cX9_louderOnes 9 = .ok (.i2l, 1) := by decide +kernel
theorem dX9_louderOnes_10 : decode cX9_louderOnes 10 = .ok (.aload_n 0, 1) := by decide +kernel
theorem dX9_louderOnes_11 : decode cX9_louderOnes 11 = .ok (.getfield 19, 3) := by decide +kernel
theorem dX9_louderOnes_14 : decode cX9_louderOnes 14 = .ok (.getfield 176, 3) := by decide +kernel
theorem dX9_louderOnes_17 : decode cX9_louderOnes 17 = .ok (.iload_n 1, 1) := by decide +kernel
theorem dX9_louderOnes_18 : decode cX9_louderOnes 18 = .ok (.iaload, 1) := by decide +kernel
theorem dX9_louderOnes_19 : decode cX9_louderOnes 19 = .ok (.i2l, 1) := by decide +kernel
theorem dX9_louderOnes_20 : decode cX9_louderOnes 20 = .ok (.invokestatic 225, 3) := by decide +kernel
theorem dX9_louderOnes_23 : decode cX9_louderOnes 23 = .ok (.lstore_n 2, 1) := by decide +kernel
theorem dX9_louderOnes_24 : decode cX9_louderOnes 24 = .ok (.iconst 0, 1) := by decide +kernel
theorem dX9_louderOnes_25 : decode cX9_louderOnes 25 = .ok (.istore 4, 2) := by decide +kernel
theorem dX9_louderOnes_27 : decode cX9_louderOnes 27 = .ok (.iconst 0, 1) := by decide +kernel
theorem dX9_louderOnes_28 : decode cX9_louderOnes 28 = .ok (.istore 5, 2) := by decide +kernel
theorem dX9_louderOnes_30 : decode cX9_louderOnes 30 = .ok (.iload 5, 2) := by decide +kernel
theorem dX9_louderOnes_32 : decode cX9_louderOnes 32 = .ok (.aload_n 0, 1) := by decide +kernel
theorem dX9_louderOnes_33 : decode cX9_louderOnes 33 = .ok (.getfield 10, 3) := by decide +kernel
theorem dX9_louderOnes_36 : decode cX9_louderOnes 36 = .ok (.getfield 115, 3) := by decide +kernel
theorem dX9_louderOnes_39 : decode cX9_louderOnes 39 = .ok (.if_icmp .ge 59, 3) := by decide +kernel
theorem dX9_louderOnes_42 : decode cX9_louderOnes 42 = .ok (.aload_n 0, 1) := by decide +kernel
theorem dX9_louderOnes_43 : decode cX9_louderOnes 43 = .ok (.getfield 19, 3) := by decide +kernel
theorem dX9_louderOnes_46 : decode cX9_louderOnes 46 = .ok (.getfield 175, 3) := by decide +kernel
theorem dX9_louderOnes_49 : decode cX9_louderOnes 49 = .ok (.iload 5, 2) := by decide +kernel
theorem dX9_louderOnes_51 : decode cX9_louderOnes 51 = .ok (.iaload, 1) := by decide +kernel
theorem dX9_louderOnes_52 : decode cX9_louderOnes 52 = .ok (.i2l, 1) := by decide +kernel
theorem dX9_louderOnes_53 : decode cX9_louderOnes 53 = .ok (.aload_n 0, 1) := by decide +kernel
theorem dX9_louderOnes_54 : decode cX9_louderOnes 54 = .ok (.getfield 19, 3) := by decide +kernel
theorem dX9_louderOnes_57 : decode cX9_louderOnes 57 = .ok (.getfield 176, 3) := by decide +kernel
theorem dX9_louderOnes_60 : decode cX9_louderOnes 60 = .ok (.iload 5, 2) := by decide +kernel
theorem dX9_louderOnes_62 : decode cX9_louderOnes 62 = .ok (.iaload, 1) := by decide +kernel
theorem dX9_louderOnes_63 : decode cX9_louderOnes 63 = .ok (.i2l, 1) := by decide +kernel
theorem dX9_louderOnes_64 : decode cX9_louderOnes 64 = .ok (.invokestatic 225, 3) := by decide +kernel
theorem dX9_louderOnes_67 : decode cX9_louderOnes 67 = .ok (.lstore 6, 2) := by decide +kernel
theorem dX9_louderOnes_69 : decode cX9_louderOnes 69 = .ok (.lload 6, 2) := by decide +kernel
theorem dX9_louderOnes_71 : decode cX9_louderOnes 71 = .ok (.lload_n 2, 1) := by decide +kernel
theorem dX9_louderOnes_72 : decode cX9_louderOnes 72 = .ok (.lcmp, 1) := by decide +kernel
theorem dX9_louderOnes_73 : decode cX9_louderOnes 73 = .ok (.ifCond .gt 16, 3) := by decide +kernel
theorem dX9_louderOnes_76 : decode cX9_louderOnes 76 = .ok (.lload 6, 2) := by decide +kernel
theorem dX9_louderOnes_78 : decode cX9_louderOnes 78 = .ok (.lload_n 2, 1) := by decide +kernel
theorem dX9_louderOnes_79 : decode cX9_louderOnes 79 = .ok (.lcmp, 1) := by decide +kernel
theorem dX9_louderOnes_80 : decode cX9_louderOnes 80 = .ok (.ifCond .ne 12, 3) := by decide +kernel
theorem dX9_louderOnes_83 : decode cX9_louderOnes 83 = .ok (.iload 5, 2) := by decide +kernel
theorem dX9_louderOnes_85 : decode cX9_louderOnes 85 = .ok (.iload_n 1, 1) := by decide +kernel
theorem dX9_louderOnes_86 : decode cX9_louderOnes 86 = .ok (.if_icmp .ge 6, 3) := by decide +kernel
theorem dX9_louderOnes_89 : decode cX9_louderOnes 89 = .ok (.iinc 4 1, 3) := by decide +kernel
theorem dX9_louderOnes_92 : decode cX9_louderOnes 92 = .ok (.iinc 5 1, 3) := by decide +kernel
theorem dX9_louderOnes_95 : decode cX9_louderOnes 95 = .ok (.goto (-65), 3) := by decide +kernel
theorem dX9_louderOnes_98 : decode cX9_louderOnes 98 = .ok (.iload 4, 2) := by decide +kernel
theorem dX9_louderOnes_100 : decode cX9_louderOnes 100 = .ok (.ireturn, 1) := by decide +kernel
set_option maxRecDepth 20000 in
theorem ggX9_mirror_X9_isDoneForward : GoodIn wsX9_mirror wsX9_isDoneForward := goodIn_r _ [17, 3, 18, 19, 1, 20, 25, 26, 27, 28, 29, 30, 31, 32, 33, 34, 35, 36, 37, 38, 39, 40, 41, 42, 43, 54, 55, 56, 57, 58, 59, 60, 61, 44, 45, 46, 47, 48, 49, 50, 51, 52, 53] (by decide +kernel) (by decide +kernel)
set_option maxRecDepth 20000 in
theorem gX9_mirror_X9_isDoneForward : GoodIn wsX9_mirror (wsV RX9 286 RX9 yX9_isDoneForward wsX9_isDoneForward) := goodIn_app (goodIn_of _ (by decide +kernel)) ggX9_mirror_X9_isDoneForward
set_option maxRecDepth 20000 in
theorem ggX9_mirror_X9_mirrored : GoodIn wsX9_mirror wsX9_mirrored := goodIn_r _ [24, 1, 2, 25, 26, 27, 28, 29, 30, 31, 32, 33, 34, 35, 36, 37, 38, 39, 40, 41, 42, 43, 44, 45, 46, 47, 48, 49, 50, 51, 52, 53] (by decide +kernel) (by decide +kernel)
set_option maxRecDepth 20000 in
theorem gX9_mirror_X9_mirrored : GoodIn wsX9_mirror (wsV RX9 374 RX9 yX9_mirrored wsX9_mirrored) := goodIn_app (goodIn_of _ (by decide +kernel)) ggX9_mirror_X9_mirrored
theorem dX9_mirror_0 : decode cX9_mirror 0 = .ok (.aload_n 0, 1) := by decide +kernel
theorem dX9_mirror_1 : decode cX9_mirror 1 = .ok (.invokevirtual 286, 3) := by decide +kernel
theorem dX9_mirror_4 : decode cX9_mirror 4 = .ok (.ifCond .ne 6, 3) := by decide +kernel
theorem dX9_mirror_7 : decode cX9_mirror 7 = .ok (.bipush (-2), 2) := by decide +kernel
theorem dX9_mirror_9 : decode cX9_mirror 9 = .ok (.ireturn, 1) := by decide +kernel
theorem dX9_mirror_10 : decode cX9_mirror 10 = .ok (.iconst 0, 1) := by decide +kernel
theorem dX9_mirror_11 : decode cX9_mirror 11 = .ok (.istore_n 1, 1) := by decide +kernel
theorem dX9_mirror_12 : decode cX9_mirror 12 = .ok (.iconst 0, 1) := by decide +kernel
theorem dX9_mirror_13 : decode cX9_mirror 13 = .ok (.istore_n 2, 1) := by decide +kernel
theorem dX9_mirror_14 : decode cX9_mirror 14 = .ok (.iload_n 2, 1) := by decide +kernel
theorem dX9_mirror_15 : decode cX9_mirror 15 = .ok (.aload_n 0, 1) := by decide +kernel
theorem dX9_mirror_16 : decode cX9_mirror 16 = .ok (.getfield 10, 3) := by decide +kernel
theorem dX9_mirror_19 : decode cX9_mirror 19 = .ok (.getfield 115, 3) := by decide +kernel
theorem dX9_mirror_22 : decode cX9_mirror 22 = .ok (.if_icmp .ge 75, 3) := by decide +kernel
theorem dX9_mirror_25 : decode cX9_mirror 25 = .ok (.aload_n 0, 1) := by decide +kernel
theorem dX9_mirror_26 : decode cX9_mirror 26 = .ok (.iload_n 2, 1) := by decide +kernel
theorem dX9_mirror_27 : decode cX9_mirror 27 = .ok (.invokevirtual 374, 3) := by decide +kernel
theorem dX9_mirror_30 : decode cX9_mirror 30 = .ok (.istore_n 3, 1) := by decide +kernel
theorem dX9_mirror_31 : decode cX9_mirror 31 = .ok (.aload_n 0, 1) := by decide +kernel
theorem dX9_mirror_32 : decode cX9_mirror 32 = .ok (.getfield 19, 3) := by decide +kernel
theorem dX9_mirror_35 : decode cX9_mirror 35 = .ok (.getfield 175, 3) := by decide +kernel
theorem dX9_mirror_38 : decode cX9_mirror 38 = .ok (.iload_n 2, 1) := by decide +kernel
theorem dX9_mirror_39 : decode cX9_mirror 39 = .ok (.iaload, 1) := by decide +kernel
theorem dX9_mirror_40 : decode cX9_mirror 40 = .ok (.aload_n 0, 1) := by decide +kernel
theorem dX9_mirror_41 : decode cX9_mirror 41 = .ok (.getfield 19, 3) := by decide +kernel
theorem dX9_mirror_44 : decode cX9_mirror 44 = .ok (.getfield 175, 3) := by decide +kernel
theorem dX9_mirror_47 : decode cX9_mirror 47 = .ok (.iload_n 3, 1) := by decide +kernel
theorem dX9_mirror_48 : decode cX9_mirror 48 = .ok (.iaload, 1) := by decide +kernel
theorem dX9_mirror_49 : decode cX9_mirror 49 = .ok (.isub, 1) := by decide +kernel
theorem dX9_mirror_50 : decode cX9_mirror 50 = .ok (.invokestatic 377, 3) := by decide +kernel
theorem dX9_mirror_53 : decode cX9_mirror 53 = .ok (.istore 4, 2) := by decide +kernel
theorem dX9_mirror_55 : decode cX9_mirror 55 = .ok (.aload_n 0, 1) := by decide +kernel
theorem dX9_mirror_56 : decode cX9_mirror 56 = .ok (.getfield 19, 3) := by decide +kernel
theorem dX9_mirror_59 : decode cX9_mirror 59 = .ok (.getfield 176, 3) := by decide +kernel
theorem dX9_mirror_62 : decode cX9_mirror 62 = .ok (.iload_n 2, 1) := by decide +kernel
theorem dX9_mirror_63 : decode cX9_mirror 63 = .ok (.iaload, 1) := by decide +kernel
theorem dX9_mirror_64 : decode cX9_mirror 64 = .ok (.aload_n 0, 1) := by decide +kernel
theorem dX9_mirror_65 : decode cX9_mirror 65 = .ok (.getfield 19, 3) := by decide +kernel
theorem dX9_mirror_68 : decode cX9_mirror 68 = .ok (.getfield 176, 3) := by decide +kernel
theorem dX9_mirror_71 : decode cX9_mirror 71 = .ok (.iload_n 3, 1) := by decide +kernel
theorem dX9_mirror_72 : decode cX9_mirror 72 = .ok (.iaload, 1) := by decide +kernel
theorem dX9_mirror_73 : decode cX9_mirror 73 = .ok (.iadd, 1) := by decide +kernel
theorem dX9_mirror_74 : decode cX9_mirror 74 = .ok (.invokestatic 377, 3) := by decide +kernel
theorem dX9_mirror_77 : decode cX9_mirror 77 = .ok (.istore 5, 2) := by decide +kernel
theorem dX9_mirror_79 : decode cX9_mirror 79 = .ok (.iload_n 1, 1) := by decide +kernel
theorem dX9_mirror_80 : decode cX9_mirror 80 = .ok (.iload 4, 2) := by decide +kernel
theorem dX9_mirror_82 : decode cX9_mirror 82 = .ok (.iload 5, 2) := by decide +kernel
theorem dX9_mirror_84 : decode cX9_mirror 84 = .ok (.invokestatic 346, 3) := by decide +kernel
theorem dX9_mirror_87 : decode cX9_mirror 87 = .ok (.invokestatic 346, 3) := by decide +kernel
theorem dX9_mirror_90 : decode cX9_mirror 90 = .ok (.istore_n 1, 1) := by decide +kernel
theorem dX9_mirror_91 : decode cX9_mirror 91 = .ok (.iinc 2 1, 3) := by decide +kernel
theorem dX9_mirror_94 : decode cX9_mirror 94 = .ok (.goto (-80), 3) := by decide +kernel
theorem dX9_mirror_97 : decode cX9_mirror 97 = .ok (.iload_n 1, 1) := by decide +kernel
theorem dX9_mirror_98 : decode cX9_mirror 98 = .ok (.ireturn, 1) := by decide +kernel
set_option maxRecDepth 20000 in
theorem ggX9_pair_X9_isPlace : GoodIn wsX9_pair wsX9_isPlace := goodIn_r _ [9, 10, 11, 23, 24, 25, 26, 27, 28, 29, 30, 31, 32, 33, 34, 35, 36, 37, 38, 39, 40, 41, 50, 51, 52, 53, 54, 55, 56, 57, 58, 59] (by decide +kernel) (by decide +kernel)
set_option maxRecDepth 20000 in
theorem gX9_pair_X9_isPlace : GoodIn wsX9_pair (wsV RX9 159 RX9 yX9_isPlace wsX9_isPlace) := goodIn_app (goodIn_of _ (by decide +kernel)) ggX9_pair_X9_isPlace
set_option maxRecDepth 20000 in
theorem ggX9_pair_X9_isDoneForward : GoodIn wsX9_pair wsX9_isDoneForward := goodIn_r _ [15, 2, 16, 17, 10, 18, 23, 24, 25, 26, 27, 28, 29, 30, 31, 32, 33, 34, 35, 36, 37, 38, 39, 40, 41, 42, 43, 44, 45, 46, 47, 48, 49, 50, 51, 52, 53, 54, 55, 56, 57, 58, 59] (by decide +kernel) (by decide +kernel)
set_option maxRecDepth 20000 in
theorem gX9_pair_X9_isDoneForward : GoodIn wsX9_pair (wsV RX9 286 RX9 yX9_isDoneForward wsX9_isDoneForward) := goodIn_app (goodIn_of _ (by decide +kernel)) ggX9_pair_X9_isDoneForward
set_option maxRecDepth 20000 in
theorem ggX9_pair_X9_mirrored : GoodIn wsX9_pair wsX9_mirrored := goodIn_r _ [22, 10, 11, 23, 24, 25, 26, 27, 28, 29, 30, 31, 32, 33, 34, 35, 36, 37, 38, 39, 40, 41, 50, 51, 52, 53, 54, 55, 56, 57, 58, 59] (by decide +kernel) (by decide +kernel)
set_option maxRecDepth 20000 in
theorem gX9_pair_X9_mirrored : GoodIn wsX9_pair (wsV RX9 374 RX9 yX9_mirrored wsX9_mirrored) := goodIn_app (goodIn_of _ (by decide +kernel)) ggX9_pair_X9_mirrored
theorem dX9_pair_0 : decode cX9_pair 0 = .ok (.aload_n 0, 1) := by decide +kernel
theorem dX9_pair_1 : decode cX9_pair 1 = .ok (.iload_n 1, 1) := by decide +kernel
theorem dX9_pair_2 : decode cX9_pair 2 = .ok (.invokevirtual 159, 3) := by decide +kernel
theorem dX9_pair_5 : decode cX9_pair 5 = .ok (.ifCond .eq 28, 3) := by decide +kernel
theorem dX9_pair_8 : decode cX9_pair 8 = .ok (.iload_n 2, 1) := by decide +kernel
theorem dX9_pair_9 : decode cX9_pair 9 = .ok (.ifCond .lt 24, 3) := by decide +kernel
theorem dX9_pair_12 : decode cX9_pair 12 = .ok (.iload_n 2, 1) := by decide +kernel
theorem dX9_pair_13 : decode cX9_pair 13 = .ok (.iconst 1, 1) := by decide +kernel
theorem dX9_pair_14 : decode cX9_pair 14 = .ok (.if_icmp .gt 19, 3) := by decide +kernel
theorem dX9_pair_17 : decode cX9_pair 17 = .ok (.iload_n 3, 1) := by decide +kernel
theorem dX9_pair_18 : decode cX9_pair 18 = .ok (.ifCond .lt 15, 3) := by decide +kernel
theorem dX9_pair_21 : decode cX9_pair 21 = .ok (.iload_n 3, 1) := by decide +kernel
theorem dX9_pair_22 : decode cX9_pair 22 = .ok (.iconst 1, 1) := by decide +kernel
theorem dX9_pair_23 : decode cX9_pair 23 = .ok (.if_icmp .gt 10, 3) := by decide +kernel
theorem dX9_pair_26 : decode cX9_pair 26 = .ok (.aload_n 0, 1) := by decide +kernel
theorem dX9_pair_27 : decode cX9_pair 27 = .ok (.invokevirtual 286, 3) := by decide +kernel
theorem dX9_pair_30 : decode cX9_pair 30 = .ok (.ifCond .ne 6, 3) := by decide +kernel
theorem dX9_pair_33 : decode cX9_pair 33 = .ok (.ldc 185, 2) := by decide +kernel
theorem dX9_pair_35 : decode cX9_pair 35 = .ok (.ireturn, 1) := by decide +kernel
theorem dX9_pair_36 : decode cX9_pair 36 = .ok (.aload_n 0, 1) := by decide +kernel
theorem dX9_pair_37 : decode cX9_pair 37 = .ok (.iload_n 1, 1) := by decide +kernel
theorem dX9_pair_38 : decode cX9_pair 38 = .ok (.invokevirtual 374, 3) := by decide +kernel
theorem dX9_pair_41 : decode cX9_pair 41 = .ok (.istore 4, 2) := by decide +kernel
theorem dX9_pair_43 : decode cX9_pair 43 = .ok (.aload_n 0, 1) := by decide +kernel
theorem dX9_pair_44 : decode cX9_pair 44 = .ok (.getfield 19, 3) := by decide +kernel
theorem dX9_pair_47 : decode cX9_pair 47 = .ok (.getfield 175, 3) := by decide +kernel
theorem dX9_pair_50 : decode cX9_pair 50 = .ok (.astore 5, 2) := by decide +kernel
theorem dX9_pair_52 : decode cX9_pair 52 = .ok (.aload_n 0, 1) := by decide +kernel
theorem dX9_pair_53 : decode cX9_pair 53 = .ok (.getfield 19, 3) := by decide +kernel
theorem dX9_pair_56 : decode cX9_pair 56 = .ok (.getfield 176, 3) := by decide +kernel
theorem dX9_pair_59 : decode cX9_pair 59 = .ok (.astore 6, 2) := by decide +kernel
theorem dX9_pair_61 : decode cX9_pair 61 = .ok (.iload_n 2, 1) := by decide +kernel
theorem dX9_pair_62 : decode cX9_pair 62 = .ok (.ifCond .ne 31, 3) := by decide +kernel
theorem dX9_pair_65 : decode cX9_pair 65 = .ok (.iload_n 3, 1) := by decide +kernel
theorem dX9_pair_66 : decode cX9_pair 66 = .ok (.ifCond .ne 16, 3) := by decide +kernel
theorem dX9_pair_69 : decode cX9_pair 69 = .ok (.aload 5, 2) := by decide +kernel
theorem dX9_pair_71 : decode cX9_pair 71 = .ok (.iload_n 1, 1) := by decide +kernel
theorem dX9_pair_72 : decode cX9_pair 72 = .ok (.iaload, 1) := by decide +kernel
theorem dX9_pair_73 : decode cX9_pair 73 = .ok (.aload 5, 2) := by decide +kernel
theorem dX9_pair_75 : decode cX9_pair 75 = .ok (.iload 4, 2) := by decide +kernel
theorem dX9_pair_77 : decode cX9_pair 77 = .ok (.iaload, 1) := by decide +kernel
theorem dX9_pair_78 : decode cX9_pair 78 = .ok (.iadd, 1) := by decide +kernel
theorem dX9_pair_79 : decode cX9_pair 79 = .ok (.goto 13, 3) := by decide +kernel
theorem dX9_pair_82 : decode cX9_pair 82 = .ok (.aload 6, 2) := by decide +kernel
theorem dX9_pair_84 : decode cX9_pair 84 = .ok (.iload_n 1, 1) := by decide +kernel
theorem dX9_pair_85 : decode cX9_pair 85 = .ok (.iaload, 1) := by decide +kernel
theorem dX9_pair_86 : decode cX9_pair 86 = .ok (.aload 6, 2) := by decide +kernel
theorem dX9_pair_88 : decode cX9_pair 88 = .ok (.iload 4, 2) := by decide +kernel
theorem dX9_pair_90 : decode cX9_pair 90 = .ok (.iaload, 1) := by decide +kernel
theorem dX9_pair_91 : decode cX9_pair 91 = .ok (.isub, 1) := by decide +kernel
theorem dX9_pair_92 : decode cX9_pair 92 = .ok (.ireturn, 1) := by decide +kernel
theorem dX9_pair_93 : decode cX9_pair 93 = .ok (.iload_n 3, 1) := by decide +kernel
theorem dX9_pair_94 : decode cX9_pair 94 = .ok (.ifCond .ne 16, 3) := by decide +kernel
theorem dX9_pair_97 : decode cX9_pair 97 = .ok (.aload 6, 2) := by decide +kernel
theorem dX9_pair_99 : decode cX9_pair 99 = .ok (.iload_n 1, 1) := by decide +kernel
theorem dX9_pair_100 : decode cX9_pair 100 = .ok (.iaload, 1) := by decide +kernel
theorem dX9_pair_101 : decode cX9_pair 101 = .ok (.aload 6, 2) := by decide +kernel
theorem dX9_pair_103 : decode cX9_pair 103 = .ok (.iload 4, 2) := by decide +kernel
theorem dX9_pair_105 : decode cX9_pair 105 = .ok (.iaload, 1) := by decide +kernel
theorem dX9_pair_106 : decode cX9_pair 106 = .ok (.iadd, 1) := by decide +kernel
theorem dX9_pair_107 : decode cX9_pair 107 = .ok (.goto 13, 3) := by decide +kernel
theorem dX9_pair_110 : decode cX9_pair 110 = .ok (.aload 5, 2) := by decide +kernel
theorem dX9_pair_112 : decode cX9_pair 112 = .ok (.iload 4, 2) := by decide +kernel
theorem dX9_pair_114 : decode cX9_pair 114 = .ok (.iaload, 1) := by decide +kernel
theorem dX9_pair_115 : decode cX9_pair 115 = .ok (.aload 5, 2) := by decide +kernel
theorem dX9_pair_117 : decode cX9_pair 117 = .ok (.iload_n 1, 1) := by decide +kernel
theorem dX9_pair_118 : decode cX9_pair 118 = .ok (.iaload, 1) := by decide +kernel
theorem dX9_pair_119 : decode cX9_pair 119 = .ok (.isub, 1) := by decide +kernel
theorem dX9_pair_120 : decode cX9_pair 120 = .ok (.ireturn, 1) := by decide +kernel
set_option maxRecDepth 20000 in
theorem ggX9_swing_X9_isPlace : GoodIn wsX9_swing wsX9_isPlace := goodIn_r _ [13, 5, 6, 20, 21, 22, 23, 24, 25, 26, 27, 28, 29, 30, 31, 32, 33, 34, 35, 36, 37, 38, 41, 42, 43, 44, 45, 46, 47, 48, 49, 50] (by decide +kernel) (by decide +kernel)
set_option maxRecDepth 20000 in
theorem gX9_swing_X9_isPlace : GoodIn wsX9_swing (wsV RX9 159 RX9 yX9_isPlace wsX9_isPlace) := goodIn_app (goodIn_of _ (by decide +kernel)) ggX9_swing_X9_isPlace
set_option maxRecDepth 20000 in
theorem ggX9_swing_X8_addedBeforeCut : GoodIn wsX9_swing wsX8_addedBeforeCut := goodIn_r _ [18, 19, 41, 42, 43, 44, 45, 46, 47, 48, 49, 50] (by decide +kernel) (by decide +kernel)
set_option maxRecDepth 20000 in
theorem gX9_swing_X8_addedBeforeCut : GoodIn wsX9_swing (wsV RX9 379 RX8 yX8_addedBeforeCut wsX8_addedBeforeCut) := goodIn_app (goodIn_of _ (by decide +kernel)) ggX9_swing_X8_addedBeforeCut
theorem dX9_swing_0 : decode cX9_swing 0 = .ok (.aload_n 0, 1) := by decide +kernel
theorem dX9_swing_1 : decode cX9_swing 1 = .ok (.iload_n 1, 1) := by decide +kernel
theorem dX9_swing_2 : decode cX9_swing 2 = .ok (.invokevirtual 159, 3) := by decide +kernel
theorem dX9_swing_5 : decode cX9_swing 5 = .ok (.ifCond .eq 12, 3) := by decide +kernel
theorem dX9_swing_8 : decode cX9_swing 8 = .ok (.iload_n 2, 1) := by decide +kernel
theorem dX9_swing_9 : decode cX9_swing 9 = .ok (.ifCond .lt 8, 3) := by decide +kernel
theorem dX9_swing_12 : decode cX9_swing 12 = .ok (.iload_n 2, 1) := by decide +kernel
theorem dX9_swing_13 : decode cX9_swing 13 = .ok (.iconst 1, 1) := by decide +kernel
theorem dX9_swing_14 : decode cX9_swing 14 = .ok (.if_icmp .le 7, 3) := by decide +kernel
theorem dX9_swing_17 : decode cX9_swing 17 = .ok (.ldc2_w 358, 3) := by decide +kernel
theorem dX9_swing_20 : decode cX9_swing 20 = .ok (.lreturn, 1) := by decide +kernel
theorem dX9_swing_21 : decode cX9_swing 21 = .ok (.ldc2_w 218, 3) := by decide +kernel
theorem dX9_swing_24 : decode cX9_swing 24 = .ok (.aload_n 0, 1) := by decide +kernel
theorem dX9_swing_25 : decode cX9_swing 25 = .ok (.getfield 47, 3) := by decide +kernel
theorem dX9_swing_28 : decode cX9_swing 28 = .ok (.getfield 186, 3) := by decide +kernel
theorem dX9_swing_31 : decode cX9_swing 31 = .ok (.iload_n 1, 1) := by decide +kernel
theorem dX9_swing_32 : decode cX9_swing 32 = .ok (.iaload, 1) := by decide +kernel
theorem dX9_swing_33 : decode cX9_swing 33 = .ok (.i2l, 1) := by decide +kernel
theorem dX9_swing_34 : decode cX9_swing 34 = .ok (.lmul, 1) := by decide +kernel
theorem dX9_swing_35 : decode cX9_swing 35 = .ok (.lstore_n 3, 1) := by decide +kernel
theorem dX9_swing_36 : decode cX9_swing 36 = .ok (.lconst 0, 1) := by decide +kernel
theorem dX9_swing_37 : decode cX9_swing 37 = .ok (.lstore 5, 2) := by decide +kernel
theorem dX9_swing_39 : decode cX9_swing 39 = .ok (.lconst 0, 1) := by decide +kernel
theorem dX9_swing_40 : decode cX9_swing 40 = .ok (.lstore 7, 2) := by decide +kernel
theorem dX9_swing_42 : decode cX9_swing 42 = .ok (.iconst 0, 1) := by decide +kernel
theorem dX9_swing_43 : decode cX9_swing 43 = .ok (.istore 9, 2) := by decide +kernel
theorem dX9_swing_45 : decode cX9_swing 45 = .ok (.iload 9, 2) := by decide +kernel
theorem dX9_swing_47 : decode cX9_swing 47 = .ok (.aload_n 0, 1) := by decide +kernel
theorem dX9_swing_48 : decode cX9_swing 48 = .ok (.getfield 10, 3) := by decide +kernel
theorem dX9_swing_51 : decode cX9_swing 51 = .ok (.getfield 115, 3) := by decide +kernel
theorem dX9_swing_54 : decode cX9_swing 54 = .ok (.if_icmp .ge 50, 3) := by decide +kernel
theorem dX9_swing_57 : decode cX9_swing 57 = .ok (.aload_n 0, 1) := by decide +kernel
theorem dX9_swing_58 : decode cX9_swing 58 = .ok (.getfield 19, 3) := by decide +kernel
theorem dX9_swing_61 : decode cX9_swing 61 = .ok (.getfield 177, 3) := by decide +kernel
theorem dX9_swing_64 : decode cX9_swing 64 = .ok (.iload 9, 2) := by decide +kernel
theorem dX9_swing_66 : decode cX9_swing 66 = .ok (.iaload, 1) := by decide +kernel
theorem dX9_swing_67 : decode cX9_swing 67 = .ok (.i2l, 1) := by decide +kernel
theorem dX9_swing_68 : decode cX9_swing 68 = .ok (.lload 5, 2) := by decide +kernel
theorem dX9_swing_70 : decode cX9_swing 70 = .ok (.lload_n 3, 1) := by decide +kernel
theorem dX9_swing_71 : decode cX9_swing 71 = .ok (.lmul, 1) := by decide +kernel
theorem dX9_swing_72 : decode cX9_swing 72 = .ok (.aload_n 0, 1) := by decide +kernel
theorem dX9_swing_73 : decode cX9_swing 73 = .ok (.getfield 10, 3) := by decide +kernel
theorem dX9_swing_76 : decode cX9_swing 76 = .ok (.invokevirtual 379, 3) := by decide +kernel
theorem dX9_swing_79 : decode cX9_swing 79 = .ok (.i2l, 1) := by decide +kernel
theorem dX9_swing_80 : decode cX9_swing 80 = .ok (.ladd, 1) := by decide +kernel
theorem dX9_swing_81 : decode cX9_swing 81 = .ok (.bipush 14, 2) := by decide +kernel
theorem dX9_swing_83 : decode cX9_swing 83 = .ok (.lshr, 1) := by decide +kernel
theorem dX9_swing_84 : decode cX9_swing 84 = .ok (.ladd, 1) := by decide +kernel
theorem dX9_swing_85 : decode cX9_swing 85 = .ok (.lload 7, 2) := by decide +kernel
theorem dX9_swing_87 : decode cX9_swing 87 = .ok (.lsub, 1) := by decide +kernel
theorem dX9_swing_88 : decode cX9_swing 88 = .ok (.lstore 10, 2) := by decide +kernel
theorem dX9_swing_90 : decode cX9_swing 90 = .ok (.lload 5, 2) := by decide +kernel
theorem dX9_swing_92 : decode cX9_swing 92 = .ok (.lstore 7, 2) := by decide +kernel
theorem dX9_swing_94 : decode cX9_swing 94 = .ok (.lload 10, 2) := by decide +kernel
theorem dX9_swing_96 : decode cX9_swing 96 = .ok (.lstore 5, 2) := by decide +kernel
theorem dX9_swing_98 : decode cX9_swing 98 = .ok (.iinc 9 1, 3) := by decide +kernel
theorem dX9_swing_101 : decode cX9_swing 101 = .ok (.goto (-56), 3) := by decide +kernel
theorem dX9_swing_104 : decode cX9_swing 104 = .ok (.iload_n 2, 1) := by decide +kernel
theorem dX9_swing_105 : decode cX9_swing 105 = .ok (.ifCond .ne 8, 3) := by decide +kernel
theorem dX9_swing_108 : decode cX9_swing 108 = .ok (.lload 5, 2) := by decide +kernel
theorem dX9_swing_110 : decode cX9_swing 110 = .ok (.goto 5, 3) := by decide +kernel
theorem dX9_swing_113 : decode cX9_swing 113 = .ok (.lload 7, 2) := by decide +kernel
theorem dX9_swing_115 : decode cX9_swing 115 = .ok (.lreturn, 1) := by decide +kernel
set_option maxRecDepth 20000 in
theorem ggX9_like_X9_isPlace : GoodIn wsX9_like wsX9_isPlace := goodIn_r _ [8, 9, 10, 15, 16, 17, 18, 19, 20, 21, 22, 23, 24, 25, 26, 27, 28, 29, 30, 31, 32, 33, 42, 43, 44, 45, 46, 47, 48, 49, 50, 51] (by decide +kernel) (by decide +kernel)
set_option maxRecDepth 20000 in
theorem gX9_like_X9_isPlace : GoodIn wsX9_like (wsV RX9 159 RX9 yX9_isPlace wsX9_isPlace) := goodIn_app (goodIn_of _ (by decide +kernel)) ggX9_like_X9_isPlace
set_option maxRecDepth 20000 in
theorem ggX9_like_X9_productSum : GoodIn wsX9_like wsX9_productSum := goodIn_r _ [14, 9, 10, 1, 2, 15, 16, 17, 18, 19, 20, 21, 22, 23, 24, 25, 26, 27, 28, 29, 30, 31, 32, 33, 42, 43, 44, 45, 46, 47, 48, 49, 50, 51, 34, 35, 36, 37, 38, 39, 40, 41] (by decide +kernel) (by decide +kernel)
set_option maxRecDepth 20000 in
theorem gX9_like_X9_productSum : GoodIn wsX9_like (wsV RX9 382 RX9 yX9_productSum wsX9_productSum) := goodIn_app (goodIn_of _ (by decide +kernel)) ggX9_like_X9_productSum
theorem dX9_like_0 : decode cX9_like 0 = .ok (.aload_n 0, 1) := by decide +kernel
theorem dX9_like_1 : decode cX9_like 1 = .ok (.iload_n 1, 1) := by decide +kernel
theorem dX9_like_2 : decode cX9_like 2 = .ok (.invokevirtual 159, 3) := by decide +kernel
theorem dX9_like_5 : decode cX9_like 5 = .ok (.ifCond .eq 19, 3) := by decide +kernel
theorem dX9_like_8 : decode cX9_like 8 = .ok (.aload_n 0, 1) := by decide +kernel
theorem dX9_like_9 : decode cX9_like 9 = .ok (.aload_n 0, 1) := by decide +kernel
theorem dX9_like_10 : decode cX9_like 10 = .ok (.getfield 19, 3) := by decide +kernel
theorem dX9_like_13 : decode cX9_like 13 = .ok (.getfield 177, 3) := by decide +kernel
theorem dX9_like_16 : decode cX9_like 16 = .ok (.iconst 1, 1) := by decide +kernel
theorem dX9_like_17 : decode cX9_like 17 = .ok (.iload_n 1, 1) := by decide +kernel
theorem dX9_like_18 : decode cX9_like 18 = .ok (.invokevirtual 382, 3) := by decide +kernel
theorem dX9_like_21 : decode cX9_like 21 = .ok (.goto 6, 3) := by decide +kernel
theorem dX9_like_24 : decode cX9_like 24 = .ok (.ldc2_w 358, 3) := by decide +kernel
theorem dX9_like_27 : decode cX9_like 27 = .ok (.lreturn, 1) := by decide +kernel
set_option maxRecDepth 20000 in
theorem ggX9_crossed_X9_isPlace : GoodIn wsX9_crossed wsX9_isPlace := goodIn_r _ [8, 9, 10, 16, 17, 18, 19, 20, 21, 22, 23, 24, 25, 26, 27, 28, 29, 30, 31, 32, 33, 34, 43, 44, 45, 46, 47, 48, 49, 50, 51, 52] (by decide +kernel) (by decide +kernel)
set_option maxRecDepth 20000 in
theorem gX9_crossed_X9_isPlace : GoodIn wsX9_crossed (wsV RX9 159 RX9 yX9_isPlace wsX9_isPlace) := goodIn_app (goodIn_of _ (by decide +kernel)) ggX9_crossed_X9_isPlace
set_option maxRecDepth 20000 in
theorem ggX9_crossed_X9_productSum : GoodIn wsX9_crossed wsX9_productSum := goodIn_r _ [14, 9, 10, 1, 15, 16, 17, 18, 19, 20, 21, 22, 23, 24, 25, 26, 27, 28, 29, 30, 31, 32, 33, 34, 43, 44, 45, 46, 47, 48, 49, 50, 51, 52, 35, 36, 37, 38, 39, 40, 41, 42] (by decide +kernel) (by decide +kernel)
set_option maxRecDepth 20000 in
theorem gX9_crossed_X9_productSum : GoodIn wsX9_crossed (wsV RX9 382 RX9 yX9_productSum wsX9_productSum) := goodIn_app (goodIn_of _ (by decide +kernel)) ggX9_crossed_X9_productSum
theorem dX9_crossed_0 : decode cX9_crossed 0 = .ok (.aload_n 0, 1) := by decide +kernel
theorem dX9_crossed_1 : decode cX9_crossed 1 = .ok (.iload_n 1, 1) := by decide +kernel
theorem dX9_crossed_2 : decode cX9_crossed 2 = .ok (.invokevirtual 159, 3) := by decide +kernel
theorem dX9_crossed_5 : decode cX9_crossed 5 = .ok (.ifCond .eq 19, 3) := by decide +kernel
theorem dX9_crossed_8 : decode cX9_crossed 8 = .ok (.aload_n 0, 1) := by decide +kernel
theorem dX9_crossed_9 : decode cX9_crossed 9 = .ok (.aload_n 0, 1) := by decide +kernel
theorem dX9_crossed_10 : decode cX9_crossed 10 = .ok (.getfield 19, 3) := by decide +kernel
theorem dX9_crossed_13 : decode cX9_crossed 13 = .ok (.getfield 180, 3) := by decide +kernel
theorem dX9_crossed_16 : decode cX9_crossed 16 = .ok (.iconst 1, 1) := by decide +kernel
theorem dX9_crossed_17 : decode cX9_crossed 17 = .ok (.iload_n 1, 1) := by decide +kernel
theorem dX9_crossed_18 : decode cX9_crossed 18 = .ok (.invokevirtual 382, 3) := by decide +kernel
theorem dX9_crossed_21 : decode cX9_crossed 21 = .ok (.goto 6, 3) := by decide +kernel
theorem dX9_crossed_24 : decode cX9_crossed 24 = .ok (.ldc2_w 358, 3) := by decide +kernel
theorem dX9_crossed_27 : decode cX9_crossed 27 = .ok (.lreturn, 1) := by decide +kernel
set_option maxRecDepth 20000 in
theorem ggX9_foldWhole_X9_isPlace : GoodIn wsX9_foldWhole wsX9_isPlace := goodIn_r _ [8, 9, 10, 16, 17, 18, 19, 20, 21, 22, 23, 24, 25, 26, 27, 28, 29, 30, 31, 32, 33, 34, 43, 44, 45, 46, 47, 48, 49, 50, 51, 52] (by decide +kernel) (by decide +kernel)
set_option maxRecDepth 20000 in
theorem gX9_foldWhole_X9_isPlace : GoodIn wsX9_foldWhole (wsV RX9 159 RX9 yX9_isPlace wsX9_isPlace) := goodIn_app (goodIn_of _ (by decide +kernel)) ggX9_foldWhole_X9_isPlace
set_option maxRecDepth 20000 in
theorem ggX9_foldWhole_X9_productSum : GoodIn wsX9_foldWhole wsX9_productSum := goodIn_r _ [14, 9, 10, 1, 15, 16, 17, 18, 19, 20, 21, 22, 23, 24, 25, 26, 27, 28, 29, 30, 31, 32, 33, 34, 43, 44, 45, 46, 47, 48, 49, 50, 51, 52, 35, 36, 37, 38, 39, 40, 41, 42] (by decide +kernel) (by decide +kernel)
set_option maxRecDepth 20000 in
theorem gX9_foldWhole_X9_productSum : GoodIn wsX9_foldWhole (wsV RX9 382 RX9 yX9_productSum wsX9_productSum) := goodIn_app (goodIn_of _ (by decide +kernel)) ggX9_foldWhole_X9_productSum
theorem dX9_foldWhole_0 : decode cX9_foldWhole 0 = .ok (.aload_n 0, 1) := by decide +kernel
theorem dX9_foldWhole_1 : decode cX9_foldWhole 1 = .ok (.iload_n 1, 1) := by decide +kernel
theorem dX9_foldWhole_2 : decode cX9_foldWhole 2 = .ok (.invokevirtual 159, 3) := by decide +kernel
theorem dX9_foldWhole_5 : decode cX9_foldWhole 5 = .ok (.ifCond .eq 19, 3) := by decide +kernel
theorem dX9_foldWhole_8 : decode cX9_foldWhole 8 = .ok (.aload_n 0, 1) := by decide +kernel
theorem dX9_foldWhole_9 : decode cX9_foldWhole 9 = .ok (.aload_n 0, 1) := by decide +kernel
theorem dX9_foldWhole_10 : decode cX9_foldWhole 10 = .ok (.getfield 19, 3) := by decide +kernel
theorem dX9_foldWhole_13 : decode cX9_foldWhole 13 = .ok (.getfield 180, 3) := by decide +kernel
theorem dX9_foldWhole_16 : decode cX9_foldWhole 16 = .ok (.iconst (-1), 1) := by decide +kernel
theorem dX9_foldWhole_17 : decode cX9_foldWhole 17 = .ok (.iload_n 1, 1) := by decide +kernel
theorem dX9_foldWhole_18 : decode cX9_foldWhole 18 = .ok (.invokevirtual 382, 3) := by decide +kernel
theorem dX9_foldWhole_21 : decode cX9_foldWhole 21 = .ok (.goto 6, 3) := by decide +kernel
theorem dX9_foldWhole_24 : decode cX9_foldWhole 24 = .ok (.ldc2_w 358, 3) := by decide +kernel
theorem dX9_foldWhole_27 : decode cX9_foldWhole 27 = .ok (.lreturn, 1) := by decide +kernel
theorem dX9_productSum_0 : decode cX9_productSum 0 = .ok (.lconst 0, 1) := by decide +kernel
theorem dX9_productSum_1 : decode cX9_productSum 1 = .ok (.lstore 4, 2) := by decide +kernel
theorem dX9_productSum_3 : decode cX9_productSum 3 = .ok (.iconst 0, 1) := by decide +kernel
theorem dX9_productSum_4 : decode cX9_productSum 4 = .ok (.istore 6, 2) := by decide +kernel
theorem dX9_productSum_6 : decode cX9_productSum 6 = .ok (.iload 6, 2) := by decide +kernel
theorem dX9_productSum_8 : decode cX9_productSum 8 = .ok (.aload_n 0, 1) := by decide +kernel
theorem dX9_productSum_9 : decode cX9_productSum 9 = .ok (.getfield 10, 3) := by decide +kernel
theorem dX9_productSum_12 : decode cX9_productSum 12 = .ok (.getfield 115, 3) := by decide +kernel
theorem dX9_productSum_15 : decode cX9_productSum 15 = .ok (.if_icmp .ge 45, 3) := by decide +kernel
theorem dX9_productSum_18 : decode cX9_productSum 18 = .ok (.lload 4, 2) := by decide +kernel
theorem dX9_productSum_20 : decode cX9_productSum 20 = .ok (.aload_n 0, 1) := by decide +kernel
theorem dX9_productSum_21 : decode cX9_productSum 21 = .ok (.getfield 19, 3) := by decide +kernel
theorem dX9_productSum_24 : decode cX9_productSum 24 = .ok (.getfield 177, 3) := by decide +kernel
theorem dX9_productSum_27 : decode cX9_productSum 27 = .ok (.iload 6, 2) := by decide +kernel
theorem dX9_productSum_29 : decode cX9_productSum 29 = .ok (.iaload, 1) := by decide +kernel
theorem dX9_productSum_30 : decode cX9_productSum 30 = .ok (.i2l, 1) := by decide +kernel
theorem dX9_productSum_31 : decode cX9_productSum 31 = .ok (.aload_n 1, 1) := by decide +kernel
theorem dX9_productSum_32 : decode cX9_productSum 32 = .ok (.iload_n 3, 1) := by decide +kernel
theorem dX9_productSum_33 : decode cX9_productSum 33 = .ok (.iload_n 2, 1) := by decide +kernel
theorem dX9_productSum_34 : decode cX9_productSum 34 = .ok (.iload 6, 2) := by decide +kernel
theorem dX9_productSum_36 : decode cX9_productSum 36 = .ok (.imul, 1) := by decide +kernel
theorem dX9_productSum_37 : decode cX9_productSum 37 = .ok (.iadd, 1) := by decide +kernel
theorem dX9_productSum_38 : decode cX9_productSum 38 = .ok (.aload_n 0, 1) := by decide +kernel
theorem dX9_productSum_39 : decode cX9_productSum 39 = .ok (.getfield 10, 3) := by decide +kernel
theorem dX9_productSum_42 : decode cX9_productSum 42 = .ok (.getfield 115, 3) := by decide +kernel
theorem dX9_productSum_45 : decode cX9_productSum 45 = .ok (.iconst 1, 1) := by decide +kernel
theorem dX9_productSum_46 : decode cX9_productSum 46 = .ok (.isub, 1) := by decide +kernel
theorem dX9_productSum_47 : decode cX9_productSum 47 = .ok (.iand, 1) := by decide +kernel
theorem dX9_productSum_48 : decode cX9_productSum 48 = .ok (.iaload, 1) := by decide +kernel
theorem dX9_productSum_49 : decode cX9_productSum 49 = .ok (.i2l, 1) := by decide +kernel
theorem dX9_productSum_50 : decode cX9_productSum 50 = .ok (.lmul, 1) := by decide +kernel
theorem dX9_productSum_51 : decode cX9_productSum 51 = .ok (.ladd, 1) := by decide +kernel
theorem dX9_productSum_52 : decode cX9_productSum 52 = .ok (.lstore 4, 2) := by decide +kernel
theorem dX9_productSum_54 : decode cX9_productSum 54 = .ok (.iinc 6 1, 3) := by decide +kernel
theorem dX9_productSum_57 : decode cX9_productSum 57 = .ok (.goto (-51), 3) := by decide +kernel
theorem dX9_productSum_60 : decode cX9_productSum 60 = .ok (.lload 4, 2) := by decide +kernel
theorem dX9_productSum_62 : decode cX9_productSum 62 = .ok (.lreturn, 1) := by decide +kernel
set_option maxRecDepth 20000 in
theorem ggX9_period_X9_greatestProduct : GoodIn wsX9_period wsX9_greatestProduct := goodIn_r _ [7, 8, 9, 10, 11, 12, 6, 13, 1, 2, 14, 15, 16, 17, 18, 19, 20, 21, 22, 23, 24, 25, 26, 27, 28, 29, 30, 31, 32, 41, 42, 43, 44, 45, 46, 47, 48, 49, 50, 33, 34, 35, 36, 37, 38, 39, 40] (by decide +kernel) (by decide +kernel)
set_option maxRecDepth 20000 in
theorem gX9_period_X9_greatestProduct : GoodIn wsX9_period (wsV RX9 386 RX9 yX9_greatestProduct wsX9_greatestProduct) := goodIn_app (goodIn_of _ (by decide +kernel)) ggX9_period_X9_greatestProduct
theorem dX9_period_0 : decode cX9_period 0 = .ok (.aload_n 0, 1) := by decide +kernel
theorem dX9_period_1 : decode cX9_period 1 = .ok (.aload_n 0, 1) := by decide +kernel
theorem dX9_period_2 : decode cX9_period 2 = .ok (.getfield 19, 3) := by decide +kernel
theorem dX9_period_5 : decode cX9_period 5 = .ok (.getfield 177, 3) := by decide +kernel
theorem dX9_period_8 : decode cX9_period 8 = .ok (.iconst 1, 1) := by decide +kernel
theorem dX9_period_9 : decode cX9_period 9 = .ok (.invokevirtual 386, 3) := by decide +kernel
theorem dX9_period_12 : decode cX9_period 12 = .ok (.ireturn, 1) := by decide +kernel
set_option maxRecDepth 20000 in
theorem ggX9_lag_X9_greatestProduct : GoodIn wsX9_lag wsX9_greatestProduct := goodIn_r _ [7, 8, 9, 10, 11, 12, 6, 13, 1, 14, 15, 16, 17, 18, 19, 20, 21, 22, 23, 24, 25, 26, 27, 28, 29, 30, 31, 32, 33, 42, 43, 44, 45, 46, 47, 48, 49, 50, 51, 34, 35, 36, 37, 38, 39, 40, 41] (by decide +kernel) (by decide +kernel)
set_option maxRecDepth 20000 in
theorem gX9_lag_X9_greatestProduct : GoodIn wsX9_lag (wsV RX9 386 RX9 yX9_greatestProduct wsX9_greatestProduct) := goodIn_app (goodIn_of _ (by decide +kernel)) ggX9_lag_X9_greatestProduct
theorem dX9_lag_0 : decode cX9_lag 0 = .ok (.aload_n 0, 1) := by decide +kernel
theorem dX9_lag_1 : decode cX9_lag 1 = .ok (.aload_n 0, 1) := by decide +kernel
theorem dX9_lag_2 : decode cX9_lag 2 = .ok (.getfield 19, 3) := by decide +kernel
theorem dX9_lag_5 : decode cX9_lag 5 = .ok (.getfield 180, 3) := by decide +kernel
theorem dX9_lag_8 : decode cX9_lag 8 = .ok (.iconst 0, 1) := by decide +kernel
theorem dX9_lag_9 : decode cX9_lag 9 = .ok (.invokevirtual 386, 3) := by decide +kernel
theorem dX9_lag_12 : decode cX9_lag 12 = .ok (.ireturn, 1) := by decide +kernel
set_option maxRecDepth 20000 in
theorem ggX9_greatestProduct_X9_productSum : GoodIn wsX9_greatestProduct wsX9_productSum := goodIn_r _ [7, 1, 2, 8, 9, 10, 11, 12, 13, 14, 15, 16, 17, 18, 19, 20, 21, 22, 23, 24, 25, 26, 27, 28, 29, 30, 31, 32, 33, 34, 35, 36, 37, 38, 39, 40, 41, 42, 43, 44, 45, 46] (by decide +kernel) (by decide +kernel)
set_option maxRecDepth 20000 in
theorem gX9_greatestProduct_X9_productSum : GoodIn wsX9_greatestProduct (wsV RX9 382 RX9 yX9_productSum wsX9_productSum) := goodIn_app (goodIn_of _ (by decide +kernel)) ggX9_greatestProduct_X9_productSum
theorem dX9_greatestProduct_0 : decode cX9_greatestProduct 0 = .ok (.iload_n 2, 1) := by decide +kernel
theorem dX9_greatestProduct_1 : decode cX9_greatestProduct 1 = .ok (.istore_n 3, 1) := by decide +kernel
theorem dX9_greatestProduct_2 : decode cX9_greatestProduct 2 = .ok (.aload_n 0, 1) := by decide +kernel
theorem dX9_greatestProduct_3 : decode cX9_greatestProduct 3 = .ok (.aload_n 1, 1) := by decide +kernel
theorem dX9_greatestProduct_4 : decode cX9_greatestProduct 4 = .ok (.iconst 1, 1) := by decide +kernel
theorem dX9_greatestProduct_5 : decode cX9_greatestProduct 5 = .ok (.iload_n 2, 1) := by decide +kernel
theorem dX9_greatestProduct_6 : decode cX9_greatestProduct 6 = .ok (.invokevirtual 382, 3) := by decide +kernel
theorem dX9_greatestProduct_9 : decode cX9_greatestProduct 9 = .ok (.lstore 4, 2) := by decide +kernel
theorem dX9_greatestProduct_11 : decode cX9_greatestProduct 11 = .ok (.iload_n 2, 1) := by decide +kernel
theorem dX9_greatestProduct_12 : decode cX9_greatestProduct 12 = .ok (.iconst 1, 1) := by decide +kernel
theorem dX9_greatestProduct_13 : decode cX9_greatestProduct 13 = .ok (.iadd, 1) := by decide +kernel
theorem dX9_greatestProduct_14 : decode cX9_greatestProduct 14 = .ok (.istore 6, 2) := by decide +kernel
theorem dX9_greatestProduct_16 : decode cX9_greatestProduct 16 = .ok (.iload 6, 2) := by decide +kernel
theorem dX9_greatestProduct_18 : decode cX9_greatestProduct 18 = .ok (.aload_n 0, 1) := by decide +kernel
theorem dX9_greatestProduct_19 : decode cX9_greatestProduct 19 = .ok (.getfield 10, 3) := by decide +kernel
theorem dX9_greatestProduct_22 : decode cX9_greatestProduct 22 = .ok (.getfield 115, 3) := by decide +kernel
theorem dX9_greatestProduct_25 : decode cX9_greatestProduct 25 = .ok (.if_icmp .ge 34, 3) := by decide +kernel
theorem dX9_greatestProduct_28 : decode cX9_greatestProduct 28 = .ok (.aload_n 0, 1) := by decide +kernel
theorem dX9_greatestProduct_29 : decode cX9_greatestProduct 29 = .ok (.aload_n 1, 1) := by decide +kernel
theorem dX9_greatestProduct_30 : decode cX9_greatestProduct 30 = .ok (.iconst 1, 1) := by decide +kernel
theorem dX9_greatestProduct_31 : decode cX9_greatestProduct 31 = .ok (.iload 6, 2) := by decide +kernel
theorem dX9_greatestProduct_33 : decode cX9_greatestProduct 33 = .ok (.invokevirtual 382, 3) := by decide +kernel
theorem dX9_greatestProduct_36 : decode cX9_greatestProduct 36 = .ok (.lstore 7, 2) := by decide +kernel
theorem dX9_greatestProduct_38 : decode cX9_greatestProduct 38 = .ok (.lload 7, 2) := by decide +kernel
theorem dX9_greatestProduct_40 : decode cX9_greatestProduct 40 = .ok (.lload 4, 2) := by decide +kernel
theorem dX9_greatestProduct_42 : decode cX9_greatestProduct 42 = .ok (.lcmp, 1) := by decide +kernel
theorem dX9_greatestProduct_43 : decode cX9_greatestProduct 43 = .ok (.ifCond .le 10, 3) := by decide +kernel
theorem dX9_greatestProduct_46 : decode cX9_greatestProduct 46 = .ok (.lload 7, 2) := by decide +kernel
theorem dX9_greatestProduct_48 : decode cX9_greatestProduct 48 = .ok (.lstore 4, 2) := by decide +kernel
theorem dX9_greatestProduct_50 : decode cX9_greatestProduct 50 = .ok (.iload 6, 2) := by decide +kernel
theorem dX9_greatestProduct_52 : decode cX9_greatestProduct 52 = .ok (.istore_n 3, 1) := by decide +kernel
theorem dX9_greatestProduct_53 : decode cX9_greatestProduct 53 = .ok (.iinc 6 1, 3) := by decide +kernel
theorem dX9_greatestProduct_56 : decode cX9_greatestProduct 56 = .ok (.goto (-40), 3) := by decide +kernel
theorem dX9_greatestProduct_59 : decode cX9_greatestProduct 59 = .ok (.iload_n 3, 1) := by decide +kernel
theorem dX9_greatestProduct_60 : decode cX9_greatestProduct 60 = .ok (.ireturn, 1) := by decide +kernel
set_option maxRecDepth 20000 in
theorem ggX9_bin_X9_isPlace : GoodIn wsX9_bin wsX9_isPlace := goodIn_r _ [8, 9, 10, 26, 27, 28, 29, 30, 31, 32, 33, 34, 35, 36, 37, 38, 39, 40, 41, 42, 43, 44, 53, 54, 55, 56, 57, 58, 59, 60, 61, 62] (by decide +kernel) (by decide +kernel)
set_option maxRecDepth 20000 in
theorem gX9_bin_X9_isPlace : GoodIn wsX9_bin (wsV RX9 159 RX9 yX9_isPlace wsX9_isPlace) := goodIn_app (goodIn_of _ (by decide +kernel)) ggX9_bin_X9_isPlace
set_option maxRecDepth 20000 in
theorem ggX9_bin_X5_binWithout : GoodIn wsX9_bin wsX5_binWithout := goodIn_r _ [15, 16, 17, 18, 19, 20, 21, 22, 23, 14, 24, 25, 63, 64, 65] (by decide +kernel) (by decide +kernel)
set_option maxRecDepth 20000 in
theorem gX9_bin_X5_binWithout : GoodIn wsX9_bin (wsV RX9 389 RX5 yX5_binWithout wsX5_binWithout) := goodIn_app (goodIn_of _ (by decide +kernel)) ggX9_bin_X5_binWithout
theorem dX9_bin_0 : decode cX9_bin 0 = .ok (.aload_n 0, 1) := by decide +kernel
theorem dX9_bin_1 : decode cX9_bin 1 = .ok (.iload_n 1, 1) := by decide +kernel
theorem dX9_bin_2 : decode cX9_bin 2 = .ok (.invokevirtual 159, 3) := by decide +kernel
theorem dX9_bin_5 : decode cX9_bin 5 = .ok (.ifCond .eq 22, 3) := by decide +kernel
theorem dX9_bin_8 : decode cX9_bin 8 = .ok (.aload_n 0, 1) := by decide +kernel
theorem dX9_bin_9 : decode cX9_bin 9 = .ok (.getfield 40, 3) := by decide +kernel
theorem dX9_bin_12 : decode cX9_bin 12 = .ok (.aload_n 0, 1) := by decide +kernel
theorem dX9_bin_13 : decode cX9_bin 13 = .ok (.getfield 19, 3) := by decide +kernel
theorem dX9_bin_16 : decode cX9_bin 16 = .ok (.getfield 177, 3) := by decide +kernel
theorem dX9_bin_19 : decode cX9_bin 19 = .ok (.iload_n 1, 1) := by decide +kernel
theorem dX9_bin_20 : decode cX9_bin 20 = .ok (.iconst (-1), 1) := by decide +kernel
theorem dX9_bin_21 : decode cX9_bin 21 = .ok (.invokevirtual 389, 3) := by decide +kernel
theorem dX9_bin_24 : decode cX9_bin 24 = .ok (.goto 4, 3) := by decide +kernel
theorem dX9_bin_27 : decode cX9_bin 27 = .ok (.iconst (-1), 1) := by decide +kernel
theorem dX9_bin_28 : decode cX9_bin 28 = .ok (.ireturn, 1) := by decide +kernel
set_option maxRecDepth 20000 in
theorem ggX9_fold_X9_isPlace : GoodIn wsX9_fold wsX9_isPlace := goodIn_r _ [8, 9, 10, 20, 21, 22, 23, 24, 25, 26, 27, 28, 29, 30, 31, 32, 33, 34, 35, 36, 37, 38, 47, 48, 49, 50, 51, 52, 53, 54, 55, 56] (by decide +kernel) (by decide +kernel)
set_option maxRecDepth 20000 in
theorem gX9_fold_X9_isPlace : GoodIn wsX9_fold (wsV RX9 159 RX9 yX9_isPlace wsX9_isPlace) := goodIn_app (goodIn_of _ (by decide +kernel)) ggX9_fold_X9_isPlace
set_option maxRecDepth 20000 in
theorem ggX9_fold_X9_productSum : GoodIn wsX9_fold wsX9_productSum := goodIn_r _ [14, 9, 10, 1, 15, 20, 21, 22, 23, 24, 25, 26, 27, 28, 29, 30, 31, 32, 33, 34, 35, 36, 37, 38, 47, 48, 49, 50, 51, 52, 53, 54, 55, 56, 39, 40, 41, 42, 43, 44, 45, 46] (by decide +kernel) (by decide +kernel)
set_option maxRecDepth 20000 in
theorem gX9_fold_X9_productSum : GoodIn wsX9_fold (wsV RX9 382 RX9 yX9_productSum wsX9_productSum) := goodIn_app (goodIn_of _ (by decide +kernel)) ggX9_fold_X9_productSum
set_option maxRecDepth 20000 in
theorem ggX9_fold_J9_floorMod_f86c9 : GoodIn wsX9_fold wsJ9_floorMod_f86c9 := goodIn_r _ [19] (by decide +kernel) (by decide +kernel)
set_option maxRecDepth 20000 in
theorem gX9_fold_J9_floorMod_f86c9 : GoodIn wsX9_fold (va_wsS RX9 395 yJ9_floorMod_f86c9 wsJ9_floorMod_f86c9) := goodIn_app (goodIn_of _ (by decide +kernel)) ggX9_fold_J9_floorMod_f86c9
theorem dX9_fold_0 : decode cX9_fold 0 = .ok (.aload_n 0, 1) := by decide +kernel
theorem dX9_fold_1 : decode cX9_fold 1 = .ok (.iload_n 1, 1) := by decide +kernel
theorem dX9_fold_2 : decode cX9_fold 2 = .ok (.invokevirtual 159, 3) := by decide +kernel
theorem dX9_fold_5 : decode cX9_fold 5 = .ok (.ifCond .eq 26, 3) := by decide +kernel
theorem dX9_fold_8 : decode cX9_fold 8 = .ok (.aload_n 0, 1) := by decide +kernel
theorem dX9_fold_9 : decode cX9_fold 9 = .ok (.aload_n 0, 1) := by decide +kernel
theorem dX9_fold_10 : decode cX9_fold 10 = .ok (.getfield 19, 3) := by decide +kernel
theorem dX9_fold_13 : decode cX9_fold 13 = .ok (.getfield 180, 3) := by decide +kernel
theorem dX9_fold_16 : decode cX9_fold 16 = .ok (.iconst (-1), 1) := by decide +kernel
theorem dX9_fold_17 : decode cX9_fold 17 = .ok (.iload_n 1, 1) := by decide +kernel
theorem dX9_fold_18 : decode cX9_fold 18 = .ok (.invokevirtual 382, 3) := by decide +kernel
theorem dX9_fold_21 : decode cX9_fold 21 = .ok (.ldc2_w 393, 3) := by decide +kernel
theorem dX9_fold_24 : decode cX9_fold 24 = .ok (.invokestatic 395, 3) := by decide +kernel
theorem dX9_fold_27 : decode cX9_fold 27 = .ok (.l2i, 1) := by decide +kernel
theorem dX9_fold_28 : decode cX9_fold 28 = .ok (.goto 4, 3) := by decide +kernel
theorem dX9_fold_31 : decode cX9_fold 31 = .ok (.iconst (-1), 1) := by decide +kernel
theorem dX9_fold_32 : decode cX9_fold 32 = .ok (.ireturn, 1) := by decide +kernel
set_option maxRecDepth 20000 in
theorem ggX9_unfold_X9_isPlace : GoodIn wsX9_unfold wsX9_isPlace := goodIn_r _ [6, 7, 8, 21, 22, 23, 24, 25, 26, 27, 28, 29, 30, 31, 32, 33, 34, 35, 36, 37, 38, 39, 40, 41, 42, 43, 44, 45, 46, 47, 48, 49] (by decide +kernel) (by decide +kernel)
set_option maxRecDepth 20000 in
theorem gX9_unfold_X9_isPlace : GoodIn wsX9_unfold (wsV RX9 159 RX9 yX9_isPlace wsX9_isPlace) := goodIn_app (goodIn_of _ (by decide +kernel)) ggX9_unfold_X9_isPlace
set_option maxRecDepth 20000 in
theorem ggX9_unfold_X5_pointOf : GoodIn wsX9_unfold wsX5_pointOf := goodIn_r _ [13, 14, 15, 16, 17, 12, 18, 19, 20, 50, 51, 52] (by decide +kernel) (by decide +kernel)
set_option maxRecDepth 20000 in
theorem gX9_unfold_X5_pointOf : GoodIn wsX9_unfold (wsV RX9 398 RX5 yX5_pointOf wsX5_pointOf) := goodIn_app (goodIn_of _ (by decide +kernel)) ggX9_unfold_X5_pointOf
theorem dX9_unfold_0 : decode cX9_unfold 0 = .ok (.aload_n 0, 1) := by decide +kernel
theorem dX9_unfold_1 : decode cX9_unfold 1 = .ok (.iload_n 1, 1) := by decide +kernel
theorem dX9_unfold_2 : decode cX9_unfold 2 = .ok (.invokevirtual 159, 3) := by decide +kernel
theorem dX9_unfold_5 : decode cX9_unfold 5 = .ok (.ifCond .eq 21, 3) := by decide +kernel
theorem dX9_unfold_8 : decode cX9_unfold 8 = .ok (.iload_n 2, 1) := by decide +kernel
theorem dX9_unfold_9 : decode cX9_unfold 9 = .ok (.ifCond .lt 17, 3) := by decide +kernel
theorem dX9_unfold_12 : decode cX9_unfold 12 = .ok (.iload_n 2, 1) := by decide +kernel
theorem dX9_unfold_13 : decode cX9_unfold 13 = .ok (.bipush 97, 2) := by decide +kernel
theorem dX9_unfold_15 : decode cX9_unfold 15 = .ok (.if_icmp .ge 11, 3) := by decide +kernel
theorem dX9_unfold_18 : decode cX9_unfold 18 = .ok (.aload_n 0, 1) := by decide +kernel
theorem dX9_unfold_19 : decode cX9_unfold 19 = .ok (.iload_n 3, 1) := by decide +kernel
theorem dX9_unfold_20 : decode cX9_unfold 20 = .ok (.invokevirtual 159, 3) := by decide +kernel
theorem dX9_unfold_23 : decode cX9_unfold 23 = .ok (.ifCond .ne 5, 3) := by decide +kernel
theorem dX9_unfold_26 : decode cX9_unfold 26 = .ok (.iconst (-1), 1) := by decide +kernel
theorem dX9_unfold_27 : decode cX9_unfold 27 = .ok (.ireturn, 1) := by decide +kernel
theorem dX9_unfold_28 : decode cX9_unfold 28 = .ok (.aload_n 0, 1) := by decide +kernel
theorem dX9_unfold_29 : decode cX9_unfold 29 = .ok (.getfield 40, 3) := by decide +kernel
theorem dX9_unfold_32 : decode cX9_unfold 32 = .ok (.iload_n 1, 1) := by decide +kernel
theorem dX9_unfold_33 : decode cX9_unfold 33 = .ok (.iload_n 2, 1) := by decide +kernel
theorem dX9_unfold_34 : decode cX9_unfold 34 = .ok (.iload_n 3, 1) := by decide +kernel
theorem dX9_unfold_35 : decode cX9_unfold 35 = .ok (.invokevirtual 398, 3) := by decide +kernel
theorem dX9_unfold_38 : decode cX9_unfold 38 = .ok (.ireturn, 1) := by decide +kernel
set_option maxRecDepth 20000 in
theorem ggX9_note_X9_isPlace : GoodIn wsX9_note wsX9_isPlace := goodIn_r _ [6, 7, 8, 18, 19, 20, 21, 22, 23, 24, 25, 26, 27, 28, 29, 30, 31, 32, 33, 34, 35, 36, 37, 38, 39, 40, 41, 42, 43, 44, 45, 46] (by decide +kernel) (by decide +kernel)
set_option maxRecDepth 20000 in
theorem gX9_note_X9_isPlace : GoodIn wsX9_note (wsV RX9 159 RX9 yX9_isPlace wsX9_isPlace) := goodIn_app (goodIn_of _ (by decide +kernel)) ggX9_note_X9_isPlace
set_option maxRecDepth 20000 in
theorem ggX9_note_X2_add : GoodIn wsX9_note wsX2_add := goodIn_r _ [13, 14, 15, 16, 17, 47, 48, 49, 50, 51] (by decide +kernel) (by decide +kernel)
set_option maxRecDepth 20000 in
theorem gX9_note_X2_add : GoodIn wsX9_note (wsV RX9 402 RX2 yX2_add wsX2_add) := goodIn_app (goodIn_of _ (by decide +kernel)) ggX9_note_X2_add
theorem dX9_note_0 : decode cX9_note 0 = .ok (.aload_n 0, 1) := by decide +kernel
theorem dX9_note_1 : decode cX9_note 1 = .ok (.iload_n 1, 1) := by decide +kernel
theorem dX9_note_2 : decode cX9_note 2 = .ok (.invokevirtual 159, 3) := by decide +kernel
theorem dX9_note_5 : decode cX9_note 5 = .ok (.ifCond .eq 13, 3) := by decide +kernel
theorem dX9_note_8 : decode cX9_note 8 = .ok (.iload_n 2, 1) := by decide +kernel
theorem dX9_note_9 : decode cX9_note 9 = .ok (.ifCond .lt 9, 3) := by decide +kernel
theorem dX9_note_12 : decode cX9_note 12 = .ok (.iload_n 2, 1) := by decide +kernel
theorem dX9_note_13 : decode cX9_note 13 = .ok (.bipush 97, 2) := by decide +kernel
theorem dX9_note_15 : decode cX9_note 15 = .ok (.if_icmp .lt 5, 3) := by decide +kernel
theorem dX9_note_18 : decode cX9_note 18 = .ok (.iconst (-1), 1) := by decide +kernel
theorem dX9_note_19 : decode cX9_note 19 = .ok (.ireturn, 1) := by decide +kernel
theorem dX9_note_20 : decode cX9_note 20 = .ok (.aload_n 0, 1) := by decide +kernel
theorem dX9_note_21 : decode cX9_note 21 = .ok (.getfield 33, 3) := by decide +kernel
theorem dX9_note_24 : decode cX9_note 24 = .ok (.iload_n 3, 1) := by decide +kernel
theorem dX9_note_25 : decode cX9_note 25 = .ok (.ifCond .eq 7, 3) := by decide +kernel
theorem dX9_note_28 : decode cX9_note 28 = .ok (.iconst 1, 1) := by decide +kernel
theorem dX9_note_29 : decode cX9_note 29 = .ok (.goto 4, 3) := by decide +kernel
theorem dX9_note_32 : decode cX9_note 32 = .ok (.iconst 0, 1) := by decide +kernel
theorem dX9_note_33 : decode cX9_note 33 = .ok (.iload_n 1, 1) := by decide +kernel
theorem dX9_note_34 : decode cX9_note 34 = .ok (.iload_n 2, 1) := by decide +kernel
theorem dX9_note_35 : decode cX9_note 35 = .ok (.invokevirtual 402, 3) := by decide +kernel
theorem dX9_note_38 : decode cX9_note 38 = .ok (.ireturn, 1) := by decide +kernel
set_option maxRecDepth 20000 in
theorem ggX9_strike_X2_add : GoodIn wsX9_strike wsX2_add := goodIn_r _ [7, 8, 9, 10, 11, 31, 32, 33, 34, 35] (by decide +kernel) (by decide +kernel)
set_option maxRecDepth 20000 in
theorem gX9_strike_X2_add : GoodIn wsX9_strike (wsV RX9 402 RX2 yX2_add wsX2_add) := goodIn_app (goodIn_of _ (by decide +kernel)) ggX9_strike_X2_add
theorem dX9_strike_0 : decode cX9_strike 0 = .ok (.iload_n 1, 1) := by decide +kernel
theorem dX9_strike_1 : decode cX9_strike 1 = .ok (.ifCond .lt 14, 3) := by decide +kernel
theorem dX9_strike_4 : decode cX9_strike 4 = .ok (.iload_n 1, 1) := by decide +kernel
theorem dX9_strike_5 : decode cX9_strike 5 = .ok (.aload_n 0, 1) := by decide +kernel
theorem dX9_strike_6 : decode cX9_strike 6 = .ok (.getfield 33, 3) := by decide +kernel
theorem dX9_strike_9 : decode cX9_strike 9 = .ok (.getfield 247, 3) := by decide +kernel
theorem dX9_strike_12 : decode cX9_strike 12 = .ok (.if_icmp .lt 5, 3) := by decide +kernel
theorem dX9_strike_15 : decode cX9_strike 15 = .ok (.iconst (-1), 1) := by decide +kernel
theorem dX9_strike_16 : decode cX9_strike 16 = .ok (.ireturn, 1) := by decide +kernel
theorem dX9_strike_17 : decode cX9_strike 17 = .ok (.aload_n 0, 1) := by decide +kernel
theorem dX9_strike_18 : decode cX9_strike 18 = .ok (.getfield 33, 3) := by decide +kernel
theorem dX9_strike_21 : decode cX9_strike 21 = .ok (.iconst 2, 1) := by decide +kernel
theorem dX9_strike_22 : decode cX9_strike 22 = .ok (.iload_n 1, 1) := by decide +kernel
theorem dX9_strike_23 : decode cX9_strike 23 = .ok (.iconst 0, 1) := by decide +kernel
theorem dX9_strike_24 : decode cX9_strike 24 = .ok (.invokevirtual 402, 3) := by decide +kernel
theorem dX9_strike_27 : decode cX9_strike 27 = .ok (.ireturn, 1) := by decide +kernel
theorem dX9_known_0 : decode cX9_known 0 = .ok (.iload_n 1, 1) := by decide +kernel
theorem dX9_known_1 : decode cX9_known 1 = .ok (.iconst (-1), 1) := by decide +kernel
theorem dX9_known_2 : decode cX9_known 2 = .ok (.if_icmp .lt 14, 3) := by decide +kernel
theorem dX9_known_5 : decode cX9_known 5 = .ok (.iload_n 1, 1) := by decide +kernel
theorem dX9_known_6 : decode cX9_known 6 = .ok (.aload_n 0, 1) := by decide +kernel
theorem dX9_known_7 : decode cX9_known 7 = .ok (.getfield 33, 3) := by decide +kernel
theorem dX9_known_10 : decode cX9_known 10 = .ok (.getfield 247, 3) := by decide +kernel
theorem dX9_known_13 : decode cX9_known 13 = .ok (.if_icmp .le 5, 3) := by decide +kernel
theorem dX9_known_16 : decode cX9_known 16 = .ok (.iconst 0, 1) := by decide +kernel
theorem dX9_known_17 : decode cX9_known 17 = .ok (.ireturn, 1) := by decide +kernel
theorem dX9_known_18 : decode cX9_known 18 = .ok (.aload_n 0, 1) := by decide +kernel
theorem dX9_known_19 : decode cX9_known 19 = .ok (.getfield 33, 3) := by decide +kernel
theorem dX9_known_22 : decode cX9_known 22 = .ok (.iload_n 1, 1) := by decide +kernel
theorem dX9_known_23 : decode cX9_known 23 = .ok (.putfield 405, 3) := by decide +kernel
theorem dX9_known_26 : decode cX9_known 26 = .ok (.iconst 1, 1) := by decide +kernel
theorem dX9_known_27 : decode cX9_known 27 = .ok (.ireturn, 1) := by decide +kernel
set_option maxRecDepth 20000 in
theorem ggX9_values_X9_isPlace : GoodIn wsX9_values wsX9_isPlace := goodIn_r _ [5, 6, 7, 57, 58, 59, 60, 61, 62, 63, 64, 65, 66, 67, 68, 69, 70, 71, 72, 73, 74, 75, 76, 77, 78, 79, 80, 81, 82, 83, 84, 85] (by decide +kernel) (by decide +kernel)
set_option maxRecDepth 20000 in
theorem gX9_values_X9_isPlace : GoodIn wsX9_values (wsV RX9 159 RX9 yX9_isPlace wsX9_isPlace) := goodIn_app (goodIn_of _ (by decide +kernel)) ggX9_values_X9_isPlace
set_option maxRecDepth 20000 in
theorem ggX9_values_X9_valuesOf : GoodIn wsX9_values wsX9_valuesOf := goodIn_r _ [11, 12, 13, 14, 15, 16, 17, 18, 19, 20, 21, 22, 23, 24, 25, 26, 27, 28, 29, 30, 31, 4, 32, 33, 34, 35, 36, 37, 38, 39, 40, 41, 42, 43, 44, 45, 46, 47, 48, 49, 50, 51, 52, 53, 54, 55, 56, 57, 58, 59, 60, 61, 62, 63, 64, 65, 66, 67, 68, 69, 70, 71, 72, 73, 74, 75, 86, 87, 88, 89, 90, 91, 92, 93, 94, 95, 96, 97, 98, 99, 100, 101] (by decide +kernel) (by decide +kernel)
set_option maxRecDepth 20000 in
theorem gX9_values_X9_valuesOf : GoodIn wsX9_values (wsV RX9 408 RX9 yX9_valuesOf wsX9_valuesOf) := goodIn_app (goodIn_of _ (by decide +kernel)) ggX9_values_X9_valuesOf
theorem dX9_values_0 : decode cX9_values 0 = .ok (.aload_n 0, 1) := by decide +kernel
theorem dX9_values_1 : decode cX9_values 1 = .ok (.iload_n 1, 1) := by decide +kernel
theorem dX9_values_2 : decode cX9_values 2 = .ok (.invokevirtual 159, 3) := by decide +kernel
theorem dX9_values_5 : decode cX9_values 5 = .ok (.ifCond .eq 11, 3) := by decide +kernel
theorem dX9_values_8 : decode cX9_values 8 = .ok (.aload_n 0, 1) := by decide +kernel
theorem dX9_values_9 : decode cX9_values 9 = .ok (.iload_n 1, 1) := by decide +kernel
theorem dX9_values_10 : decode cX9_values 10 = .ok (.invokevirtual 408, 3) := by decide +kernel
theorem dX9_values_13 : decode cX9_values 13 = .ok (.goto 4, 3) := by decide +kernel
theorem dX9_values_16 : decode cX9_values 16 = .ok (.iconst (-1), 1) := by decide +kernel
theorem dX9_values_17 : decode cX9_values 17 = .ok (.ireturn, 1) := by decide +kernel
set_option maxRecDepth 20000 in
theorem ggX9_valuesOf_X2_standing : GoodIn wsX9_valuesOf wsX2_standing := goodIn_r _ [9, 10, 11, 12, 13, 14, 8, 15, 16, 17, 66, 67, 68, 69, 70] (by decide +kernel) (by decide +kernel)
set_option maxRecDepth 20000 in
theorem gX9_valuesOf_X2_standing : GoodIn wsX9_valuesOf (wsV RX9 411 RX2 yX2_standing wsX2_standing) := goodIn_app (goodIn_of _ (by decide +kernel)) ggX9_valuesOf_X2_standing
set_option maxRecDepth 20000 in
theorem ggX9_valuesOf_X9_valuesByNote : GoodIn wsX9_valuesOf wsX9_valuesByNote := goodIn_r _ [22, 1, 23, 24, 25, 26, 4, 27, 28, 29, 30, 31, 32, 33, 34, 35, 36, 37, 38, 39, 40, 41, 42, 43, 44, 45, 46, 47, 48, 49, 50, 51, 52, 53, 54, 55, 56, 57, 58, 59, 60, 61, 62, 63, 64, 65, 66, 67, 68, 69, 70, 71, 72, 73, 74, 75, 76, 77, 78, 79, 80, 81] (by decide +kernel) (by decide +kernel)
set_option maxRecDepth 20000 in
theorem gX9_valuesOf_X9_valuesByNote : GoodIn wsX9_valuesOf (wsV RX9 418 RX9 yX9_valuesByNote wsX9_valuesByNote) := goodIn_app (goodIn_of _ (by decide +kernel)) ggX9_valuesOf_X9_valuesByNote
theorem dX9_valuesOf_0 : decode cX9_valuesOf 0 = .ok (.aload_n 0, 1) := by decide +kernel
theorem dX9_valuesOf_1 : decode cX9_valuesOf 1 = .ok (.getfield 33, 3) := by decide +kernel
theorem dX9_valuesOf_4 : decode cX9_valuesOf 4 = .ok (.invokevirtual 411, 3) := by decide +kernel
theorem dX9_valuesOf_7 : decode cX9_valuesOf 7 = .ok (.istore_n 2, 1) := by decide +kernel
theorem dX9_valuesOf_8 : decode cX9_valuesOf 8 = .ok (.ldc_w 414, 3) := by decide +kernel
theorem dX9_valuesOf_11 : decode cX9_valuesOf 11 = .ok (.istore_n 3, 1) := by decide +kernel
theorem dX9_valuesOf_12 : decode cX9_valuesOf 12 = .ok (.iconst 0, 1) := by decide +kernel
theorem dX9_valuesOf_13 : decode cX9_valuesOf 13 = .ok (.istore 4, 2) := by decide +kernel
theorem dX9_valuesOf_15 : decode cX9_valuesOf 15 = .ok (.iload 4, 2) := by decide +kernel
theorem dX9_valuesOf_17 : decode cX9_valuesOf 17 = .ok (.aload_n 0, 1) := by decide +kernel
theorem dX9_valuesOf_18 : decode cX9_valuesOf 18 = .ok (.getfield 33, 3) := by decide +kernel
theorem dX9_valuesOf_21 : decode cX9_valuesOf 21 = .ok (.getfield 247, 3) := by decide +kernel
theorem dX9_valuesOf_24 : decode cX9_valuesOf 24 = .ok (.if_icmp .ge 43, 3) := by decide +kernel
theorem dX9_valuesOf_27 : decode cX9_valuesOf 27 = .ok (.iload_n 2, 1) := by decide +kernel
theorem dX9_valuesOf_28 : decode cX9_valuesOf 28 = .ok (.iload 4, 2) := by decide +kernel
theorem dX9_valuesOf_30 : decode cX9_valuesOf 30 = .ok (.ishr, 1) := by decide +kernel
theorem dX9_valuesOf_31 : decode cX9_valuesOf 31 = .ok (.iconst 1, 1) := by decide +kernel
theorem dX9_valuesOf_32 : decode cX9_valuesOf 32 = .ok (.iand, 1) := by decide +kernel
theorem dX9_valuesOf_33 : decode cX9_valuesOf 33 = .ok (.iconst 1, 1) := by decide +kernel
theorem dX9_valuesOf_34 : decode cX9_valuesOf 34 = .ok (.if_icmp .ne 27, 3) := by decide +kernel
theorem dX9_valuesOf_37 : decode cX9_valuesOf 37 = .ok (.aload_n 0, 1) := by decide +kernel
theorem dX9_valuesOf_38 : decode cX9_valuesOf 38 = .ok (.getfield 33, 3) := by decide +kernel
theorem dX9_valuesOf_41 : decode cX9_valuesOf 41 = .ok (.getfield 415, 3) := by decide +kernel
theorem dX9_valuesOf_44 : decode cX9_valuesOf 44 = .ok (.iload 4, 2) := by decide +kernel
theorem dX9_valuesOf_46 : decode cX9_valuesOf 46 = .ok (.iaload, 1) := by decide +kernel
theorem dX9_valuesOf_47 : decode cX9_valuesOf 47 = .ok (.iconst 2, 1) := by decide +kernel
theorem dX9_valuesOf_48 : decode cX9_valuesOf 48 = .ok (.if_icmp .eq 13, 3) := by decide +kernel
theorem dX9_valuesOf_51 : decode cX9_valuesOf 51 = .ok (.iload_n 3, 1) := by decide +kernel
theorem dX9_valuesOf_52 : decode cX9_valuesOf 52 = .ok (.aload_n 0, 1) := by decide +kernel
theorem dX9_valuesOf_53 : decode cX9_valuesOf 53 = .ok (.iload 4, 2) := by decide +kernel
theorem dX9_valuesOf_55 : decode cX9_valuesOf 55 = .ok (.iload_n 1, 1) := by decide +kernel
theorem dX9_valuesOf_56 : decode cX9_valuesOf 56 = .ok (.invokevirtual 418, 3) := by decide +kernel
theorem dX9_valuesOf_59 : decode cX9_valuesOf 59 = .ok (.iand, 1) := by decide +kernel
theorem dX9_valuesOf_60 : decode cX9_valuesOf 60 = .ok (.istore_n 3, 1) := by decide +kernel
theorem dX9_valuesOf_61 : decode cX9_valuesOf 61 = .ok (.iinc 4 1, 3) := by decide +kernel
theorem dX9_valuesOf_64 : decode cX9_valuesOf 64 = .ok (.goto (-49), 3) := by decide +kernel
theorem dX9_valuesOf_67 : decode cX9_valuesOf 67 = .ok (.iload_n 3, 1) := by decide +kernel
theorem dX9_valuesOf_68 : decode cX9_valuesOf 68 = .ok (.ireturn, 1) := by decide +kernel
set_option maxRecDepth 20000 in
theorem ggX9_valuesByNote_X5_binWithout : GoodIn wsX9_valuesByNote wsX5_binWithout := goodIn_r _ [12, 13, 14, 15, 16, 17, 18, 19, 20, 11, 21, 22, 59, 60, 61] (by decide +kernel) (by decide +kernel)
set_option maxRecDepth 20000 in
theorem gX9_valuesByNote_X5_binWithout : GoodIn wsX9_valuesByNote (wsV RX9 389 RX5 yX5_binWithout wsX5_binWithout) := goodIn_app (goodIn_of _ (by decide +kernel)) ggX9_valuesByNote_X5_binWithout
set_option maxRecDepth 20000 in
theorem ggX9_valuesByNote_X5_binWith : GoodIn wsX9_valuesByNote wsX5_binWith := goodIn_r _ [26, 18, 19, 20, 11, 21, 22, 13, 59, 60, 61] (by decide +kernel) (by decide +kernel)
set_option maxRecDepth 20000 in
theorem gX9_valuesByNote_X5_binWith : GoodIn wsX9_valuesByNote (wsV RX9 424 RX5 yX5_binWith wsX5_binWith) := goodIn_app (goodIn_of _ (by decide +kernel)) ggX9_valuesByNote_X5_binWith
theorem dX9_valuesByNote_0 : decode cX9_valuesByNote 0 = .ok (.aload_n 0, 1) := by decide +kernel
theorem dX9_valuesByNote_1 : decode cX9_valuesByNote 1 = .ok (.getfield 33, 3) := by decide +kernel
theorem dX9_valuesByNote_4 : decode cX9_valuesByNote 4 = .ok (.getfield 421, 3) := by decide +kernel
theorem dX9_valuesByNote_7 : decode cX9_valuesByNote 7 = .ok (.iload_n 1, 1) := by decide +kernel
theorem dX9_valuesByNote_8 : decode cX9_valuesByNote 8 = .ok (.iaload, 1) := by decide +kernel
theorem dX9_valuesByNote_9 : decode cX9_valuesByNote 9 = .ok (.istore_n 3, 1) := by decide +kernel
theorem dX9_valuesByNote_10 : decode cX9_valuesByNote 10 = .ok (.aload_n 0, 1) := by decide +kernel
theorem dX9_valuesByNote_11 : decode cX9_valuesByNote 11 = .ok (.getfield 40, 3) := by decide +kernel
theorem dX9_valuesByNote_14 : decode cX9_valuesByNote 14 = .ok (.aload_n 0, 1) := by decide +kernel
theorem dX9_valuesByNote_15 : decode cX9_valuesByNote 15 = .ok (.getfield 19, 3) := by decide +kernel
theorem dX9_valuesByNote_18 : decode cX9_valuesByNote 18 = .ok (.getfield 177, 3) := by decide +kernel
theorem dX9_valuesByNote_21 : decode cX9_valuesByNote 21 = .ok (.iload_n 3, 1) := by decide +kernel
theorem dX9_valuesByNote_22 : decode cX9_valuesByNote 22 = .ok (.iload_n 2, 1) := by decide +kernel
theorem dX9_valuesByNote_23 : decode cX9_valuesByNote 23 = .ok (.invokevirtual 389, 3) := by decide +kernel
theorem dX9_valuesByNote_26 : decode cX9_valuesByNote 26 = .ok (.istore 4, 2) := by decide +kernel
theorem dX9_valuesByNote_28 : decode cX9_valuesByNote 28 = .ok (.aload_n 0, 1) := by decide +kernel
theorem dX9_valuesByNote_29 : decode cX9_valuesByNote 29 = .ok (.getfield 33, 3) := by decide +kernel
theorem dX9_valuesByNote_32 : decode cX9_valuesByNote 32 = .ok (.getfield 415, 3) := by decide +kernel
theorem dX9_valuesByNote_35 : decode cX9_valuesByNote 35 = .ok (.iload_n 1, 1) := by decide +kernel
theorem dX9_valuesByNote_36 : decode cX9_valuesByNote 36 = .ok (.iaload, 1) := by decide +kernel
theorem dX9_valuesByNote_37 : decode cX9_valuesByNote 37 = .ok (.iconst 1, 1) := by decide +kernel
theorem dX9_valuesByNote_38 : decode cX9_valuesByNote 38 = .ok (.if_icmp .ne 7, 3) := by decide +kernel
theorem dX9_valuesByNote_41 : decode cX9_valuesByNote 41 = .ok (.iconst 1, 1) := by decide +kernel
theorem dX9_valuesByNote_42 : decode cX9_valuesByNote 42 = .ok (.goto 4, 3) := by decide +kernel
theorem dX9_valuesByNote_45 : decode cX9_valuesByNote 45 = .ok (.iconst 0, 1) := by decide +kernel
theorem dX9_valuesByNote_46 : decode cX9_valuesByNote 46 = .ok (.istore 5, 2) := by decide +kernel
theorem dX9_valuesByNote_48 : decode cX9_valuesByNote 48 = .ok (.iconst 0, 1) := by decide +kernel
theorem dX9_valuesByNote_49 : decode cX9_valuesByNote 49 = .ok (.istore 6, 2) := by decide +kernel
theorem dX9_valuesByNote_51 : decode cX9_valuesByNote 51 = .ok (.iconst 0, 1) := by decide +kernel
theorem dX9_valuesByNote_52 : decode cX9_valuesByNote 52 = .ok (.istore 7, 2) := by decide +kernel
theorem dX9_valuesByNote_54 : decode cX9_valuesByNote 54 = .ok (.iload 7, 2) := by decide +kernel
theorem dX9_valuesByNote_56 : decode cX9_valuesByNote 56 = .ok (.bipush 16, 2) := by decide +kernel
theorem dX9_valuesByNote_58 : decode cX9_valuesByNote 58 = .ok (.if_icmp .ge 57, 3) := by decide +kernel
theorem dX9_valuesByNote_61 : decode cX9_valuesByNote 61 = .ok (.aload_n 0, 1) := by decide +kernel
theorem dX9_valuesByNote_62 : decode cX9_valuesByNote 62 = .ok (.getfield 40, 3) := by decide +kernel
theorem dX9_valuesByNote_65 : decode cX9_valuesByNote 65 = .ok (.iload 4, 2) := by decide +kernel
theorem dX9_valuesByNote_67 : decode cX9_valuesByNote 67 = .ok (.iload 7, 2) := by decide +kernel
theorem dX9_valuesByNote_69 : decode cX9_valuesByNote 69 = .ok (.iload_n 3, 1) := by decide +kernel
theorem dX9_valuesByNote_70 : decode cX9_valuesByNote 70 = .ok (.iload_n 2, 1) := by decide +kernel
theorem dX9_valuesByNote_71 : decode cX9_valuesByNote 71 = .ok (.invokevirtual 424, 3) := by decide +kernel
theorem dX9_valuesByNote_74 : decode cX9_valuesByNote 74 = .ok (.aload_n 0, 1) := by decide +kernel
theorem dX9_valuesByNote_75 : decode cX9_valuesByNote 75 = .ok (.getfield 33, 3) := by decide +kernel
theorem dX9_valuesByNote_78 : decode cX9_valuesByNote 78 = .ok (.getfield 427, 3) := by decide +kernel
theorem dX9_valuesByNote_81 : decode cX9_valuesByNote 81 = .ok (.iload_n 1, 1) := by decide +kernel
theorem dX9_valuesByNote_82 : decode cX9_valuesByNote 82 = .ok (.iaload, 1) := by decide +kernel
theorem dX9_valuesByNote_83 : decode cX9_valuesByNote 83 = .ok (.if_icmp .lt 7, 3) := by decide +kernel
theorem dX9_valuesByNote_86 : decode cX9_valuesByNote 86 = .ok (.iconst 1, 1) := by decide +kernel
theorem dX9_valuesByNote_87 : decode cX9_valuesByNote 87 = .ok (.goto 4, 3) := by decide +kernel
theorem dX9_valuesByNote_90 : decode cX9_valuesByNote 90 = .ok (.iconst 0, 1) := by decide +kernel
theorem dX9_valuesByNote_91 : decode cX9_valuesByNote 91 = .ok (.istore 8, 2) := by decide +kernel
theorem dX9_valuesByNote_93 : decode cX9_valuesByNote 93 = .ok (.iload 8, 2) := by decide +kernel
theorem dX9_valuesByNote_95 : decode cX9_valuesByNote 95 = .ok (.iload 5, 2) := by decide +kernel
theorem dX9_valuesByNote_97 : decode cX9_valuesByNote 97 = .ok (.if_icmp .ne 12, 3) := by decide +kernel
theorem dX9_valuesByNote_100 : decode cX9_valuesByNote 100 = .ok (.iload 6, 2) := by decide +kernel
theorem dX9_valuesByNote_102 : decode cX9_valuesByNote 102 = .ok (.iconst 1, 1) := by decide +kernel
theorem dX9_valuesByNote_103 : decode cX9_valuesByNote 103 = .ok (.iload 7, 2) := by decide +kernel
theorem dX9_valuesByNote_105 : decode cX9_valuesByNote 105 = .ok (.ishl, 1) := by decide +kernel
theorem dX9_valuesByNote_106 : decode cX9_valuesByNote 106 = .ok (.ior, 1) := by decide +kernel
theorem dX9_valuesByNote_107 : decode cX9_valuesByNote 107 = .ok (.istore 6, 2) := by decide +kernel
theorem dX9_valuesByNote_109 : decode cX9_valuesByNote 109 = .ok (.iinc 7 1, 3) := by decide +kernel
theorem dX9_valuesByNote_112 : decode cX9_valuesByNote 112 = .ok (.goto (-58), 3) := by decide +kernel
theorem dX9_valuesByNote_115 : decode cX9_valuesByNote 115 = .ok (.iload 6, 2) := by decide +kernel
theorem dX9_valuesByNote_117 : decode cX9_valuesByNote 117 = .ok (.ireturn, 1) := by decide +kernel
set_option maxRecDepth 20000 in
theorem ggX9_ask_X9_isPlace : GoodIn wsX9_ask wsX9_isPlace := goodIn_r _ [12, 1, 2, 73, 74, 75, 76, 77, 78, 79, 80, 81, 82, 83, 84, 85, 86, 87, 88, 89, 90, 91, 92, 93, 94, 95, 96, 97, 98, 99, 100, 101] (by decide +kernel) (by decide +kernel)
set_option maxRecDepth 20000 in
theorem gX9_ask_X9_isPlace : GoodIn wsX9_ask (wsV RX9 159 RX9 yX9_isPlace wsX9_isPlace) := goodIn_app (goodIn_of _ (by decide +kernel)) ggX9_ask_X9_isPlace
set_option maxRecDepth 20000 in
theorem ggX9_ask_X9_valuesOf : GoodIn wsX9_ask wsX9_valuesOf := goodIn_r _ [16, 17, 18, 19, 20, 21, 22, 23, 24, 25, 26, 27, 28, 29, 30, 31, 32, 33, 34, 35, 36, 11, 37, 38, 39, 40, 41, 42, 43, 44, 45, 46, 47, 48, 49, 50, 51, 52, 53, 54, 55, 56, 57, 58, 59, 60, 61, 73, 74, 75, 76, 77, 78, 79, 80, 81, 82, 83, 84, 85, 86, 87, 88, 89, 90, 91, 102, 103, 104, 105, 106, 107, 108, 109, 110, 111, 112, 113, 114, 115, 116, 117] (by decide +kernel) (by decide +kernel)
set_option maxRecDepth 20000 in
theorem gX9_ask_X9_valuesOf : GoodIn wsX9_ask (wsV RX9 408 RX9 yX9_valuesOf wsX9_valuesOf) := goodIn_app (goodIn_of _ (by decide +kernel)) ggX9_ask_X9_valuesOf
set_option maxRecDepth 20000 in
theorem ggX9_ask_J6_bitCount_0f7a4 : GoodIn wsX9_ask wsJ6_bitCount_0f7a4 := goodIn_r _ [65, 66, 67, 68] (by decide +kernel) (by decide +kernel)
set_option maxRecDepth 20000 in
theorem gX9_ask_J6_bitCount_0f7a4 : GoodIn wsX9_ask (va_wsS RX9 430 yJ6_bitCount_0f7a4 wsJ6_bitCount_0f7a4) := goodIn_app (goodIn_of _ (by decide +kernel)) ggX9_ask_J6_bitCount_0f7a4
set_option maxRecDepth 20000 in
theorem ggX9_ask_X9_tallyBins : GoodIn wsX9_ask wsX9_tallyBins := goodIn_r _ [72, 3, 39, 40, 41, 43, 44, 45, 46, 47, 48, 49, 50, 51, 52, 53, 54, 55, 56, 57, 58, 59, 60, 61, 73, 74, 75, 76, 77, 78, 79, 80, 81, 82, 83, 84, 85, 86, 87, 88, 89, 90, 91, 107, 108, 109, 110, 111, 112, 113, 114, 115, 116, 117] (by decide +kernel) (by decide +kernel)
set_option maxRecDepth 20000 in
theorem gX9_ask_X9_tallyBins : GoodIn wsX9_ask (wsV RX9 433 RX9 yX9_tallyBins wsX9_tallyBins) := goodIn_app (goodIn_of _ (by decide +kernel)) ggX9_ask_X9_tallyBins
theorem dX9_ask_0 : decode cX9_ask 0 = .ok (.aload_n 0, 1) := by decide +kernel
theorem dX9_ask_1 : decode cX9_ask 1 = .ok (.iload_n 1, 1) := by decide +kernel
theorem dX9_ask_2 : decode cX9_ask 2 = .ok (.invokevirtual 159, 3) := by decide +kernel
theorem dX9_ask_5 : decode cX9_ask 5 = .ok (.ifCond .eq 12, 3) := by decide +kernel
theorem dX9_ask_8 : decode cX9_ask 8 = .ok (.iload_n 2, 1) := by decide +kernel
theorem dX9_ask_9 : decode cX9_ask 9 = .ok (.ifCond .lt 8, 3) := by decide +kernel
theorem dX9_ask_12 : decode cX9_ask 12 = .ok (.iload_n 2, 1) := by decide +kernel
theorem dX9_ask_13 : decode cX9_ask 13 = .ok (.iconst 2, 1) := by decide +kernel
theorem dX9_ask_14 : decode cX9_ask 14 = .ok (.if_icmp .le 5, 3) := by decide +kernel
theorem dX9_ask_17 : decode cX9_ask 17 = .ok (.iconst (-1), 1) := by decide +kernel
theorem dX9_ask_18 : decode cX9_ask 18 = .ok (.ireturn, 1) := by decide +kernel
theorem dX9_ask_19 : decode cX9_ask 19 = .ok (.aload_n 0, 1) := by decide +kernel
theorem dX9_ask_20 : decode cX9_ask 20 = .ok (.iload_n 1, 1) := by decide +kernel
theorem dX9_ask_21 : decode cX9_ask 21 = .ok (.invokevirtual 408, 3) := by decide +kernel
theorem dX9_ask_24 : decode cX9_ask 24 = .ok (.istore_n 3, 1) := by decide +kernel
theorem dX9_ask_25 : decode cX9_ask 25 = .ok (.iload_n 3, 1) := by decide +kernel
theorem dX9_ask_26 : decode cX9_ask 26 = .ok (.invokestatic 430, 3) := by decide +kernel
theorem dX9_ask_29 : decode cX9_ask 29 = .ok (.istore 4, 2) := by decide +kernel
theorem dX9_ask_31 : decode cX9_ask 31 = .ok (.iconst 0, 1) := by decide +kernel
theorem dX9_ask_32 : decode cX9_ask 32 = .ok (.istore 5, 2) := by decide +kernel
theorem dX9_ask_34 : decode cX9_ask 34 = .ok (.iconst 1, 1) := by decide +kernel
theorem dX9_ask_35 : decode cX9_ask 35 = .ok (.istore 6, 2) := by decide +kernel
theorem dX9_ask_37 : decode cX9_ask 37 = .ok (.iload 4, 2) := by decide +kernel
theorem dX9_ask_39 : decode cX9_ask 39 = .ok (.istore 7, 2) := by decide +kernel
theorem dX9_ask_41 : decode cX9_ask 41 = .ok (.iconst 0, 1) := by decide +kernel
theorem dX9_ask_42 : decode cX9_ask 42 = .ok (.istore 8, 2) := by decide +kernel
theorem dX9_ask_44 : decode cX9_ask 44 = .ok (.iload 8, 2) := by decide +kernel
theorem dX9_ask_46 : decode cX9_ask 46 = .ok (.aload_n 0, 1) := by decide +kernel
theorem dX9_ask_47 : decode cX9_ask 47 = .ok (.getfield 10, 3) := by decide +kernel
theorem dX9_ask_50 : decode cX9_ask 50 = .ok (.getfield 115, 3) := by decide +kernel
theorem dX9_ask_53 : decode cX9_ask 53 = .ok (.if_icmp .ge 82, 3) := by decide +kernel
theorem dX9_ask_56 : decode cX9_ask 56 = .ok (.aload_n 0, 1) := by decide +kernel
theorem dX9_ask_57 : decode cX9_ask 57 = .ok (.iload_n 3, 1) := by decide +kernel
theorem dX9_ask_58 : decode cX9_ask 58 = .ok (.iload 8, 2) := by decide +kernel
theorem dX9_ask_60 : decode cX9_ask 60 = .ok (.iload_n 1, 1) := by decide +kernel
theorem dX9_ask_61 : decode cX9_ask 61 = .ok (.invokevirtual 433, 3) := by decide +kernel
theorem dX9_ask_64 : decode cX9_ask 64 = .ok (.iload 4, 2) := by decide +kernel
theorem dX9_ask_66 : decode cX9_ask 66 = .ok (.istore 9, 2) := by decide +kernel
theorem dX9_ask_68 : decode cX9_ask 68 = .ok (.iconst 1, 1) := by decide +kernel
theorem dX9_ask_69 : decode cX9_ask 69 = .ok (.istore 10, 2) := by decide +kernel
theorem dX9_ask_71 : decode cX9_ask 71 = .ok (.iload 10, 2) := by decide +kernel
theorem dX9_ask_73 : decode cX9_ask 73 = .ok (.bipush 97, 2) := by decide +kernel
theorem dX9_ask_75 : decode cX9_ask 75 = .ok (.if_icmp .ge 54, 3) := by decide +kernel
theorem dX9_ask_78 : decode cX9_ask 78 = .ok (.iload 9, 2) := by decide +kernel
theorem dX9_ask_80 : decode cX9_ask 80 = .ok (.aload_n 0, 1) := by decide +kernel
theorem dX9_ask_81 : decode cX9_ask 81 = .ok (.getfield 90, 3) := by decide +kernel
theorem dX9_ask_84 : decode cX9_ask 84 = .ok (.iload 10, 2) := by decide +kernel
theorem dX9_ask_86 : decode cX9_ask 86 = .ok (.iconst 1, 1) := by decide +kernel
theorem dX9_ask_87 : decode cX9_ask 87 = .ok (.isub, 1) := by decide +kernel
theorem dX9_ask_88 : decode cX9_ask 88 = .ok (.iaload, 1) := by decide +kernel
theorem dX9_ask_89 : decode cX9_ask 89 = .ok (.isub, 1) := by decide +kernel
theorem dX9_ask_90 : decode cX9_ask 90 = .ok (.istore 9, 2) := by decide +kernel
theorem dX9_ask_92 : decode cX9_ask 92 = .ok (.iload 9, 2) := by decide +kernel
theorem dX9_ask_94 : decode cX9_ask 94 = .ok (.iload 4, 2) := by decide +kernel
theorem dX9_ask_96 : decode cX9_ask 96 = .ok (.iload 9, 2) := by decide +kernel
theorem dX9_ask_98 : decode cX9_ask 98 = .ok (.isub, 1) := by decide +kernel
theorem dX9_ask_99 : decode cX9_ask 99 = .ok (.invokestatic 346, 3) := by decide +kernel
theorem dX9_ask_102 : decode cX9_ask 102 = .ok (.istore 11, 2) := by decide +kernel
theorem dX9_ask_104 : decode cX9_ask 104 = .ok (.iload 11, 2) := by decide +kernel
theorem dX9_ask_106 : decode cX9_ask 106 = .ok (.iload 7, 2) := by decide +kernel
theorem dX9_ask_108 : decode cX9_ask 108 = .ok (.if_icmp .ge 15, 3) := by decide +kernel
theorem dX9_ask_111 : decode cX9_ask 111 = .ok (.iload 11, 2) := by decide +kernel
theorem dX9_ask_113 : decode cX9_ask 113 = .ok (.istore 7, 2) := by decide +kernel
theorem dX9_ask_115 : decode cX9_ask 115 = .ok (.iload 8, 2) := by decide +kernel
theorem dX9_ask_117 : decode cX9_ask 117 = .ok (.istore 5, 2) := by decide +kernel
theorem dX9_ask_119 : decode cX9_ask 119 = .ok (.iload 10, 2) := by decide +kernel
theorem dX9_ask_121 : decode cX9_ask 121 = .ok (.istore 6, 2) := by decide +kernel
theorem dX9_ask_123 : decode cX9_ask 123 = .ok (.iinc 10 1, 3) := by decide +kernel
theorem dX9_ask_126 : decode cX9_ask 126 = .ok (.goto (-55), 3) := by decide +kernel
theorem dX9_ask_129 : decode cX9_ask 129 = .ok (.iinc 8 1, 3) := by decide +kernel
theorem dX9_ask_132 : decode cX9_ask 132 = .ok (.goto (-88), 3) := by decide +kernel
theorem dX9_ask_135 : decode cX9_ask 135 = .ok (.iload_n 2, 1) := by decide +kernel
theorem dX9_ask_136 : decode cX9_ask 136 = .ok (.ifCond .ne 6, 3) := by decide +kernel
theorem dX9_ask_139 : decode cX9_ask 139 = .ok (.iload 5, 2) := by decide +kernel
theorem dX9_ask_141 : decode cX9_ask 141 = .ok (.ireturn, 1) := by decide +kernel
theorem dX9_ask_142 : decode cX9_ask 142 = .ok (.iload_n 2, 1) := by decide +kernel
theorem dX9_ask_143 : decode cX9_ask 143 = .ok (.iconst 1, 1) := by decide +kernel
theorem dX9_ask_144 : decode cX9_ask 144 = .ok (.if_icmp .ne 8, 3) := by decide +kernel
theorem dX9_ask_147 : decode cX9_ask 147 = .ok (.iload 6, 2) := by decide +kernel
theorem dX9_ask_149 : decode cX9_ask 149 = .ok (.goto 5, 3) := by decide +kernel
theorem dX9_ask_152 : decode cX9_ask 152 = .ok (.iload 7, 2) := by decide +kernel
theorem dX9_ask_154 : decode cX9_ask 154 = .ok (.ireturn, 1) := by decide +kernel
set_option maxRecDepth 20000 in
theorem ggX9_tallyBins_X5_binWithout : GoodIn wsX9_tallyBins wsX5_binWithout := goodIn_r _ [9, 10, 11, 12, 13, 14, 15, 16, 17, 8, 18, 19, 51, 52, 53] (by decide +kernel) (by decide +kernel)
set_option maxRecDepth 20000 in
theorem gX9_tallyBins_X5_binWithout : GoodIn wsX9_tallyBins (wsV RX9 389 RX5 yX5_binWithout wsX5_binWithout) := goodIn_app (goodIn_of _ (by decide +kernel)) ggX9_tallyBins_X5_binWithout
set_option maxRecDepth 20000 in
theorem ggX9_tallyBins_X5_binWith : GoodIn wsX9_tallyBins wsX5_binWith := goodIn_r _ [23, 15, 16, 17, 8, 18, 19, 10, 51, 52, 53] (by decide +kernel) (by decide +kernel)
set_option maxRecDepth 20000 in
theorem gX9_tallyBins_X5_binWith : GoodIn wsX9_tallyBins (wsV RX9 424 RX5 yX5_binWith wsX5_binWith) := goodIn_app (goodIn_of _ (by decide +kernel)) ggX9_tallyBins_X5_binWith
theorem dX9_tallyBins_0 : decode cX9_tallyBins 0 = .ok (.iconst 0, 1) := by decide +kernel
theorem dX9_tallyBins_1 : decode cX9_tallyBins 1 = .ok (.istore 4, 2) := by decide +kernel
theorem dX9_tallyBins_3 : decode cX9_tallyBins 3 = .ok (.iload 4, 2) := by decide +kernel
theorem dX9_tallyBins_5 : decode cX9_tallyBins 5 = .ok (.bipush 97, 2) := by decide +kernel
theorem dX9_tallyBins_7 : decode cX9_tallyBins 7 = .ok (.if_icmp .ge 17, 3) := by decide +kernel
theorem dX9_tallyBins_10 : decode cX9_tallyBins 10 = .ok (.aload_n 0, 1) := by decide +kernel
theorem dX9_tallyBins_11 : decode cX9_tallyBins 11 = .ok (.getfield 90, 3) := by decide +kernel
theorem dX9_tallyBins_14 : decode cX9_tallyBins 14 = .ok (.iload 4, 2) := by decide +kernel
theorem dX9_tallyBins_16 : decode cX9_tallyBins 16 = .ok (.iconst 0, 1) := by decide +kernel
theorem dX9_tallyBins_17 : decode cX9_tallyBins 17 = .ok (.iastore, 1) := by decide +kernel
theorem dX9_tallyBins_18 : decode cX9_tallyBins 18 = .ok (.iinc 4 1, 3) := by decide +kernel
theorem dX9_tallyBins_21 : decode cX9_tallyBins 21 = .ok (.goto (-18), 3) := by decide +kernel
theorem dX9_tallyBins_24 : decode cX9_tallyBins 24 = .ok (.aload_n 0, 1) := by decide +kernel
theorem dX9_tallyBins_25 : decode cX9_tallyBins 25 = .ok (.getfield 40, 3) := by decide +kernel
theorem dX9_tallyBins_28 : decode cX9_tallyBins 28 = .ok (.aload_n 0, 1) := by decide +kernel
theorem dX9_tallyBins_29 : decode cX9_tallyBins 29 = .ok (.getfield 19, 3) := by decide +kernel
theorem dX9_tallyBins_32 : decode cX9_tallyBins 32 = .ok (.getfield 177, 3) := by decide +kernel
theorem dX9_tallyBins_35 : decode cX9_tallyBins 35 = .ok (.iload_n 2, 1) := by decide +kernel
theorem dX9_tallyBins_36 : decode cX9_tallyBins 36 = .ok (.iload_n 3, 1) := by decide +kernel
theorem dX9_tallyBins_37 : decode cX9_tallyBins 37 = .ok (.invokevirtual 389, 3) := by decide +kernel
theorem dX9_tallyBins_40 : decode cX9_tallyBins 40 = .ok (.istore 4, 2) := by decide +kernel
theorem dX9_tallyBins_42 : decode cX9_tallyBins 42 = .ok (.iconst 0, 1) := by decide +kernel
theorem dX9_tallyBins_43 : decode cX9_tallyBins 43 = .ok (.istore 5, 2) := by decide +kernel
theorem dX9_tallyBins_45 : decode cX9_tallyBins 45 = .ok (.iload 5, 2) := by decide +kernel
theorem dX9_tallyBins_47 : decode cX9_tallyBins 47 = .ok (.bipush 16, 2) := by decide +kernel
theorem dX9_tallyBins_49 : decode cX9_tallyBins 49 = .ok (.if_icmp .ge 41, 3) := by decide +kernel
theorem dX9_tallyBins_52 : decode cX9_tallyBins 52 = .ok (.iload_n 1, 1) := by decide +kernel
theorem dX9_tallyBins_53 : decode cX9_tallyBins 53 = .ok (.iload 5, 2) := by decide +kernel
theorem dX9_tallyBins_55 : decode cX9_tallyBins 55 = .ok (.ishr, 1) := by decide +kernel
theorem dX9_tallyBins_56 : decode cX9_tallyBins 56 = .ok (.iconst 1, 1) := by decide +kernel
theorem dX9_tallyBins_57 : decode cX9_tallyBins 57 = .ok (.iand, 1) := by decide +kernel
theorem dX9_tallyBins_58 : decode cX9_tallyBins 58 = .ok (.iconst 1, 1) := by decide +kernel
theorem dX9_tallyBins_59 : decode cX9_tallyBins 59 = .ok (.if_icmp .ne 25, 3) := by decide +kernel
theorem dX9_tallyBins_62 : decode cX9_tallyBins 62 = .ok (.aload_n 0, 1) := by decide +kernel
theorem dX9_tallyBins_63 : decode cX9_tallyBins 63 = .ok (.getfield 90, 3) := by decide +kernel
theorem dX9_tallyBins_66 : decode cX9_tallyBins 66 = .ok (.aload_n 0, 1) := by decide +kernel
theorem dX9_tallyBins_67 : decode cX9_tallyBins 67 = .ok (.getfield 40, 3) := by decide +kernel
theorem dX9_tallyBins_70 : decode cX9_tallyBins 70 = .ok (.iload 4, 2) := by decide +kernel
theorem dX9_tallyBins_72 : decode cX9_tallyBins 72 = .ok (.iload 5, 2) := by decide +kernel
theorem dX9_tallyBins_74 : decode cX9_tallyBins 74 = .ok (.iload_n 2, 1) := by decide +kernel
theorem dX9_tallyBins_75 : decode cX9_tallyBins 75 = .ok (.iload_n 3, 1) := by decide +kernel
theorem dX9_tallyBins_76 : decode cX9_tallyBins 76 = .ok (.invokevirtual 424, 3) := by decide +kernel
theorem dX9_tallyBins_79 : decode cX9_tallyBins 79 = .ok (.dup2, 1) := by decide +kernel
theorem dX9_tallyBins_80 : decode cX9_tallyBins 80 = .ok (.iaload, 1) := by decide +kernel
theorem dX9_tallyBins_81 : decode cX9_tallyBins 81 = .ok (.iconst 1, 1) := by decide +kernel
theorem dX9_tallyBins_82 : decode cX9_tallyBins 82 = .ok (.iadd, 1) := by decide +kernel
theorem dX9_tallyBins_83 : decode cX9_tallyBins 83 = .ok (.iastore, 1) := by decide +kernel
theorem dX9_tallyBins_84 : decode cX9_tallyBins 84 = .ok (.iinc 5 1, 3) := by decide +kernel
theorem dX9_tallyBins_87 : decode cX9_tallyBins 87 = .ok (.goto (-42), 3) := by decide +kernel
theorem dX9_tallyBins_90 : decode cX9_tallyBins 90 = .ok (.return_, 1) := by decide +kernel
set_option maxRecDepth 20000 in
theorem ggX9_undo_X3_recall : GoodIn wsX9_undo wsX3_recall := goodIn_r _ [8, 9, 10, 11, 12, 13, 14, 15, 16, 17, 18, 19, 20, 21, 22, 23, 24, 25, 26, 27, 28, 48, 49, 50, 51, 52, 53, 54, 55, 56, 57, 58] (by decide +kernel) (by decide +kernel)
set_option maxRecDepth 20000 in
theorem gX9_undo_X3_recall : GoodIn wsX9_undo (wsV RX9 437 RX3 yX3_recall wsX3_recall) := goodIn_app (goodIn_of _ (by decide +kernel)) ggX9_undo_X3_recall
theorem dX9_undo_0 : decode cX9_undo 0 = .ok (.aload_n 0, 1) := by decide +kernel
theorem dX9_undo_1 : decode cX9_undo 1 = .ok (.getfield 26, 3) := by decide +kernel
theorem dX9_undo_4 : decode cX9_undo 4 = .ok (.aload_n 0, 1) := by decide +kernel
theorem dX9_undo_5 : decode cX9_undo 5 = .ok (.getfield 19, 3) := by decide +kernel
theorem dX9_undo_8 : decode cX9_undo 8 = .ok (.invokevirtual 437, 3) := by decide +kernel
theorem dX9_undo_11 : decode cX9_undo 11 = .ok (.ifCond .eq 13, 3) := by decide +kernel
theorem dX9_undo_14 : decode cX9_undo 14 = .ok (.aload_n 0, 1) := by decide +kernel
theorem dX9_undo_15 : decode cX9_undo 15 = .ok (.getfield 26, 3) := by decide +kernel
theorem dX9_undo_18 : decode cX9_undo 18 = .ok (.getfield 254, 3) := by decide +kernel
theorem dX9_undo_21 : decode cX9_undo 21 = .ok (.goto 4, 3) := by decide +kernel
theorem dX9_undo_24 : decode cX9_undo 24 = .ok (.iconst (-1), 1) := by decide +kernel
theorem dX9_undo_25 : decode cX9_undo 25 = .ok (.ireturn, 1) := by decide +kernel
set_option maxRecDepth 20000 in
theorem ggX9_keep_X7_writeTo : GoodIn wsX9_keep wsX7_writeTo := goodIn_r _ [9, 10, 11, 12, 13, 14, 15, 16, 17, 18, 19, 20, 21, 41, 42, 43, 44, 45, 46, 47, 48] (by decide +kernel) (by decide +kernel)
set_option maxRecDepth 20000 in
theorem gX9_keep_X7_writeTo : GoodIn wsX9_keep (wsV RX9 441 RX7 yX7_writeTo wsX7_writeTo) := goodIn_app (goodIn_of _ (by decide +kernel)) ggX9_keep_X7_writeTo
theorem dX9_keep_0 : decode cX9_keep 0 = .ok (.aload_n 0, 1) := by decide +kernel
theorem dX9_keep_1 : decode cX9_keep 1 = .ok (.getfield 19, 3) := by decide +kernel
theorem dX9_keep_4 : decode cX9_keep 4 = .ok (.aload_n 0, 1) := by decide +kernel
theorem dX9_keep_5 : decode cX9_keep 5 = .ok (.getfield 94, 3) := by decide +kernel
theorem dX9_keep_8 : decode cX9_keep 8 = .ok (.iconst 0, 1) := by decide +kernel
theorem dX9_keep_9 : decode cX9_keep 9 = .ok (.invokevirtual 441, 3) := by decide +kernel
theorem dX9_keep_12 : decode cX9_keep 12 = .ok (.aload_n 0, 1) := by decide +kernel
theorem dX9_keep_13 : decode cX9_keep 13 = .ok (.iconst 1, 1) := by decide +kernel
theorem dX9_keep_14 : decode cX9_keep 14 = .ok (.putfield 97, 3) := by decide +kernel
theorem dX9_keep_17 : decode cX9_keep 17 = .ok (.aload_n 0, 1) := by decide +kernel
theorem dX9_keep_18 : decode cX9_keep 18 = .ok (.getfield 19, 3) := by decide +kernel
theorem dX9_keep_21 : decode cX9_keep 21 = .ok (.getfield 206, 3) := by decide +kernel
theorem dX9_keep_24 : decode cX9_keep 24 = .ok (.ireturn, 1) := by decide +kernel
set_option maxRecDepth 20000 in
theorem ggX9_back_X7_readFrom : GoodIn wsX9_back wsX7_readFrom := goodIn_r _ [10, 11, 12, 13, 14, 15, 16, 17, 18, 19, 20, 21, 22, 48, 49, 50, 51, 52, 53, 54, 55] (by decide +kernel) (by decide +kernel)
set_option maxRecDepth 20000 in
theorem gX9_back_X7_readFrom : GoodIn wsX9_back (wsV RX9 445 RX7 yX7_readFrom wsX7_readFrom) := goodIn_app (goodIn_of _ (by decide +kernel)) ggX9_back_X7_readFrom
set_option maxRecDepth 20000 in
theorem ggX9_back_X3_forgetAll : GoodIn wsX9_back wsX3_forgetAll := goodIn_r _ [27, 28, 56, 57, 58] (by decide +kernel) (by decide +kernel)
set_option maxRecDepth 20000 in
theorem gX9_back_X3_forgetAll : GoodIn wsX9_back (wsV RX9 152 RX3 yX3_forgetAll wsX3_forgetAll) := goodIn_app (goodIn_of _ (by decide +kernel)) ggX9_back_X3_forgetAll
theorem dX9_back_0 : decode cX9_back 0 = .ok (.aload_n 0, 1) := by decide +kernel
theorem dX9_back_1 : decode cX9_back 1 = .ok (.getfield 97, 3) := by decide +kernel
theorem dX9_back_4 : decode cX9_back 4 = .ok (.ifCond .ne 5, 3) := by decide +kernel
theorem dX9_back_7 : decode cX9_back 7 = .ok (.iconst (-1), 1) := by decide +kernel
theorem dX9_back_8 : decode cX9_back 8 = .ok (.ireturn, 1) := by decide +kernel
theorem dX9_back_9 : decode cX9_back 9 = .ok (.aload_n 0, 1) := by decide +kernel
theorem dX9_back_10 : decode cX9_back 10 = .ok (.getfield 19, 3) := by decide +kernel
theorem dX9_back_13 : decode cX9_back 13 = .ok (.aload_n 0, 1) := by decide +kernel
theorem dX9_back_14 : decode cX9_back 14 = .ok (.getfield 94, 3) := by decide +kernel
theorem dX9_back_17 : decode cX9_back 17 = .ok (.iconst 0, 1) := by decide +kernel
theorem dX9_back_18 : decode cX9_back 18 = .ok (.invokevirtual 445, 3) := by decide +kernel
theorem dX9_back_21 : decode cX9_back 21 = .ok (.aload_n 0, 1) := by decide +kernel
theorem dX9_back_22 : decode cX9_back 22 = .ok (.getfield 26, 3) := by decide +kernel
theorem dX9_back_25 : decode cX9_back 25 = .ok (.invokevirtual 152, 3) := by decide +kernel
theorem dX9_back_28 : decode cX9_back 28 = .ok (.aload_n 0, 1) := by decide +kernel
theorem dX9_back_29 : decode cX9_back 29 = .ok (.getfield 19, 3) := by decide +kernel
theorem dX9_back_32 : decode cX9_back 32 = .ok (.getfield 206, 3) := by decide +kernel
theorem dX9_back_35 : decode cX9_back 35 = .ok (.ireturn, 1) := by decide +kernel
