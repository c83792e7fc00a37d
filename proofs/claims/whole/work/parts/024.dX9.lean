theorem dX9_init_0 : decode cX9_init 0 = .ok (.aload_n 0, 1) := by decide +kernel
theorem dX9_init_1 : decode cX9_init 1 = .ok (.invokespecial 1, 3) := by decide +kernel
theorem dX9_init_4 : decode cX9_init 4 = .ok (.aload_n 0, 1) := by decide +kernel
theorem dX9_init_5 : decode cX9_init 5 = .ok (.new 7, 3) := by decide +kernel
theorem dX9_init_8 : decode cX9_init 8 = .ok (.dup, 1) := by decide +kernel
theorem dX9_init_9 : decode cX9_init 9 = .ok (.invokespecial 9, 3) := by decide +kernel
theorem dX9_init_12 : decode cX9_init 12 = .ok (.putfield 10, 3) := by decide +kernel
theorem dX9_init_15 : decode cX9_init 15 = .ok (.aload_n 0, 1) := by decide +kernel
theorem dX9_init_16 : decode cX9_init 16 = .ok (.new 16, 3) := by decide +kernel
theorem dX9_init_19 : decode cX9_init 19 = .ok (.dup, 1) := by decide +kernel
theorem dX9_init_20 : decode cX9_init 20 = .ok (.invokespecial 18, 3) := by decide +kernel
theorem dX9_init_23 : decode cX9_init 23 = .ok (.putfield 19, 3) := by decide +kernel
theorem dX9_init_26 : decode cX9_init 26 = .ok (.aload_n 0, 1) := by decide +kernel
theorem dX9_init_27 : decode cX9_init 27 = .ok (.new 23, 3) := by decide +kernel
theorem dX9_init_30 : decode cX9_init 30 = .ok (.dup, 1) := by decide +kernel
theorem dX9_init_31 : decode cX9_init 31 = .ok (.invokespecial 25, 3) := by decide +kernel
theorem dX9_init_34 : decode cX9_init 34 = .ok (.putfield 26, 3) := by decide +kernel
theorem dX9_init_37 : decode cX9_init 37 = .ok (.aload_n 0, 1) := by decide +kernel
theorem dX9_init_38 : decode cX9_init 38 = .ok (.new 30, 3) := by decide +kernel
theorem dX9_init_41 : decode cX9_init 41 = .ok (.dup, 1) := by decide +kernel
theorem dX9_init_42 : decode cX9_init 42 = .ok (.invokespecial 32, 3) := by decide +kernel
theorem dX9_init_45 : decode cX9_init 45 = .ok (.putfield 33, 3) := by decide +kernel
theorem dX9_init_48 : decode cX9_init 48 = .ok (.aload_n 0, 1) := by decide +kernel
theorem dX9_init_49 : decode cX9_init 49 = .ok (.new 37, 3) := by decide +kernel
theorem dX9_init_52 : decode cX9_init 52 = .ok (.dup, 1) := by decide +kernel
theorem dX9_init_53 : decode cX9_init 53 = .ok (.invokespecial 39, 3) := by decide +kernel
theorem dX9_init_56 : decode cX9_init 56 = .ok (.putfield 40, 3) := by decide +kernel
theorem dX9_init_59 : decode cX9_init 59 = .ok (.aload_n 0, 1) := by decide +kernel
theorem dX9_init_60 : decode cX9_init 60 = .ok (.new 44, 3) := by decide +kernel
theorem dX9_init_63 : decode cX9_init 63 = .ok (.dup, 1) := by decide +kernel
theorem dX9_init_64 : decode cX9_init 64 = .ok (.invokespecial 46, 3) := by decide +kernel
theorem dX9_init_67 : decode cX9_init 67 = .ok (.putfield 47, 3) := by decide +kernel
theorem dX9_init_70 : decode cX9_init 70 = .ok (.aload_n 0, 1) := by decide +kernel
theorem dX9_init_71 : decode cX9_init 71 = .ok (.new 51, 3) := by decide +kernel
theorem dX9_init_74 : decode cX9_init 74 = .ok (.dup, 1) := by decide +kernel
theorem dX9_init_75 : decode cX9_init 75 = .ok (.aload_n 0, 1) := by decide +kernel
theorem dX9_init_76 : decode cX9_init 76 = .ok (.getfield 47, 3) := by decide +kernel
theorem dX9_init_79 : decode cX9_init 79 = .ok (.invokespecial 53, 3) := by decide +kernel
theorem dX9_init_82 : decode cX9_init 82 = .ok (.putfield 56, 3) := by decide +kernel
theorem dX9_init_85 : decode cX9_init 85 = .ok (.aload_n 0, 1) := by decide +kernel
theorem dX9_init_86 : decode cX9_init 86 = .ok (.new 60, 3) := by decide +kernel
theorem dX9_init_89 : decode cX9_init 89 = .ok (.dup, 1) := by decide +kernel
theorem dX9_init_90 : decode cX9_init 90 = .ok (.invokespecial 62, 3) := by decide +kernel
theorem dX9_init_93 : decode cX9_init 93 = .ok (.putfield 63, 3) := by decide +kernel
theorem dX9_init_96 : decode cX9_init 96 = .ok (.aload_n 0, 1) := by decide +kernel
theorem dX9_init_97 : decode cX9_init 97 = .ok (.new 67, 3) := by decide +kernel
theorem dX9_init_100 : decode cX9_init 100 = .ok (.dup, 1) := by decide +kernel
theorem dX9_init_101 : decode cX9_init 101 = .ok (.invokespecial 69, 3) := by decide +kernel
theorem dX9_init_104 : decode cX9_init 104 = .ok (.putfield 70, 3) := by decide +kernel
theorem dX9_init_107 : decode cX9_init 107 = .ok (.aload_n 0, 1) := by decide +kernel
theorem dX9_init_108 : decode cX9_init 108 = .ok (.new 7, 3) := by decide +kernel
theorem dX9_init_111 : decode cX9_init 111 = .ok (.dup, 1) := by decide +kernel
theorem dX9_init_112 : decode cX9_init 112 = .ok (.invokespecial 9, 3) := by decide +kernel
theorem dX9_init_115 : decode cX9_init 115 = .ok (.putfield 74, 3) := by decide +kernel
theorem dX9_init_118 : decode cX9_init 118 = .ok (.aload_n 0, 1) := by decide +kernel
theorem dX9_init_119 : decode cX9_init 119 = .ok (.new 16, 3) := by decide +kernel
theorem dX9_init_122 : decode cX9_init 122 = .ok (.dup, 1) := by decide +kernel
theorem dX9_init_123 : decode cX9_init 123 = .ok (.invokespecial 18, 3) := by decide +kernel
theorem dX9_init_126 : decode cX9_init 126 = .ok (.putfield 77, 3) := by decide +kernel
theorem dX9_init_129 : decode cX9_init 129 = .ok (.aload_n 0, 1) := by decide +kernel
theorem dX9_init_130 : decode cX9_init 130 = .ok (.new 16, 3) := by decide +kernel
theorem dX9_init_133 : decode cX9_init 133 = .ok (.dup, 1) := by decide +kernel
theorem dX9_init_134 : decode cX9_init 134 = .ok (.invokespecial 18, 3) := by decide +kernel
theorem dX9_init_137 : decode cX9_init 137 = .ok (.putfield 80, 3) := by decide +kernel
theorem dX9_init_140 : decode cX9_init 140 = .ok (.aload_n 0, 1) := by decide +kernel
theorem dX9_init_141 : decode cX9_init 141 = .ok (.bipush 32, 2) := by decide +kernel
theorem dX9_init_143 : decode cX9_init 143 = .ok (.newarray .long, 2) := by decide +kernel
theorem dX9_init_145 : decode cX9_init 145 = .ok (.putfield 83, 3) := by decide +kernel
theorem dX9_init_148 : decode cX9_init 148 = .ok (.aload_n 0, 1) := by decide +kernel
theorem dX9_init_149 : decode cX9_init 149 = .ok (.bipush 32, 2) := by decide +kernel
theorem dX9_init_151 : decode cX9_init 151 = .ok (.newarray .long, 2) := by decide +kernel
theorem dX9_init_153 : decode cX9_init 153 = .ok (.putfield 87, 3) := by decide +kernel
theorem dX9_init_156 : decode cX9_init 156 = .ok (.aload_n 0, 1) := by decide +kernel
theorem dX9_init_157 : decode cX9_init 157 = .ok (.bipush 97, 2) := by decide +kernel
theorem dX9_init_159 : decode cX9_init 159 = .ok (.newarray .int, 2) := by decide +kernel
theorem dX9_init_161 : decode cX9_init 161 = .ok (.putfield 90, 3) := by decide +kernel
theorem dX9_init_164 : decode cX9_init 164 = .ok (.aload_n 0, 1) := by decide +kernel
theorem dX9_init_165 : decode cX9_init 165 = .ok (.sipush 136, 3) := by decide +kernel
theorem dX9_init_168 : decode cX9_init 168 = .ok (.newarray .int, 2) := by decide +kernel
theorem dX9_init_170 : decode cX9_init 170 = .ok (.putfield 94, 3) := by decide +kernel
theorem dX9_init_173 : decode cX9_init 173 = .ok (.aload_n 0, 1) := by decide +kernel
theorem dX9_init_174 : decode cX9_init 174 = .ok (.iconst 0, 1) := by decide +kernel
theorem dX9_init_175 : decode cX9_init 175 = .ok (.putfield 97, 3) := by decide +kernel
theorem dX9_init_178 : decode cX9_init 178 = .ok (.aload_n 0, 1) := by decide +kernel
theorem dX9_init_179 : decode cX9_init 179 = .ok (.sipush 700, 3) := by decide +kernel
theorem dX9_init_182 : decode cX9_init 182 = .ok (.newarray .int, 2) := by decide +kernel
theorem dX9_init_184 : decode cX9_init 184 = .ok (.putfield 101, 3) := by decide +kernel
theorem dX9_init_187 : decode cX9_init 187 = .ok (.aload_n 0, 1) := by decide +kernel
theorem dX9_init_188 : decode cX9_init 188 = .ok (.iconst 0, 1) := by decide +kernel
theorem dX9_init_189 : decode cX9_init 189 = .ok (.putfield 104, 3) := by decide +kernel
theorem dX9_init_192 : decode cX9_init 192 = .ok (.aload_n 0, 1) := by decide +kernel
theorem dX9_init_193 : decode cX9_init 193 = .ok (.getfield 47, 3) := by decide +kernel
theorem dX9_init_196 : decode cX9_init 196 = .ok (.aload_n 0, 1) := by decide +kernel
theorem dX9_init_197 : decode cX9_init 197 = .ok (.getfield 10, 3) := by decide +kernel
theorem dX9_init_200 : decode cX9_init 200 = .ok (.getfield 108, 3) := by decide +kernel
theorem dX9_init_203 : decode cX9_init 203 = .ok (.invokevirtual 111, 3) := by decide +kernel
theorem dX9_init_206 : decode cX9_init 206 = .ok (.aload_n 0, 1) := by decide +kernel
theorem dX9_init_207 : decode cX9_init 207 = .ok (.getfield 40, 3) := by decide +kernel
theorem dX9_init_210 : decode cX9_init 210 = .ok (.aload_n 0, 1) := by decide +kernel
theorem dX9_init_211 : decode cX9_init 211 = .ok (.getfield 10, 3) := by decide +kernel
theorem dX9_init_214 : decode cX9_init 214 = .ok (.getfield 115, 3) := by decide +kernel
theorem dX9_init_217 : decode cX9_init 217 = .ok (.aload_n 0, 1) := by decide +kernel
theorem dX9_init_218 : decode cX9_init 218 = .ok (.getfield 10, 3) := by decide +kernel
theorem dX9_init_221 : decode cX9_init 221 = .ok (.getfield 108, 3) := by decide +kernel
theorem dX9_init_224 : decode cX9_init 224 = .ok (.invokevirtual 118, 3) := by decide +kernel
theorem dX9_init_227 : decode cX9_init 227 = .ok (.return_, 1) := by decide +kernel
theorem dX9_feed_0 : decode cX9_feed 0 = .ok (.aload_n 0, 1) := by decide +kernel
theorem dX9_feed_1 : decode cX9_feed 1 = .ok (.getfield 104, 3) := by decide +kernel
theorem dX9_feed_4 : decode cX9_feed 4 = .ok (.bipush 20, 2) := by decide +kernel
theorem dX9_feed_6 : decode cX9_feed 6 = .ok (.iadd, 1) := by decide +kernel
theorem dX9_feed_7 : decode cX9_feed 7 = .ok (.sipush 700, 3) := by decide +kernel
theorem dX9_feed_10 : decode cX9_feed 10 = .ok (.if_icmp .le 5, 3) := by decide +kernel
theorem dX9_feed_13 : decode cX9_feed 13 = .ok (.iconst (-1), 1) := by decide +kernel
theorem dX9_feed_14 : decode cX9_feed 14 = .ok (.ireturn, 1) := by decide +kernel
theorem dX9_feed_15 : decode cX9_feed 15 = .ok (.aload_n 0, 1) := by decide +kernel
theorem dX9_feed_16 : decode cX9_feed 16 = .ok (.iload_n 1, 1) := by decide +kernel
theorem dX9_feed_17 : decode cX9_feed 17 = .ok (.invokevirtual 121, 3) := by decide +kernel
theorem dX9_feed_20 : decode cX9_feed 20 = .ok (.aload_n 0, 1) := by decide +kernel
theorem dX9_feed_21 : decode cX9_feed 21 = .ok (.iload_n 2, 1) := by decide +kernel
theorem dX9_feed_22 : decode cX9_feed 22 = .ok (.invokevirtual 121, 3) := by decide +kernel
theorem dX9_feed_25 : decode cX9_feed 25 = .ok (.aload_n 0, 1) := by decide +kernel
theorem dX9_feed_26 : decode cX9_feed 26 = .ok (.iload_n 3, 1) := by decide +kernel
theorem dX9_feed_27 : decode cX9_feed 27 = .ok (.invokevirtual 121, 3) := by decide +kernel
theorem dX9_feed_30 : decode cX9_feed 30 = .ok (.aload_n 0, 1) := by decide +kernel
theorem dX9_feed_31 : decode cX9_feed 31 = .ok (.iload 4, 2) := by decide +kernel
theorem dX9_feed_33 : decode cX9_feed 33 = .ok (.invokevirtual 121, 3) := by decide +kernel
theorem dX9_feed_36 : decode cX9_feed 36 = .ok (.aload_n 0, 1) := by decide +kernel
theorem dX9_feed_37 : decode cX9_feed 37 = .ok (.iload 5, 2) := by decide +kernel
theorem dX9_feed_39 : decode cX9_feed 39 = .ok (.invokevirtual 121, 3) := by decide +kernel
theorem dX9_feed_42 : decode cX9_feed 42 = .ok (.aload_n 0, 1) := by decide +kernel
theorem dX9_feed_43 : decode cX9_feed 43 = .ok (.getfield 104, 3) := by decide +kernel
theorem dX9_feed_46 : decode cX9_feed 46 = .ok (.ireturn, 1) := by decide +kernel
theorem dX9_layDown_0 : decode cX9_layDown 0 = .ok (.bipush 24, 2) := by decide +kernel
theorem dX9_layDown_2 : decode cX9_layDown 2 = .ok (.istore_n 2, 1) := by decide +kernel
theorem dX9_layDown_3 : decode cX9_layDown 3 = .ok (.iload_n 2, 1) := by decide +kernel
theorem dX9_layDown_4 : decode cX9_layDown 4 = .ok (.ifCond .lt 45, 3) := by decide +kernel
theorem dX9_layDown_7 : decode cX9_layDown 7 = .ok (.aload_n 0, 1) := by decide +kernel
theorem dX9_layDown_8 : decode cX9_layDown 8 = .ok (.getfield 104, 3) := by decide +kernel
theorem dX9_layDown_11 : decode cX9_layDown 11 = .ok (.sipush 700, 3) := by decide +kernel
theorem dX9_layDown_14 : decode cX9_layDown 14 = .ok (.if_icmp .ge 29, 3) := by decide +kernel
theorem dX9_layDown_17 : decode cX9_layDown 17 = .ok (.aload_n 0, 1) := by decide +kernel
theorem dX9_layDown_18 : decode cX9_layDown 18 = .ok (.getfield 101, 3) := by decide +kernel
theorem dX9_layDown_21 : decode cX9_layDown 21 = .ok (.aload_n 0, 1) := by decide +kernel
theorem dX9_layDown_22 : decode cX9_layDown 22 = .ok (.getfield 104, 3) := by decide +kernel
theorem dX9_layDown_25 : decode cX9_layDown 25 = .ok (.iload_n 1, 1) := by decide +kernel
theorem dX9_layDown_26 : decode cX9_layDown 26 = .ok (.iload_n 2, 1) := by decide +kernel
theorem dX9_layDown_27 : decode cX9_layDown 27 = .ok (.iushr, 1) := by decide +kernel
theorem dX9_layDown_28 : decode cX9_layDown 28 = .ok (.sipush 255, 3) := by decide +kernel
theorem dX9_layDown_31 : decode cX9_layDown 31 = .ok (.iand, 1) := by decide +kernel
theorem dX9_layDown_32 : decode cX9_layDown 32 = .ok (.iastore, 1) := by decide +kernel
theorem dX9_layDown_33 : decode cX9_layDown 33 = .ok (.aload_n 0, 1) := by decide +kernel
theorem dX9_layDown_34 : decode cX9_layDown 34 = .ok (.dup, 1) := by decide +kernel
theorem dX9_layDown_35 : decode cX9_layDown 35 = .ok (.getfield 104, 3) := by decide +kernel
theorem dX9_layDown_38 : decode cX9_layDown 38 = .ok (.iconst 1, 1) := by decide +kernel
theorem dX9_layDown_39 : decode cX9_layDown 39 = .ok (.iadd, 1) := by decide +kernel
theorem dX9_layDown_40 : decode cX9_layDown 40 = .ok (.putfield 104, 3) := by decide +kernel
theorem dX9_layDown_43 : decode cX9_layDown 43 = .ok (.iinc 2 (-8), 3) := by decide +kernel
theorem dX9_layDown_46 : decode cX9_layDown 46 = .ok (.goto (-43), 3) := by decide +kernel
theorem dX9_layDown_49 : decode cX9_layDown 49 = .ok (.return_, 1) := by decide +kernel
theorem dX9_text_0 : decode cX9_text 0 = .ok (.iload_n 1, 1) := by decide +kernel
theorem dX9_text_1 : decode cX9_text 1 = .ok (.ifCond .lt 11, 3) := by decide +kernel
theorem dX9_text_4 : decode cX9_text 4 = .ok (.iload_n 1, 1) := by decide +kernel
theorem dX9_text_5 : decode cX9_text 5 = .ok (.aload_n 0, 1) := by decide +kernel
theorem dX9_text_6 : decode cX9_text 6 = .ok (.getfield 104, 3) := by decide +kernel
theorem dX9_text_9 : decode cX9_text 9 = .ok (.if_icmp .le 6, 3) := by decide +kernel
theorem dX9_text_12 : decode cX9_text 12 = .ok (.bipush (-2), 2) := by decide +kernel
theorem dX9_text_14 : decode cX9_text 14 = .ok (.ireturn, 1) := by decide +kernel
theorem dX9_text_15 : decode cX9_text 15 = .ok (.aload_n 0, 1) := by decide +kernel
theorem dX9_text_16 : decode cX9_text 16 = .ok (.getfield 63, 3) := by decide +kernel
theorem dX9_text_19 : decode cX9_text 19 = .ok (.aload_n 0, 1) := by decide +kernel
theorem dX9_text_20 : decode cX9_text 20 = .ok (.getfield 101, 3) := by decide +kernel
theorem dX9_text_23 : decode cX9_text 23 = .ok (.iload_n 1, 1) := by decide +kernel
theorem dX9_text_24 : decode cX9_text 24 = .ok (.invokevirtual 124, 3) := by decide +kernel
theorem dX9_text_27 : decode cX9_text 27 = .ok (.istore_n 2, 1) := by decide +kernel
theorem dX9_text_28 : decode cX9_text 28 = .ok (.aload_n 0, 1) := by decide +kernel
theorem dX9_text_29 : decode cX9_text 29 = .ok (.iconst 0, 1) := by decide +kernel
theorem dX9_text_30 : decode cX9_text 30 = .ok (.putfield 104, 3) := by decide +kernel
theorem dX9_text_33 : decode cX9_text 33 = .ok (.iload_n 2, 1) := by decide +kernel
theorem dX9_text_34 : decode cX9_text 34 = .ok (.iconst (-1), 1) := by decide +kernel
theorem dX9_text_35 : decode cX9_text 35 = .ok (.if_icmp .eq 7, 3) := by decide +kernel
theorem dX9_text_38 : decode cX9_text 38 = .ok (.aload_n 0, 1) := by decide +kernel
theorem dX9_text_39 : decode cX9_text 39 = .ok (.invokevirtual 128, 3) := by decide +kernel
theorem dX9_text_42 : decode cX9_text 42 = .ok (.iload_n 2, 1) := by decide +kernel
theorem dX9_text_43 : decode cX9_text 43 = .ok (.ireturn, 1) := by decide +kernel
theorem dX9_takeOver_0 : decode cX9_takeOver 0 = .ok (.aload_n 0, 1) := by decide +kernel
theorem dX9_takeOver_1 : decode cX9_takeOver 1 = .ok (.getfield 10, 3) := by decide +kernel
theorem dX9_takeOver_4 : decode cX9_takeOver 4 = .ok (.aload_n 0, 1) := by decide +kernel
theorem dX9_takeOver_5 : decode cX9_takeOver 5 = .ok (.getfield 63, 3) := by decide +kernel
theorem dX9_takeOver_8 : decode cX9_takeOver 8 = .ok (.getfield 131, 3) := by decide +kernel
theorem dX9_takeOver_11 : decode cX9_takeOver 11 = .ok (.invokevirtual 132, 3) := by decide +kernel
theorem dX9_takeOver_14 : decode cX9_takeOver 14 = .ok (.aload_n 0, 1) := by decide +kernel
theorem dX9_takeOver_15 : decode cX9_takeOver 15 = .ok (.getfield 47, 3) := by decide +kernel
theorem dX9_takeOver_18 : decode cX9_takeOver 18 = .ok (.aload_n 0, 1) := by decide +kernel
theorem dX9_takeOver_19 : decode cX9_takeOver 19 = .ok (.getfield 10, 3) := by decide +kernel
theorem dX9_takeOver_22 : decode cX9_takeOver 22 = .ok (.getfield 108, 3) := by decide +kernel
theorem dX9_takeOver_25 : decode cX9_takeOver 25 = .ok (.invokevirtual 111, 3) := by decide +kernel
theorem dX9_takeOver_28 : decode cX9_takeOver 28 = .ok (.aload_n 0, 1) := by decide +kernel
theorem dX9_takeOver_29 : decode cX9_takeOver 29 = .ok (.getfield 40, 3) := by decide +kernel
theorem dX9_takeOver_32 : decode cX9_takeOver 32 = .ok (.aload_n 0, 1) := by decide +kernel
theorem dX9_takeOver_33 : decode cX9_takeOver 33 = .ok (.getfield 10, 3) := by decide +kernel
theorem dX9_takeOver_36 : decode cX9_takeOver 36 = .ok (.getfield 115, 3) := by decide +kernel
theorem dX9_takeOver_39 : decode cX9_takeOver 39 = .ok (.aload_n 0, 1) := by decide +kernel
theorem dX9_takeOver_40 : decode cX9_takeOver 40 = .ok (.getfield 10, 3) := by decide +kernel
theorem dX9_takeOver_43 : decode cX9_takeOver 43 = .ok (.getfield 108, 3) := by decide +kernel
theorem dX9_takeOver_46 : decode cX9_takeOver 46 = .ok (.invokevirtual 118, 3) := by decide +kernel
theorem dX9_takeOver_49 : decode cX9_takeOver 49 = .ok (.aload_n 0, 1) := by decide +kernel
theorem dX9_takeOver_50 : decode cX9_takeOver 50 = .ok (.getfield 19, 3) := by decide +kernel
theorem dX9_takeOver_53 : decode cX9_takeOver 53 = .ok (.aload_n 0, 1) := by decide +kernel
theorem dX9_takeOver_54 : decode cX9_takeOver 54 = .ok (.getfield 63, 3) := by decide +kernel
theorem dX9_takeOver_57 : decode cX9_takeOver 57 = .ok (.getfield 136, 3) := by decide +kernel
theorem dX9_takeOver_60 : decode cX9_takeOver 60 = .ok (.aload_n 0, 1) := by decide +kernel
theorem dX9_takeOver_61 : decode cX9_takeOver 61 = .ok (.getfield 63, 3) := by decide +kernel
theorem dX9_takeOver_64 : decode cX9_takeOver 64 = .ok (.getfield 139, 3) := by decide +kernel
theorem dX9_takeOver_67 : decode cX9_takeOver 67 = .ok (.invokevirtual 142, 3) := by decide +kernel
theorem dX9_takeOver_70 : decode cX9_takeOver 70 = .ok (.aload_n 0, 1) := by decide +kernel
theorem dX9_takeOver_71 : decode cX9_takeOver 71 = .ok (.getfield 19, 3) := by decide +kernel
theorem dX9_takeOver_74 : decode cX9_takeOver 74 = .ok (.invokevirtual 146, 3) := by decide +kernel
theorem dX9_takeOver_77 : decode cX9_takeOver 77 = .ok (.aload_n 0, 1) := by decide +kernel
theorem dX9_takeOver_78 : decode cX9_takeOver 78 = .ok (.getfield 33, 3) := by decide +kernel
theorem dX9_takeOver_81 : decode cX9_takeOver 81 = .ok (.invokevirtual 149, 3) := by decide +kernel
theorem dX9_takeOver_84 : decode cX9_takeOver 84 = .ok (.aload_n 0, 1) := by decide +kernel
theorem dX9_takeOver_85 : decode cX9_takeOver 85 = .ok (.getfield 26, 3) := by decide +kernel
theorem dX9_takeOver_88 : decode cX9_takeOver 88 = .ok (.invokevirtual 152, 3) := by decide +kernel
theorem dX9_takeOver_91 : decode cX9_takeOver 91 = .ok (.aload_n 0, 1) := by decide +kernel
theorem dX9_takeOver_92 : decode cX9_takeOver 92 = .ok (.iconst 0, 1) := by decide +kernel
theorem dX9_takeOver_93 : decode cX9_takeOver 93 = .ok (.putfield 97, 3) := by decide +kernel
theorem dX9_takeOver_96 : decode cX9_takeOver 96 = .ok (.return_, 1) := by decide +kernel
theorem dX9_fault_0 : decode cX9_fault 0 = .ok (.iload_n 1, 1) := by decide +kernel
theorem dX9_fault_1 : decode cX9_fault 1 = .ok (.ifCond .ne 11, 3) := by decide +kernel
theorem dX9_fault_4 : decode cX9_fault 4 = .ok (.aload_n 0, 1) := by decide +kernel
theorem dX9_fault_5 : decode cX9_fault 5 = .ok (.getfield 63, 3) := by decide +kernel
theorem dX9_fault_8 : decode cX9_fault 8 = .ok (.getfield 153, 3) := by decide +kernel
theorem dX9_fault_11 : decode cX9_fault 11 = .ok (.ireturn, 1) := by decide +kernel
theorem dX9_fault_12 : decode cX9_fault 12 = .ok (.iload_n 1, 1) := by decide +kernel
theorem dX9_fault_13 : decode cX9_fault 13 = .ok (.iconst 1, 1) := by decide +kernel
theorem dX9_fault_14 : decode cX9_fault 14 = .ok (.if_icmp .ne 13, 3) := by decide +kernel
theorem dX9_fault_17 : decode cX9_fault 17 = .ok (.aload_n 0, 1) := by decide +kernel
theorem dX9_fault_18 : decode cX9_fault 18 = .ok (.getfield 63, 3) := by decide +kernel
theorem dX9_fault_21 : decode cX9_fault 21 = .ok (.getfield 156, 3) := by decide +kernel
theorem dX9_fault_24 : decode cX9_fault 24 = .ok (.goto 4, 3) := by decide +kernel
theorem dX9_fault_27 : decode cX9_fault 27 = .ok (.iconst (-1), 1) := by decide +kernel
theorem dX9_fault_28 : decode cX9_fault 28 = .ok (.ireturn, 1) := by decide +kernel
theorem dX9_point_0 : decode cX9_point 0 = .ok (.aload_n 0, 1) := by decide +kernel
theorem dX9_point_1 : decode cX9_point 1 = .ok (.iload_n 1, 1) := by decide +kernel
theorem dX9_point_2 : decode cX9_point 2 = .ok (.invokevirtual 159, 3) := by decide +kernel
theorem dX9_point_5 : decode cX9_point 5 = .ok (.ifCond .ne 13, 3) := by decide +kernel
theorem dX9_point_8 : decode cX9_point 8 = .ok (.new 163, 3) := by decide +kernel
theorem dX9_point_11 : decode cX9_point 11 = .ok (.dup, 1) := by decide +kernel
theorem dX9_point_12 : decode cX9_point 12 = .ok (.ldc 165, 2) := by decide +kernel
theorem dX9_point_14 : decode cX9_point 14 = .ok (.invokespecial 167, 3) := by decide +kernel
theorem dX9_point_17 : decode cX9_point 17 = .ok (.athrow, 1) := by decide +kernel
theorem dX9_point_18 : decode cX9_point 18 = .ok (.iload_n 2, 1) := by decide +kernel
theorem dX9_point_19 : decode cX9_point 19 = .ok (.ifCond .lt 8, 3) := by decide +kernel
theorem dX9_point_22 : decode cX9_point 22 = .ok (.iload_n 2, 1) := by decide +kernel
theorem dX9_point_23 : decode cX9_point 23 = .ok (.iconst 3, 1) := by decide +kernel
theorem dX9_point_24 : decode cX9_point 24 = .ok (.if_icmp .le 13, 3) := by decide +kernel
theorem dX9_point_27 : decode cX9_point 27 = .ok (.new 170, 3) := by decide +kernel
theorem dX9_point_30 : decode cX9_point 30 = .ok (.dup, 1) := by decide +kernel
theorem dX9_point_31 : decode cX9_point 31 = .ok (.ldc 172, 2) := by decide +kernel
theorem dX9_point_33 : decode cX9_point 33 = .ok (.invokespecial 174, 3) := by decide +kernel
theorem dX9_point_36 : decode cX9_point 36 = .ok (.athrow, 1) := by decide +kernel
theorem dX9_point_37 : decode cX9_point 37 = .ok (.iload_n 2, 1) := by decide +kernel
theorem dX9_point_38 : decode cX9_point 38 = .ok (.ifCond .ne 13, 3) := by decide +kernel
theorem dX9_point_41 : decode cX9_point 41 = .ok (.aload_n 0, 1) := by decide +kernel
theorem dX9_point_42 : decode cX9_point 42 = .ok (.getfield 19, 3) := by decide +kernel
theorem dX9_point_45 : decode cX9_point 45 = .ok (.getfield 175, 3) := by decide +kernel
theorem dX9_point_48 : decode cX9_point 48 = .ok (.iload_n 1, 1) := by decide +kernel
theorem dX9_point_49 : decode cX9_point 49 = .ok (.iaload, 1) := by decide +kernel
theorem dX9_point_50 : decode cX9_point 50 = .ok (.ireturn, 1) := by decide +kernel
theorem dX9_point_51 : decode cX9_point 51 = .ok (.iload_n 2, 1) := by decide +kernel
theorem dX9_point_52 : decode cX9_point 52 = .ok (.iconst 1, 1) := by decide +kernel
theorem dX9_point_53 : decode cX9_point 53 = .ok (.if_icmp .ne 13, 3) := by decide +kernel
theorem dX9_point_56 : decode cX9_point 56 = .ok (.aload_n 0, 1) := by decide +kernel
theorem dX9_point_57 : decode cX9_point 57 = .ok (.getfield 19, 3) := by decide +kernel
theorem dX9_point_60 : decode cX9_point 60 = .ok (.getfield 176, 3) := by decide +kernel
theorem dX9_point_63 : decode cX9_point 63 = .ok (.iload_n 1, 1) := by decide +kernel
theorem dX9_point_64 : decode cX9_point 64 = .ok (.iaload, 1) := by decide +kernel
theorem dX9_point_65 : decode cX9_point 65 = .ok (.ireturn, 1) := by decide +kernel
theorem dX9_point_66 : decode cX9_point 66 = .ok (.iload_n 2, 1) := by decide +kernel
theorem dX9_point_67 : decode cX9_point 67 = .ok (.iconst 2, 1) := by decide +kernel
theorem dX9_point_68 : decode cX9_point 68 = .ok (.if_icmp .ne 15, 3) := by decide +kernel
theorem dX9_point_71 : decode cX9_point 71 = .ok (.aload_n 0, 1) := by decide +kernel
theorem dX9_point_72 : decode cX9_point 72 = .ok (.getfield 19, 3) := by decide +kernel
theorem dX9_point_75 : decode cX9_point 75 = .ok (.getfield 177, 3) := by decide +kernel
theorem dX9_point_78 : decode cX9_point 78 = .ok (.iload_n 1, 1) := by decide +kernel
theorem dX9_point_79 : decode cX9_point 79 = .ok (.iaload, 1) := by decide +kernel
theorem dX9_point_80 : decode cX9_point 80 = .ok (.goto 12, 3) := by decide +kernel
theorem dX9_point_83 : decode cX9_point 83 = .ok (.aload_n 0, 1) := by decide +kernel
theorem dX9_point_84 : decode cX9_point 84 = .ok (.getfield 19, 3) := by decide +kernel
theorem dX9_point_87 : decode cX9_point 87 = .ok (.getfield 180, 3) := by decide +kernel
theorem dX9_point_90 : decode cX9_point 90 = .ok (.iload_n 1, 1) := by decide +kernel
theorem dX9_point_91 : decode cX9_point 91 = .ok (.iaload, 1) := by decide +kernel
theorem dX9_point_92 : decode cX9_point 92 = .ok (.ireturn, 1) := by decide +kernel
theorem dX9_turn_0 : decode cX9_turn 0 = .ok (.aload_n 0, 1) := by decide +kernel
theorem dX9_turn_1 : decode cX9_turn 1 = .ok (.iload_n 1, 1) := by decide +kernel
theorem dX9_turn_2 : decode cX9_turn 2 = .ok (.invokevirtual 159, 3) := by decide +kernel
theorem dX9_turn_5 : decode cX9_turn 5 = .ok (.ifCond .eq 12, 3) := by decide +kernel
theorem dX9_turn_8 : decode cX9_turn 8 = .ok (.iload_n 2, 1) := by decide +kernel
theorem dX9_turn_9 : decode cX9_turn 9 = .ok (.ifCond .lt 8, 3) := by decide +kernel
theorem dX9_turn_12 : decode cX9_turn 12 = .ok (.iload_n 2, 1) := by decide +kernel
theorem dX9_turn_13 : decode cX9_turn 13 = .ok (.iconst 1, 1) := by decide +kernel
theorem dX9_turn_14 : decode cX9_turn 14 = .ok (.if_icmp .le 6, 3) := by decide +kernel
theorem dX9_turn_17 : decode cX9_turn 17 = .ok (.ldc 185, 2) := by decide +kernel
theorem dX9_turn_19 : decode cX9_turn 19 = .ok (.ireturn, 1) := by decide +kernel
theorem dX9_turn_20 : decode cX9_turn 20 = .ok (.iload_n 2, 1) := by decide +kernel
theorem dX9_turn_21 : decode cX9_turn 21 = .ok (.ifCond .ne 15, 3) := by decide +kernel
theorem dX9_turn_24 : decode cX9_turn 24 = .ok (.aload_n 0, 1) := by decide +kernel
theorem dX9_turn_25 : decode cX9_turn 25 = .ok (.getfield 47, 3) := by decide +kernel
theorem dX9_turn_28 : decode cX9_turn 28 = .ok (.getfield 186, 3) := by decide +kernel
theorem dX9_turn_31 : decode cX9_turn 31 = .ok (.iload_n 1, 1) := by decide +kernel
theorem dX9_turn_32 : decode cX9_turn 32 = .ok (.iaload, 1) := by decide +kernel
theorem dX9_turn_33 : decode cX9_turn 33 = .ok (.goto 13, 3) := by decide +kernel
theorem dX9_turn_36 : decode cX9_turn 36 = .ok (.aload_n 0, 1) := by decide +kernel
theorem dX9_turn_37 : decode cX9_turn 37 = .ok (.getfield 47, 3) := by decide +kernel
theorem dX9_turn_40 : decode cX9_turn 40 = .ok (.getfield 189, 3) := by decide +kernel
theorem dX9_turn_43 : decode cX9_turn 43 = .ok (.iload_n 1, 1) := by decide +kernel
theorem dX9_turn_44 : decode cX9_turn 44 = .ok (.iaload, 1) := by decide +kernel
theorem dX9_turn_45 : decode cX9_turn 45 = .ok (.ineg, 1) := by decide +kernel
theorem dX9_turn_46 : decode cX9_turn 46 = .ok (.ireturn, 1) := by decide +kernel
theorem dX9_reversed_0 : decode cX9_reversed 0 = .ok (.aload_n 0, 1) := by decide +kernel
theorem dX9_reversed_1 : decode cX9_reversed 1 = .ok (.iload_n 1, 1) := by decide +kernel
theorem dX9_reversed_2 : decode cX9_reversed 2 = .ok (.invokevirtual 159, 3) := by decide +kernel
theorem dX9_reversed_5 : decode cX9_reversed 5 = .ok (.ifCond .eq 14, 3) := by decide +kernel
theorem dX9_reversed_8 : decode cX9_reversed 8 = .ok (.aload_n 0, 1) := by decide +kernel
theorem dX9_reversed_9 : decode cX9_reversed 9 = .ok (.getfield 10, 3) := by decide +kernel
theorem dX9_reversed_12 : decode cX9_reversed 12 = .ok (.iload_n 1, 1) := by decide +kernel
theorem dX9_reversed_13 : decode cX9_reversed 13 = .ok (.invokevirtual 192, 3) := by decide +kernel
theorem dX9_reversed_16 : decode cX9_reversed 16 = .ok (.goto 4, 3) := by decide +kernel
theorem dX9_reversed_19 : decode cX9_reversed 19 = .ok (.iconst (-1), 1) := by decide +kernel
theorem dX9_reversed_20 : decode cX9_reversed 20 = .ok (.ireturn, 1) := by decide +kernel
theorem dX9_digit_0 : decode cX9_digit 0 = .ok (.aload_n 0, 1) := by decide +kernel
theorem dX9_digit_1 : decode cX9_digit 1 = .ok (.iload_n 1, 1) := by decide +kernel
theorem dX9_digit_2 : decode cX9_digit 2 = .ok (.invokevirtual 159, 3) := by decide +kernel
theorem dX9_digit_5 : decode cX9_digit 5 = .ok (.ifCond .eq 18, 3) := by decide +kernel
theorem dX9_digit_8 : decode cX9_digit 8 = .ok (.iload_n 2, 1) := by decide +kernel
theorem dX9_digit_9 : decode cX9_digit 9 = .ok (.ifCond .lt 14, 3) := by decide +kernel
theorem dX9_digit_12 : decode cX9_digit 12 = .ok (.iload_n 2, 1) := by decide +kernel
theorem dX9_digit_13 : decode cX9_digit 13 = .ok (.aload_n 0, 1) := by decide +kernel
theorem dX9_digit_14 : decode cX9_digit 14 = .ok (.getfield 10, 3) := by decide +kernel
theorem dX9_digit_17 : decode cX9_digit 17 = .ok (.getfield 196, 3) := by decide +kernel
theorem dX9_digit_20 : decode cX9_digit 20 = .ok (.if_icmp .lt 5, 3) := by decide +kernel
theorem dX9_digit_23 : decode cX9_digit 23 = .ok (.iconst (-1), 1) := by decide +kernel
theorem dX9_digit_24 : decode cX9_digit 24 = .ok (.ireturn, 1) := by decide +kernel
theorem dX9_digit_25 : decode cX9_digit 25 = .ok (.aload_n 0, 1) := by decide +kernel
theorem dX9_digit_26 : decode cX9_digit 26 = .ok (.getfield 10, 3) := by decide +kernel
theorem dX9_digit_29 : decode cX9_digit 29 = .ok (.iload_n 1, 1) := by decide +kernel
theorem dX9_digit_30 : decode cX9_digit 30 = .ok (.iload_n 2, 1) := by decide +kernel
theorem dX9_digit_31 : decode cX9_digit 31 = .ok (.invokevirtual 199, 3) := by decide +kernel
theorem dX9_digit_34 : decode cX9_digit 34 = .ok (.ireturn, 1) := by decide +kernel
theorem dX9_stage_0 : decode cX9_stage 0 = .ok (.iload_n 1, 1) := by decide +kernel
theorem dX9_stage_1 : decode cX9_stage 1 = .ok (.ifCond .lt 23, 3) := by decide +kernel
theorem dX9_stage_4 : decode cX9_stage 4 = .ok (.iload_n 1, 1) := by decide +kernel
theorem dX9_stage_5 : decode cX9_stage 5 = .ok (.aload_n 0, 1) := by decide +kernel
theorem dX9_stage_6 : decode cX9_stage 6 = .ok (.getfield 10, 3) := by decide +kernel
theorem dX9_stage_9 : decode cX9_stage 9 = .ok (.getfield 196, 3) := by decide +kernel
theorem dX9_stage_12 : decode cX9_stage 12 = .ok (.if_icmp .ge 12, 3) := by decide +kernel
theorem dX9_stage_15 : decode cX9_stage 15 = .ok (.iload_n 2, 1) := by decide +kernel
theorem dX9_stage_16 : decode cX9_stage 16 = .ok (.ifCond .lt 8, 3) := by decide +kernel
theorem dX9_stage_19 : decode cX9_stage 19 = .ok (.iload_n 2, 1) := by decide +kernel
theorem dX9_stage_20 : decode cX9_stage 20 = .ok (.iconst 1, 1) := by decide +kernel
theorem dX9_stage_21 : decode cX9_stage 21 = .ok (.if_icmp .le 5, 3) := by decide +kernel
theorem dX9_stage_24 : decode cX9_stage 24 = .ok (.iconst (-1), 1) := by decide +kernel
theorem dX9_stage_25 : decode cX9_stage 25 = .ok (.ireturn, 1) := by decide +kernel
theorem dX9_stage_26 : decode cX9_stage 26 = .ok (.iload_n 2, 1) := by decide +kernel
theorem dX9_stage_27 : decode cX9_stage 27 = .ok (.ifCond .ne 15, 3) := by decide +kernel
theorem dX9_stage_30 : decode cX9_stage 30 = .ok (.iconst 1, 1) := by decide +kernel
theorem dX9_stage_31 : decode cX9_stage 31 = .ok (.aload_n 0, 1) := by decide +kernel
theorem dX9_stage_32 : decode cX9_stage 32 = .ok (.getfield 10, 3) := by decide +kernel
theorem dX9_stage_35 : decode cX9_stage 35 = .ok (.getfield 203, 3) := by decide +kernel
theorem dX9_stage_38 : decode cX9_stage 38 = .ok (.iload_n 1, 1) := by decide +kernel
theorem dX9_stage_39 : decode cX9_stage 39 = .ok (.iaload, 1) := by decide +kernel
theorem dX9_stage_40 : decode cX9_stage 40 = .ok (.ishl, 1) := by decide +kernel
theorem dX9_stage_41 : decode cX9_stage 41 = .ok (.ireturn, 1) := by decide +kernel
theorem dX9_stage_42 : decode cX9_stage 42 = .ok (.iload_n 1, 1) := by decide +kernel
theorem dX9_stage_43 : decode cX9_stage 43 = .ok (.aload_n 0, 1) := by decide +kernel
theorem dX9_stage_44 : decode cX9_stage 44 = .ok (.getfield 19, 3) := by decide +kernel
theorem dX9_stage_47 : decode cX9_stage 47 = .ok (.getfield 206, 3) := by decide +kernel
theorem dX9_stage_50 : decode cX9_stage 50 = .ok (.if_icmp .ge 15, 3) := by decide +kernel
theorem dX9_stage_53 : decode cX9_stage 53 = .ok (.aload_n 0, 1) := by decide +kernel
theorem dX9_stage_54 : decode cX9_stage 54 = .ok (.getfield 19, 3) := by decide +kernel
theorem dX9_stage_57 : decode cX9_stage 57 = .ok (.getfield 209, 3) := by decide +kernel
theorem dX9_stage_60 : decode cX9_stage 60 = .ok (.iload_n 1, 1) := by decide +kernel
theorem dX9_stage_61 : decode cX9_stage 61 = .ok (.iaload, 1) := by decide +kernel
theorem dX9_stage_62 : decode cX9_stage 62 = .ok (.goto 5, 3) := by decide +kernel
theorem dX9_stage_65 : decode cX9_stage 65 = .ok (.bipush (-2), 2) := by decide +kernel
theorem dX9_stage_67 : decode cX9_stage 67 = .ok (.ireturn, 1) := by decide +kernel
theorem dX9_largest_0 : decode cX9_largest 0 = .ok (.aload_n 0, 1) := by decide +kernel
theorem dX9_largest_1 : decode cX9_largest 1 = .ok (.getfield 19, 3) := by decide +kernel
theorem dX9_largest_4 : decode cX9_largest 4 = .ok (.iconst 0, 1) := by decide +kernel
theorem dX9_largest_5 : decode cX9_largest 5 = .ok (.aload_n 0, 1) := by decide +kernel
theorem dX9_largest_6 : decode cX9_largest 6 = .ok (.getfield 10, 3) := by decide +kernel
theorem dX9_largest_9 : decode cX9_largest 9 = .ok (.getfield 115, 3) := by decide +kernel
theorem dX9_largest_12 : decode cX9_largest 12 = .ok (.invokevirtual 212, 3) := by decide +kernel
theorem dX9_largest_15 : decode cX9_largest 15 = .ok (.ireturn, 1) := by decide +kernel
theorem dX9_left_0 : decode cX9_left 0 = .ok (.aload_n 0, 1) := by decide +kernel
theorem dX9_left_1 : decode cX9_left 1 = .ok (.aload_n 0, 1) := by decide +kernel
theorem dX9_left_2 : decode cX9_left 2 = .ok (.getfield 19, 3) := by decide +kernel
theorem dX9_left_5 : decode cX9_left 5 = .ok (.iconst 0, 1) := by decide +kernel
theorem dX9_left_6 : decode cX9_left 6 = .ok (.aload_n 0, 1) := by decide +kernel
theorem dX9_left_7 : decode cX9_left 7 = .ok (.getfield 10, 3) := by decide +kernel
theorem dX9_left_10 : decode cX9_left 10 = .ok (.getfield 115, 3) := by decide +kernel
theorem dX9_left_13 : decode cX9_left 13 = .ok (.invokevirtual 212, 3) := by decide +kernel
theorem dX9_left_16 : decode cX9_left 16 = .ok (.invokevirtual 215, 3) := by decide +kernel
theorem dX9_left_19 : decode cX9_left 19 = .ok (.ireturn, 1) := by decide +kernel
theorem dX9_room_0 : decode cX9_room 0 = .ok (.iload_n 2, 1) := by decide +kernel
theorem dX9_room_1 : decode cX9_room 1 = .ok (.iconst 2, 1) := by decide +kernel
theorem dX9_room_2 : decode cX9_room 2 = .ok (.if_icmp .eq 26, 3) := by decide +kernel
theorem dX9_room_5 : decode cX9_room 5 = .ok (.iload_n 2, 1) := by decide +kernel
theorem dX9_room_6 : decode cX9_room 6 = .ok (.iconst 4, 1) := by decide +kernel
theorem dX9_room_7 : decode cX9_room 7 = .ok (.if_icmp .eq 21, 3) := by decide +kernel
theorem dX9_room_10 : decode cX9_room 10 = .ok (.iload_n 2, 1) := by decide +kernel
theorem dX9_room_11 : decode cX9_room 11 = .ok (.bipush 8, 2) := by decide +kernel
theorem dX9_room_13 : decode cX9_room 13 = .ok (.if_icmp .eq 15, 3) := by decide +kernel
theorem dX9_room_16 : decode cX9_room 16 = .ok (.iload_n 2, 1) := by decide +kernel
theorem dX9_room_17 : decode cX9_room 17 = .ok (.bipush 16, 2) := by decide +kernel
theorem dX9_room_19 : decode cX9_room 19 = .ok (.if_icmp .eq 9, 3) := by decide +kernel
theorem dX9_room_22 : decode cX9_room 22 = .ok (.iload_n 2, 1) := by decide +kernel
theorem dX9_room_23 : decode cX9_room 23 = .ok (.bipush 32, 2) := by decide +kernel
theorem dX9_room_25 : decode cX9_room 25 = .ok (.if_icmp .ne 7, 3) := by decide +kernel
theorem dX9_room_28 : decode cX9_room 28 = .ok (.iconst 1, 1) := by decide +kernel
theorem dX9_room_29 : decode cX9_room 29 = .ok (.goto 4, 3) := by decide +kernel
theorem dX9_room_32 : decode cX9_room 32 = .ok (.iconst 0, 1) := by decide +kernel
theorem dX9_room_33 : decode cX9_room 33 = .ok (.istore_n 3, 1) := by decide +kernel
theorem dX9_room_34 : decode cX9_room 34 = .ok (.iload_n 3, 1) := by decide +kernel
theorem dX9_room_35 : decode cX9_room 35 = .ok (.ifCond .eq 24, 3) := by decide +kernel
theorem dX9_room_38 : decode cX9_room 38 = .ok (.iload_n 2, 1) := by decide +kernel
theorem dX9_room_39 : decode cX9_room 39 = .ok (.aload_n 0, 1) := by decide +kernel
theorem dX9_room_40 : decode cX9_room 40 = .ok (.getfield 10, 3) := by decide +kernel
theorem dX9_room_43 : decode cX9_room 43 = .ok (.getfield 115, 3) := by decide +kernel
theorem dX9_room_46 : decode cX9_room 46 = .ok (.if_icmp .gt 13, 3) := by decide +kernel
theorem dX9_room_49 : decode cX9_room 49 = .ok (.iload_n 1, 1) := by decide +kernel
theorem dX9_room_50 : decode cX9_room 50 = .ok (.ifCond .lt 9, 3) := by decide +kernel
theorem dX9_room_53 : decode cX9_room 53 = .ok (.iload_n 1, 1) := by decide +kernel
theorem dX9_room_54 : decode cX9_room 54 = .ok (.bipush 32, 2) := by decide +kernel
theorem dX9_room_56 : decode cX9_room 56 = .ok (.if_icmp .le 5, 3) := by decide +kernel
theorem dX9_room_59 : decode cX9_room 59 = .ok (.iconst (-1), 1) := by decide +kernel
theorem dX9_room_60 : decode cX9_room 60 = .ok (.ireturn, 1) := by decide +kernel
theorem dX9_room_61 : decode cX9_room 61 = .ok (.iload_n 1, 1) := by decide +kernel
theorem dX9_room_62 : decode cX9_room 62 = .ok (.iload_n 2, 1) := by decide +kernel
theorem dX9_room_63 : decode cX9_room 63 = .ok (.imul, 1) := by decide +kernel
theorem dX9_room_64 : decode cX9_room 64 = .ok (.istore 4, 2) := by decide +kernel
theorem dX9_room_66 : decode cX9_room 66 = .ok (.iload 4, 2) := by decide +kernel
theorem dX9_room_68 : decode cX9_room 68 = .ok (.aload_n 0, 1) := by decide +kernel
theorem dX9_room_69 : decode cX9_room 69 = .ok (.getfield 10, 3) := by decide +kernel
theorem dX9_room_72 : decode cX9_room 72 = .ok (.getfield 115, 3) := by decide +kernel
theorem dX9_room_75 : decode cX9_room 75 = .ok (.if_icmp .lt 5, 3) := by decide +kernel
theorem dX9_room_78 : decode cX9_room 78 = .ok (.iconst (-1), 1) := by decide +kernel
theorem dX9_room_79 : decode cX9_room 79 = .ok (.ireturn, 1) := by decide +kernel
theorem dX9_room_80 : decode cX9_room 80 = .ok (.aload_n 0, 1) := by decide +kernel
theorem dX9_room_81 : decode cX9_room 81 = .ok (.aload_n 0, 1) := by decide +kernel
theorem dX9_room_82 : decode cX9_room 82 = .ok (.getfield 19, 3) := by decide +kernel
theorem dX9_room_85 : decode cX9_room 85 = .ok (.iload 4, 2) := by decide +kernel
theorem dX9_room_87 : decode cX9_room 87 = .ok (.iload 4, 2) := by decide +kernel
theorem dX9_room_89 : decode cX9_room 89 = .ok (.iload_n 2, 1) := by decide +kernel
theorem dX9_room_90 : decode cX9_room 90 = .ok (.iadd, 1) := by decide +kernel
theorem dX9_room_91 : decode cX9_room 91 = .ok (.invokevirtual 212, 3) := by decide +kernel
theorem dX9_room_94 : decode cX9_room 94 = .ok (.invokevirtual 215, 3) := by decide +kernel
theorem dX9_room_97 : decode cX9_room 97 = .ok (.ireturn, 1) := by decide +kernel
theorem dX9_doublings_0 : decode cX9_doublings 0 = .ok (.iload_n 1, 1) := by decide +kernel
theorem dX9_doublings_1 : decode cX9_doublings 1 = .ok (.i2l, 1) := by decide +kernel
theorem dX9_doublings_2 : decode cX9_doublings 2 = .ok (.lstore_n 2, 1) := by decide +kernel
theorem dX9_doublings_3 : decode cX9_doublings 3 = .ok (.iconst 0, 1) := by decide +kernel
theorem dX9_doublings_4 : decode cX9_doublings 4 = .ok (.istore 4, 2) := by decide +kernel
theorem dX9_doublings_6 : decode cX9_doublings 6 = .ok (.iload 4, 2) := by decide +kernel
theorem dX9_doublings_8 : decode cX9_doublings 8 = .ok (.bipush 15, 2) := by decide +kernel
theorem dX9_doublings_10 : decode cX9_doublings 10 = .ok (.if_icmp .ge 32, 3) := by decide +kernel
theorem dX9_doublings_13 : decode cX9_doublings 13 = .ok (.lload_n 2, 1) := by decide +kernel
theorem dX9_doublings_14 : decode cX9_doublings 14 = .ok (.ldc2_w 218, 3) := by decide +kernel
theorem dX9_doublings_17 : decode cX9_doublings 17 = .ok (.lmul, 1) := by decide +kernel
theorem dX9_doublings_18 : decode cX9_doublings 18 = .ok (.aload_n 0, 1) := by decide +kernel
theorem dX9_doublings_19 : decode cX9_doublings 19 = .ok (.getfield 10, 3) := by decide +kernel
theorem dX9_doublings_22 : decode cX9_doublings 22 = .ok (.getfield 220, 3) := by decide +kernel
theorem dX9_doublings_25 : decode cX9_doublings 25 = .ok (.i2l, 1) := by decide +kernel
theorem dX9_doublings_26 : decode cX9_doublings 26 = .ok (.lcmp, 1) := by decide +kernel
theorem dX9_doublings_27 : decode cX9_doublings 27 = .ok (.ifCond .gt 15, 3) := by decide +kernel
theorem dX9_doublings_30 : decode cX9_doublings 30 = .ok (.lload_n 2, 1) := by decide +kernel
theorem dX9_doublings_31 : decode cX9_doublings 31 = .ok (.ldc2_w 218, 3) := by decide +kernel
theorem dX9_doublings_34 : decode cX9_doublings 34 = .ok (.lmul, 1) := by decide +kernel
theorem dX9_doublings_35 : decode cX9_doublings 35 = .ok (.lstore_n 2, 1) := by decide +kernel
theorem dX9_doublings_36 : decode cX9_doublings 36 = .ok (.iinc 4 1, 3) := by decide +kernel
theorem dX9_doublings_39 : decode cX9_doublings 39 = .ok (.goto (-33), 3) := by decide +kernel
theorem dX9_doublings_42 : decode cX9_doublings 42 = .ok (.iload 4, 2) := by decide +kernel
theorem dX9_doublings_44 : decode cX9_doublings 44 = .ok (.ireturn, 1) := by decide +kernel
theorem dX9_energy_0 : decode cX9_energy 0 = .ok (.iload_n 1, 1) := by decide +kernel
theorem dX9_energy_1 : decode cX9_energy 1 = .ok (.ifCond .lt 8, 3) := by decide +kernel
theorem dX9_energy_4 : decode cX9_energy 4 = .ok (.iload_n 1, 1) := by decide +kernel
theorem dX9_energy_5 : decode cX9_energy 5 = .ok (.iconst 1, 1) := by decide +kernel
theorem dX9_energy_6 : decode cX9_energy 6 = .ok (.if_icmp .le 7, 3) := by decide +kernel
theorem dX9_energy_9 : decode cX9_energy 9 = .ok (.ldc2_w 223, 3) := by decide +kernel
theorem dX9_energy_12 : decode cX9_energy 12 = .ok (.lreturn, 1) := by decide +kernel
theorem dX9_energy_13 : decode cX9_energy 13 = .ok (.lconst 0, 1) := by decide +kernel
theorem dX9_energy_14 : decode cX9_energy 14 = .ok (.lstore_n 2, 1) := by decide +kernel
theorem dX9_energy_15 : decode cX9_energy 15 = .ok (.iconst 0, 1) := by decide +kernel
theorem dX9_energy_16 : decode cX9_energy 16 = .ok (.istore 4, 2) := by decide +kernel
theorem dX9_energy_18 : decode cX9_energy 18 = .ok (.iload 4, 2) := by decide +kernel
theorem dX9_energy_20 : decode cX9_energy 20 = .ok (.aload_n 0, 1) := by decide +kernel
theorem dX9_energy_21 : decode cX9_energy 21 = .ok (.getfield 10, 3) := by decide +kernel
theorem dX9_energy_24 : decode cX9_energy 24 = .ok (.getfield 115, 3) := by decide +kernel
theorem dX9_energy_27 : decode cX9_energy 27 = .ok (.if_icmp .ge 69, 3) := by decide +kernel
theorem dX9_energy_30 : decode cX9_energy 30 = .ok (.lload_n 2, 1) := by decide +kernel
theorem dX9_energy_31 : decode cX9_energy 31 = .ok (.iload_n 1, 1) := by decide +kernel
theorem dX9_energy_32 : decode cX9_energy 32 = .ok (.ifCond .ne 31, 3) := by decide +kernel
theorem dX9_energy_35 : decode cX9_energy 35 = .ok (.aload_n 0, 1) := by decide +kernel
theorem dX9_energy_36 : decode cX9_energy 36 = .ok (.getfield 19, 3) := by decide +kernel
theorem dX9_energy_39 : decode cX9_energy 39 = .ok (.getfield 175, 3) := by decide +kernel
theorem dX9_energy_42 : decode cX9_energy 42 = .ok (.iload 4, 2) := by decide +kernel
theorem dX9_energy_44 : decode cX9_energy 44 = .ok (.iaload, 1) := by decide +kernel
theorem dX9_energy_45 : decode cX9_energy 45 = .ok (.i2l, 1) := by decide +kernel
theorem dX9_energy_46 : decode cX9_energy 46 = .ok (.aload_n 0, 1) := by decide +kernel
theorem dX9_energy_47 : decode cX9_energy 47 = .ok (.getfield 19, 3) := by decide +kernel
theorem dX9_energy_50 : decode cX9_energy 50 = .ok (.getfield 176, 3) := by decide +kernel
theorem dX9_energy_53 : decode cX9_energy 53 = .ok (.iload 4, 2) := by decide +kernel
theorem dX9_energy_55 : decode cX9_energy 55 = .ok (.iaload, 1) := by decide +kernel
theorem dX9_energy_56 : decode cX9_energy 56 = .ok (.i2l, 1) := by decide +kernel
theorem dX9_energy_57 : decode cX9_energy 57 = .ok (.invokestatic 225, 3) := by decide +kernel
theorem dX9_energy_60 : decode cX9_energy 60 = .ok (.goto 28, 3) := by decide +kernel
theorem dX9_energy_63 : decode cX9_energy 63 = .ok (.aload_n 0, 1) := by decide +kernel
theorem dX9_energy_64 : decode cX9_energy 64 = .ok (.getfield 19, 3) := by decide +kernel
theorem dX9_energy_67 : decode cX9_energy 67 = .ok (.getfield 177, 3) := by decide +kernel
theorem dX9_energy_70 : decode cX9_energy 70 = .ok (.iload 4, 2) := by decide +kernel
theorem dX9_energy_72 : decode cX9_energy 72 = .ok (.iaload, 1) := by decide +kernel
theorem dX9_energy_73 : decode cX9_energy 73 = .ok (.i2l, 1) := by decide +kernel
theorem dX9_energy_74 : decode cX9_energy 74 = .ok (.aload_n 0, 1) := by decide +kernel
theorem dX9_energy_75 : decode cX9_energy 75 = .ok (.getfield 19, 3) := by decide +kernel
theorem dX9_energy_78 : decode cX9_energy 78 = .ok (.getfield 180, 3) := by decide +kernel
theorem dX9_energy_81 : decode cX9_energy 81 = .ok (.iload 4, 2) := by decide +kernel
theorem dX9_energy_83 : decode cX9_energy 83 = .ok (.iaload, 1) := by decide +kernel
theorem dX9_energy_84 : decode cX9_energy 84 = .ok (.i2l, 1) := by decide +kernel
theorem dX9_energy_85 : decode cX9_energy 85 = .ok (.invokestatic 225, 3) := by decide +kernel
theorem dX9_energy_88 : decode cX9_energy 88 = .ok (.ladd, 1) := by decide +kernel
theorem dX9_energy_89 : decode cX9_energy 89 = .ok (.lstore_n 2, 1) := by decide +kernel
theorem dX9_energy_90 : decode cX9_energy 90 = .ok (.iinc 4 1, 3) := by decide +kernel
theorem dX9_energy_93 : decode cX9_energy 93 = .ok (.goto (-75), 3) := by decide +kernel
theorem dX9_energy_96 : decode cX9_energy 96 = .ok (.lload_n 2, 1) := by decide +kernel
theorem dX9_energy_97 : decode cX9_energy 97 = .ok (.lreturn, 1) := by decide +kernel
theorem dX9_loudness_0 : decode cX9_loudness 0 = .ok (.lload_n 0, 1) := by decide +kernel
theorem dX9_loudness_1 : decode cX9_loudness 1 = .ok (.lload_n 0, 1) := by decide +kernel
theorem dX9_loudness_2 : decode cX9_loudness 2 = .ok (.lmul, 1) := by decide +kernel
theorem dX9_loudness_3 : decode cX9_loudness 3 = .ok (.lload_n 2, 1) := by decide +kernel
theorem dX9_loudness_4 : decode cX9_loudness 4 = .ok (.lload_n 2, 1) := by decide +kernel
theorem dX9_loudness_5 : decode cX9_loudness 5 = .ok (.lmul, 1) := by decide +kernel
theorem dX9_loudness_6 : decode cX9_loudness 6 = .ok (.ladd, 1) := by decide +kernel
theorem dX9_loudness_7 : decode cX9_loudness 7 = .ok (.lreturn, 1) := by decide +kernel
theorem dX9_over_0 : decode cX9_over 0 = .ok (.iload_n 1, 1) := by decide +kernel
theorem dX9_over_1 : decode cX9_over 1 = .ok (.ifCond .ge 5, 3) := by decide +kernel
theorem dX9_over_4 : decode cX9_over 4 = .ok (.iconst (-1), 1) := by decide +kernel
theorem dX9_over_5 : decode cX9_over 5 = .ok (.ireturn, 1) := by decide +kernel
theorem dX9_over_6 : decode cX9_over 6 = .ok (.iconst 0, 1) := by decide +kernel
theorem dX9_over_7 : decode cX9_over 7 = .ok (.istore_n 2, 1) := by decide +kernel
theorem dX9_over_8 : decode cX9_over 8 = .ok (.iconst 0, 1) := by decide +kernel
theorem dX9_over_9 : decode cX9_over 9 = .ok (.istore_n 3, 1) := by decide +kernel
theorem dX9_over_10 : decode cX9_over 10 = .ok (.iload_n 3, 1) := by decide +kernel
theorem dX9_over_11 : decode cX9_over 11 = .ok (.aload_n 0, 1) := by decide +kernel
theorem dX9_over_12 : decode cX9_over 12 = .ok (.getfield 10, 3) := by decide +kernel
theorem dX9_over_15 : decode cX9_over 15 = .ok (.getfield 115, 3) := by decide +kernel
theorem dX9_over_18 : decode cX9_over 18 = .ok (.if_icmp .ge 41, 3) := by decide +kernel
theorem dX9_over_21 : decode cX9_over 21 = .ok (.aload_n 0, 1) := by decide +kernel
theorem dX9_over_22 : decode cX9_over 22 = .ok (.getfield 19, 3) := by decide +kernel
theorem dX9_over_25 : decode cX9_over 25 = .ok (.getfield 175, 3) := by decide +kernel
theorem dX9_over_28 : decode cX9_over 28 = .ok (.iload_n 3, 1) := by decide +kernel
theorem dX9_over_29 : decode cX9_over 29 = .ok (.iaload, 1) := by decide +kernel
theorem dX9_over_30 : decode cX9_over 30 = .ok (.i2l, 1) := by decide +kernel
theorem dX9_over_31 : decode cX9_over 31 = .ok (.aload_n 0, 1) := by decide +kernel
theorem dX9_over_32 : decode cX9_over 32 = .ok (.getfield 19, 3) := by decide +kernel
theorem dX9_over_35 : decode cX9_over 35 = .ok (.getfield 176, 3) := by decide +kernel
theorem dX9_over_38 : decode cX9_over 38 = .ok (.iload_n 3, 1) := by decide +kernel
theorem dX9_over_39 : decode cX9_over 39 = .ok (.iaload, 1) := by decide +kernel
theorem dX9_over_40 : decode cX9_over 40 = .ok (.i2l, 1) := by decide +kernel
theorem dX9_over_41 : decode cX9_over 41 = .ok (.invokestatic 225, 3) := by decide +kernel
theorem dX9_over_44 : decode cX9_over 44 = .ok (.iload_n 1, 1) := by decide +kernel
theorem dX9_over_45 : decode cX9_over 45 = .ok (.i2l, 1) := by decide +kernel
theorem dX9_over_46 : decode cX9_over 46 = .ok (.lcmp, 1) := by decide +kernel
theorem dX9_over_47 : decode cX9_over 47 = .ok (.ifCond .lt 6, 3) := by decide +kernel
theorem dX9_over_50 : decode cX9_over 50 = .ok (.iinc 2 1, 3) := by decide +kernel
theorem dX9_over_53 : decode cX9_over 53 = .ok (.iinc 3 1, 3) := by decide +kernel
theorem dX9_over_56 : decode cX9_over 56 = .ok (.goto (-46), 3) := by decide +kernel
theorem dX9_over_59 : decode cX9_over 59 = .ok (.iload_n 2, 1) := by decide +kernel
theorem dX9_over_60 : decode cX9_over 60 = .ok (.ireturn, 1) := by decide +kernel
theorem dX9_count_0 : decode cX9_count 0 = .ok (.iload_n 1, 1) := by decide +kernel
theorem dX9_count_1 : decode cX9_count 1 = .ok (.tableswitch 179 0 12 #[67, 75, 83, 91, 99, 107, 115, 123, 139, 147, 155, 163, 171], 67) := by decide +kernel
theorem dX9_count_68 : decode cX9_count 68 = .ok (.aload_n 0, 1) := by decide +kernel
theorem dX9_count_69 : decode cX9_count 69 = .ok (.getfield 10, 3) := by decide +kernel
theorem dX9_count_72 : decode cX9_count 72 = .ok (.getfield 115, 3) := by decide +kernel
theorem dX9_count_75 : decode cX9_count 75 = .ok (.ireturn, 1) := by decide +kernel
theorem dX9_count_76 : decode cX9_count 76 = .ok (.aload_n 0, 1) := by decide +kernel
theorem dX9_count_77 : decode cX9_count 77 = .ok (.getfield 10, 3) := by decide +kernel
theorem dX9_count_80 : decode cX9_count 80 = .ok (.getfield 229, 3) := by decide +kernel
theorem dX9_count_83 : decode cX9_count 83 = .ok (.ireturn, 1) := by decide +kernel
theorem dX9_count_84 : decode cX9_count 84 = .ok (.aload_n 0, 1) := by decide +kernel
theorem dX9_count_85 : decode cX9_count 85 = .ok (.getfield 10, 3) := by decide +kernel
theorem dX9_count_88 : decode cX9_count 88 = .ok (.getfield 232, 3) := by decide +kernel
theorem dX9_count_91 : decode cX9_count 91 = .ok (.ireturn, 1) := by decide +kernel
theorem dX9_count_92 : decode cX9_count 92 = .ok (.aload_n 0, 1) := by decide +kernel
theorem dX9_count_93 : decode cX9_count 93 = .ok (.getfield 10, 3) := by decide +kernel
theorem dX9_count_96 : decode cX9_count 96 = .ok (.getfield 235, 3) := by decide +kernel
theorem dX9_count_99 : decode cX9_count 99 = .ok (.ireturn, 1) := by decide +kernel
theorem dX9_count_100 : decode cX9_count 100 = .ok (.aload_n 0, 1) := by decide +kernel
theorem dX9_count_101 : decode cX9_count 101 = .ok (.getfield 10, 3) := by decide +kernel
theorem dX9_count_104 : decode cX9_count 104 = .ok (.getfield 238, 3) := by decide +kernel
theorem dX9_count_107 : decode cX9_count 107 = .ok (.ireturn, 1) := by decide +kernel
theorem dX9_count_108 : decode cX9_count 108 = .ok (.aload_n 0, 1) := by decide +kernel
theorem dX9_count_109 : decode cX9_count 109 = .ok (.getfield 10, 3) := by decide +kernel
theorem dX9_count_112 : decode cX9_count 112 = .ok (.getfield 196, 3) := by decide +kernel
theorem dX9_count_115 : decode cX9_count 115 = .ok (.ireturn, 1) := by decide +kernel
theorem dX9_count_116 : decode cX9_count 116 = .ok (.aload_n 0, 1) := by decide +kernel
theorem dX9_count_117 : decode cX9_count 117 = .ok (.getfield 19, 3) := by decide +kernel
theorem dX9_count_120 : decode cX9_count 120 = .ok (.getfield 206, 3) := by decide +kernel
theorem dX9_count_123 : decode cX9_count 123 = .ok (.ireturn, 1) := by decide +kernel
theorem dX9_count_124 : decode cX9_count 124 = .ok (.aload_n 0, 1) := by decide +kernel
theorem dX9_count_125 : decode cX9_count 125 = .ok (.getfield 19, 3) := by decide +kernel
theorem dX9_count_128 : decode cX9_count 128 = .ok (.getfield 241, 3) := by decide +kernel
theorem dX9_count_131 : decode cX9_count 131 = .ok (.ifCond .eq 7, 3) := by decide +kernel
theorem dX9_count_134 : decode cX9_count 134 = .ok (.iconst 1, 1) := by decide +kernel
theorem dX9_count_135 : decode cX9_count 135 = .ok (.goto 4, 3) := by decide +kernel
theorem dX9_count_138 : decode cX9_count 138 = .ok (.iconst 0, 1) := by decide +kernel
theorem dX9_count_139 : decode cX9_count 139 = .ok (.ireturn, 1) := by decide +kernel
theorem dX9_count_140 : decode cX9_count 140 = .ok (.aload_n 0, 1) := by decide +kernel
theorem dX9_count_141 : decode cX9_count 141 = .ok (.getfield 19, 3) := by decide +kernel
theorem dX9_count_144 : decode cX9_count 144 = .ok (.getfield 244, 3) := by decide +kernel
theorem dX9_count_147 : decode cX9_count 147 = .ok (.ireturn, 1) := by decide +kernel
theorem dX9_count_148 : decode cX9_count 148 = .ok (.aload_n 0, 1) := by decide +kernel
theorem dX9_count_149 : decode cX9_count 149 = .ok (.getfield 10, 3) := by decide +kernel
theorem dX9_count_152 : decode cX9_count 152 = .ok (.getfield 220, 3) := by decide +kernel
theorem dX9_count_155 : decode cX9_count 155 = .ok (.ireturn, 1) := by decide +kernel
theorem dX9_count_156 : decode cX9_count 156 = .ok (.aload_n 0, 1) := by decide +kernel
theorem dX9_count_157 : decode cX9_count 157 = .ok (.getfield 33, 3) := by decide +kernel
theorem dX9_count_160 : decode cX9_count 160 = .ok (.getfield 247, 3) := by decide +kernel
theorem dX9_count_163 : decode cX9_count 163 = .ok (.ireturn, 1) := by decide +kernel
theorem dX9_count_164 : decode cX9_count 164 = .ok (.aload_n 0, 1) := by decide +kernel
theorem dX9_count_165 : decode cX9_count 165 = .ok (.getfield 33, 3) := by decide +kernel
theorem dX9_count_168 : decode cX9_count 168 = .ok (.invokevirtual 250, 3) := by decide +kernel
theorem dX9_count_171 : decode cX9_count 171 = .ok (.ireturn, 1) := by decide +kernel
theorem dX9_count_172 : decode cX9_count 172 = .ok (.aload_n 0, 1) := by decide +kernel
theorem dX9_count_173 : decode cX9_count 173 = .ok (.getfield 26, 3) := by decide +kernel
theorem dX9_count_176 : decode cX9_count 176 = .ok (.getfield 254, 3) := by decide +kernel
theorem dX9_count_179 : decode cX9_count 179 = .ok (.ireturn, 1) := by decide +kernel
theorem dX9_count_180 : decode cX9_count 180 = .ok (.ldc 185, 2) := by decide +kernel
theorem dX9_count_182 : decode cX9_count 182 = .ok (.ireturn, 1) := by decide +kernel
theorem dX9_isPlace_0 : decode cX9_isPlace 0 = .ok (.iload_n 1, 1) := by decide +kernel
theorem dX9_isPlace_1 : decode cX9_isPlace 1 = .ok (.ifCond .lt 18, 3) := by decide +kernel
theorem dX9_isPlace_4 : decode cX9_isPlace 4 = .ok (.iload_n 1, 1) := by decide +kernel
theorem dX9_isPlace_5 : decode cX9_isPlace 5 = .ok (.aload_n 0, 1) := by decide +kernel
theorem dX9_isPlace_6 : decode cX9_isPlace 6 = .ok (.getfield 10, 3) := by decide +kernel
theorem dX9_isPlace_9 : decode cX9_isPlace 9 = .ok (.getfield 115, 3) := by decide +kernel
theorem dX9_isPlace_12 : decode cX9_isPlace 12 = .ok (.if_icmp .ge 7, 3) := by decide +kernel
theorem dX9_isPlace_15 : decode cX9_isPlace 15 = .ok (.iconst 1, 1) := by decide +kernel
theorem dX9_isPlace_16 : decode cX9_isPlace 16 = .ok (.goto 4, 3) := by decide +kernel
theorem dX9_isPlace_19 : decode cX9_isPlace 19 = .ok (.iconst 0, 1) := by decide +kernel
theorem dX9_isPlace_20 : decode cX9_isPlace 20 = .ok (.ireturn, 1) := by decide +kernel
theorem dX9_mirrored_0 : decode cX9_mirrored 0 = .ok (.iload_n 1, 1) := by decide +kernel
theorem dX9_mirrored_1 : decode cX9_mirrored 1 = .ok (.ineg, 1) := by decide +kernel
theorem dX9_mirrored_2 : decode cX9_mirrored 2 = .ok (.aload_n 0, 1) := by decide +kernel
theorem dX9_mirrored_3 : decode cX9_mirrored 3 = .ok (.getfield 10, 3) := by decide +kernel
theorem dX9_mirrored_6 : decode cX9_mirrored 6 = .ok (.getfield 115, 3) := by decide +kernel
theorem dX9_mirrored_9 : decode cX9_mirrored 9 = .ok (.iconst 1, 1) := by decide +kernel
theorem dX9_mirrored_10 : decode cX9_mirrored 10 = .ok (.isub, 1) := by decide +kernel
theorem dX9_mirrored_11 : decode cX9_mirrored 11 = .ok (.iand, 1) := by decide +kernel
theorem dX9_mirrored_12 : decode cX9_mirrored 12 = .ok (.ireturn, 1) := by decide +kernel
theorem dX9_isFresh_0 : decode cX9_isFresh 0 = .ok (.aload_n 0, 1) := by decide +kernel
theorem dX9_isFresh_1 : decode cX9_isFresh 1 = .ok (.getfield 19, 3) := by decide +kernel
theorem dX9_isFresh_4 : decode cX9_isFresh 4 = .ok (.getfield 206, 3) := by decide +kernel
theorem dX9_isFresh_7 : decode cX9_isFresh 7 = .ok (.ifCond .ne 17, 3) := by decide +kernel
theorem dX9_isFresh_10 : decode cX9_isFresh 10 = .ok (.aload_n 0, 1) := by decide +kernel
theorem dX9_isFresh_11 : decode cX9_isFresh 11 = .ok (.getfield 19, 3) := by decide +kernel
theorem dX9_isFresh_14 : decode cX9_isFresh 14 = .ok (.getfield 241, 3) := by decide +kernel
theorem dX9_isFresh_17 : decode cX9_isFresh 17 = .ok (.ifCond .ne 7, 3) := by decide +kernel
theorem dX9_isFresh_20 : decode cX9_isFresh 20 = .ok (.iconst 1, 1) := by decide +kernel
theorem dX9_isFresh_21 : decode cX9_isFresh 21 = .ok (.goto 4, 3) := by decide +kernel
theorem dX9_isFresh_24 : decode cX9_isFresh 24 = .ok (.iconst 0, 1) := by decide +kernel
theorem dX9_isFresh_25 : decode cX9_isFresh 25 = .ok (.ireturn, 1) := by decide +kernel
theorem dX9_isInWord_0 : decode cX9_isInWord 0 = .ok (.lload_n 1, 1) := by decide +kernel
theorem dX9_isInWord_1 : decode cX9_isInWord 1 = .ok (.aload_n 0, 1) := by decide +kernel
theorem dX9_isInWord_2 : decode cX9_isInWord 2 = .ok (.getfield 10, 3) := by decide +kernel
theorem dX9_isInWord_5 : decode cX9_isInWord 5 = .ok (.getfield 220, 3) := by decide +kernel
theorem dX9_isInWord_8 : decode cX9_isInWord 8 = .ok (.i2l, 1) := by decide +kernel
theorem dX9_isInWord_9 : decode cX9_isInWord 9 = .ok (.lcmp, 1) := by decide +kernel
theorem dX9_isInWord_10 : decode cX9_isInWord 10 = .ok (.ifCond .gt 21, 3) := by decide +kernel
theorem dX9_isInWord_13 : decode cX9_isInWord 13 = .ok (.lload_n 1, 1) := by decide +kernel
theorem dX9_isInWord_14 : decode cX9_isInWord 14 = .ok (.aload_n 0, 1) := by decide +kernel
theorem dX9_isInWord_15 : decode cX9_isInWord 15 = .ok (.getfield 10, 3) := by decide +kernel
theorem dX9_isInWord_18 : decode cX9_isInWord 18 = .ok (.getfield 220, 3) := by decide +kernel
theorem dX9_isInWord_21 : decode cX9_isInWord 21 = .ok (.ineg, 1) := by decide +kernel
theorem dX9_isInWord_22 : decode cX9_isInWord 22 = .ok (.i2l, 1) := by decide +kernel
theorem dX9_isInWord_23 : decode cX9_isInWord 23 = .ok (.lcmp, 1) := by decide +kernel
theorem dX9_isInWord_24 : decode cX9_isInWord 24 = .ok (.ifCond .lt 7, 3) := by decide +kernel
theorem dX9_isInWord_27 : decode cX9_isInWord 27 = .ok (.iconst 1, 1) := by decide +kernel
theorem dX9_isInWord_28 : decode cX9_isInWord 28 = .ok (.goto 4, 3) := by decide +kernel
theorem dX9_isInWord_31 : decode cX9_isInWord 31 = .ok (.iconst 0, 1) := by decide +kernel
theorem dX9_isInWord_32 : decode cX9_isInWord 32 = .ok (.ireturn, 1) := by decide +kernel
theorem dX9_set_0 : decode cX9_set 0 = .ok (.aload_n 0, 1) := by decide +kernel
theorem dX9_set_1 : decode cX9_set 1 = .ok (.iload_n 1, 1) := by decide +kernel
theorem dX9_set_2 : decode cX9_set 2 = .ok (.invokevirtual 159, 3) := by decide +kernel
theorem dX9_set_5 : decode cX9_set 5 = .ok (.ifCond .eq 28, 3) := by decide +kernel
theorem dX9_set_8 : decode cX9_set 8 = .ok (.aload_n 0, 1) := by decide +kernel
theorem dX9_set_9 : decode cX9_set 9 = .ok (.iload_n 2, 1) := by decide +kernel
theorem dX9_set_10 : decode cX9_set 10 = .ok (.i2l, 1) := by decide +kernel
theorem dX9_set_11 : decode cX9_set 11 = .ok (.invokevirtual 257, 3) := by decide +kernel
theorem dX9_set_14 : decode cX9_set 14 = .ok (.ifCond .eq 19, 3) := by decide +kernel
theorem dX9_set_17 : decode cX9_set 17 = .ok (.aload_n 0, 1) := by decide +kernel
theorem dX9_set_18 : decode cX9_set 18 = .ok (.iload_n 3, 1) := by decide +kernel
theorem dX9_set_19 : decode cX9_set 19 = .ok (.i2l, 1) := by decide +kernel
theorem dX9_set_20 : decode cX9_set 20 = .ok (.invokevirtual 257, 3) := by decide +kernel
theorem dX9_set_23 : decode cX9_set 23 = .ok (.ifCond .eq 10, 3) := by decide +kernel
theorem dX9_set_26 : decode cX9_set 26 = .ok (.aload_n 0, 1) := by decide +kernel
theorem dX9_set_27 : decode cX9_set 27 = .ok (.invokevirtual 261, 3) := by decide +kernel
theorem dX9_set_30 : decode cX9_set 30 = .ok (.ifCond .ne 5, 3) := by decide +kernel
theorem dX9_set_33 : decode cX9_set 33 = .ok (.iconst 0, 1) := by decide +kernel
theorem dX9_set_34 : decode cX9_set 34 = .ok (.ireturn, 1) := by decide +kernel
theorem dX9_set_35 : decode cX9_set 35 = .ok (.aload_n 0, 1) := by decide +kernel
theorem dX9_set_36 : decode cX9_set 36 = .ok (.getfield 26, 3) := by decide +kernel
theorem dX9_set_39 : decode cX9_set 39 = .ok (.aload_n 0, 1) := by decide +kernel
theorem dX9_set_40 : decode cX9_set 40 = .ok (.getfield 19, 3) := by decide +kernel
theorem dX9_set_43 : decode cX9_set 43 = .ok (.invokevirtual 265, 3) := by decide +kernel
theorem dX9_set_46 : decode cX9_set 46 = .ok (.aload_n 0, 1) := by decide +kernel
theorem dX9_set_47 : decode cX9_set 47 = .ok (.getfield 19, 3) := by decide +kernel
theorem dX9_set_50 : decode cX9_set 50 = .ok (.getfield 175, 3) := by decide +kernel
theorem dX9_set_53 : decode cX9_set 53 = .ok (.iload_n 1, 1) := by decide +kernel
theorem dX9_set_54 : decode cX9_set 54 = .ok (.iload_n 2, 1) := by decide +kernel
theorem dX9_set_55 : decode cX9_set 55 = .ok (.iastore, 1) := by decide +kernel
theorem dX9_set_56 : decode cX9_set 56 = .ok (.aload_n 0, 1) := by decide +kernel
theorem dX9_set_57 : decode cX9_set 57 = .ok (.getfield 19, 3) := by decide +kernel
theorem dX9_set_60 : decode cX9_set 60 = .ok (.getfield 176, 3) := by decide +kernel
theorem dX9_set_63 : decode cX9_set 63 = .ok (.iload_n 1, 1) := by decide +kernel
theorem dX9_set_64 : decode cX9_set 64 = .ok (.iload_n 3, 1) := by decide +kernel
theorem dX9_set_65 : decode cX9_set 65 = .ok (.iastore, 1) := by decide +kernel
theorem dX9_set_66 : decode cX9_set 66 = .ok (.aload_n 0, 1) := by decide +kernel
theorem dX9_set_67 : decode cX9_set 67 = .ok (.getfield 19, 3) := by decide +kernel
theorem dX9_set_70 : decode cX9_set 70 = .ok (.invokevirtual 146, 3) := by decide +kernel
theorem dX9_set_73 : decode cX9_set 73 = .ok (.iconst 1, 1) := by decide +kernel
theorem dX9_set_74 : decode cX9_set 74 = .ok (.ireturn, 1) := by decide +kernel
theorem dX9_taper_0 : decode cX9_taper 0 = .ok (.aload_n 0, 1) := by decide +kernel
theorem dX9_taper_1 : decode cX9_taper 1 = .ok (.invokevirtual 261, 3) := by decide +kernel
theorem dX9_taper_4 : decode cX9_taper 4 = .ok (.ifCond .ne 5, 3) := by decide +kernel
theorem dX9_taper_7 : decode cX9_taper 7 = .ok (.iconst 0, 1) := by decide +kernel
theorem dX9_taper_8 : decode cX9_taper 8 = .ok (.ireturn, 1) := by decide +kernel
theorem dX9_taper_9 : decode cX9_taper 9 = .ok (.aload_n 0, 1) := by decide +kernel
theorem dX9_taper_10 : decode cX9_taper 10 = .ok (.getfield 26, 3) := by decide +kernel
theorem dX9_taper_13 : decode cX9_taper 13 = .ok (.aload_n 0, 1) := by decide +kernel
theorem dX9_taper_14 : decode cX9_taper 14 = .ok (.getfield 19, 3) := by decide +kernel
theorem dX9_taper_17 : decode cX9_taper 17 = .ok (.invokevirtual 265, 3) := by decide +kernel
theorem dX9_taper_20 : decode cX9_taper 20 = .ok (.iconst 0, 1) := by decide +kernel
theorem dX9_taper_21 : decode cX9_taper 21 = .ok (.istore_n 1, 1) := by decide +kernel
theorem dX9_taper_22 : decode cX9_taper 22 = .ok (.iload_n 1, 1) := by decide +kernel
theorem dX9_taper_23 : decode cX9_taper 23 = .ok (.aload_n 0, 1) := by decide +kernel
theorem dX9_taper_24 : decode cX9_taper 24 = .ok (.getfield 10, 3) := by decide +kernel
theorem dX9_taper_27 : decode cX9_taper 27 = .ok (.getfield 115, 3) := by decide +kernel
theorem dX9_taper_30 : decode cX9_taper 30 = .ok (.if_icmp .ge 69, 3) := by decide +kernel
theorem dX9_taper_33 : decode cX9_taper 33 = .ok (.sipush 16384, 3) := by decide +kernel
theorem dX9_taper_36 : decode cX9_taper 36 = .ok (.aload_n 0, 1) := by decide +kernel
theorem dX9_taper_37 : decode cX9_taper 37 = .ok (.getfield 47, 3) := by decide +kernel
theorem dX9_taper_40 : decode cX9_taper 40 = .ok (.getfield 186, 3) := by decide +kernel
theorem dX9_taper_43 : decode cX9_taper 43 = .ok (.iload_n 1, 1) := by decide +kernel
theorem dX9_taper_44 : decode cX9_taper 44 = .ok (.iaload, 1) := by decide +kernel
theorem dX9_taper_45 : decode cX9_taper 45 = .ok (.isub, 1) := by decide +kernel
theorem dX9_taper_46 : decode cX9_taper 46 = .ok (.istore_n 2, 1) := by decide +kernel
theorem dX9_taper_47 : decode cX9_taper 47 = .ok (.aload_n 0, 1) := by decide +kernel
theorem dX9_taper_48 : decode cX9_taper 48 = .ok (.getfield 19, 3) := by decide +kernel
theorem dX9_taper_51 : decode cX9_taper 51 = .ok (.getfield 175, 3) := by decide +kernel
theorem dX9_taper_54 : decode cX9_taper 54 = .ok (.iload_n 1, 1) := by decide +kernel
theorem dX9_taper_55 : decode cX9_taper 55 = .ok (.aload_n 0, 1) := by decide +kernel
theorem dX9_taper_56 : decode cX9_taper 56 = .ok (.aload_n 0, 1) := by decide +kernel
theorem dX9_taper_57 : decode cX9_taper 57 = .ok (.getfield 19, 3) := by decide +kernel
theorem dX9_taper_60 : decode cX9_taper 60 = .ok (.getfield 175, 3) := by decide +kernel
theorem dX9_taper_63 : decode cX9_taper 63 = .ok (.iload_n 1, 1) := by decide +kernel
theorem dX9_taper_64 : decode cX9_taper 64 = .ok (.iaload, 1) := by decide +kernel
theorem dX9_taper_65 : decode cX9_taper 65 = .ok (.iload_n 2, 1) := by decide +kernel
theorem dX9_taper_66 : decode cX9_taper 66 = .ok (.invokevirtual 269, 3) := by decide +kernel
theorem dX9_taper_69 : decode cX9_taper 69 = .ok (.iastore, 1) := by decide +kernel
theorem dX9_taper_70 : decode cX9_taper 70 = .ok (.aload_n 0, 1) := by decide +kernel
theorem dX9_taper_71 : decode cX9_taper 71 = .ok (.getfield 19, 3) := by decide +kernel
theorem dX9_taper_74 : decode cX9_taper 74 = .ok (.getfield 176, 3) := by decide +kernel
theorem dX9_taper_77 : decode cX9_taper 77 = .ok (.iload_n 1, 1) := by decide +kernel
theorem dX9_taper_78 : decode cX9_taper 78 = .ok (.aload_n 0, 1) := by decide +kernel
theorem dX9_taper_79 : decode cX9_taper 79 = .ok (.aload_n 0, 1) := by decide +kernel
theorem dX9_taper_80 : decode cX9_taper 80 = .ok (.getfield 19, 3) := by decide +kernel
theorem dX9_taper_83 : decode cX9_taper 83 = .ok (.getfield 176, 3) := by decide +kernel
theorem dX9_taper_86 : decode cX9_taper 86 = .ok (.iload_n 1, 1) := by decide +kernel
theorem dX9_taper_87 : decode cX9_taper 87 = .ok (.iaload, 1) := by decide +kernel
theorem dX9_taper_88 : decode cX9_taper 88 = .ok (.iload_n 2, 1) := by decide +kernel
theorem dX9_taper_89 : decode cX9_taper 89 = .ok (.invokevirtual 269, 3) := by decide +kernel
theorem dX9_taper_92 : decode cX9_taper 92 = .ok (.iastore, 1) := by decide +kernel
theorem dX9_taper_93 : decode cX9_taper 93 = .ok (.iinc 1 1, 3) := by decide +kernel
theorem dX9_taper_96 : decode cX9_taper 96 = .ok (.goto (-74), 3) := by decide +kernel
theorem dX9_taper_99 : decode cX9_taper 99 = .ok (.aload_n 0, 1) := by decide +kernel
theorem dX9_taper_100 : decode cX9_taper 100 = .ok (.getfield 19, 3) := by decide +kernel
theorem dX9_taper_103 : decode cX9_taper 103 = .ok (.invokevirtual 146, 3) := by decide +kernel
theorem dX9_taper_106 : decode cX9_taper 106 = .ok (.iconst 1, 1) := by decide +kernel
theorem dX9_taper_107 : decode cX9_taper 107 = .ok (.ireturn, 1) := by decide +kernel
theorem dX9_tapered_0 : decode cX9_tapered 0 = .ok (.iload_n 1, 1) := by decide +kernel
theorem dX9_tapered_1 : decode cX9_tapered 1 = .ok (.i2l, 1) := by decide +kernel
theorem dX9_tapered_2 : decode cX9_tapered 2 = .ok (.iload_n 2, 1) := by decide +kernel
theorem dX9_tapered_3 : decode cX9_tapered 3 = .ok (.i2l, 1) := by decide +kernel
theorem dX9_tapered_4 : decode cX9_tapered 4 = .ok (.lmul, 1) := by decide +kernel
theorem dX9_tapered_5 : decode cX9_tapered 5 = .ok (.lstore_n 3, 1) := by decide +kernel
theorem dX9_tapered_6 : decode cX9_tapered 6 = .ok (.aload_n 0, 1) := by decide +kernel
theorem dX9_tapered_7 : decode cX9_tapered 7 = .ok (.getfield 10, 3) := by decide +kernel
theorem dX9_tapered_10 : decode cX9_tapered 10 = .ok (.getfield 238, 3) := by decide +kernel
theorem dX9_tapered_13 : decode cX9_tapered 13 = .ok (.iconst 1, 1) := by decide +kernel
theorem dX9_tapered_14 : decode cX9_tapered 14 = .ok (.if_icmp .ne 11, 3) := by decide +kernel
theorem dX9_tapered_17 : decode cX9_tapered 17 = .ok (.lload_n 3, 1) := by decide +kernel
theorem dX9_tapered_18 : decode cX9_tapered 18 = .ok (.ldc2_w 272, 3) := by decide +kernel
theorem dX9_tapered_21 : decode cX9_tapered 21 = .ok (.ladd, 1) := by decide +kernel
theorem dX9_tapered_22 : decode cX9_tapered 22 = .ok (.goto 4, 3) := by decide +kernel
theorem dX9_tapered_25 : decode cX9_tapered 25 = .ok (.lload_n 3, 1) := by decide +kernel
theorem dX9_tapered_26 : decode cX9_tapered 26 = .ok (.bipush 15, 2) := by decide +kernel
theorem dX9_tapered_28 : decode cX9_tapered 28 = .ok (.lshr, 1) := by decide +kernel
theorem dX9_tapered_29 : decode cX9_tapered 29 = .ok (.l2i, 1) := by decide +kernel
theorem dX9_tapered_30 : decode cX9_tapered 30 = .ok (.ireturn, 1) := by decide +kernel
theorem dX9_shift_0 : decode cX9_shift 0 = .ok (.iload_n 1, 1) := by decide +kernel
theorem dX9_shift_1 : decode cX9_shift 1 = .ok (.iconst 1, 1) := by decide +kernel
theorem dX9_shift_2 : decode cX9_shift 2 = .ok (.if_icmp .lt 16, 3) := by decide +kernel
theorem dX9_shift_5 : decode cX9_shift 5 = .ok (.iload_n 1, 1) := by decide +kernel
theorem dX9_shift_6 : decode cX9_shift 6 = .ok (.bipush 31, 2) := by decide +kernel
theorem dX9_shift_8 : decode cX9_shift 8 = .ok (.if_icmp .gt 10, 3) := by decide +kernel
theorem dX9_shift_11 : decode cX9_shift 11 = .ok (.aload_n 0, 1) := by decide +kernel
theorem dX9_shift_12 : decode cX9_shift 12 = .ok (.invokevirtual 261, 3) := by decide +kernel
theorem dX9_shift_15 : decode cX9_shift 15 = .ok (.ifCond .ne 5, 3) := by decide +kernel
theorem dX9_shift_18 : decode cX9_shift 18 = .ok (.iconst 0, 1) := by decide +kernel
theorem dX9_shift_19 : decode cX9_shift 19 = .ok (.ireturn, 1) := by decide +kernel
theorem dX9_shift_20 : decode cX9_shift 20 = .ok (.aload_n 0, 1) := by decide +kernel
theorem dX9_shift_21 : decode cX9_shift 21 = .ok (.getfield 26, 3) := by decide +kernel
theorem dX9_shift_24 : decode cX9_shift 24 = .ok (.aload_n 0, 1) := by decide +kernel
theorem dX9_shift_25 : decode cX9_shift 25 = .ok (.getfield 19, 3) := by decide +kernel
theorem dX9_shift_28 : decode cX9_shift 28 = .ok (.invokevirtual 265, 3) := by decide +kernel
theorem dX9_shift_31 : decode cX9_shift 31 = .ok (.aload_n 0, 1) := by decide +kernel
theorem dX9_shift_32 : decode cX9_shift 32 = .ok (.getfield 56, 3) := by decide +kernel
theorem dX9_shift_35 : decode cX9_shift 35 = .ok (.aload_n 0, 1) := by decide +kernel
theorem dX9_shift_36 : decode cX9_shift 36 = .ok (.getfield 19, 3) := by decide +kernel
theorem dX9_shift_39 : decode cX9_shift 39 = .ok (.aload_n 0, 1) := by decide +kernel
theorem dX9_shift_40 : decode cX9_shift 40 = .ok (.getfield 10, 3) := by decide +kernel
theorem dX9_shift_43 : decode cX9_shift 43 = .ok (.getfield 115, 3) := by decide +kernel
theorem dX9_shift_46 : decode cX9_shift 46 = .ok (.iconst 1, 1) := by decide +kernel
theorem dX9_shift_47 : decode cX9_shift 47 = .ok (.iload_n 1, 1) := by decide +kernel
theorem dX9_shift_48 : decode cX9_shift 48 = .ok (.invokevirtual 274, 3) := by decide +kernel
theorem dX9_shift_51 : decode cX9_shift 51 = .ok (.aload_n 0, 1) := by decide +kernel
theorem dX9_shift_52 : decode cX9_shift 52 = .ok (.getfield 19, 3) := by decide +kernel
theorem dX9_shift_55 : decode cX9_shift 55 = .ok (.invokevirtual 146, 3) := by decide +kernel
theorem dX9_shift_58 : decode cX9_shift 58 = .ok (.iconst 1, 1) := by decide +kernel
theorem dX9_shift_59 : decode cX9_shift 59 = .ok (.ireturn, 1) := by decide +kernel
theorem dX9_turnRound_0 : decode cX9_turnRound 0 = .ok (.aload_n 0, 1) := by decide +kernel
theorem dX9_turnRound_1 : decode cX9_turnRound 1 = .ok (.invokevirtual 261, 3) := by decide +kernel
theorem dX9_turnRound_4 : decode cX9_turnRound 4 = .ok (.ifCond .ne 5, 3) := by decide +kernel
theorem dX9_turnRound_7 : decode cX9_turnRound 7 = .ok (.iconst 0, 1) := by decide +kernel
theorem dX9_turnRound_8 : decode cX9_turnRound 8 = .ok (.ireturn, 1) := by decide +kernel
theorem dX9_turnRound_9 : decode cX9_turnRound 9 = .ok (.aload_n 0, 1) := by decide +kernel
theorem dX9_turnRound_10 : decode cX9_turnRound 10 = .ok (.getfield 26, 3) := by decide +kernel
theorem dX9_turnRound_13 : decode cX9_turnRound 13 = .ok (.aload_n 0, 1) := by decide +kernel
theorem dX9_turnRound_14 : decode cX9_turnRound 14 = .ok (.getfield 19, 3) := by decide +kernel
theorem dX9_turnRound_17 : decode cX9_turnRound 17 = .ok (.invokevirtual 265, 3) := by decide +kernel
theorem dX9_turnRound_20 : decode cX9_turnRound 20 = .ok (.aload_n 0, 1) := by decide +kernel
theorem dX9_turnRound_21 : decode cX9_turnRound 21 = .ok (.getfield 56, 3) := by decide +kernel
theorem dX9_turnRound_24 : decode cX9_turnRound 24 = .ok (.aload_n 0, 1) := by decide +kernel
theorem dX9_turnRound_25 : decode cX9_turnRound 25 = .ok (.getfield 19, 3) := by decide +kernel
theorem dX9_turnRound_28 : decode cX9_turnRound 28 = .ok (.aload_n 0, 1) := by decide +kernel
theorem dX9_turnRound_29 : decode cX9_turnRound 29 = .ok (.getfield 10, 3) := by decide +kernel
theorem dX9_turnRound_32 : decode cX9_turnRound 32 = .ok (.getfield 115, 3) := by decide +kernel
theorem dX9_turnRound_35 : decode cX9_turnRound 35 = .ok (.iconst (-1), 1) := by decide +kernel
theorem dX9_turnRound_36 : decode cX9_turnRound 36 = .ok (.iconst 0, 1) := by decide +kernel
theorem dX9_turnRound_37 : decode cX9_turnRound 37 = .ok (.invokevirtual 274, 3) := by decide +kernel
theorem dX9_turnRound_40 : decode cX9_turnRound 40 = .ok (.aload_n 0, 1) := by decide +kernel
theorem dX9_turnRound_41 : decode cX9_turnRound 41 = .ok (.getfield 19, 3) := by decide +kernel
theorem dX9_turnRound_44 : decode cX9_turnRound 44 = .ok (.invokevirtual 146, 3) := by decide +kernel
theorem dX9_turnRound_47 : decode cX9_turnRound 47 = .ok (.iconst 1, 1) := by decide +kernel
theorem dX9_turnRound_48 : decode cX9_turnRound 48 = .ok (.ireturn, 1) := by decide +kernel
theorem dX9_louder_0 : decode cX9_louder 0 = .ok (.iload_n 1, 1) := by decide +kernel
theorem dX9_louder_1 : decode cX9_louder 1 = .ok (.iconst 2, 1) := by decide +kernel
theorem dX9_louder_2 : decode cX9_louder 2 = .ok (.if_icmp .lt 42, 3) := by decide +kernel
theorem dX9_louder_5 : decode cX9_louder 5 = .ok (.iload_n 1, 1) := by decide +kernel
theorem dX9_louder_6 : decode cX9_louder 6 = .ok (.bipush 9, 2) := by decide +kernel
theorem dX9_louder_8 : decode cX9_louder 8 = .ok (.if_icmp .gt 36, 3) := by decide +kernel
theorem dX9_louder_11 : decode cX9_louder 11 = .ok (.aload_n 0, 1) := by decide +kernel
theorem dX9_louder_12 : decode cX9_louder 12 = .ok (.invokevirtual 261, 3) := by decide +kernel
theorem dX9_louder_15 : decode cX9_louder 15 = .ok (.ifCond .eq 29, 3) := by decide +kernel
theorem dX9_louder_18 : decode cX9_louder 18 = .ok (.aload_n 0, 1) := by decide +kernel
theorem dX9_louder_19 : decode cX9_louder 19 = .ok (.aload_n 0, 1) := by decide +kernel
theorem dX9_louder_20 : decode cX9_louder 20 = .ok (.getfield 19, 3) := by decide +kernel
theorem dX9_louder_23 : decode cX9_louder 23 = .ok (.iconst 0, 1) := by decide +kernel
theorem dX9_louder_24 : decode cX9_louder 24 = .ok (.aload_n 0, 1) := by decide +kernel
theorem dX9_louder_25 : decode cX9_louder 25 = .ok (.getfield 10, 3) := by decide +kernel
theorem dX9_louder_28 : decode cX9_louder 28 = .ok (.getfield 115, 3) := by decide +kernel
theorem dX9_louder_31 : decode cX9_louder 31 = .ok (.invokevirtual 212, 3) := by decide +kernel
theorem dX9_louder_34 : decode cX9_louder 34 = .ok (.i2l, 1) := by decide +kernel
theorem dX9_louder_35 : decode cX9_louder 35 = .ok (.iload_n 1, 1) := by decide +kernel
theorem dX9_louder_36 : decode cX9_louder 36 = .ok (.i2l, 1) := by decide +kernel
theorem dX9_louder_37 : decode cX9_louder 37 = .ok (.lmul, 1) := by decide +kernel
theorem dX9_louder_38 : decode cX9_louder 38 = .ok (.invokevirtual 257, 3) := by decide +kernel
theorem dX9_louder_41 : decode cX9_louder 41 = .ok (.ifCond .ne 5, 3) := by decide +kernel
theorem dX9_louder_44 : decode cX9_louder 44 = .ok (.iconst 0, 1) := by decide +kernel
theorem dX9_louder_45 : decode cX9_louder 45 = .ok (.ireturn, 1) := by decide +kernel
theorem dX9_louder_46 : decode cX9_louder 46 = .ok (.aload_n 0, 1) := by decide +kernel
theorem dX9_louder_47 : decode cX9_louder 47 = .ok (.getfield 26, 3) := by decide +kernel
theorem dX9_louder_50 : decode cX9_louder 50 = .ok (.aload_n 0, 1) := by decide +kernel
theorem dX9_louder_51 : decode cX9_louder 51 = .ok (.getfield 19, 3) := by decide +kernel
theorem dX9_louder_54 : decode cX9_louder 54 = .ok (.invokevirtual 265, 3) := by decide +kernel
theorem dX9_louder_57 : decode cX9_louder 57 = .ok (.iconst 0, 1) := by decide +kernel
theorem dX9_louder_58 : decode cX9_louder 58 = .ok (.istore_n 2, 1) := by decide +kernel
theorem dX9_louder_59 : decode cX9_louder 59 = .ok (.iload_n 2, 1) := by decide +kernel
theorem dX9_louder_60 : decode cX9_louder 60 = .ok (.aload_n 0, 1) := by decide +kernel
theorem dX9_louder_61 : decode cX9_louder 61 = .ok (.getfield 10, 3) := by decide +kernel
theorem dX9_louder_64 : decode cX9_louder 64 = .ok (.getfield 115, 3) := by decide +kernel
theorem dX9_louder_67 : decode cX9_louder 67 = .ok (.if_icmp .ge 35, 3) := by decide +kernel
theorem dX9_louder_70 : decode cX9_louder 70 = .ok (.aload_n 0, 1) := by decide +kernel
theorem dX9_louder_71 : decode cX9_louder 71 = .ok (.getfield 19, 3) := by decide +kernel
theorem dX9_louder_74 : decode cX9_louder 74 = .ok (.getfield 175, 3) := by decide +kernel
theorem dX9_louder_77 : decode cX9_louder 77 = .ok (.iload_n 2, 1) := by decide +kernel
theorem dX9_louder_78 : decode cX9_louder 78 = .ok (.dup2, 1) := by decide +kernel
theorem dX9_louder_79 : decode cX9_louder 79 = .ok (.iaload, 1) := by decide +kernel
theorem dX9_louder_80 : decode cX9_louder 80 = .ok (.iload_n 1, 1) := by decide +kernel
theorem dX9_louder_81 : decode cX9_louder 81 = .ok (.imul, 1) := by decide +kernel
theorem dX9_louder_82 : decode cX9_louder 82 = .ok (.iastore, 1) := by decide +kernel
theorem dX9_louder_83 : decode cX9_louder 83 = .ok (.aload_n 0, 1) := by decide +kernel
theorem dX9_louder_84 : decode cX9_louder 84 = .ok (.getfield 19, 3) := by decide +kernel
theorem dX9_louder_87 : decode cX9_louder 87 = .ok (.getfield 176, 3) := by decide +kernel
theorem dX9_louder_90 : decode cX9_louder 90 = .ok (.iload_n 2, 1) := by decide +kernel
theorem dX9_louder_91 : decode cX9_louder 91 = .ok (.dup2, 1) := by decide +kernel
theorem dX9_louder_92 : decode cX9_louder 92 = .ok (.iaload, 1) := by decide +kernel
theorem dX9_louder_93 : decode cX9_louder 93 = .ok (.iload_n 1, 1) := by decide +kernel
theorem dX9_louder_94 : decode cX9_louder 94 = .ok (.imul, 1) := by decide +kernel
theorem dX9_louder_95 : decode cX9_louder 95 = .ok (.iastore, 1) := by decide +kernel
theorem dX9_louder_96 : decode cX9_louder 96 = .ok (.iinc 2 1, 3) := by decide +kernel
theorem dX9_louder_99 : decode cX9_louder 99 = .ok (.goto (-40), 3) := by decide +kernel
theorem dX9_louder_102 : decode cX9_louder 102 = .ok (.aload_n 0, 1) := by decide +kernel
theorem dX9_louder_103 : decode cX9_louder 103 = .ok (.getfield 19, 3) := by decide +kernel
theorem dX9_louder_106 : decode cX9_louder 106 = .ok (.invokevirtual 146, 3) := by decide +kernel
theorem dX9_louder_109 : decode cX9_louder 109 = .ok (.iconst 1, 1) := by decide +kernel
theorem dX9_louder_110 : decode cX9_louder 110 = .ok (.ireturn, 1) := by decide +kernel
theorem dX9_isDoneForward_0 : decode cX9_isDoneForward 0 = .ok (.aload_n 0, 1) := by decide +kernel
theorem dX9_isDoneForward_1 : decode cX9_isDoneForward 1 = .ok (.getfield 19, 3) := by decide +kernel
theorem dX9_isDoneForward_4 : decode cX9_isDoneForward 4 = .ok (.getfield 241, 3) := by decide +kernel
theorem dX9_isDoneForward_7 : decode cX9_isDoneForward 7 = .ok (.ifCond .ne 24, 3) := by decide +kernel
theorem dX9_isDoneForward_10 : decode cX9_isDoneForward 10 = .ok (.aload_n 0, 1) := by decide +kernel
theorem dX9_isDoneForward_11 : decode cX9_isDoneForward 11 = .ok (.getfield 19, 3) := by decide +kernel
theorem dX9_isDoneForward_14 : decode cX9_isDoneForward 14 = .ok (.getfield 206, 3) := by decide +kernel
theorem dX9_isDoneForward_17 : decode cX9_isDoneForward 17 = .ok (.aload_n 0, 1) := by decide +kernel
theorem dX9_isDoneForward_18 : decode cX9_isDoneForward 18 = .ok (.getfield 10, 3) := by decide +kernel
theorem dX9_isDoneForward_21 : decode cX9_isDoneForward 21 = .ok (.getfield 196, 3) := by decide +kernel
theorem dX9_isDoneForward_24 : decode cX9_isDoneForward 24 = .ok (.if_icmp .lt 7, 3) := by decide +kernel
theorem dX9_isDoneForward_27 : decode cX9_isDoneForward 27 = .ok (.iconst 1, 1) := by decide +kernel
theorem dX9_isDoneForward_28 : decode cX9_isDoneForward 28 = .ok (.goto 4, 3) := by decide +kernel
theorem dX9_isDoneForward_31 : decode cX9_isDoneForward 31 = .ok (.iconst 0, 1) := by decide +kernel
theorem dX9_isDoneForward_32 : decode cX9_isDoneForward 32 = .ok (.ireturn, 1) := by decide +kernel
theorem dX9_beat_0 : decode cX9_beat 0 = .ok (.aload_n 0, 1) := by decide +kernel
theorem dX9_beat_1 : decode cX9_beat 1 = .ok (.getfield 19, 3) := by decide +kernel
theorem dX9_beat_4 : decode cX9_beat 4 = .ok (.getfield 206, 3) := by decide +kernel
theorem dX9_beat_7 : decode cX9_beat 7 = .ok (.aload_n 0, 1) := by decide +kernel
theorem dX9_beat_8 : decode cX9_beat 8 = .ok (.getfield 10, 3) := by decide +kernel
theorem dX9_beat_11 : decode cX9_beat 11 = .ok (.getfield 196, 3) := by decide +kernel
theorem dX9_beat_14 : decode cX9_beat 14 = .ok (.if_icmp .lt 6, 3) := by decide +kernel
theorem dX9_beat_17 : decode cX9_beat 17 = .ok (.bipush (-2), 2) := by decide +kernel
theorem dX9_beat_19 : decode cX9_beat 19 = .ok (.ireturn, 1) := by decide +kernel
theorem dX9_beat_20 : decode cX9_beat 20 = .ok (.aload_n 0, 1) := by decide +kernel
theorem dX9_beat_21 : decode cX9_beat 21 = .ok (.getfield 26, 3) := by decide +kernel
theorem dX9_beat_24 : decode cX9_beat 24 = .ok (.aload_n 0, 1) := by decide +kernel
theorem dX9_beat_25 : decode cX9_beat 25 = .ok (.getfield 19, 3) := by decide +kernel
theorem dX9_beat_28 : decode cX9_beat 28 = .ok (.invokevirtual 265, 3) := by decide +kernel
theorem dX9_beat_31 : decode cX9_beat 31 = .ok (.aload_n 0, 1) := by decide +kernel
theorem dX9_beat_32 : decode cX9_beat 32 = .ok (.getfield 56, 3) := by decide +kernel
theorem dX9_beat_35 : decode cX9_beat 35 = .ok (.aload_n 0, 1) := by decide +kernel
theorem dX9_beat_36 : decode cX9_beat 36 = .ok (.getfield 19, 3) := by decide +kernel
theorem dX9_beat_39 : decode cX9_beat 39 = .ok (.aload_n 0, 1) := by decide +kernel
theorem dX9_beat_40 : decode cX9_beat 40 = .ok (.getfield 10, 3) := by decide +kernel
theorem dX9_beat_43 : decode cX9_beat 43 = .ok (.iconst 1, 1) := by decide +kernel
theorem dX9_beat_44 : decode cX9_beat 44 = .ok (.invokevirtual 278, 3) := by decide +kernel
theorem dX9_beat_47 : decode cX9_beat 47 = .ok (.ireturn, 1) := by decide +kernel
theorem dX9_beatAll_0 : decode cX9_beatAll 0 = .ok (.aload_n 0, 1) := by decide +kernel
theorem dX9_beatAll_1 : decode cX9_beatAll 1 = .ok (.getfield 56, 3) := by decide +kernel
theorem dX9_beatAll_4 : decode cX9_beatAll 4 = .ok (.aload_n 0, 1) := by decide +kernel
theorem dX9_beatAll_5 : decode cX9_beatAll 5 = .ok (.getfield 19, 3) := by decide +kernel
theorem dX9_beatAll_8 : decode cX9_beatAll 8 = .ok (.aload_n 0, 1) := by decide +kernel
theorem dX9_beatAll_9 : decode cX9_beatAll 9 = .ok (.getfield 10, 3) := by decide +kernel
theorem dX9_beatAll_12 : decode cX9_beatAll 12 = .ok (.iconst 5, 1) := by decide +kernel
theorem dX9_beatAll_13 : decode cX9_beatAll 13 = .ok (.iconst 1, 1) := by decide +kernel
theorem dX9_beatAll_14 : decode cX9_beatAll 14 = .ok (.invokevirtual 282, 3) := by decide +kernel
theorem dX9_beatAll_17 : decode cX9_beatAll 17 = .ok (.pop, 1) := by decide +kernel
theorem dX9_beatAll_18 : decode cX9_beatAll 18 = .ok (.aload_n 0, 1) := by decide +kernel
theorem dX9_beatAll_19 : decode cX9_beatAll 19 = .ok (.getfield 26, 3) := by decide +kernel
theorem dX9_beatAll_22 : decode cX9_beatAll 22 = .ok (.invokevirtual 152, 3) := by decide +kernel
theorem dX9_beatAll_25 : decode cX9_beatAll 25 = .ok (.aload_n 0, 1) := by decide +kernel
theorem dX9_beatAll_26 : decode cX9_beatAll 26 = .ok (.getfield 19, 3) := by decide +kernel
theorem dX9_beatAll_29 : decode cX9_beatAll 29 = .ok (.getfield 244, 3) := by decide +kernel
theorem dX9_beatAll_32 : decode cX9_beatAll 32 = .ok (.ireturn, 1) := by decide +kernel
theorem dX9_turnBack_0 : decode cX9_turnBack 0 = .ok (.aload_n 0, 1) := by decide +kernel
theorem dX9_turnBack_1 : decode cX9_turnBack 1 = .ok (.invokevirtual 286, 3) := by decide +kernel
theorem dX9_turnBack_4 : decode cX9_turnBack 4 = .ok (.ifCond .ne 5, 3) := by decide +kernel
theorem dX9_turnBack_7 : decode cX9_turnBack 7 = .ok (.iconst 0, 1) := by decide +kernel
theorem dX9_turnBack_8 : decode cX9_turnBack 8 = .ok (.ireturn, 1) := by decide +kernel
theorem dX9_turnBack_9 : decode cX9_turnBack 9 = .ok (.aload_n 0, 1) := by decide +kernel
theorem dX9_turnBack_10 : decode cX9_turnBack 10 = .ok (.getfield 26, 3) := by decide +kernel
theorem dX9_turnBack_13 : decode cX9_turnBack 13 = .ok (.aload_n 0, 1) := by decide +kernel
theorem dX9_turnBack_14 : decode cX9_turnBack 14 = .ok (.getfield 19, 3) := by decide +kernel
theorem dX9_turnBack_17 : decode cX9_turnBack 17 = .ok (.invokevirtual 265, 3) := by decide +kernel
theorem dX9_turnBack_20 : decode cX9_turnBack 20 = .ok (.aload_n 0, 1) := by decide +kernel
theorem dX9_turnBack_21 : decode cX9_turnBack 21 = .ok (.getfield 19, 3) := by decide +kernel
theorem dX9_turnBack_24 : decode cX9_turnBack 24 = .ok (.aload_n 0, 1) := by decide +kernel
theorem dX9_turnBack_25 : decode cX9_turnBack 25 = .ok (.getfield 10, 3) := by decide +kernel
theorem dX9_turnBack_28 : decode cX9_turnBack 28 = .ok (.getfield 115, 3) := by decide +kernel
theorem dX9_turnBack_31 : decode cX9_turnBack 31 = .ok (.invokevirtual 289, 3) := by decide +kernel
theorem dX9_turnBack_34 : decode cX9_turnBack 34 = .ok (.iconst 1, 1) := by decide +kernel
theorem dX9_turnBack_35 : decode cX9_turnBack 35 = .ok (.ireturn, 1) := by decide +kernel
theorem dX9_ahead_0 : decode cX9_ahead 0 = .ok (.iload_n 1, 1) := by decide +kernel
theorem dX9_ahead_1 : decode cX9_ahead 1 = .ok (.ifCond .lt 17, 3) := by decide +kernel
theorem dX9_ahead_4 : decode cX9_ahead 4 = .ok (.iload_n 1, 1) := by decide +kernel
theorem dX9_ahead_5 : decode cX9_ahead 5 = .ok (.iconst 5, 1) := by decide +kernel
theorem dX9_ahead_6 : decode cX9_ahead 6 = .ok (.if_icmp .gt 12, 3) := by decide +kernel
theorem dX9_ahead_9 : decode cX9_ahead 9 = .ok (.iload_n 2, 1) := by decide +kernel
theorem dX9_ahead_10 : decode cX9_ahead 10 = .ok (.ifCond .lt 8, 3) := by decide +kernel
theorem dX9_ahead_13 : decode cX9_ahead 13 = .ok (.iload_n 2, 1) := by decide +kernel
theorem dX9_ahead_14 : decode cX9_ahead 14 = .ok (.iconst 2, 1) := by decide +kernel
theorem dX9_ahead_15 : decode cX9_ahead 15 = .ok (.if_icmp .le 5, 3) := by decide +kernel
theorem dX9_ahead_18 : decode cX9_ahead 18 = .ok (.iconst (-1), 1) := by decide +kernel
theorem dX9_ahead_19 : decode cX9_ahead 19 = .ok (.ireturn, 1) := by decide +kernel
theorem dX9_ahead_20 : decode cX9_ahead 20 = .ok (.aload_n 0, 1) := by decide +kernel
theorem dX9_ahead_21 : decode cX9_ahead 21 = .ok (.getfield 77, 3) := by decide +kernel
theorem dX9_ahead_24 : decode cX9_ahead 24 = .ok (.aload_n 0, 1) := by decide +kernel
theorem dX9_ahead_25 : decode cX9_ahead 25 = .ok (.getfield 19, 3) := by decide +kernel
theorem dX9_ahead_28 : decode cX9_ahead 28 = .ok (.invokevirtual 292, 3) := by decide +kernel
theorem dX9_ahead_31 : decode cX9_ahead 31 = .ok (.aload_n 0, 1) := by decide +kernel
theorem dX9_ahead_32 : decode cX9_ahead 32 = .ok (.getfield 56, 3) := by decide +kernel
theorem dX9_ahead_35 : decode cX9_ahead 35 = .ok (.aload_n 0, 1) := by decide +kernel
theorem dX9_ahead_36 : decode cX9_ahead 36 = .ok (.getfield 77, 3) := by decide +kernel
theorem dX9_ahead_39 : decode cX9_ahead 39 = .ok (.aload_n 0, 1) := by decide +kernel
theorem dX9_ahead_40 : decode cX9_ahead 40 = .ok (.getfield 10, 3) := by decide +kernel
theorem dX9_ahead_43 : decode cX9_ahead 43 = .ok (.iload_n 1, 1) := by decide +kernel
theorem dX9_ahead_44 : decode cX9_ahead 44 = .ok (.iconst 1, 1) := by decide +kernel
theorem dX9_ahead_45 : decode cX9_ahead 45 = .ok (.invokevirtual 282, 3) := by decide +kernel
theorem dX9_ahead_48 : decode cX9_ahead 48 = .ok (.istore_n 3, 1) := by decide +kernel
theorem dX9_ahead_49 : decode cX9_ahead 49 = .ok (.iload_n 2, 1) := by decide +kernel
theorem dX9_ahead_50 : decode cX9_ahead 50 = .ok (.ifCond .ne 11, 3) := by decide +kernel
theorem dX9_ahead_53 : decode cX9_ahead 53 = .ok (.aload_n 0, 1) := by decide +kernel
theorem dX9_ahead_54 : decode cX9_ahead 54 = .ok (.getfield 77, 3) := by decide +kernel
theorem dX9_ahead_57 : decode cX9_ahead 57 = .ok (.getfield 244, 3) := by decide +kernel
theorem dX9_ahead_60 : decode cX9_ahead 60 = .ok (.ireturn, 1) := by decide +kernel
theorem dX9_ahead_61 : decode cX9_ahead 61 = .ok (.iload_n 2, 1) := by decide +kernel
theorem dX9_ahead_62 : decode cX9_ahead 62 = .ok (.iconst 1, 1) := by decide +kernel
theorem dX9_ahead_63 : decode cX9_ahead 63 = .ok (.if_icmp .ne 21, 3) := by decide +kernel
theorem dX9_ahead_66 : decode cX9_ahead 66 = .ok (.aload_n 0, 1) := by decide +kernel
theorem dX9_ahead_67 : decode cX9_ahead 67 = .ok (.getfield 77, 3) := by decide +kernel
theorem dX9_ahead_70 : decode cX9_ahead 70 = .ok (.iconst 0, 1) := by decide +kernel
theorem dX9_ahead_71 : decode cX9_ahead 71 = .ok (.aload_n 0, 1) := by decide +kernel
theorem dX9_ahead_72 : decode cX9_ahead 72 = .ok (.getfield 10, 3) := by decide +kernel
theorem dX9_ahead_75 : decode cX9_ahead 75 = .ok (.getfield 115, 3) := by decide +kernel
theorem dX9_ahead_78 : decode cX9_ahead 78 = .ok (.invokevirtual 212, 3) := by decide +kernel
theorem dX9_ahead_81 : decode cX9_ahead 81 = .ok (.goto 4, 3) := by decide +kernel
theorem dX9_ahead_84 : decode cX9_ahead 84 = .ok (.iload_n 3, 1) := by decide +kernel
theorem dX9_ahead_85 : decode cX9_ahead 85 = .ok (.ireturn, 1) := by decide +kernel
theorem dX9_expWithBits_0 : decode cX9_expWithBits 0 = .ok (.aload_n 0, 1) := by decide +kernel
theorem dX9_expWithBits_1 : decode cX9_expWithBits 1 = .ok (.getfield 74, 3) := by decide +kernel
theorem dX9_expWithBits_4 : decode cX9_expWithBits 4 = .ok (.aload_n 0, 1) := by decide +kernel
theorem dX9_expWithBits_5 : decode cX9_expWithBits 5 = .ok (.getfield 10, 3) := by decide +kernel
theorem dX9_expWithBits_8 : decode cX9_expWithBits 8 = .ok (.invokevirtual 132, 3) := by decide +kernel
theorem dX9_expWithBits_11 : decode cX9_expWithBits 11 = .ok (.aload_n 0, 1) := by decide +kernel
theorem dX9_expWithBits_12 : decode cX9_expWithBits 12 = .ok (.getfield 74, 3) := by decide +kernel
theorem dX9_expWithBits_15 : decode cX9_expWithBits 15 = .ok (.iload_n 1, 1) := by decide +kernel
theorem dX9_expWithBits_16 : decode cX9_expWithBits 16 = .ok (.invokevirtual 295, 3) := by decide +kernel
theorem dX9_expWithBits_19 : decode cX9_expWithBits 19 = .ok (.aload_n 0, 1) := by decide +kernel
theorem dX9_expWithBits_20 : decode cX9_expWithBits 20 = .ok (.getfield 77, 3) := by decide +kernel
theorem dX9_expWithBits_23 : decode cX9_expWithBits 23 = .ok (.aload_n 0, 1) := by decide +kernel
theorem dX9_expWithBits_24 : decode cX9_expWithBits 24 = .ok (.getfield 19, 3) := by decide +kernel
theorem dX9_expWithBits_27 : decode cX9_expWithBits 27 = .ok (.invokevirtual 298, 3) := by decide +kernel
theorem dX9_expWithBits_30 : decode cX9_expWithBits 30 = .ok (.aload_n 0, 1) := by decide +kernel
theorem dX9_expWithBits_31 : decode cX9_expWithBits 31 = .ok (.getfield 56, 3) := by decide +kernel
theorem dX9_expWithBits_34 : decode cX9_expWithBits 34 = .ok (.aload_n 0, 1) := by decide +kernel
theorem dX9_expWithBits_35 : decode cX9_expWithBits 35 = .ok (.getfield 77, 3) := by decide +kernel
theorem dX9_expWithBits_38 : decode cX9_expWithBits 38 = .ok (.aload_n 0, 1) := by decide +kernel
theorem dX9_expWithBits_39 : decode cX9_expWithBits 39 = .ok (.getfield 74, 3) := by decide +kernel
theorem dX9_expWithBits_42 : decode cX9_expWithBits 42 = .ok (.iconst 5, 1) := by decide +kernel
theorem dX9_expWithBits_43 : decode cX9_expWithBits 43 = .ok (.iconst 1, 1) := by decide +kernel
theorem dX9_expWithBits_44 : decode cX9_expWithBits 44 = .ok (.invokevirtual 282, 3) := by decide +kernel
theorem dX9_expWithBits_47 : decode cX9_expWithBits 47 = .ok (.ireturn, 1) := by decide +kernel
theorem dX9_bits_0 : decode cX9_bits 0 = .ok (.bipush 8, 2) := by decide +kernel
theorem dX9_bits_2 : decode cX9_bits 2 = .ok (.istore_n 1, 1) := by decide +kernel
theorem dX9_bits_3 : decode cX9_bits 3 = .ok (.iload_n 1, 1) := by decide +kernel
theorem dX9_bits_4 : decode cX9_bits 4 = .ok (.bipush 16, 2) := by decide +kernel
theorem dX9_bits_6 : decode cX9_bits 6 = .ok (.if_icmp .gt 19, 3) := by decide +kernel
theorem dX9_bits_9 : decode cX9_bits 9 = .ok (.aload_n 0, 1) := by decide +kernel
theorem dX9_bits_10 : decode cX9_bits 10 = .ok (.iload_n 1, 1) := by decide +kernel
theorem dX9_bits_11 : decode cX9_bits 11 = .ok (.invokevirtual 301, 3) := by decide +kernel
theorem dX9_bits_14 : decode cX9_bits 14 = .ok (.ifCond .ne 5, 3) := by decide +kernel
theorem dX9_bits_17 : decode cX9_bits 17 = .ok (.iload_n 1, 1) := by decide +kernel
theorem dX9_bits_18 : decode cX9_bits 18 = .ok (.ireturn, 1) := by decide +kernel
theorem dX9_bits_19 : decode cX9_bits 19 = .ok (.iinc 1 1, 3) := by decide +kernel
theorem dX9_bits_22 : decode cX9_bits 22 = .ok (.goto (-19), 3) := by decide +kernel
theorem dX9_bits_25 : decode cX9_bits 25 = .ok (.bipush (-2), 2) := by decide +kernel
theorem dX9_bits_27 : decode cX9_bits 27 = .ok (.ireturn, 1) := by decide +kernel
theorem dX9_sweep_0 : decode cX9_sweep 0 = .ok (.iload_n 1, 1) := by decide +kernel
theorem dX9_sweep_1 : decode cX9_sweep 1 = .ok (.bipush 8, 2) := by decide +kernel
theorem dX9_sweep_3 : decode cX9_sweep 3 = .ok (.if_icmp .lt 9, 3) := by decide +kernel
theorem dX9_sweep_6 : decode cX9_sweep 6 = .ok (.iload_n 1, 1) := by decide +kernel
theorem dX9_sweep_7 : decode cX9_sweep 7 = .ok (.bipush 16, 2) := by decide +kernel
theorem dX9_sweep_9 : decode cX9_sweep 9 = .ok (.if_icmp .le 7, 3) := by decide +kernel
theorem dX9_sweep_12 : decode cX9_sweep 12 = .ok (.iconst (-1), 1) := by decide +kernel
theorem dX9_sweep_13 : decode cX9_sweep 13 = .ok (.goto 8, 3) := by decide +kernel
theorem dX9_sweep_16 : decode cX9_sweep 16 = .ok (.aload_n 0, 1) := by decide +kernel
theorem dX9_sweep_17 : decode cX9_sweep 17 = .ok (.iload_n 1, 1) := by decide +kernel
theorem dX9_sweep_18 : decode cX9_sweep 18 = .ok (.invokevirtual 301, 3) := by decide +kernel
theorem dX9_sweep_21 : decode cX9_sweep 21 = .ok (.ireturn, 1) := by decide +kernel
theorem dX9_grown_0 : decode cX9_grown 0 = .ok (.iload_n 1, 1) := by decide +kernel
theorem dX9_grown_1 : decode cX9_grown 1 = .ok (.ifCond .lt 8, 3) := by decide +kernel
theorem dX9_grown_4 : decode cX9_grown 4 = .ok (.iload_n 1, 1) := by decide +kernel
theorem dX9_grown_5 : decode cX9_grown 5 = .ok (.iconst 5, 1) := by decide +kernel
theorem dX9_grown_6 : decode cX9_grown 6 = .ok (.if_icmp .le 5, 3) := by decide +kernel
theorem dX9_grown_9 : decode cX9_grown 9 = .ok (.iconst (-1), 1) := by decide +kernel
theorem dX9_grown_10 : decode cX9_grown 10 = .ok (.ireturn, 1) := by decide +kernel
theorem dX9_grown_11 : decode cX9_grown 11 = .ok (.aload_n 0, 1) := by decide +kernel
theorem dX9_grown_12 : decode cX9_grown 12 = .ok (.getfield 77, 3) := by decide +kernel
theorem dX9_grown_15 : decode cX9_grown 15 = .ok (.aload_n 0, 1) := by decide +kernel
theorem dX9_grown_16 : decode cX9_grown 16 = .ok (.getfield 19, 3) := by decide +kernel
theorem dX9_grown_19 : decode cX9_grown 19 = .ok (.invokevirtual 298, 3) := by decide +kernel
theorem dX9_grown_22 : decode cX9_grown 22 = .ok (.aload_n 0, 1) := by decide +kernel
theorem dX9_grown_23 : decode cX9_grown 23 = .ok (.getfield 56, 3) := by decide +kernel
theorem dX9_grown_26 : decode cX9_grown 26 = .ok (.aload_n 0, 1) := by decide +kernel
theorem dX9_grown_27 : decode cX9_grown 27 = .ok (.getfield 77, 3) := by decide +kernel
theorem dX9_grown_30 : decode cX9_grown 30 = .ok (.aload_n 0, 1) := by decide +kernel
theorem dX9_grown_31 : decode cX9_grown 31 = .ok (.getfield 10, 3) := by decide +kernel
theorem dX9_grown_34 : decode cX9_grown 34 = .ok (.iload_n 1, 1) := by decide +kernel
theorem dX9_grown_35 : decode cX9_grown 35 = .ok (.iconst 0, 1) := by decide +kernel
theorem dX9_grown_36 : decode cX9_grown 36 = .ok (.invokevirtual 282, 3) := by decide +kernel
theorem dX9_grown_39 : decode cX9_grown 39 = .ok (.pop, 1) := by decide +kernel
theorem dX9_grown_40 : decode cX9_grown 40 = .ok (.aload_n 0, 1) := by decide +kernel
theorem dX9_grown_41 : decode cX9_grown 41 = .ok (.getfield 77, 3) := by decide +kernel
theorem dX9_grown_44 : decode cX9_grown 44 = .ok (.iconst 0, 1) := by decide +kernel
theorem dX9_grown_45 : decode cX9_grown 45 = .ok (.aload_n 0, 1) := by decide +kernel
theorem dX9_grown_46 : decode cX9_grown 46 = .ok (.getfield 10, 3) := by decide +kernel
theorem dX9_grown_49 : decode cX9_grown 49 = .ok (.getfield 115, 3) := by decide +kernel
theorem dX9_grown_52 : decode cX9_grown 52 = .ok (.invokevirtual 212, 3) := by decide +kernel
theorem dX9_grown_55 : decode cX9_grown 55 = .ok (.ireturn, 1) := by decide +kernel
theorem dX9_tried_0 : decode cX9_tried 0 = .ok (.iload_n 1, 1) := by decide +kernel
theorem dX9_tried_1 : decode cX9_tried 1 = .ok (.ifCond .lt 28, 3) := by decide +kernel
theorem dX9_tried_4 : decode cX9_tried 4 = .ok (.iload_n 1, 1) := by decide +kernel
theorem dX9_tried_5 : decode cX9_tried 5 = .ok (.iconst 4, 1) := by decide +kernel
theorem dX9_tried_6 : decode cX9_tried 6 = .ok (.if_icmp .gt 23, 3) := by decide +kernel
theorem dX9_tried_9 : decode cX9_tried 9 = .ok (.iload_n 1, 1) := by decide +kernel
theorem dX9_tried_10 : decode cX9_tried 10 = .ok (.iconst 2, 1) := by decide +kernel
theorem dX9_tried_11 : decode cX9_tried 11 = .ok (.if_icmp .ne 14, 3) := by decide +kernel
theorem dX9_tried_14 : decode cX9_tried 14 = .ok (.aload_n 0, 1) := by decide +kernel
theorem dX9_tried_15 : decode cX9_tried 15 = .ok (.iload_n 2, 1) := by decide +kernel
theorem dX9_tried_16 : decode cX9_tried 16 = .ok (.invokevirtual 159, 3) := by decide +kernel
theorem dX9_tried_19 : decode cX9_tried 19 = .ok (.ifCond .ne 12, 3) := by decide +kernel
theorem dX9_tried_22 : decode cX9_tried 22 = .ok (.goto 7, 3) := by decide +kernel
theorem dX9_tried_25 : decode cX9_tried 25 = .ok (.iload_n 2, 1) := by decide +kernel
theorem dX9_tried_26 : decode cX9_tried 26 = .ok (.ifCond .eq 5, 3) := by decide +kernel
theorem dX9_tried_29 : decode cX9_tried 29 = .ok (.iconst (-1), 1) := by decide +kernel
theorem dX9_tried_30 : decode cX9_tried 30 = .ok (.ireturn, 1) := by decide +kernel
theorem dX9_tried_31 : decode cX9_tried 31 = .ok (.iload_n 1, 1) := by decide +kernel
theorem dX9_tried_32 : decode cX9_tried 32 = .ok (.iconst 2, 1) := by decide +kernel
theorem dX9_tried_33 : decode cX9_tried 33 = .ok (.if_icmp .ne 9, 3) := by decide +kernel
theorem dX9_tried_36 : decode cX9_tried 36 = .ok (.aload_n 0, 1) := by decide +kernel
theorem dX9_tried_37 : decode cX9_tried 37 = .ok (.iload_n 2, 1) := by decide +kernel
theorem dX9_tried_38 : decode cX9_tried 38 = .ok (.invokevirtual 304, 3) := by decide +kernel
theorem dX9_tried_41 : decode cX9_tried 41 = .ok (.ireturn, 1) := by decide +kernel
theorem dX9_tried_42 : decode cX9_tried 42 = .ok (.aload_n 0, 1) := by decide +kernel
theorem dX9_tried_43 : decode cX9_tried 43 = .ok (.getfield 74, 3) := by decide +kernel
theorem dX9_tried_46 : decode cX9_tried 46 = .ok (.aload_n 0, 1) := by decide +kernel
theorem dX9_tried_47 : decode cX9_tried 47 = .ok (.getfield 10, 3) := by decide +kernel
theorem dX9_tried_50 : decode cX9_tried 50 = .ok (.invokevirtual 132, 3) := by decide +kernel
theorem dX9_tried_53 : decode cX9_tried 53 = .ok (.iload_n 1, 1) := by decide +kernel
theorem dX9_tried_54 : decode cX9_tried 54 = .ok (.iconst 1, 1) := by decide +kernel
theorem dX9_tried_55 : decode cX9_tried 55 = .ok (.if_icmp .gt 14, 3) := by decide +kernel
theorem dX9_tried_58 : decode cX9_tried 58 = .ok (.aload_n 0, 1) := by decide +kernel
theorem dX9_tried_59 : decode cX9_tried 59 = .ok (.getfield 74, 3) := by decide +kernel
theorem dX9_tried_62 : decode cX9_tried 62 = .ok (.iload_n 1, 1) := by decide +kernel
theorem dX9_tried_63 : decode cX9_tried 63 = .ok (.putfield 238, 3) := by decide +kernel
theorem dX9_tried_66 : decode cX9_tried 66 = .ok (.goto 64, 3) := by decide +kernel
theorem dX9_tried_69 : decode cX9_tried 69 = .ok (.iload_n 1, 1) := by decide +kernel
theorem dX9_tried_70 : decode cX9_tried 70 = .ok (.iconst 3, 1) := by decide +kernel
theorem dX9_tried_71 : decode cX9_tried 71 = .ok (.if_icmp .ne 36, 3) := by decide +kernel
theorem dX9_tried_74 : decode cX9_tried 74 = .ok (.aload_n 0, 1) := by decide +kernel
theorem dX9_tried_75 : decode cX9_tried 75 = .ok (.getfield 74, 3) := by decide +kernel
theorem dX9_tried_78 : decode cX9_tried 78 = .ok (.aload_n 0, 1) := by decide +kernel
theorem dX9_tried_79 : decode cX9_tried 79 = .ok (.getfield 10, 3) := by decide +kernel
theorem dX9_tried_82 : decode cX9_tried 82 = .ok (.getfield 232, 3) := by decide +kernel
theorem dX9_tried_85 : decode cX9_tried 85 = .ok (.iconst 2, 1) := by decide +kernel
theorem dX9_tried_86 : decode cX9_tried 86 = .ok (.if_icmp .ne 7, 3) := by decide +kernel
theorem dX9_tried_89 : decode cX9_tried 89 = .ok (.iconst 4, 1) := by decide +kernel
theorem dX9_tried_90 : decode cX9_tried 90 = .ok (.goto 4, 3) := by decide +kernel
theorem dX9_tried_93 : decode cX9_tried 93 = .ok (.iconst 2, 1) := by decide +kernel
theorem dX9_tried_94 : decode cX9_tried 94 = .ok (.aload_n 0, 1) := by decide +kernel
theorem dX9_tried_95 : decode cX9_tried 95 = .ok (.getfield 10, 3) := by decide +kernel
theorem dX9_tried_98 : decode cX9_tried 98 = .ok (.getfield 235, 3) := by decide +kernel
theorem dX9_tried_101 : decode cX9_tried 101 = .ok (.invokevirtual 307, 3) := by decide +kernel
theorem dX9_tried_104 : decode cX9_tried 104 = .ok (.goto 26, 3) := by decide +kernel
theorem dX9_tried_107 : decode cX9_tried 107 = .ok (.aload_n 0, 1) := by decide +kernel
theorem dX9_tried_108 : decode cX9_tried 108 = .ok (.getfield 74, 3) := by decide +kernel
theorem dX9_tried_111 : decode cX9_tried 111 = .ok (.aload_n 0, 1) := by decide +kernel
theorem dX9_tried_112 : decode cX9_tried 112 = .ok (.getfield 10, 3) := by decide +kernel
theorem dX9_tried_115 : decode cX9_tried 115 = .ok (.getfield 232, 3) := by decide +kernel
theorem dX9_tried_118 : decode cX9_tried 118 = .ok (.iconst 1, 1) := by decide +kernel
theorem dX9_tried_119 : decode cX9_tried 119 = .ok (.aload_n 0, 1) := by decide +kernel
theorem dX9_tried_120 : decode cX9_tried 120 = .ok (.getfield 10, 3) := by decide +kernel
theorem dX9_tried_123 : decode cX9_tried 123 = .ok (.getfield 235, 3) := by decide +kernel
theorem dX9_tried_126 : decode cX9_tried 126 = .ok (.isub, 1) := by decide +kernel
theorem dX9_tried_127 : decode cX9_tried 127 = .ok (.invokevirtual 307, 3) := by decide +kernel
theorem dX9_tried_130 : decode cX9_tried 130 = .ok (.aload_n 0, 1) := by decide +kernel
theorem dX9_tried_131 : decode cX9_tried 131 = .ok (.getfield 77, 3) := by decide +kernel
theorem dX9_tried_134 : decode cX9_tried 134 = .ok (.aload_n 0, 1) := by decide +kernel
theorem dX9_tried_135 : decode cX9_tried 135 = .ok (.getfield 19, 3) := by decide +kernel
theorem dX9_tried_138 : decode cX9_tried 138 = .ok (.invokevirtual 298, 3) := by decide +kernel
theorem dX9_tried_141 : decode cX9_tried 141 = .ok (.aload_n 0, 1) := by decide +kernel
theorem dX9_tried_142 : decode cX9_tried 142 = .ok (.getfield 56, 3) := by decide +kernel
theorem dX9_tried_145 : decode cX9_tried 145 = .ok (.aload_n 0, 1) := by decide +kernel
theorem dX9_tried_146 : decode cX9_tried 146 = .ok (.getfield 77, 3) := by decide +kernel
theorem dX9_tried_149 : decode cX9_tried 149 = .ok (.aload_n 0, 1) := by decide +kernel
theorem dX9_tried_150 : decode cX9_tried 150 = .ok (.getfield 74, 3) := by decide +kernel
theorem dX9_tried_153 : decode cX9_tried 153 = .ok (.iconst 5, 1) := by decide +kernel
theorem dX9_tried_154 : decode cX9_tried 154 = .ok (.iconst 1, 1) := by decide +kernel
theorem dX9_tried_155 : decode cX9_tried 155 = .ok (.invokevirtual 282, 3) := by decide +kernel
theorem dX9_tried_158 : decode cX9_tried 158 = .ok (.ireturn, 1) := by decide +kernel
theorem dX9_expWithout_0 : decode cX9_expWithout 0 = .ok (.aload_n 0, 1) := by decide +kernel
theorem dX9_expWithout_1 : decode cX9_expWithout 1 = .ok (.getfield 77, 3) := by decide +kernel
theorem dX9_expWithout_4 : decode cX9_expWithout 4 = .ok (.aload_n 0, 1) := by decide +kernel
theorem dX9_expWithout_5 : decode cX9_expWithout 5 = .ok (.getfield 19, 3) := by decide +kernel
theorem dX9_expWithout_8 : decode cX9_expWithout 8 = .ok (.invokevirtual 298, 3) := by decide +kernel
theorem dX9_expWithout_11 : decode cX9_expWithout 11 = .ok (.aload_n 0, 1) := by decide +kernel
theorem dX9_expWithout_12 : decode cX9_expWithout 12 = .ok (.getfield 77, 3) := by decide +kernel
theorem dX9_expWithout_15 : decode cX9_expWithout 15 = .ok (.getfield 175, 3) := by decide +kernel
theorem dX9_expWithout_18 : decode cX9_expWithout 18 = .ok (.iload_n 1, 1) := by decide +kernel
theorem dX9_expWithout_19 : decode cX9_expWithout 19 = .ok (.iconst 0, 1) := by decide +kernel
theorem dX9_expWithout_20 : decode cX9_expWithout 20 = .ok (.iastore, 1) := by decide +kernel
theorem dX9_expWithout_21 : decode cX9_expWithout 21 = .ok (.aload_n 0, 1) := by decide +kernel
theorem dX9_expWithout_22 : decode cX9_expWithout 22 = .ok (.getfield 77, 3) := by decide +kernel
theorem dX9_expWithout_25 : decode cX9_expWithout 25 = .ok (.getfield 176, 3) := by decide +kernel
theorem dX9_expWithout_28 : decode cX9_expWithout 28 = .ok (.iload_n 1, 1) := by decide +kernel
theorem dX9_expWithout_29 : decode cX9_expWithout 29 = .ok (.iconst 0, 1) := by decide +kernel
theorem dX9_expWithout_30 : decode cX9_expWithout 30 = .ok (.iastore, 1) := by decide +kernel
theorem dX9_expWithout_31 : decode cX9_expWithout 31 = .ok (.aload_n 0, 1) := by decide +kernel
theorem dX9_expWithout_32 : decode cX9_expWithout 32 = .ok (.getfield 56, 3) := by decide +kernel
theorem dX9_expWithout_35 : decode cX9_expWithout 35 = .ok (.aload_n 0, 1) := by decide +kernel
theorem dX9_expWithout_36 : decode cX9_expWithout 36 = .ok (.getfield 77, 3) := by decide +kernel
theorem dX9_expWithout_39 : decode cX9_expWithout 39 = .ok (.aload_n 0, 1) := by decide +kernel
theorem dX9_expWithout_40 : decode cX9_expWithout 40 = .ok (.getfield 10, 3) := by decide +kernel
theorem dX9_expWithout_43 : decode cX9_expWithout 43 = .ok (.iconst 5, 1) := by decide +kernel
theorem dX9_expWithout_44 : decode cX9_expWithout 44 = .ok (.iconst 1, 1) := by decide +kernel
theorem dX9_expWithout_45 : decode cX9_expWithout 45 = .ok (.invokevirtual 282, 3) := by decide +kernel
theorem dX9_expWithout_48 : decode cX9_expWithout 48 = .ok (.ireturn, 1) := by decide +kernel
theorem dX9_loudest_0 : decode cX9_loudest 0 = .ok (.iconst 0, 1) := by decide +kernel
theorem dX9_loudest_1 : decode cX9_loudest 1 = .ok (.istore_n 1, 1) := by decide +kernel
theorem dX9_loudest_2 : decode cX9_loudest 2 = .ok (.ldc_w 310, 3) := by decide +kernel
theorem dX9_loudest_5 : decode cX9_loudest 5 = .ok (.istore_n 2, 1) := by decide +kernel
theorem dX9_loudest_6 : decode cX9_loudest 6 = .ok (.iconst 0, 1) := by decide +kernel
theorem dX9_loudest_7 : decode cX9_loudest 7 = .ok (.istore_n 3, 1) := by decide +kernel
theorem dX9_loudest_8 : decode cX9_loudest 8 = .ok (.iload_n 3, 1) := by decide +kernel
theorem dX9_loudest_9 : decode cX9_loudest 9 = .ok (.aload_n 0, 1) := by decide +kernel
theorem dX9_loudest_10 : decode cX9_loudest 10 = .ok (.getfield 10, 3) := by decide +kernel
theorem dX9_loudest_13 : decode cX9_loudest 13 = .ok (.getfield 115, 3) := by decide +kernel
theorem dX9_loudest_16 : decode cX9_loudest 16 = .ok (.if_icmp .ge 27, 3) := by decide +kernel
theorem dX9_loudest_19 : decode cX9_loudest 19 = .ok (.aload_n 0, 1) := by decide +kernel
theorem dX9_loudest_20 : decode cX9_loudest 20 = .ok (.iload_n 3, 1) := by decide +kernel
theorem dX9_loudest_21 : decode cX9_loudest 21 = .ok (.invokevirtual 304, 3) := by decide +kernel
theorem dX9_loudest_24 : decode cX9_loudest 24 = .ok (.istore 4, 2) := by decide +kernel
theorem dX9_loudest_26 : decode cX9_loudest 26 = .ok (.iload 4, 2) := by decide +kernel
theorem dX9_loudest_28 : decode cX9_loudest 28 = .ok (.iload_n 2, 1) := by decide +kernel
theorem dX9_loudest_29 : decode cX9_loudest 29 = .ok (.if_icmp .ge 8, 3) := by decide +kernel
theorem dX9_loudest_32 : decode cX9_loudest 32 = .ok (.iload 4, 2) := by decide +kernel
theorem dX9_loudest_34 : decode cX9_loudest 34 = .ok (.istore_n 2, 1) := by decide +kernel
theorem dX9_loudest_35 : decode cX9_loudest 35 = .ok (.iload_n 3, 1) := by decide +kernel
theorem dX9_loudest_36 : decode cX9_loudest 36 = .ok (.istore_n 1, 1) := by decide +kernel
theorem dX9_loudest_37 : decode cX9_loudest 37 = .ok (.iinc 3 1, 3) := by decide +kernel
theorem dX9_loudest_40 : decode cX9_loudest 40 = .ok (.goto (-32), 3) := by decide +kernel
theorem dX9_loudest_43 : decode cX9_loudest 43 = .ok (.iload_n 1, 1) := by decide +kernel
theorem dX9_loudest_44 : decode cX9_loudest 44 = .ok (.ireturn, 1) := by decide +kernel
theorem dX9_apart_0 : decode cX9_apart 0 = .ok (.aload_n 0, 1) := by decide +kernel
theorem dX9_apart_1 : decode cX9_apart 1 = .ok (.getfield 74, 3) := by decide +kernel
theorem dX9_apart_4 : decode cX9_apart 4 = .ok (.aload_n 0, 1) := by decide +kernel
theorem dX9_apart_5 : decode cX9_apart 5 = .ok (.getfield 10, 3) := by decide +kernel
theorem dX9_apart_8 : decode cX9_apart 8 = .ok (.invokevirtual 132, 3) := by decide +kernel
theorem dX9_apart_11 : decode cX9_apart 11 = .ok (.aload_n 0, 1) := by decide +kernel
theorem dX9_apart_12 : decode cX9_apart 12 = .ok (.getfield 74, 3) := by decide +kernel
theorem dX9_apart_15 : decode cX9_apart 15 = .ok (.aload_n 0, 1) := by decide +kernel
theorem dX9_apart_16 : decode cX9_apart 16 = .ok (.getfield 10, 3) := by decide +kernel
theorem dX9_apart_19 : decode cX9_apart 19 = .ok (.getfield 232, 3) := by decide +kernel
theorem dX9_apart_22 : decode cX9_apart 22 = .ok (.iconst 1, 1) := by decide +kernel
theorem dX9_apart_23 : decode cX9_apart 23 = .ok (.aload_n 0, 1) := by decide +kernel
theorem dX9_apart_24 : decode cX9_apart 24 = .ok (.getfield 10, 3) := by decide +kernel
theorem dX9_apart_27 : decode cX9_apart 27 = .ok (.getfield 235, 3) := by decide +kernel
theorem dX9_apart_30 : decode cX9_apart 30 = .ok (.isub, 1) := by decide +kernel
theorem dX9_apart_31 : decode cX9_apart 31 = .ok (.invokevirtual 307, 3) := by decide +kernel
theorem dX9_apart_34 : decode cX9_apart 34 = .ok (.aload_n 0, 1) := by decide +kernel
theorem dX9_apart_35 : decode cX9_apart 35 = .ok (.getfield 77, 3) := by decide +kernel
theorem dX9_apart_38 : decode cX9_apart 38 = .ok (.aload_n 0, 1) := by decide +kernel
theorem dX9_apart_39 : decode cX9_apart 39 = .ok (.getfield 19, 3) := by decide +kernel
theorem dX9_apart_42 : decode cX9_apart 42 = .ok (.invokevirtual 298, 3) := by decide +kernel
theorem dX9_apart_45 : decode cX9_apart 45 = .ok (.aload_n 0, 1) := by decide +kernel
theorem dX9_apart_46 : decode cX9_apart 46 = .ok (.getfield 80, 3) := by decide +kernel
theorem dX9_apart_49 : decode cX9_apart 49 = .ok (.aload_n 0, 1) := by decide +kernel
theorem dX9_apart_50 : decode cX9_apart 50 = .ok (.getfield 19, 3) := by decide +kernel
theorem dX9_apart_53 : decode cX9_apart 53 = .ok (.invokevirtual 298, 3) := by decide +kernel
theorem dX9_apart_56 : decode cX9_apart 56 = .ok (.aload_n 0, 1) := by decide +kernel
theorem dX9_apart_57 : decode cX9_apart 57 = .ok (.getfield 56, 3) := by decide +kernel
theorem dX9_apart_60 : decode cX9_apart 60 = .ok (.aload_n 0, 1) := by decide +kernel
theorem dX9_apart_61 : decode cX9_apart 61 = .ok (.getfield 77, 3) := by decide +kernel
theorem dX9_apart_64 : decode cX9_apart 64 = .ok (.aload_n 0, 1) := by decide +kernel
theorem dX9_apart_65 : decode cX9_apart 65 = .ok (.getfield 74, 3) := by decide +kernel
theorem dX9_apart_68 : decode cX9_apart 68 = .ok (.iconst 5, 1) := by decide +kernel
theorem dX9_apart_69 : decode cX9_apart 69 = .ok (.iconst 1, 1) := by decide +kernel
theorem dX9_apart_70 : decode cX9_apart 70 = .ok (.invokevirtual 282, 3) := by decide +kernel
theorem dX9_apart_73 : decode cX9_apart 73 = .ok (.pop, 1) := by decide +kernel
theorem dX9_apart_74 : decode cX9_apart 74 = .ok (.aload_n 0, 1) := by decide +kernel
theorem dX9_apart_75 : decode cX9_apart 75 = .ok (.getfield 56, 3) := by decide +kernel
theorem dX9_apart_78 : decode cX9_apart 78 = .ok (.aload_n 0, 1) := by decide +kernel
theorem dX9_apart_79 : decode cX9_apart 79 = .ok (.getfield 80, 3) := by decide +kernel
theorem dX9_apart_82 : decode cX9_apart 82 = .ok (.aload_n 0, 1) := by decide +kernel
theorem dX9_apart_83 : decode cX9_apart 83 = .ok (.getfield 10, 3) := by decide +kernel
theorem dX9_apart_86 : decode cX9_apart 86 = .ok (.iconst 5, 1) := by decide +kernel
theorem dX9_apart_87 : decode cX9_apart 87 = .ok (.iconst 1, 1) := by decide +kernel
theorem dX9_apart_88 : decode cX9_apart 88 = .ok (.invokevirtual 282, 3) := by decide +kernel
theorem dX9_apart_91 : decode cX9_apart 91 = .ok (.pop, 1) := by decide +kernel
theorem dX9_apart_92 : decode cX9_apart 92 = .ok (.lconst 0, 1) := by decide +kernel
theorem dX9_apart_93 : decode cX9_apart 93 = .ok (.lstore_n 1, 1) := by decide +kernel
theorem dX9_apart_94 : decode cX9_apart 94 = .ok (.iconst 0, 1) := by decide +kernel
theorem dX9_apart_95 : decode cX9_apart 95 = .ok (.istore_n 3, 1) := by decide +kernel
theorem dX9_apart_96 : decode cX9_apart 96 = .ok (.iload_n 3, 1) := by decide +kernel
theorem dX9_apart_97 : decode cX9_apart 97 = .ok (.aload_n 0, 1) := by decide +kernel
theorem dX9_apart_98 : decode cX9_apart 98 = .ok (.getfield 10, 3) := by decide +kernel
theorem dX9_apart_101 : decode cX9_apart 101 = .ok (.getfield 115, 3) := by decide +kernel
theorem dX9_apart_104 : decode cX9_apart 104 = .ok (.if_icmp .ge 109, 3) := by decide +kernel
theorem dX9_apart_107 : decode cX9_apart 107 = .ok (.aload_n 0, 1) := by decide +kernel
theorem dX9_apart_108 : decode cX9_apart 108 = .ok (.getfield 77, 3) := by decide +kernel
theorem dX9_apart_111 : decode cX9_apart 111 = .ok (.getfield 175, 3) := by decide +kernel
theorem dX9_apart_114 : decode cX9_apart 114 = .ok (.iload_n 3, 1) := by decide +kernel
theorem dX9_apart_115 : decode cX9_apart 115 = .ok (.iaload, 1) := by decide +kernel
theorem dX9_apart_116 : decode cX9_apart 116 = .ok (.aload_n 0, 1) := by decide +kernel
theorem dX9_apart_117 : decode cX9_apart 117 = .ok (.getfield 77, 3) := by decide +kernel
theorem dX9_apart_120 : decode cX9_apart 120 = .ok (.getfield 244, 3) := by decide +kernel
theorem dX9_apart_123 : decode cX9_apart 123 = .ok (.invokestatic 311, 3) := by decide +kernel
theorem dX9_apart_126 : decode cX9_apart 126 = .ok (.aload_n 0, 1) := by decide +kernel
theorem dX9_apart_127 : decode cX9_apart 127 = .ok (.getfield 80, 3) := by decide +kernel
theorem dX9_apart_130 : decode cX9_apart 130 = .ok (.getfield 175, 3) := by decide +kernel
theorem dX9_apart_133 : decode cX9_apart 133 = .ok (.iload_n 3, 1) := by decide +kernel
theorem dX9_apart_134 : decode cX9_apart 134 = .ok (.iaload, 1) := by decide +kernel
theorem dX9_apart_135 : decode cX9_apart 135 = .ok (.aload_n 0, 1) := by decide +kernel
theorem dX9_apart_136 : decode cX9_apart 136 = .ok (.getfield 80, 3) := by decide +kernel
theorem dX9_apart_139 : decode cX9_apart 139 = .ok (.getfield 244, 3) := by decide +kernel
theorem dX9_apart_142 : decode cX9_apart 142 = .ok (.invokestatic 311, 3) := by decide +kernel
theorem dX9_apart_145 : decode cX9_apart 145 = .ok (.lsub, 1) := by decide +kernel
theorem dX9_apart_146 : decode cX9_apart 146 = .ok (.lstore 4, 2) := by decide +kernel
theorem dX9_apart_148 : decode cX9_apart 148 = .ok (.aload_n 0, 1) := by decide +kernel
theorem dX9_apart_149 : decode cX9_apart 149 = .ok (.getfield 77, 3) := by decide +kernel
theorem dX9_apart_152 : decode cX9_apart 152 = .ok (.getfield 176, 3) := by decide +kernel
theorem dX9_apart_155 : decode cX9_apart 155 = .ok (.iload_n 3, 1) := by decide +kernel
theorem dX9_apart_156 : decode cX9_apart 156 = .ok (.iaload, 1) := by decide +kernel
theorem dX9_apart_157 : decode cX9_apart 157 = .ok (.aload_n 0, 1) := by decide +kernel
theorem dX9_apart_158 : decode cX9_apart 158 = .ok (.getfield 77, 3) := by decide +kernel
theorem dX9_apart_161 : decode cX9_apart 161 = .ok (.getfield 244, 3) := by decide +kernel
theorem dX9_apart_164 : decode cX9_apart 164 = .ok (.invokestatic 311, 3) := by decide +kernel
theorem dX9_apart_167 : decode cX9_apart 167 = .ok (.aload_n 0, 1) := by decide +kernel
theorem dX9_apart_168 : decode cX9_apart 168 = .ok (.getfield 80, 3) := by decide +kernel
theorem dX9_apart_171 : decode cX9_apart 171 = .ok (.getfield 176, 3) := by decide +kernel
theorem dX9_apart_174 : decode cX9_apart 174 = .ok (.iload_n 3, 1) := by decide +kernel
theorem dX9_apart_175 : decode cX9_apart 175 = .ok (.iaload, 1) := by decide +kernel
theorem dX9_apart_176 : decode cX9_apart 176 = .ok (.aload_n 0, 1) := by decide +kernel
theorem dX9_apart_177 : decode cX9_apart 177 = .ok (.getfield 80, 3) := by decide +kernel
theorem dX9_apart_180 : decode cX9_apart 180 = .ok (.getfield 244, 3) := by decide +kernel
theorem dX9_apart_183 : decode cX9_apart 183 = .ok (.invokestatic 311, 3) := by decide +kernel
theorem dX9_apart_186 : decode cX9_apart 186 = .ok (.lsub, 1) := by decide +kernel
theorem dX9_apart_187 : decode cX9_apart 187 = .ok (.lstore 6, 2) := by decide +kernel
theorem dX9_apart_189 : decode cX9_apart 189 = .ok (.lload_n 1, 1) := by decide +kernel
theorem dX9_apart_190 : decode cX9_apart 190 = .ok (.lload 4, 2) := by decide +kernel
theorem dX9_apart_192 : decode cX9_apart 192 = .ok (.invokestatic 315, 3) := by decide +kernel
theorem dX9_apart_195 : decode cX9_apart 195 = .ok (.lload 6, 2) := by decide +kernel
theorem dX9_apart_197 : decode cX9_apart 197 = .ok (.invokestatic 315, 3) := by decide +kernel
theorem dX9_apart_200 : decode cX9_apart 200 = .ok (.invokestatic 321, 3) := by decide +kernel
theorem dX9_apart_203 : decode cX9_apart 203 = .ok (.invokestatic 321, 3) := by decide +kernel
theorem dX9_apart_206 : decode cX9_apart 206 = .ok (.lstore_n 1, 1) := by decide +kernel
theorem dX9_apart_207 : decode cX9_apart 207 = .ok (.iinc 3 1, 3) := by decide +kernel
theorem dX9_apart_210 : decode cX9_apart 210 = .ok (.goto (-114), 3) := by decide +kernel
theorem dX9_apart_213 : decode cX9_apart 213 = .ok (.lload_n 1, 1) := by decide +kernel
theorem dX9_apart_214 : decode cX9_apart 214 = .ok (.lreturn, 1) := by decide +kernel
theorem dX9_returned_0 : decode cX9_returned 0 = .ok (.aload_n 0, 1) := by decide +kernel
theorem dX9_returned_1 : decode cX9_returned 1 = .ok (.getfield 77, 3) := by decide +kernel
theorem dX9_returned_4 : decode cX9_returned 4 = .ok (.aload_n 0, 1) := by decide +kernel
theorem dX9_returned_5 : decode cX9_returned 5 = .ok (.getfield 19, 3) := by decide +kernel
theorem dX9_returned_8 : decode cX9_returned 8 = .ok (.invokevirtual 298, 3) := by decide +kernel
theorem dX9_returned_11 : decode cX9_returned 11 = .ok (.aload_n 0, 1) := by decide +kernel
theorem dX9_returned_12 : decode cX9_returned 12 = .ok (.getfield 56, 3) := by decide +kernel
theorem dX9_returned_15 : decode cX9_returned 15 = .ok (.aload_n 0, 1) := by decide +kernel
theorem dX9_returned_16 : decode cX9_returned 16 = .ok (.getfield 77, 3) := by decide +kernel
theorem dX9_returned_19 : decode cX9_returned 19 = .ok (.aload_n 0, 1) := by decide +kernel
theorem dX9_returned_20 : decode cX9_returned 20 = .ok (.getfield 10, 3) := by decide +kernel
theorem dX9_returned_23 : decode cX9_returned 23 = .ok (.iconst 5, 1) := by decide +kernel
theorem dX9_returned_24 : decode cX9_returned 24 = .ok (.iconst 1, 1) := by decide +kernel
theorem dX9_returned_25 : decode cX9_returned 25 = .ok (.invokevirtual 282, 3) := by decide +kernel
theorem dX9_returned_28 : decode cX9_returned 28 = .ok (.istore_n 1, 1) := by decide +kernel
theorem dX9_returned_29 : decode cX9_returned 29 = .ok (.aload_n 0, 1) := by decide +kernel
theorem dX9_returned_30 : decode cX9_returned 30 = .ok (.getfield 77, 3) := by decide +kernel
theorem dX9_returned_33 : decode cX9_returned 33 = .ok (.aload_n 0, 1) := by decide +kernel
theorem dX9_returned_34 : decode cX9_returned 34 = .ok (.getfield 10, 3) := by decide +kernel
theorem dX9_returned_37 : decode cX9_returned 37 = .ok (.getfield 115, 3) := by decide +kernel
theorem dX9_returned_40 : decode cX9_returned 40 = .ok (.invokevirtual 289, 3) := by decide +kernel
theorem dX9_returned_43 : decode cX9_returned 43 = .ok (.iload_n 1, 1) := by decide +kernel
theorem dX9_returned_44 : decode cX9_returned 44 = .ok (.aload_n 0, 1) := by decide +kernel
theorem dX9_returned_45 : decode cX9_returned 45 = .ok (.getfield 56, 3) := by decide +kernel
theorem dX9_returned_48 : decode cX9_returned 48 = .ok (.aload_n 0, 1) := by decide +kernel
theorem dX9_returned_49 : decode cX9_returned 49 = .ok (.getfield 77, 3) := by decide +kernel
theorem dX9_returned_52 : decode cX9_returned 52 = .ok (.aload_n 0, 1) := by decide +kernel
theorem dX9_returned_53 : decode cX9_returned 53 = .ok (.getfield 10, 3) := by decide +kernel
theorem dX9_returned_56 : decode cX9_returned 56 = .ok (.iconst 5, 1) := by decide +kernel
theorem dX9_returned_57 : decode cX9_returned 57 = .ok (.iconst 1, 1) := by decide +kernel
theorem dX9_returned_58 : decode cX9_returned 58 = .ok (.invokevirtual 282, 3) := by decide +kernel
theorem dX9_returned_61 : decode cX9_returned 61 = .ok (.iadd, 1) := by decide +kernel
theorem dX9_returned_62 : decode cX9_returned 62 = .ok (.istore_n 1, 1) := by decide +kernel
theorem dX9_returned_63 : decode cX9_returned 63 = .ok (.lconst 0, 1) := by decide +kernel
theorem dX9_returned_64 : decode cX9_returned 64 = .ok (.lstore_n 2, 1) := by decide +kernel
theorem dX9_returned_65 : decode cX9_returned 65 = .ok (.iconst 0, 1) := by decide +kernel
theorem dX9_returned_66 : decode cX9_returned 66 = .ok (.istore 4, 2) := by decide +kernel
theorem dX9_returned_68 : decode cX9_returned 68 = .ok (.iload 4, 2) := by decide +kernel
theorem dX9_returned_70 : decode cX9_returned 70 = .ok (.aload_n 0, 1) := by decide +kernel
theorem dX9_returned_71 : decode cX9_returned 71 = .ok (.getfield 10, 3) := by decide +kernel
theorem dX9_returned_74 : decode cX9_returned 74 = .ok (.getfield 115, 3) := by decide +kernel
theorem dX9_returned_77 : decode cX9_returned 77 = .ok (.if_icmp .ge 101, 3) := by decide +kernel
theorem dX9_returned_80 : decode cX9_returned 80 = .ok (.aload_n 0, 1) := by decide +kernel
theorem dX9_returned_81 : decode cX9_returned 81 = .ok (.getfield 77, 3) := by decide +kernel
theorem dX9_returned_84 : decode cX9_returned 84 = .ok (.getfield 175, 3) := by decide +kernel
theorem dX9_returned_87 : decode cX9_returned 87 = .ok (.iload 4, 2) := by decide +kernel
theorem dX9_returned_89 : decode cX9_returned 89 = .ok (.iaload, 1) := by decide +kernel
theorem dX9_returned_90 : decode cX9_returned 90 = .ok (.iload_n 1, 1) := by decide +kernel
theorem dX9_returned_91 : decode cX9_returned 91 = .ok (.invokestatic 311, 3) := by decide +kernel
theorem dX9_returned_94 : decode cX9_returned 94 = .ok (.aload_n 0, 1) := by decide +kernel
theorem dX9_returned_95 : decode cX9_returned 95 = .ok (.getfield 19, 3) := by decide +kernel
theorem dX9_returned_98 : decode cX9_returned 98 = .ok (.getfield 177, 3) := by decide +kernel
theorem dX9_returned_101 : decode cX9_returned 101 = .ok (.iload 4, 2) := by decide +kernel
theorem dX9_returned_103 : decode cX9_returned 103 = .ok (.iaload, 1) := by decide +kernel
theorem dX9_returned_104 : decode cX9_returned 104 = .ok (.aload_n 0, 1) := by decide +kernel
theorem dX9_returned_105 : decode cX9_returned 105 = .ok (.getfield 10, 3) := by decide +kernel
theorem dX9_returned_108 : decode cX9_returned 108 = .ok (.getfield 108, 3) := by decide +kernel
theorem dX9_returned_111 : decode cX9_returned 111 = .ok (.invokestatic 311, 3) := by decide +kernel
theorem dX9_returned_114 : decode cX9_returned 114 = .ok (.lsub, 1) := by decide +kernel
theorem dX9_returned_115 : decode cX9_returned 115 = .ok (.lstore 5, 2) := by decide +kernel
theorem dX9_returned_117 : decode cX9_returned 117 = .ok (.aload_n 0, 1) := by decide +kernel
theorem dX9_returned_118 : decode cX9_returned 118 = .ok (.getfield 77, 3) := by decide +kernel
theorem dX9_returned_121 : decode cX9_returned 121 = .ok (.getfield 176, 3) := by decide +kernel
theorem dX9_returned_124 : decode cX9_returned 124 = .ok (.iload 4, 2) := by decide +kernel
theorem dX9_returned_126 : decode cX9_returned 126 = .ok (.iaload, 1) := by decide +kernel
theorem dX9_returned_127 : decode cX9_returned 127 = .ok (.iload_n 1, 1) := by decide +kernel
theorem dX9_returned_128 : decode cX9_returned 128 = .ok (.invokestatic 311, 3) := by decide +kernel
theorem dX9_returned_131 : decode cX9_returned 131 = .ok (.aload_n 0, 1) := by decide +kernel
theorem dX9_returned_132 : decode cX9_returned 132 = .ok (.getfield 19, 3) := by decide +kernel
theorem dX9_returned_135 : decode cX9_returned 135 = .ok (.getfield 180, 3) := by decide +kernel
theorem dX9_returned_138 : decode cX9_returned 138 = .ok (.iload 4, 2) := by decide +kernel
theorem dX9_returned_140 : decode cX9_returned 140 = .ok (.iaload, 1) := by decide +kernel
theorem dX9_returned_141 : decode cX9_returned 141 = .ok (.aload_n 0, 1) := by decide +kernel
theorem dX9_returned_142 : decode cX9_returned 142 = .ok (.getfield 10, 3) := by decide +kernel
theorem dX9_returned_145 : decode cX9_returned 145 = .ok (.getfield 108, 3) := by decide +kernel
theorem dX9_returned_148 : decode cX9_returned 148 = .ok (.invokestatic 311, 3) := by decide +kernel
theorem dX9_returned_151 : decode cX9_returned 151 = .ok (.lsub, 1) := by decide +kernel
theorem dX9_returned_152 : decode cX9_returned 152 = .ok (.lstore 7, 2) := by decide +kernel
theorem dX9_returned_154 : decode cX9_returned 154 = .ok (.lload_n 2, 1) := by decide +kernel
theorem dX9_returned_155 : decode cX9_returned 155 = .ok (.lload 5, 2) := by decide +kernel
theorem dX9_returned_157 : decode cX9_returned 157 = .ok (.invokestatic 315, 3) := by decide +kernel
theorem dX9_returned_160 : decode cX9_returned 160 = .ok (.lload 7, 2) := by decide +kernel
theorem dX9_returned_162 : decode cX9_returned 162 = .ok (.invokestatic 315, 3) := by decide +kernel
theorem dX9_returned_165 : decode cX9_returned 165 = .ok (.invokestatic 321, 3) := by decide +kernel
theorem dX9_returned_168 : decode cX9_returned 168 = .ok (.invokestatic 321, 3) := by decide +kernel
theorem dX9_returned_171 : decode cX9_returned 171 = .ok (.lstore_n 2, 1) := by decide +kernel
theorem dX9_returned_172 : decode cX9_returned 172 = .ok (.iinc 4 1, 3) := by decide +kernel
theorem dX9_returned_175 : decode cX9_returned 175 = .ok (.goto (-107), 3) := by decide +kernel
theorem dX9_returned_178 : decode cX9_returned 178 = .ok (.lload_n 2, 1) := by decide +kernel
theorem dX9_returned_179 : decode cX9_returned 179 = .ok (.lreturn, 1) := by decide +kernel
theorem dX9_scaled_0 : decode cX9_scaled 0 = .ok (.iload_n 0, 1) := by decide +kernel
theorem dX9_scaled_1 : decode cX9_scaled 1 = .ok (.i2l, 1) := by decide +kernel
theorem dX9_scaled_2 : decode cX9_scaled 2 = .ok (.iload_n 1, 1) := by decide +kernel
theorem dX9_scaled_3 : decode cX9_scaled 3 = .ok (.lshl, 1) := by decide +kernel
theorem dX9_scaled_4 : decode cX9_scaled 4 = .ok (.lreturn, 1) := by decide +kernel
theorem dX9_chance_0 : decode cX9_chance 0 = .ok (.iload_n 1, 1) := by decide +kernel
theorem dX9_chance_1 : decode cX9_chance 1 = .ok (.iconst (-1), 1) := by decide +kernel
theorem dX9_chance_2 : decode cX9_chance 2 = .ok (.if_icmp .lt 24, 3) := by decide +kernel
theorem dX9_chance_5 : decode cX9_chance 5 = .ok (.iload_n 2, 1) := by decide +kernel
theorem dX9_chance_6 : decode cX9_chance 6 = .ok (.iconst 1, 1) := by decide +kernel
theorem dX9_chance_7 : decode cX9_chance 7 = .ok (.if_icmp .lt 19, 3) := by decide +kernel
theorem dX9_chance_10 : decode cX9_chance 10 = .ok (.iload_n 2, 1) := by decide +kernel
theorem dX9_chance_11 : decode cX9_chance 11 = .ok (.bipush 99, 2) := by decide +kernel
theorem dX9_chance_13 : decode cX9_chance 13 = .ok (.if_icmp .gt 13, 3) := by decide +kernel
theorem dX9_chance_16 : decode cX9_chance 16 = .ok (.iload_n 3, 1) := by decide +kernel
theorem dX9_chance_17 : decode cX9_chance 17 = .ok (.ifCond .lt 9, 3) := by decide +kernel
theorem dX9_chance_20 : decode cX9_chance 20 = .ok (.iload_n 3, 1) := by decide +kernel
theorem dX9_chance_21 : decode cX9_chance 21 = .ok (.bipush 20, 2) := by decide +kernel
theorem dX9_chance_23 : decode cX9_chance 23 = .ok (.if_icmp .le 5, 3) := by decide +kernel
theorem dX9_chance_26 : decode cX9_chance 26 = .ok (.iconst (-1), 1) := by decide +kernel
theorem dX9_chance_27 : decode cX9_chance 27 = .ok (.ireturn, 1) := by decide +kernel
theorem dX9_chance_28 : decode cX9_chance 28 = .ok (.aload_n 0, 1) := by decide +kernel
theorem dX9_chance_29 : decode cX9_chance 29 = .ok (.iload_n 1, 1) := by decide +kernel
theorem dX9_chance_30 : decode cX9_chance 30 = .ok (.iload_n 2, 1) := by decide +kernel
theorem dX9_chance_31 : decode cX9_chance 31 = .ok (.iload_n 3, 1) := by decide +kernel
theorem dX9_chance_32 : decode cX9_chance 32 = .ok (.iconst 0, 1) := by decide +kernel
theorem dX9_chance_33 : decode cX9_chance 33 = .ok (.invokevirtual 324, 3) := by decide +kernel
theorem dX9_chance_36 : decode cX9_chance 36 = .ok (.ireturn, 1) := by decide +kernel
theorem dX9_noise_0 : decode cX9_noise 0 = .ok (.iload_n 1, 1) := by decide +kernel
theorem dX9_noise_1 : decode cX9_noise 1 = .ok (.iconst (-1), 1) := by decide +kernel
theorem dX9_noise_2 : decode cX9_noise 2 = .ok (.if_icmp .lt 13, 3) := by decide +kernel
theorem dX9_noise_5 : decode cX9_noise 5 = .ok (.iload_n 2, 1) := by decide +kernel
theorem dX9_noise_6 : decode cX9_noise 6 = .ok (.ifCond .lt 9, 3) := by decide +kernel
theorem dX9_noise_9 : decode cX9_noise 9 = .ok (.iload_n 2, 1) := by decide +kernel
theorem dX9_noise_10 : decode cX9_noise 10 = .ok (.bipush 20, 2) := by decide +kernel
theorem dX9_noise_12 : decode cX9_noise 12 = .ok (.if_icmp .le 5, 3) := by decide +kernel
theorem dX9_noise_15 : decode cX9_noise 15 = .ok (.iconst (-1), 1) := by decide +kernel
theorem dX9_noise_16 : decode cX9_noise 16 = .ok (.ireturn, 1) := by decide +kernel
theorem dX9_noise_17 : decode cX9_noise 17 = .ok (.iconst 1, 1) := by decide +kernel
theorem dX9_noise_18 : decode cX9_noise 18 = .ok (.istore_n 3, 1) := by decide +kernel
theorem dX9_noise_19 : decode cX9_noise 19 = .ok (.iload_n 3, 1) := by decide +kernel
theorem dX9_noise_20 : decode cX9_noise 20 = .ok (.bipush 99, 2) := by decide +kernel
theorem dX9_noise_22 : decode cX9_noise 22 = .ok (.if_icmp .gt 23, 3) := by decide +kernel
theorem dX9_noise_25 : decode cX9_noise 25 = .ok (.aload_n 0, 1) := by decide +kernel
theorem dX9_noise_26 : decode cX9_noise 26 = .ok (.iload_n 1, 1) := by decide +kernel
theorem dX9_noise_27 : decode cX9_noise 27 = .ok (.iload_n 3, 1) := by decide +kernel
theorem dX9_noise_28 : decode cX9_noise 28 = .ok (.iload_n 2, 1) := by decide +kernel
theorem dX9_noise_29 : decode cX9_noise 29 = .ok (.iconst 5, 1) := by decide +kernel
theorem dX9_noise_30 : decode cX9_noise 30 = .ok (.invokevirtual 324, 3) := by decide +kernel
theorem dX9_noise_33 : decode cX9_noise 33 = .ok (.iconst 5, 1) := by decide +kernel
theorem dX9_noise_34 : decode cX9_noise 34 = .ok (.if_icmp .lt 5, 3) := by decide +kernel
theorem dX9_noise_37 : decode cX9_noise 37 = .ok (.iload_n 3, 1) := by decide +kernel
theorem dX9_noise_38 : decode cX9_noise 38 = .ok (.ireturn, 1) := by decide +kernel
theorem dX9_noise_39 : decode cX9_noise 39 = .ok (.iinc 3 1, 3) := by decide +kernel
theorem dX9_noise_42 : decode cX9_noise 42 = .ok (.goto (-23), 3) := by decide +kernel
theorem dX9_noise_45 : decode cX9_noise 45 = .ok (.bipush (-2), 2) := by decide +kernel
theorem dX9_noise_47 : decode cX9_noise 47 = .ok (.ireturn, 1) := by decide +kernel
theorem dX9_noisyHits_0 : decode cX9_noisyHits 0 = .ok (.aload_n 0, 1) := by decide +kernel
theorem dX9_noisyHits_1 : decode cX9_noisyHits 1 = .ok (.getfield 70, 3) := by decide +kernel
theorem dX9_noisyHits_4 : decode cX9_noisyHits 4 = .ok (.iload_n 1, 1) := by decide +kernel
theorem dX9_noisyHits_5 : decode cX9_noisyHits 5 = .ok (.iconst (-1), 1) := by decide +kernel
theorem dX9_noisyHits_6 : decode cX9_noisyHits 6 = .ok (.if_icmp .ne 13, 3) := by decide +kernel
theorem dX9_noisyHits_9 : decode cX9_noisyHits 9 = .ok (.aload_n 0, 1) := by decide +kernel
theorem dX9_noisyHits_10 : decode cX9_noisyHits 10 = .ok (.getfield 10, 3) := by decide +kernel
theorem dX9_noisyHits_13 : decode cX9_noisyHits 13 = .ok (.getfield 328, 3) := by decide +kernel
theorem dX9_noisyHits_16 : decode cX9_noisyHits 16 = .ok (.goto 4, 3) := by decide +kernel
theorem dX9_noisyHits_19 : decode cX9_noisyHits 19 = .ok (.iload_n 1, 1) := by decide +kernel
theorem dX9_noisyHits_20 : decode cX9_noisyHits 20 = .ok (.putfield 331, 3) := by decide +kernel
theorem dX9_noisyHits_23 : decode cX9_noisyHits 23 = .ok (.iconst 0, 1) := by decide +kernel
theorem dX9_noisyHits_24 : decode cX9_noisyHits 24 = .ok (.istore 5, 2) := by decide +kernel
theorem dX9_noisyHits_26 : decode cX9_noisyHits 26 = .ok (.iconst 1, 1) := by decide +kernel
theorem dX9_noisyHits_27 : decode cX9_noisyHits 27 = .ok (.istore 6, 2) := by decide +kernel
theorem dX9_noisyHits_29 : decode cX9_noisyHits 29 = .ok (.iload 6, 2) := by decide +kernel
theorem dX9_noisyHits_31 : decode cX9_noisyHits 31 = .ok (.bipush 10, 2) := by decide +kernel
theorem dX9_noisyHits_33 : decode cX9_noisyHits 33 = .ok (.if_icmp .gt 77, 3) := by decide +kernel
theorem dX9_noisyHits_36 : decode cX9_noisyHits 36 = .ok (.aload_n 0, 1) := by decide +kernel
theorem dX9_noisyHits_37 : decode cX9_noisyHits 37 = .ok (.getfield 77, 3) := by decide +kernel
theorem dX9_noisyHits_40 : decode cX9_noisyHits 40 = .ok (.aload_n 0, 1) := by decide +kernel
theorem dX9_noisyHits_41 : decode cX9_noisyHits 41 = .ok (.getfield 19, 3) := by decide +kernel
theorem dX9_noisyHits_44 : decode cX9_noisyHits 44 = .ok (.invokevirtual 298, 3) := by decide +kernel
theorem dX9_noisyHits_47 : decode cX9_noisyHits 47 = .ok (.aload_n 0, 1) := by decide +kernel
theorem dX9_noisyHits_48 : decode cX9_noisyHits 48 = .ok (.iload_n 2, 1) := by decide +kernel
theorem dX9_noisyHits_49 : decode cX9_noisyHits 49 = .ok (.invokevirtual 334, 3) := by decide +kernel
theorem dX9_noisyHits_52 : decode cX9_noisyHits 52 = .ok (.aload_n 0, 1) := by decide +kernel
theorem dX9_noisyHits_53 : decode cX9_noisyHits 53 = .ok (.getfield 56, 3) := by decide +kernel
theorem dX9_noisyHits_56 : decode cX9_noisyHits 56 = .ok (.aload_n 0, 1) := by decide +kernel
theorem dX9_noisyHits_57 : decode cX9_noisyHits 57 = .ok (.getfield 77, 3) := by decide +kernel
theorem dX9_noisyHits_60 : decode cX9_noisyHits 60 = .ok (.aload_n 0, 1) := by decide +kernel
theorem dX9_noisyHits_61 : decode cX9_noisyHits 61 = .ok (.getfield 10, 3) := by decide +kernel
theorem dX9_noisyHits_64 : decode cX9_noisyHits 64 = .ok (.iconst 5, 1) := by decide +kernel
theorem dX9_noisyHits_65 : decode cX9_noisyHits 65 = .ok (.iconst 1, 1) := by decide +kernel
theorem dX9_noisyHits_66 : decode cX9_noisyHits 66 = .ok (.invokevirtual 282, 3) := by decide +kernel
theorem dX9_noisyHits_69 : decode cX9_noisyHits 69 = .ok (.iload_n 3, 1) := by decide +kernel
theorem dX9_noisyHits_70 : decode cX9_noisyHits 70 = .ok (.if_icmp .lt 6, 3) := by decide +kernel
theorem dX9_noisyHits_73 : decode cX9_noisyHits 73 = .ok (.iinc 5 1, 3) := by decide +kernel
theorem dX9_noisyHits_76 : decode cX9_noisyHits 76 = .ok (.iload 4, 2) := by decide +kernel
theorem dX9_noisyHits_78 : decode cX9_noisyHits 78 = .ok (.ifCond .le 26, 3) := by decide +kernel
theorem dX9_noisyHits_81 : decode cX9_noisyHits 81 = .ok (.iload 5, 2) := by decide +kernel
theorem dX9_noisyHits_83 : decode cX9_noisyHits 83 = .ok (.iload 4, 2) := by decide +kernel
theorem dX9_noisyHits_85 : decode cX9_noisyHits 85 = .ok (.if_icmp .ge 16, 3) := by decide +kernel
theorem dX9_noisyHits_88 : decode cX9_noisyHits 88 = .ok (.iload 5, 2) := by decide +kernel
theorem dX9_noisyHits_90 : decode cX9_noisyHits 90 = .ok (.bipush 10, 2) := by decide +kernel
theorem dX9_noisyHits_92 : decode cX9_noisyHits 92 = .ok (.iadd, 1) := by decide +kernel
theorem dX9_noisyHits_93 : decode cX9_noisyHits 93 = .ok (.iload 6, 2) := by decide +kernel
theorem dX9_noisyHits_95 : decode cX9_noisyHits 95 = .ok (.isub, 1) := by decide +kernel
theorem dX9_noisyHits_96 : decode cX9_noisyHits 96 = .ok (.iload 4, 2) := by decide +kernel
theorem dX9_noisyHits_98 : decode cX9_noisyHits 98 = .ok (.if_icmp .ge 6, 3) := by decide +kernel
theorem dX9_noisyHits_101 : decode cX9_noisyHits 101 = .ok (.iload 5, 2) := by decide +kernel
theorem dX9_noisyHits_103 : decode cX9_noisyHits 103 = .ok (.ireturn, 1) := by decide +kernel
theorem dX9_noisyHits_104 : decode cX9_noisyHits 104 = .ok (.iinc 6 1, 3) := by decide +kernel
theorem dX9_noisyHits_107 : decode cX9_noisyHits 107 = .ok (.goto (-78), 3) := by decide +kernel
theorem dX9_noisyHits_110 : decode cX9_noisyHits 110 = .ok (.iload 5, 2) := by decide +kernel
theorem dX9_noisyHits_112 : decode cX9_noisyHits 112 = .ok (.ireturn, 1) := by decide +kernel
theorem dX9_addNoise_0 : decode cX9_addNoise 0 = .ok (.iconst 0, 1) := by decide +kernel
theorem dX9_addNoise_1 : decode cX9_addNoise 1 = .ok (.istore_n 2, 1) := by decide +kernel
theorem dX9_addNoise_2 : decode cX9_addNoise 2 = .ok (.iload_n 2, 1) := by decide +kernel
theorem dX9_addNoise_3 : decode cX9_addNoise 3 = .ok (.aload_n 0, 1) := by decide +kernel
theorem dX9_addNoise_4 : decode cX9_addNoise 4 = .ok (.getfield 10, 3) := by decide +kernel
theorem dX9_addNoise_7 : decode cX9_addNoise 7 = .ok (.getfield 115, 3) := by decide +kernel
theorem dX9_addNoise_10 : decode cX9_addNoise 10 = .ok (.if_icmp .ge 71, 3) := by decide +kernel
theorem dX9_addNoise_13 : decode cX9_addNoise 13 = .ok (.aload_n 0, 1) := by decide +kernel
theorem dX9_addNoise_14 : decode cX9_addNoise 14 = .ok (.getfield 77, 3) := by decide +kernel
theorem dX9_addNoise_17 : decode cX9_addNoise 17 = .ok (.getfield 175, 3) := by decide +kernel
theorem dX9_addNoise_20 : decode cX9_addNoise 20 = .ok (.iload_n 2, 1) := by decide +kernel
theorem dX9_addNoise_21 : decode cX9_addNoise 21 = .ok (.aload_n 0, 1) := by decide +kernel
theorem dX9_addNoise_22 : decode cX9_addNoise 22 = .ok (.aload_n 0, 1) := by decide +kernel
theorem dX9_addNoise_23 : decode cX9_addNoise 23 = .ok (.getfield 77, 3) := by decide +kernel
theorem dX9_addNoise_26 : decode cX9_addNoise 26 = .ok (.getfield 175, 3) := by decide +kernel
theorem dX9_addNoise_29 : decode cX9_addNoise 29 = .ok (.iload_n 2, 1) := by decide +kernel
theorem dX9_addNoise_30 : decode cX9_addNoise 30 = .ok (.iaload, 1) := by decide +kernel
theorem dX9_addNoise_31 : decode cX9_addNoise 31 = .ok (.aload_n 0, 1) := by decide +kernel
theorem dX9_addNoise_32 : decode cX9_addNoise 32 = .ok (.getfield 70, 3) := by decide +kernel
theorem dX9_addNoise_35 : decode cX9_addNoise 35 = .ok (.iload_n 1, 1) := by decide +kernel
theorem dX9_addNoise_36 : decode cX9_addNoise 36 = .ok (.invokevirtual 337, 3) := by decide +kernel
theorem dX9_addNoise_39 : decode cX9_addNoise 39 = .ok (.iadd, 1) := by decide +kernel
theorem dX9_addNoise_40 : decode cX9_addNoise 40 = .ok (.invokevirtual 340, 3) := by decide +kernel
theorem dX9_addNoise_43 : decode cX9_addNoise 43 = .ok (.iastore, 1) := by decide +kernel
theorem dX9_addNoise_44 : decode cX9_addNoise 44 = .ok (.aload_n 0, 1) := by decide +kernel
theorem dX9_addNoise_45 : decode cX9_addNoise 45 = .ok (.getfield 77, 3) := by decide +kernel
theorem dX9_addNoise_48 : decode cX9_addNoise 48 = .ok (.getfield 176, 3) := by decide +kernel
theorem dX9_addNoise_51 : decode cX9_addNoise 51 = .ok (.iload_n 2, 1) := by decide +kernel
theorem dX9_addNoise_52 : decode cX9_addNoise 52 = .ok (.aload_n 0, 1) := by decide +kernel
theorem dX9_addNoise_53 : decode cX9_addNoise 53 = .ok (.aload_n 0, 1) := by decide +kernel
theorem dX9_addNoise_54 : decode cX9_addNoise 54 = .ok (.getfield 77, 3) := by decide +kernel
theorem dX9_addNoise_57 : decode cX9_addNoise 57 = .ok (.getfield 176, 3) := by decide +kernel
theorem dX9_addNoise_60 : decode cX9_addNoise 60 = .ok (.iload_n 2, 1) := by decide +kernel
theorem dX9_addNoise_61 : decode cX9_addNoise 61 = .ok (.iaload, 1) := by decide +kernel
theorem dX9_addNoise_62 : decode cX9_addNoise 62 = .ok (.aload_n 0, 1) := by decide +kernel
theorem dX9_addNoise_63 : decode cX9_addNoise 63 = .ok (.getfield 70, 3) := by decide +kernel
theorem dX9_addNoise_66 : decode cX9_addNoise 66 = .ok (.iload_n 1, 1) := by decide +kernel
theorem dX9_addNoise_67 : decode cX9_addNoise 67 = .ok (.invokevirtual 337, 3) := by decide +kernel
theorem dX9_addNoise_70 : decode cX9_addNoise 70 = .ok (.iadd, 1) := by decide +kernel
theorem dX9_addNoise_71 : decode cX9_addNoise 71 = .ok (.invokevirtual 340, 3) := by decide +kernel
theorem dX9_addNoise_74 : decode cX9_addNoise 74 = .ok (.iastore, 1) := by decide +kernel
theorem dX9_addNoise_75 : decode cX9_addNoise 75 = .ok (.iinc 2 1, 3) := by decide +kernel
theorem dX9_addNoise_78 : decode cX9_addNoise 78 = .ok (.goto (-76), 3) := by decide +kernel
theorem dX9_addNoise_81 : decode cX9_addNoise 81 = .ok (.return_, 1) := by decide +kernel
theorem dX9_kept_0 : decode cX9_kept 0 = .ok (.aload_n 0, 1) := by decide +kernel
theorem dX9_kept_1 : decode cX9_kept 1 = .ok (.getfield 10, 3) := by decide +kernel
theorem dX9_kept_4 : decode cX9_kept 4 = .ok (.getfield 220, 3) := by decide +kernel
theorem dX9_kept_7 : decode cX9_kept 7 = .ok (.ineg, 1) := by decide +kernel
theorem dX9_kept_8 : decode cX9_kept 8 = .ok (.aload_n 0, 1) := by decide +kernel
theorem dX9_kept_9 : decode cX9_kept 9 = .ok (.getfield 10, 3) := by decide +kernel
theorem dX9_kept_12 : decode cX9_kept 12 = .ok (.getfield 220, 3) := by decide +kernel
theorem dX9_kept_15 : decode cX9_kept 15 = .ok (.iload_n 1, 1) := by decide +kernel
theorem dX9_kept_16 : decode cX9_kept 16 = .ok (.invokestatic 343, 3) := by decide +kernel
theorem dX9_kept_19 : decode cX9_kept 19 = .ok (.invokestatic 346, 3) := by decide +kernel
theorem dX9_kept_22 : decode cX9_kept 22 = .ok (.ireturn, 1) := by decide +kernel
theorem dX9_directSum_0 : decode cX9_directSum 0 = .ok (.lconst 0, 1) := by decide +kernel
theorem dX9_directSum_1 : decode cX9_directSum 1 = .ok (.lstore_n 3, 1) := by decide +kernel
theorem dX9_directSum_2 : decode cX9_directSum 2 = .ok (.iconst 0, 1) := by decide +kernel
theorem dX9_directSum_3 : decode cX9_directSum 3 = .ok (.istore 5, 2) := by decide +kernel
theorem dX9_directSum_5 : decode cX9_directSum 5 = .ok (.iload 5, 2) := by decide +kernel
theorem dX9_directSum_7 : decode cX9_directSum 7 = .ok (.aload_n 0, 1) := by decide +kernel
theorem dX9_directSum_8 : decode cX9_directSum 8 = .ok (.getfield 10, 3) := by decide +kernel
theorem dX9_directSum_11 : decode cX9_directSum 11 = .ok (.getfield 115, 3) := by decide +kernel
theorem dX9_directSum_14 : decode cX9_directSum 14 = .ok (.if_icmp .ge 119, 3) := by decide +kernel
theorem dX9_directSum_17 : decode cX9_directSum 17 = .ok (.iload 5, 2) := by decide +kernel
theorem dX9_directSum_19 : decode cX9_directSum 19 = .ok (.iload_n 1, 1) := by decide +kernel
theorem dX9_directSum_20 : decode cX9_directSum 20 = .ok (.imul, 1) := by decide +kernel
theorem dX9_directSum_21 : decode cX9_directSum 21 = .ok (.aload_n 0, 1) := by decide +kernel
theorem dX9_directSum_22 : decode cX9_directSum 22 = .ok (.getfield 10, 3) := by decide +kernel
theorem dX9_directSum_25 : decode cX9_directSum 25 = .ok (.getfield 115, 3) := by decide +kernel
theorem dX9_directSum_28 : decode cX9_directSum 28 = .ok (.iconst 1, 1) := by decide +kernel
theorem dX9_directSum_29 : decode cX9_directSum 29 = .ok (.isub, 1) := by decide +kernel
theorem dX9_directSum_30 : decode cX9_directSum 30 = .ok (.iand, 1) := by decide +kernel
theorem dX9_directSum_31 : decode cX9_directSum 31 = .ok (.istore 6, 2) := by decide +kernel
theorem dX9_directSum_33 : decode cX9_directSum 33 = .ok (.aload_n 0, 1) := by decide +kernel
theorem dX9_directSum_34 : decode cX9_directSum 34 = .ok (.getfield 47, 3) := by decide +kernel
theorem dX9_directSum_37 : decode cX9_directSum 37 = .ok (.getfield 186, 3) := by decide +kernel
theorem dX9_directSum_40 : decode cX9_directSum 40 = .ok (.iload 6, 2) := by decide +kernel
theorem dX9_directSum_42 : decode cX9_directSum 42 = .ok (.iaload, 1) := by decide +kernel
theorem dX9_directSum_43 : decode cX9_directSum 43 = .ok (.i2l, 1) := by decide +kernel
theorem dX9_directSum_44 : decode cX9_directSum 44 = .ok (.lstore 7, 2) := by decide +kernel
theorem dX9_directSum_46 : decode cX9_directSum 46 = .ok (.aload_n 0, 1) := by decide +kernel
theorem dX9_directSum_47 : decode cX9_directSum 47 = .ok (.getfield 47, 3) := by decide +kernel
theorem dX9_directSum_50 : decode cX9_directSum 50 = .ok (.getfield 189, 3) := by decide +kernel
theorem dX9_directSum_53 : decode cX9_directSum 53 = .ok (.iload 6, 2) := by decide +kernel
theorem dX9_directSum_55 : decode cX9_directSum 55 = .ok (.iaload, 1) := by decide +kernel
theorem dX9_directSum_56 : decode cX9_directSum 56 = .ok (.i2l, 1) := by decide +kernel
theorem dX9_directSum_57 : decode cX9_directSum 57 = .ok (.lstore 9, 2) := by decide +kernel
theorem dX9_directSum_59 : decode cX9_directSum 59 = .ok (.lload_n 3, 1) := by decide +kernel
theorem dX9_directSum_60 : decode cX9_directSum 60 = .ok (.iload_n 2, 1) := by decide +kernel
theorem dX9_directSum_61 : decode cX9_directSum 61 = .ok (.ifCond .eq 35, 3) := by decide +kernel
theorem dX9_directSum_64 : decode cX9_directSum 64 = .ok (.aload_n 0, 1) := by decide +kernel
theorem dX9_directSum_65 : decode cX9_directSum 65 = .ok (.getfield 19, 3) := by decide +kernel
theorem dX9_directSum_68 : decode cX9_directSum 68 = .ok (.getfield 180, 3) := by decide +kernel
theorem dX9_directSum_71 : decode cX9_directSum 71 = .ok (.iload 5, 2) := by decide +kernel
theorem dX9_directSum_73 : decode cX9_directSum 73 = .ok (.iaload, 1) := by decide +kernel
theorem dX9_directSum_74 : decode cX9_directSum 74 = .ok (.i2l, 1) := by decide +kernel
theorem dX9_directSum_75 : decode cX9_directSum 75 = .ok (.lload 7, 2) := by decide +kernel
theorem dX9_directSum_77 : decode cX9_directSum 77 = .ok (.lmul, 1) := by decide +kernel
theorem dX9_directSum_78 : decode cX9_directSum 78 = .ok (.aload_n 0, 1) := by decide +kernel
theorem dX9_directSum_79 : decode cX9_directSum 79 = .ok (.getfield 19, 3) := by decide +kernel
theorem dX9_directSum_82 : decode cX9_directSum 82 = .ok (.getfield 177, 3) := by decide +kernel
theorem dX9_directSum_85 : decode cX9_directSum 85 = .ok (.iload 5, 2) := by decide +kernel
theorem dX9_directSum_87 : decode cX9_directSum 87 = .ok (.iaload, 1) := by decide +kernel
theorem dX9_directSum_88 : decode cX9_directSum 88 = .ok (.i2l, 1) := by decide +kernel
theorem dX9_directSum_89 : decode cX9_directSum 89 = .ok (.lload 9, 2) := by decide +kernel
theorem dX9_directSum_91 : decode cX9_directSum 91 = .ok (.lmul, 1) := by decide +kernel
theorem dX9_directSum_92 : decode cX9_directSum 92 = .ok (.lsub, 1) := by decide +kernel
theorem dX9_directSum_93 : decode cX9_directSum 93 = .ok (.goto 32, 3) := by decide +kernel
theorem dX9_directSum_96 : decode cX9_directSum 96 = .ok (.aload_n 0, 1) := by decide +kernel
theorem dX9_directSum_97 : decode cX9_directSum 97 = .ok (.getfield 19, 3) := by decide +kernel
theorem dX9_directSum_100 : decode cX9_directSum 100 = .ok (.getfield 177, 3) := by decide +kernel
theorem dX9_directSum_103 : decode cX9_directSum 103 = .ok (.iload 5, 2) := by decide +kernel
theorem dX9_directSum_105 : decode cX9_directSum 105 = .ok (.iaload, 1) := by decide +kernel
theorem dX9_directSum_106 : decode cX9_directSum 106 = .ok (.i2l, 1) := by decide +kernel
theorem dX9_directSum_107 : decode cX9_directSum 107 = .ok (.lload 7, 2) := by decide +kernel
theorem dX9_directSum_109 : decode cX9_directSum 109 = .ok (.lmul, 1) := by decide +kernel
theorem dX9_directSum_110 : decode cX9_directSum 110 = .ok (.aload_n 0, 1) := by decide +kernel
theorem dX9_directSum_111 : decode cX9_directSum 111 = .ok (.getfield 19, 3) := by decide +kernel
theorem dX9_directSum_114 : decode cX9_directSum 114 = .ok (.getfield 180, 3) := by decide +kernel
theorem dX9_directSum_117 : decode cX9_directSum 117 = .ok (.iload 5, 2) := by decide +kernel
theorem dX9_directSum_119 : decode cX9_directSum 119 = .ok (.iaload, 1) := by decide +kernel
theorem dX9_directSum_120 : decode cX9_directSum 120 = .ok (.i2l, 1) := by decide +kernel
theorem dX9_directSum_121 : decode cX9_directSum 121 = .ok (.lload 9, 2) := by decide +kernel
theorem dX9_directSum_123 : decode cX9_directSum 123 = .ok (.lmul, 1) := by decide +kernel
theorem dX9_directSum_124 : decode cX9_directSum 124 = .ok (.ladd, 1) := by decide +kernel
theorem dX9_directSum_125 : decode cX9_directSum 125 = .ok (.ladd, 1) := by decide +kernel
theorem dX9_directSum_126 : decode cX9_directSum 126 = .ok (.lstore_n 3, 1) := by decide +kernel
theorem dX9_directSum_127 : decode cX9_directSum 127 = .ok (.iinc 5 1, 3) := by decide +kernel
theorem dX9_directSum_130 : decode cX9_directSum 130 = .ok (.goto (-125), 3) := by decide +kernel
theorem dX9_directSum_133 : decode cX9_directSum 133 = .ok (.lload_n 3, 1) := by decide +kernel
theorem dX9_directSum_134 : decode cX9_directSum 134 = .ok (.lreturn, 1) := by decide +kernel
theorem dX9_fillSums_0 : decode cX9_fillSums 0 = .ok (.iconst 0, 1) := by decide +kernel
theorem dX9_fillSums_1 : decode cX9_fillSums 1 = .ok (.istore_n 1, 1) := by decide +kernel
theorem dX9_fillSums_2 : decode cX9_fillSums 2 = .ok (.iload_n 1, 1) := by decide +kernel
theorem dX9_fillSums_3 : decode cX9_fillSums 3 = .ok (.aload_n 0, 1) := by decide +kernel
theorem dX9_fillSums_4 : decode cX9_fillSums 4 = .ok (.getfield 10, 3) := by decide +kernel
theorem dX9_fillSums_7 : decode cX9_fillSums 7 = .ok (.getfield 115, 3) := by decide +kernel
theorem dX9_fillSums_10 : decode cX9_fillSums 10 = .ok (.if_icmp .ge 33, 3) := by decide +kernel
theorem dX9_fillSums_13 : decode cX9_fillSums 13 = .ok (.aload_n 0, 1) := by decide +kernel
theorem dX9_fillSums_14 : decode cX9_fillSums 14 = .ok (.getfield 83, 3) := by decide +kernel
theorem dX9_fillSums_17 : decode cX9_fillSums 17 = .ok (.iload_n 1, 1) := by decide +kernel
theorem dX9_fillSums_18 : decode cX9_fillSums 18 = .ok (.aload_n 0, 1) := by decide +kernel
theorem dX9_fillSums_19 : decode cX9_fillSums 19 = .ok (.iload_n 1, 1) := by decide +kernel
theorem dX9_fillSums_20 : decode cX9_fillSums 20 = .ok (.iconst 0, 1) := by decide +kernel
theorem dX9_fillSums_21 : decode cX9_fillSums 21 = .ok (.invokevirtual 348, 3) := by decide +kernel
theorem dX9_fillSums_24 : decode cX9_fillSums 24 = .ok (.lastore, 1) := by decide +kernel
theorem dX9_fillSums_25 : decode cX9_fillSums 25 = .ok (.aload_n 0, 1) := by decide +kernel
theorem dX9_fillSums_26 : decode cX9_fillSums 26 = .ok (.getfield 87, 3) := by decide +kernel
theorem dX9_fillSums_29 : decode cX9_fillSums 29 = .ok (.iload_n 1, 1) := by decide +kernel
theorem dX9_fillSums_30 : decode cX9_fillSums 30 = .ok (.aload_n 0, 1) := by decide +kernel
theorem dX9_fillSums_31 : decode cX9_fillSums 31 = .ok (.iload_n 1, 1) := by decide +kernel
theorem dX9_fillSums_32 : decode cX9_fillSums 32 = .ok (.iconst 1, 1) := by decide +kernel
theorem dX9_fillSums_33 : decode cX9_fillSums 33 = .ok (.invokevirtual 348, 3) := by decide +kernel
theorem dX9_fillSums_36 : decode cX9_fillSums 36 = .ok (.lastore, 1) := by decide +kernel
theorem dX9_fillSums_37 : decode cX9_fillSums 37 = .ok (.iinc 1 1, 3) := by decide +kernel
theorem dX9_fillSums_40 : decode cX9_fillSums 40 = .ok (.goto (-38), 3) := by decide +kernel
theorem dX9_fillSums_43 : decode cX9_fillSums 43 = .ok (.return_, 1) := by decide +kernel
theorem dX9_offSums_0 : decode cX9_offSums 0 = .ok (.aload_n 1, 1) := by decide +kernel
theorem dX9_offSums_1 : decode cX9_offSums 1 = .ok (.getfield 175, 3) := by decide +kernel
theorem dX9_offSums_4 : decode cX9_offSums 4 = .ok (.iload_n 2, 1) := by decide +kernel
theorem dX9_offSums_5 : decode cX9_offSums 5 = .ok (.iaload, 1) := by decide +kernel
theorem dX9_offSums_6 : decode cX9_offSums 6 = .ok (.aload_n 1, 1) := by decide +kernel
theorem dX9_offSums_7 : decode cX9_offSums 7 = .ok (.getfield 244, 3) := by decide +kernel
theorem dX9_offSums_10 : decode cX9_offSums 10 = .ok (.invokestatic 311, 3) := by decide +kernel
theorem dX9_offSums_13 : decode cX9_offSums 13 = .ok (.ldc2_w 272, 3) := by decide +kernel
theorem dX9_offSums_16 : decode cX9_offSums 16 = .ok (.lmul, 1) := by decide +kernel
theorem dX9_offSums_17 : decode cX9_offSums 17 = .ok (.aload_n 0, 1) := by decide +kernel
theorem dX9_offSums_18 : decode cX9_offSums 18 = .ok (.getfield 83, 3) := by decide +kernel
theorem dX9_offSums_21 : decode cX9_offSums 21 = .ok (.iload_n 2, 1) := by decide +kernel
theorem dX9_offSums_22 : decode cX9_offSums 22 = .ok (.laload, 1) := by decide +kernel
theorem dX9_offSums_23 : decode cX9_offSums 23 = .ok (.lsub, 1) := by decide +kernel
theorem dX9_offSums_24 : decode cX9_offSums 24 = .ok (.lstore_n 3, 1) := by decide +kernel
theorem dX9_offSums_25 : decode cX9_offSums 25 = .ok (.aload_n 1, 1) := by decide +kernel
theorem dX9_offSums_26 : decode cX9_offSums 26 = .ok (.getfield 176, 3) := by decide +kernel
theorem dX9_offSums_29 : decode cX9_offSums 29 = .ok (.iload_n 2, 1) := by decide +kernel
theorem dX9_offSums_30 : decode cX9_offSums 30 = .ok (.iaload, 1) := by decide +kernel
theorem dX9_offSums_31 : decode cX9_offSums 31 = .ok (.aload_n 1, 1) := by decide +kernel
theorem dX9_offSums_32 : decode cX9_offSums 32 = .ok (.getfield 244, 3) := by decide +kernel
theorem dX9_offSums_35 : decode cX9_offSums 35 = .ok (.invokestatic 311, 3) := by decide +kernel
theorem dX9_offSums_38 : decode cX9_offSums 38 = .ok (.ldc2_w 272, 3) := by decide +kernel
theorem dX9_offSums_41 : decode cX9_offSums 41 = .ok (.lmul, 1) := by decide +kernel
theorem dX9_offSums_42 : decode cX9_offSums 42 = .ok (.aload_n 0, 1) := by decide +kernel
theorem dX9_offSums_43 : decode cX9_offSums 43 = .ok (.getfield 87, 3) := by decide +kernel
theorem dX9_offSums_46 : decode cX9_offSums 46 = .ok (.iload_n 2, 1) := by decide +kernel
theorem dX9_offSums_47 : decode cX9_offSums 47 = .ok (.laload, 1) := by decide +kernel
theorem dX9_offSums_48 : decode cX9_offSums 48 = .ok (.lsub, 1) := by decide +kernel
theorem dX9_offSums_49 : decode cX9_offSums 49 = .ok (.lstore 5, 2) := by decide +kernel
theorem dX9_offSums_51 : decode cX9_offSums 51 = .ok (.lload_n 3, 1) := by decide +kernel
theorem dX9_offSums_52 : decode cX9_offSums 52 = .ok (.invokestatic 315, 3) := by decide +kernel
theorem dX9_offSums_55 : decode cX9_offSums 55 = .ok (.lload 5, 2) := by decide +kernel
theorem dX9_offSums_57 : decode cX9_offSums 57 = .ok (.invokestatic 315, 3) := by decide +kernel
theorem dX9_offSums_60 : decode cX9_offSums 60 = .ok (.invokestatic 321, 3) := by decide +kernel
theorem dX9_offSums_63 : decode cX9_offSums 63 = .ok (.lreturn, 1) := by decide +kernel
theorem dX9_worstPlace_0 : decode cX9_worstPlace 0 = .ok (.iconst 0, 1) := by decide +kernel
theorem dX9_worstPlace_1 : decode cX9_worstPlace 1 = .ok (.istore_n 2, 1) := by decide +kernel
theorem dX9_worstPlace_2 : decode cX9_worstPlace 2 = .ok (.iconst 1, 1) := by decide +kernel
theorem dX9_worstPlace_3 : decode cX9_worstPlace 3 = .ok (.istore_n 3, 1) := by decide +kernel
theorem dX9_worstPlace_4 : decode cX9_worstPlace 4 = .ok (.iload_n 3, 1) := by decide +kernel
theorem dX9_worstPlace_5 : decode cX9_worstPlace 5 = .ok (.aload_n 0, 1) := by decide +kernel
theorem dX9_worstPlace_6 : decode cX9_worstPlace 6 = .ok (.getfield 10, 3) := by decide +kernel
theorem dX9_worstPlace_9 : decode cX9_worstPlace 9 = .ok (.getfield 115, 3) := by decide +kernel
theorem dX9_worstPlace_12 : decode cX9_worstPlace 12 = .ok (.if_icmp .ge 27, 3) := by decide +kernel
theorem dX9_worstPlace_15 : decode cX9_worstPlace 15 = .ok (.aload_n 0, 1) := by decide +kernel
theorem dX9_worstPlace_16 : decode cX9_worstPlace 16 = .ok (.aload_n 1, 1) := by decide +kernel
theorem dX9_worstPlace_17 : decode cX9_worstPlace 17 = .ok (.iload_n 3, 1) := by decide +kernel
theorem dX9_worstPlace_18 : decode cX9_worstPlace 18 = .ok (.invokevirtual 352, 3) := by decide +kernel
theorem dX9_worstPlace_21 : decode cX9_worstPlace 21 = .ok (.aload_n 0, 1) := by decide +kernel
theorem dX9_worstPlace_22 : decode cX9_worstPlace 22 = .ok (.aload_n 1, 1) := by decide +kernel
theorem dX9_worstPlace_23 : decode cX9_worstPlace 23 = .ok (.iload_n 2, 1) := by decide +kernel
theorem dX9_worstPlace_24 : decode cX9_worstPlace 24 = .ok (.invokevirtual 352, 3) := by decide +kernel
theorem dX9_worstPlace_27 : decode cX9_worstPlace 27 = .ok (.lcmp, 1) := by decide +kernel
theorem dX9_worstPlace_28 : decode cX9_worstPlace 28 = .ok (.ifCond .le 5, 3) := by decide +kernel
theorem dX9_worstPlace_31 : decode cX9_worstPlace 31 = .ok (.iload_n 3, 1) := by decide +kernel
theorem dX9_worstPlace_32 : decode cX9_worstPlace 32 = .ok (.istore_n 2, 1) := by decide +kernel
theorem dX9_worstPlace_33 : decode cX9_worstPlace 33 = .ok (.iinc 3 1, 3) := by decide +kernel
theorem dX9_worstPlace_36 : decode cX9_worstPlace 36 = .ok (.goto (-32), 3) := by decide +kernel
theorem dX9_worstPlace_39 : decode cX9_worstPlace 39 = .ok (.iload_n 2, 1) := by decide +kernel
theorem dX9_worstPlace_40 : decode cX9_worstPlace 40 = .ok (.ireturn, 1) := by decide +kernel
theorem dX9_direct_0 : decode cX9_direct 0 = .ok (.aload_n 0, 1) := by decide +kernel
theorem dX9_direct_1 : decode cX9_direct 1 = .ok (.iload_n 1, 1) := by decide +kernel
theorem dX9_direct_2 : decode cX9_direct 2 = .ok (.invokevirtual 159, 3) := by decide +kernel
theorem dX9_direct_5 : decode cX9_direct 5 = .ok (.ifCond .eq 12, 3) := by decide +kernel
theorem dX9_direct_8 : decode cX9_direct 8 = .ok (.iload_n 2, 1) := by decide +kernel
theorem dX9_direct_9 : decode cX9_direct 9 = .ok (.ifCond .lt 8, 3) := by decide +kernel
theorem dX9_direct_12 : decode cX9_direct 12 = .ok (.iload_n 2, 1) := by decide +kernel
theorem dX9_direct_13 : decode cX9_direct 13 = .ok (.iconst 1, 1) := by decide +kernel
theorem dX9_direct_14 : decode cX9_direct 14 = .ok (.if_icmp .le 7, 3) := by decide +kernel
theorem dX9_direct_17 : decode cX9_direct 17 = .ok (.ldc2_w 358, 3) := by decide +kernel
theorem dX9_direct_20 : decode cX9_direct 20 = .ok (.lreturn, 1) := by decide +kernel
theorem dX9_direct_21 : decode cX9_direct 21 = .ok (.aload_n 0, 1) := by decide +kernel
theorem dX9_direct_22 : decode cX9_direct 22 = .ok (.iload_n 1, 1) := by decide +kernel
theorem dX9_direct_23 : decode cX9_direct 23 = .ok (.iload_n 2, 1) := by decide +kernel
theorem dX9_direct_24 : decode cX9_direct 24 = .ok (.iconst 1, 1) := by decide +kernel
theorem dX9_direct_25 : decode cX9_direct 25 = .ok (.if_icmp .ne 7, 3) := by decide +kernel
theorem dX9_direct_28 : decode cX9_direct 28 = .ok (.iconst 1, 1) := by decide +kernel
theorem dX9_direct_29 : decode cX9_direct 29 = .ok (.goto 4, 3) := by decide +kernel
theorem dX9_direct_32 : decode cX9_direct 32 = .ok (.iconst 0, 1) := by decide +kernel
theorem dX9_direct_33 : decode cX9_direct 33 = .ok (.invokevirtual 348, 3) := by decide +kernel
theorem dX9_direct_36 : decode cX9_direct 36 = .ok (.lreturn, 1) := by decide +kernel
theorem dX9_off_0 : decode cX9_off 0 = .ok (.aload_n 0, 1) := by decide +kernel
theorem dX9_off_1 : decode cX9_off 1 = .ok (.iload_n 1, 1) := by decide +kernel
theorem dX9_off_2 : decode cX9_off 2 = .ok (.invokevirtual 159, 3) := by decide +kernel
theorem dX9_off_5 : decode cX9_off 5 = .ok (.ifCond .ne 7, 3) := by decide +kernel
theorem dX9_off_8 : decode cX9_off 8 = .ok (.ldc2_w 223, 3) := by decide +kernel
theorem dX9_off_11 : decode cX9_off 11 = .ok (.lreturn, 1) := by decide +kernel
theorem dX9_off_12 : decode cX9_off 12 = .ok (.aload_n 0, 1) := by decide +kernel
theorem dX9_off_13 : decode cX9_off 13 = .ok (.invokevirtual 286, 3) := by decide +kernel
theorem dX9_off_16 : decode cX9_off 16 = .ok (.ifCond .ne 7, 3) := by decide +kernel
theorem dX9_off_19 : decode cX9_off 19 = .ok (.ldc2_w 360, 3) := by decide +kernel
theorem dX9_off_22 : decode cX9_off 22 = .ok (.lreturn, 1) := by decide +kernel
theorem dX9_off_23 : decode cX9_off 23 = .ok (.aload_n 0, 1) := by decide +kernel
theorem dX9_off_24 : decode cX9_off 24 = .ok (.invokevirtual 362, 3) := by decide +kernel
theorem dX9_off_27 : decode cX9_off 27 = .ok (.aload_n 0, 1) := by decide +kernel
theorem dX9_off_28 : decode cX9_off 28 = .ok (.aload_n 0, 1) := by decide +kernel
theorem dX9_off_29 : decode cX9_off 29 = .ok (.getfield 19, 3) := by decide +kernel
theorem dX9_off_32 : decode cX9_off 32 = .ok (.iload_n 1, 1) := by decide +kernel
theorem dX9_off_33 : decode cX9_off 33 = .ok (.invokevirtual 352, 3) := by decide +kernel
theorem dX9_off_36 : decode cX9_off 36 = .ok (.lreturn, 1) := by decide +kernel
theorem dX9_worst_0 : decode cX9_worst 0 = .ok (.iload_n 1, 1) := by decide +kernel
theorem dX9_worst_1 : decode cX9_worst 1 = .ok (.ifCond .lt 8, 3) := by decide +kernel
theorem dX9_worst_4 : decode cX9_worst 4 = .ok (.iload_n 1, 1) := by decide +kernel
theorem dX9_worst_5 : decode cX9_worst 5 = .ok (.iconst 1, 1) := by decide +kernel
theorem dX9_worst_6 : decode cX9_worst 6 = .ok (.if_icmp .le 7, 3) := by decide +kernel
theorem dX9_worst_9 : decode cX9_worst 9 = .ok (.ldc2_w 223, 3) := by decide +kernel
theorem dX9_worst_12 : decode cX9_worst 12 = .ok (.lreturn, 1) := by decide +kernel
theorem dX9_worst_13 : decode cX9_worst 13 = .ok (.aload_n 0, 1) := by decide +kernel
theorem dX9_worst_14 : decode cX9_worst 14 = .ok (.invokevirtual 286, 3) := by decide +kernel
theorem dX9_worst_17 : decode cX9_worst 17 = .ok (.ifCond .ne 7, 3) := by decide +kernel
theorem dX9_worst_20 : decode cX9_worst 20 = .ok (.ldc2_w 360, 3) := by decide +kernel
theorem dX9_worst_23 : decode cX9_worst 23 = .ok (.lreturn, 1) := by decide +kernel
theorem dX9_worst_24 : decode cX9_worst 24 = .ok (.aload_n 0, 1) := by decide +kernel
theorem dX9_worst_25 : decode cX9_worst 25 = .ok (.invokevirtual 362, 3) := by decide +kernel
theorem dX9_worst_28 : decode cX9_worst 28 = .ok (.aload_n 0, 1) := by decide +kernel
theorem dX9_worst_29 : decode cX9_worst 29 = .ok (.aload_n 0, 1) := by decide +kernel
theorem dX9_worst_30 : decode cX9_worst 30 = .ok (.getfield 19, 3) := by decide +kernel
theorem dX9_worst_33 : decode cX9_worst 33 = .ok (.invokevirtual 365, 3) := by decide +kernel
theorem dX9_worst_36 : decode cX9_worst 36 = .ok (.istore_n 2, 1) := by decide +kernel
theorem dX9_worst_37 : decode cX9_worst 37 = .ok (.iload_n 1, 1) := by decide +kernel
theorem dX9_worst_38 : decode cX9_worst 38 = .ok (.iconst 1, 1) := by decide +kernel
theorem dX9_worst_39 : decode cX9_worst 39 = .ok (.if_icmp .ne 8, 3) := by decide +kernel
theorem dX9_worst_42 : decode cX9_worst 42 = .ok (.iload_n 2, 1) := by decide +kernel
theorem dX9_worst_43 : decode cX9_worst 43 = .ok (.i2l, 1) := by decide +kernel
theorem dX9_worst_44 : decode cX9_worst 44 = .ok (.goto 12, 3) := by decide +kernel
theorem dX9_worst_47 : decode cX9_worst 47 = .ok (.aload_n 0, 1) := by decide +kernel
theorem dX9_worst_48 : decode cX9_worst 48 = .ok (.aload_n 0, 1) := by decide +kernel
theorem dX9_worst_49 : decode cX9_worst 49 = .ok (.getfield 19, 3) := by decide +kernel
theorem dX9_worst_52 : decode cX9_worst 52 = .ok (.iload_n 2, 1) := by decide +kernel
theorem dX9_worst_53 : decode cX9_worst 53 = .ok (.invokevirtual 352, 3) := by decide +kernel
theorem dX9_worst_56 : decode cX9_worst 56 = .ok (.lreturn, 1) := by decide +kernel
theorem dX9_best_0 : decode cX9_best 0 = .ok (.aload_n 0, 1) := by decide +kernel
theorem dX9_best_1 : decode cX9_best 1 = .ok (.invokevirtual 362, 3) := by decide +kernel
theorem dX9_best_4 : decode cX9_best 4 = .ok (.iconst 0, 1) := by decide +kernel
theorem dX9_best_5 : decode cX9_best 5 = .ok (.istore_n 1, 1) := by decide +kernel
theorem dX9_best_6 : decode cX9_best 6 = .ok (.ldc2_w 369, 3) := by decide +kernel
theorem dX9_best_9 : decode cX9_best 9 = .ok (.lstore_n 2, 1) := by decide +kernel
theorem dX9_best_10 : decode cX9_best 10 = .ok (.iconst 0, 1) := by decide +kernel
theorem dX9_best_11 : decode cX9_best 11 = .ok (.istore 4, 2) := by decide +kernel
theorem dX9_best_13 : decode cX9_best 13 = .ok (.iload 4, 2) := by decide +kernel
theorem dX9_best_15 : decode cX9_best 15 = .ok (.bipush 8, 2) := by decide +kernel
theorem dX9_best_17 : decode cX9_best 17 = .ok (.if_icmp .ge 114, 3) := by decide +kernel
theorem dX9_best_20 : decode cX9_best 20 = .ok (.aload_n 0, 1) := by decide +kernel
theorem dX9_best_21 : decode cX9_best 21 = .ok (.getfield 74, 3) := by decide +kernel
theorem dX9_best_24 : decode cX9_best 24 = .ok (.aload_n 0, 1) := by decide +kernel
theorem dX9_best_25 : decode cX9_best 25 = .ok (.getfield 10, 3) := by decide +kernel
theorem dX9_best_28 : decode cX9_best 28 = .ok (.invokevirtual 132, 3) := by decide +kernel
theorem dX9_best_31 : decode cX9_best 31 = .ok (.aload_n 0, 1) := by decide +kernel
theorem dX9_best_32 : decode cX9_best 32 = .ok (.getfield 74, 3) := by decide +kernel
theorem dX9_best_35 : decode cX9_best 35 = .ok (.iload 4, 2) := by decide +kernel
theorem dX9_best_37 : decode cX9_best 37 = .ok (.iconst 1, 1) := by decide +kernel
theorem dX9_best_38 : decode cX9_best 38 = .ok (.iand, 1) := by decide +kernel
theorem dX9_best_39 : decode cX9_best 39 = .ok (.putfield 238, 3) := by decide +kernel
theorem dX9_best_42 : decode cX9_best 42 = .ok (.aload_n 0, 1) := by decide +kernel
theorem dX9_best_43 : decode cX9_best 43 = .ok (.getfield 74, 3) := by decide +kernel
theorem dX9_best_46 : decode cX9_best 46 = .ok (.iload 4, 2) := by decide +kernel
theorem dX9_best_48 : decode cX9_best 48 = .ok (.iconst 2, 1) := by decide +kernel
theorem dX9_best_49 : decode cX9_best 49 = .ok (.iand, 1) := by decide +kernel
theorem dX9_best_50 : decode cX9_best 50 = .ok (.ifCond .ne 7, 3) := by decide +kernel
theorem dX9_best_53 : decode cX9_best 53 = .ok (.iconst 2, 1) := by decide +kernel
theorem dX9_best_54 : decode cX9_best 54 = .ok (.goto 4, 3) := by decide +kernel
theorem dX9_best_57 : decode cX9_best 57 = .ok (.iconst 4, 1) := by decide +kernel
theorem dX9_best_58 : decode cX9_best 58 = .ok (.iload 4, 2) := by decide +kernel
theorem dX9_best_60 : decode cX9_best 60 = .ok (.iconst 2, 1) := by decide +kernel
theorem dX9_best_61 : decode cX9_best 61 = .ok (.ishr, 1) := by decide +kernel
theorem dX9_best_62 : decode cX9_best 62 = .ok (.invokevirtual 307, 3) := by decide +kernel
theorem dX9_best_65 : decode cX9_best 65 = .ok (.aload_n 0, 1) := by decide +kernel
theorem dX9_best_66 : decode cX9_best 66 = .ok (.getfield 77, 3) := by decide +kernel
theorem dX9_best_69 : decode cX9_best 69 = .ok (.aload_n 0, 1) := by decide +kernel
theorem dX9_best_70 : decode cX9_best 70 = .ok (.getfield 19, 3) := by decide +kernel
theorem dX9_best_73 : decode cX9_best 73 = .ok (.invokevirtual 298, 3) := by decide +kernel
theorem dX9_best_76 : decode cX9_best 76 = .ok (.aload_n 0, 1) := by decide +kernel
theorem dX9_best_77 : decode cX9_best 77 = .ok (.getfield 56, 3) := by decide +kernel
theorem dX9_best_80 : decode cX9_best 80 = .ok (.aload_n 0, 1) := by decide +kernel
theorem dX9_best_81 : decode cX9_best 81 = .ok (.getfield 77, 3) := by decide +kernel
theorem dX9_best_84 : decode cX9_best 84 = .ok (.aload_n 0, 1) := by decide +kernel
theorem dX9_best_85 : decode cX9_best 85 = .ok (.getfield 74, 3) := by decide +kernel
theorem dX9_best_88 : decode cX9_best 88 = .ok (.iconst 5, 1) := by decide +kernel
theorem dX9_best_89 : decode cX9_best 89 = .ok (.iconst 1, 1) := by decide +kernel
theorem dX9_best_90 : decode cX9_best 90 = .ok (.invokevirtual 282, 3) := by decide +kernel
theorem dX9_best_93 : decode cX9_best 93 = .ok (.pop, 1) := by decide +kernel
theorem dX9_best_94 : decode cX9_best 94 = .ok (.aload_n 0, 1) := by decide +kernel
theorem dX9_best_95 : decode cX9_best 95 = .ok (.aload_n 0, 1) := by decide +kernel
theorem dX9_best_96 : decode cX9_best 96 = .ok (.getfield 77, 3) := by decide +kernel
theorem dX9_best_99 : decode cX9_best 99 = .ok (.aload_n 0, 1) := by decide +kernel
theorem dX9_best_100 : decode cX9_best 100 = .ok (.aload_n 0, 1) := by decide +kernel
theorem dX9_best_101 : decode cX9_best 101 = .ok (.getfield 77, 3) := by decide +kernel
theorem dX9_best_104 : decode cX9_best 104 = .ok (.invokevirtual 365, 3) := by decide +kernel
theorem dX9_best_107 : decode cX9_best 107 = .ok (.invokevirtual 352, 3) := by decide +kernel
theorem dX9_best_110 : decode cX9_best 110 = .ok (.lstore 5, 2) := by decide +kernel
theorem dX9_best_112 : decode cX9_best 112 = .ok (.lload 5, 2) := by decide +kernel
theorem dX9_best_114 : decode cX9_best 114 = .ok (.lload_n 2, 1) := by decide +kernel
theorem dX9_best_115 : decode cX9_best 115 = .ok (.lcmp, 1) := by decide +kernel
theorem dX9_best_116 : decode cX9_best 116 = .ok (.ifCond .ge 9, 3) := by decide +kernel
theorem dX9_best_119 : decode cX9_best 119 = .ok (.lload 5, 2) := by decide +kernel
theorem dX9_best_121 : decode cX9_best 121 = .ok (.lstore_n 2, 1) := by decide +kernel
theorem dX9_best_122 : decode cX9_best 122 = .ok (.iload 4, 2) := by decide +kernel
theorem dX9_best_124 : decode cX9_best 124 = .ok (.istore_n 1, 1) := by decide +kernel
theorem dX9_best_125 : decode cX9_best 125 = .ok (.iinc 4 1, 3) := by decide +kernel
theorem dX9_best_128 : decode cX9_best 128 = .ok (.goto (-115), 3) := by decide +kernel
theorem dX9_best_131 : decode cX9_best 131 = .ok (.iload_n 1, 1) := by decide +kernel
theorem dX9_best_132 : decode cX9_best 132 = .ok (.ireturn, 1) := by decide +kernel
theorem dX9_peak_0 : decode cX9_peak 0 = .ok (.aload_n 0, 1) := by decide +kernel
theorem dX9_peak_1 : decode cX9_peak 1 = .ok (.iload_n 1, 1) := by decide +kernel
theorem dX9_peak_2 : decode cX9_peak 2 = .ok (.invokevirtual 159, 3) := by decide +kernel
theorem dX9_peak_5 : decode cX9_peak 5 = .ok (.ifCond .ne 5, 3) := by decide +kernel
theorem dX9_peak_8 : decode cX9_peak 8 = .ok (.iconst (-1), 1) := by decide +kernel
theorem dX9_peak_9 : decode cX9_peak 9 = .ok (.ireturn, 1) := by decide +kernel
theorem dX9_peak_10 : decode cX9_peak 10 = .ok (.aload_n 0, 1) := by decide +kernel
theorem dX9_peak_11 : decode cX9_peak 11 = .ok (.invokevirtual 286, 3) := by decide +kernel
theorem dX9_peak_14 : decode cX9_peak 14 = .ok (.ifCond .ne 6, 3) := by decide +kernel
theorem dX9_peak_17 : decode cX9_peak 17 = .ok (.bipush (-2), 2) := by decide +kernel
theorem dX9_peak_19 : decode cX9_peak 19 = .ok (.ireturn, 1) := by decide +kernel
theorem dX9_peak_20 : decode cX9_peak 20 = .ok (.iconst 0, 1) := by decide +kernel
theorem dX9_peak_21 : decode cX9_peak 21 = .ok (.istore_n 2, 1) := by decide +kernel
theorem dX9_peak_22 : decode cX9_peak 22 = .ok (.iconst 0, 1) := by decide +kernel
theorem dX9_peak_23 : decode cX9_peak 23 = .ok (.istore_n 3, 1) := by decide +kernel
theorem dX9_peak_24 : decode cX9_peak 24 = .ok (.iload_n 3, 1) := by decide +kernel
theorem dX9_peak_25 : decode cX9_peak 25 = .ok (.aload_n 0, 1) := by decide +kernel
theorem dX9_peak_26 : decode cX9_peak 26 = .ok (.getfield 10, 3) := by decide +kernel
theorem dX9_peak_29 : decode cX9_peak 29 = .ok (.getfield 115, 3) := by decide +kernel
theorem dX9_peak_32 : decode cX9_peak 32 = .ok (.if_icmp .ge 20, 3) := by decide +kernel
theorem dX9_peak_35 : decode cX9_peak 35 = .ok (.aload_n 0, 1) := by decide +kernel
theorem dX9_peak_36 : decode cX9_peak 36 = .ok (.iload_n 3, 1) := by decide +kernel
theorem dX9_peak_37 : decode cX9_peak 37 = .ok (.invokevirtual 371, 3) := by decide +kernel
theorem dX9_peak_40 : decode cX9_peak 40 = .ok (.iload_n 1, 1) := by decide +kernel
theorem dX9_peak_41 : decode cX9_peak 41 = .ok (.if_icmp .ne 5, 3) := by decide +kernel
theorem dX9_peak_44 : decode cX9_peak 44 = .ok (.iload_n 3, 1) := by decide +kernel
theorem dX9_peak_45 : decode cX9_peak 45 = .ok (.istore_n 2, 1) := by decide +kernel
theorem dX9_peak_46 : decode cX9_peak 46 = .ok (.iinc 3 1, 3) := by decide +kernel
theorem dX9_peak_49 : decode cX9_peak 49 = .ok (.goto (-25), 3) := by decide +kernel
theorem dX9_peak_52 : decode cX9_peak 52 = .ok (.iload_n 2, 1) := by decide +kernel
theorem dX9_peak_53 : decode cX9_peak 53 = .ok (.ireturn, 1) := by decide +kernel
theorem dX9_louderOnes_0 : decode cX9_louderOnes 0 = .ok (.aload_n 0, 1) := by decide +kernel
theorem dX9_louderOnes_1 : decode cX9_louderOnes 1 = .ok (.getfield 19, 3) := by decide +kernel
theorem dX9_louderOnes_4 : decode cX9_louderOnes 4 = .ok (.getfield 175, 3) := by decide +kernel
theorem dX9_louderOnes_7 : decode cX9_louderOnes 7 = .ok (.iload_n 1, 1) := by decide +kernel
theorem dX9_louderOnes_8 : decode cX9_louderOnes 8 = .ok (.iaload, 1) := by decide +kernel
theorem dX9_louderOnes_9 : decode cX9_louderOnes 9 = .ok (.i2l, 1) := by decide +kernel
theorem dX9_louderOnes_10 : decode cX9_louderOnes 10 = .ok (.aload_n 0, 1) := by decide +kernel
theorem dX9_louderOnes_11 : decode cX9_louderOnes 11 = .ok (.getfield 19, 3) := by decide +kernel
theorem dX9_louderOnes_14 : decode cX9_louderOnes 14 = .ok (.getfield 176, 3) := by decide +kernel
theorem dX9_louderOnes_17 : decode cX9_louderOnes 17 = .ok (.iload_n 1, 1) := by decide +kernel
theorem dX9_louderOnes_18 : decode cX9_louderOnes 18 = .ok (.iaload, 1) := by decide +kernel
theorem dX9_louderOnes_19 : decode cX9_louderOnes 19 = .ok (.i2l, 1) := by decide +kernel
theorem dX9_louderOnes_20 : decode cX9_louderOnes 20 = .ok (.invokestatic 225, 3) := by decide +kernel
theorem dX9_louderOnes_23 : decode cX9_louderOnes 23 = .ok (.lstore_n 2, 1) := by decide +kernel
theorem dX9_louderOnes_24 : decode cX9_louderOnes 24 = .ok (.iconst 0, 1) := by decide +kernel
theorem dX9_louderOnes_25 : decode cX9_louderOnes 25 = .ok (.istore 4, 2) := by decide +kernel
theorem dX9_louderOnes_27 : decode cX9_louderOnes 27 = .ok (.iconst 0, 1) := by decide +kernel
theorem dX9_louderOnes_28 : decode cX9_louderOnes 28 = .ok (.istore 5, 2) := by decide +kernel
theorem dX9_louderOnes_30 : decode cX9_louderOnes 30 = .ok (.iload 5, 2) := by decide +kernel
theorem dX9_louderOnes_32 : decode cX9_louderOnes 32 = .ok (.aload_n 0, 1) := by decide +kernel
theorem dX9_louderOnes_33 : decode cX9_louderOnes 33 = .ok (.getfield 10, 3) := by decide +kernel
theorem dX9_louderOnes_36 : decode cX9_louderOnes 36 = .ok (.getfield 115, 3) := by decide +kernel
theorem dX9_louderOnes_39 : decode cX9_louderOnes 39 = .ok (.if_icmp .ge 59, 3) := by decide +kernel
theorem dX9_louderOnes_42 : decode cX9_louderOnes 42 = .ok (.aload_n 0, 1) := by decide +kernel
theorem dX9_louderOnes_43 : decode cX9_louderOnes 43 = .ok (.getfield 19, 3) := by decide +kernel
theorem dX9_louderOnes_46 : decode cX9_louderOnes 46 = .ok (.getfield 175, 3) := by decide +kernel
theorem dX9_louderOnes_49 : decode cX9_louderOnes 49 = .ok (.iload 5, 2) := by decide +kernel
theorem dX9_louderOnes_51 : decode cX9_louderOnes 51 = .ok (.iaload, 1) := by decide +kernel
theorem dX9_louderOnes_52 : decode cX9_louderOnes 52 = .ok (.i2l, 1) := by decide +kernel
theorem dX9_louderOnes_53 : decode cX9_louderOnes 53 = .ok (.aload_n 0, 1) := by decide +kernel
theorem dX9_louderOnes_54 : decode cX9_louderOnes 54 = .ok (.getfield 19, 3) := by decide +kernel
theorem dX9_louderOnes_57 : decode cX9_louderOnes 57 = .ok (.getfield 176, 3) := by decide +kernel
theorem dX9_louderOnes_60 : decode cX9_louderOnes 60 = .ok (.iload 5, 2) := by decide +kernel
theorem dX9_louderOnes_62 : decode cX9_louderOnes 62 = .ok (.iaload, 1) := by decide +kernel
theorem dX9_louderOnes_63 : decode cX9_louderOnes 63 = .ok (.i2l, 1) := by decide +kernel
theorem dX9_louderOnes_64 : decode cX9_louderOnes 64 = .ok (.invokestatic 225, 3) := by decide +kernel
theorem dX9_louderOnes_67 : decode cX9_louderOnes 67 = .ok (.lstore 6, 2) := by decide +kernel
theorem dX9_louderOnes_69 : decode cX9_louderOnes 69 = .ok (.lload 6, 2) := by decide +kernel
theorem dX9_louderOnes_71 : decode cX9_louderOnes 71 = .ok (.lload_n 2, 1) := by decide +kernel
theorem dX9_louderOnes_72 : decode cX9_louderOnes 72 = .ok (.lcmp, 1) := by decide +kernel
theorem dX9_louderOnes_73 : decode cX9_louderOnes 73 = .ok (.ifCond .gt 16, 3) := by decide +kernel
theorem dX9_louderOnes_76 : decode cX9_louderOnes 76 = .ok (.lload 6, 2) := by decide +kernel
theorem dX9_louderOnes_78 : decode cX9_louderOnes 78 = .ok (.lload_n 2, 1) := by decide +kernel
theorem dX9_louderOnes_79 : decode cX9_louderOnes 79 = .ok (.lcmp, 1) := by decide +kernel
theorem dX9_louderOnes_80 : decode cX9_louderOnes 80 = .ok (.ifCond .ne 12, 3) := by decide +kernel
theorem dX9_louderOnes_83 : decode cX9_louderOnes 83 = .ok (.iload 5, 2) := by decide +kernel
theorem dX9_louderOnes_85 : decode cX9_louderOnes 85 = .ok (.iload_n 1, 1) := by decide +kernel
theorem dX9_louderOnes_86 : decode cX9_louderOnes 86 = .ok (.if_icmp .ge 6, 3) := by decide +kernel
theorem dX9_louderOnes_89 : decode cX9_louderOnes 89 = .ok (.iinc 4 1, 3) := by decide +kernel
theorem dX9_louderOnes_92 : decode cX9_louderOnes 92 = .ok (.iinc 5 1, 3) := by decide +kernel
theorem dX9_louderOnes_95 : decode cX9_louderOnes 95 = .ok (.goto (-65), 3) := by decide +kernel
theorem dX9_louderOnes_98 : decode cX9_louderOnes 98 = .ok (.iload 4, 2) := by decide +kernel
theorem dX9_louderOnes_100 : decode cX9_louderOnes 100 = .ok (.ireturn, 1) := by decide +kernel
theorem dX9_mirror_0 : decode cX9_mirror 0 = .ok (.aload_n 0, 1) := by decide +kernel
theorem dX9_mirror_1 : decode cX9_mirror 1 = .ok (.invokevirtual 286, 3) := by decide +kernel
theorem dX9_mirror_4 : decode cX9_mirror 4 = .ok (.ifCond .ne 6, 3) := by decide +kernel
theorem dX9_mirror_7 : decode cX9_mirror 7 = .ok (.bipush (-2), 2) := by decide +kernel
theorem dX9_mirror_9 : decode cX9_mirror 9 = .ok (.ireturn, 1) := by decide +kernel
theorem dX9_mirror_10 : decode cX9_mirror 10 = .ok (.iconst 0, 1) := by decide +kernel
theorem dX9_mirror_11 : decode cX9_mirror 11 = .ok (.istore_n 1, 1) := by decide +kernel
theorem dX9_mirror_12 : decode cX9_mirror 12 = .ok (.iconst 0, 1) := by decide +kernel
theorem dX9_mirror_13 : decode cX9_mirror 13 = .ok (.istore_n 2, 1) := by decide +kernel
theorem dX9_mirror_14 : decode cX9_mirror 14 = .ok (.iload_n 2, 1) := by decide +kernel
theorem dX9_mirror_15 : decode cX9_mirror 15 = .ok (.aload_n 0, 1) := by decide +kernel
theorem dX9_mirror_16 : decode cX9_mirror 16 = .ok (.getfield 10, 3) := by decide +kernel
theorem dX9_mirror_19 : decode cX9_mirror 19 = .ok (.getfield 115, 3) := by decide +kernel
theorem dX9_mirror_22 : decode cX9_mirror 22 = .ok (.if_icmp .ge 75, 3) := by decide +kernel
theorem dX9_mirror_25 : decode cX9_mirror 25 = .ok (.aload_n 0, 1) := by decide +kernel
theorem dX9_mirror_26 : decode cX9_mirror 26 = .ok (.iload_n 2, 1) := by decide +kernel
theorem dX9_mirror_27 : decode cX9_mirror 27 = .ok (.invokevirtual 374, 3) := by decide +kernel
theorem dX9_mirror_30 : decode cX9_mirror 30 = .ok (.istore_n 3, 1) := by decide +kernel
theorem dX9_mirror_31 : decode cX9_mirror 31 = .ok (.aload_n 0, 1) := by decide +kernel
theorem dX9_mirror_32 : decode cX9_mirror 32 = .ok (.getfield 19, 3) := by decide +kernel
theorem dX9_mirror_35 : decode cX9_mirror 35 = .ok (.getfield 175, 3) := by decide +kernel
theorem dX9_mirror_38 : decode cX9_mirror 38 = .ok (.iload_n 2, 1) := by decide +kernel
theorem dX9_mirror_39 : decode cX9_mirror 39 = .ok (.iaload, 1) := by decide +kernel
theorem dX9_mirror_40 : decode cX9_mirror 40 = .ok (.aload_n 0, 1) := by decide +kernel
theorem dX9_mirror_41 : decode cX9_mirror 41 = .ok (.getfield 19, 3) := by decide +kernel
theorem dX9_mirror_44 : decode cX9_mirror 44 = .ok (.getfield 175, 3) := by decide +kernel
theorem dX9_mirror_47 : decode cX9_mirror 47 = .ok (.iload_n 3, 1) := by decide +kernel
theorem dX9_mirror_48 : decode cX9_mirror 48 = .ok (.iaload, 1) := by decide +kernel
theorem dX9_mirror_49 : decode cX9_mirror 49 = .ok (.isub, 1) := by decide +kernel
theorem dX9_mirror_50 : decode cX9_mirror 50 = .ok (.invokestatic 377, 3) := by decide +kernel
theorem dX9_mirror_53 : decode cX9_mirror 53 = .ok (.istore 4, 2) := by decide +kernel
theorem dX9_mirror_55 : decode cX9_mirror 55 = .ok (.aload_n 0, 1) := by decide +kernel
theorem dX9_mirror_56 : decode cX9_mirror 56 = .ok (.getfield 19, 3) := by decide +kernel
theorem dX9_mirror_59 : decode cX9_mirror 59 = .ok (.getfield 176, 3) := by decide +kernel
theorem dX9_mirror_62 : decode cX9_mirror 62 = .ok (.iload_n 2, 1) := by decide +kernel
theorem dX9_mirror_63 : decode cX9_mirror 63 = .ok (.iaload, 1) := by decide +kernel
theorem dX9_mirror_64 : decode cX9_mirror 64 = .ok (.aload_n 0, 1) := by decide +kernel
theorem dX9_mirror_65 : decode cX9_mirror 65 = .ok (.getfield 19, 3) := by decide +kernel
theorem dX9_mirror_68 : decode cX9_mirror 68 = .ok (.getfield 176, 3) := by decide +kernel
theorem dX9_mirror_71 : decode cX9_mirror 71 = .ok (.iload_n 3, 1) := by decide +kernel
theorem dX9_mirror_72 : decode cX9_mirror 72 = .ok (.iaload, 1) := by decide +kernel
theorem dX9_mirror_73 : decode cX9_mirror 73 = .ok (.iadd, 1) := by decide +kernel
theorem dX9_mirror_74 : decode cX9_mirror 74 = .ok (.invokestatic 377, 3) := by decide +kernel
theorem dX9_mirror_77 : decode cX9_mirror 77 = .ok (.istore 5, 2) := by decide +kernel
theorem dX9_mirror_79 : decode cX9_mirror 79 = .ok (.iload_n 1, 1) := by decide +kernel
theorem dX9_mirror_80 : decode cX9_mirror 80 = .ok (.iload 4, 2) := by decide +kernel
theorem dX9_mirror_82 : decode cX9_mirror 82 = .ok (.iload 5, 2) := by decide +kernel
theorem dX9_mirror_84 : decode cX9_mirror 84 = .ok (.invokestatic 346, 3) := by decide +kernel
theorem dX9_mirror_87 : decode cX9_mirror 87 = .ok (.invokestatic 346, 3) := by decide +kernel
theorem dX9_mirror_90 : decode cX9_mirror 90 = .ok (.istore_n 1, 1) := by decide +kernel
theorem dX9_mirror_91 : decode cX9_mirror 91 = .ok (.iinc 2 1, 3) := by decide +kernel
theorem dX9_mirror_94 : decode cX9_mirror 94 = .ok (.goto (-80), 3) := by decide +kernel
theorem dX9_mirror_97 : decode cX9_mirror 97 = .ok (.iload_n 1, 1) := by decide +kernel
theorem dX9_mirror_98 : decode cX9_mirror 98 = .ok (.ireturn, 1) := by decide +kernel
theorem dX9_pair_0 : decode cX9_pair 0 = .ok (.aload_n 0, 1) := by decide +kernel
theorem dX9_pair_1 : decode cX9_pair 1 = .ok (.iload_n 1, 1) := by decide +kernel
theorem dX9_pair_2 : decode cX9_pair 2 = .ok (.invokevirtual 159, 3) := by decide +kernel
theorem dX9_pair_5 : decode cX9_pair 5 = .ok (.ifCond .eq 28, 3) := by decide +kernel
theorem dX9_pair_8 : decode cX9_pair 8 = .ok (.iload_n 2, 1) := by decide +kernel
theorem dX9_pair_9 : decode cX9_pair 9 = .ok (.ifCond .lt 24, 3) := by decide +kernel
theorem dX9_pair_12 : decode cX9_pair 12 = .ok (.iload_n 2, 1) := by decide +kernel
theorem dX9_pair_13 : decode cX9_pair 13 = .ok (.iconst 1, 1) := by decide +kernel
theorem dX9_pair_14 : decode cX9_pair 14 = .ok (.if_icmp .gt 19, 3) := by decide +kernel
theorem dX9_pair_17 : decode cX9_pair 17 = .ok (.iload_n 3, 1) := by decide +kernel
theorem dX9_pair_18 : decode cX9_pair 18 = .ok (.ifCond .lt 15, 3) := by decide +kernel
theorem dX9_pair_21 : decode cX9_pair 21 = .ok (.iload_n 3, 1) := by decide +kernel
theorem dX9_pair_22 : decode cX9_pair 22 = .ok (.iconst 1, 1) := by decide +kernel
theorem dX9_pair_23 : decode cX9_pair 23 = .ok (.if_icmp .gt 10, 3) := by decide +kernel
theorem dX9_pair_26 : decode cX9_pair 26 = .ok (.aload_n 0, 1) := by decide +kernel
theorem dX9_pair_27 : decode cX9_pair 27 = .ok (.invokevirtual 286, 3) := by decide +kernel
theorem dX9_pair_30 : decode cX9_pair 30 = .ok (.ifCond .ne 6, 3) := by decide +kernel
theorem dX9_pair_33 : decode cX9_pair 33 = .ok (.ldc 185, 2) := by decide +kernel
theorem dX9_pair_35 : decode cX9_pair 35 = .ok (.ireturn, 1) := by decide +kernel
theorem dX9_pair_36 : decode cX9_pair 36 = .ok (.aload_n 0, 1) := by decide +kernel
theorem dX9_pair_37 : decode cX9_pair 37 = .ok (.iload_n 1, 1) := by decide +kernel
theorem dX9_pair_38 : decode cX9_pair 38 = .ok (.invokevirtual 374, 3) := by decide +kernel
theorem dX9_pair_41 : decode cX9_pair 41 = .ok (.istore 4, 2) := by decide +kernel
theorem dX9_pair_43 : decode cX9_pair 43 = .ok (.aload_n 0, 1) := by decide +kernel
theorem dX9_pair_44 : decode cX9_pair 44 = .ok (.getfield 19, 3) := by decide +kernel
theorem dX9_pair_47 : decode cX9_pair 47 = .ok (.getfield 175, 3) := by decide +kernel
theorem dX9_pair_50 : decode cX9_pair 50 = .ok (.astore 5, 2) := by decide +kernel
theorem dX9_pair_52 : decode cX9_pair 52 = .ok (.aload_n 0, 1) := by decide +kernel
theorem dX9_pair_53 : decode cX9_pair 53 = .ok (.getfield 19, 3) := by decide +kernel
theorem dX9_pair_56 : decode cX9_pair 56 = .ok (.getfield 176, 3) := by decide +kernel
theorem dX9_pair_59 : decode cX9_pair 59 = .ok (.astore 6, 2) := by decide +kernel
theorem dX9_pair_61 : decode cX9_pair 61 = .ok (.iload_n 2, 1) := by decide +kernel
theorem dX9_pair_62 : decode cX9_pair 62 = .ok (.ifCond .ne 31, 3) := by decide +kernel
theorem dX9_pair_65 : decode cX9_pair 65 = .ok (.iload_n 3, 1) := by decide +kernel
theorem dX9_pair_66 : decode cX9_pair 66 = .ok (.ifCond .ne 16, 3) := by decide +kernel
theorem dX9_pair_69 : decode cX9_pair 69 = .ok (.aload 5, 2) := by decide +kernel
theorem dX9_pair_71 : decode cX9_pair 71 = .ok (.iload_n 1, 1) := by decide +kernel
theorem dX9_pair_72 : decode cX9_pair 72 = .ok (.iaload, 1) := by decide +kernel
theorem dX9_pair_73 : decode cX9_pair 73 = .ok (.aload 5, 2) := by decide +kernel
theorem dX9_pair_75 : decode cX9_pair 75 = .ok (.iload 4, 2) := by decide +kernel
theorem dX9_pair_77 : decode cX9_pair 77 = .ok (.iaload, 1) := by decide +kernel
theorem dX9_pair_78 : decode cX9_pair 78 = .ok (.iadd, 1) := by decide +kernel
theorem dX9_pair_79 : decode cX9_pair 79 = .ok (.goto 13, 3) := by decide +kernel
theorem dX9_pair_82 : decode cX9_pair 82 = .ok (.aload 6, 2) := by decide +kernel
theorem dX9_pair_84 : decode cX9_pair 84 = .ok (.iload_n 1, 1) := by decide +kernel
theorem dX9_pair_85 : decode cX9_pair 85 = .ok (.iaload, 1) := by decide +kernel
theorem dX9_pair_86 : decode cX9_pair 86 = .ok (.aload 6, 2) := by decide +kernel
theorem dX9_pair_88 : decode cX9_pair 88 = .ok (.iload 4, 2) := by decide +kernel
theorem dX9_pair_90 : decode cX9_pair 90 = .ok (.iaload, 1) := by decide +kernel
theorem dX9_pair_91 : decode cX9_pair 91 = .ok (.isub, 1) := by decide +kernel
theorem dX9_pair_92 : decode cX9_pair 92 = .ok (.ireturn, 1) := by decide +kernel
theorem dX9_pair_93 : decode cX9_pair 93 = .ok (.iload_n 3, 1) := by decide +kernel
theorem dX9_pair_94 : decode cX9_pair 94 = .ok (.ifCond .ne 16, 3) := by decide +kernel
theorem dX9_pair_97 : decode cX9_pair 97 = .ok (.aload 6, 2) := by decide +kernel
theorem dX9_pair_99 : decode cX9_pair 99 = .ok (.iload_n 1, 1) := by decide +kernel
theorem dX9_pair_100 : decode cX9_pair 100 = .ok (.iaload, 1) := by decide +kernel
theorem dX9_pair_101 : decode cX9_pair 101 = .ok (.aload 6, 2) := by decide +kernel
theorem dX9_pair_103 : decode cX9_pair 103 = .ok (.iload 4, 2) := by decide +kernel
theorem dX9_pair_105 : decode cX9_pair 105 = .ok (.iaload, 1) := by decide +kernel
theorem dX9_pair_106 : decode cX9_pair 106 = .ok (.iadd, 1) := by decide +kernel
theorem dX9_pair_107 : decode cX9_pair 107 = .ok (.goto 13, 3) := by decide +kernel
theorem dX9_pair_110 : decode cX9_pair 110 = .ok (.aload 5, 2) := by decide +kernel
theorem dX9_pair_112 : decode cX9_pair 112 = .ok (.iload 4, 2) := by decide +kernel
theorem dX9_pair_114 : decode cX9_pair 114 = .ok (.iaload, 1) := by decide +kernel
theorem dX9_pair_115 : decode cX9_pair 115 = .ok (.aload 5, 2) := by decide +kernel
theorem dX9_pair_117 : decode cX9_pair 117 = .ok (.iload_n 1, 1) := by decide +kernel
theorem dX9_pair_118 : decode cX9_pair 118 = .ok (.iaload, 1) := by decide +kernel
theorem dX9_pair_119 : decode cX9_pair 119 = .ok (.isub, 1) := by decide +kernel
theorem dX9_pair_120 : decode cX9_pair 120 = .ok (.ireturn, 1) := by decide +kernel
theorem dX9_swing_0 : decode cX9_swing 0 = .ok (.aload_n 0, 1) := by decide +kernel
theorem dX9_swing_1 : decode cX9_swing 1 = .ok (.iload_n 1, 1) := by decide +kernel
theorem dX9_swing_2 : decode cX9_swing 2 = .ok (.invokevirtual 159, 3) := by decide +kernel
theorem dX9_swing_5 : decode cX9_swing 5 = .ok (.ifCond .eq 12, 3) := by decide +kernel
theorem dX9_swing_8 : decode cX9_swing 8 = .ok (.iload_n 2, 1) := by decide +kernel
theorem dX9_swing_9 : decode cX9_swing 9 = .ok (.ifCond .lt 8, 3) := by decide +kernel
theorem dX9_swing_12 : decode cX9_swing 12 = .ok (.iload_n 2, 1) := by decide +kernel
theorem dX9_swing_13 : decode cX9_swing 13 = .ok (.iconst 1, 1) := by decide +kernel
theorem dX9_swing_14 : decode cX9_swing 14 = .ok (.if_icmp .le 7, 3) := by decide +kernel
theorem dX9_swing_17 : decode cX9_swing 17 = .ok (.ldc2_w 358, 3) := by decide +kernel
theorem dX9_swing_20 : decode cX9_swing 20 = .ok (.lreturn, 1) := by decide +kernel
theorem dX9_swing_21 : decode cX9_swing 21 = .ok (.ldc2_w 218, 3) := by decide +kernel
theorem dX9_swing_24 : decode cX9_swing 24 = .ok (.aload_n 0, 1) := by decide +kernel
theorem dX9_swing_25 : decode cX9_swing 25 = .ok (.getfield 47, 3) := by decide +kernel
theorem dX9_swing_28 : decode cX9_swing 28 = .ok (.getfield 186, 3) := by decide +kernel
theorem dX9_swing_31 : decode cX9_swing 31 = .ok (.iload_n 1, 1) := by decide +kernel
theorem dX9_swing_32 : decode cX9_swing 32 = .ok (.iaload, 1) := by decide +kernel
theorem dX9_swing_33 : decode cX9_swing 33 = .ok (.i2l, 1) := by decide +kernel
theorem dX9_swing_34 : decode cX9_swing 34 = .ok (.lmul, 1) := by decide +kernel
theorem dX9_swing_35 : decode cX9_swing 35 = .ok (.lstore_n 3, 1) := by decide +kernel
theorem dX9_swing_36 : decode cX9_swing 36 = .ok (.lconst 0, 1) := by decide +kernel
theorem dX9_swing_37 : decode cX9_swing 37 = .ok (.lstore 5, 2) := by decide +kernel
theorem dX9_swing_39 : decode cX9_swing 39 = .ok (.lconst 0, 1) := by decide +kernel
theorem dX9_swing_40 : decode cX9_swing 40 = .ok (.lstore 7, 2) := by decide +kernel
theorem dX9_swing_42 : decode cX9_swing 42 = .ok (.iconst 0, 1) := by decide +kernel
theorem dX9_swing_43 : decode cX9_swing 43 = .ok (.istore 9, 2) := by decide +kernel
theorem dX9_swing_45 : decode cX9_swing 45 = .ok (.iload 9, 2) := by decide +kernel
theorem dX9_swing_47 : decode cX9_swing 47 = .ok (.aload_n 0, 1) := by decide +kernel
theorem dX9_swing_48 : decode cX9_swing 48 = .ok (.getfield 10, 3) := by decide +kernel
theorem dX9_swing_51 : decode cX9_swing 51 = .ok (.getfield 115, 3) := by decide +kernel
theorem dX9_swing_54 : decode cX9_swing 54 = .ok (.if_icmp .ge 50, 3) := by decide +kernel
theorem dX9_swing_57 : decode cX9_swing 57 = .ok (.aload_n 0, 1) := by decide +kernel
theorem dX9_swing_58 : decode cX9_swing 58 = .ok (.getfield 19, 3) := by decide +kernel
theorem dX9_swing_61 : decode cX9_swing 61 = .ok (.getfield 177, 3) := by decide +kernel
theorem dX9_swing_64 : decode cX9_swing 64 = .ok (.iload 9, 2) := by decide +kernel
theorem dX9_swing_66 : decode cX9_swing 66 = .ok (.iaload, 1) := by decide +kernel
theorem dX9_swing_67 : decode cX9_swing 67 = .ok (.i2l, 1) := by decide +kernel
theorem dX9_swing_68 : decode cX9_swing 68 = .ok (.lload 5, 2) := by decide +kernel
theorem dX9_swing_70 : decode cX9_swing 70 = .ok (.lload_n 3, 1) := by decide +kernel
theorem dX9_swing_71 : decode cX9_swing 71 = .ok (.lmul, 1) := by decide +kernel
theorem dX9_swing_72 : decode cX9_swing 72 = .ok (.aload_n 0, 1) := by decide +kernel
theorem dX9_swing_73 : decode cX9_swing 73 = .ok (.getfield 10, 3) := by decide +kernel
theorem dX9_swing_76 : decode cX9_swing 76 = .ok (.invokevirtual 379, 3) := by decide +kernel
theorem dX9_swing_79 : decode cX9_swing 79 = .ok (.i2l, 1) := by decide +kernel
theorem dX9_swing_80 : decode cX9_swing 80 = .ok (.ladd, 1) := by decide +kernel
theorem dX9_swing_81 : decode cX9_swing 81 = .ok (.bipush 14, 2) := by decide +kernel
theorem dX9_swing_83 : decode cX9_swing 83 = .ok (.lshr, 1) := by decide +kernel
theorem dX9_swing_84 : decode cX9_swing 84 = .ok (.ladd, 1) := by decide +kernel
theorem dX9_swing_85 : decode cX9_swing 85 = .ok (.lload 7, 2) := by decide +kernel
theorem dX9_swing_87 : decode cX9_swing 87 = .ok (.lsub, 1) := by decide +kernel
theorem dX9_swing_88 : decode cX9_swing 88 = .ok (.lstore 10, 2) := by decide +kernel
theorem dX9_swing_90 : decode cX9_swing 90 = .ok (.lload 5, 2) := by decide +kernel
theorem dX9_swing_92 : decode cX9_swing 92 = .ok (.lstore 7, 2) := by decide +kernel
theorem dX9_swing_94 : decode cX9_swing 94 = .ok (.lload 10, 2) := by decide +kernel
theorem dX9_swing_96 : decode cX9_swing 96 = .ok (.lstore 5, 2) := by decide +kernel
theorem dX9_swing_98 : decode cX9_swing 98 = .ok (.iinc 9 1, 3) := by decide +kernel
theorem dX9_swing_101 : decode cX9_swing 101 = .ok (.goto (-56), 3) := by decide +kernel
theorem dX9_swing_104 : decode cX9_swing 104 = .ok (.iload_n 2, 1) := by decide +kernel
theorem dX9_swing_105 : decode cX9_swing 105 = .ok (.ifCond .ne 8, 3) := by decide +kernel
theorem dX9_swing_108 : decode cX9_swing 108 = .ok (.lload 5, 2) := by decide +kernel
theorem dX9_swing_110 : decode cX9_swing 110 = .ok (.goto 5, 3) := by decide +kernel
theorem dX9_swing_113 : decode cX9_swing 113 = .ok (.lload 7, 2) := by decide +kernel
theorem dX9_swing_115 : decode cX9_swing 115 = .ok (.lreturn, 1) := by decide +kernel
theorem dX9_like_0 : decode cX9_like 0 = .ok (.aload_n 0, 1) := by decide +kernel
theorem dX9_like_1 : decode cX9_like 1 = .ok (.iload_n 1, 1) := by decide +kernel
theorem dX9_like_2 : decode cX9_like 2 = .ok (.invokevirtual 159, 3) := by decide +kernel
theorem dX9_like_5 : decode cX9_like 5 = .ok (.ifCond .eq 19, 3) := by decide +kernel
theorem dX9_like_8 : decode cX9_like 8 = .ok (.aload_n 0, 1) := by decide +kernel
theorem dX9_like_9 : decode cX9_like 9 = .ok (.aload_n 0, 1) := by decide +kernel
theorem dX9_like_10 : decode cX9_like 10 = .ok (.getfield 19, 3) := by decide +kernel
theorem dX9_like_13 : decode cX9_like 13 = .ok (.getfield 177, 3) := by decide +kernel
theorem dX9_like_16 : decode cX9_like 16 = .ok (.iconst 1, 1) := by decide +kernel
theorem dX9_like_17 : decode cX9_like 17 = .ok (.iload_n 1, 1) := by decide +kernel
theorem dX9_like_18 : decode cX9_like 18 = .ok (.invokevirtual 382, 3) := by decide +kernel
theorem dX9_like_21 : decode cX9_like 21 = .ok (.goto 6, 3) := by decide +kernel
theorem dX9_like_24 : decode cX9_like 24 = .ok (.ldc2_w 358, 3) := by decide +kernel
theorem dX9_like_27 : decode cX9_like 27 = .ok (.lreturn, 1) := by decide +kernel
theorem dX9_crossed_0 : decode cX9_crossed 0 = .ok (.aload_n 0, 1) := by decide +kernel
theorem dX9_crossed_1 : decode cX9_crossed 1 = .ok (.iload_n 1, 1) := by decide +kernel
theorem dX9_crossed_2 : decode cX9_crossed 2 = .ok (.invokevirtual 159, 3) := by decide +kernel
theorem dX9_crossed_5 : decode cX9_crossed 5 = .ok (.ifCond .eq 19, 3) := by decide +kernel
theorem dX9_crossed_8 : decode cX9_crossed 8 = .ok (.aload_n 0, 1) := by decide +kernel
theorem dX9_crossed_9 : decode cX9_crossed 9 = .ok (.aload_n 0, 1) := by decide +kernel
theorem dX9_crossed_10 : decode cX9_crossed 10 = .ok (.getfield 19, 3) := by decide +kernel
theorem dX9_crossed_13 : decode cX9_crossed 13 = .ok (.getfield 180, 3) := by decide +kernel
theorem dX9_crossed_16 : decode cX9_crossed 16 = .ok (.iconst 1, 1) := by decide +kernel
theorem dX9_crossed_17 : decode cX9_crossed 17 = .ok (.iload_n 1, 1) := by decide +kernel
theorem dX9_crossed_18 : decode cX9_crossed 18 = .ok (.invokevirtual 382, 3) := by decide +kernel
theorem dX9_crossed_21 : decode cX9_crossed 21 = .ok (.goto 6, 3) := by decide +kernel
theorem dX9_crossed_24 : decode cX9_crossed 24 = .ok (.ldc2_w 358, 3) := by decide +kernel
theorem dX9_crossed_27 : decode cX9_crossed 27 = .ok (.lreturn, 1) := by decide +kernel
theorem dX9_foldWhole_0 : decode cX9_foldWhole 0 = .ok (.aload_n 0, 1) := by decide +kernel
theorem dX9_foldWhole_1 : decode cX9_foldWhole 1 = .ok (.iload_n 1, 1) := by decide +kernel
theorem dX9_foldWhole_2 : decode cX9_foldWhole 2 = .ok (.invokevirtual 159, 3) := by decide +kernel
theorem dX9_foldWhole_5 : decode cX9_foldWhole 5 = .ok (.ifCond .eq 19, 3) := by decide +kernel
theorem dX9_foldWhole_8 : decode cX9_foldWhole 8 = .ok (.aload_n 0, 1) := by decide +kernel
theorem dX9_foldWhole_9 : decode cX9_foldWhole 9 = .ok (.aload_n 0, 1) := by decide +kernel
theorem dX9_foldWhole_10 : decode cX9_foldWhole 10 = .ok (.getfield 19, 3) := by decide +kernel
theorem dX9_foldWhole_13 : decode cX9_foldWhole 13 = .ok (.getfield 180, 3) := by decide +kernel
theorem dX9_foldWhole_16 : decode cX9_foldWhole 16 = .ok (.iconst (-1), 1) := by decide +kernel
theorem dX9_foldWhole_17 : decode cX9_foldWhole 17 = .ok (.iload_n 1, 1) := by decide +kernel
theorem dX9_foldWhole_18 : decode cX9_foldWhole 18 = .ok (.invokevirtual 382, 3) := by decide +kernel
theorem dX9_foldWhole_21 : decode cX9_foldWhole 21 = .ok (.goto 6, 3) := by decide +kernel
theorem dX9_foldWhole_24 : decode cX9_foldWhole 24 = .ok (.ldc2_w 358, 3) := by decide +kernel
theorem dX9_foldWhole_27 : decode cX9_foldWhole 27 = .ok (.lreturn, 1) := by decide +kernel
theorem dX9_productSum_0 : decode cX9_productSum 0 = .ok (.lconst 0, 1) := by decide +kernel
theorem dX9_productSum_1 : decode cX9_productSum 1 = .ok (.lstore 4, 2) := by decide +kernel
theorem dX9_productSum_3 : decode cX9_productSum 3 = .ok (.iconst 0, 1) := by decide +kernel
theorem dX9_productSum_4 : decode cX9_productSum 4 = .ok (.istore 6, 2) := by decide +kernel
theorem dX9_productSum_6 : decode cX9_productSum 6 = .ok (.iload 6, 2) := by decide +kernel
theorem dX9_productSum_8 : decode cX9_productSum 8 = .ok (.aload_n 0, 1) := by decide +kernel
theorem dX9_productSum_9 : decode cX9_productSum 9 = .ok (.getfield 10, 3) := by decide +kernel
theorem dX9_productSum_12 : decode cX9_productSum 12 = .ok (.getfield 115, 3) := by decide +kernel
theorem dX9_productSum_15 : decode cX9_productSum 15 = .ok (.if_icmp .ge 45, 3) := by decide +kernel
theorem dX9_productSum_18 : decode cX9_productSum 18 = .ok (.lload 4, 2) := by decide +kernel
theorem dX9_productSum_20 : decode cX9_productSum 20 = .ok (.aload_n 0, 1) := by decide +kernel
theorem dX9_productSum_21 : decode cX9_productSum 21 = .ok (.getfield 19, 3) := by decide +kernel
theorem dX9_productSum_24 : decode cX9_productSum 24 = .ok (.getfield 177, 3) := by decide +kernel
theorem dX9_productSum_27 : decode cX9_productSum 27 = .ok (.iload 6, 2) := by decide +kernel
theorem dX9_productSum_29 : decode cX9_productSum 29 = .ok (.iaload, 1) := by decide +kernel
theorem dX9_productSum_30 : decode cX9_productSum 30 = .ok (.i2l, 1) := by decide +kernel
theorem dX9_productSum_31 : decode cX9_productSum 31 = .ok (.aload_n 1, 1) := by decide +kernel
theorem dX9_productSum_32 : decode cX9_productSum 32 = .ok (.iload_n 3, 1) := by decide +kernel
theorem dX9_productSum_33 : decode cX9_productSum 33 = .ok (.iload_n 2, 1) := by decide +kernel
theorem dX9_productSum_34 : decode cX9_productSum 34 = .ok (.iload 6, 2) := by decide +kernel
theorem dX9_productSum_36 : decode cX9_productSum 36 = .ok (.imul, 1) := by decide +kernel
theorem dX9_productSum_37 : decode cX9_productSum 37 = .ok (.iadd, 1) := by decide +kernel
theorem dX9_productSum_38 : decode cX9_productSum 38 = .ok (.aload_n 0, 1) := by decide +kernel
theorem dX9_productSum_39 : decode cX9_productSum 39 = .ok (.getfield 10, 3) := by decide +kernel
theorem dX9_productSum_42 : decode cX9_productSum 42 = .ok (.getfield 115, 3) := by decide +kernel
theorem dX9_productSum_45 : decode cX9_productSum 45 = .ok (.iconst 1, 1) := by decide +kernel
theorem dX9_productSum_46 : decode cX9_productSum 46 = .ok (.isub, 1) := by decide +kernel
theorem dX9_productSum_47 : decode cX9_productSum 47 = .ok (.iand, 1) := by decide +kernel
theorem dX9_productSum_48 : decode cX9_productSum 48 = .ok (.iaload, 1) := by decide +kernel
theorem dX9_productSum_49 : decode cX9_productSum 49 = .ok (.i2l, 1) := by decide +kernel
theorem dX9_productSum_50 : decode cX9_productSum 50 = .ok (.lmul, 1) := by decide +kernel
theorem dX9_productSum_51 : decode cX9_productSum 51 = .ok (.ladd, 1) := by decide +kernel
theorem dX9_productSum_52 : decode cX9_productSum 52 = .ok (.lstore 4, 2) := by decide +kernel
theorem dX9_productSum_54 : decode cX9_productSum 54 = .ok (.iinc 6 1, 3) := by decide +kernel
theorem dX9_productSum_57 : decode cX9_productSum 57 = .ok (.goto (-51), 3) := by decide +kernel
theorem dX9_productSum_60 : decode cX9_productSum 60 = .ok (.lload 4, 2) := by decide +kernel
theorem dX9_productSum_62 : decode cX9_productSum 62 = .ok (.lreturn, 1) := by decide +kernel
theorem dX9_period_0 : decode cX9_period 0 = .ok (.aload_n 0, 1) := by decide +kernel
theorem dX9_period_1 : decode cX9_period 1 = .ok (.aload_n 0, 1) := by decide +kernel
theorem dX9_period_2 : decode cX9_period 2 = .ok (.getfield 19, 3) := by decide +kernel
theorem dX9_period_5 : decode cX9_period 5 = .ok (.getfield 177, 3) := by decide +kernel
theorem dX9_period_8 : decode cX9_period 8 = .ok (.iconst 1, 1) := by decide +kernel
theorem dX9_period_9 : decode cX9_period 9 = .ok (.invokevirtual 386, 3) := by decide +kernel
theorem dX9_period_12 : decode cX9_period 12 = .ok (.ireturn, 1) := by decide +kernel
theorem dX9_lag_0 : decode cX9_lag 0 = .ok (.aload_n 0, 1) := by decide +kernel
theorem dX9_lag_1 : decode cX9_lag 1 = .ok (.aload_n 0, 1) := by decide +kernel
theorem dX9_lag_2 : decode cX9_lag 2 = .ok (.getfield 19, 3) := by decide +kernel
theorem dX9_lag_5 : decode cX9_lag 5 = .ok (.getfield 180, 3) := by decide +kernel
theorem dX9_lag_8 : decode cX9_lag 8 = .ok (.iconst 0, 1) := by decide +kernel
theorem dX9_lag_9 : decode cX9_lag 9 = .ok (.invokevirtual 386, 3) := by decide +kernel
theorem dX9_lag_12 : decode cX9_lag 12 = .ok (.ireturn, 1) := by decide +kernel
theorem dX9_greatestProduct_0 : decode cX9_greatestProduct 0 = .ok (.iload_n 2, 1) := by decide +kernel
theorem dX9_greatestProduct_1 : decode cX9_greatestProduct 1 = .ok (.istore_n 3, 1) := by decide +kernel
theorem dX9_greatestProduct_2 : decode cX9_greatestProduct 2 = .ok (.aload_n 0, 1) := by decide +kernel
theorem dX9_greatestProduct_3 : decode cX9_greatestProduct 3 = .ok (.aload_n 1, 1) := by decide +kernel
theorem dX9_greatestProduct_4 : decode cX9_greatestProduct 4 = .ok (.iconst 1, 1) := by decide +kernel
theorem dX9_greatestProduct_5 : decode cX9_greatestProduct 5 = .ok (.iload_n 2, 1) := by decide +kernel
theorem dX9_greatestProduct_6 : decode cX9_greatestProduct 6 = .ok (.invokevirtual 382, 3) := by decide +kernel
theorem dX9_greatestProduct_9 : decode cX9_greatestProduct 9 = .ok (.lstore 4, 2) := by decide +kernel
theorem dX9_greatestProduct_11 : decode cX9_greatestProduct 11 = .ok (.iload_n 2, 1) := by decide +kernel
theorem dX9_greatestProduct_12 : decode cX9_greatestProduct 12 = .ok (.iconst 1, 1) := by decide +kernel
theorem dX9_greatestProduct_13 : decode cX9_greatestProduct 13 = .ok (.iadd, 1) := by decide +kernel
theorem dX9_greatestProduct_14 : decode cX9_greatestProduct 14 = .ok (.istore 6, 2) := by decide +kernel
theorem dX9_greatestProduct_16 : decode cX9_greatestProduct 16 = .ok (.iload 6, 2) := by decide +kernel
theorem dX9_greatestProduct_18 : decode cX9_greatestProduct 18 = .ok (.aload_n 0, 1) := by decide +kernel
theorem dX9_greatestProduct_19 : decode cX9_greatestProduct 19 = .ok (.getfield 10, 3) := by decide +kernel
theorem dX9_greatestProduct_22 : decode cX9_greatestProduct 22 = .ok (.getfield 115, 3) := by decide +kernel
theorem dX9_greatestProduct_25 : decode cX9_greatestProduct 25 = .ok (.if_icmp .ge 34, 3) := by decide +kernel
theorem dX9_greatestProduct_28 : decode cX9_greatestProduct 28 = .ok (.aload_n 0, 1) := by decide +kernel
theorem dX9_greatestProduct_29 : decode cX9_greatestProduct 29 = .ok (.aload_n 1, 1) := by decide +kernel
theorem dX9_greatestProduct_30 : decode cX9_greatestProduct 30 = .ok (.iconst 1, 1) := by decide +kernel
theorem dX9_greatestProduct_31 : decode cX9_greatestProduct 31 = .ok (.iload 6, 2) := by decide +kernel
theorem dX9_greatestProduct_33 : decode cX9_greatestProduct 33 = .ok (.invokevirtual 382, 3) := by decide +kernel
theorem dX9_greatestProduct_36 : decode cX9_greatestProduct 36 = .ok (.lstore 7, 2) := by decide +kernel
theorem dX9_greatestProduct_38 : decode cX9_greatestProduct 38 = .ok (.lload 7, 2) := by decide +kernel
theorem dX9_greatestProduct_40 : decode cX9_greatestProduct 40 = .ok (.lload 4, 2) := by decide +kernel
theorem dX9_greatestProduct_42 : decode cX9_greatestProduct 42 = .ok (.lcmp, 1) := by decide +kernel
theorem dX9_greatestProduct_43 : decode cX9_greatestProduct 43 = .ok (.ifCond .le 10, 3) := by decide +kernel
theorem dX9_greatestProduct_46 : decode cX9_greatestProduct 46 = .ok (.lload 7, 2) := by decide +kernel
theorem dX9_greatestProduct_48 : decode cX9_greatestProduct 48 = .ok (.lstore 4, 2) := by decide +kernel
theorem dX9_greatestProduct_50 : decode cX9_greatestProduct 50 = .ok (.iload 6, 2) := by decide +kernel
theorem dX9_greatestProduct_52 : decode cX9_greatestProduct 52 = .ok (.istore_n 3, 1) := by decide +kernel
theorem dX9_greatestProduct_53 : decode cX9_greatestProduct 53 = .ok (.iinc 6 1, 3) := by decide +kernel
theorem dX9_greatestProduct_56 : decode cX9_greatestProduct 56 = .ok (.goto (-40), 3) := by decide +kernel
theorem dX9_greatestProduct_59 : decode cX9_greatestProduct 59 = .ok (.iload_n 3, 1) := by decide +kernel
theorem dX9_greatestProduct_60 : decode cX9_greatestProduct 60 = .ok (.ireturn, 1) := by decide +kernel
theorem dX9_bin_0 : decode cX9_bin 0 = .ok (.aload_n 0, 1) := by decide +kernel
theorem dX9_bin_1 : decode cX9_bin 1 = .ok (.iload_n 1, 1) := by decide +kernel
theorem dX9_bin_2 : decode cX9_bin 2 = .ok (.invokevirtual 159, 3) := by decide +kernel
theorem dX9_bin_5 : decode cX9_bin 5 = .ok (.ifCond .eq 22, 3) := by decide +kernel
theorem dX9_bin_8 : decode cX9_bin 8 = .ok (.aload_n 0, 1) := by decide +kernel
theorem dX9_bin_9 : decode cX9_bin 9 = .ok (.getfield 40, 3) := by decide +kernel
theorem dX9_bin_12 : decode cX9_bin 12 = .ok (.aload_n 0, 1) := by decide +kernel
theorem dX9_bin_13 : decode cX9_bin 13 = .ok (.getfield 19, 3) := by decide +kernel
theorem dX9_bin_16 : decode cX9_bin 16 = .ok (.getfield 177, 3) := by decide +kernel
theorem dX9_bin_19 : decode cX9_bin 19 = .ok (.iload_n 1, 1) := by decide +kernel
theorem dX9_bin_20 : decode cX9_bin 20 = .ok (.iconst (-1), 1) := by decide +kernel
theorem dX9_bin_21 : decode cX9_bin 21 = .ok (.invokevirtual 389, 3) := by decide +kernel
theorem dX9_bin_24 : decode cX9_bin 24 = .ok (.goto 4, 3) := by decide +kernel
theorem dX9_bin_27 : decode cX9_bin 27 = .ok (.iconst (-1), 1) := by decide +kernel
theorem dX9_bin_28 : decode cX9_bin 28 = .ok (.ireturn, 1) := by decide +kernel
theorem dX9_fold_0 : decode cX9_fold 0 = .ok (.aload_n 0, 1) := by decide +kernel
theorem dX9_fold_1 : decode cX9_fold 1 = .ok (.iload_n 1, 1) := by decide +kernel
theorem dX9_fold_2 : decode cX9_fold 2 = .ok (.invokevirtual 159, 3) := by decide +kernel
theorem dX9_fold_5 : decode cX9_fold 5 = .ok (.ifCond .eq 26, 3) := by decide +kernel
theorem dX9_fold_8 : decode cX9_fold 8 = .ok (.aload_n 0, 1) := by decide +kernel
theorem dX9_fold_9 : decode cX9_fold 9 = .ok (.aload_n 0, 1) := by decide +kernel
theorem dX9_fold_10 : decode cX9_fold 10 = .ok (.getfield 19, 3) := by decide +kernel
theorem dX9_fold_13 : decode cX9_fold 13 = .ok (.getfield 180, 3) := by decide +kernel
theorem dX9_fold_16 : decode cX9_fold 16 = .ok (.iconst (-1), 1) := by decide +kernel
theorem dX9_fold_17 : decode cX9_fold 17 = .ok (.iload_n 1, 1) := by decide +kernel
theorem dX9_fold_18 : decode cX9_fold 18 = .ok (.invokevirtual 382, 3) := by decide +kernel
theorem dX9_fold_21 : decode cX9_fold 21 = .ok (.ldc2_w 393, 3) := by decide +kernel
theorem dX9_fold_24 : decode cX9_fold 24 = .ok (.invokestatic 395, 3) := by decide +kernel
theorem dX9_fold_27 : decode cX9_fold 27 = .ok (.l2i, 1) := by decide +kernel
theorem dX9_fold_28 : decode cX9_fold 28 = .ok (.goto 4, 3) := by decide +kernel
theorem dX9_fold_31 : decode cX9_fold 31 = .ok (.iconst (-1), 1) := by decide +kernel
theorem dX9_fold_32 : decode cX9_fold 32 = .ok (.ireturn, 1) := by decide +kernel
theorem dX9_unfold_0 : decode cX9_unfold 0 = .ok (.aload_n 0, 1) := by decide +kernel
theorem dX9_unfold_1 : decode cX9_unfold 1 = .ok (.iload_n 1, 1) := by decide +kernel
theorem dX9_unfold_2 : decode cX9_unfold 2 = .ok (.invokevirtual 159, 3) := by decide +kernel
theorem dX9_unfold_5 : decode cX9_unfold 5 = .ok (.ifCond .eq 21, 3) := by decide +kernel
theorem dX9_unfold_8 : decode cX9_unfold 8 = .ok (.iload_n 2, 1) := by decide +kernel
theorem dX9_unfold_9 : decode cX9_unfold 9 = .ok (.ifCond .lt 17, 3) := by decide +kernel
theorem dX9_unfold_12 : decode cX9_unfold 12 = .ok (.iload_n 2, 1) := by decide +kernel
theorem dX9_unfold_13 : decode cX9_unfold 13 = .ok (.bipush 97, 2) := by decide +kernel
theorem dX9_unfold_15 : decode cX9_unfold 15 = .ok (.if_icmp .ge 11, 3) := by decide +kernel
theorem dX9_unfold_18 : decode cX9_unfold 18 = .ok (.aload_n 0, 1) := by decide +kernel
theorem dX9_unfold_19 : decode cX9_unfold 19 = .ok (.iload_n 3, 1) := by decide +kernel
theorem dX9_unfold_20 : decode cX9_unfold 20 = .ok (.invokevirtual 159, 3) := by decide +kernel
theorem dX9_unfold_23 : decode cX9_unfold 23 = .ok (.ifCond .ne 5, 3) := by decide +kernel
theorem dX9_unfold_26 : decode cX9_unfold 26 = .ok (.iconst (-1), 1) := by decide +kernel
theorem dX9_unfold_27 : decode cX9_unfold 27 = .ok (.ireturn, 1) := by decide +kernel
theorem dX9_unfold_28 : decode cX9_unfold 28 = .ok (.aload_n 0, 1) := by decide +kernel
theorem dX9_unfold_29 : decode cX9_unfold 29 = .ok (.getfield 40, 3) := by decide +kernel
theorem dX9_unfold_32 : decode cX9_unfold 32 = .ok (.iload_n 1, 1) := by decide +kernel
theorem dX9_unfold_33 : decode cX9_unfold 33 = .ok (.iload_n 2, 1) := by decide +kernel
theorem dX9_unfold_34 : decode cX9_unfold 34 = .ok (.iload_n 3, 1) := by decide +kernel
theorem dX9_unfold_35 : decode cX9_unfold 35 = .ok (.invokevirtual 398, 3) := by decide +kernel
theorem dX9_unfold_38 : decode cX9_unfold 38 = .ok (.ireturn, 1) := by decide +kernel
theorem dX9_note_0 : decode cX9_note 0 = .ok (.aload_n 0, 1) := by decide +kernel
theorem dX9_note_1 : decode cX9_note 1 = .ok (.iload_n 1, 1) := by decide +kernel
theorem dX9_note_2 : decode cX9_note 2 = .ok (.invokevirtual 159, 3) := by decide +kernel
theorem dX9_note_5 : decode cX9_note 5 = .ok (.ifCond .eq 13, 3) := by decide +kernel
theorem dX9_note_8 : decode cX9_note 8 = .ok (.iload_n 2, 1) := by decide +kernel
theorem dX9_note_9 : decode cX9_note 9 = .ok (.ifCond .lt 9, 3) := by decide +kernel
theorem dX9_note_12 : decode cX9_note 12 = .ok (.iload_n 2, 1) := by decide +kernel
theorem dX9_note_13 : decode cX9_note 13 = .ok (.bipush 97, 2) := by decide +kernel
theorem dX9_note_15 : decode cX9_note 15 = .ok (.if_icmp .lt 5, 3) := by decide +kernel
theorem dX9_note_18 : decode cX9_note 18 = .ok (.iconst (-1), 1) := by decide +kernel
theorem dX9_note_19 : decode cX9_note 19 = .ok (.ireturn, 1) := by decide +kernel
theorem dX9_note_20 : decode cX9_note 20 = .ok (.aload_n 0, 1) := by decide +kernel
theorem dX9_note_21 : decode cX9_note 21 = .ok (.getfield 33, 3) := by decide +kernel
theorem dX9_note_24 : decode cX9_note 24 = .ok (.iload_n 3, 1) := by decide +kernel
theorem dX9_note_25 : decode cX9_note 25 = .ok (.ifCond .eq 7, 3) := by decide +kernel
theorem dX9_note_28 : decode cX9_note 28 = .ok (.iconst 1, 1) := by decide +kernel
theorem dX9_note_29 : decode cX9_note 29 = .ok (.goto 4, 3) := by decide +kernel
theorem dX9_note_32 : decode cX9_note 32 = .ok (.iconst 0, 1) := by decide +kernel
theorem dX9_note_33 : decode cX9_note 33 = .ok (.iload_n 1, 1) := by decide +kernel
theorem dX9_note_34 : decode cX9_note 34 = .ok (.iload_n 2, 1) := by decide +kernel
theorem dX9_note_35 : decode cX9_note 35 = .ok (.invokevirtual 402, 3) := by decide +kernel
theorem dX9_note_38 : decode cX9_note 38 = .ok (.ireturn, 1) := by decide +kernel
theorem dX9_strike_0 : decode cX9_strike 0 = .ok (.iload_n 1, 1) := by decide +kernel
theorem dX9_strike_1 : decode cX9_strike 1 = .ok (.ifCond .lt 14, 3) := by decide +kernel
theorem dX9_strike_4 : decode cX9_strike 4 = .ok (.iload_n 1, 1) := by decide +kernel
theorem dX9_strike_5 : decode cX9_strike 5 = .ok (.aload_n 0, 1) := by decide +kernel
theorem dX9_strike_6 : decode cX9_strike 6 = .ok (.getfield 33, 3) := by decide +kernel
theorem dX9_strike_9 : decode cX9_strike 9 = .ok (.getfield 247, 3) := by decide +kernel
theorem dX9_strike_12 : decode cX9_strike 12 = .ok (.if_icmp .lt 5, 3) := by decide +kernel
theorem dX9_strike_15 : decode cX9_strike 15 = .ok (.iconst (-1), 1) := by decide +kernel
theorem dX9_strike_16 : decode cX9_strike 16 = .ok (.ireturn, 1) := by decide +kernel
theorem dX9_strike_17 : decode cX9_strike 17 = .ok (.aload_n 0, 1) := by decide +kernel
theorem dX9_strike_18 : decode cX9_strike 18 = .ok (.getfield 33, 3) := by decide +kernel
theorem dX9_strike_21 : decode cX9_strike 21 = .ok (.iconst 2, 1) := by decide +kernel
theorem dX9_strike_22 : decode cX9_strike 22 = .ok (.iload_n 1, 1) := by decide +kernel
theorem dX9_strike_23 : decode cX9_strike 23 = .ok (.iconst 0, 1) := by decide +kernel
theorem dX9_strike_24 : decode cX9_strike 24 = .ok (.invokevirtual 402, 3) := by decide +kernel
theorem dX9_strike_27 : decode cX9_strike 27 = .ok (.ireturn, 1) := by decide +kernel
theorem dX9_known_0 : decode cX9_known 0 = .ok (.iload_n 1, 1) := by decide +kernel
theorem dX9_known_1 : decode cX9_known 1 = .ok (.iconst (-1), 1) := by decide +kernel
theorem dX9_known_2 : decode cX9_known 2 = .ok (.if_icmp .lt 14, 3) := by decide +kernel
theorem dX9_known_5 : decode cX9_known 5 = .ok (.iload_n 1, 1) := by decide +kernel
theorem dX9_known_6 : decode cX9_known 6 = .ok (.aload_n 0, 1) := by decide +kernel
theorem dX9_known_7 : decode cX9_known 7 = .ok (.getfield 33, 3) := by decide +kernel
theorem dX9_known_10 : decode cX9_known 10 = .ok (.getfield 247, 3) := by decide +kernel
theorem dX9_known_13 : decode cX9_known 13 = .ok (.if_icmp .le 5, 3) := by decide +kernel
theorem dX9_known_16 : decode cX9_known 16 = .ok (.iconst 0, 1) := by decide +kernel
theorem dX9_known_17 : decode cX9_known 17 = .ok (.ireturn, 1) := by decide +kernel
theorem dX9_known_18 : decode cX9_known 18 = .ok (.aload_n 0, 1) := by decide +kernel
theorem dX9_known_19 : decode cX9_known 19 = .ok (.getfield 33, 3) := by decide +kernel
theorem dX9_known_22 : decode cX9_known 22 = .ok (.iload_n 1, 1) := by decide +kernel
theorem dX9_known_23 : decode cX9_known 23 = .ok (.putfield 405, 3) := by decide +kernel
theorem dX9_known_26 : decode cX9_known 26 = .ok (.iconst 1, 1) := by decide +kernel
theorem dX9_known_27 : decode cX9_known 27 = .ok (.ireturn, 1) := by decide +kernel
theorem dX9_values_0 : decode cX9_values 0 = .ok (.aload_n 0, 1) := by decide +kernel
theorem dX9_values_1 : decode cX9_values 1 = .ok (.iload_n 1, 1) := by decide +kernel
theorem dX9_values_2 : decode cX9_values 2 = .ok (.invokevirtual 159, 3) := by decide +kernel
theorem dX9_values_5 : decode cX9_values 5 = .ok (.ifCond .eq 11, 3) := by decide +kernel
theorem dX9_values_8 : decode cX9_values 8 = .ok (.aload_n 0, 1) := by decide +kernel
theorem dX9_values_9 : decode cX9_values 9 = .ok (.iload_n 1, 1) := by decide +kernel
theorem dX9_values_10 : decode cX9_values 10 = .ok (.invokevirtual 408, 3) := by decide +kernel
theorem dX9_values_13 : decode cX9_values 13 = .ok (.goto 4, 3) := by decide +kernel
theorem dX9_values_16 : decode cX9_values 16 = .ok (.iconst (-1), 1) := by decide +kernel
theorem dX9_values_17 : decode cX9_values 17 = .ok (.ireturn, 1) := by decide +kernel
theorem dX9_valuesOf_0 : decode cX9_valuesOf 0 = .ok (.aload_n 0, 1) := by decide +kernel
theorem dX9_valuesOf_1 : decode cX9_valuesOf 1 = .ok (.getfield 33, 3) := by decide +kernel
theorem dX9_valuesOf_4 : decode cX9_valuesOf 4 = .ok (.invokevirtual 411, 3) := by decide +kernel
theorem dX9_valuesOf_7 : decode cX9_valuesOf 7 = .ok (.istore_n 2, 1) := by decide +kernel
theorem dX9_valuesOf_8 : decode cX9_valuesOf 8 = .ok (.ldc_w 414, 3) := by decide +kernel
theorem dX9_valuesOf_11 : decode cX9_valuesOf 11 = .ok (.istore_n 3, 1) := by decide +kernel
theorem dX9_valuesOf_12 : decode cX9_valuesOf 12 = .ok (.iconst 0, 1) := by decide +kernel
theorem dX9_valuesOf_13 : decode cX9_valuesOf 13 = .ok (.istore 4, 2) := by decide +kernel
theorem dX9_valuesOf_15 : decode cX9_valuesOf 15 = .ok (.iload 4, 2) := by decide +kernel
theorem dX9_valuesOf_17 : decode cX9_valuesOf 17 = .ok (.aload_n 0, 1) := by decide +kernel
theorem dX9_valuesOf_18 : decode cX9_valuesOf 18 = .ok (.getfield 33, 3) := by decide +kernel
theorem dX9_valuesOf_21 : decode cX9_valuesOf 21 = .ok (.getfield 247, 3) := by decide +kernel
theorem dX9_valuesOf_24 : decode cX9_valuesOf 24 = .ok (.if_icmp .ge 43, 3) := by decide +kernel
theorem dX9_valuesOf_27 : decode cX9_valuesOf 27 = .ok (.iload_n 2, 1) := by decide +kernel
theorem dX9_valuesOf_28 : decode cX9_valuesOf 28 = .ok (.iload 4, 2) := by decide +kernel
theorem dX9_valuesOf_30 : decode cX9_valuesOf 30 = .ok (.ishr, 1) := by decide +kernel
theorem dX9_valuesOf_31 : decode cX9_valuesOf 31 = .ok (.iconst 1, 1) := by decide +kernel
theorem dX9_valuesOf_32 : decode cX9_valuesOf 32 = .ok (.iand, 1) := by decide +kernel
theorem dX9_valuesOf_33 : decode cX9_valuesOf 33 = .ok (.iconst 1, 1) := by decide +kernel
theorem dX9_valuesOf_34 : decode cX9_valuesOf 34 = .ok (.if_icmp .ne 27, 3) := by decide +kernel
theorem dX9_valuesOf_37 : decode cX9_valuesOf 37 = .ok (.aload_n 0, 1) := by decide +kernel
theorem dX9_valuesOf_38 : decode cX9_valuesOf 38 = .ok (.getfield 33, 3) := by decide +kernel
theorem dX9_valuesOf_41 : decode cX9_valuesOf 41 = .ok (.getfield 415, 3) := by decide +kernel
theorem dX9_valuesOf_44 : decode cX9_valuesOf 44 = .ok (.iload 4, 2) := by decide +kernel
theorem dX9_valuesOf_46 : decode cX9_valuesOf 46 = .ok (.iaload, 1) := by decide +kernel
theorem dX9_valuesOf_47 : decode cX9_valuesOf 47 = .ok (.iconst 2, 1) := by decide +kernel
theorem dX9_valuesOf_48 : decode cX9_valuesOf 48 = .ok (.if_icmp .eq 13, 3) := by decide +kernel
theorem dX9_valuesOf_51 : decode cX9_valuesOf 51 = .ok (.iload_n 3, 1) := by decide +kernel
theorem dX9_valuesOf_52 : decode cX9_valuesOf 52 = .ok (.aload_n 0, 1) := by decide +kernel
theorem dX9_valuesOf_53 : decode cX9_valuesOf 53 = .ok (.iload 4, 2) := by decide +kernel
theorem dX9_valuesOf_55 : decode cX9_valuesOf 55 = .ok (.iload_n 1, 1) := by decide +kernel
theorem dX9_valuesOf_56 : decode cX9_valuesOf 56 = .ok (.invokevirtual 418, 3) := by decide +kernel
theorem dX9_valuesOf_59 : decode cX9_valuesOf 59 = .ok (.iand, 1) := by decide +kernel
theorem dX9_valuesOf_60 : decode cX9_valuesOf 60 = .ok (.istore_n 3, 1) := by decide +kernel
theorem dX9_valuesOf_61 : decode cX9_valuesOf 61 = .ok (.iinc 4 1, 3) := by decide +kernel
theorem dX9_valuesOf_64 : decode cX9_valuesOf 64 = .ok (.goto (-49), 3) := by decide +kernel
theorem dX9_valuesOf_67 : decode cX9_valuesOf 67 = .ok (.iload_n 3, 1) := by decide +kernel
theorem dX9_valuesOf_68 : decode cX9_valuesOf 68 = .ok (.ireturn, 1) := by decide +kernel
theorem dX9_valuesByNote_0 : decode cX9_valuesByNote 0 = .ok (.aload_n 0, 1) := by decide +kernel
theorem dX9_valuesByNote_1 : decode cX9_valuesByNote 1 = .ok (.getfield 33, 3) := by decide +kernel
theorem dX9_valuesByNote_4 : decode cX9_valuesByNote 4 = .ok (.getfield 421, 3) := by decide +kernel
theorem dX9_valuesByNote_7 : decode cX9_valuesByNote 7 = .ok (.iload_n 1, 1) := by decide +kernel
theorem dX9_valuesByNote_8 : decode cX9_valuesByNote 8 = .ok (.iaload, 1) := by decide +kernel
theorem dX9_valuesByNote_9 : decode cX9_valuesByNote 9 = .ok (.istore_n 3, 1) := by decide +kernel
theorem dX9_valuesByNote_10 : decode cX9_valuesByNote 10 = .ok (.aload_n 0, 1) := by decide +kernel
theorem dX9_valuesByNote_11 : decode cX9_valuesByNote 11 = .ok (.getfield 40, 3) := by decide +kernel
theorem dX9_valuesByNote_14 : decode cX9_valuesByNote 14 = .ok (.aload_n 0, 1) := by decide +kernel
theorem dX9_valuesByNote_15 : decode cX9_valuesByNote 15 = .ok (.getfield 19, 3) := by decide +kernel
theorem dX9_valuesByNote_18 : decode cX9_valuesByNote 18 = .ok (.getfield 177, 3) := by decide +kernel
theorem dX9_valuesByNote_21 : decode cX9_valuesByNote 21 = .ok (.iload_n 3, 1) := by decide +kernel
theorem dX9_valuesByNote_22 : decode cX9_valuesByNote 22 = .ok (.iload_n 2, 1) := by decide +kernel
theorem dX9_valuesByNote_23 : decode cX9_valuesByNote 23 = .ok (.invokevirtual 389, 3) := by decide +kernel
theorem dX9_valuesByNote_26 : decode cX9_valuesByNote 26 = .ok (.istore 4, 2) := by decide +kernel
theorem dX9_valuesByNote_28 : decode cX9_valuesByNote 28 = .ok (.aload_n 0, 1) := by decide +kernel
theorem dX9_valuesByNote_29 : decode cX9_valuesByNote 29 = .ok (.getfield 33, 3) := by decide +kernel
theorem dX9_valuesByNote_32 : decode cX9_valuesByNote 32 = .ok (.getfield 415, 3) := by decide +kernel
theorem dX9_valuesByNote_35 : decode cX9_valuesByNote 35 = .ok (.iload_n 1, 1) := by decide +kernel
theorem dX9_valuesByNote_36 : decode cX9_valuesByNote 36 = .ok (.iaload, 1) := by decide +kernel
theorem dX9_valuesByNote_37 : decode cX9_valuesByNote 37 = .ok (.iconst 1, 1) := by decide +kernel
theorem dX9_valuesByNote_38 : decode cX9_valuesByNote 38 = .ok (.if_icmp .ne 7, 3) := by decide +kernel
theorem dX9_valuesByNote_41 : decode cX9_valuesByNote 41 = .ok (.iconst 1, 1) := by decide +kernel
theorem dX9_valuesByNote_42 : decode cX9_valuesByNote 42 = .ok (.goto 4, 3) := by decide +kernel
theorem dX9_valuesByNote_45 : decode cX9_valuesByNote 45 = .ok (.iconst 0, 1) := by decide +kernel
theorem dX9_valuesByNote_46 : decode cX9_valuesByNote 46 = .ok (.istore 5, 2) := by decide +kernel
theorem dX9_valuesByNote_48 : decode cX9_valuesByNote 48 = .ok (.iconst 0, 1) := by decide +kernel
theorem dX9_valuesByNote_49 : decode cX9_valuesByNote 49 = .ok (.istore 6, 2) := by decide +kernel
theorem dX9_valuesByNote_51 : decode cX9_valuesByNote 51 = .ok (.iconst 0, 1) := by decide +kernel
theorem dX9_valuesByNote_52 : decode cX9_valuesByNote 52 = .ok (.istore 7, 2) := by decide +kernel
theorem dX9_valuesByNote_54 : decode cX9_valuesByNote 54 = .ok (.iload 7, 2) := by decide +kernel
theorem dX9_valuesByNote_56 : decode cX9_valuesByNote 56 = .ok (.bipush 16, 2) := by decide +kernel
theorem dX9_valuesByNote_58 : decode cX9_valuesByNote 58 = .ok (.if_icmp .ge 57, 3) := by decide +kernel
theorem dX9_valuesByNote_61 : decode cX9_valuesByNote 61 = .ok (.aload_n 0, 1) := by decide +kernel
theorem dX9_valuesByNote_62 : decode cX9_valuesByNote 62 = .ok (.getfield 40, 3) := by decide +kernel
theorem dX9_valuesByNote_65 : decode cX9_valuesByNote 65 = .ok (.iload 4, 2) := by decide +kernel
theorem dX9_valuesByNote_67 : decode cX9_valuesByNote 67 = .ok (.iload 7, 2) := by decide +kernel
theorem dX9_valuesByNote_69 : decode cX9_valuesByNote 69 = .ok (.iload_n 3, 1) := by decide +kernel
theorem dX9_valuesByNote_70 : decode cX9_valuesByNote 70 = .ok (.iload_n 2, 1) := by decide +kernel
theorem dX9_valuesByNote_71 : decode cX9_valuesByNote 71 = .ok (.invokevirtual 424, 3) := by decide +kernel
theorem dX9_valuesByNote_74 : decode cX9_valuesByNote 74 = .ok (.aload_n 0, 1) := by decide +kernel
theorem dX9_valuesByNote_75 : decode cX9_valuesByNote 75 = .ok (.getfield 33, 3) := by decide +kernel
theorem dX9_valuesByNote_78 : decode cX9_valuesByNote 78 = .ok (.getfield 427, 3) := by decide +kernel
theorem dX9_valuesByNote_81 : decode cX9_valuesByNote 81 = .ok (.iload_n 1, 1) := by decide +kernel
theorem dX9_valuesByNote_82 : decode cX9_valuesByNote 82 = .ok (.iaload, 1) := by decide +kernel
theorem dX9_valuesByNote_83 : decode cX9_valuesByNote 83 = .ok (.if_icmp .lt 7, 3) := by decide +kernel
theorem dX9_valuesByNote_86 : decode cX9_valuesByNote 86 = .ok (.iconst 1, 1) := by decide +kernel
theorem dX9_valuesByNote_87 : decode cX9_valuesByNote 87 = .ok (.goto 4, 3) := by decide +kernel
theorem dX9_valuesByNote_90 : decode cX9_valuesByNote 90 = .ok (.iconst 0, 1) := by decide +kernel
theorem dX9_valuesByNote_91 : decode cX9_valuesByNote 91 = .ok (.istore 8, 2) := by decide +kernel
theorem dX9_valuesByNote_93 : decode cX9_valuesByNote 93 = .ok (.iload 8, 2) := by decide +kernel
theorem dX9_valuesByNote_95 : decode cX9_valuesByNote 95 = .ok (.iload 5, 2) := by decide +kernel
theorem dX9_valuesByNote_97 : decode cX9_valuesByNote 97 = .ok (.if_icmp .ne 12, 3) := by decide +kernel
theorem dX9_valuesByNote_100 : decode cX9_valuesByNote 100 = .ok (.iload 6, 2) := by decide +kernel
theorem dX9_valuesByNote_102 : decode cX9_valuesByNote 102 = .ok (.iconst 1, 1) := by decide +kernel
theorem dX9_valuesByNote_103 : decode cX9_valuesByNote 103 = .ok (.iload 7, 2) := by decide +kernel
theorem dX9_valuesByNote_105 : decode cX9_valuesByNote 105 = .ok (.ishl, 1) := by decide +kernel
theorem dX9_valuesByNote_106 : decode cX9_valuesByNote 106 = .ok (.ior, 1) := by decide +kernel
theorem dX9_valuesByNote_107 : decode cX9_valuesByNote 107 = .ok (.istore 6, 2) := by decide +kernel
theorem dX9_valuesByNote_109 : decode cX9_valuesByNote 109 = .ok (.iinc 7 1, 3) := by decide +kernel
theorem dX9_valuesByNote_112 : decode cX9_valuesByNote 112 = .ok (.goto (-58), 3) := by decide +kernel
theorem dX9_valuesByNote_115 : decode cX9_valuesByNote 115 = .ok (.iload 6, 2) := by decide +kernel
theorem dX9_valuesByNote_117 : decode cX9_valuesByNote 117 = .ok (.ireturn, 1) := by decide +kernel
theorem dX9_ask_0 : decode cX9_ask 0 = .ok (.aload_n 0, 1) := by decide +kernel
theorem dX9_ask_1 : decode cX9_ask 1 = .ok (.iload_n 1, 1) := by decide +kernel
theorem dX9_ask_2 : decode cX9_ask 2 = .ok (.invokevirtual 159, 3) := by decide +kernel
theorem dX9_ask_5 : decode cX9_ask 5 = .ok (.ifCond .eq 12, 3) := by decide +kernel
theorem dX9_ask_8 : decode cX9_ask 8 = .ok (.iload_n 2, 1) := by decide +kernel
theorem dX9_ask_9 : decode cX9_ask 9 = .ok (.ifCond .lt 8, 3) := by decide +kernel
theorem dX9_ask_12 : decode cX9_ask 12 = .ok (.iload_n 2, 1) := by decide +kernel
theorem dX9_ask_13 : decode cX9_ask 13 = .ok (.iconst 2, 1) := by decide +kernel
theorem dX9_ask_14 : decode cX9_ask 14 = .ok (.if_icmp .le 5, 3) := by decide +kernel
theorem dX9_ask_17 : decode cX9_ask 17 = .ok (.iconst (-1), 1) := by decide +kernel
theorem dX9_ask_18 : decode cX9_ask 18 = .ok (.ireturn, 1) := by decide +kernel
theorem dX9_ask_19 : decode cX9_ask 19 = .ok (.aload_n 0, 1) := by decide +kernel
theorem dX9_ask_20 : decode cX9_ask 20 = .ok (.iload_n 1, 1) := by decide +kernel
theorem dX9_ask_21 : decode cX9_ask 21 = .ok (.invokevirtual 408, 3) := by decide +kernel
theorem dX9_ask_24 : decode cX9_ask 24 = .ok (.istore_n 3, 1) := by decide +kernel
theorem dX9_ask_25 : decode cX9_ask 25 = .ok (.iload_n 3, 1) := by decide +kernel
theorem dX9_ask_26 : decode cX9_ask 26 = .ok (.invokestatic 430, 3) := by decide +kernel
theorem dX9_ask_29 : decode cX9_ask 29 = .ok (.istore 4, 2) := by decide +kernel
theorem dX9_ask_31 : decode cX9_ask 31 = .ok (.iconst 0, 1) := by decide +kernel
theorem dX9_ask_32 : decode cX9_ask 32 = .ok (.istore 5, 2) := by decide +kernel
theorem dX9_ask_34 : decode cX9_ask 34 = .ok (.iconst 1, 1) := by decide +kernel
theorem dX9_ask_35 : decode cX9_ask 35 = .ok (.istore 6, 2) := by decide +kernel
theorem dX9_ask_37 : decode cX9_ask 37 = .ok (.iload 4, 2) := by decide +kernel
theorem dX9_ask_39 : decode cX9_ask 39 = .ok (.istore 7, 2) := by decide +kernel
theorem dX9_ask_41 : decode cX9_ask 41 = .ok (.iconst 0, 1) := by decide +kernel
theorem dX9_ask_42 : decode cX9_ask 42 = .ok (.istore 8, 2) := by decide +kernel
theorem dX9_ask_44 : decode cX9_ask 44 = .ok (.iload 8, 2) := by decide +kernel
theorem dX9_ask_46 : decode cX9_ask 46 = .ok (.aload_n 0, 1) := by decide +kernel
theorem dX9_ask_47 : decode cX9_ask 47 = .ok (.getfield 10, 3) := by decide +kernel
theorem dX9_ask_50 : decode cX9_ask 50 = .ok (.getfield 115, 3) := by decide +kernel
theorem dX9_ask_53 : decode cX9_ask 53 = .ok (.if_icmp .ge 82, 3) := by decide +kernel
theorem dX9_ask_56 : decode cX9_ask 56 = .ok (.aload_n 0, 1) := by decide +kernel
theorem dX9_ask_57 : decode cX9_ask 57 = .ok (.iload_n 3, 1) := by decide +kernel
theorem dX9_ask_58 : decode cX9_ask 58 = .ok (.iload 8, 2) := by decide +kernel
theorem dX9_ask_60 : decode cX9_ask 60 = .ok (.iload_n 1, 1) := by decide +kernel
theorem dX9_ask_61 : decode cX9_ask 61 = .ok (.invokevirtual 433, 3) := by decide +kernel
theorem dX9_ask_64 : decode cX9_ask 64 = .ok (.iload 4, 2) := by decide +kernel
theorem dX9_ask_66 : decode cX9_ask 66 = .ok (.istore 9, 2) := by decide +kernel
theorem dX9_ask_68 : decode cX9_ask 68 = .ok (.iconst 1, 1) := by decide +kernel
theorem dX9_ask_69 : decode cX9_ask 69 = .ok (.istore 10, 2) := by decide +kernel
theorem dX9_ask_71 : decode cX9_ask 71 = .ok (.iload 10, 2) := by decide +kernel
theorem dX9_ask_73 : decode cX9_ask 73 = .ok (.bipush 97, 2) := by decide +kernel
theorem dX9_ask_75 : decode cX9_ask 75 = .ok (.if_icmp .ge 54, 3) := by decide +kernel
theorem dX9_ask_78 : decode cX9_ask 78 = .ok (.iload 9, 2) := by decide +kernel
theorem dX9_ask_80 : decode cX9_ask 80 = .ok (.aload_n 0, 1) := by decide +kernel
theorem dX9_ask_81 : decode cX9_ask 81 = .ok (.getfield 90, 3) := by decide +kernel
theorem dX9_ask_84 : decode cX9_ask 84 = .ok (.iload 10, 2) := by decide +kernel
theorem dX9_ask_86 : decode cX9_ask 86 = .ok (.iconst 1, 1) := by decide +kernel
theorem dX9_ask_87 : decode cX9_ask 87 = .ok (.isub, 1) := by decide +kernel
theorem dX9_ask_88 : decode cX9_ask 88 = .ok (.iaload, 1) := by decide +kernel
theorem dX9_ask_89 : decode cX9_ask 89 = .ok (.isub, 1) := by decide +kernel
theorem dX9_ask_90 : decode cX9_ask 90 = .ok (.istore 9, 2) := by decide +kernel
theorem dX9_ask_92 : decode cX9_ask 92 = .ok (.iload 9, 2) := by decide +kernel
theorem dX9_ask_94 : decode cX9_ask 94 = .ok (.iload 4, 2) := by decide +kernel
theorem dX9_ask_96 : decode cX9_ask 96 = .ok (.iload 9, 2) := by decide +kernel
theorem dX9_ask_98 : decode cX9_ask 98 = .ok (.isub, 1) := by decide +kernel
theorem dX9_ask_99 : decode cX9_ask 99 = .ok (.invokestatic 346, 3) := by decide +kernel
theorem dX9_ask_102 : decode cX9_ask 102 = .ok (.istore 11, 2) := by decide +kernel
theorem dX9_ask_104 : decode cX9_ask 104 = .ok (.iload 11, 2) := by decide +kernel
theorem dX9_ask_106 : decode cX9_ask 106 = .ok (.iload 7, 2) := by decide +kernel
theorem dX9_ask_108 : decode cX9_ask 108 = .ok (.if_icmp .ge 15, 3) := by decide +kernel
theorem dX9_ask_111 : decode cX9_ask 111 = .ok (.iload 11, 2) := by decide +kernel
theorem dX9_ask_113 : decode cX9_ask 113 = .ok (.istore 7, 2) := by decide +kernel
theorem dX9_ask_115 : decode cX9_ask 115 = .ok (.iload 8, 2) := by decide +kernel
theorem dX9_ask_117 : decode cX9_ask 117 = .ok (.istore 5, 2) := by decide +kernel
theorem dX9_ask_119 : decode cX9_ask 119 = .ok (.iload 10, 2) := by decide +kernel
theorem dX9_ask_121 : decode cX9_ask 121 = .ok (.istore 6, 2) := by decide +kernel
theorem dX9_ask_123 : decode cX9_ask 123 = .ok (.iinc 10 1, 3) := by decide +kernel
theorem dX9_ask_126 : decode cX9_ask 126 = .ok (.goto (-55), 3) := by decide +kernel
theorem dX9_ask_129 : decode cX9_ask 129 = .ok (.iinc 8 1, 3) := by decide +kernel
theorem dX9_ask_132 : decode cX9_ask 132 = .ok (.goto (-88), 3) := by decide +kernel
theorem dX9_ask_135 : decode cX9_ask 135 = .ok (.iload_n 2, 1) := by decide +kernel
theorem dX9_ask_136 : decode cX9_ask 136 = .ok (.ifCond .ne 6, 3) := by decide +kernel
theorem dX9_ask_139 : decode cX9_ask 139 = .ok (.iload 5, 2) := by decide +kernel
theorem dX9_ask_141 : decode cX9_ask 141 = .ok (.ireturn, 1) := by decide +kernel
theorem dX9_ask_142 : decode cX9_ask 142 = .ok (.iload_n 2, 1) := by decide +kernel
theorem dX9_ask_143 : decode cX9_ask 143 = .ok (.iconst 1, 1) := by decide +kernel
theorem dX9_ask_144 : decode cX9_ask 144 = .ok (.if_icmp .ne 8, 3) := by decide +kernel
theorem dX9_ask_147 : decode cX9_ask 147 = .ok (.iload 6, 2) := by decide +kernel
theorem dX9_ask_149 : decode cX9_ask 149 = .ok (.goto 5, 3) := by decide +kernel
theorem dX9_ask_152 : decode cX9_ask 152 = .ok (.iload 7, 2) := by decide +kernel
theorem dX9_ask_154 : decode cX9_ask 154 = .ok (.ireturn, 1) := by decide +kernel
theorem dX9_tallyBins_0 : decode cX9_tallyBins 0 = .ok (.iconst 0, 1) := by decide +kernel
theorem dX9_tallyBins_1 : decode cX9_tallyBins 1 = .ok (.istore 4, 2) := by decide +kernel
theorem dX9_tallyBins_3 : decode cX9_tallyBins 3 = .ok (.iload 4, 2) := by decide +kernel
theorem dX9_tallyBins_5 : decode cX9_tallyBins 5 = .ok (.bipush 97, 2) := by decide +kernel
theorem dX9_tallyBins_7 : decode cX9_tallyBins 7 = .ok (.if_icmp .ge 17, 3) := by decide +kernel
theorem dX9_tallyBins_10 : decode cX9_tallyBins 10 = .ok (.aload_n 0, 1) := by decide +kernel
theorem dX9_tallyBins_11 : decode cX9_tallyBins 11 = .ok (.getfield 90, 3) := by decide +kernel
theorem dX9_tallyBins_14 : decode cX9_tallyBins 14 = .ok (.iload 4, 2) := by decide +kernel
theorem dX9_tallyBins_16 : decode cX9_tallyBins 16 = .ok (.iconst 0, 1) := by decide +kernel
theorem dX9_tallyBins_17 : decode cX9_tallyBins 17 = .ok (.iastore, 1) := by decide +kernel
theorem dX9_tallyBins_18 : decode cX9_tallyBins 18 = .ok (.iinc 4 1, 3) := by decide +kernel
theorem dX9_tallyBins_21 : decode cX9_tallyBins 21 = .ok (.goto (-18), 3) := by decide +kernel
theorem dX9_tallyBins_24 : decode cX9_tallyBins 24 = .ok (.aload_n 0, 1) := by decide +kernel
theorem dX9_tallyBins_25 : decode cX9_tallyBins 25 = .ok (.getfield 40, 3) := by decide +kernel
theorem dX9_tallyBins_28 : decode cX9_tallyBins 28 = .ok (.aload_n 0, 1) := by decide +kernel
theorem dX9_tallyBins_29 : decode cX9_tallyBins 29 = .ok (.getfield 19, 3) := by decide +kernel
theorem dX9_tallyBins_32 : decode cX9_tallyBins 32 = .ok (.getfield 177, 3) := by decide +kernel
theorem dX9_tallyBins_35 : decode cX9_tallyBins 35 = .ok (.iload_n 2, 1) := by decide +kernel
theorem dX9_tallyBins_36 : decode cX9_tallyBins 36 = .ok (.iload_n 3, 1) := by decide +kernel
theorem dX9_tallyBins_37 : decode cX9_tallyBins 37 = .ok (.invokevirtual 389, 3) := by decide +kernel
theorem dX9_tallyBins_40 : decode cX9_tallyBins 40 = .ok (.istore 4, 2) := by decide +kernel
theorem dX9_tallyBins_42 : decode cX9_tallyBins 42 = .ok (.iconst 0, 1) := by decide +kernel
theorem dX9_tallyBins_43 : decode cX9_tallyBins 43 = .ok (.istore 5, 2) := by decide +kernel
theorem dX9_tallyBins_45 : decode cX9_tallyBins 45 = .ok (.iload 5, 2) := by decide +kernel
theorem dX9_tallyBins_47 : decode cX9_tallyBins 47 = .ok (.bipush 16, 2) := by decide +kernel
theorem dX9_tallyBins_49 : decode cX9_tallyBins 49 = .ok (.if_icmp .ge 41, 3) := by decide +kernel
theorem dX9_tallyBins_52 : decode cX9_tallyBins 52 = .ok (.iload_n 1, 1) := by decide +kernel
theorem dX9_tallyBins_53 : decode cX9_tallyBins 53 = .ok (.iload 5, 2) := by decide +kernel
theorem dX9_tallyBins_55 : decode cX9_tallyBins 55 = .ok (.ishr, 1) := by decide +kernel
theorem dX9_tallyBins_56 : decode cX9_tallyBins 56 = .ok (.iconst 1, 1) := by decide +kernel
theorem dX9_tallyBins_57 : decode cX9_tallyBins 57 = .ok (.iand, 1) := by decide +kernel
theorem dX9_tallyBins_58 : decode cX9_tallyBins 58 = .ok (.iconst 1, 1) := by decide +kernel
theorem dX9_tallyBins_59 : decode cX9_tallyBins 59 = .ok (.if_icmp .ne 25, 3) := by decide +kernel
theorem dX9_tallyBins_62 : decode cX9_tallyBins 62 = .ok (.aload_n 0, 1) := by decide +kernel
theorem dX9_tallyBins_63 : decode cX9_tallyBins 63 = .ok (.getfield 90, 3) := by decide +kernel
theorem dX9_tallyBins_66 : decode cX9_tallyBins 66 = .ok (.aload_n 0, 1) := by decide +kernel
theorem dX9_tallyBins_67 : decode cX9_tallyBins 67 = .ok (.getfield 40, 3) := by decide +kernel
theorem dX9_tallyBins_70 : decode cX9_tallyBins 70 = .ok (.iload 4, 2) := by decide +kernel
theorem dX9_tallyBins_72 : decode cX9_tallyBins 72 = .ok (.iload 5, 2) := by decide +kernel
theorem dX9_tallyBins_74 : decode cX9_tallyBins 74 = .ok (.iload_n 2, 1) := by decide +kernel
theorem dX9_tallyBins_75 : decode cX9_tallyBins 75 = .ok (.iload_n 3, 1) := by decide +kernel
theorem dX9_tallyBins_76 : decode cX9_tallyBins 76 = .ok (.invokevirtual 424, 3) := by decide +kernel
theorem dX9_tallyBins_79 : decode cX9_tallyBins 79 = .ok (.dup2, 1) := by decide +kernel
theorem dX9_tallyBins_80 : decode cX9_tallyBins 80 = .ok (.iaload, 1) := by decide +kernel
theorem dX9_tallyBins_81 : decode cX9_tallyBins 81 = .ok (.iconst 1, 1) := by decide +kernel
theorem dX9_tallyBins_82 : decode cX9_tallyBins 82 = .ok (.iadd, 1) := by decide +kernel
theorem dX9_tallyBins_83 : decode cX9_tallyBins 83 = .ok (.iastore, 1) := by decide +kernel
theorem dX9_tallyBins_84 : decode cX9_tallyBins 84 = .ok (.iinc 5 1, 3) := by decide +kernel
theorem dX9_tallyBins_87 : decode cX9_tallyBins 87 = .ok (.goto (-42), 3) := by decide +kernel
theorem dX9_tallyBins_90 : decode cX9_tallyBins 90 = .ok (.return_, 1) := by decide +kernel
theorem dX9_undo_0 : decode cX9_undo 0 = .ok (.aload_n 0, 1) := by decide +kernel
theorem dX9_undo_1 : decode cX9_undo 1 = .ok (.getfield 26, 3) := by decide +kernel
theorem dX9_undo_4 : decode cX9_undo 4 = .ok (.aload_n 0, 1) := by decide +kernel
theorem dX9_undo_5 : decode cX9_undo 5 = .ok (.getfield 19, 3) := by decide +kernel
theorem dX9_undo_8 : decode cX9_undo 8 = .ok (.invokevirtual 437, 3) := by decide +kernel
theorem dX9_undo_11 : decode cX9_undo 11 = .ok (.ifCond .eq 13, 3) := by decide +kernel
theorem dX9_undo_14 : decode cX9_undo 14 = .ok (.aload_n 0, 1) := by decide +kernel
theorem dX9_undo_15 : decode cX9_undo 15 = .ok (.getfield 26, 3) := by decide +kernel
theorem dX9_undo_18 : decode cX9_undo 18 = .ok (.getfield 254, 3) := by decide +kernel
theorem dX9_undo_21 : decode cX9_undo 21 = .ok (.goto 4, 3) := by decide +kernel
theorem dX9_undo_24 : decode cX9_undo 24 = .ok (.iconst (-1), 1) := by decide +kernel
theorem dX9_undo_25 : decode cX9_undo 25 = .ok (.ireturn, 1) := by decide +kernel
theorem dX9_keep_0 : decode cX9_keep 0 = .ok (.aload_n 0, 1) := by decide +kernel
theorem dX9_keep_1 : decode cX9_keep 1 = .ok (.getfield 19, 3) := by decide +kernel
theorem dX9_keep_4 : decode cX9_keep 4 = .ok (.aload_n 0, 1) := by decide +kernel
theorem dX9_keep_5 : decode cX9_keep 5 = .ok (.getfield 94, 3) := by decide +kernel
theorem dX9_keep_8 : decode cX9_keep 8 = .ok (.iconst 0, 1) := by decide +kernel
theorem dX9_keep_9 : decode cX9_keep 9 = .ok (.invokevirtual 441, 3) := by decide +kernel
theorem dX9_keep_12 : decode cX9_keep 12 = .ok (.aload_n 0, 1) := by decide +kernel
theorem dX9_keep_13 : decode cX9_keep 13 = .ok (.iconst 1, 1) := by decide +kernel
theorem dX9_keep_14 : decode cX9_keep 14 = .ok (.putfield 97, 3) := by decide +kernel
theorem dX9_keep_17 : decode cX9_keep 17 = .ok (.aload_n 0, 1) := by decide +kernel
theorem dX9_keep_18 : decode cX9_keep 18 = .ok (.getfield 19, 3) := by decide +kernel
theorem dX9_keep_21 : decode cX9_keep 21 = .ok (.getfield 206, 3) := by decide +kernel
theorem dX9_keep_24 : decode cX9_keep 24 = .ok (.ireturn, 1) := by decide +kernel
theorem dX9_back_0 : decode cX9_back 0 = .ok (.aload_n 0, 1) := by decide +kernel
theorem dX9_back_1 : decode cX9_back 1 = .ok (.getfield 97, 3) := by decide +kernel
theorem dX9_back_4 : decode cX9_back 4 = .ok (.ifCond .ne 5, 3) := by decide +kernel
theorem dX9_back_7 : decode cX9_back 7 = .ok (.iconst (-1), 1) := by decide +kernel
theorem dX9_back_8 : decode cX9_back 8 = .ok (.ireturn, 1) := by decide +kernel
theorem dX9_back_9 : decode cX9_back 9 = .ok (.aload_n 0, 1) := by decide +kernel
theorem dX9_back_10 : decode cX9_back 10 = .ok (.getfield 19, 3) := by decide +kernel
theorem dX9_back_13 : decode cX9_back 13 = .ok (.aload_n 0, 1) := by decide +kernel
theorem dX9_back_14 : decode cX9_back 14 = .ok (.getfield 94, 3) := by decide +kernel
theorem dX9_back_17 : decode cX9_back 17 = .ok (.iconst 0, 1) := by decide +kernel
theorem dX9_back_18 : decode cX9_back 18 = .ok (.invokevirtual 445, 3) := by decide +kernel
theorem dX9_back_21 : decode cX9_back 21 = .ok (.aload_n 0, 1) := by decide +kernel
theorem dX9_back_22 : decode cX9_back 22 = .ok (.getfield 26, 3) := by decide +kernel
theorem dX9_back_25 : decode cX9_back 25 = .ok (.invokevirtual 152, 3) := by decide +kernel
theorem dX9_back_28 : decode cX9_back 28 = .ok (.aload_n 0, 1) := by decide +kernel
theorem dX9_back_29 : decode cX9_back 29 = .ok (.getfield 19, 3) := by decide +kernel
theorem dX9_back_32 : decode cX9_back 32 = .ok (.getfield 206, 3) := by decide +kernel
theorem dX9_back_35 : decode cX9_back 35 = .ok (.ireturn, 1) := by decide +kernel
