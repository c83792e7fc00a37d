set_option maxRecDepth 20000 in
theorem ggX9_init_X8_init : GoodIn wsX9_init wsX8_init := goodIn_r _ [56, 57, 2, 3, 46, 58, 59, 60, 61, 6, 62, 63, 64, 65, 66, 67, 68, 69, 70, 71, 72, 73, 74, 75, 76, 77, 78, 79, 80, 81, 82, 83, 84, 85, 86, 87, 160, 161, 162, 163, 164, 165, 166, 167, 168, 169] (by decide +kernel) (by decide +kernel)
set_option maxRecDepth 20000 in
theorem gX9_init_X8_init : GoodIn wsX9_init (wsX8_init) := ggX9_init_X8_init
set_option maxRecDepth 20000 in
theorem ggX9_init_X7_init : GoodIn wsX9_init wsX7_init := goodIn_r _ [89, 90, 2, 3, 46, 91, 92, 93, 94, 95, 96, 97, 98, 189, 190, 191, 192, 193, 194, 195, 196] (by decide +kernel) (by decide +kernel)
set_option maxRecDepth 20000 in
theorem gX9_init_X7_init_n18 : GoodIn wsX9_init (wsX7_init) := ggX9_init_X7_init
set_option maxRecDepth 20000 in
theorem ggX9_init_X3_init : GoodIn wsX9_init wsX3_init := goodIn_r _ [100, 101, 2, 3, 46, 102, 103, 104, 197, 198, 199] (by decide +kernel) (by decide +kernel)
set_option maxRecDepth 20000 in
theorem gX9_init_X3_init_n25 : GoodIn wsX9_init (wsX3_init) := ggX9_init_X3_init
set_option maxRecDepth 20000 in
theorem ggX9_init_X2_init : GoodIn wsX9_init wsX2_init := goodIn_r _ [106, 107, 2, 3, 46, 108, 109, 110, 111, 112, 200, 201, 202, 203, 204] (by decide +kernel) (by decide +kernel)
set_option maxRecDepth 20000 in
theorem gX9_init_X2_init_n32 : GoodIn wsX9_init (wsX2_init) := ggX9_init_X2_init
set_option maxRecDepth 20000 in
theorem ggX9_init_X5_init : GoodIn wsX9_init wsX5_init := goodIn_r _ [114, 115, 2, 3, 46, 116, 117, 118, 205, 206, 207] (by decide +kernel) (by decide +kernel)
set_option maxRecDepth 20000 in
theorem gX9_init_X5_init_n39 : GoodIn wsX9_init (wsX5_init) := ggX9_init_X5_init
set_option maxRecDepth 20000 in
theorem ggX9_init_X6_init : GoodIn wsX9_init wsX6_init := goodIn_r _ [120, 121, 2, 3, 46, 122, 123, 208, 209] (by decide +kernel) (by decide +kernel)
set_option maxRecDepth 20000 in
theorem gX9_init_X6_init_n46 : GoodIn wsX9_init (wsX6_init) := ggX9_init_X6_init
set_option maxRecDepth 20000 in
theorem ggX9_init_X0_init : GoodIn wsX9_init wsX0_init := goodIn_r _ [126, 127, 2, 3, 46, 128, 129, 130, 131, 132, 210, 211, 212, 213, 214] (by decide +kernel) (by decide +kernel)
set_option maxRecDepth 20000 in
theorem gX9_init_X0_init : GoodIn wsX9_init (wsX0_init) := ggX9_init_X0_init
set_option maxRecDepth 20000 in
theorem ggX9_init_X4_init : GoodIn wsX9_init wsX4_init := goodIn_r _ [134, 135, 2, 3, 136, 5, 6, 137, 46, 138, 139, 140, 141, 142, 55, 56, 57, 58, 59, 60, 61, 62, 63, 64, 65, 66, 67, 68, 69, 70, 71, 72, 73, 74, 75, 76, 77, 78, 79, 80, 81, 82, 83, 84, 85, 86, 87, 160, 161, 162, 163, 164, 165, 166, 167, 168, 169, 215, 216, 217, 218, 219, 220, 221, 222, 223, 224, 225, 226, 227] (by decide +kernel) (by decide +kernel)
set_option maxRecDepth 20000 in
theorem gX9_init_X4_init_n62 : GoodIn wsX9_init (wsX4_init) := ggX9_init_X4_init
set_option maxRecDepth 20000 in
theorem ggX9_init_X1_init : GoodIn wsX9_init wsX1_init := goodIn_r _ [144, 145, 2, 3, 146, 228] (by decide +kernel) (by decide +kernel)
set_option maxRecDepth 20000 in
theorem gX9_init_X1_init_n69 : GoodIn wsX9_init (wsX1_init) := ggX9_init_X1_init
set_option maxRecDepth 20000 in
theorem ggX9_init_X6_fit : GoodIn wsX9_init wsX6_fit := goodIn_r _ [150, 122, 123, 151, 152, 26, 153, 154, 208, 209] (by decide +kernel) (by decide +kernel)
set_option maxRecDepth 20000 in
theorem gX9_init_X6_fit : GoodIn wsX9_init (wsV RX9 111 RX6 yX6_fit wsX6_fit) := goodIn_app (goodIn_of _ (by decide +kernel)) ggX9_init_X6_fit
set_option maxRecDepth 20000 in
theorem ggX9_init_X5_fit : GoodIn wsX9_init wsX5_fit := goodIn_r _ [158, 117, 118, 159, 116, 205, 206, 207] (by decide +kernel) (by decide +kernel)
set_option maxRecDepth 20000 in
theorem gX9_init_X5_fit : GoodIn wsX9_init (wsV RX9 118 RX5 yX5_fit wsX5_fit) := goodIn_app (goodIn_of _ (by decide +kernel)) ggX9_init_X5_fit
theorem dX9_init_0 : decode cX9_init 0 = .ok (.aload_n 0, 1) := by decide +kernel
theorem dX9_init_1 : decode cX9_init 1 = .ok (.invokespecial 1, 3) := by decide +kernel
theorem dX9_init_4 : decode cX9_init 4 = .ok (.aload_n 0, 1) := by decide +kernel
theorem dX9_init_5 : decode cX9_init 5 = .ok (.new 7, 3) := by decide +kernel
theorem dX9_init_8 : decode cX9_init 8 = .ok (.dup, 1) := by decide +kernel
theorem dX9_init_9 : decode cX9_init 9 = .ok (.invokespecial 9, 3) := by decide +kernel
theorem dX9_init_12 : decode cX9_init 12 = .ok (.putfield 10, 3) := by decide +kernel
theorem dX9_init_15 : decode cX9_init 15 = .ok (.aload_n 0, 1) := by decide +kernel
theorem dX9_init_16 : decode cX9_init 16 = .ok (.new 16, 3) := by decide +kernel
theorem dX9_init_19 : decode cX9_init 19 = .ok (.dup, 1) := by decide +kernel
theorem dX9_init_20 : decode cX9_init 20 = .ok (.invokespecial 18, 3) := by decide +kernel
theorem dX9_init_23 : decode cX9_init 23 = .ok (.putfield 19, 3) := by decide +kernel
theorem dX9_init_26 : decode cX9_init 26 = .ok (.aload_n 0, 1) := by decide +kernel
theorem dX9_init_27 : decode cX9_init 27 = .ok (.new 23, 3) := by decide +kernel
theorem dX9_init_30 : decode cX9_init 30 = .ok (.dup, 1) := by decide +kernel
theorem dX9_init_31 : decode cX9_init 31 = .ok (.invokespecial 25, 3) := by decide +kernel
theorem dX9_init_34 : decode cX9_init 34 = .ok (.putfield 26, 3) := by decide +kernel
theorem dX9_init_37 : decode cX9_init 37 = .ok (.aload_n 0, 1) := by decide +kernel
theorem dX9_init_38 : decode cX9_init 38 = .ok (.new 30, 3) := by decide +kernel
theorem dX9_init_41 : decode cX9_init 41 = .ok (.dup, 1) := by decide +kernel
theorem dX9_init_42 : decode cX9_init 42 = .ok (.invokespecial 32, 3) := by decide +kernel
theorem dX9_init_45 : decode cX9_init 45 = .ok (.putfield 33, 3) := by decide +kernel
theorem dX9_init_48 : decode cX9_init 48 = .ok (.aload_n 0, 1) := by decide +kernel
theorem dX9_init_49 : decode cX9_init 49 = .ok (.new 37, 3) := by decide +kernel
theorem dX9_init_52 : decode cX9_init 52 = .ok (.dup, 1) := by decide +kernel
theorem dX9_init_53 : decode cX9_init 53 = .ok (.invokespecial 39, 3) := by decide +kernel
theorem dX9_init_56 : decode cX9_init 56 = .ok (.putfield 40, 3) := by decide +kernel
theorem dX9_init_59 : decode cX9_init 59 = .ok (.aload_n 0, 1) := by decide +kernel
theorem dX9_init_60 : decode cX9_init 60 = .ok (.new 44, 3) := by decide +kernel
theorem dX9_init_63 : decode cX9_init 63 = .ok (.dup, 1) := by decide +kernel
theorem dX9_init_64 : decode cX9_init 64 = .ok (.invokespecial 46, 3) := by decide +kernel
theorem dX9_init_67 : decode cX9_init 67 = .ok (.putfield 47, 3) := by decide +kernel
theorem dX9_init_70 : decode cX9_init 70 = .ok (.aload_n 0, 1) := by decide +kernel
theorem dX9_init_71 : decode cX9_init 71 = .ok (.new 51, 3) := by decide +kernel
theorem dX9_init_74 : decode cX9_init 74 = .ok (.dup, 1) := by decide +kernel
theorem dX9_init_75 : decode cX9_init 75 = .ok (.aload_n 0, 1) := by decide +kernel
theorem dX9_init_76 : decode cX9_init 76 = .ok (.getfield 47, 3) := by decide +kernel
theorem dX9_init_79 : decode cX9_init 79 = .ok (.invokespecial 53, 3) := by decide +kernel
theorem dX9_init_82 : decode cX9_init 82 = .ok (.putfield 56, 3) := by decide +kernel
theorem dX9_init_85 : decode cX9_init 85 = .ok (.aload_n 0, 1) := by decide +kernel
theorem dX9_init_86 : decode cX9_init 86 = .ok (.new 60, 3) := by decide +kernel
theorem dX9_init_89 : decode cX9_init 89 = .ok (.dup, 1) := by decide +kernel
theorem dX9_init_90 : decode cX9_init 90 = .ok (.invokespecial 62, 3) := by decide +kernel
theorem dX9_init_93 : decode cX9_init 93 = .ok (.putfield 63, 3) := by decide +kernel
theorem dX9_init_96 : decode cX9_init 96 = .ok (.aload_n 0, 1) := by decide +kernel
theorem dX9_init_97 : decode cX9_init 97 = .ok (.new 67, 3) := by decide +kernel
theorem dX9_init_100 : decode cX9_init 100 = .ok (.dup, 1) := by decide +kernel
theorem dX9_init_101 : decode cX9_init 101 = .ok (.invokespecial 69, 3) := by decide +kernel
theorem dX9_init_104 : decode cX9_init 104 = .ok (.putfield 70, 3) := by decide +kernel
theorem dX9_init_107 : decode cX9_init 107 = .ok (.aload_n 0, 1) := by decide +kernel
theorem dX9_init_108 : decode cX9_init 108 = .ok (.new 7, 3) := by decide +kernel
theorem dX9_init_111 : decode cX9_init 111 = .ok (.dup, 1) := by decide +kernel
theorem dX9_init_112 : decode cX9_init 112 = .ok (.invokespecial 9, 3) := by decide +kernel
theorem dX9_init_115 : decode cX9_init 115 = .ok (.putfield 74, 3) := by decide +kernel
theorem dX9_init_118 : decode cX9_init 118 = .ok (.aload_n 0, 1) := by decide +kernel
theorem dX9_init_119 : decode cX9_init 119 = .ok (.new 16, 3) := by decide +kernel
theorem dX9_init_122 : decode cX9_init 122 = .ok (.dup, 1) := by decide +kernel
theorem dX9_init_123 : decode cX9_init 123 = .ok (.invokespecial 18, 3) := by decide +kernel
theorem dX9_init_126 : decode cX9_init 126 = .ok (.putfield 77, 3) := by decide +kernel
theorem dX9_init_129 : decode cX9_init 129 = .ok (.aload_n 0, 1) := by decide +kernel
theorem dX9_init_130 : decode cX9_init 130 = .ok (.new 16, 3) := by decide +kernel
theorem dX9_init_133 : decode cX9_init 133 = .ok (.dup, 1) := by decide +kernel
theorem dX9_init_134 : decode cX9_init 134 = .ok (.invokespecial 18, 3) := by decide +kernel
theorem dX9_init_137 : decode cX9_init 137 = .ok (.putfield 80, 3) := by decide +kernel
theorem dX9_init_140 : decode cX9_init 140 = .ok (.aload_n 0, 1) := by decide +kernel
theorem dX9_init_141 : decode cX9_init 141 = .ok (.bipush 32, 2) := by decide +kernel
theorem dX9_init_143 : decode cX9_init 143 = .ok (.newarray .long, 2) := by decide +kernel
theorem dX9_init_145 : decode cX9_init 145 = .ok (.putfield 83, 3) := by decide +kernel
theorem dX9_init_148 : decode cX9_init 148 = .ok (.aload_n 0, 1) := by decide +kernel
theorem dX9_init_149 : decode cX9_init 149 = .ok (.bipush 32, 2) := by decide +kernel
theorem dX9_init_151 : decode cX9_init 151 = .ok (.newarray .long, 2) := by decide +kernel
theorem dX9_init_153 : decode cX9_init 153 = .ok (.putfield 87, 3) := by decide +kernel
theorem dX9_init_156 : decode cX9_init 156 = .ok (.aload_n 0, 1) := by decide +kernel
theorem dX9_init_157 : decode cX9_init 157 = .ok (.bipush 97, 2) := by decide +kernel
theorem dX9_init_159 : decode cX9_init 159 = .ok (.newarray .int, 2) := by decide +kernel
theorem dX9_init_161 : decode cX9_init 161 = .ok (.putfield 90, 3) := by decide +kernel
theorem dX9_init_164 : decode cX9_init 164 = .ok (.aload_n 0, 1) := by decide +kernel
theorem dX9_init_165 : decode cX9_init 165 = .ok (.sipush 136, 3) := by decide +kernel
theorem dX9_init_168 : decode cX9_init 168 = .ok (.newarray .int, 2) := by decide +kernel
theorem dX9_init_170 : decode cX9_init 170 = .ok (.putfield 94, 3) := by decide +kernel
theorem dX9_init_173 : decode cX9_init 173 = .ok (.aload_n 0, 1) := by decide +kernel
theorem dX9_init_174 : decode cX9_init 174 = .ok (.iconst 0, 1) := by decide +kernel
theorem dX9_init_175 : decode cX9_init 175 = .ok (.putfield 97, 3) := by decide +kernel
theorem dX9_init_178 : decode cX9_init 178 = .ok (.aload_n 0, 1) := by decide +kernel
theorem dX9_init_179 : decode cX9_init 179 = .ok (.sipush 700, 3) := by decide +kernel
theorem dX9_init_182 : decode cX9_init 182 = .ok (.newarray .int, 2) := by decide +kernel
theorem dX9_init_184 : decode cX9_init 184 = .ok (.putfield 101, 3) := by decide +kernel
theorem dX9_init_187 : decode cX9_init 187 = .ok (.aload_n 0, 1) := by decide +kernel
theorem dX9_init_188 : decode cX9_init 188 = .ok (.iconst 0, 1) := by decide +kernel
theorem dX9_init_189 : decode cX9_init 189 = .ok (.putfield 104, 3) := by decide +kernel
theorem dX9_init_192 : decode cX9_init 192 = .ok (.aload_n 0, 1) := by decide +kernel
theorem dX9_init_193 : decode cX9_init 193 = .ok (.getfield 47, 3) := by decide +kernel
theorem dX9_init_196 : decode cX9_init 196 = .ok (.aload_n 0, 1) := by decide +kernel
theorem dX9_init_197 : decode cX9_init 197 = .ok (.getfield 10, 3) := by decide +kernel
theorem dX9_init_200 : decode cX9_init 200 = .ok (.getfield 108, 3) := by decide +kernel
theorem dX9_init_203 : decode cX9_init 203 = .ok (.invokevirtual 111, 3) := by decide +kernel
theorem dX9_init_206 : decode cX9_init 206 = .ok (.aload_n 0, 1) := by decide +kernel
theorem dX9_init_207 : decode cX9_init 207 = .ok (.getfield 40, 3) := by decide +kernel
theorem dX9_init_210 : decode cX9_init 210 = .ok (.aload_n 0, 1) := by decide +kernel
theorem dX9_init_211 : decode cX9_init 211 = .ok (.getfield 10, 3) := by decide +kernel
theorem dX9_init_214 : decode cX9_init 214 = .ok (.getfield 115, 3) := by decide +kernel
theorem dX9_init_217 : decode cX9_init 217 = .ok (.aload_n 0, 1) := by decide +kernel
theorem dX9_init_218 : decode cX9_init 218 = .ok (.getfield 10, 3) := by decide +kernel
theorem dX9_init_221 : decode cX9_init 221 = .ok (.getfield 108, 3) := by decide +kernel
theorem dX9_init_224 : decode cX9_init 224 = .ok (.invokevirtual 118, 3) := by decide +kernel
theorem dX9_init_227 : decode cX9_init 227 = .ok (.return_, 1) := by decide +kernel
set_option maxRecDepth 20000 in
theorem ggX9_feed_X9_layDown : GoodIn wsX9_feed wsX9_layDown := goodIn_r _ [6, 1, 7, 8, 9, 10, 11, 12, 13, 14, 15, 16, 17, 18, 19, 20, 21, 22, 23, 24, 25, 26] (by decide +kernel) (by decide +kernel)
set_option maxRecDepth 20000 in
theorem gX9_feed_X9_layDown : GoodIn wsX9_feed (wsV RX9 121 RX9 yX9_layDown wsX9_layDown) := goodIn_app (goodIn_of _ (by decide +kernel)) ggX9_feed_X9_layDown
theorem dX9_feed_0 : decode cX9_feed 0 = .ok (.aload_n 0, 1) := by decide +kernel
theorem dX9_feed_1 : decode cX9_feed 1 = .ok (.getfield 104, 3) := by decide +kernel
theorem dX9_feed_4 : decode cX9_feed 4 = .ok (.bipush 20, 2) := by decide +kernel
theorem dX9_feed_6 : decode cX9_feed 6 = .ok (.iadd, 1) := by decide +kernel
theorem dX9_feed_7 : decode cX9_feed 7 = .ok (.sipush 700, 3) := by decide +kernel
theorem dX9_feed_10 : decode cX9_feed 10 = .ok (.if_icmp .le 5, 3) := by decide +kernel
theorem dX9_feed_13 : decode cX9_feed 13 = .ok (.iconst (-1), 1) := by decide +kernel
theorem dX9_feed_14 : decode cX9_feed 14 = .ok (.ireturn, 1) := by decide +kernel
theorem dX9_feed_15 : decode cX9_feed 15 = .ok (.aload_n 0, 1) := by decide +kernel
theorem dX9_feed_16 : decode cX9_feed 16 = .ok (.iload_n 1, 1) := by decide +kernel
theorem dX9_feed_17 : decode cX9_feed 17 = .ok (.invokevirtual 121, 3) := by decide +kernel
theorem dX9_feed_20 : decode cX9_feed 20 = .ok (.aload_n 0, 1) := by decide +kernel
theorem dX9_feed_21 : decode cX9_feed 21 = .ok (.iload_n 2, 1) := by decide +kernel
theorem dX9_feed_22 : decode cX9_feed 22 = .ok (.invokevirtual 121, 3) := by decide +kernel
theorem dX9_feed_25 : decode cX9_feed 25 = .ok (.aload_n 0, 1) := by decide +kernel
theorem dX9_feed_26 : decode cX9_feed 26 = .ok (.iload_n 3, 1) := by decide +kernel
theorem dX9_feed_27 : decode cX9_feed 27 = .ok (.invokevirtual 121, 3) := by decide +kernel
theorem dX9_feed_30 : decode cX9_feed 30 = .ok (.aload_n 0, 1) := by decide +kernel
theorem dX9_feed_31 : decode cX9_feed 31 = .ok (.iload 4, 2) := by decide +kernel
theorem dX9_feed_33 : decode cX9_feed 33 = .ok (.invokevirtual 121, 3) := by decide +kernel
theorem dX9_feed_36 : decode cX9_feed 36 = .ok (.aload_n 0, 1) := by decide +kernel
theorem dX9_feed_37 : decode cX9_feed 37 = .ok (.iload 5, 2) := by decide +kernel
theorem dX9_feed_39 : decode cX9_feed 39 = .ok (.invokevirtual 121, 3) := by decide +kernel
theorem dX9_feed_42 : decode cX9_feed 42 = .ok (.aload_n 0, 1) := by decide +kernel
theorem dX9_feed_43 : decode cX9_feed 43 = .ok (.getfield 104, 3) := by decide +kernel
theorem dX9_feed_46 : decode cX9_feed 46 = .ok (.ireturn, 1) := by decide +kernel
theorem dX9_layDown_0 : decode cX9_layDown 0 = .ok (.bipush 24, 2) := by decide +kernel
theorem dX9_layDown_2 : decode cX9_layDown 2 = .ok (.istore_n 2, 1) := by decide +kernel
theorem dX9_layDown_3 : decode cX9_layDown 3 = .ok (.iload_n 2, 1) := by decide +kernel
theorem dX9_layDown_4 : decode cX9_layDown 4 = .ok (.ifCond .lt 45, 3) := by decide +kernel
theorem dX9_layDown_7 : decode cX9_layDown 7 = .ok (.aload_n 0, 1) := by decide +kernel
theorem dX9_layDown_8 : decode cX9_layDown 8 = .ok (.getfield 104, 3) := by decide +kernel
theorem dX9_layDown_11 : decode cX9_layDown 11 = .ok (.sipush 700, 3) := by decide +kernel
theorem dX9_layDown_14 : decode cX9_layDown 14 = .ok (.if_icmp .ge 29, 3) := by decide +kernel
theorem dX9_layDown_17 : decode cX9_layDown 17 = .ok (.aload_n 0, 1) := by decide +kernel
theorem dX9_layDown_18 : decode cX9_layDown 18 = .ok (.getfield 101, 3) := by decide +kernel
theorem dX9_layDown_21 : decode cX9_layDown 21 = .ok (.aload_n 0, 1) := by decide +kernel
theorem dX9_layDown_22 : decode cX9_layDown 22 = .ok (.getfield 104, 3) := by decide +kernel
theorem dX9_layDown_25 : decode cX9_layDown 25 = .ok (.iload_n 1, 1) := by decide +kernel
theorem dX9_layDown_26 : decode cX9_layDown 26 = .ok (.iload_n 2, 1) := by decide +kernel
theorem dX9_layDown_27 : decode cX9_layDown 27 = .ok (.iushr, 1) := by decide +kernel
theorem dX9_layDown_28 : decode cX9_layDown 28 = .ok (.sipush 255, 3) := by decide +kernel
theorem dX9_layDown_31 : decode cX9_layDown 31 = .ok (.iand, 1) := by decide +kernel
theorem dX9_layDown_32 : decode cX9_layDown 32 = .ok (.iastore, 1) := by decide +kernel
theorem dX9_layDown_33 : decode cX9_layDown 33 = .ok (.aload_n 0, 1) := by decide +kernel
theorem dX9_layDown_34 : decode cX9_layDown 34 = .ok (.dup, 1) := by decide +kernel
theorem dX9_layDown_35 : decode cX9_layDown 35 = .ok (.getfield 104, 3) := by decide +kernel
theorem dX9_layDown_38 : decode cX9_layDown 38 = .ok (.iconst 1, 1) := by decide +kernel
theorem dX9_layDown_39 : decode cX9_layDown 39 = .ok (.iadd, 1) := by decide +kernel
theorem dX9_layDown_40 : decode cX9_layDown 40 = .ok (.putfield 104, 3) := by decide +kernel
theorem dX9_layDown_43 : decode cX9_layDown 43 = .ok (.iinc 2 (-8), 3) := by decide +kernel
theorem dX9_layDown_46 : decode cX9_layDown 46 = .ok (.goto (-43), 3) := by decide +kernel
theorem dX9_layDown_49 : decode cX9_layDown 49 = .ok (.return_, 1) := by decide +kernel
set_option maxRecDepth 20000 in
theorem ggX9_text_X4_readAll : GoodIn wsX9_text wsX4_readAll := goodIn_r _ [8, 9, 10, 11, 12, 7, 13, 14, 15, 16, 17, 18, 19, 20, 21, 22, 23, 24, 25, 26, 27, 28, 29, 30, 31, 32, 33, 34, 35, 36, 37, 38, 39, 40, 41, 42, 43, 44, 45, 46, 47, 48, 49, 50, 51, 52, 53, 54, 55, 56, 57, 58, 59, 60, 61, 62, 63, 64, 65, 66, 67, 68, 69, 70, 71, 72, 73, 74, 75, 76, 77, 78, 79, 80, 81, 82, 83, 84, 85, 86, 87, 88, 89, 90, 91, 92, 93, 94, 95, 96, 97, 98, 99, 100, 101, 102, 103, 104, 105, 106, 107, 108, 109, 110, 111, 112, 113, 114, 115, 116, 117, 118, 119, 120, 121, 122, 123, 124, 125, 126, 127, 128, 129, 130, 131, 132, 133, 134, 135, 136, 137, 138, 139, 140, 141, 142, 143, 144, 145, 146, 147, 148, 149, 150, 151, 152, 153, 154, 155, 156, 157, 158, 159, 160, 161, 255, 256, 257, 258, 259, 260, 261, 262, 263, 264, 265, 266, 267, 268, 269, 270, 271, 272, 273, 274, 275, 276, 277] (by decide +kernel) (by decide +kernel)
set_option maxRecDepth 20000 in
theorem gX9_text_X4_readAll : GoodIn wsX9_text (wsV RX9 124 RX4 yX4_readAll wsX4_readAll) := goodIn_app (goodIn_of _ (by decide +kernel)) ggX9_text_X4_readAll
set_option maxRecDepth 20000 in
theorem ggX9_text_X9_takeOver : GoodIn wsX9_text wsX9_takeOver := goodIn_r _ [166, 167, 2, 168, 169, 170, 171, 172, 173, 174, 175, 176, 177, 178, 179, 180, 181, 27, 182, 35, 36, 41, 29, 30, 47, 48, 37, 38, 39, 40, 42, 43, 44, 45, 46, 49, 50, 51, 52, 53, 54, 183, 184, 185, 186, 187, 188, 189, 190, 191, 192, 193, 194, 195, 196, 197, 198, 199, 200, 201, 202, 203, 204, 205, 206, 207, 208, 209, 210, 211, 212, 213, 214, 215, 216, 217, 218, 219, 220, 221, 222, 223, 224, 225, 226, 227, 228, 229, 230, 231, 232, 233, 234, 235, 236, 237, 238, 239, 240, 241, 242, 243, 244, 245, 246, 247, 248, 249, 250, 251, 252, 253, 254, 255, 256, 257, 258, 259, 260, 261, 262, 263, 264, 265, 266, 267, 268, 269, 270, 271, 272, 273, 274, 275, 276, 277, 278, 279, 280, 281, 282, 283, 284, 285, 286, 287, 288, 289, 290, 291, 292, 293, 294, 295, 296, 297, 298] (by decide +kernel) (by decide +kernel)
set_option maxRecDepth 20000 in
theorem gX9_text_X9_takeOver : GoodIn wsX9_text (wsV RX9 128 RX9 yX9_takeOver wsX9_takeOver) := goodIn_app (goodIn_of _ (by decide +kernel)) ggX9_text_X9_takeOver
theorem dX9_text_0 : decode cX9_text 0 = .ok (.iload_n 1, 1) := by decide +kernel
theorem dX9_text_1 : decode cX9_text 1 = .ok (.ifCond .lt 11, 3) := by decide +kernel
theorem dX9_text_4 : decode cX9_text 4 = .ok (.iload_n 1, 1) := by decide +kernel
theorem dX9_text_5 : decode cX9_text 5 = .ok (.aload_n 0, 1) := by decide +kernel
theorem dX9_text_6 : decode cX9_text 6 = .ok (.getfield 104, 3) := by decide +kernel
theorem dX9_text_9 : decode cX9_text 9 = .ok (.if_icmp .le 6, 3) := by decide +kernel
theorem dX9_text_12 : decode cX9_text 12 = .ok (.bipush (-2), 2) := by decide +kernel
theorem dX9_text_14 : decode cX9_text 14 = .ok (.ireturn, 1) := by decide +kernel
theorem dX9_text_15 : decode cX9_text 15 = .ok (.aload_n 0, 1) := by decide +kernel
theorem dX9_text_16 : decode cX9_text 16 = .ok (.getfield 63, 3) := by decide +kernel
theorem dX9_text_19 : decode cX9_text 19 = .ok (.aload_n 0, 1) := by decide +kernel
theorem dX9_text_20 : decode cX9_text 20 = .ok (.getfield 101, 3) := by decide +kernel
theorem dX9_text_23 : decode cX9_text 23 = .ok (.iload_n 1, 1) := by decide +kernel
theorem dX9_text_24 : decode cX9_text 24 = .ok (.invokevirtual 124, 3) := by decide +kernel
theorem dX9_text_27 : decode cX9_text 27 = .ok (.istore_n 2, 1) := by decide +kernel
theorem dX9_text_28 : decode cX9_text 28 = .ok (.aload_n 0, 1) := by decide +kernel
theorem dX9_text_29 : decode cX9_text 29 = .ok (.iconst 0, 1) := by decide +kernel
theorem dX9_text_30 : decode cX9_text 30 = .ok (.putfield 104, 3) := by decide +kernel
theorem dX9_text_33 : decode cX9_text 33 = .ok (.iload_n 2, 1) := by decide +kernel
theorem dX9_text_34 : decode cX9_text 34 = .ok (.iconst (-1), 1) := by decide +kernel
theorem dX9_text_35 : decode cX9_text 35 = .ok (.if_icmp .eq 7, 3) := by decide +kernel
theorem dX9_text_38 : decode cX9_text 38 = .ok (.aload_n 0, 1) := by decide +kernel
theorem dX9_text_39 : decode cX9_text 39 = .ok (.invokevirtual 128, 3) := by decide +kernel
theorem dX9_text_42 : decode cX9_text 42 = .ok (.iload_n 2, 1) := by decide +kernel
theorem dX9_text_43 : decode cX9_text 43 = .ok (.ireturn, 1) := by decide +kernel
set_option maxRecDepth 20000 in
theorem ggX9_takeOver_X8_copyFrom : GoodIn wsX9_takeOver wsX8_copyFrom := goodIn_r _ [18, 19, 20, 21, 22, 23, 24, 25, 26, 27, 28, 17, 29, 30, 31, 32, 33, 34, 35, 36, 37, 38, 39, 40, 126, 127, 128, 129, 130, 131, 132, 133, 134, 135] (by decide +kernel) (by decide +kernel)
set_option maxRecDepth 20000 in
theorem gX9_takeOver_X8_copyFrom : GoodIn wsX9_takeOver (wsV RX9 132 RX8 yX8_copyFrom wsX8_copyFrom) := goodIn_app (goodIn_of _ (by decide +kernel)) ggX9_takeOver_X8_copyFrom
set_option maxRecDepth 20000 in
theorem ggX9_takeOver_X6_fit : GoodIn wsX9_takeOver wsX6_fit := goodIn_r _ [45, 46, 47, 48, 49, 44, 50, 51, 136, 137] (by decide +kernel) (by decide +kernel)
set_option maxRecDepth 20000 in
theorem gX9_takeOver_X6_fit : GoodIn wsX9_takeOver (wsV RX9 111 RX6 yX6_fit wsX6_fit) := goodIn_app (goodIn_of _ (by decide +kernel)) ggX9_takeOver_X6_fit
set_option maxRecDepth 20000 in
theorem ggX9_takeOver_X5_fit : GoodIn wsX9_takeOver wsX5_fit := goodIn_r _ [56, 57, 58, 59, 60, 138, 139, 140] (by decide +kernel) (by decide +kernel)
set_option maxRecDepth 20000 in
theorem gX9_takeOver_X5_fit : GoodIn wsX9_takeOver (wsV RX9 118 RX5 yX5_fit wsX5_fit) := goodIn_app (goodIn_of _ (by decide +kernel)) ggX9_takeOver_X5_fit
set_option maxRecDepth 20000 in
theorem ggX9_takeOver_X7_begin : GoodIn wsX9_takeOver wsX7_begin := goodIn_r _ [65, 66, 67, 68, 69, 70, 71, 72, 73, 74, 141, 142, 143, 144, 145, 146, 147, 148] (by decide +kernel) (by decide +kernel)
set_option maxRecDepth 20000 in
theorem gX9_takeOver_X7_begin : GoodIn wsX9_takeOver (wsV RX9 142 RX7 yX7_begin wsX7_begin) := goodIn_app (goodIn_of _ (by decide +kernel)) ggX9_takeOver_X7_begin
set_option maxRecDepth 20000 in
theorem ggX9_takeOver_X7_settle : GoodIn wsX9_takeOver wsX7_settle := goodIn_r _ [78, 66, 79, 67, 68, 69, 70, 71, 80, 141, 142, 143, 144, 145, 146, 147, 148] (by decide +kernel) (by decide +kernel)
set_option maxRecDepth 20000 in
theorem gX9_takeOver_X7_settle : GoodIn wsX9_takeOver (wsV RX9 146 RX7 yX7_settle wsX7_settle) := goodIn_app (goodIn_of _ (by decide +kernel)) ggX9_takeOver_X7_settle
set_option maxRecDepth 20000 in
theorem ggX9_takeOver_X2_forgetAll : GoodIn wsX9_takeOver wsX2_forgetAll := goodIn_r _ [85, 86, 87, 149, 150, 151, 152, 153] (by decide +kernel) (by decide +kernel)
set_option maxRecDepth 20000 in
theorem gX9_takeOver_X2_forgetAll : GoodIn wsX9_takeOver (wsV RX9 149 RX2 yX2_forgetAll wsX2_forgetAll) := goodIn_app (goodIn_of _ (by decide +kernel)) ggX9_takeOver_X2_forgetAll
set_option maxRecDepth 20000 in
theorem ggX9_takeOver_X3_forgetAll : GoodIn wsX9_takeOver wsX3_forgetAll := goodIn_r _ [92, 93, 154, 155, 156] (by decide +kernel) (by decide +kernel)
set_option maxRecDepth 20000 in
theorem gX9_takeOver_X3_forgetAll : GoodIn wsX9_takeOver (wsV RX9 152 RX3 yX3_forgetAll wsX3_forgetAll) := goodIn_app (goodIn_of _ (by decide +kernel)) ggX9_takeOver_X3_forgetAll
theorem dX9_takeOver_0 : decode cX9_takeOver 0 = .ok (.aload_n 0, 1) := by decide +kernel
theorem dX9_takeOver_1 : decode cX9_takeOver 1 = .ok (.getfield 10, 3) := by decide +kernel
theorem dX9_takeOver_4 : decode cX9_takeOver 4 = .ok (.aload_n 0, 1) := by decide +kernel
theorem dX9_takeOver_5 : decode cX9_takeOver 5 = .ok (.getfield 63, 3) := by decide +kernel
theorem dX9_takeOver_8 : decode cX9_takeOver 8 = .ok (.getfield 131, 3) := by decide +kernel
theorem dX9_takeOver_11 : decode cX9_takeOver 11 = .ok (.invokevirtual 132, 3) := by decide +kernel
theorem dX9_takeOver_14 : decode cX9_takeOver 14 = .ok (.aload_n 0, 1) := by decide +kernel
theorem dX9_takeOver_15 : decode cX9_takeOver 15 = .ok (.getfield 47, 3) := by decide +kernel
theorem dX9_takeOver_18 : decode cX9_takeOver 18 = .ok (.aload_n 0, 1) := by decide +kernel
theorem dX9_takeOver_19 : decode cX9_takeOver 19 = .ok (.getfield 10, 3) := by decide +kernel
theorem dX9_takeOver_22 : decode cX9_takeOver 22 = .ok (.getfield 108, 3) := by decide +kernel
theorem dX9_takeOver_25 : decode cX9_takeOver 25 = .ok (.invokevirtual 111, 3) := by decide +kernel
theorem dX9_takeOver_28 : decode cX9_takeOver 28 = .ok (.aload_n 0, 1) := by decide +kernel
theorem dX9_takeOver_29 : decode cX9_takeOver 29 = .ok (.getfield 40, 3) := by decide +kernel
theorem dX9_takeOver_32 : decode cX9_takeOver 32 = .ok (.aload_n 0, 1) := by decide +kernel
theorem dX9_takeOver_33 : decode cX9_takeOver 33 = .ok (.getfield 10, 3) := by decide +kernel
theorem dX9_takeOver_36 : decode cX9_takeOver 36 = .ok (.getfield 115, 3) := by decide +kernel
theorem dX9_takeOver_39 : decode cX9_takeOver 39 = .ok (.aload_n 0, 1) := by decide +kernel
theorem dX9_takeOver_40 : decode cX9_takeOver 40 = .ok (.getfield 10, 3) := by decide +kernel
theorem dX9_takeOver_43 : decode cX9_takeOver 43 = .ok (.getfield 108, 3) := by decide +kernel
theorem dX9_takeOver_46 : decode cX9_takeOver 46 = .ok (.invokevirtual 118, 3) := by decide +kernel
theorem dX9_takeOver_49 : decode cX9_takeOver 49 = .ok (.aload_n 0, 1) := by decide +kernel
theorem dX9_takeOver_50 : decode cX9_takeOver 50 = .ok (.getfield 19, 3) := by decide +kernel
theorem dX9_takeOver_53 : decode cX9_takeOver 53 = .ok (.aload_n 0, 1) := by decide +kernel
theorem dX9_takeOver_54 : decode cX9_takeOver 54 = .ok (.getfield 63, 3) := by decide +kernel
theorem dX9_takeOver_57 : decode cX9_takeOver 57 = .ok (.getfield 136, 3) := by decide +kernel
theorem dX9_takeOver_60 : decode cX9_takeOver 60 = .ok (.aload_n 0, 1) := by decide +kernel
theorem dX9_takeOver_61 : decode cX9_takeOver 61 = .ok (.getfield 63, 3) := by decide +kernel
theorem dX9_takeOver_64 : decode cX9_takeOver 64 = .ok (.getfield 139, 3) := by decide +kernel
theorem dX9_takeOver_67 : decode cX9_takeOver 67 = .ok (.invokevirtual 142, 3) := by decide +kernel
theorem dX9_takeOver_70 : decode cX9_takeOver 70 = .ok (.aload_n 0, 1) := by decide +kernel
theorem dX9_takeOver_71 : decode cX9_takeOver 71 = .ok (.getfield 19, 3) := by decide +kernel
theorem dX9_takeOver_74 : decode cX9_takeOver 74 = .ok (.invokevirtual 146, 3) := by decide +kernel
theorem dX9_takeOver_77 : decode cX9_takeOver 77 = .ok (.aload_n 0, 1) := by decide +kernel
theorem dX9_takeOver_78 : decode cX9_takeOver 78 = .ok (.getfield 33, 3) := by decide +kernel
theorem dX9_takeOver_81 : decode cX9_takeOver 81 = .ok (.invokevirtual 149, 3) := by decide +kernel
theorem dX9_takeOver_84 : decode cX9_takeOver 84 = .ok (.aload_n 0, 1) := by decide +kernel
theorem dX9_takeOver_85 : decode cX9_takeOver 85 = .ok (.getfield 26, 3) := by decide +kernel
theorem dX9_takeOver_88 : decode cX9_takeOver 88 = .ok (.invokevirtual 152, 3) := by decide +kernel
theorem dX9_takeOver_91 : decode cX9_takeOver 91 = .ok (.aload_n 0, 1) := by decide +kernel
theorem dX9_takeOver_92 : decode cX9_takeOver 92 = .ok (.iconst 0, 1) := by decide +kernel
theorem dX9_takeOver_93 : decode cX9_takeOver 93 = .ok (.putfield 97, 3) := by decide +kernel
theorem dX9_takeOver_96 : decode cX9_takeOver 96 = .ok (.return_, 1) := by decide +kernel
theorem dX9_fault_0 : decode cX9_fault 0 = .ok (.iload_n 1, 1) := by decide +kernel
theorem dX9_fault_1 : decode cX9_fault 1 = .ok (.ifCond .ne 11, 3) := by decide +kernel
theorem dX9_fault_4 : decode cX9_fault 4 = .ok (.aload_n 0, 1) := by decide +kernel
theorem dX9_fault_5 : decode cX9_fault 5 = .ok (.getfield 63, 3) := by decide +kernel
theorem dX9_fault_8 : decode cX9_fault 8 = .ok (.getfield 153, 3) := by decide +kernel
theorem dX9_fault_11 : decode cX9_fault 11 = .ok (.ireturn, 1) := by decide +kernel
theorem dX9_fault_12 : decode cX9_fault 12 = .ok (.iload_n 1, 1) := by decide +kernel
theorem dX9_fault_13 : decode cX9_fault 13 = .ok (.iconst 1, 1) := by decide +kernel
theorem dX9_fault_14 : decode cX9_fault 14 = .ok (.if_icmp .ne 13, 3) := by decide +kernel
theorem dX9_fault_17 : decode cX9_fault 17 = .ok (.aload_n 0, 1) := by decide +kernel
theorem dX9_fault_18 : decode cX9_fault 18 = .ok (.getfield 63, 3) := by decide +kernel
theorem dX9_fault_21 : decode cX9_fault 21 = .ok (.getfield 156, 3) := by decide +kernel
theorem dX9_fault_24 : decode cX9_fault 24 = .ok (.goto 4, 3) := by decide +kernel
theorem dX9_fault_27 : decode cX9_fault 27 = .ok (.iconst (-1), 1) := by decide +kernel
theorem dX9_fault_28 : decode cX9_fault 28 = .ok (.ireturn, 1) := by decide +kernel
set_option maxRecDepth 20000 in
theorem ggX9_point_X9_isPlace : GoodIn wsX9_point wsX9_isPlace := goodIn_r _ [14, 15, 16, 17, 18, 19, 20, 21, 22, 23, 24, 25, 26, 27, 28, 29, 30, 31, 32, 33, 34, 35, 44, 45, 46, 47, 48, 49, 50, 51, 52, 53] (by decide +kernel) (by decide +kernel)
set_option maxRecDepth 20000 in
theorem gX9_point_X9_isPlace : GoodIn wsX9_point (wsV RX9 159 RX9 yX9_isPlace wsX9_isPlace) := goodIn_app (goodIn_of _ (by decide +kernel)) ggX9_point_X9_isPlace
theorem dX9_point_0 : decode cX9_point 0 = .ok (.aload_n 0, 1) := by decide +kernel
theorem dX9_point_1 : decode cX9_point 1 = .ok (.iload_n 1, 1) := by decide +kernel
theorem dX9_point_2 : decode cX9_point 2 = .ok (.invokevirtual 159, 3) := by decide +kernel
theorem dX9_point_5 : decode cX9_point 5 = .ok (.ifCond .ne 13, 3) := by decide +kernel
theorem dX9_point_8 : decode cX9_point 8 = .ok (.new 163, 3) := by decide +kernel
theorem dX9_point_11 : decode cX9_point 11 = .ok (.dup, 1) := by decide +kernel
theorem dX9_point_12 : decode cX9_point 12 = .ok (.ldc 165, 2) := by decide +kernel
theorem dX9_point_14 : decode cX9_point 14 = .ok (.invokespecial 167, 3) := by decide +kernel
theorem dX9_point_17 : decode cX9_point 17 = .ok (.athrow, 1) := by decide +kernel
theorem dX9_point_18 : decode cX9_point 18 = .ok (.iload_n 2, 1) := by decide +kernel
theorem dX9_point_19 : decode cX9_point 19 = .ok (.ifCond .lt 8, 3) := by decide +kernel
theorem dX9_point_22 : decode cX9_point 22 = .ok (.iload_n 2, 1) := by decide +kernel
theorem dX9_point_23 : decode cX9_point 23 = .ok (.iconst 3, 1) := by decide +kernel
theorem dX9_point_24 : decode cX9_point 24 = .ok (.if_icmp .le 13, 3) := by decide +kernel
theorem dX9_point_27 : decode cX9_point 27 = .ok (.new 170, 3) := by decide +kernel
theorem dX9_point_30 : decode cX9_point 30 = .ok (.dup, 1) := by decide +kernel
theorem dX9_point_31 : decode cX9_point 31 = .ok (.ldc 172, 2) := by decide +kernel
theorem dX9_point_33 : decode cX9_point 33 = .ok (.invokespecial 174, 3) := by decide +kernel
theorem dX9_point_36 : decode cX9_point 36 = .ok (.athrow, 1) := by decide +kernel
theorem dX9_point_37 : decode cX9_point 37 = .ok (.iload_n 2, 1) := by decide +kernel
theorem dX9_point_38 : decode cX9_point 38 = .ok (.ifCond .ne 13, 3) := by decide +kernel
theorem dX9_point_41 : decode cX9_point 41 = .ok (.aload_n 0, 1) := by decide +kernel
theorem dX9_point_42 : decode cX9_point 42 = .ok (.getfield 19, 3) := by decide +kernel
theorem dX9_point_45 : decode cX9_point 45 = .ok (.getfield 175, 3) := by decide +kernel
theorem dX9_point_48 : decode cX9_point 48 = .ok (.iload_n 1, 1) := by decide +kernel
theorem dX9_point_49 : decode cX9_point 49 = .ok (.iaload, 1) := by decide +kernel
theorem dX9_point_50 : decode cX9_point 50 = .ok (.ireturn, 1) := by decide +kernel
theorem dX9_point_51 : decode cX9_point 51 = .ok (.iload_n 2, 1) := by decide +kernel
theorem dX9_point_52 : decode cX9_point 52 = .ok (.iconst 1, 1) := by decide +kernel
theorem dX9_point_53 : decode cX9_point 53 = .ok (.if_icmp .ne 13, 3) := by decide +kernel
theorem dX9_point_56 : decode cX9_point 56 = .ok (.aload_n 0, 1) := by decide +kernel
theorem dX9_point_57 : decode cX9_point 57 = .ok (.getfield 19, 3) := by decide +kernel
theorem dX9_point_60 : decode cX9_point 60 = .ok (.getfield 176, 3) := by decide +kernel
theorem dX9_point_63 : decode cX9_point 63 = .ok (.iload_n 1, 1) := by decide +kernel
theorem dX9_point_64 : decode cX9_point 64 = .ok (.iaload, 1) := by decide +kernel
theorem dX9_point_65 : decode cX9_point 65 = .ok (.ireturn, 1) := by decide +kernel
theorem dX9_point_66 : decode cX9_point 66 = .ok (.iload_n 2, 1) := by decide +kernel
theorem dX9_point_67 : decode cX9_point 67 = .ok (.iconst 2, 1) := by decide +kernel
theorem dX9_point_68 : decode cX9_point 68 = .ok (.if_icmp .ne 15, 3) := by decide +kernel
theorem dX9_point_71 : decode cX9_point 71 = .ok (.aload_n 0, 1) := by decide +kernel
theorem dX9_point_72 : decode cX9_point 72 = .ok (.getfield 19, 3) := by decide +kernel
theorem dX9_point_75 : decode cX9_point 75 = .ok (.getfield 177, 3) := by decide +kernel
theorem dX9_point_78 : decode cX9_point 78 = .ok (.iload_n 1, 1) := by decide +kernel
theorem dX9_point_79 : decode cX9_point 79 = .ok (.iaload, 1) := by decide +kernel
theorem dX9_point_80 : decode cX9_point 80 = .ok (.goto 12, 3) := by decide +kernel
theorem dX9_point_83 : decode cX9_point 83 = .ok (.aload_n 0, 1) := by decide +kernel
theorem dX9_point_84 : decode cX9_point 84 = .ok (.getfield 19, 3) := by decide +kernel
theorem dX9_point_87 : decode cX9_point 87 = .ok (.getfield 180, 3) := by decide +kernel
theorem dX9_point_90 : decode cX9_point 90 = .ok (.iload_n 1, 1) := by decide +kernel
theorem dX9_point_91 : decode cX9_point 91 = .ok (.iaload, 1) := by decide +kernel
theorem dX9_point_92 : decode cX9_point 92 = .ok (.ireturn, 1) := by decide +kernel
set_option maxRecDepth 20000 in
theorem ggX9_turn_X9_isPlace : GoodIn wsX9_turn wsX9_isPlace := goodIn_r _ [9, 10, 11, 12, 13, 14, 15, 16, 17, 18, 19, 20, 21, 22, 23, 24, 25, 26, 27, 28, 29, 30, 33, 34, 35, 36, 37, 38, 39, 40, 41, 42] (by decide +kernel) (by decide +kernel)
set_option maxRecDepth 20000 in
theorem gX9_turn_X9_isPlace : GoodIn wsX9_turn (wsV RX9 159 RX9 yX9_isPlace wsX9_isPlace) := goodIn_app (goodIn_of _ (by decide +kernel)) ggX9_turn_X9_isPlace
theorem dX9_turn_0 : decode cX9_turn 0 = .ok (.aload_n 0, 1) := by decide +kernel
theorem dX9_turn_1 : decode cX9_turn 1 = .ok (.iload_n 1, 1) := by decide +kernel
theorem dX9_turn_2 : decode cX9_turn 2 = .ok (.invokevirtual 159, 3) := by decide +kernel
theorem dX9_turn_5 : decode cX9_turn 5 = .ok (.ifCond .eq 12, 3) := by decide +kernel
theorem dX9_turn_8 : decode cX9_turn 8 = .ok (.iload_n 2, 1) := by decide +kernel
theorem dX9_turn_9 : decode cX9_turn 9 = .ok (.ifCond .lt 8, 3) := by decide +kernel
theorem dX9_turn_12 : decode cX9_turn 12 = .ok (.iload_n 2, 1) := by decide +kernel
theorem dX9_turn_13 : decode cX9_turn 13 = .ok (.iconst 1, 1) := by decide +kernel
theorem dX9_turn_14 : decode cX9_turn 14 = .ok (.if_icmp .le 6, 3) := by decide +kernel
theorem dX9_turn_17 : decode cX9_turn 17 = .ok (.ldc 185, 2) := by decide +kernel
theorem dX9_turn_19 : decode cX9_turn 19 = .ok (.ireturn, 1) := by decide +kernel
theorem dX9_turn_20 : decode cX9_turn 20 = .ok (.iload_n 2, 1) := by decide +kernel
theorem dX9_turn_21 : decode cX9_turn 21 = .ok (.ifCond .ne 15, 3) := by decide +kernel
theorem dX9_turn_24 : decode cX9_turn 24 = .ok (.aload_n 0, 1) := by decide +kernel
theorem dX9_turn_25 : decode cX9_turn 25 = .ok (.getfield 47, 3) := by decide +kernel
theorem dX9_turn_28 : decode cX9_turn 28 = .ok (.getfield 186, 3) := by decide +kernel
theorem dX9_turn_31 : decode cX9_turn 31 = .ok (.iload_n 1, 1) := by decide +kernel
theorem dX9_turn_32 : decode cX9_turn 32 = .ok (.iaload, 1) := by decide +kernel
theorem dX9_turn_33 : decode cX9_turn 33 = .ok (.goto 13, 3) := by decide +kernel
theorem dX9_turn_36 : decode cX9_turn 36 = .ok (.aload_n 0, 1) := by decide +kernel
theorem dX9_turn_37 : decode cX9_turn 37 = .ok (.getfield 47, 3) := by decide +kernel
theorem dX9_turn_40 : decode cX9_turn 40 = .ok (.getfield 189, 3) := by decide +kernel
theorem dX9_turn_43 : decode cX9_turn 43 = .ok (.iload_n 1, 1) := by decide +kernel
theorem dX9_turn_44 : decode cX9_turn 44 = .ok (.iaload, 1) := by decide +kernel
theorem dX9_turn_45 : decode cX9_turn 45 = .ok (.ineg, 1) := by decide +kernel
theorem dX9_turn_46 : decode cX9_turn 46 = .ok (.ireturn, 1) := by decide +kernel
set_option maxRecDepth 20000 in
theorem ggX9_reversed_X9_isPlace : GoodIn wsX9_reversed wsX9_isPlace := goodIn_r _ [6, 1, 7, 15, 16, 17, 18, 19, 20, 21, 22, 23, 24, 25, 26, 27, 28, 29, 30, 31, 32, 33, 34, 35, 36, 37, 38, 39, 40, 41, 42, 43] (by decide +kernel) (by decide +kernel)
set_option maxRecDepth 20000 in
theorem gX9_reversed_X9_isPlace : GoodIn wsX9_reversed (wsV RX9 159 RX9 yX9_isPlace wsX9_isPlace) := goodIn_app (goodIn_of _ (by decide +kernel)) ggX9_reversed_X9_isPlace
set_option maxRecDepth 20000 in
theorem ggX9_reversed_X8_reversedPlace : GoodIn wsX9_reversed wsX8_reversedPlace := goodIn_r _ [12, 13, 14, 34, 35, 36, 37, 38, 39, 40, 41, 42, 43] (by decide +kernel) (by decide +kernel)
set_option maxRecDepth 20000 in
theorem gX9_reversed_X8_reversedPlace : GoodIn wsX9_reversed (wsV RX9 192 RX8 yX8_reversedPlace wsX8_reversedPlace) := goodIn_app (goodIn_of _ (by decide +kernel)) ggX9_reversed_X8_reversedPlace
theorem dX9_reversed_0 : decode cX9_reversed 0 = .ok (.aload_n 0, 1) := by decide +kernel
theorem dX9_reversed_1 : decode cX9_reversed 1 = .ok (.iload_n 1, 1) := by decide +kernel
theorem dX9_reversed_2 : decode cX9_reversed 2 = .ok (.invokevirtual 159, 3) := by decide +kernel
theorem dX9_reversed_5 : decode cX9_reversed 5 = .ok (.ifCond .eq 14, 3) := by decide +kernel
theorem dX9_reversed_8 : decode cX9_reversed 8 = .ok (.aload_n 0, 1) := by decide +kernel
theorem dX9_reversed_9 : decode cX9_reversed 9 = .ok (.getfield 10, 3) := by decide +kernel
theorem dX9_reversed_12 : decode cX9_reversed 12 = .ok (.iload_n 1, 1) := by decide +kernel
theorem dX9_reversed_13 : decode cX9_reversed 13 = .ok (.invokevirtual 192, 3) := by decide +kernel
theorem dX9_reversed_16 : decode cX9_reversed 16 = .ok (.goto 4, 3) := by decide +kernel
theorem dX9_reversed_19 : decode cX9_reversed 19 = .ok (.iconst (-1), 1) := by decide +kernel
theorem dX9_reversed_20 : decode cX9_reversed 20 = .ok (.ireturn, 1) := by decide +kernel
set_option maxRecDepth 20000 in
theorem ggX9_digit_X9_isPlace : GoodIn wsX9_digit wsX9_isPlace := goodIn_r _ [7, 1, 8, 16, 17, 18, 19, 20, 21, 22, 23, 24, 25, 26, 27, 28, 29, 30, 31, 32, 33, 34, 35, 36, 37, 38, 39, 40, 41, 42, 43, 44] (by decide +kernel) (by decide +kernel)
set_option maxRecDepth 20000 in
theorem gX9_digit_X9_isPlace : GoodIn wsX9_digit (wsV RX9 159 RX9 yX9_isPlace wsX9_isPlace) := goodIn_app (goodIn_of _ (by decide +kernel)) ggX9_digit_X9_isPlace
set_option maxRecDepth 20000 in
theorem ggX9_digit_X8_digitOf : GoodIn wsX9_digit wsX8_digitOf := goodIn_r _ [13, 14, 15, 35, 36, 37, 38, 39, 40, 41, 42, 43, 44] (by decide +kernel) (by decide +kernel)
set_option maxRecDepth 20000 in
theorem gX9_digit_X8_digitOf : GoodIn wsX9_digit (wsV RX9 199 RX8 yX8_digitOf wsX8_digitOf) := goodIn_app (goodIn_of _ (by decide +kernel)) ggX9_digit_X8_digitOf
theorem dX9_digit_0 : decode cX9_digit 0 = .ok (.aload_n 0, 1) := by decide +kernel
theorem dX9_digit_1 : decode cX9_digit 1 = .ok (.iload_n 1, 1) := by decide +kernel
theorem dX9_digit_2 : decode cX9_digit 2 = .ok (.invokevirtual 159, 3) := by decide +kernel
theorem dX9_digit_5 : decode cX9_digit 5 = .ok (.ifCond .eq 18, 3) := by decide +kernel
theorem dX9_digit_8 : decode cX9_digit 8 = .ok (.iload_n 2, 1) := by decide +kernel
theorem dX9_digit_9 : decode cX9_digit 9 = .ok (.ifCond .lt 14, 3) := by decide +kernel
theorem dX9_digit_12 : decode cX9_digit 12 = .ok (.iload_n 2, 1) := by decide +kernel
theorem dX9_digit_13 : decode cX9_digit 13 = .ok (.aload_n 0, 1) := by decide +kernel
theorem dX9_digit_14 : decode cX9_digit 14 = .ok (.getfield 10, 3) := by decide +kernel
theorem dX9_digit_17 : decode cX9_digit 17 = .ok (.getfield 196, 3) := by decide +kernel
theorem dX9_digit_20 : decode cX9_digit 20 = .ok (.if_icmp .lt 5, 3) := by decide +kernel
theorem dX9_digit_23 : decode cX9_digit 23 = .ok (.iconst (-1), 1) := by decide +kernel
theorem dX9_digit_24 : decode cX9_digit 24 = .ok (.ireturn, 1) := by decide +kernel
theorem dX9_digit_25 : decode cX9_digit 25 = .ok (.aload_n 0, 1) := by decide +kernel
theorem dX9_digit_26 : decode cX9_digit 26 = .ok (.getfield 10, 3) := by decide +kernel
theorem dX9_digit_29 : decode cX9_digit 29 = .ok (.iload_n 1, 1) := by decide +kernel
theorem dX9_digit_30 : decode cX9_digit 30 = .ok (.iload_n 2, 1) := by decide +kernel
theorem dX9_digit_31 : decode cX9_digit 31 = .ok (.invokevirtual 199, 3) := by decide +kernel
theorem dX9_digit_34 : decode cX9_digit 34 = .ok (.ireturn, 1) := by decide +kernel
theorem dX9_stage_0 : decode cX9_stage 0 = .ok (.iload_n 1, 1) := by decide +kernel
theorem dX9_stage_1 : decode cX9_stage 1 = .ok (.ifCond .lt 23, 3) := by decide +kernel
theorem dX9_stage_4 : decode cX9_stage 4 = .ok (.iload_n 1, 1) := by decide +kernel
theorem dX9_stage_5 : decode cX9_stage 5 = .ok (.aload_n 0, 1) := by decide +kernel
theorem dX9_stage_6 : decode cX9_stage 6 = .ok (.getfield 10, 3) := by decide +kernel
theorem dX9_stage_9 : decode cX9_stage 9 = .ok (.getfield 196, 3) := by decide +kernel
theorem dX9_stage_12 : decode cX9_stage 12 = .ok (.if_icmp .ge 12, 3) := by decide +kernel
theorem dX9_stage_15 : decode cX9_stage 15 = .ok (.iload_n 2, 1) := by decide +kernel
theorem dX9_stage_16 : decode cX9_stage 16 = .ok (.ifCond .lt 8, 3) := by decide +kernel
theorem dX9_stage_19 : decode cX9_stage 19 = .ok (.iload_n 2, 1) := by decide +kernel
theorem dX9_stage_20 : decode cX9_stage 20 = .ok (.iconst 1, 1) := by decide +kernel
theorem dX9_stage_21 : decode cX9_stage 21 = .ok (.if_icmp .le 5, 3) := by decide +kernel
theorem dX9_stage_24 : decode cX9_stage 24 = .ok (.iconst (-1), 1) := by decide +kernel
theorem dX9_stage_25 : decode cX9_stage 25 = .ok (.ireturn, 1) := by decide +kernel
theorem dX9_stage_26 : decode cX9_stage 26 = .ok (.iload_n 2, 1) := by decide +kernel
theorem dX9_stage_27 : decode cX9_stage 27 = .ok (.ifCond .ne 15, 3) := by decide +kernel
theorem dX9_stage_30 : decode cX9_stage 30 = .ok (.iconst 1, 1) := by decide +kernel
theorem dX9_stage_31 : decode cX9_stage 31 = .ok (.aload_n 0, 1) := by decide +kernel
theorem dX9_stage_32 : decode cX9_stage 32 = .ok (.getfield 10, 3) := by decide +kernel
theorem dX9_stage_35 : decode cX9_stage 35 = .ok (.getfield 203, 3) := by decide +kernel
theorem dX9_stage_38 : decode cX9_stage 38 = .ok (.iload_n 1, 1) := by decide +kernel
theorem dX9_stage_39 : decode cX9_stage 39 = .ok (.iaload, 1) := by decide +kernel
theorem dX9_stage_40 : decode cX9_stage 40 = .ok (.ishl, 1) := by decide +kernel
theorem dX9_stage_41 : decode cX9_stage 41 = .ok (.ireturn, 1) := by decide +kernel
theorem dX9_stage_42 : decode cX9_stage 42 = .ok (.iload_n 1, 1) := by decide +kernel
theorem dX9_stage_43 : decode cX9_stage 43 = .ok (.aload_n 0, 1) := by decide +kernel
theorem dX9_stage_44 : decode cX9_stage 44 = .ok (.getfield 19, 3) := by decide +kernel
theorem dX9_stage_47 : decode cX9_stage 47 = .ok (.getfield 206, 3) := by decide +kernel
theorem dX9_stage_50 : decode cX9_stage 50 = .ok (.if_icmp .ge 15, 3) := by decide +kernel
theorem dX9_stage_53 : decode cX9_stage 53 = .ok (.aload_n 0, 1) := by decide +kernel
theorem dX9_stage_54 : decode cX9_stage 54 = .ok (.getfield 19, 3) := by decide +kernel
theorem dX9_stage_57 : decode cX9_stage 57 = .ok (.getfield 209, 3) := by decide +kernel
theorem dX9_stage_60 : decode cX9_stage 60 = .ok (.iload_n 1, 1) := by decide +kernel
theorem dX9_stage_61 : decode cX9_stage 61 = .ok (.iaload, 1) := by decide +kernel
theorem dX9_stage_62 : decode cX9_stage 62 = .ok (.goto 5, 3) := by decide +kernel
theorem dX9_stage_65 : decode cX9_stage 65 = .ok (.bipush (-2), 2) := by decide +kernel
theorem dX9_stage_67 : decode cX9_stage 67 = .ok (.ireturn, 1) := by decide +kernel
set_option maxRecDepth 20000 in
theorem ggX9_largest_X7_greatest : GoodIn wsX9_largest wsX7_greatest := goodIn_r _ [8, 9, 10, 11, 12, 13, 14, 15, 16, 17, 47, 48, 49, 50, 51, 52, 53, 54] (by decide +kernel) (by decide +kernel)
set_option maxRecDepth 20000 in
theorem gX9_largest_X7_greatest : GoodIn wsX9_largest (wsV RX9 212 RX7 yX7_greatest wsX7_greatest) := goodIn_app (goodIn_of _ (by decide +kernel)) ggX9_largest_X7_greatest
theorem dX9_largest_0 : decode cX9_largest 0 = .ok (.aload_n 0, 1) := by decide +kernel
theorem dX9_largest_1 : decode cX9_largest 1 = .ok (.getfield 19, 3) := by decide +kernel
theorem dX9_largest_4 : decode cX9_largest 4 = .ok (.iconst 0, 1) := by decide +kernel
theorem dX9_largest_5 : decode cX9_largest 5 = .ok (.aload_n 0, 1) := by decide +kernel
theorem dX9_largest_6 : decode cX9_largest 6 = .ok (.getfield 10, 3) := by decide +kernel
theorem dX9_largest_9 : decode cX9_largest 9 = .ok (.getfield 115, 3) := by decide +kernel
theorem dX9_largest_12 : decode cX9_largest 12 = .ok (.invokevirtual 212, 3) := by decide +kernel
theorem dX9_largest_15 : decode cX9_largest 15 = .ok (.ireturn, 1) := by decide +kernel
set_option maxRecDepth 20000 in
theorem ggX9_left_X7_greatest : GoodIn wsX9_left wsX7_greatest := goodIn_r _ [8, 9, 10, 11, 12, 13, 14, 15, 16, 17, 54, 55, 56, 57, 58, 59, 60, 61] (by decide +kernel) (by decide +kernel)
set_option maxRecDepth 20000 in
theorem gX9_left_X7_greatest : GoodIn wsX9_left (wsV RX9 212 RX7 yX7_greatest wsX7_greatest) := goodIn_app (goodIn_of _ (by decide +kernel)) ggX9_left_X7_greatest
set_option maxRecDepth 20000 in
theorem ggX9_left_X9_doublings : GoodIn wsX9_left wsX9_doublings := goodIn_r _ [22, 23, 2, 24, 25, 26, 27, 28, 29, 30, 31, 32, 33, 34, 35, 36, 37, 38, 39, 40, 41, 42, 43, 44, 45, 46, 47, 48, 49, 50, 51, 52, 53] (by decide +kernel) (by decide +kernel)
set_option maxRecDepth 20000 in
theorem gX9_left_X9_doublings : GoodIn wsX9_left (wsV RX9 215 RX9 yX9_doublings wsX9_doublings) := goodIn_app (goodIn_of _ (by decide +kernel)) ggX9_left_X9_doublings
theorem dX9_left_0 : decode cX9_left 0 = .ok (.aload_n 0, 1) := by decide +kernel
theorem dX9_left_1 : decode cX9_left 1 = .ok (.aload_n 0, 1) := by decide +kernel
theorem dX9_left_2 : decode cX9_left 2 = .ok (.getfield 19, 3) := by decide +kernel
theorem dX9_left_5 : decode cX9_left 5 = .ok (.iconst 0, 1) := by decide +kernel
theorem dX9_left_6 : decode cX9_left 6 = .ok (.aload_n 0, 1) := by decide +kernel
theorem dX9_left_7 : decode cX9_left 7 = .ok (.getfield 10, 3) := by decide +kernel
theorem dX9_left_10 : decode cX9_left 10 = .ok (.getfield 115, 3) := by decide +kernel
theorem dX9_left_13 : decode cX9_left 13 = .ok (.invokevirtual 212, 3) := by decide +kernel
theorem dX9_left_16 : decode cX9_left 16 = .ok (.invokevirtual 215, 3) := by decide +kernel
theorem dX9_left_19 : decode cX9_left 19 = .ok (.ireturn, 1) := by decide +kernel
set_option maxRecDepth 20000 in
theorem ggX9_room_X7_greatest : GoodIn wsX9_room wsX7_greatest := goodIn_r _ [8, 9, 10, 11, 12, 13, 14, 15, 16, 17, 54, 55, 56, 57, 58, 59, 60, 61] (by decide +kernel) (by decide +kernel)
set_option maxRecDepth 20000 in
theorem gX9_room_X7_greatest : GoodIn wsX9_room (wsV RX9 212 RX7 yX7_greatest wsX7_greatest) := goodIn_app (goodIn_of _ (by decide +kernel)) ggX9_room_X7_greatest
set_option maxRecDepth 20000 in
theorem ggX9_room_X9_doublings : GoodIn wsX9_room wsX9_doublings := goodIn_r _ [22, 23, 1, 24, 25, 26, 27, 28, 29, 30, 31, 32, 33, 34, 35, 36, 37, 38, 39, 40, 41, 42, 43, 44, 45, 46, 47, 48, 49, 50, 51, 52, 53] (by decide +kernel) (by decide +kernel)
set_option maxRecDepth 20000 in
theorem gX9_room_X9_doublings : GoodIn wsX9_room (wsV RX9 215 RX9 yX9_doublings wsX9_doublings) := goodIn_app (goodIn_of _ (by decide +kernel)) ggX9_room_X9_doublings
theorem dX9_room_0 : decode cX9_room 0 = .ok (.iload_n 2, 1) := by decide +kernel
theorem dX9_room_1 : decode cX9_room 1 = .ok (.iconst 2, 1) := by decide +kernel
theorem dX9_room_2 : decode cX9_room 2 = .ok (.if_icmp .eq 26, 3) := by decide +kernel
theorem dX9_room_5 : decode cX9_room 5 = .ok (.iload_n 2, 1) := by decide +kernel
theorem dX9_room_6 : decode cX9_room 6 = .ok (.iconst 4, 1) := by decide +kernel
theorem dX9_room_7 : decode cX9_room 7 = .ok (.if_icmp .eq 21, 3) := by decide +kernel
theorem dX9_room_10 : decode cX9_room 10 = .ok (.iload_n 2, 1) := by decide +kernel
theorem dX9_room_11 : decode cX9_room 11 = .ok (.bipush 8, 2) := by decide +kernel
theorem dX9_room_13 : decode cX9_room 13 = .ok (.if_icmp .eq 15, 3) := by decide +kernel
theorem dX9_room_16 : decode cX9_room 16 = .ok (.iload_n 2, 1) := by decide +kernel
theorem dX9_room_17 : decode cX9_room 17 = .ok (.bipush 16, 2) := by decide +kernel
theorem dX9_room_19 : decode cX9_room 19 = .ok (.if_icmp .eq 9, 3) := by decide +kernel
theorem dX9_room_22 : decode cX9_room 22 = .ok (.iload_n 2, 1) := by decide +kernel
theorem dX9_room_23 : decode cX9_room 23 = .ok (.bipush 32, 2) := by decide +kernel
theorem dX9_room_25 : decode cX9_room 25 = .ok (.if_icmp .ne 7, 3) := by decide +kernel
theorem dX9_room_28 : decode cX9_room 28 = .ok (.iconst 1, 1) := by decide +kernel
theorem dX9_room_29 : decode cX9_room 29 = .ok (.goto 4, 3) := by decide +kernel
theorem dX9_room_32 : decode cX9_room 32 = .ok (.iconst 0, 1) := by decide +kernel
theorem dX9_room_33 : decode cX9_room 33 = .ok (.istore_n 3, 1) := by decide +kernel
theorem dX9_room_34 : decode cX9_room 34 = .ok (.iload_n 3, 1) := by decide +kernel
theorem dX9_room_35 : decode cX9_room 35 = .ok (.ifCond .eq 24, 3) := by decide +kernel
theorem dX9_room_38 : decode cX9_room 38 = .ok (.iload_n 2, 1) := by decide +kernel
theorem dX9_room_39 : decode cX9_room 39 = .ok (.aload_n 0, 1) := by decide +kernel
theorem dX9_room_40 : decode cX9_room 40 = .ok (.getfield 10, 3) := by decide +kernel
theorem dX9_room_43 : decode cX9_room 43 = .ok (.getfield 115, 3) := by decide +kernel
theorem dX9_room_46 : decode cX9_room 46 = .ok (.if_icmp .gt 13, 3) := by decide +kernel
theorem dX9_room_49 : decode cX9_room 49 = .ok (.iload_n 1, 1) := by decide +kernel
theorem dX9_room_50 : decode cX9_room 50 = .ok (.ifCond .lt 9, 3) := by decide +kernel
theorem dX9_room_53 : decode cX9_room 53 = .ok (.iload_n 1, 1) := by decide +kernel
theorem dX9_room_54 : decode cX9_room 54 = .ok (.bipush 32, 2) := by decide +kernel
theorem dX9_room_56 : decode cX9_room 56 = .ok (.if_icmp .le 5, 3) := by decide +kernel
theorem dX9_room_59 : decode cX9_room 59 = .ok (.iconst (-1), 1) := by decide +kernel
theorem dX9_room_60 : decode cX9_room 60 = .ok (.ireturn, 1) := by decide +kernel
theorem dX9_room_61 : decode cX9_room 61 = .ok (.iload_n 1, 1) := by decide +kernel
theorem dX9_room_62 : decode cX9_room 62 = .ok (.iload_n 2, 1) := by decide +kernel
theorem dX9_room_63 : decode cX9_room 63 = .ok (.imul, 1) := by decide +kernel
theorem dX9_room_64 : decode cX9_room 64 = .ok (.istore 4, 2) := by decide +kernel
theorem dX9_room_66 : decode cX9_room 66 = .ok (.iload 4, 2) := by decide +kernel
theorem dX9_room_68 : decode cX9_room 68 = .ok (.aload_n 0, 1) := by decide +kernel
theorem dX9_room_69 : decode cX9_room 69 = .ok (.getfield 10, 3) := by decide +kernel
theorem dX9_room_72 : decode cX9_room 72 = .ok (.getfield 115, 3) := by decide +kernel
theorem dX9_room_75 : decode cX9_room 75 = .ok (.if_icmp .lt 5, 3) := by decide +kernel
theorem dX9_room_78 : decode cX9_room 78 = .ok (.iconst (-1), 1) := by decide +kernel
theorem dX9_room_79 : decode cX9_room 79 = .ok (.ireturn, 1) := by decide +kernel
theorem dX9_room_80 : decode cX9_room 80 = .ok (.aload_n 0, 1) := by decide +kernel
theorem dX9_room_81 : decode cX9_room 81 = .ok (.aload_n 0, 1) := by decide +kernel
theorem dX9_room_82 : decode cX9_room 82 = .ok (.getfield 19, 3) := by decide +kernel
theorem dX9_room_85 : decode cX9_room 85 = .ok (.iload 4, 2) := by decide +kernel
theorem dX9_room_87 : decode cX9_room 87 = .ok (.iload 4, 2) := by decide +kernel
theorem dX9_room_89 : decode cX9_room 89 = .ok (.iload_n 2, 1) := by decide +kernel
theorem dX9_room_90 : decode cX9_room 90 = .ok (.iadd, 1) := by decide +kernel
theorem dX9_room_91 : decode cX9_room 91 = .ok (.invokevirtual 212, 3) := by decide +kernel
theorem dX9_room_94 : decode cX9_room 94 = .ok (.invokevirtual 215, 3) := by decide +kernel
theorem dX9_room_97 : decode cX9_room 97 = .ok (.ireturn, 1) := by decide +kernel
theorem dX9_doublings_0 : decode cX9_doublings 0 = .ok (.iload_n 1, 1) := by decide +kernel
theorem dX9_doublings_1 : decode cX9_doublings 1 = .ok (.i2l, 1) := by decide +kernel
theorem dX9_doublings_2 : decode cX9_doublings 2 = .ok (.lstore_n 2, 1) := by decide +kernel
theorem dX9_doublings_3 : decode cX9_doublings 3 = .ok (.iconst 0, 1) := by decide +kernel
theorem dX9_doublings_4 : decode cX9_doublings 4 = .ok (.istore 4, 2) := by decide +kernel
theorem dX9_doublings_6 : decode cX9_doublings 6 = .ok (.iload 4, 2) := by decide +kernel
theorem dX9_doublings_8 : decode cX9_doublings 8 = .ok (.bipush 15, 2) := by decide +kernel
theorem dX9_doublings_10 : decode cX9_doublings 10 = .ok (.if_icmp .ge 32, 3) := by decide +kernel
theorem dX9_doublings_13 : decode cX9_doublings 13 = .ok (.lload_n 2, 1) := by decide +kernel
theorem dX9_doublings_14 : decode cX9_doublings 14 = .ok (.ldc2_w 218, 3) := by decide +kernel
theorem dX9_doublings_17 : decode cX9_doublings 17 = .ok (.lmul, 1) := by decide +kernel
theorem dX9_doublings_18 : decode cX9_doublings 18 = .ok (.aload_n 0, 1) := by decide +kernel
theorem dX9_doublings_19 : decode cX9_doublings 19 = .ok (.getfield 10, 3) := by decide +kernel
theorem dX9_doublings_22 : decode cX9_doublings 22 = .ok (.getfield 220, 3) := by decide +kernel
theorem dX9_doublings_25 : decode cX9_doublings 25 = .ok (.i2l, 1) := by decide +kernel
theorem dX9_doublings_26 : decode cX9_doublings 26 = .ok (.lcmp, 1) := by decide +kernel
theorem dX9_doublings_27 : decode cX9_doublings 27 = .ok (.ifCond .gt 15, 3) := by decide +kernel
theorem dX9_doublings_30 : decode cX9_doublings 30 = .ok (.lload_n 2, 1) := by decide +kernel
theorem dX9_doublings_31 : decode cX9_doublings 31 = .ok (.ldc2_w 218, 3) := by decide +kernel
theorem dX9_doublings_34 : decode cX9_doublings 34 = .ok (.lmul, 1) := by decide +kernel
theorem dX9_doublings_35 : decode cX9_doublings 35 = .ok (.lstore_n 2, 1) := by decide +kernel
theorem dX9_doublings_36 : decode cX9_doublings 36 = .ok (.iinc 4 1, 3) := by decide +kernel
theorem dX9_doublings_39 : decode cX9_doublings 39 = .ok (.goto (-33), 3) := by decide +kernel
theorem dX9_doublings_42 : decode cX9_doublings 42 = .ok (.iload 4, 2) := by decide +kernel
theorem dX9_doublings_44 : decode cX9_doublings 44 = .ok (.ireturn, 1) := by decide +kernel
set_option maxRecDepth 20000 in
theorem ggX9_energy_X9_loudness : GoodIn wsX9_energy wsX9_loudness := goodIn_r _ [12] (by decide +kernel) (by decide +kernel)
set_option maxRecDepth 20000 in
theorem gX9_energy_X9_loudness : GoodIn wsX9_energy (va_wsS RX9 225 yX9_loudness wsX9_loudness) := goodIn_app (goodIn_of _ (by decide +kernel)) ggX9_energy_X9_loudness
theorem dX9_energy_0 : decode cX9_energy 0 = .ok (.iload_n 1, 1) := by decide +kernel
theorem dX9_energy_1 : decode cX9_energy 1 = .ok (.ifCond .lt 8, 3) := by decide +kernel
theorem dX9_energy_4 : decode cX9_energy 4 = .ok (.iload_n 1, 1) := by decide +kernel
theorem dX9_energy_5 : decode cX9_energy 5 = .ok (.iconst 1, 1) := by decide +kernel
theorem dX9_energy_6 : decode cX9_energy 6 = .ok (.if_icmp .le 7, 3) := by decide +kernel
theorem dX9_energy_9 : decode cX9_energy 9 = .ok (.ldc2_w 223, 3) := by decide +kernel
theorem dX9_energy_12 : decode cX9_energy 12 = .ok (.lreturn, 1) := by decide +kernel
theorem dX9_energy_13 : decode cX9_energy 13 = .ok (.lconst 0, 1) := by decide +kernel
theorem dX9_energy_14 : decode cX9_energy 14 = .ok (.lstore_n 2, 1) := by decide +kernel
theorem dX9_energy_15 : decode cX9_energy 15 = .ok (.iconst 0, 1) := by decide +kernel
theorem dX9_energy_16 : decode cX9_energy 16 = .ok (.istore 4, 2) := by decide +kernel
theorem dX9_energy_18 : decode cX9_energy 18 = .ok (.iload 4, 2) := by decide +kernel
theorem dX9_energy_20 : decode cX9_energy 20 = .ok (.aload_n 0, 1) := by decide +kernel
theorem dX9_energy_21 : decode cX9_energy 21 = .ok (.getfield 10, 3) := by decide +kernel
theorem dX9_energy_24 : decode cX9_energy 24 = .ok (.getfield 115, 3) := by decide +kernel
theorem dX9_energy_27 : decode cX9_energy 27 = .ok (.if_icmp .ge 69, 3) := by decide +kernel
theorem dX9_energy_30 : decode cX9_energy 30 = .ok (.lload_n 2, 1) := by decide +kernel
theorem dX9_energy_31 : decode cX9_energy 31 = .ok (.iload_n 1, 1) := by decide +kernel
theorem dX9_energy_32 : decode cX9_energy 32 = .ok (.ifCond .ne 31, 3) := by decide +kernel
theorem dX9_energy_35 : decode cX9_energy 35 = .ok (.aload_n 0, 1) := by decide +kernel
theorem dX9_energy_36 : decode cX9_energy 36 = .ok (.getfield 19, 3) := by decide +kernel
theorem dX9_energy_39 : decode cX9_energy 39 = .ok (.getfield 175, 3) := by decide +kernel
theorem dX9_energy_42 : decode cX9_energy 42 = .ok (.iload 4, 2) := by decide +kernel
theorem dX9_energy_44 : decode cX9_energy 44 = .ok (.iaload, 1) := by decide +kernel
theorem dX9_energy_45 : decode cX9_energy 45 = .ok (.i2l, 1) := by decide +kernel
theorem dX9_energy_46 : decode cX9_energy 46 = .ok (.aload_n 0, 1) := by decide +kernel
theorem dX9_energy_47 : decode cX9_energy 47 = .ok (.getfield 19, 3) := by decide +kernel
theorem dX9_energy_50 : decode cX9_energy 50 = .ok (.getfield 176, 3) := by decide +kernel
theorem dX9_energy_53 : decode cX9_energy 53 = .ok (.iload 4, 2) := by decide +kernel
theorem dX9_energy_55 : decode cX9_energy 55 = .ok (.iaload, 1) := by decide +kernel
theorem dX9_energy_56 : decode cX9_energy 56 = .ok (.i2l, 1) := by decide +kernel
theorem dX9_energy_57 : decode cX9_energy 57 = .ok (.invokestatic 225, 3) := by decide +kernel
theorem dX9_energy_60 : decode cX9_energy 60 = .ok (.goto 28, 3) := by decide +kernel
theorem dX9_energy_63 : decode cX9_energy 63 = .ok (.aload_n 0, 1) := by decide +kernel
theorem dX9_energy_64 : decode cX9_energy 64 = .ok (.getfield 19, 3) := by decide +kernel
theorem dX9_energy_67 : decode cX9_energy 67 = .ok (.getfield 177, 3) := by decide +kernel
theorem dX9_energy_70 : decode cX9_energy 70 = .ok (.iload 4, 2) := by decide +kernel
theorem dX9_energy_72 : decode cX9_energy 72 = .ok (.iaload, 1) := by decide +kernel
theorem dX9_energy_73 : decode cX9_energy 73 = .ok (.i2l, 1) := by decide +kernel
theorem dX9_energy_74 : decode cX9_energy 74 = .ok (.aload_n 0, 1) := by decide +kernel
theorem dX9_energy_75 : decode cX9_energy 75 = .ok (.getfield 19, 3) := by decide +kernel
theorem dX9_energy_78 : decode cX9_energy 78 = .ok (.getfield 180, 3) := by decide +kernel
theorem dX9_energy_81 : decode cX9_energy 81 = .ok (.iload 4, 2) := by decide +kernel
theorem dX9_energy_83 : decode cX9_energy 83 = .ok (.iaload, 1) := by decide +kernel
theorem dX9_energy_84 : decode cX9_energy 84 = .ok (.i2l, 1) := by decide +kernel
theorem dX9_energy_85 : decode cX9_energy 85 = .ok (.invokestatic 225, 3) := by decide +kernel
theorem dX9_energy_88 : decode cX9_energy 88 = .ok (.ladd, 1) := by decide +kernel
theorem dX9_energy_89 : decode cX9_energy 89 = .ok (.lstore_n 2, 1) := by decide +kernel
theorem dX9_energy_90 : decode cX9_energy 90 = .ok (.iinc 4 1, 3) := by decide +kernel
theorem dX9_energy_93 : decode cX9_energy 93 = .ok (.goto (-75), 3) := by decide +kernel
theorem dX9_energy_96 : decode cX9_energy 96 = .ok (.lload_n 2, 1) := by decide +kernel
theorem dX9_energy_97 : decode cX9_energy 97 = .ok (.lreturn, 1) := by decide +kernel
theorem dX9_loudness_0 : decode cX9_loudness 0 = .ok (.lload_n 0, 1) := by decide +kernel
theorem dX9_loudness_1 : decode cX9_loudness 1 = .ok (.lload_n 0, 1) := by decide +kernel
theorem dX9_loudness_2 : decode cX9_loudness 2 = .ok (.lmul, 1) := by decide +kernel
theorem dX9_loudness_3 : decode cX9_loudness 3 = .ok (.lload_n 2, 1) := by decide +kernel
theorem dX9_loudness_4 : decode cX9_loudness 4 = .ok (.lload_n 2, 1) := by decide +kernel
theorem dX9_loudness_5 : decode cX9_loudness 5 = .ok (.lmul, 1) := by decide +kernel
theorem dX9_loudness_6 : decode cX9_loudness 6 = .ok (.ladd, 1) := by decide +kernel
theorem dX9_loudness_7 : decode cX9_loudness 7 = .ok (.lreturn, 1) := by decide +kernel
set_option maxRecDepth 20000 in
theorem ggX9_over_X9_loudness : GoodIn wsX9_over wsX9_loudness := goodIn_r _ [9] (by decide +kernel) (by decide +kernel)
set_option maxRecDepth 20000 in
theorem gX9_over_X9_loudness : GoodIn wsX9_over (va_wsS RX9 225 yX9_loudness wsX9_loudness) := goodIn_app (goodIn_of _ (by decide +kernel)) ggX9_over_X9_loudness
theorem dX9_over_0 : decode cX9_over 0 = .ok (.iload_n 1, 1) := by decide +kernel
theorem dX9_over_1 : decode cX9_over 1 = .ok (.ifCond .ge 5, 3) := by decide +kernel
theorem dX9_over_4 : decode cX9_over 4 = .ok (.iconst (-1), 1) := by decide +kernel
theorem dX9_over_5 : decode cX9_over 5 = .ok (.ireturn, 1) := by decide +kernel
theorem dX9_over_6 : decode cX9_over 6 = .ok (.iconst 0, 1) := by decide +kernel
theorem dX9_over_7 : decode cX9_over 7 = .ok (.istore_n 2, 1) := by decide +kernel
theorem dX9_over_8 : decode cX9_over 8 = .ok (.iconst 0, 1) := by decide +kernel
theorem dX9_over_9 : decode cX9_over 9 = .ok (.istore_n 3, 1) := by decide +kernel
theorem dX9_over_10 : decode cX9_over 10 = .ok (.iload_n 3, 1) := by decide +kernel
theorem dX9_over_11 : decode cX9_over 11 = .ok (.aload_n 0, 1) := by decide +kernel
theorem dX9_over_12 : decode cX9_over 12 = .ok (.getfield 10, 3) := by decide +kernel
theorem dX9_over_15 : decode cX9_over 15 = .ok (.getfield 115, 3) := by decide +kernel
theorem dX9_over_18 : decode cX9_over 18 = .ok (.if_icmp .ge 41, 3) := by decide +kernel
theorem dX9_over_21 : decode cX9_over 21 = .ok (.aload_n 0, 1) := by decide +kernel
theorem dX9_over_22 : decode cX9_over 22 = .ok (.getfield 19, 3) := by decide +kernel
theorem dX9_over_25 : decode cX9_over 25 = .ok (.getfield 175, 3) := by decide +kernel
theorem dX9_over_28 : decode cX9_over 28 = .ok (.iload_n 3, 1) := by decide +kernel
theorem dX9_over_29 : decode cX9_over 29 = .ok (.iaload, 1) := by decide +kernel
theorem dX9_over_30 : decode cX9_over 30 = .ok (.i2l, 1) := by decide +kernel
theorem dX9_over_31 : decode cX9_over 31 = .ok (.aload_n 0, 1) := by decide +kernel
theorem dX9_over_32 : decode cX9_over 32 = .ok (.getfield 19, 3) := by decide +kernel
theorem dX9_over_35 : decode cX9_over 35 = .ok (.getfield 176, 3) := by decide +kernel
theorem dX9_over_38 : decode cX9_over 38 = .ok (.iload_n 3, 1) := by decide +kernel
theorem dX9_over_39 : decode cX9_over 39 = .ok (.iaload, 1) := by decide +kernel
theorem dX9_over_40 : decode cX9_over 40 = .ok (.i2l, 1) := by decide +kernel
theorem dX9_over_41 : decode cX9_over 41 = .ok (.invokestatic 225, 3) := by decide +kernel
theorem dX9_over_44 : decode cX9_over 44 = .ok (.iload_n 1, 1) := by decide +kernel
theorem dX9_over_45 : decode cX9_over 45 = .ok (.i2l, 1) := by decide +kernel
theorem dX9_over_46 : decode cX9_over 46 = .ok (.lcmp, 1) := by decide +kernel
theorem dX9_over_47 : decode cX9_over 47 = .ok (.ifCond .lt 6, 3) := by decide +kernel
theorem dX9_over_50 : decode cX9_over 50 = .ok (.iinc 2 1, 3) := by decide +kernel
theorem dX9_over_53 : decode cX9_over 53 = .ok (.iinc 3 1, 3) := by decide +kernel
theorem dX9_over_56 : decode cX9_over 56 = .ok (.goto (-46), 3) := by decide +kernel
theorem dX9_over_59 : decode cX9_over 59 = .ok (.iload_n 2, 1) := by decide +kernel
theorem dX9_over_60 : decode cX9_over 60 = .ok (.ireturn, 1) := by decide +kernel
set_option maxRecDepth 20000 in
theorem ggX9_count_X2_knownNow : GoodIn wsX9_count wsX2_knownNow := goodIn_r _ [22, 23, 24, 62, 63, 64, 65, 66] (by decide +kernel) (by decide +kernel)
set_option maxRecDepth 20000 in
theorem gX9_count_X2_knownNow : GoodIn wsX9_count (wsV RX9 250 RX2 yX2_knownNow wsX2_knownNow) := goodIn_app (goodIn_of _ (by decide +kernel)) ggX9_count_X2_knownNow
theorem dX9_count_0 : decode cX9_count 0 = .ok (.iload_n 1, 1) := by decide +kernel
theorem dX9_count_1 : decode cX9_count 1 = .ok (.tableswitch 179 0 12 #[67, 75, 83, 91, 99, 107, 115, 123, 139, 147, 155, 163, 171], 67) := by decide +kernel
theorem dX9_count_68 : decode cX9_count 68 = .ok (.aload_n 0, 1) := by decide +kernel
theorem dX9_count_69 : decode cX9_count 69 = .ok (.getfield 10, 3) := by decide +kernel
theorem dX9_count_72 : decode cX9_count 72 = .ok (.getfield 115, 3) := by decide +kernel
theorem dX9_count_75 : decode cX9_count 75 = .ok (.ireturn, 1) := by decide +kernel
theorem dX9_count_76 : decode cX9_count 76 = .ok (.aload_n 0, 1) := by decide +kernel
theorem dX9_count_77 : decode cX9_count 77 = .ok (.getfield 10, 3) := by decide +kernel
theorem dX9_count_80 : decode cX9_count 80 = .ok (.getfield 229, 3) := by decide +kernel
theorem dX9_count_83 : decode cX9_count 83 = .ok (.ireturn, 1) := by decide +kernel
theorem dX9_count_84 : decode cX9_count 84 = .ok (.aload_n 0, 1) := by decide +kernel
theorem dX9_count_85 : decode cX9_count 85 = .ok (.getfield 10, 3) := by decide +kernel
theorem dX9_count_88 : decode cX9_count 88 = .ok (.getfield 232, 3) := by decide +kernel
theorem dX9_count_91 : decode cX9_count 91 = .ok (.ireturn, 1) := by decide +kernel
theorem dX9_count_92 : decode cX9_count 92 = .ok (.aload_n 0, 1) := by decide +kernel
theorem dX9_count_93 : decode cX9_count 93 = .ok (.getfield 10, 3) := by decide +kernel
theorem dX9_count_96 : decode cX9_count 96 = .ok (.getfield 235, 3) := by decide +kernel
theorem dX9_count_99 : decode cX9_count 99 = .ok (.ireturn, 1) := by decide +kernel
theorem dX9_count_100 : decode cX9_count 100 = .ok (.aload_n 0, 1) := by decide +kernel
theorem dX9_count_101 : decode cX9_count 101 = .ok (.getfield 10, 3) := by decide +kernel
theorem dX9_count_104 : decode cX9_count 104 = .ok (.getfield 238, 3) := by decide +kernel
theorem dX9_count_107 : decode cX9_count 107 = .ok (.ireturn, 1) := by decide +kernel
theorem dX9_count_108 : decode cX9_count 108 = .ok (.aload_n 0, 1) := by decide +kernel
theorem dX9_count_109 : decode cX9_count 109 = .ok (.getfield 10, 3) := by decide +kernel
theorem dX9_count_112 : decode cX9_count 112 = .ok (.getfield 196, 3) := by decide +kernel
theorem dX9_count_115 : decode cX9_count 115 = .ok (.ireturn, 1) := by decide +kernel
theorem dX9_count_116 : decode cX9_count 116 = .ok (.aload_n 0, 1) := by decide +kernel
theorem dX9_count_117 : decode cX9_count 117 = .ok (.getfield 19, 3) := by decide +kernel
theorem dX9_count_120 : decode cX9_count 120 = .ok (.getfield 206, 3) := by decide +kernel
theorem dX9_count_123 : decode cX9_count 123 = .ok (.ireturn, 1) := by decide +kernel
theorem dX9_count_124 : decode cX9_count 124 = .ok (.aload_n 0, 1) := by decide +kernel
theorem dX9_count_125 : decode cX9_count 125 = .ok (.getfield 19, 3) := by decide +kernel
theorem dX9_count_128 : decode cX9_count 128 = .ok (.getfield 241, 3) := by decide +kernel
theorem dX9_count_131 : decode cX9_count 131 = .ok (.ifCond .eq 7, 3) := by decide +kernel
theorem dX9_count_134 : decode cX9_count 134 = .ok (.iconst 1, 1) := by decide +kernel
theorem dX9_count_135 : decode cX9_count 135 = .ok (.goto 4, 3) := by decide +kernel
theorem dX9_count_138 : decode cX9_count 138 = .ok (.iconst 0, 1) := by decide +kernel
theorem dX9_count_139 : decode cX9_count 139 = .ok (.ireturn, 1) := by decide +kernel
theorem dX9_count_140 : decode cX9_count 140 = .ok (.aload_n 0, 1) := by decide +kernel
theorem dX9_count_141 : decode cX9_count 141 = .ok (.getfield 19, 3) := by decide +kernel
theorem dX9_count_144 : decode cX9_count 144 = .ok (.getfield 244, 3) := by decide +kernel
theorem dX9_count_147 : decode cX9_count 147 = .ok (.ireturn, 1) := by decide +kernel
theorem dX9_count_148 : decode cX9_count 148 = .ok (.aload_n 0, 1) := by decide +kernel
theorem dX9_count_149 : decode cX9_count 149 = .ok (.getfield 10, 3) := by decide +kernel
theorem dX9_count_152 : decode cX9_count 152 = .ok (.getfield 220, 3) := by decide +kernel
theorem dX9_count_155 : decode cX9_count 155 = .ok (.ireturn, 1) := by decide +kernel
theorem dX9_count_156 : decode cX9_count 156 = .ok (.aload_n 0, 1) := by decide +kernel
theorem dX9_count_157 : decode cX9_count 157 = .ok (.getfield 33, 3) := by decide +kernel
theorem dX9_count_160 : decode cX9_count 160 = .ok (.getfield 247, 3) := by decide +kernel
theorem dX9_count_163 : decode cX9_count 163 = .ok (.ireturn, 1) := by decide +kernel
theorem dX9_count_164 : decode cX9_count 164 = .ok (.aload_n 0, 1) := by decide +kernel
theorem dX9_count_165 : decode cX9_count 165 = .ok (.getfield 33, 3) := by decide +kernel
theorem dX9_count_168 : decode cX9_count 168 = .ok (.invokevirtual 250, 3) := by decide +kernel
theorem dX9_count_171 : decode cX9_count 171 = .ok (.ireturn, 1) := by decide +kernel
theorem dX9_count_172 : decode cX9_count 172 = .ok (.aload_n 0, 1) := by decide +kernel
theorem dX9_count_173 : decode cX9_count 173 = .ok (.getfield 26, 3) := by decide +kernel
theorem dX9_count_176 : decode cX9_count 176 = .ok (.getfield 254, 3) := by decide +kernel
theorem dX9_count_179 : decode cX9_count 179 = .ok (.ireturn, 1) := by decide +kernel
theorem dX9_count_180 : decode cX9_count 180 = .ok (.ldc 185, 2) := by decide +kernel
theorem dX9_count_182 : decode cX9_count 182 = .ok (.ireturn, 1) := by decide +kernel
theorem dX9_isPlace_0 : decode cX9_isPlace 0 = .ok (.iload_n 1, 1) := by decide +kernel
theorem dX9_isPlace_1 : decode cX9_isPlace 1 = .ok (.ifCond .lt 18, 3) := by decide +kernel
theorem dX9_isPlace_4 : decode cX9_isPlace 4 = .ok (.iload_n 1, 1) := by decide +kernel
theorem dX9_isPlace_5 : decode cX9_isPlace 5 = .ok (.aload_n 0, 1) := by decide +kernel
theorem dX9_isPlace_6 : decode cX9_isPlace 6 = .ok (.getfield 10, 3) := by decide +kernel
theorem dX9_isPlace_9 : decode cX9_isPlace 9 = .ok (.getfield 115, 3) := by decide +kernel
theorem dX9_isPlace_12 : decode cX9_isPlace 12 = .ok (.if_icmp .ge 7, 3) := by decide +kernel
theorem dX9_isPlace_15 : decode cX9_isPlace 15 = .ok (.iconst 1, 1) := by decide +kernel
theorem dX9_isPlace_16 : decode cX9_isPlace 16 = .ok (.goto 4, 3) := by decide +kernel
theorem dX9_isPlace_19 : decode cX9_isPlace 19 = .ok (.iconst 0, 1) := by decide +kernel
theorem dX9_isPlace_20 : decode cX9_isPlace 20 = .ok (.ireturn, 1) := by decide +kernel
theorem dX9_mirrored_0 : decode cX9_mirrored 0 = .ok (.iload_n 1, 1) := by decide +kernel
theorem dX9_mirrored_1 : decode cX9_mirrored 1 = .ok (.ineg, 1) := by decide +kernel
theorem dX9_mirrored_2 : decode cX9_mirrored 2 = .ok (.aload_n 0, 1) := by decide +kernel
theorem dX9_mirrored_3 : decode cX9_mirrored 3 = .ok (.getfield 10, 3) := by decide +kernel
theorem dX9_mirrored_6 : decode cX9_mirrored 6 = .ok (.getfield 115, 3) := by decide +kernel
theorem dX9_mirrored_9 : decode cX9_mirrored 9 = .ok (.iconst 1, 1) := by decide +kernel
theorem dX9_mirrored_10 : decode cX9_mirrored 10 = .ok (.isub, 1) := by decide +kernel
theorem dX9_mirrored_11 : decode cX9_mirrored 11 = .ok (.iand, 1) := by decide +kernel
theorem dX9_mirrored_12 : decode cX9_mirrored 12 = .ok (.ireturn, 1) := by decide +kernel
theorem dX9_isFresh_0 : decode cX9_isFresh 0 = .ok (.aload_n 0, 1) := by decide +kernel
theorem dX9_isFresh_1 : decode cX9_isFresh 1 = .ok (.getfield 19, 3) := by decide +kernel
theorem dX9_isFresh_4 : decode cX9_isFresh 4 = .ok (.getfield 206, 3) := by decide +kernel
theorem dX9_isFresh_7 : decode cX9_isFresh 7 = .ok (.ifCond .ne 17, 3) := by decide +kernel
theorem dX9_isFresh_10 : decode cX9_isFresh 10 = .ok (.aload_n 0, 1) := by decide +kernel
theorem dX9_isFresh_11 : decode cX9_isFresh 11 = .ok (.getfield 19, 3) := by decide +kernel
theorem dX9_isFresh_14 : decode cX9_isFresh 14 = .ok (.getfield 241, 3) := by decide +kernel
theorem dX9_isFresh_17 : decode cX9_isFresh 17 = .ok (.ifCond .ne 7, 3) := by decide +kernel
theorem dX9_isFresh_20 : decode cX9_isFresh 20 = .ok (.iconst 1, 1) := by decide +kernel
theorem dX9_isFresh_21 : decode cX9_isFresh 21 = .ok (.goto 4, 3) := by decide +kernel
theorem dX9_isFresh_24 : decode cX9_isFresh 24 = .ok (.iconst 0, 1) := by decide +kernel
theorem dX9_isFresh_25 : decode cX9_isFresh 25 = .ok (.ireturn, 1) := by decide +kernel
theorem dX9_isInWord_0 : decode cX9_isInWord 0 = .ok (.lload_n 1, 1) := by decide +kernel
theorem dX9_isInWord_1 : decode cX9_isInWord 1 = .ok (.aload_n 0, 1) := by decide +kernel
theorem dX9_isInWord_2 : decode cX9_isInWord 2 = .ok (.getfield 10, 3) := by decide +kernel
theorem dX9_isInWord_5 : decode cX9_isInWord 5 = .ok (.getfield 220, 3) := by decide +kernel
theorem dX9_isInWord_8 : decode cX9_isInWord 8 = .ok (.i2l, 1) := by decide +kernel
theorem dX9_isInWord_9 : decode cX9_isInWord 9 = .ok (.lcmp, 1) := by decide +kernel
theorem dX9_isInWord_10 : decode cX9_isInWord 10 = .ok (.ifCond .gt 21, 3) := by decide +kernel
theorem dX9_isInWord_13 : decode cX9_isInWord 13 = .ok (.lload_n 1, 1) := by decide +kernel
theorem dX9_isInWord_14 : decode cX9_isInWord 14 = .ok (.aload_n 0, 1) := by decide +kernel
theorem dX9_isInWord_15 : decode cX9_isInWord 15 = .ok (.getfield 10, 3) := by decide +kernel
theorem dX9_isInWord_18 : decode cX9_isInWord 18 = .ok (.getfield 220, 3) := by decide +kernel
theorem dX9_isInWord_21 : decode cX9_isInWord 21 = .ok (.ineg, 1) := by decide +kernel
theorem dX9_isInWord_22 : decode cX9_isInWord 22 = .ok (.i2l, 1) := by decide +kernel
theorem dX9_isInWord_23 : decode cX9_isInWord 23 = .ok (.lcmp, 1) := by decide +kernel
theorem dX9_isInWord_24 : decode cX9_isInWord 24 = .ok (.ifCond .lt 7, 3) := by decide +kernel
theorem dX9_isInWord_27 : decode cX9_isInWord 27 = .ok (.iconst 1, 1) := by decide +kernel
theorem dX9_isInWord_28 : decode cX9_isInWord 28 = .ok (.goto 4, 3) := by decide +kernel
theorem dX9_isInWord_31 : decode cX9_isInWord 31 = .ok (.iconst 0, 1) := by decide +kernel
theorem dX9_isInWord_32 : decode cX9_isInWord 32 = .ok (.ireturn, 1) := by decide +kernel
set_option maxRecDepth 20000 in
theorem ggX9_set_X9_isPlace : GoodIn wsX9_set wsX9_isPlace := goodIn_r _ [9, 10, 11, 56, 57, 58, 59, 60, 61, 62, 63, 64, 65, 66, 67, 68, 69, 70, 71, 72, 73, 74, 83, 84, 85, 86, 87, 88, 89, 90, 91, 92] (by decide +kernel) (by decide +kernel)
set_option maxRecDepth 20000 in
theorem gX9_set_X9_isPlace : GoodIn wsX9_set (wsV RX9 159 RX9 yX9_isPlace wsX9_isPlace) := goodIn_app (goodIn_of _ (by decide +kernel)) ggX9_set_X9_isPlace
set_option maxRecDepth 20000 in
theorem ggX9_set_X9_isInWord : GoodIn wsX9_set wsX9_isInWord := goodIn_r _ [15, 10, 16, 56, 57, 58, 59, 60, 61, 62, 63, 64, 65, 66, 67, 68, 69, 70, 71, 72, 73, 74, 83, 84, 85, 86, 87, 88, 89, 90, 91, 92] (by decide +kernel) (by decide +kernel)
set_option maxRecDepth 20000 in
theorem gX9_set_X9_isInWord : GoodIn wsX9_set (wsV RX9 257 RX9 yX9_isInWord wsX9_isInWord) := goodIn_app (goodIn_of _ (by decide +kernel)) ggX9_set_X9_isInWord
set_option maxRecDepth 20000 in
theorem ggX9_set_X9_isFresh : GoodIn wsX9_set wsX9_isFresh := goodIn_r _ [20, 2, 21, 22, 56, 57, 58, 59, 60, 61, 62, 63, 64, 65, 66, 67, 68, 69, 70, 71, 72, 73, 74, 75, 76, 77, 78, 79, 80, 81, 82] (by decide +kernel) (by decide +kernel)
set_option maxRecDepth 20000 in
theorem gX9_set_X9_isFresh : GoodIn wsX9_set (wsV RX9 261 RX9 yX9_isFresh wsX9_isFresh) := goodIn_app (goodIn_of _ (by decide +kernel)) ggX9_set_X9_isFresh
set_option maxRecDepth 20000 in
theorem ggX9_set_X3_remember : GoodIn wsX9_set wsX3_remember := goodIn_r _ [27, 28, 29, 30, 31, 32, 33, 34, 35, 36, 37, 38, 39, 40, 41, 42, 43, 44, 45, 46, 47, 48, 49, 50, 51, 93, 94, 95, 75, 76, 77, 78, 79, 80, 81, 82] (by decide +kernel) (by decide +kernel)
set_option maxRecDepth 20000 in
theorem gX9_set_X3_remember : GoodIn wsX9_set (wsV RX9 265 RX3 yX3_remember wsX3_remember) := goodIn_app (goodIn_of _ (by decide +kernel)) ggX9_set_X3_remember
set_option maxRecDepth 20000 in
theorem ggX9_set_X7_settle : GoodIn wsX9_set wsX7_settle := goodIn_r _ [55, 40, 46, 41, 42, 43, 44, 45, 47, 75, 76, 77, 78, 79, 80, 81, 82] (by decide +kernel) (by decide +kernel)
set_option maxRecDepth 20000 in
theorem gX9_set_X7_settle : GoodIn wsX9_set (wsV RX9 146 RX7 yX7_settle wsX7_settle) := goodIn_app (goodIn_of _ (by decide +kernel)) ggX9_set_X7_settle
theorem dX9_set_0 : decode cX9_set 0 = .ok (.aload_n 0, 1) := by decide +kernel
theorem dX9_set_1 : decode cX9_set 1 = .ok (.iload_n 1, 1) := by decide +kernel
theorem dX9_set_2 : decode cX9_set 2 = .ok (.invokevirtual 159, 3) := by decide +kernel
theorem dX9_set_5 : decode cX9_set 5 = .ok (.ifCond .eq 28, 3) := by decide +kernel
theorem dX9_set_8 : decode cX9_set 8 = .ok (.aload_n 0, 1) := by decide +kernel
theorem dX9_set_9 : decode cX9_set 9 = .ok (.iload_n 2, 1) := by decide +kernel
theorem dX9_set_10 : decode cX9_set 10 = .ok (.i2l, 1) := by decide +kernel
theorem dX9_set_11 : decode cX9_set 11 = .ok (.invokevirtual 257, 3) := by decide +kernel
theorem dX9_set_14 : decode cX9_set 14 = .ok (.ifCond .eq 19, 3) := by decide +kernel
theorem dX9_set_17 : decode cX9_set 17 = .ok (.aload_n 0, 1) := by decide +kernel
theorem dX9_set_18 : decode cX9_set 18 = .ok (.iload_n 3, 1) := by decide +kernel
theorem dX9_set_19 : decode cX9_set 19 = .ok (.i2l, 1) := by decide +kernel
theorem dX9_set_20 : decode cX9_set 20 = .ok (.invokevirtual 257, 3) := by decide +kernel
theorem dX9_set_23 : decode cX9_set 23 = .ok (.ifCond .eq 10, 3) := by decide +kernel
theorem dX9_set_26 : decode cX9_set 26 = .ok (.aload_n 0, 1) := by decide +kernel
theorem dX9_set_27 : decode cX9_set 27 = .ok (.invokevirtual 261, 3) := by decide +kernel
theorem dX9_set_30 : decode cX9_set 30 = .ok (.ifCond .ne 5, 3) := by decide +kernel
theorem dX9_set_33 : decode cX9_set 33 = .ok (.iconst 0, 1) := by decide +kernel
theorem dX9_set_34 : decode cX9_set 34 = .ok (.ireturn, 1) := by decide +kernel
theorem dX9_set_35 : decode cX9_set 35 = .ok (.aload_n 0, 1) := by decide +kernel
theorem dX9_set_36 : decode cX9_set 36 = .ok (.getfield 26, 3) := by decide +kernel
theorem dX9_set_39 : decode cX9_set 39 = .ok (.aload_n 0, 1) := by decide +kernel
theorem dX9_set_40 : decode cX9_set 40 = .ok (.getfield 19, 3) := by decide +kernel
theorem dX9_set_43 : decode cX9_set 43 = .ok (.invokevirtual 265, 3) := by decide +kernel
theorem dX9_set_46 : decode cX9_set 46 = .ok (.aload_n 0, 1) := by decide +kernel
theorem dX9_set_47 : decode cX9_set 47 = .ok (.getfield 19, 3) := by decide +kernel
theorem dX9_set_50 : decode cX9_set 50 = .ok (.getfield 175, 3) := by decide +kernel
theorem dX9_set_53 : decode cX9_set 53 = .ok (.iload_n 1, 1) := by decide +kernel
theorem dX9_set_54 : decode cX9_set 54 = .ok (.iload_n 2, 1) := by decide +kernel
theorem dX9_set_55 : decode cX9_set 55 = .ok (.iastore, 1) := by decide +kernel
theorem dX9_set_56 : decode cX9_set 56 = .ok (.aload_n 0, 1) := by decide +kernel
theorem dX9_set_57 : decode cX9_set 57 = .ok (.getfield 19, 3) := by decide +kernel
theorem dX9_set_60 : decode cX9_set 60 = .ok (.getfield 176, 3) := by decide +kernel
theorem dX9_set_63 : decode cX9_set 63 = .ok (.iload_n 1, 1) := by decide +kernel
theorem dX9_set_64 : decode cX9_set 64 = .ok (.iload_n 3, 1) := by decide +kernel
theorem dX9_set_65 : decode cX9_set 65 = .ok (.iastore, 1) := by decide +kernel
theorem dX9_set_66 : decode cX9_set 66 = .ok (.aload_n 0, 1) := by decide +kernel
theorem dX9_set_67 : decode cX9_set 67 = .ok (.getfield 19, 3) := by decide +kernel
theorem dX9_set_70 : decode cX9_set 70 = .ok (.invokevirtual 146, 3) := by decide +kernel
theorem dX9_set_73 : decode cX9_set 73 = .ok (.iconst 1, 1) := by decide +kernel
theorem dX9_set_74 : decode cX9_set 74 = .ok (.ireturn, 1) := by decide +kernel
set_option maxRecDepth 20000 in
theorem ggX9_taper_X9_isFresh : GoodIn wsX9_taper wsX9_isFresh := goodIn_r _ [13, 2, 14, 15, 55, 56, 57, 58, 59, 60, 61, 62, 63, 64, 65, 66, 67, 68, 69, 70, 71, 72, 73, 86, 87, 88, 89, 90, 91, 92, 93] (by decide +kernel) (by decide +kernel)
set_option maxRecDepth 20000 in
theorem gX9_taper_X9_isFresh : GoodIn wsX9_taper (wsV RX9 261 RX9 yX9_isFresh wsX9_isFresh) := goodIn_app (goodIn_of _ (by decide +kernel)) ggX9_taper_X9_isFresh
set_option maxRecDepth 20000 in
theorem ggX9_taper_X3_remember : GoodIn wsX9_taper wsX3_remember := goodIn_r _ [20, 21, 22, 23, 24, 25, 26, 27, 28, 29, 30, 31, 32, 33, 34, 35, 36, 37, 38, 39, 40, 41, 42, 43, 44, 94, 95, 96, 86, 87, 88, 89, 90, 91, 92, 93] (by decide +kernel) (by decide +kernel)
set_option maxRecDepth 20000 in
theorem gX9_taper_X3_remember : GoodIn wsX9_taper (wsV RX9 265 RX3 yX3_remember wsX3_remember) := goodIn_app (goodIn_of _ (by decide +kernel)) ggX9_taper_X3_remember
set_option maxRecDepth 20000 in
theorem ggX9_taper_X9_tapered : GoodIn wsX9_taper wsX9_tapered := goodIn_r _ [48, 3, 49, 50, 55, 56, 57, 58, 59, 60, 61, 62, 63, 64, 65, 66, 67, 68, 69, 70, 71, 72, 73, 74, 75, 76, 77, 78, 79, 80, 81, 82, 83] (by decide +kernel) (by decide +kernel)
set_option maxRecDepth 20000 in
theorem gX9_taper_X9_tapered : GoodIn wsX9_taper (wsV RX9 269 RX9 yX9_tapered wsX9_tapered) := goodIn_app (goodIn_of _ (by decide +kernel)) ggX9_taper_X9_tapered
set_option maxRecDepth 20000 in
theorem ggX9_taper_X7_settle : GoodIn wsX9_taper wsX7_settle := goodIn_r _ [54, 33, 39, 34, 35, 36, 37, 38, 40, 86, 87, 88, 89, 90, 91, 92, 93] (by decide +kernel) (by decide +kernel)
set_option maxRecDepth 20000 in
theorem gX9_taper_X7_settle : GoodIn wsX9_taper (wsV RX9 146 RX7 yX7_settle wsX7_settle) := goodIn_app (goodIn_of _ (by decide +kernel)) ggX9_taper_X7_settle
theorem dX9_taper_0 : decode cX9_taper 0 = .ok (.aload_n 0, 1) := by decide +kernel
theorem dX9_taper_1 : decode cX9_taper 1 = .ok (.invokevirtual 261, 3) := by decide +kernel
theorem dX9_taper_4 : decode cX9_taper 4 = .ok (.ifCond .ne 5, 3) := by decide +kernel
theorem dX9_taper_7 : decode cX9_taper 7 = .ok (.iconst 0, 1) := by decide +kernel
theorem dX9_taper_8 : decode cX9_taper 8 = .ok (.ireturn, 1) := by decide +kernel
theorem dX9_taper_9 : decode cX9_taper 9 = .ok (.aload_n 0, 1) := by decide +kernel
theorem dX9_taper_10 : decode cX9_taper 10 = .ok (.getfield 26, 3) := by decide +kernel
theorem dX9_taper_13 : decode cX9_taper 13 = .ok (.aload_n 0, 1) := by decide +kernel
theorem dX9_taper_14 : decode cX9_taper 14 = .ok (.getfield 19, 3) := by decide +kernel
theorem dX9_taper_17 : decode cX9_taper 17 = .ok (.invokevirtual 265, 3) := by decide +kernel
theorem dX9_taper_20 : decode cX9_taper 20 = .ok (.iconst 0, 1) := by decide +kernel
theorem dX9_taper_21 : decode cX9_taper 21 = .ok (.istore_n 1, 1) := by decide +kernel
theorem dX9_taper_22 : decode cX9_taper 22 = .ok (.iload_n 1, 1) := by decide +kernel
theorem dX9_taper_23 : decode cX9_taper 23 = .ok (.aload_n 0, 1) := by decide +kernel
theorem dX9_taper_24 : decode cX9_taper 24 = .ok (.getfield 10, 3) := by decide +kernel
theorem dX9_taper_27 : decode cX9_taper 27 = .ok (.getfield 115, 3) := by decide +kernel
theorem dX9_taper_30 : decode cX9_taper 30 = .ok (.if_icmp .ge 69, 3) := by decide +kernel
theorem dX9_taper_33 : decode cX9_taper 33 = .ok (.sipush 16384, 3) := by decide +kernel
theorem dX9_taper_36 : decode cX9_taper 36 = .ok (.aload_n 0, 1) := by decide +kernel
theorem dX9_taper_37 : decode cX9_taper 37 = .ok (.getfield 47, 3) := by decide +kernel
theorem dX9_taper_40 : decode cX9_taper 40 = .ok (.getfield 186, 3) := by decide +kernel
theorem dX9_taper_43 : decode cX9_taper 43 = .ok (.iload_n 1, 1) := by decide +kernel
theorem dX9_taper_44 : decode cX9_taper 44 = .ok (.iaload, 1) := by decide +kernel
theorem dX9_taper_45 : decode cX9_taper 45 = .ok (.isub, 1) := by decide +kernel
theorem dX9_taper_46 : decode cX9_taper 46 = .ok (.istore_n 2, 1) := by decide +kernel
theorem dX9_taper_47 : decode cX9_taper 47 = .ok (.aload_n 0, 1) := by decide +kernel
theorem dX9_taper_48 : decode cX9_taper 48 = .ok (.getfield 19, 3) := by decide +kernel
theorem dX9_taper_51 : decode cX9_taper 51 = .ok (.getfield 175, 3) := by decide +kernel
theorem dX9_taper_54 : decode cX9_taper 54 = .ok (.iload_n 1, 1) := by decide +kernel
theorem dX9_taper_55 : decode cX9_taper 55 = .ok (.aload_n 0, 1) := by decide +kernel
theorem dX9_taper_56 : decode cX9_taper 56 = .ok (.aload_n 0, 1) := by decide +kernel
theorem dX9_taper_57 : decode cX9_taper 57 = .ok (.getfield 19, 3) := by decide +kernel
theorem dX9_taper_60 : decode cX9_taper 60 = .ok (.getfield 175, 3) := by decide +kernel
theorem dX9_taper_63 : decode cX9_taper 63 = .ok (.iload_n 1, 1) := by decide +kernel
theorem dX9_taper_64 : decode cX9_taper 64 = .ok (.iaload, 1) := by decide +kernel
theorem dX9_taper_65 : decode cX9_taper 65 = .ok (.iload_n 2, 1) := by decide +kernel
theorem dX9_taper_66 : decode cX9_taper 66 = .ok (.invokevirtual 269, 3) := by decide +kernel
theorem dX9_taper_69 : decode cX9_taper 69 = .ok (.iastore, 1) := by decide +kernel
theorem dX9_taper_70 : decode cX9_taper 70 = .ok (.aload_n 0, 1) := by decide +kernel
theorem dX9_taper_71 : decode cX9_taper 71 = .ok (.getfield 19, 3) := by decide +kernel
theorem dX9_taper_74 : decode cX9_taper 74 = .ok (.getfield 176, 3) := by decide +kernel
theorem dX9_taper_77 : decode cX9_taper 77 = .ok (.iload_n 1, 1) := by decide +kernel
theorem dX9_taper_78 : decode cX9_taper 78 = .ok (.aload_n 0, 1) := by decide +kernel
theorem dX9_taper_79 : decode cX9_taper 79 = .ok (.aload_n 0, 1) := by decide +kernel
theorem dX9_taper_80 : decode cX9_taper 80 = .ok (.getfield 19, 3) := by decide +kernel
theorem dX9_taper_83 : decode cX9_taper 83 = .ok (.getfield 176, 3) := by decide +kernel
theorem dX9_taper_86 : decode cX9_taper 86 = .ok (.iload_n 1, 1) := by decide +kernel
theorem dX9_taper_87 : decode cX9_taper 87 = .ok (.iaload, 1) := by decide +kernel
theorem dX9_taper_88 : decode cX9_taper 88 = .ok (.iload_n 2, 1) := by decide +kernel
theorem dX9_taper_89 : decode cX9_taper 89 = .ok (.invokevirtual 269, 3) := by decide +kernel
theorem dX9_taper_92 : decode cX9_taper 92 = .ok (.iastore, 1) := by decide +kernel
theorem dX9_taper_93 : decode cX9_taper 93 = .ok (.iinc 1 1, 3) := by decide +kernel
theorem dX9_taper_96 : decode cX9_taper 96 = .ok (.goto (-74), 3) := by decide +kernel
theorem dX9_taper_99 : decode cX9_taper 99 = .ok (.aload_n 0, 1) := by decide +kernel
theorem dX9_taper_100 : decode cX9_taper 100 = .ok (.getfield 19, 3) := by decide +kernel
theorem dX9_taper_103 : decode cX9_taper 103 = .ok (.invokevirtual 146, 3) := by decide +kernel
theorem dX9_taper_106 : decode cX9_taper 106 = .ok (.iconst 1, 1) := by decide +kernel
theorem dX9_taper_107 : decode cX9_taper 107 = .ok (.ireturn, 1) := by decide +kernel
theorem dX9_tapered_0 : decode cX9_tapered 0 = .ok (.iload_n 1, 1) := by decide +kernel
theorem dX9_tapered_1 : decode cX9_tapered 1 = .ok (.i2l, 1) := by decide +kernel
theorem dX9_tapered_2 : decode cX9_tapered 2 = .ok (.iload_n 2, 1) := by decide +kernel
theorem dX9_tapered_3 : decode cX9_tapered 3 = .ok (.i2l, 1) := by decide +kernel
theorem dX9_tapered_4 : decode cX9_tapered 4 = .ok (.lmul, 1) := by decide +kernel
theorem dX9_tapered_5 : decode cX9_tapered 5 = .ok (.lstore_n 3, 1) := by decide +kernel
theorem dX9_tapered_6 : decode cX9_tapered 6 = .ok (.aload_n 0, 1) := by decide +kernel
theorem dX9_tapered_7 : decode cX9_tapered 7 = .ok (.getfield 10, 3) := by decide +kernel
theorem dX9_tapered_10 : decode cX9_tapered 10 = .ok (.getfield 238, 3) := by decide +kernel
theorem dX9_tapered_13 : decode cX9_tapered 13 = .ok (.iconst 1, 1) := by decide +kernel
theorem dX9_tapered_14 : decode cX9_tapered 14 = .ok (.if_icmp .ne 11, 3) := by decide +kernel
theorem dX9_tapered_17 : decode cX9_tapered 17 = .ok (.lload_n 3, 1) := by decide +kernel
theorem dX9_tapered_18 : decode cX9_tapered 18 = .ok (.ldc2_w 272, 3) := by decide +kernel
theorem dX9_tapered_21 : decode cX9_tapered 21 = .ok (.ladd, 1) := by decide +kernel
theorem dX9_tapered_22 : decode cX9_tapered 22 = .ok (.goto 4, 3) := by decide +kernel
theorem dX9_tapered_25 : decode cX9_tapered 25 = .ok (.lload_n 3, 1) := by decide +kernel
theorem dX9_tapered_26 : decode cX9_tapered 26 = .ok (.bipush 15, 2) := by decide +kernel
theorem dX9_tapered_28 : decode cX9_tapered 28 = .ok (.lshr, 1) := by decide +kernel
theorem dX9_tapered_29 : decode cX9_tapered 29 = .ok (.l2i, 1) := by decide +kernel
theorem dX9_tapered_30 : decode cX9_tapered 30 = .ok (.ireturn, 1) := by decide +kernel
set_option maxRecDepth 20000 in
theorem ggX9_shift_X9_isFresh : GoodIn wsX9_shift wsX9_isFresh := goodIn_r _ [10, 2, 11, 12, 60, 61, 62, 63, 64, 65, 66, 67, 68, 69, 70, 71, 72, 73, 74, 75, 76, 77, 78, 89, 90, 91, 92, 93, 94, 95, 96] (by decide +kernel) (by decide +kernel)
set_option maxRecDepth 20000 in
theorem gX9_shift_X9_isFresh : GoodIn wsX9_shift (wsV RX9 261 RX9 yX9_isFresh wsX9_isFresh) := goodIn_app (goodIn_of _ (by decide +kernel)) ggX9_shift_X9_isFresh
set_option maxRecDepth 20000 in
theorem ggX9_shift_X3_remember : GoodIn wsX9_shift wsX3_remember := goodIn_r _ [17, 18, 19, 20, 21, 22, 23, 24, 25, 26, 27, 28, 29, 30, 31, 32, 33, 34, 35, 36, 37, 38, 39, 40, 41, 97, 98, 99, 89, 90, 91, 92, 93, 94, 95, 96] (by decide +kernel) (by decide +kernel)
set_option maxRecDepth 20000 in
theorem gX9_shift_X3_remember : GoodIn wsX9_shift (wsV RX9 265 RX3 yX3_remember wsX3_remember) := goodIn_app (goodIn_of _ (by decide +kernel)) ggX9_shift_X3_remember
set_option maxRecDepth 20000 in
theorem ggX9_shift_X0_moveAll : GoodIn wsX9_shift wsX0_moveAll := goodIn_r _ [46, 47, 48, 49, 50, 51, 52, 53, 45, 54, 55, 32, 33, 34, 100, 101, 102, 103, 104, 89, 90, 91, 92, 93, 94, 95, 96] (by decide +kernel) (by decide +kernel)
set_option maxRecDepth 20000 in
theorem gX9_shift_X0_moveAll : GoodIn wsX9_shift (wsV RX9 274 RX0 yX0_moveAll wsX0_moveAll) := goodIn_app (goodIn_of _ (by decide +kernel)) ggX9_shift_X0_moveAll
set_option maxRecDepth 20000 in
theorem ggX9_shift_X7_settle : GoodIn wsX9_shift wsX7_settle := goodIn_r _ [59, 30, 36, 31, 32, 33, 34, 35, 37, 89, 90, 91, 92, 93, 94, 95, 96] (by decide +kernel) (by decide +kernel)
set_option maxRecDepth 20000 in
theorem gX9_shift_X7_settle : GoodIn wsX9_shift (wsV RX9 146 RX7 yX7_settle wsX7_settle) := goodIn_app (goodIn_of _ (by decide +kernel)) ggX9_shift_X7_settle
theorem dX9_shift_0 : decode cX9_shift 0 = .ok (.iload_n 1, 1) := by decide +kernel
theorem dX9_shift_1 : decode cX9_shift 1 = .ok (.iconst 1, 1) := by decide +kernel
theorem dX9_shift_2 : decode cX9_shift 2 = .ok (.if_icmp .lt 16, 3) := by decide +kernel
theorem dX9_shift_5 : decode cX9_shift 5 = .ok (.iload_n 1, 1) := by decide +kernel
theorem dX9_shift_6 : decode cX9_shift 6 = .ok (.bipush 31, 2) := by decide +kernel
theorem dX9_shift_8 : decode cX9_shift 8 = .ok (.if_icmp .gt 10, 3) := by decide +kernel
theorem dX9_shift_11 : decode cX9_shift 11 = .ok (.aload_n 0, 1) := by decide +kernel
theorem dX9_shift_12 : decode cX9_shift 12 = .ok (.invokevirtual 261, 3) := by decide +kernel
theorem dX9_shift_15 : decode cX9_shift 15 = .ok (.ifCond .ne 5, 3) := by decide +kernel
theorem dX9_shift_18 : decode cX9_shift 18 = .ok (.iconst 0, 1) := by decide +kernel
theorem dX9_shift_19 : decode cX9_shift 19 = .ok (.ireturn, 1) := by decide +kernel
theorem dX9_shift_20 : decode cX9_shift 20 = .ok (.aload_n 0, 1) := by decide +kernel
theorem dX9_shift_21 : decode cX9_shift 21 = .ok (.getfield 26, 3) := by decide +kernel
theorem dX9_shift_24 : decode cX9_shift 24 = .ok (.aload_n 0, 1) := by decide +kernel
theorem dX9_shift_25 : decode cX9_shift 25 = .ok (.getfield 19, 3) := by decide +kernel
theorem dX9_shift_28 : decode cX9_shift 28 = .ok (.invokevirtual 265, 3) := by decide +kernel
theorem dX9_shift_31 : decode cX9_shift 31 = .ok (.aload_n 0, 1) := by decide +kernel
theorem dX9_shift_32 : decode cX9_shift 32 = .ok (.getfield 56, 3) := by decide +kernel
theorem dX9_shift_35 : decode cX9_shift 35 = .ok (.aload_n 0, 1) := by decide +kernel
theorem dX9_shift_36 : decode cX9_shift 36 = .ok (.getfield 19, 3) := by decide +kernel
theorem dX9_shift_39 : decode cX9_shift 39 = .ok (.aload_n 0, 1) := by decide +kernel
theorem dX9_shift_40 : decode cX9_shift 40 = .ok (.getfield 10, 3) := by decide +kernel
theorem dX9_shift_43 : decode cX9_shift 43 = .ok (.getfield 115, 3) := by decide +kernel
theorem dX9_shift_46 : decode cX9_shift 46 = .ok (.iconst 1, 1) := by decide +kernel
theorem dX9_shift_47 : decode cX9_shift 47 = .ok (.iload_n 1, 1) := by decide +kernel
theorem dX9_shift_48 : decode cX9_shift 48 = .ok (.invokevirtual 274, 3) := by decide +kernel
theorem dX9_shift_51 : decode cX9_shift 51 = .ok (.aload_n 0, 1) := by decide +kernel
theorem dX9_shift_52 : decode cX9_shift 52 = .ok (.getfield 19, 3) := by decide +kernel
theorem dX9_shift_55 : decode cX9_shift 55 = .ok (.invokevirtual 146, 3) := by decide +kernel
theorem dX9_shift_58 : decode cX9_shift 58 = .ok (.iconst 1, 1) := by decide +kernel
theorem dX9_shift_59 : decode cX9_shift 59 = .ok (.ireturn, 1) := by decide +kernel
set_option maxRecDepth 20000 in
theorem ggX9_turnRound_X9_isFresh : GoodIn wsX9_turnRound wsX9_isFresh := goodIn_r _ [10, 2, 11, 12, 60, 61, 62, 63, 64, 65, 66, 67, 68, 69, 70, 71, 72, 73, 74, 75, 76, 77, 78, 89, 90, 91, 92, 93, 94, 95, 96] (by decide +kernel) (by decide +kernel)
set_option maxRecDepth 20000 in
theorem gX9_turnRound_X9_isFresh : GoodIn wsX9_turnRound (wsV RX9 261 RX9 yX9_isFresh wsX9_isFresh) := goodIn_app (goodIn_of _ (by decide +kernel)) ggX9_turnRound_X9_isFresh
set_option maxRecDepth 20000 in
theorem ggX9_turnRound_X3_remember : GoodIn wsX9_turnRound wsX3_remember := goodIn_r _ [17, 18, 19, 20, 21, 22, 23, 24, 25, 26, 27, 28, 29, 30, 31, 32, 33, 34, 35, 36, 37, 38, 39, 40, 41, 97, 98, 99, 89, 90, 91, 92, 93, 94, 95, 96] (by decide +kernel) (by decide +kernel)
set_option maxRecDepth 20000 in
theorem gX9_turnRound_X3_remember : GoodIn wsX9_turnRound (wsV RX9 265 RX3 yX3_remember wsX3_remember) := goodIn_app (goodIn_of _ (by decide +kernel)) ggX9_turnRound_X3_remember
set_option maxRecDepth 20000 in
theorem ggX9_turnRound_X0_moveAll : GoodIn wsX9_turnRound wsX0_moveAll := goodIn_r _ [46, 47, 48, 49, 50, 51, 52, 53, 45, 54, 55, 32, 33, 34, 100, 101, 102, 103, 104, 89, 90, 91, 92, 93, 94, 95, 96] (by decide +kernel) (by decide +kernel)
set_option maxRecDepth 20000 in
theorem gX9_turnRound_X0_moveAll : GoodIn wsX9_turnRound (wsV RX9 274 RX0 yX0_moveAll wsX0_moveAll) := goodIn_app (goodIn_of _ (by decide +kernel)) ggX9_turnRound_X0_moveAll
set_option maxRecDepth 20000 in
theorem ggX9_turnRound_X7_settle : GoodIn wsX9_turnRound wsX7_settle := goodIn_r _ [59, 30, 36, 31, 32, 33, 34, 35, 37, 89, 90, 91, 92, 93, 94, 95, 96] (by decide +kernel) (by decide +kernel)
set_option maxRecDepth 20000 in
theorem gX9_turnRound_X7_settle : GoodIn wsX9_turnRound (wsV RX9 146 RX7 yX7_settle wsX7_settle) := goodIn_app (goodIn_of _ (by decide +kernel)) ggX9_turnRound_X7_settle
theorem dX9_turnRound_0 : decode cX9_turnRound 0 = .ok (.aload_n 0, 1) := by decide +kernel
theorem dX9_turnRound_1 : decode cX9_turnRound 1 = .ok (.invokevirtual 261, 3) := by decide +kernel
theorem dX9_turnRound_4 : decode cX9_turnRound 4 = .ok (.ifCond .ne 5, 3) := by decide +kernel
theorem dX9_turnRound_7 : decode cX9_turnRound 7 = .ok (.iconst 0, 1) := by decide +kernel
theorem dX9_turnRound_8 : decode cX9_turnRound 8 = .ok (.ireturn, 1) := by decide +kernel
theorem dX9_turnRound_9 : decode cX9_turnRound 9 = .ok (.aload_n 0, 1) := by decide +kernel
theorem dX9_turnRound_10 : decode cX9_turnRound 10 = .ok (.getfield 26, 3) := by decide +kernel
theorem dX9_turnRound_13 : decode cX9_turnRound 13 = .ok (.aload_n 0, 1) := by decide +kernel
theorem dX9_turnRound_14 : decode cX9_turnRound 14 = .ok (.getfield 19, 3) := by decide +kernel
theorem dX9_turnRound_17 : decode cX9_turnRound 17 = .ok (.invokevirtual 265, 3) := by decide +kernel
theorem dX9_turnRound_20 : decode cX9_turnRound 20 = .ok (.aload_n 0, 1) := by decide +kernel
theorem dX9_turnRound_21 : decode cX9_turnRound 21 = .ok (.getfield 56, 3) := by decide +kernel
theorem dX9_turnRound_24 : decode cX9_turnRound 24 = .ok (.aload_n 0, 1) := by decide +kernel
theorem dX9_turnRound_25 : decode cX9_turnRound 25 = .ok (.getfield 19, 3) := by decide +kernel
theorem dX9_turnRound_28 : decode cX9_turnRound 28 = .ok (.aload_n 0, 1) := by decide +kernel
theorem dX9_turnRound_29 : decode cX9_turnRound 29 = .ok (.getfield 10, 3) := by decide +kernel
theorem dX9_turnRound_32 : decode cX9_turnRound 32 = .ok (.getfield 115, 3) := by decide +kernel
theorem dX9_turnRound_35 : decode cX9_turnRound 35 = .ok (.iconst (-1), 1) := by decide +kernel
theorem dX9_turnRound_36 : decode cX9_turnRound 36 = .ok (.iconst 0, 1) := by decide +kernel
theorem dX9_turnRound_37 : decode cX9_turnRound 37 = .ok (.invokevirtual 274, 3) := by decide +kernel
theorem dX9_turnRound_40 : decode cX9_turnRound 40 = .ok (.aload_n 0, 1) := by decide +kernel
theorem dX9_turnRound_41 : decode cX9_turnRound 41 = .ok (.getfield 19, 3) := by decide +kernel
theorem dX9_turnRound_44 : decode cX9_turnRound 44 = .ok (.invokevirtual 146, 3) := by decide +kernel
theorem dX9_turnRound_47 : decode cX9_turnRound 47 = .ok (.iconst 1, 1) := by decide +kernel
theorem dX9_turnRound_48 : decode cX9_turnRound 48 = .ok (.ireturn, 1) := by decide +kernel
set_option maxRecDepth 20000 in
theorem ggX9_louder_X9_isFresh : GoodIn wsX9_louder wsX9_isFresh := goodIn_r _ [11, 1, 12, 13, 62, 63, 64, 65, 66, 67, 68, 69, 70, 71, 72, 73, 74, 75, 76, 77, 78, 79, 80, 91, 92, 93, 94, 95, 96, 97, 98] (by decide +kernel) (by decide +kernel)
set_option maxRecDepth 20000 in
theorem gX9_louder_X9_isFresh : GoodIn wsX9_louder (wsV RX9 261 RX9 yX9_isFresh wsX9_isFresh) := goodIn_app (goodIn_of _ (by decide +kernel)) ggX9_louder_X9_isFresh
set_option maxRecDepth 20000 in
theorem ggX9_louder_X7_greatest : GoodIn wsX9_louder wsX7_greatest := goodIn_r _ [18, 19, 20, 21, 22, 23, 24, 25, 26, 27, 91, 92, 93, 94, 95, 96, 97, 98] (by decide +kernel) (by decide +kernel)
set_option maxRecDepth 20000 in
theorem gX9_louder_X7_greatest : GoodIn wsX9_louder (wsV RX9 212 RX7 yX7_greatest wsX7_greatest) := goodIn_app (goodIn_of _ (by decide +kernel)) ggX9_louder_X7_greatest
set_option maxRecDepth 20000 in
theorem ggX9_louder_X9_isInWord : GoodIn wsX9_louder wsX9_isInWord := goodIn_r _ [31, 2, 32, 62, 63, 64, 65, 66, 67, 68, 69, 70, 71, 72, 73, 74, 75, 76, 77, 78, 79, 80, 81, 82, 83, 84, 85, 86, 87, 88, 89, 90] (by decide +kernel) (by decide +kernel)
set_option maxRecDepth 20000 in
theorem gX9_louder_X9_isInWord : GoodIn wsX9_louder (wsV RX9 257 RX9 yX9_isInWord wsX9_isInWord) := goodIn_app (goodIn_of _ (by decide +kernel)) ggX9_louder_X9_isInWord
set_option maxRecDepth 20000 in
theorem ggX9_louder_X3_remember : GoodIn wsX9_louder wsX3_remember := goodIn_r _ [37, 38, 39, 40, 41, 42, 22, 43, 44, 45, 46, 17, 47, 19, 48, 49, 50, 51, 24, 52, 53, 54, 55, 56, 57, 99, 100, 101, 91, 92, 93, 94, 95, 96, 97, 98] (by decide +kernel) (by decide +kernel)
set_option maxRecDepth 20000 in
theorem gX9_louder_X3_remember : GoodIn wsX9_louder (wsV RX9 265 RX3 yX3_remember wsX3_remember) := goodIn_app (goodIn_of _ (by decide +kernel)) ggX9_louder_X3_remember
set_option maxRecDepth 20000 in
theorem ggX9_louder_X7_settle : GoodIn wsX9_louder wsX7_settle := goodIn_r _ [61, 19, 52, 48, 49, 50, 51, 24, 53, 91, 92, 93, 94, 95, 96, 97, 98] (by decide +kernel) (by decide +kernel)
set_option maxRecDepth 20000 in
theorem gX9_louder_X7_settle : GoodIn wsX9_louder (wsV RX9 146 RX7 yX7_settle wsX7_settle) := goodIn_app (goodIn_of _ (by decide +kernel)) ggX9_louder_X7_settle
theorem dX9_louder_0 : decode cX9_louder 0 = .ok (.iload_n 1, 1) := by decide +kernel
theorem dX9_louder_1 : decode cX9_louder 1 = .ok (.iconst 2, 1) := by decide +kernel
theorem dX9_louder_2 : decode cX9_louder 2 = .ok (.if_icmp .lt 42, 3) := by decide +kernel
theorem dX9_louder_5 : decode cX9_louder 5 = .ok (.iload_n 1, 1) := by decide +kernel
theorem dX9_louder_6 : decode cX9_louder 6 = .ok (.bipush 9, 2) := by decide +kernel
theorem dX9_louder_8 : decode cX9_louder 8 = .ok (.if_icmp .gt 36, 3) := by decide +kernel
theorem dX9_louder_11 : decode cX9_louder 11 = .ok (.aload_n 0, 1) := by decide +kernel
theorem dX9_louder_12 : decode cX9_louder 12 = .ok (.invokevirtual 261, 3) := by decide +kernel
theorem dX9_louder_15 : decode cX9_louder 15 = .ok (.ifCond .eq 29, 3) := by decide +kernel
theorem dX9_louder_18 : decode cX9_louder 18 = .ok (.aload_n 0, 1) := by decide +kernel
theorem dX9_louder_19 : decode cX9_louder 19 = .ok (.aload_n 0, 1) := by decide +kernel
theorem dX9_louder_20 : decode cX9_louder 20 = .ok (.getfield 19, 3) := by decide +kernel
theorem dX9_louder_23 : decode cX9_louder 23 = .ok (.iconst 0, 1) := by decide +kernel
theorem dX9_louder_24 : decode cX9_louder 24 = .ok (.aload_n 0, 1) := by decide +kernel
theorem dX9_louder_25 : decode cX9_louder 25 = .ok (.getfield 10, 3) := by decide +kernel
theorem dX9_louder_28 : decode cX9_louder 28 = .ok (.getfield 115, 3) := by decide +kernel
theorem dX9_louder_31 : decode cX9_louder 31 = .ok (.invokevirtual 212, 3) := by decide +kernel
theorem dX9_louder_34 : decode cX9_louder 34 = .ok (.i2l, 1) := by decide +kernel
theorem dX9_louder_35 : decode cX9_louder 35 = .ok (.iload_n 1, 1) := by decide +kernel
theorem dX9_louder_36 : decode cX9_louder 36 = .ok (.i2l, 1) := by decide +kernel
theorem dX9_louder_37 : decode cX9_louder 37 = .ok (.lmul, 1) := by decide +kernel
theorem dX9_louder_38 : decode cX9_louder 38 = .ok (.invokevirtual 257, 3) := by decide +kernel
theorem dX9_louder_41 : decode cX9_louder 41 = .ok (.ifCond .ne 5, 3) := by decide +kernel
theorem dX9_louder_44 : decode cX9_louder 44 = .ok (.iconst 0, 1) := by decide +kernel
theorem dX9_louder_45 : decode cX9_louder 45 = .ok (.ireturn, 1) := by decide +kernel
theorem dX9_louder_46 : decode cX9_louder 46 = .ok (.aload_n 0, 1) := by decide +kernel
theorem dX9_louder_47 : decode cX9_louder 47 = .ok (.getfield 26, 3) := by decide +kernel
theorem dX9_louder_50 : decode cX9_louder 50 = .ok (.aload_n 0, 1) := by decide +kernel
theorem dX9_louder_51 : decode cX9_louder 51 = .ok (.getfield 19, 3) := by decide +kernel
theorem dX9_louder_54 : decode cX9_louder 54 = .ok (.invokevirtual 265, 3) := by decide +kernel
theorem dX9_louder_57 : decode cX9_louder 57 = .ok (.iconst 0, 1) := by decide +kernel
theorem dX9_louder_58 : decode cX9_louder 58 = .ok (.istore_n 2, 1) := by decide +kernel
theorem dX9_louder_59 : decode cX9_louder 59 = .ok (.iload_n 2, 1) := by decide +kernel
theorem dX9_louder_60 : decode cX9_louder 60 = .ok (.aload_n 0, 1) := by decide +kernel
theorem dX9_louder_61 : decode cX9_louder 61 = .ok (.getfield 10, 3) := by decide +kernel
theorem dX9_louder_64 : decode cX9_louder 64 = .ok (.getfield 115, 3) := by decide +kernel
theorem dX9_louder_67 : decode cX9_louder 67 = .ok (.if_icmp .ge 35, 3) := by decide +kernel
theorem dX9_louder_70 : decode cX9_louder 70 = .ok (.aload_n 0, 1) := by decide +kernel
theorem dX9_louder_71 : decode cX9_louder 71 = .ok (.getfield 19, 3) := by decide +kernel
theorem dX9_louder_74 : decode cX9_louder 74 = .ok (.getfield 175, 3) := by decide +kernel
theorem dX9_louder_77 : decode cX9_louder 77 = .ok (.iload_n 2, 1) := by decide +kernel
theorem dX9_louder_78 : decode cX9_louder 78 = .ok (.dup2, 1) := by decide +kernel
theorem dX9_louder_79 : decode cX9_louder 79 = .ok (.iaload, 1) := by decide +kernel
theorem dX9_louder_80 : decode cX9_louder 80 = .ok (.iload_n 1, 1) := by decide +kernel
theorem dX9_louder_81 : decode cX9_louder 81 = .ok (.imul, 1) := by decide +kernel
theorem dX9_louder_82 : decode cX9_louder 82 = .ok (.iastore, 1) := by decide +kernel
theorem dX9_louder_83 : decode cX9_louder 83 = .ok (.aload_n 0, 1) := by decide +kernel
theorem dX9_louder_84 : decode cX9_louder 84 = .ok (.getfield 19, 3) := by decide +kernel
theorem dX9_louder_87 : decode cX9_louder 87 = .ok (.getfield 176, 3) := by decide +kernel
theorem dX9_louder_90 : decode cX9_louder 90 = .ok (.iload_n 2, 1) := by decide +kernel
theorem dX9_louder_91 : decode cX9_louder 91 = .ok (.dup2, 1) := by decide +kernel
theorem dX9_louder_92 : decode cX9_louder 92 = .ok (.iaload, 1) := by decide +kernel
theorem dX9_louder_93 : decode cX9_louder 93 = .ok (.iload_n 1, 1) := by decide +kernel
theorem dX9_louder_94 : decode cX9_louder 94 = .ok (.imul, 1) := by decide +kernel
theorem dX9_louder_95 : decode cX9_louder 95 = .ok (.iastore, 1) := by decide +kernel
theorem dX9_louder_96 : decode cX9_louder 96 = .ok (.iinc 2 1, 3) := by decide +kernel
theorem dX9_louder_99 : decode cX9_louder 99 = .ok (.goto (-40), 3) := by decide +kernel
theorem dX9_louder_102 : decode cX9_louder 102 = .ok (.aload_n 0, 1) := by decide +kernel
theorem dX9_louder_103 : decode cX9_louder 103 = .ok (.getfield 19, 3) := by decide +kernel
theorem dX9_louder_106 : decode cX9_louder 106 = .ok (.invokevirtual 146, 3) := by decide +kernel
theorem dX9_louder_109 : decode cX9_louder 109 = .ok (.iconst 1, 1) := by decide +kernel
theorem dX9_louder_110 : decode cX9_louder 110 = .ok (.ireturn, 1) := by decide +kernel
theorem dX9_isDoneForward_0 : decode cX9_isDoneForward 0 = .ok (.aload_n 0, 1) := by decide +kernel
theorem dX9_isDoneForward_1 : decode cX9_isDoneForward 1 = .ok (.getfield 19, 3) := by decide +kernel
theorem dX9_isDoneForward_4 : decode cX9_isDoneForward 4 = .ok (.getfield 241, 3) := by decide +kernel
theorem dX9_isDoneForward_7 : decode cX9_isDoneForward 7 = .ok (.ifCond .ne 24, 3) := by decide +kernel
theorem dX9_isDoneForward_10 : decode cX9_isDoneForward 10 = .ok (.aload_n 0, 1) := by decide +kernel
theorem dX9_isDoneForward_11 : decode cX9_isDoneForward 11 = .ok (.getfield 19, 3) := by decide +kernel
theorem dX9_isDoneForward_14 : decode cX9_isDoneForward 14 = .ok (.getfield 206, 3) := by decide +kernel
theorem dX9_isDoneForward_17 : decode cX9_isDoneForward 17 = .ok (.aload_n 0, 1) := by decide +kernel
theorem dX9_isDoneForward_18 : decode cX9_isDoneForward 18 = .ok (.getfield 10, 3) := by decide +kernel
theorem dX9_isDoneForward_21 : decode cX9_isDoneForward 21 = .ok (.getfield 196, 3) := by decide +kernel
theorem dX9_isDoneForward_24 : decode cX9_isDoneForward 24 = .ok (.if_icmp .lt 7, 3) := by decide +kernel
theorem dX9_isDoneForward_27 : decode cX9_isDoneForward 27 = .ok (.iconst 1, 1) := by decide +kernel
theorem dX9_isDoneForward_28 : decode cX9_isDoneForward 28 = .ok (.goto 4, 3) := by decide +kernel
theorem dX9_isDoneForward_31 : decode cX9_isDoneForward 31 = .ok (.iconst 0, 1) := by decide +kernel
theorem dX9_isDoneForward_32 : decode cX9_isDoneForward 32 = .ok (.ireturn, 1) := by decide +kernel
set_option maxRecDepth 20000 in
theorem ggX9_beat_X3_remember : GoodIn wsX9_beat wsX3_remember := goodIn_r _ [11, 12, 13, 14, 15, 16, 17, 18, 19, 20, 21, 22, 23, 24, 25, 26, 27, 28, 29, 30, 31, 32, 33, 34, 35, 163, 164, 165, 145, 146, 147, 148, 149, 150, 151, 152] (by decide +kernel) (by decide +kernel)
set_option maxRecDepth 20000 in
theorem gX9_beat_X3_remember : GoodIn wsX9_beat (wsV RX9 265 RX3 yX3_remember wsX3_remember) := goodIn_app (goodIn_of _ (by decide +kernel)) ggX9_beat_X3_remember
set_option maxRecDepth 20000 in
theorem ggX9_beat_X0_doStage : GoodIn wsX9_beat wsX0_doStage := goodIn_r _ [40, 41, 42, 43, 44, 45, 46, 47, 48, 49, 50, 51, 39, 52, 53, 54, 55, 56, 57, 58, 59, 60, 61, 62, 63, 64, 65, 66, 67, 68, 26, 27, 28, 69, 70, 71, 72, 73, 74, 75, 76, 77, 78, 79, 80, 81, 82, 83, 22, 84, 24, 85, 86, 17, 87, 29, 88, 89, 90, 91, 92, 93, 94, 95, 96, 97, 98, 99, 100, 101, 102, 103, 104, 105, 106, 107, 108, 109, 110, 111, 112, 113, 114, 115, 116, 117, 118, 119, 120, 121, 122, 123, 124, 125, 145, 146, 147, 148, 149, 150, 151, 152, 153, 154, 155, 156, 157, 158, 159, 160, 161, 162, 166, 167, 168, 169, 170, 171, 172] (by decide +kernel) (by decide +kernel)
set_option maxRecDepth 20000 in
theorem gX9_beat_X0_doStage : GoodIn wsX9_beat (wsV RX9 278 RX0 yX0_doStage wsX0_doStage) := goodIn_app (goodIn_of _ (by decide +kernel)) ggX9_beat_X0_doStage
theorem dX9_beat_0 : decode cX9_beat 0 = .ok (.aload_n 0, 1) := by decide +kernel
theorem dX9_beat_1 : decode cX9_beat 1 = .ok (.getfield 19, 3) := by decide +kernel
theorem dX9_beat_4 : decode cX9_beat 4 = .ok (.getfield 206, 3) := by decide +kernel
theorem dX9_beat_7 : decode cX9_beat 7 = .ok (.aload_n 0, 1) := by decide +kernel
theorem dX9_beat_8 : decode cX9_beat 8 = .ok (.getfield 10, 3) := by decide +kernel
theorem dX9_beat_11 : decode cX9_beat 11 = .ok (.getfield 196, 3) := by decide +kernel
theorem dX9_beat_14 : decode cX9_beat 14 = .ok (.if_icmp .lt 6, 3) := by decide +kernel
theorem dX9_beat_17 : decode cX9_beat 17 = .ok (.bipush (-2), 2) := by decide +kernel
theorem dX9_beat_19 : decode cX9_beat 19 = .ok (.ireturn, 1) := by decide +kernel
theorem dX9_beat_20 : decode cX9_beat 20 = .ok (.aload_n 0, 1) := by decide +kernel
theorem dX9_beat_21 : decode cX9_beat 21 = .ok (.getfield 26, 3) := by decide +kernel
theorem dX9_beat_24 : decode cX9_beat 24 = .ok (.aload_n 0, 1) := by decide +kernel
theorem dX9_beat_25 : decode cX9_beat 25 = .ok (.getfield 19, 3) := by decide +kernel
theorem dX9_beat_28 : decode cX9_beat 28 = .ok (.invokevirtual 265, 3) := by decide +kernel
theorem dX9_beat_31 : decode cX9_beat 31 = .ok (.aload_n 0, 1) := by decide +kernel
theorem dX9_beat_32 : decode cX9_beat 32 = .ok (.getfield 56, 3) := by decide +kernel
theorem dX9_beat_35 : decode cX9_beat 35 = .ok (.aload_n 0, 1) := by decide +kernel
theorem dX9_beat_36 : decode cX9_beat 36 = .ok (.getfield 19, 3) := by decide +kernel
theorem dX9_beat_39 : decode cX9_beat 39 = .ok (.aload_n 0, 1) := by decide +kernel
theorem dX9_beat_40 : decode cX9_beat 40 = .ok (.getfield 10, 3) := by decide +kernel
theorem dX9_beat_43 : decode cX9_beat 43 = .ok (.iconst 1, 1) := by decide +kernel
theorem dX9_beat_44 : decode cX9_beat 44 = .ok (.invokevirtual 278, 3) := by decide +kernel
theorem dX9_beat_47 : decode cX9_beat 47 = .ok (.ireturn, 1) := by decide +kernel
set_option maxRecDepth 20000 in
theorem ggX9_beatAll_X0_doStages : GoodIn wsX9_beatAll wsX0_doStages := goodIn_r _ [10, 11, 12, 13, 14, 15, 9, 16, 17, 18, 19, 20, 21, 22, 23, 24, 25, 26, 27, 28, 29, 30, 31, 32, 33, 34, 35, 36, 37, 38, 39, 40, 41, 42, 43, 44, 45, 46, 47, 48, 49, 50, 51, 52, 53, 54, 55, 56, 57, 58, 59, 60, 61, 62, 63, 64, 65, 66, 67, 68, 69, 70, 71, 72, 73, 74, 75, 76, 77, 78, 79, 80, 81, 82, 83, 84, 85, 86, 87, 88, 89, 90, 91, 92, 93, 94, 95, 96, 97, 98, 99, 100, 101, 102, 103, 104, 105, 106, 132, 133, 134, 135, 136, 137, 138, 139, 140, 141, 142, 143, 144, 145, 146, 147, 148, 149, 150, 151, 152, 153, 154, 155, 156] (by decide +kernel) (by decide +kernel)
set_option maxRecDepth 20000 in
theorem gX9_beatAll_X0_doStages : GoodIn wsX9_beatAll (wsV RX9 282 RX0 yX0_doStages wsX0_doStages) := goodIn_app (goodIn_of _ (by decide +kernel)) ggX9_beatAll_X0_doStages
set_option maxRecDepth 20000 in
theorem ggX9_beatAll_X3_forgetAll : GoodIn wsX9_beatAll wsX3_forgetAll := goodIn_r _ [111, 112, 157, 158, 159] (by decide +kernel) (by decide +kernel)
set_option maxRecDepth 20000 in
theorem gX9_beatAll_X3_forgetAll : GoodIn wsX9_beatAll (wsV RX9 152 RX3 yX3_forgetAll wsX3_forgetAll) := goodIn_app (goodIn_of _ (by decide +kernel)) ggX9_beatAll_X3_forgetAll
theorem dX9_beatAll_0 : decode cX9_beatAll 0 = .ok (.aload_n 0, 1) := by decide +kernel
theorem dX9_beatAll_1 : decode cX9_beatAll 1 = .ok (.getfield 56, 3) := by decide +kernel
theorem dX9_beatAll_4 : decode cX9_beatAll 4 = .ok (.aload_n 0, 1) := by decide +kernel
theorem dX9_beatAll_5 : decode cX9_beatAll 5 = .ok (.getfield 19, 3) := by decide +kernel
theorem dX9_beatAll_8 : decode cX9_beatAll 8 = .ok (.aload_n 0, 1) := by decide +kernel
theorem dX9_beatAll_9 : decode cX9_beatAll 9 = .ok (.getfield 10, 3) := by decide +kernel
theorem dX9_beatAll_12 : decode cX9_beatAll 12 = .ok (.iconst 5, 1) := by decide +kernel
theorem dX9_beatAll_13 : decode cX9_beatAll 13 = .ok (.iconst 1, 1) := by decide +kernel
theorem dX9_beatAll_14 : decode cX9_beatAll 14 = .ok (.invokevirtual 282, 3) := by decide +kernel
theorem dX9_beatAll_17 : decode cX9_beatAll 17 = .ok (.pop, 1) := by decide +kernel
theorem dX9_beatAll_18 : decode cX9_beatAll 18 = .ok (.aload_n 0, 1) := by decide +kernel
theorem dX9_beatAll_19 : decode cX9_beatAll 19 = .ok (.getfield 26, 3) := by decide +kernel
theorem dX9_beatAll_22 : decode cX9_beatAll 22 = .ok (.invokevirtual 152, 3) := by decide +kernel
theorem dX9_beatAll_25 : decode cX9_beatAll 25 = .ok (.aload_n 0, 1) := by decide +kernel
theorem dX9_beatAll_26 : decode cX9_beatAll 26 = .ok (.getfield 19, 3) := by decide +kernel
theorem dX9_beatAll_29 : decode cX9_beatAll 29 = .ok (.getfield 244, 3) := by decide +kernel
theorem dX9_beatAll_32 : decode cX9_beatAll 32 = .ok (.ireturn, 1) := by decide +kernel
set_option maxRecDepth 20000 in
theorem ggX9_turnBack_X9_isDoneForward : GoodIn wsX9_turnBack wsX9_isDoneForward := goodIn_r _ [9, 2, 10, 11, 3, 12, 50, 51, 52, 53, 54, 55, 56, 57, 58, 59, 60, 61, 62, 63, 64, 65, 66, 67, 68, 79, 80, 81, 82, 83, 84, 85, 86, 69, 70, 71, 72, 73, 74, 75, 76, 77, 78] (by decide +kernel) (by decide +kernel)
set_option maxRecDepth 20000 in
theorem gX9_turnBack_X9_isDoneForward : GoodIn wsX9_turnBack (wsV RX9 286 RX9 yX9_isDoneForward wsX9_isDoneForward) := goodIn_app (goodIn_of _ (by decide +kernel)) ggX9_turnBack_X9_isDoneForward
set_option maxRecDepth 20000 in
theorem ggX9_turnBack_X3_remember : GoodIn wsX9_turnBack wsX3_remember := goodIn_r _ [17, 18, 19, 20, 21, 22, 23, 24, 25, 26, 27, 28, 29, 30, 31, 32, 33, 34, 35, 36, 37, 38, 39, 40, 41, 87, 88, 89, 79, 80, 81, 82, 83, 84, 85, 86] (by decide +kernel) (by decide +kernel)
set_option maxRecDepth 20000 in
theorem gX9_turnBack_X3_remember : GoodIn wsX9_turnBack (wsV RX9 265 RX3 yX3_remember wsX3_remember) := goodIn_app (goodIn_of _ (by decide +kernel)) ggX9_turnBack_X3_remember
set_option maxRecDepth 20000 in
theorem ggX9_turnBack_X7_goBack : GoodIn wsX9_turnBack wsX7_goBack := goodIn_r _ [45, 41, 40, 46, 47, 48, 28, 49, 35, 79, 80, 81, 82, 83, 84, 85, 86] (by decide +kernel) (by decide +kernel)
set_option maxRecDepth 20000 in
theorem gX9_turnBack_X7_goBack : GoodIn wsX9_turnBack (wsV RX9 289 RX7 yX7_goBack wsX7_goBack) := goodIn_app (goodIn_of _ (by decide +kernel)) ggX9_turnBack_X7_goBack
theorem dX9_turnBack_0 : decode cX9_turnBack 0 = .ok (.aload_n 0, 1) := by decide +kernel
theorem dX9_turnBack_1 : decode cX9_turnBack 1 = .ok (.invokevirtual 286, 3) := by decide +kernel
theorem dX9_turnBack_4 : decode cX9_turnBack 4 = .ok (.ifCond .ne 5, 3) := by decide +kernel
theorem dX9_turnBack_7 : decode cX9_turnBack 7 = .ok (.iconst 0, 1) := by decide +kernel
theorem dX9_turnBack_8 : decode cX9_turnBack 8 = .ok (.ireturn, 1) := by decide +kernel
theorem dX9_turnBack_9 : decode cX9_turnBack 9 = .ok (.aload_n 0, 1) := by decide +kernel
theorem dX9_turnBack_10 : decode cX9_turnBack 10 = .ok (.getfield 26, 3) := by decide +kernel
theorem dX9_turnBack_13 : decode cX9_turnBack 13 = .ok (.aload_n 0, 1) := by decide +kernel
theorem dX9_turnBack_14 : decode cX9_turnBack 14 = .ok (.getfield 19, 3) := by decide +kernel
theorem dX9_turnBack_17 : decode cX9_turnBack 17 = .ok (.invokevirtual 265, 3) := by decide +kernel
theorem dX9_turnBack_20 : decode cX9_turnBack 20 = .ok (.aload_n 0, 1) := by decide +kernel
theorem dX9_turnBack_21 : decode cX9_turnBack 21 = .ok (.getfield 19, 3) := by decide +kernel
theorem dX9_turnBack_24 : decode cX9_turnBack 24 = .ok (.aload_n 0, 1) := by decide +kernel
theorem dX9_turnBack_25 : decode cX9_turnBack 25 = .ok (.getfield 10, 3) := by decide +kernel
theorem dX9_turnBack_28 : decode cX9_turnBack 28 = .ok (.getfield 115, 3) := by decide +kernel
theorem dX9_turnBack_31 : decode cX9_turnBack 31 = .ok (.invokevirtual 289, 3) := by decide +kernel
theorem dX9_turnBack_34 : decode cX9_turnBack 34 = .ok (.iconst 1, 1) := by decide +kernel
theorem dX9_turnBack_35 : decode cX9_turnBack 35 = .ok (.ireturn, 1) := by decide +kernel
set_option maxRecDepth 20000 in
theorem ggX9_ahead_X7_goOnFrom : GoodIn wsX9_ahead wsX7_goOnFrom := goodIn_r _ [11, 12, 13, 14, 15, 16, 17, 18, 19, 10, 20, 21, 22, 23, 24, 140, 141, 142, 143, 144, 145, 146, 147] (by decide +kernel) (by decide +kernel)
set_option maxRecDepth 20000 in
theorem gX9_ahead_X7_goOnFrom : GoodIn wsX9_ahead (wsV RX9 292 RX7 yX7_goOnFrom wsX7_goOnFrom) := goodIn_app (goodIn_of _ (by decide +kernel)) ggX9_ahead_X7_goOnFrom
set_option maxRecDepth 20000 in
theorem ggX9_ahead_X0_doStages : GoodIn wsX9_ahead wsX0_doStages := goodIn_r _ [29, 30, 31, 32, 33, 34, 28, 35, 36, 37, 38, 39, 40, 41, 42, 43, 44, 45, 46, 47, 48, 49, 50, 51, 52, 53, 54, 55, 56, 57, 58, 59, 60, 61, 22, 23, 24, 62, 63, 64, 65, 66, 67, 68, 69, 70, 71, 72, 73, 74, 75, 76, 10, 77, 12, 78, 79, 80, 81, 13, 82, 83, 84, 85, 86, 87, 88, 89, 90, 91, 92, 93, 94, 95, 96, 97, 98, 99, 100, 101, 102, 103, 104, 105, 106, 107, 108, 109, 110, 111, 112, 113, 114, 115, 116, 117, 118, 119, 140, 141, 142, 143, 144, 145, 146, 147, 148, 149, 150, 151, 152, 153, 154, 155, 156, 157, 158, 159, 160, 161, 162, 163, 164] (by decide +kernel) (by decide +kernel)
set_option maxRecDepth 20000 in
theorem gX9_ahead_X0_doStages : GoodIn wsX9_ahead (wsV RX9 282 RX0 yX0_doStages wsX0_doStages) := goodIn_app (goodIn_of _ (by decide +kernel)) ggX9_ahead_X0_doStages
set_option maxRecDepth 20000 in
theorem ggX9_ahead_X7_greatest : GoodIn wsX9_ahead wsX7_greatest := goodIn_r _ [77, 12, 78, 79, 80, 81, 13, 82, 83, 84, 140, 141, 142, 143, 144, 145, 146, 147] (by decide +kernel) (by decide +kernel)
set_option maxRecDepth 20000 in
theorem gX9_ahead_X7_greatest : GoodIn wsX9_ahead (wsV RX9 212 RX7 yX7_greatest wsX7_greatest) := goodIn_app (goodIn_of _ (by decide +kernel)) ggX9_ahead_X7_greatest
theorem dX9_ahead_0 : decode cX9_ahead 0 = .ok (.iload_n 1, 1) := by decide +kernel
theorem dX9_ahead_1 : decode cX9_ahead 1 = .ok (.ifCond .lt 17, 3) := by decide +kernel
theorem dX9_ahead_4 : decode cX9_ahead 4 = .ok (.iload_n 1, 1) := by decide +kernel
theorem dX9_ahead_5 : decode cX9_ahead 5 = .ok (.iconst 5, 1) := by decide +kernel
theorem dX9_ahead_6 : decode cX9_ahead 6 = .ok (.if_icmp .gt 12, 3) := by decide +kernel
theorem dX9_ahead_9 : decode cX9_ahead 9 = .ok (.iload_n 2, 1) := by decide +kernel
theorem dX9_ahead_10 : decode cX9_ahead 10 = .ok (.ifCond .lt 8, 3) := by decide +kernel
theorem dX9_ahead_13 : decode cX9_ahead 13 = .ok (.iload_n 2, 1) := by decide +kernel
theorem dX9_ahead_14 : decode cX9_ahead 14 = .ok (.iconst 2, 1) := by decide +kernel
theorem dX9_ahead_15 : decode cX9_ahead 15 = .ok (.if_icmp .le 5, 3) := by decide +kernel
theorem dX9_ahead_18 : decode cX9_ahead 18 = .ok (.iconst (-1), 1) := by decide +kernel
theorem dX9_ahead_19 : decode cX9_ahead 19 = .ok (.ireturn, 1) := by decide +kernel
theorem dX9_ahead_20 : decode cX9_ahead 20 = .ok (.aload_n 0, 1) := by decide +kernel
theorem dX9_ahead_21 : decode cX9_ahead 21 = .ok (.getfield 77, 3) := by decide +kernel
theorem dX9_ahead_24 : decode cX9_ahead 24 = .ok (.aload_n 0, 1) := by decide +kernel
theorem dX9_ahead_25 : decode cX9_ahead 25 = .ok (.getfield 19, 3) := by decide +kernel
theorem dX9_ahead_28 : decode cX9_ahead 28 = .ok (.invokevirtual 292, 3) := by decide +kernel
theorem dX9_ahead_31 : decode cX9_ahead 31 = .ok (.aload_n 0, 1) := by decide +kernel
theorem dX9_ahead_32 : decode cX9_ahead 32 = .ok (.getfield 56, 3) := by decide +kernel
theorem dX9_ahead_35 : decode cX9_ahead 35 = .ok (.aload_n 0, 1) := by decide +kernel
theorem dX9_ahead_36 : decode cX9_ahead 36 = .ok (.getfield 77, 3) := by decide +kernel
theorem dX9_ahead_39 : decode cX9_ahead 39 = .ok (.aload_n 0, 1) := by decide +kernel
theorem dX9_ahead_40 : decode cX9_ahead 40 = .ok (.getfield 10, 3) := by decide +kernel
theorem dX9_ahead_43 : decode cX9_ahead 43 = .ok (.iload_n 1, 1) := by decide +kernel
theorem dX9_ahead_44 : decode cX9_ahead 44 = .ok (.iconst 1, 1) := by decide +kernel
theorem dX9_ahead_45 : decode cX9_ahead 45 = .ok (.invokevirtual 282, 3) := by decide +kernel
theorem dX9_ahead_48 : decode cX9_ahead 48 = .ok (.istore_n 3, 1) := by decide +kernel
theorem dX9_ahead_49 : decode cX9_ahead 49 = .ok (.iload_n 2, 1) := by decide +kernel
theorem dX9_ahead_50 : decode cX9_ahead 50 = .ok (.ifCond .ne 11, 3) := by decide +kernel
theorem dX9_ahead_53 : decode cX9_ahead 53 = .ok (.aload_n 0, 1) := by decide +kernel
theorem dX9_ahead_54 : decode cX9_ahead 54 = .ok (.getfield 77, 3) := by decide +kernel
theorem dX9_ahead_57 : decode cX9_ahead 57 = .ok (.getfield 244, 3) := by decide +kernel
theorem dX9_ahead_60 : decode cX9_ahead 60 = .ok (.ireturn, 1) := by decide +kernel
theorem dX9_ahead_61 : decode cX9_ahead 61 = .ok (.iload_n 2, 1) := by decide +kernel
theorem dX9_ahead_62 : decode cX9_ahead 62 = .ok (.iconst 1, 1) := by decide +kernel
theorem dX9_ahead_63 : decode cX9_ahead 63 = .ok (.if_icmp .ne 21, 3) := by decide +kernel
theorem dX9_ahead_66 : decode cX9_ahead 66 = .ok (.aload_n 0, 1) := by decide +kernel
theorem dX9_ahead_67 : decode cX9_ahead 67 = .ok (.getfield 77, 3) := by decide +kernel
theorem dX9_ahead_70 : decode cX9_ahead 70 = .ok (.iconst 0, 1) := by decide +kernel
theorem dX9_ahead_71 : decode cX9_ahead 71 = .ok (.aload_n 0, 1) := by decide +kernel
theorem dX9_ahead_72 : decode cX9_ahead 72 = .ok (.getfield 10, 3) := by decide +kernel
theorem dX9_ahead_75 : decode cX9_ahead 75 = .ok (.getfield 115, 3) := by decide +kernel
theorem dX9_ahead_78 : decode cX9_ahead 78 = .ok (.invokevirtual 212, 3) := by decide +kernel
theorem dX9_ahead_81 : decode cX9_ahead 81 = .ok (.goto 4, 3) := by decide +kernel
theorem dX9_ahead_84 : decode cX9_ahead 84 = .ok (.iload_n 3, 1) := by decide +kernel
theorem dX9_ahead_85 : decode cX9_ahead 85 = .ok (.ireturn, 1) := by decide +kernel
set_option maxRecDepth 20000 in
theorem ggX9_expWithBits_X8_copyFrom : GoodIn wsX9_expWithBits wsX8_copyFrom := goodIn_r _ [10, 11, 12, 13, 14, 15, 16, 17, 18, 19, 20, 9, 21, 22, 23, 24, 25, 26, 27, 28, 29, 30, 31, 32, 163, 164, 165, 166, 167, 168, 169, 170, 171, 172] (by decide +kernel) (by decide +kernel)
set_option maxRecDepth 20000 in
theorem gX9_expWithBits_X8_copyFrom : GoodIn wsX9_expWithBits (wsV RX9 132 RX8 yX8_copyFrom wsX8_copyFrom) := goodIn_app (goodIn_of _ (by decide +kernel)) ggX9_expWithBits_X8_copyFrom
set_option maxRecDepth 20000 in
theorem ggX9_expWithBits_X8_takeBits : GoodIn wsX9_expWithBits wsX8_takeBits := goodIn_r _ [21, 13, 22, 163, 164, 165, 166, 167, 168, 169, 170, 171, 172] (by decide +kernel) (by decide +kernel)
set_option maxRecDepth 20000 in
theorem gX9_expWithBits_X8_takeBits : GoodIn wsX9_expWithBits (wsV RX9 295 RX8 yX8_takeBits wsX8_takeBits) := goodIn_app (goodIn_of _ (by decide +kernel)) ggX9_expWithBits_X8_takeBits
set_option maxRecDepth 20000 in
theorem ggX9_expWithBits_X7_restartFrom : GoodIn wsX9_expWithBits wsX7_restartFrom := goodIn_r _ [38, 39, 40, 41, 42, 43, 37, 44, 45, 46, 47, 48, 49, 50, 51, 52, 53, 173, 174, 175, 176, 177, 178, 179, 180] (by decide +kernel) (by decide +kernel)
set_option maxRecDepth 20000 in
theorem gX9_expWithBits_X7_restartFrom : GoodIn wsX9_expWithBits (wsV RX9 298 RX7 yX7_restartFrom wsX7_restartFrom) := goodIn_app (goodIn_of _ (by decide +kernel)) ggX9_expWithBits_X7_restartFrom
set_option maxRecDepth 20000 in
theorem ggX9_expWithBits_X0_doStages : GoodIn wsX9_expWithBits wsX0_doStages := goodIn_r _ [58, 59, 60, 61, 62, 63, 57, 64, 65, 66, 67, 68, 69, 70, 71, 72, 73, 74, 75, 76, 77, 78, 79, 80, 81, 9, 82, 27, 32, 83, 84, 85, 86, 87, 47, 48, 49, 88, 89, 90, 91, 17, 92, 93, 94, 95, 96, 97, 98, 99, 100, 101, 37, 102, 45, 103, 104, 105, 106, 50, 107, 108, 109, 110, 111, 112, 113, 114, 115, 116, 117, 118, 119, 120, 121, 122, 123, 124, 125, 126, 127, 128, 129, 130, 131, 14, 132, 133, 134, 135, 136, 137, 138, 139, 140, 141, 142, 143, 173, 174, 175, 176, 177, 178, 179, 180, 163, 164, 165, 166, 167, 168, 169, 170, 171, 172, 181, 182, 183, 184, 185, 186, 187] (by decide +kernel) (by decide +kernel)
set_option maxRecDepth 20000 in
theorem gX9_expWithBits_X0_doStages : GoodIn wsX9_expWithBits (wsV RX9 282 RX0 yX0_doStages wsX0_doStages) := goodIn_app (goodIn_of _ (by decide +kernel)) ggX9_expWithBits_X0_doStages
theorem dX9_expWithBits_0 : decode cX9_expWithBits 0 = .ok (.aload_n 0, 1) := by decide +kernel
theorem dX9_expWithBits_1 : decode cX9_expWithBits 1 = .ok (.getfield 74, 3) := by decide +kernel
theorem dX9_expWithBits_4 : decode cX9_expWithBits 4 = .ok (.aload_n 0, 1) := by decide +kernel
theorem dX9_expWithBits_5 : decode cX9_expWithBits 5 = .ok (.getfield 10, 3) := by decide +kernel
theorem dX9_expWithBits_8 : decode cX9_expWithBits 8 = .ok (.invokevirtual 132, 3) := by decide +kernel
theorem dX9_expWithBits_11 : decode cX9_expWithBits 11 = .ok (.aload_n 0, 1) := by decide +kernel
theorem dX9_expWithBits_12 : decode cX9_expWithBits 12 = .ok (.getfield 74, 3) := by decide +kernel
theorem dX9_expWithBits_15 : decode cX9_expWithBits 15 = .ok (.iload_n 1, 1) := by decide +kernel
theorem dX9_expWithBits_16 : decode cX9_expWithBits 16 = .ok (.invokevirtual 295, 3) := by decide +kernel
theorem dX9_expWithBits_19 : decode cX9_expWithBits 19 = .ok (.aload_n 0, 1) := by decide +kernel
theorem dX9_expWithBits_20 : decode cX9_expWithBits 20 = .ok (.getfield 77, 3) := by decide +kernel
theorem dX9_expWithBits_23 : decode cX9_expWithBits 23 = .ok (.aload_n 0, 1) := by decide +kernel
theorem dX9_expWithBits_24 : decode cX9_expWithBits 24 = .ok (.getfield 19, 3) := by decide +kernel
theorem dX9_expWithBits_27 : decode cX9_expWithBits 27 = .ok (.invokevirtual 298, 3) := by decide +kernel
theorem dX9_expWithBits_30 : decode cX9_expWithBits 30 = .ok (.aload_n 0, 1) := by decide +kernel
theorem dX9_expWithBits_31 : decode cX9_expWithBits 31 = .ok (.getfield 56, 3) := by decide +kernel
theorem dX9_expWithBits_34 : decode cX9_expWithBits 34 = .ok (.aload_n 0, 1) := by decide +kernel
theorem dX9_expWithBits_35 : decode cX9_expWithBits 35 = .ok (.getfield 77, 3) := by decide +kernel
theorem dX9_expWithBits_38 : decode cX9_expWithBits 38 = .ok (.aload_n 0, 1) := by decide +kernel
theorem dX9_expWithBits_39 : decode cX9_expWithBits 39 = .ok (.getfield 74, 3) := by decide +kernel
theorem dX9_expWithBits_42 : decode cX9_expWithBits 42 = .ok (.iconst 5, 1) := by decide +kernel
theorem dX9_expWithBits_43 : decode cX9_expWithBits 43 = .ok (.iconst 1, 1) := by decide +kernel
theorem dX9_expWithBits_44 : decode cX9_expWithBits 44 = .ok (.invokevirtual 282, 3) := by decide +kernel
theorem dX9_expWithBits_47 : decode cX9_expWithBits 47 = .ok (.ireturn, 1) := by decide +kernel
set_option maxRecDepth 20000 in
theorem ggX9_bits_X9_expWithBits : GoodIn wsX9_bits wsX9_expWithBits := goodIn_r _ [5, 6, 7, 8, 9, 10, 11, 12, 13, 14, 15, 16, 17, 18, 19, 20, 21, 22, 23, 24, 25, 26, 27, 28, 29, 30, 31, 32, 33, 34, 35, 36, 37, 38, 39, 40, 41, 42, 43, 44, 45, 46, 47, 48, 49, 50, 51, 52, 53, 54, 55, 56, 57, 58, 59, 60, 61, 62, 63, 64, 65, 66, 67, 68, 69, 70, 71, 72, 73, 74, 75, 76, 77, 78, 79, 80, 81, 82, 83, 84, 85, 86, 87, 88, 89, 90, 91, 92, 93, 94, 95, 96, 97, 98, 99, 100, 101, 102, 103, 104, 105, 106, 107, 108, 109, 110, 111, 112, 113, 114, 115, 116, 117, 118, 119, 120, 121, 122, 123, 124, 125, 126, 127, 128, 129, 130, 131, 132, 133, 134, 135, 136, 137, 138, 139, 140, 141, 142, 143, 144, 145, 146, 147, 148, 149, 150, 151, 152, 153, 154, 155, 156, 157, 158, 159, 160, 161, 162, 163, 164, 165, 166, 167, 168, 169, 170, 171, 172, 173, 174, 175, 176, 177, 178, 179, 180, 181, 182, 183, 184, 185, 186, 187, 188, 189, 190, 191, 192] (by decide +kernel) (by decide +kernel)
set_option maxRecDepth 20000 in
theorem gX9_bits_X9_expWithBits : GoodIn wsX9_bits (wsV RX9 301 RX9 yX9_expWithBits wsX9_expWithBits) := goodIn_app (goodIn_of _ (by decide +kernel)) ggX9_bits_X9_expWithBits
theorem dX9_bits_0 : decode cX9_bits 0 = .ok (.bipush 8, 2) := by decide +kernel
theorem dX9_bits_2 : decode cX9_bits 2 = .ok (.istore_n 1, 1) := by decide +kernel
theorem dX9_bits_3 : decode cX9_bits 3 = .ok (.iload_n 1, 1) := by decide +kernel
theorem dX9_bits_4 : decode cX9_bits 4 = .ok (.bipush 16, 2) := by decide +kernel
theorem dX9_bits_6 : decode cX9_bits 6 = .ok (.if_icmp .gt 19, 3) := by decide +kernel
theorem dX9_bits_9 : decode cX9_bits 9 = .ok (.aload_n 0, 1) := by decide +kernel
theorem dX9_bits_10 : decode cX9_bits 10 = .ok (.iload_n 1, 1) := by decide +kernel
theorem dX9_bits_11 : decode cX9_bits 11 = .ok (.invokevirtual 301, 3) := by decide +kernel
theorem dX9_bits_14 : decode cX9_bits 14 = .ok (.ifCond .ne 5, 3) := by decide +kernel
theorem dX9_bits_17 : decode cX9_bits 17 = .ok (.iload_n 1, 1) := by decide +kernel
theorem dX9_bits_18 : decode cX9_bits 18 = .ok (.ireturn, 1) := by decide +kernel
theorem dX9_bits_19 : decode cX9_bits 19 = .ok (.iinc 1 1, 3) := by decide +kernel
theorem dX9_bits_22 : decode cX9_bits 22 = .ok (.goto (-19), 3) := by decide +kernel
theorem dX9_bits_25 : decode cX9_bits 25 = .ok (.bipush (-2), 2) := by decide +kernel
theorem dX9_bits_27 : decode cX9_bits 27 = .ok (.ireturn, 1) := by decide +kernel
set_option maxRecDepth 20000 in
theorem ggX9_sweep_X9_expWithBits : GoodIn wsX9_sweep wsX9_expWithBits := goodIn_r _ [5, 6, 7, 8, 9, 10, 11, 12, 13, 14, 15, 16, 17, 18, 19, 20, 21, 22, 23, 24, 25, 26, 27, 28, 29, 30, 31, 32, 33, 34, 35, 36, 37, 38, 39, 40, 41, 42, 43, 44, 45, 46, 47, 48, 49, 50, 51, 52, 53, 54, 55, 56, 57, 58, 59, 60, 61, 62, 63, 64, 65, 66, 67, 68, 69, 70, 71, 72, 73, 74, 75, 76, 77, 78, 79, 80, 81, 82, 83, 84, 85, 86, 87, 88, 89, 90, 91, 92, 93, 94, 95, 96, 97, 98, 99, 100, 101, 102, 103, 104, 105, 106, 107, 108, 109, 110, 111, 112, 113, 114, 115, 116, 117, 118, 119, 120, 121, 122, 123, 124, 125, 126, 127, 128, 129, 130, 131, 132, 133, 134, 135, 136, 137, 138, 139, 140, 141, 142, 143, 144, 145, 146, 147, 148, 149, 150, 151, 152, 153, 154, 155, 156, 157, 158, 159, 160, 161, 162, 163, 164, 165, 166, 167, 168, 169, 170, 171, 172, 173, 174, 175, 176, 177, 178, 179, 180, 181, 182, 183, 184, 185, 186, 187, 188, 189, 190, 191, 192] (by decide +kernel) (by decide +kernel)
set_option maxRecDepth 20000 in
theorem gX9_sweep_X9_expWithBits : GoodIn wsX9_sweep (wsV RX9 301 RX9 yX9_expWithBits wsX9_expWithBits) := goodIn_app (goodIn_of _ (by decide +kernel)) ggX9_sweep_X9_expWithBits
theorem dX9_sweep_0 : decode cX9_sweep 0 = .ok (.iload_n 1, 1) := by decide +kernel
theorem dX9_sweep_1 : decode cX9_sweep 1 = .ok (.bipush 8, 2) := by decide +kernel
theorem dX9_sweep_3 : decode cX9_sweep 3 = .ok (.if_icmp .lt 9, 3) := by decide +kernel
theorem dX9_sweep_6 : decode cX9_sweep 6 = .ok (.iload_n 1, 1) := by decide +kernel
theorem dX9_sweep_7 : decode cX9_sweep 7 = .ok (.bipush 16, 2) := by decide +kernel
theorem dX9_sweep_9 : decode cX9_sweep 9 = .ok (.if_icmp .le 7, 3) := by decide +kernel
theorem dX9_sweep_12 : decode cX9_sweep 12 = .ok (.iconst (-1), 1) := by decide +kernel
theorem dX9_sweep_13 : decode cX9_sweep 13 = .ok (.goto 8, 3) := by decide +kernel
theorem dX9_sweep_16 : decode cX9_sweep 16 = .ok (.aload_n 0, 1) := by decide +kernel
theorem dX9_sweep_17 : decode cX9_sweep 17 = .ok (.iload_n 1, 1) := by decide +kernel
theorem dX9_sweep_18 : decode cX9_sweep 18 = .ok (.invokevirtual 301, 3) := by decide +kernel
theorem dX9_sweep_21 : decode cX9_sweep 21 = .ok (.ireturn, 1) := by decide +kernel
set_option maxRecDepth 20000 in
theorem ggX9_grown_X7_restartFrom : GoodIn wsX9_grown wsX7_restartFrom := goodIn_r _ [10, 11, 12, 13, 14, 15, 9, 16, 17, 18, 19, 20, 21, 22, 23, 24, 25, 151, 152, 153, 154, 155, 156, 157, 158] (by decide +kernel) (by decide +kernel)
set_option maxRecDepth 20000 in
theorem gX9_grown_X7_restartFrom : GoodIn wsX9_grown (wsV RX9 298 RX7 yX7_restartFrom wsX7_restartFrom) := goodIn_app (goodIn_of _ (by decide +kernel)) ggX9_grown_X7_restartFrom
set_option maxRecDepth 20000 in
theorem ggX9_grown_X0_doStages : GoodIn wsX9_grown wsX0_doStages := goodIn_r _ [30, 31, 32, 33, 34, 35, 29, 36, 37, 38, 39, 40, 41, 42, 43, 44, 45, 46, 47, 48, 49, 50, 51, 52, 53, 54, 55, 56, 57, 58, 59, 60, 61, 62, 19, 20, 21, 63, 64, 65, 66, 67, 68, 69, 70, 71, 72, 73, 74, 75, 76, 77, 9, 78, 17, 79, 80, 81, 82, 22, 83, 84, 85, 86, 87, 88, 89, 90, 91, 92, 93, 94, 95, 96, 97, 98, 99, 100, 101, 102, 103, 104, 105, 106, 107, 108, 109, 110, 111, 112, 113, 114, 115, 116, 117, 118, 119, 120, 151, 152, 153, 154, 155, 156, 157, 158, 141, 142, 143, 144, 145, 146, 147, 148, 149, 150, 159, 160, 161, 162, 163, 164, 165] (by decide +kernel) (by decide +kernel)
set_option maxRecDepth 20000 in
theorem gX9_grown_X0_doStages : GoodIn wsX9_grown (wsV RX9 282 RX0 yX0_doStages wsX0_doStages) := goodIn_app (goodIn_of _ (by decide +kernel)) ggX9_grown_X0_doStages
set_option maxRecDepth 20000 in
theorem ggX9_grown_X7_greatest : GoodIn wsX9_grown wsX7_greatest := goodIn_r _ [78, 17, 79, 80, 81, 82, 22, 83, 84, 85, 151, 152, 153, 154, 155, 156, 157, 158] (by decide +kernel) (by decide +kernel)
set_option maxRecDepth 20000 in
theorem gX9_grown_X7_greatest : GoodIn wsX9_grown (wsV RX9 212 RX7 yX7_greatest wsX7_greatest) := goodIn_app (goodIn_of _ (by decide +kernel)) ggX9_grown_X7_greatest
theorem dX9_grown_0 : decode cX9_grown 0 = .ok (.iload_n 1, 1) := by decide +kernel
theorem dX9_grown_1 : decode cX9_grown 1 = .ok (.ifCond .lt 8, 3) := by decide +kernel
theorem dX9_grown_4 : decode cX9_grown 4 = .ok (.iload_n 1, 1) := by decide +kernel
theorem dX9_grown_5 : decode cX9_grown 5 = .ok (.iconst 5, 1) := by decide +kernel
theorem dX9_grown_6 : decode cX9_grown 6 = .ok (.if_icmp .le 5, 3) := by decide +kernel
theorem dX9_grown_9 : decode cX9_grown 9 = .ok (.iconst (-1), 1) := by decide +kernel
theorem dX9_grown_10 : decode cX9_grown 10 = .ok (.ireturn, 1) := by decide +kernel
theorem dX9_grown_11 : decode cX9_grown 11 = .ok (.aload_n 0, 1) := by decide +kernel
theorem dX9_grown_12 : decode cX9_grown 12 = .ok (.getfield 77, 3) := by decide +kernel
theorem dX9_grown_15 : decode cX9_grown 15 = .ok (.aload_n 0, 1) := by decide +kernel
theorem dX9_grown_16 : decode cX9_grown 16 = .ok (.getfield 19, 3) := by decide +kernel
theorem dX9_grown_19 : decode cX9_grown 19 = .ok (.invokevirtual 298, 3) := by decide +kernel
theorem dX9_grown_22 : decode cX9_grown 22 = .ok (.aload_n 0, 1) := by decide +kernel
theorem dX9_grown_23 : decode cX9_grown 23 = .ok (.getfield 56, 3) := by decide +kernel
theorem dX9_grown_26 : decode cX9_grown 26 = .ok (.aload_n 0, 1) := by decide +kernel
theorem dX9_grown_27 : decode cX9_grown 27 = .ok (.getfield 77, 3) := by decide +kernel
theorem dX9_grown_30 : decode cX9_grown 30 = .ok (.aload_n 0, 1) := by decide +kernel
theorem dX9_grown_31 : decode cX9_grown 31 = .ok (.getfield 10, 3) := by decide +kernel
theorem dX9_grown_34 : decode cX9_grown 34 = .ok (.iload_n 1, 1) := by decide +kernel
theorem dX9_grown_35 : decode cX9_grown 35 = .ok (.iconst 0, 1) := by decide +kernel
theorem dX9_grown_36 : decode cX9_grown 36 = .ok (.invokevirtual 282, 3) := by decide +kernel
theorem dX9_grown_39 : decode cX9_grown 39 = .ok (.pop, 1) := by decide +kernel
theorem dX9_grown_40 : decode cX9_grown 40 = .ok (.aload_n 0, 1) := by decide +kernel
theorem dX9_grown_41 : decode cX9_grown 41 = .ok (.getfield 77, 3) := by decide +kernel
theorem dX9_grown_44 : decode cX9_grown 44 = .ok (.iconst 0, 1) := by decide +kernel
theorem dX9_grown_45 : decode cX9_grown 45 = .ok (.aload_n 0, 1) := by decide +kernel
theorem dX9_grown_46 : decode cX9_grown 46 = .ok (.getfield 10, 3) := by decide +kernel
theorem dX9_grown_49 : decode cX9_grown 49 = .ok (.getfield 115, 3) := by decide +kernel
theorem dX9_grown_52 : decode cX9_grown 52 = .ok (.invokevirtual 212, 3) := by decide +kernel
theorem dX9_grown_55 : decode cX9_grown 55 = .ok (.ireturn, 1) := by decide +kernel
set_option maxRecDepth 20000 in
theorem ggX9_tried_X9_isPlace : GoodIn wsX9_tried wsX9_isPlace := goodIn_r _ [13, 2, 14, 159, 160, 161, 162, 163, 164, 165, 166, 167, 168, 169, 170, 171, 172, 173, 174, 175, 176, 177, 178, 179, 180, 181, 182, 183, 184, 185, 186, 187] (by decide +kernel) (by decide +kernel)
set_option maxRecDepth 20000 in
theorem gX9_tried_X9_isPlace : GoodIn wsX9_tried (wsV RX9 159 RX9 yX9_isPlace wsX9_isPlace) := goodIn_app (goodIn_of _ (by decide +kernel)) ggX9_tried_X9_isPlace
set_option maxRecDepth 20000 in
theorem ggX9_tried_X9_expWithout : GoodIn wsX9_tried wsX9_expWithout := goodIn_r _ [18, 6, 7, 19, 20, 8, 2, 21, 22, 23, 24, 25, 26, 27, 28, 29, 30, 31, 32, 33, 34, 35, 36, 37, 38, 39, 40, 41, 42, 43, 44, 45, 46, 47, 48, 49, 50, 51, 52, 53, 54, 55, 56, 57, 58, 59, 60, 61, 62, 63, 64, 65, 66, 67, 68, 69, 70, 71, 72, 73, 74, 75, 76, 77, 78, 79, 80, 81, 82, 83, 84, 85, 86, 87, 88, 89, 90, 91, 92, 93, 94, 95, 96, 97, 98, 99, 100, 101, 102, 103, 104, 105, 106, 107, 108, 109, 110, 111, 112, 113, 114, 115, 116, 117, 118, 119, 120, 121, 122, 123, 124, 125, 126, 127, 128, 129, 130, 131, 132, 133, 134, 135, 159, 160, 161, 162, 163, 164, 165, 166, 167, 168, 169, 170, 171, 172, 173, 174, 175, 176, 177, 188, 189, 190, 191, 192, 193, 194, 195, 178, 179, 180, 181, 182, 183, 184, 185, 186, 187, 196, 197, 198, 199, 200, 201, 202] (by decide +kernel) (by decide +kernel)
set_option maxRecDepth 20000 in
theorem gX9_tried_X9_expWithout : GoodIn wsX9_tried (wsV RX9 304 RX9 yX9_expWithout wsX9_expWithout) := goodIn_app (goodIn_of _ (by decide +kernel)) ggX9_tried_X9_expWithout
set_option maxRecDepth 20000 in
theorem ggX9_tried_X8_copyFrom : GoodIn wsX9_tried wsX8_copyFrom := goodIn_r _ [139, 140, 141, 142, 123, 143, 144, 82, 145, 146, 147, 69, 148, 149, 150, 151, 152, 153, 71, 154, 155, 156, 157, 72, 178, 179, 180, 181, 182, 183, 184, 185, 186, 187] (by decide +kernel) (by decide +kernel)
set_option maxRecDepth 20000 in
theorem gX9_tried_X8_copyFrom : GoodIn wsX9_tried (wsV RX9 132 RX8 yX8_copyFrom wsX8_copyFrom) := goodIn_app (goodIn_of _ (by decide +kernel)) ggX9_tried_X8_copyFrom
set_option maxRecDepth 20000 in
theorem ggX9_tried_X8_takeShape : GoodIn wsX9_tried wsX8_takeShape := goodIn_r _ [153, 144, 82, 141, 71, 154, 155, 156, 69, 157, 72, 178, 179, 180, 181, 182, 183, 184, 185, 186, 187] (by decide +kernel) (by decide +kernel)
set_option maxRecDepth 20000 in
theorem gX9_tried_X8_takeShape : GoodIn wsX9_tried (wsV RX9 307 RX8 yX8_takeShape wsX8_takeShape) := goodIn_app (goodIn_of _ (by decide +kernel)) ggX9_tried_X8_takeShape
set_option maxRecDepth 20000 in
theorem ggX9_tried_X7_restartFrom : GoodIn wsX9_tried wsX7_restartFrom := goodIn_r _ [25, 26, 27, 28, 29, 30, 24, 31, 32, 33, 34, 35, 36, 37, 38, 39, 40, 188, 189, 190, 191, 192, 193, 194, 195] (by decide +kernel) (by decide +kernel)
set_option maxRecDepth 20000 in
theorem gX9_tried_X7_restartFrom : GoodIn wsX9_tried (wsV RX9 298 RX7 yX7_restartFrom wsX7_restartFrom) := goodIn_app (goodIn_of _ (by decide +kernel)) ggX9_tried_X7_restartFrom
set_option maxRecDepth 20000 in
theorem ggX9_tried_X0_doStages : GoodIn wsX9_tried wsX0_doStages := goodIn_r _ [45, 46, 47, 48, 49, 50, 44, 51, 52, 53, 54, 55, 56, 57, 58, 59, 60, 61, 62, 63, 64, 65, 66, 67, 68, 69, 70, 71, 72, 73, 74, 75, 76, 77, 34, 35, 36, 78, 79, 80, 81, 82, 83, 84, 85, 86, 87, 88, 89, 90, 91, 92, 24, 93, 32, 94, 95, 96, 97, 37, 98, 99, 100, 101, 102, 103, 104, 105, 106, 107, 108, 109, 110, 111, 112, 113, 114, 115, 116, 117, 118, 119, 120, 121, 122, 123, 124, 125, 126, 127, 128, 129, 130, 131, 132, 133, 134, 135, 188, 189, 190, 191, 192, 193, 194, 195, 178, 179, 180, 181, 182, 183, 184, 185, 186, 187, 196, 197, 198, 199, 200, 201, 202] (by decide +kernel) (by decide +kernel)
set_option maxRecDepth 20000 in
theorem gX9_tried_X0_doStages : GoodIn wsX9_tried (wsV RX9 282 RX0 yX0_doStages wsX0_doStages) := goodIn_app (goodIn_of _ (by decide +kernel)) ggX9_tried_X0_doStages
theorem dX9_tried_0 : decode cX9_tried 0 = .ok (.iload_n 1, 1) := by decide +kernel
theorem dX9_tried_1 : decode cX9_tried 1 = .ok (.ifCond .lt 28, 3) := by decide +kernel
theorem dX9_tried_4 : decode cX9_tried 4 = .ok (.iload_n 1, 1) := by decide +kernel
theorem dX9_tried_5 : decode cX9_tried 5 = .ok (.iconst 4, 1) := by decide +kernel
theorem dX9_tried_6 : decode cX9_tried 6 = .ok (.if_icmp .gt 23, 3) := by decide +kernel
theorem dX9_tried_9 : decode cX9_tried 9 = .ok (.iload_n 1, 1) := by decide +kernel
theorem dX9_tried_10 : decode cX9_tried 10 = .ok (.iconst 2, 1) := by decide +kernel
theorem dX9_tried_11 : decode cX9_tried 11 = .ok (.if_icmp .ne 14, 3) := by decide +kernel
theorem dX9_tried_14 : decode cX9_tried 14 = .ok (.aload_n 0, 1) := by decide +kernel
theorem dX9_tried_15 : decode cX9_tried 15 = .ok (.iload_n 2, 1) := by decide +kernel
theorem dX9_tried_16 : decode cX9_tried 16 = .ok (.invokevirtual 159, 3) := by decide +kernel
theorem dX9_tried_19 : decode cX9_tried 19 = .ok (.ifCond .ne 12, 3) := by decide +kernel
theorem dX9_tried_22 : decode cX9_tried 22 = .ok (.goto 7, 3) := by decide +kernel
theorem dX9_tried_25 : decode cX9_tried 25 = .ok (.iload_n 2, 1) := by decide +kernel
theorem dX9_tried_26 : decode cX9_tried 26 = .ok (.ifCond .eq 5, 3) := by decide +kernel
theorem dX9_tried_29 : decode cX9_tried 29 = .ok (.iconst (-1), 1) := by decide +kernel
theorem dX9_tried_30 : decode cX9_tried 30 = .ok (.ireturn, 1) := by decide +kernel
theorem dX9_tried_31 : decode cX9_tried 31 = .ok (.iload_n 1, 1) := by decide +kernel
theorem dX9_tried_32 : decode cX9_tried 32 = .ok (.iconst 2, 1) := by decide +kernel
theorem dX9_tried_33 : decode cX9_tried 33 = .ok (.if_icmp .ne 9, 3) := by decide +kernel
theorem dX9_tried_36 : decode cX9_tried 36 = .ok (.aload_n 0, 1) := by decide +kernel
theorem dX9_tried_37 : decode cX9_tried 37 = .ok (.iload_n 2, 1) := by decide +kernel
theorem dX9_tried_38 : decode cX9_tried 38 = .ok (.invokevirtual 304, 3) := by decide +kernel
theorem dX9_tried_41 : decode cX9_tried 41 = .ok (.ireturn, 1) := by decide +kernel
theorem dX9_tried_42 : decode cX9_tried 42 = .ok (.aload_n 0, 1) := by decide +kernel
theorem dX9_tried_43 : decode cX9_tried 43 = .ok (.getfield 74, 3) := by decide +kernel
theorem dX9_tried_46 : decode cX9_tried 46 = .ok (.aload_n 0, 1) := by decide +kernel
theorem dX9_tried_47 : decode cX9_tried 47 = .ok (.getfield 10, 3) := by decide +kernel
theorem dX9_tried_50 : decode cX9_tried 50 = .ok (.invokevirtual 132, 3) := by decide +kernel
theorem dX9_tried_53 : decode cX9_tried 53 = .ok (.iload_n 1, 1) := by decide +kernel
theorem dX9_tried_54 : decode cX9_tried 54 = .ok (.iconst 1, 1) := by decide +kernel
theorem dX9_tried_55 : decode cX9_tried 55 = .ok (.if_icmp .gt 14, 3) := by decide +kernel
theorem dX9_tried_58 : decode cX9_tried 58 = .ok (.aload_n 0, 1) := by decide +kernel
theorem dX9_tried_59 : decode cX9_tried 59 = .ok (.getfield 74, 3) := by decide +kernel
theorem dX9_tried_62 : decode cX9_tried 62 = .ok (.iload_n 1, 1) := by decide +kernel
theorem dX9_tried_63 : decode cX9_tried 63 = .ok (.putfield 238, 3) := by decide +kernel
theorem dX9_tried_66 : decode cX9_tried 66 = .ok (.goto 64, 3) := by decide +kernel
theorem dX9_tried_69 : decode cX9_tried 69 = .ok (.iload_n 1, 1) := by decide +kernel
theorem dX9_tried_70 : decode cX9_tried 70 = .ok (.iconst 3, 1) := by decide +kernel
theorem dX9_tried_71 : decode cX9_tried 71 = .ok (.if_icmp .ne 36, 3) := by decide +kernel
theorem dX9_tried_74 : decode cX9_tried 74 = .ok (.aload_n 0, 1) := by decide +kernel
theorem dX9_tried_75 : decode cX9_tried 75 = .ok (.getfield 74, 3) := by decide +kernel
theorem dX9_tried_78 : decode cX9_tried 78 = .ok (.aload_n 0, 1) := by decide +kernel
theorem dX9_tried_79 : decode cX9_tried 79 = .ok (.getfield 10, 3) := by decide +kernel
theorem dX9_tried_82 : decode cX9_tried 82 = .ok (.getfield 232, 3) := by decide +kernel
theorem dX9_tried_85 : decode cX9_tried 85 = .ok (.iconst 2, 1) := by decide +kernel
theorem dX9_tried_86 : decode cX9_tried 86 = .ok (.if_icmp .ne 7, 3) := by decide +kernel
theorem dX9_tried_89 : decode cX9_tried 89 = .ok (.iconst 4, 1) := by decide +kernel
theorem dX9_tried_90 : decode cX9_tried 90 = .ok (.goto 4, 3) := by decide +kernel
theorem dX9_tried_93 : decode cX9_tried 93 = .ok (.iconst 2, 1) := by decide +kernel
theorem dX9_tried_94 : decode cX9_tried 94 = .ok (.aload_n 0, 1) := by decide +kernel
theorem dX9_tried_95 : decode cX9_tried 95 = .ok (.getfield 10, 3) := by decide +kernel
theorem dX9_tried_98 : decode cX9_tried 98 = .ok (.getfield 235, 3) := by decide +kernel
theorem dX9_tried_101 : decode cX9_tried 101 = .ok (.invokevirtual 307, 3) := by decide +kernel
theorem dX9_tried_104 : decode cX9_tried 104 = .ok (.goto 26, 3) := by decide +kernel
theorem dX9_tried_107 : decode cX9_tried 107 = .ok (.aload_n 0, 1) := by decide +kernel
theorem dX9_tried_108 : decode cX9_tried 108 = .ok (.getfield 74, 3) := by decide +kernel
theorem dX9_tried_111 : decode cX9_tried 111 = .ok (.aload_n 0, 1) := by decide +kernel
theorem dX9_tried_112 : decode cX9_tried 112 = .ok (.getfield 10, 3) := by decide +kernel
theorem dX9_tried_115 : decode cX9_tried 115 = .ok (.getfield 232, 3) := by decide +kernel
theorem dX9_tried_118 : decode cX9_tried 118 = .ok (.iconst 1, 1) := by decide +kernel
theorem dX9_tried_119 : decode cX9_tried 119 = .ok (.aload_n 0, 1) := by decide +kernel
theorem dX9_tried_120 : decode cX9_tried 120 = .ok (.getfield 10, 3) := by decide +kernel
theorem dX9_tried_123 : decode cX9_tried 123 = .ok (.getfield 235, 3) := by decide +kernel
theorem dX9_tried_126 : decode cX9_tried 126 = .ok (.isub, 1) := by decide +kernel
theorem dX9_tried_127 : decode cX9_tried 127 = .ok (.invokevirtual 307, 3) := by decide +kernel
theorem dX9_tried_130 : decode cX9_tried 130 = .ok (.aload_n 0, 1) := by decide +kernel
theorem dX9_tried_131 : decode cX9_tried 131 = .ok (.getfield 77, 3) := by decide +kernel
theorem dX9_tried_134 : decode cX9_tried 134 = .ok (.aload_n 0, 1) := by decide +kernel
theorem dX9_tried_135 : decode cX9_tried 135 = .ok (.getfield 19, 3) := by decide +kernel
theorem dX9_tried_138 : decode cX9_tried 138 = .ok (.invokevirtual 298, 3) := by decide +kernel
theorem dX9_tried_141 : decode cX9_tried 141 = .ok (.aload_n 0, 1) := by decide +kernel
theorem dX9_tried_142 : decode cX9_tried 142 = .ok (.getfield 56, 3) := by decide +kernel
theorem dX9_tried_145 : decode cX9_tried 145 = .ok (.aload_n 0, 1) := by decide +kernel
theorem dX9_tried_146 : decode cX9_tried 146 = .ok (.getfield 77, 3) := by decide +kernel
theorem dX9_tried_149 : decode cX9_tried 149 = .ok (.aload_n 0, 1) := by decide +kernel
theorem dX9_tried_150 : decode cX9_tried 150 = .ok (.getfield 74, 3) := by decide +kernel
theorem dX9_tried_153 : decode cX9_tried 153 = .ok (.iconst 5, 1) := by decide +kernel
theorem dX9_tried_154 : decode cX9_tried 154 = .ok (.iconst 1, 1) := by decide +kernel
theorem dX9_tried_155 : decode cX9_tried 155 = .ok (.invokevirtual 282, 3) := by decide +kernel
theorem dX9_tried_158 : decode cX9_tried 158 = .ok (.ireturn, 1) := by decide +kernel
set_option maxRecDepth 20000 in
theorem ggX9_expWithout_X7_restartFrom : GoodIn wsX9_expWithout wsX7_restartFrom := goodIn_r _ [11, 12, 13, 14, 15, 16, 10, 17, 18, 19, 20, 21, 22, 23, 24, 25, 26, 141, 142, 143, 144, 145, 146, 147, 148] (by decide +kernel) (by decide +kernel)
set_option maxRecDepth 20000 in
theorem gX9_expWithout_X7_restartFrom : GoodIn wsX9_expWithout (wsV RX9 298 RX7 yX7_restartFrom wsX7_restartFrom) := goodIn_app (goodIn_of _ (by decide +kernel)) ggX9_expWithout_X7_restartFrom
set_option maxRecDepth 20000 in
theorem ggX9_expWithout_X0_doStages : GoodIn wsX9_expWithout wsX0_doStages := goodIn_r _ [31, 32, 33, 34, 35, 36, 30, 37, 38, 39, 40, 41, 42, 43, 44, 45, 46, 47, 48, 49, 50, 51, 52, 53, 54, 55, 56, 57, 58, 59, 60, 61, 62, 63, 20, 21, 22, 64, 65, 66, 67, 68, 69, 70, 71, 72, 73, 74, 75, 76, 77, 78, 10, 79, 18, 80, 81, 82, 83, 23, 84, 85, 86, 87, 88, 89, 90, 91, 92, 93, 94, 95, 96, 97, 98, 99, 100, 101, 102, 103, 104, 105, 106, 107, 108, 109, 110, 111, 112, 113, 114, 115, 116, 117, 118, 119, 120, 121, 141, 142, 143, 144, 145, 146, 147, 148, 149, 150, 151, 152, 153, 154, 155, 156, 157, 158, 159, 160, 161, 162, 163, 164, 165] (by decide +kernel) (by decide +kernel)
set_option maxRecDepth 20000 in
theorem gX9_expWithout_X0_doStages : GoodIn wsX9_expWithout (wsV RX9 282 RX0 yX0_doStages wsX0_doStages) := goodIn_app (goodIn_of _ (by decide +kernel)) ggX9_expWithout_X0_doStages
theorem dX9_expWithout_0 : decode cX9_expWithout 0 = .ok (.aload_n 0, 1) := by decide +kernel
theorem dX9_expWithout_1 : decode cX9_expWithout 1 = .ok (.getfield 77, 3) := by decide +kernel
theorem dX9_expWithout_4 : decode cX9_expWithout 4 = .ok (.aload_n 0, 1) := by decide +kernel
theorem dX9_expWithout_5 : decode cX9_expWithout 5 = .ok (.getfield 19, 3) := by decide +kernel
theorem dX9_expWithout_8 : decode cX9_expWithout 8 = .ok (.invokevirtual 298, 3) := by decide +kernel
theorem dX9_expWithout_11 : decode cX9_expWithout 11 = .ok (.aload_n 0, 1) := by decide +kernel
theorem dX9_expWithout_12 : decode cX9_expWithout 12 = .ok (.getfield 77, 3) := by decide +kernel
theorem dX9_expWithout_15 : decode cX9_expWithout 15 = .ok (.getfield 175, 3) := by decide +kernel
theorem dX9_expWithout_18 : decode cX9_expWithout 18 = .ok (.iload_n 1, 1) := by decide +kernel
theorem dX9_expWithout_19 : decode cX9_expWithout 19 = .ok (.iconst 0, 1) := by decide +kernel
theorem dX9_expWithout_20 : decode cX9_expWithout 20 = .ok (.iastore, 1) := by decide +kernel
theorem dX9_expWithout_21 : decode cX9_expWithout 21 = .ok (.aload_n 0, 1) := by decide +kernel
theorem dX9_expWithout_22 : decode cX9_expWithout 22 = .ok (.getfield 77, 3) := by decide +kernel
theorem dX9_expWithout_25 : decode cX9_expWithout 25 = .ok (.getfield 176, 3) := by decide +kernel
theorem dX9_expWithout_28 : decode cX9_expWithout 28 = .ok (.iload_n 1, 1) := by decide +kernel
theorem dX9_expWithout_29 : decode cX9_expWithout 29 = .ok (.iconst 0, 1) := by decide +kernel
theorem dX9_expWithout_30 : decode cX9_expWithout 30 = .ok (.iastore, 1) := by decide +kernel
theorem dX9_expWithout_31 : decode cX9_expWithout 31 = .ok (.aload_n 0, 1) := by decide +kernel
theorem dX9_expWithout_32 : decode cX9_expWithout 32 = .ok (.getfield 56, 3) := by decide +kernel
theorem dX9_expWithout_35 : decode cX9_expWithout 35 = .ok (.aload_n 0, 1) := by decide +kernel
theorem dX9_expWithout_36 : decode cX9_expWithout 36 = .ok (.getfield 77, 3) := by decide +kernel
theorem dX9_expWithout_39 : decode cX9_expWithout 39 = .ok (.aload_n 0, 1) := by decide +kernel
theorem dX9_expWithout_40 : decode cX9_expWithout 40 = .ok (.getfield 10, 3) := by decide +kernel
theorem dX9_expWithout_43 : decode cX9_expWithout 43 = .ok (.iconst 5, 1) := by decide +kernel
theorem dX9_expWithout_44 : decode cX9_expWithout 44 = .ok (.iconst 1, 1) := by decide +kernel
theorem dX9_expWithout_45 : decode cX9_expWithout 45 = .ok (.invokevirtual 282, 3) := by decide +kernel
theorem dX9_expWithout_48 : decode cX9_expWithout 48 = .ok (.ireturn, 1) := by decide +kernel
set_option maxRecDepth 20000 in
theorem ggX9_loudest_X9_expWithout : GoodIn wsX9_loudest wsX9_expWithout := goodIn_r _ [8, 9, 10, 11, 12, 13, 2, 14, 15, 16, 17, 18, 19, 20, 21, 22, 23, 24, 25, 26, 27, 28, 29, 30, 31, 32, 33, 34, 35, 36, 37, 38, 39, 40, 41, 42, 43, 44, 45, 46, 47, 48, 49, 50, 51, 52, 53, 54, 55, 56, 57, 58, 59, 60, 61, 62, 63, 64, 65, 66, 67, 68, 69, 70, 71, 72, 73, 74, 75, 76, 77, 78, 79, 80, 81, 82, 83, 84, 85, 86, 87, 88, 89, 90, 91, 92, 93, 94, 95, 96, 97, 98, 99, 100, 101, 102, 103, 104, 105, 106, 107, 108, 109, 110, 111, 112, 113, 114, 115, 116, 117, 118, 119, 120, 121, 122, 123, 124, 125, 126, 127, 128, 129, 130, 131, 132, 133, 134, 135, 136, 137, 138, 139, 140, 141, 142, 143, 144, 145, 146, 147, 158, 159, 160, 161, 162, 163, 164, 165, 148, 149, 150, 151, 152, 153, 154, 155, 156, 157, 166, 167, 168, 169, 170, 171, 172] (by decide +kernel) (by decide +kernel)
set_option maxRecDepth 20000 in
theorem gX9_loudest_X9_expWithout : GoodIn wsX9_loudest (wsV RX9 304 RX9 yX9_expWithout wsX9_expWithout) := goodIn_app (goodIn_of _ (by decide +kernel)) ggX9_loudest_X9_expWithout
theorem dX9_loudest_0 : decode cX9_loudest 0 = .ok (.iconst 0, 1) := by decide +kernel
theorem dX9_loudest_1 : decode cX9_loudest 1 = .ok (.istore_n 1, 1) := by decide +kernel
theorem dX9_loudest_2 : decode cX9_loudest 2 = .ok (.ldc_w 310, 3) := by decide +kernel
theorem dX9_loudest_5 : decode cX9_loudest 5 = .ok (.istore_n 2, 1) := by decide +kernel
theorem dX9_loudest_6 : decode cX9_loudest 6 = .ok (.iconst 0, 1) := by decide +kernel
theorem dX9_loudest_7 : decode cX9_loudest 7 = .ok (.istore_n 3, 1) := by decide +kernel
theorem dX9_loudest_8 : decode cX9_loudest 8 = .ok (.iload_n 3, 1) := by decide +kernel
theorem dX9_loudest_9 : decode cX9_loudest 9 = .ok (.aload_n 0, 1) := by decide +kernel
theorem dX9_loudest_10 : decode cX9_loudest 10 = .ok (.getfield 10, 3) := by decide +kernel
theorem dX9_loudest_13 : decode cX9_loudest 13 = .ok (.getfield 115, 3) := by decide +kernel
theorem dX9_loudest_16 : decode cX9_loudest 16 = .ok (.if_icmp .ge 27, 3) := by decide +kernel
theorem dX9_loudest_19 : decode cX9_loudest 19 = .ok (.aload_n 0, 1) := by decide +kernel
theorem dX9_loudest_20 : decode cX9_loudest 20 = .ok (.iload_n 3, 1) := by decide +kernel
theorem dX9_loudest_21 : decode cX9_loudest 21 = .ok (.invokevirtual 304, 3) := by decide +kernel
theorem dX9_loudest_24 : decode cX9_loudest 24 = .ok (.istore 4, 2) := by decide +kernel
theorem dX9_loudest_26 : decode cX9_loudest 26 = .ok (.iload 4, 2) := by decide +kernel
theorem dX9_loudest_28 : decode cX9_loudest 28 = .ok (.iload_n 2, 1) := by decide +kernel
theorem dX9_loudest_29 : decode cX9_loudest 29 = .ok (.if_icmp .ge 8, 3) := by decide +kernel
theorem dX9_loudest_32 : decode cX9_loudest 32 = .ok (.iload 4, 2) := by decide +kernel
theorem dX9_loudest_34 : decode cX9_loudest 34 = .ok (.istore_n 2, 1) := by decide +kernel
theorem dX9_loudest_35 : decode cX9_loudest 35 = .ok (.iload_n 3, 1) := by decide +kernel
theorem dX9_loudest_36 : decode cX9_loudest 36 = .ok (.istore_n 1, 1) := by decide +kernel
theorem dX9_loudest_37 : decode cX9_loudest 37 = .ok (.iinc 3 1, 3) := by decide +kernel
theorem dX9_loudest_40 : decode cX9_loudest 40 = .ok (.goto (-32), 3) := by decide +kernel
theorem dX9_loudest_43 : decode cX9_loudest 43 = .ok (.iload_n 1, 1) := by decide +kernel
theorem dX9_loudest_44 : decode cX9_loudest 44 = .ok (.ireturn, 1) := by decide +kernel
set_option maxRecDepth 20000 in
theorem ggX9_apart_X8_copyFrom : GoodIn wsX9_apart wsX8_copyFrom := goodIn_r _ [24, 25, 26, 27, 28, 29, 30, 31, 32, 33, 34, 23, 35, 36, 37, 38, 39, 40, 41, 42, 43, 44, 45, 46, 180, 181, 182, 183, 184, 185, 186, 187, 188, 189] (by decide +kernel) (by decide +kernel)
set_option maxRecDepth 20000 in
theorem gX9_apart_X8_copyFrom : GoodIn wsX9_apart (wsV RX9 132 RX8 yX8_copyFrom wsX8_copyFrom) := goodIn_app (goodIn_of _ (by decide +kernel)) ggX9_apart_X8_copyFrom
set_option maxRecDepth 20000 in
theorem ggX9_apart_X8_takeShape : GoodIn wsX9_apart wsX8_takeShape := goodIn_r _ [40, 30, 31, 26, 41, 42, 43, 44, 23, 45, 46, 180, 181, 182, 183, 184, 185, 186, 187, 188, 189] (by decide +kernel) (by decide +kernel)
set_option maxRecDepth 20000 in
theorem gX9_apart_X8_takeShape : GoodIn wsX9_apart (wsV RX9 307 RX8 yX8_takeShape wsX8_takeShape) := goodIn_app (goodIn_of _ (by decide +kernel)) ggX9_apart_X8_takeShape
set_option maxRecDepth 20000 in
theorem ggX9_apart_X7_restartFrom : GoodIn wsX9_apart wsX7_restartFrom := goodIn_r _ [52, 53, 54, 55, 56, 57, 51, 58, 59, 60, 61, 62, 63, 64, 65, 66, 67, 190, 191, 192, 193, 194, 195, 196, 197] (by decide +kernel) (by decide +kernel)
set_option maxRecDepth 20000 in
theorem gX9_apart_X7_restartFrom : GoodIn wsX9_apart (wsV RX9 298 RX7 yX7_restartFrom wsX7_restartFrom) := goodIn_app (goodIn_of _ (by decide +kernel)) ggX9_apart_X7_restartFrom
set_option maxRecDepth 20000 in
theorem ggX9_apart_X0_doStages : GoodIn wsX9_apart wsX0_doStages := goodIn_r _ [72, 73, 74, 75, 76, 77, 71, 78, 79, 80, 81, 82, 83, 84, 85, 86, 87, 88, 89, 90, 91, 92, 93, 94, 95, 23, 96, 41, 46, 97, 98, 99, 100, 101, 61, 62, 63, 102, 103, 104, 105, 31, 106, 107, 108, 109, 110, 111, 112, 113, 114, 115, 51, 116, 59, 117, 118, 15, 119, 64, 120, 121, 122, 123, 124, 125, 126, 127, 128, 129, 130, 131, 132, 133, 134, 135, 136, 137, 138, 139, 140, 141, 142, 143, 144, 28, 145, 146, 147, 148, 149, 150, 151, 152, 153, 154, 155, 156, 190, 191, 192, 193, 194, 195, 196, 197, 180, 181, 182, 183, 184, 185, 186, 187, 188, 189, 198, 199, 200, 201, 202, 203, 204] (by decide +kernel) (by decide +kernel)
set_option maxRecDepth 20000 in
theorem gX9_apart_X0_doStages : GoodIn wsX9_apart (wsV RX9 282 RX0 yX0_doStages wsX0_doStages) := goodIn_app (goodIn_of _ (by decide +kernel)) ggX9_apart_X0_doStages
set_option maxRecDepth 20000 in
theorem ggX9_apart_X9_scaled : GoodIn wsX9_apart wsX9_scaled := goodIn_r _ [160] (by decide +kernel) (by decide +kernel)
set_option maxRecDepth 20000 in
theorem gX9_apart_X9_scaled : GoodIn wsX9_apart (va_wsS RX9 311 yX9_scaled wsX9_scaled) := goodIn_app (goodIn_of _ (by decide +kernel)) ggX9_apart_X9_scaled
theorem dX9_apart_0 : decode cX9_apart 0 = .ok (.aload_n 0, 1) := by decide +kernel
theorem dX9_apart_1 : decode cX9_apart 1 = .ok (.getfield 74, 3) := by decide +kernel
theorem dX9_apart_4 : decode cX9_apart 4 = .ok (.aload_n 0, 1) := by decide +kernel
theorem dX9_apart_5 : decode cX9_apart 5 = .ok (.getfield 10, 3) := by decide +kernel
theorem dX9_apart_8 : decode cX9_apart 8 = .ok (.invokevirtual 132, 3) := by decide +kernel
theorem dX9_apart_11 : decode cX9_apart 11 = .ok (.aload_n 0, 1) := by decide +kernel
theorem dX9_apart_12 : decode cX9_apart 12 = .ok (.getfield 74, 3) := by decide +kernel
theorem dX9_apart_15 : decode cX9_apart 15 = .ok (.aload_n 0, 1) := by decide +kernel
theorem dX9_apart_16 : decode cX9_apart 16 = .ok (.getfield 10, 3) := by decide +kernel
theorem dX9_apart_19 : decode cX9_apart 19 = .ok (.getfield 232, 3) := by decide +kernel
theorem dX9_apart_22 : decode cX9_apart 22 = .ok (.iconst 1, 1) := by decide +kernel
theorem dX9_apart_23 : decode cX9_apart 23 = .ok (.aload_n 0, 1) := by decide +kernel
theorem dX9_apart_24 : decode cX9_apart 24 = .ok (.getfield 10, 3) := by decide +kernel
theorem dX9_apart_27 : decode cX9_apart 27 = .ok (.getfield 235, 3) := by decide +kernel
theorem dX9_apart_30 : decode cX9_apart 30 = .ok (.isub, 1) := by decide +kernel
theorem dX9_apart_31 : decode cX9_apart 31 = .ok (.invokevirtual 307, 3) := by decide +kernel
theorem dX9_apart_34 : decode cX9_apart 34 = .ok (.aload_n 0, 1) := by decide +kernel
theorem dX9_apart_35 : decode cX9_apart 35 = .ok (.getfield 77, 3) := by decide +kernel
theorem dX9_apart_38 : decode cX9_apart 38 = .ok (.aload_n 0, 1) := by decide +kernel
theorem dX9_apart_39 : decode cX9_apart 39 = .ok (.getfield 19, 3) := by decide +kernel
theorem dX9_apart_42 : decode cX9_apart 42 = .ok (.invokevirtual 298, 3) := by decide +kernel
theorem dX9_apart_45 : decode cX9_apart 45 = .ok (.aload_n 0, 1) := by decide +kernel
theorem dX9_apart_46 : decode cX9_apart 46 = .ok (.getfield 80, 3) := by decide +kernel
theorem dX9_apart_49 : decode cX9_apart 49 = .ok (.aload_n 0, 1) := by decide +kernel
theorem dX9_apart_50 : decode cX9_apart 50 = .ok (.getfield 19, 3) := by decide +kernel
theorem dX9_apart_53 : decode cX9_apart 53 = .ok (.invokevirtual 298, 3) := by decide +kernel
theorem dX9_apart_56 : decode cX9_apart 56 = .ok (.aload_n 0, 1) := by decide +kernel
theorem dX9_apart_57 : decode cX9_apart 57 = .ok (.getfield 56, 3) := by decide +kernel
theorem dX9_apart_60 : decode cX9_apart 60 = .ok (.aload_n 0, 1) := by decide +kernel
theorem dX9_apart_61 : decode cX9_apart 61 = .ok (.getfield 77, 3) := by decide +kernel
theorem dX9_apart_64 : decode cX9_apart 64 = .ok (.aload_n 0, 1) := by decide +kernel
theorem dX9_apart_65 : decode cX9_apart 65 = .ok (.getfield 74, 3) := by decide +kernel
theorem dX9_apart_68 : decode cX9_apart 68 = .ok (.iconst 5, 1) := by decide +kernel
theorem dX9_apart_69 : decode cX9_apart 69 = .ok (.iconst 1, 1) := by decide +kernel
theorem dX9_apart_70 : decode cX9_apart 70 = .ok (.invokevirtual 282, 3) := by decide +kernel
theorem dX9_apart_73 : decode cX9_apart 73 = .ok (.pop, 1) := by decide +kernel
theorem dX9_apart_74 : decode cX9_apart 74 = .ok (.aload_n 0, 1) := by decide +kernel
theorem dX9_apart_75 : decode cX9_apart 75 = .ok (.getfield 56, 3) := by decide +kernel
theorem dX9_apart_78 : decode cX9_apart 78 = .ok (.aload_n 0, 1) := by decide +kernel
theorem dX9_apart_79 : decode cX9_apart 79 = .ok (.getfield 80, 3) := by decide +kernel
theorem dX9_apart_82 : decode cX9_apart 82 = .ok (.aload_n 0, 1) := by decide +kernel
theorem dX9_apart_83 : decode cX9_apart 83 = .ok (.getfield 10, 3) := by decide +kernel
theorem dX9_apart_86 : decode cX9_apart 86 = .ok (.iconst 5, 1) := by decide +kernel
theorem dX9_apart_87 : decode cX9_apart 87 = .ok (.iconst 1, 1) := by decide +kernel
theorem dX9_apart_88 : decode cX9_apart 88 = .ok (.invokevirtual 282, 3) := by decide +kernel
theorem dX9_apart_91 : decode cX9_apart 91 = .ok (.pop, 1) := by decide +kernel
theorem dX9_apart_92 : decode cX9_apart 92 = .ok (.lconst 0, 1) := by decide +kernel
theorem dX9_apart_93 : decode cX9_apart 93 = .ok (.lstore_n 1, 1) := by decide +kernel
theorem dX9_apart_94 : decode cX9_apart 94 = .ok (.iconst 0, 1) := by decide +kernel
theorem dX9_apart_95 : decode cX9_apart 95 = .ok (.istore_n 3, 1) := by decide +kernel
theorem dX9_apart_96 : decode cX9_apart 96 = .ok (.iload_n 3, 1) := by decide +kernel
theorem dX9_apart_97 : decode cX9_apart 97 = .ok (.aload_n 0, 1) := by decide +kernel
theorem dX9_apart_98 : decode cX9_apart 98 = .ok (.getfield 10, 3) := by decide +kernel
theorem dX9_apart_101 : decode cX9_apart 101 = .ok (.getfield 115, 3) := by decide +kernel
theorem dX9_apart_104 : decode cX9_apart 104 = .ok (.if_icmp .ge 109, 3) := by decide +kernel
theorem dX9_apart_107 : decode cX9_apart 107 = .ok (.aload_n 0, 1) := by decide +kernel
theorem dX9_apart_108 : decode cX9_apart 108 = .ok (.getfield 77, 3) := by decide +kernel
theorem dX9_apart_111 : decode cX9_apart 111 = .ok (.getfield 175, 3) := by decide +kernel
theorem dX9_apart_114 : decode cX9_apart 114 = .ok (.iload_n 3, 1) := by decide +kernel
theorem dX9_apart_115 : decode cX9_apart 115 = .ok (.iaload, 1) := by decide +kernel
theorem dX9_apart_116 : decode cX9_apart 116 = .ok (.aload_n 0, 1) := by decide +kernel
theorem dX9_apart_117 : decode cX9_apart 117 = .ok (.getfield 77, 3) := by decide +kernel
theorem dX9_apart_120 : decode cX9_apart 120 = .ok (.getfield 244, 3) := by decide +kernel
theorem dX9_apart_123 : decode cX9_apart 123 = .ok (.invokestatic 311, 3) := by decide +kernel
theorem dX9_apart_126 : decode cX9_apart 126 = .ok (.aload_n 0, 1) := by decide +kernel
theorem dX9_apart_127 : decode cX9_apart 127 = .ok (.getfield 80, 3) := by decide +kernel
theorem dX9_apart_130 : decode cX9_apart 130 = .ok (.getfield 175, 3) := by decide +kernel
theorem dX9_apart_133 : decode cX9_apart 133 = .ok (.iload_n 3, 1) := by decide +kernel
theorem dX9_apart_134 : decode cX9_apart 134 = .ok (.iaload, 1) := by decide +kernel
theorem dX9_apart_135 : decode cX9_apart 135 = .ok (.aload_n 0, 1) := by decide +kernel
theorem dX9_apart_136 : decode cX9_apart 136 = .ok (.getfield 80, 3) := by decide +kernel
theorem dX9_apart_139 : decode cX9_apart 139 = .ok (.getfield 244, 3) := by decide +kernel
theorem dX9_apart_142 : decode cX9_apart 142 = .ok (.invokestatic 311, 3) := by decide +kernel
theorem dX9_apart_145 : decode cX9_apart 145 = .ok (.lsub, 1) := by decide +kernel
theorem dX9_apart_146 : decode cX9_apart 146 = .ok (.lstore 4, 2) := by decide +kernel
theorem dX9_apart_148 : decode cX9_apart 148 = .ok (.aload_n 0, 1) := by decide +kernel
theorem dX9_apart_149 : decode cX9_apart 149 = .ok (.getfield 77, 3) := by decide +kernel
theorem dX9_apart_152 : decode cX9_apart 152 = .ok (.getfield 176, 3) := by decide +kernel
theorem dX9_apart_155 : decode cX9_apart 155 = .ok (.iload_n 3, 1) := by decide +kernel
theorem dX9_apart_156 : decode cX9_apart 156 = .ok (.iaload, 1) := by decide +kernel
theorem dX9_apart_157 : decode cX9_apart 157 = .ok (.aload_n 0, 1) := by decide +kernel
theorem dX9_apart_158 : decode cX9_apart 158 = .ok (.getfield 77, 3) := by decide +kernel
theorem dX9_apart_161 : decode cX9_apart 161 = .ok (.getfield 244, 3) := by decide +kernel
theorem dX9_apart_164 : decode cX9_apart 164 = .ok (.invokestatic 311, 3) := by decide +kernel
theorem dX9_apart_167 : decode cX9_apart 167 = .ok (.aload_n 0, 1) := by decide +kernel
theorem dX9_apart_168 : decode cX9_apart 168 = .ok (.getfield 80, 3) := by decide +kernel
theorem dX9_apart_171 : decode cX9_apart 171 = .ok (.getfield 176, 3) := by decide +kernel
theorem dX9_apart_174 : decode cX9_apart 174 = .ok (.iload_n 3, 1) := by decide +kernel
theorem dX9_apart_175 : decode cX9_apart 175 = .ok (.iaload, 1) := by decide +kernel
theorem dX9_apart_176 : decode cX9_apart 176 = .ok (.aload_n 0, 1) := by decide +kernel
theorem dX9_apart_177 : decode cX9_apart 177 = .ok (.getfield 80, 3) := by decide +kernel
theorem dX9_apart_180 : decode cX9_apart 180 = .ok (.getfield 244, 3) := by decide +kernel
theorem dX9_apart_183 : decode cX9_apart 183 = .ok (.invokestatic 311, 3) := by decide +kernel
theorem dX9_apart_186 : decode cX9_apart 186 = .ok (.lsub, 1) := by decide +kernel
theorem dX9_apart_187 : decode cX9_apart 187 = .ok (.lstore 6, 2) := by decide +kernel
theorem dX9_apart_189 : decode cX9_apart 189 = .ok (.lload_n 1, 1) := by decide +kernel
theorem dX9_apart_190 : decode cX9_apart 190 = .ok (.lload 4, 2) := by decide +kernel
theorem dX9_apart_192 : decode cX9_apart 192 = .ok (.invokestatic 315, 3) := by decide +kernel
theorem dX9_apart_195 : decode cX9_apart 195 = .ok (.lload 6, 2) := by decide +kernel
theorem dX9_apart_197 : decode cX9_apart 197 = .ok (.invokestatic 315, 3) := by decide +kernel
theorem dX9_apart_200 : decode cX9_apart 200 = .ok (.invokestatic 321, 3) := by decide +kernel
theorem dX9_apart_203 : decode cX9_apart 203 = .ok (.invokestatic 321, 3) := by decide +kernel
theorem dX9_apart_206 : decode cX9_apart 206 = .ok (.lstore_n 1, 1) := by decide +kernel
theorem dX9_apart_207 : decode cX9_apart 207 = .ok (.iinc 3 1, 3) := by decide +kernel
theorem dX9_apart_210 : decode cX9_apart 210 = .ok (.goto (-114), 3) := by decide +kernel
theorem dX9_apart_213 : decode cX9_apart 213 = .ok (.lload_n 1, 1) := by decide +kernel
theorem dX9_apart_214 : decode cX9_apart 214 = .ok (.lreturn, 1) := by decide +kernel
set_option maxRecDepth 20000 in
theorem ggX9_returned_X7_restartFrom : GoodIn wsX9_returned wsX7_restartFrom := goodIn_r _ [22, 23, 24, 25, 26, 27, 21, 28, 29, 30, 31, 32, 33, 34, 35, 36, 37, 170, 171, 172, 173, 174, 175, 176, 177] (by decide +kernel) (by decide +kernel)
set_option maxRecDepth 20000 in
theorem gX9_returned_X7_restartFrom : GoodIn wsX9_returned (wsV RX9 298 RX7 yX7_restartFrom wsX7_restartFrom) := goodIn_app (goodIn_of _ (by decide +kernel)) ggX9_returned_X7_restartFrom
