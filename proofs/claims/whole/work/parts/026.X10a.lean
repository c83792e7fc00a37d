set_option maxRecDepth 20000 in
theorem ggX10_init_X10_plain : GoodIn wsX10_init wsX10_plain := goodIn_r _ [28, 8, 10, 11, 12, 29, 67, 68, 69, 70, 71, 72, 73, 74, 75, 76, 77, 78, 79, 80, 81, 82, 83, 84, 85, 86, 87, 88, 89, 90, 91, 92, 93, 94, 95, 96, 97, 98, 99, 100, 101, 102, 103] (by decide +kernel) (by decide +kernel)
set_option maxRecDepth 20000 in
theorem gX10_init_X10_plain : GoodIn wsX10_init (wsV RX10 64 RX10 yX10_plain wsX10_plain) := goodIn_app (goodIn_of _ (by decide +kernel)) ggX10_init_X10_plain
set_option maxRecDepth 20000 in
theorem ggX10_init_X10_keepText : GoodIn wsX10_init wsX10_keepText := goodIn_r _ [33, 8, 11, 34, 35, 36, 37, 20, 38, 39, 40, 27, 41, 42, 15, 43, 44, 45, 46, 47, 48, 49, 50, 51, 52, 53, 54, 55, 56, 57, 58, 59, 60, 61, 62, 13, 63, 64, 65, 66, 67, 68, 69, 70, 71, 72, 73, 74, 75, 76, 77, 78, 79, 80, 81, 82, 83, 84, 85, 86, 87, 88, 89, 90, 91, 92, 93, 94, 95, 96, 97, 98, 99, 100, 101, 102, 103] (by decide +kernel) (by decide +kernel)
set_option maxRecDepth 20000 in
theorem gX10_init_X10_keepText : GoodIn wsX10_init (wsV RX10 67 RX10 yX10_keepText wsX10_keepText) := goodIn_app (goodIn_of _ (by decide +kernel)) ggX10_init_X10_keepText
theorem dX10_init_0 : decode cX10_init 0 = .ok (.aload_n 0, 1) := by decide +kernel
theorem dX10_init_1 : decode cX10_init 1 = .ok (.invokespecial 1, 3) := by decide +kernel
theorem dX10_init_4 : decode cX10_init 4 = .ok (.aload_n 0, 1) := by decide +kernel
theorem dX10_init_5 : decode cX10_init 5 = .ok (.sipush 700, 3) := by decide +kernel
theorem dX10_init_8 : decode cX10_init 8 = .ok (.newarray .int, 2) := by decide +kernel
theorem dX10_init_10 : decode cX10_init 10 = .ok (.putfield 7, 3) := by decide +kernel
theorem dX10_init_13 : decode cX10_init 13 = .ok (.aload_n 0, 1) := by decide +kernel
theorem dX10_init_14 : decode cX10_init 14 = .ok (.bipush 52, 2) := by decide +kernel
theorem dX10_init_16 : decode cX10_init 16 = .ok (.newarray .int, 2) := by decide +kernel
theorem dX10_init_18 : decode cX10_init 18 = .ok (.dup, 1) := by decide +kernel
theorem dX10_init_19 : decode cX10_init 19 = .ok (.iconst 0, 1) := by decide +kernel
theorem dX10_init_20 : decode cX10_init 20 = .ok (.bipush 115, 2) := by decide +kernel
theorem dX10_init_22 : decode cX10_init 22 = .ok (.iastore, 1) := by decide +kernel
theorem dX10_init_23 : decode cX10_init 23 = .ok (.dup, 1) := by decide +kernel
theorem dX10_init_24 : decode cX10_init 24 = .ok (.iconst 1, 1) := by decide +kernel
theorem dX10_init_25 : decode cX10_init 25 = .ok (.bipush 105, 2) := by decide +kernel
theorem dX10_init_27 : decode cX10_init 27 = .ok (.iastore, 1) := by decide +kernel
theorem dX10_init_28 : decode cX10_init 28 = .ok (.dup, 1) := by decide +kernel
theorem dX10_init_29 : decode cX10_init 29 = .ok (.iconst 2, 1) := by decide +kernel
theorem dX10_init_30 : decode cX10_init 30 = .ok (.bipush 122, 2) := by decide +kernel
theorem dX10_init_32 : decode cX10_init 32 = .ok (.iastore, 1) := by decide +kernel
theorem dX10_init_33 : decode cX10_init 33 = .ok (.dup, 1) := by decide +kernel
theorem dX10_init_34 : decode cX10_init 34 = .ok (.iconst 3, 1) := by decide +kernel
theorem dX10_init_35 : decode cX10_init 35 = .ok (.bipush 101, 2) := by decide +kernel
theorem dX10_init_37 : decode cX10_init 37 = .ok (.iastore, 1) := by decide +kernel
theorem dX10_init_38 : decode cX10_init 38 = .ok (.dup, 1) := by decide +kernel
theorem dX10_init_39 : decode cX10_init 39 = .ok (.iconst 4, 1) := by decide +kernel
theorem dX10_init_40 : decode cX10_init 40 = .ok (.bipush 32, 2) := by decide +kernel
theorem dX10_init_42 : decode cX10_init 42 = .ok (.iastore, 1) := by decide +kernel
theorem dX10_init_43 : decode cX10_init 43 = .ok (.dup, 1) := by decide +kernel
theorem dX10_init_44 : decode cX10_init 44 = .ok (.iconst 5, 1) := by decide +kernel
theorem dX10_init_45 : decode cX10_init 45 = .ok (.bipush 98, 2) := by decide +kernel
theorem dX10_init_47 : decode cX10_init 47 = .ok (.iastore, 1) := by decide +kernel
theorem dX10_init_48 : decode cX10_init 48 = .ok (.dup, 1) := by decide +kernel
theorem dX10_init_49 : decode cX10_init 49 = .ok (.bipush 6, 2) := by decide +kernel
theorem dX10_init_51 : decode cX10_init 51 = .ok (.bipush 105, 2) := by decide +kernel
theorem dX10_init_53 : decode cX10_init 53 = .ok (.iastore, 1) := by decide +kernel
theorem dX10_init_54 : decode cX10_init 54 = .ok (.dup, 1) := by decide +kernel
theorem dX10_init_55 : decode cX10_init 55 = .ok (.bipush 7, 2) := by decide +kernel
theorem dX10_init_57 : decode cX10_init 57 = .ok (.bipush 116, 2) := by decide +kernel
theorem dX10_init_59 : decode cX10_init 59 = .ok (.iastore, 1) := by decide +kernel
theorem dX10_init_60 : decode cX10_init 60 = .ok (.dup, 1) := by decide +kernel
theorem dX10_init_61 : decode cX10_init 61 = .ok (.bipush 8, 2) := by decide +kernel
theorem dX10_init_63 : decode cX10_init 63 = .ok (.bipush 115, 2) := by decide +kernel
theorem dX10_init_65 : decode cX10_init 65 = .ok (.iastore, 1) := by decide +kernel
theorem dX10_init_66 : decode cX10_init 66 = .ok (.dup, 1) := by decide +kernel
theorem dX10_init_67 : decode cX10_init 67 = .ok (.bipush 9, 2) := by decide +kernel
theorem dX10_init_69 : decode cX10_init 69 = .ok (.bipush 32, 2) := by decide +kernel
theorem dX10_init_71 : decode cX10_init 71 = .ok (.iastore, 1) := by decide +kernel
theorem dX10_init_72 : decode cX10_init 72 = .ok (.dup, 1) := by decide +kernel
theorem dX10_init_73 : decode cX10_init 73 = .ok (.bipush 10, 2) := by decide +kernel
theorem dX10_init_75 : decode cX10_init 75 = .ok (.bipush 114, 2) := by decide +kernel
theorem dX10_init_77 : decode cX10_init 77 = .ok (.iastore, 1) := by decide +kernel
theorem dX10_init_78 : decode cX10_init 78 = .ok (.dup, 1) := by decide +kernel
theorem dX10_init_79 : decode cX10_init 79 = .ok (.bipush 11, 2) := by decide +kernel
theorem dX10_init_81 : decode cX10_init 81 = .ok (.bipush 97, 2) := by decide +kernel
theorem dX10_init_83 : decode cX10_init 83 = .ok (.iastore, 1) := by decide +kernel
theorem dX10_init_84 : decode cX10_init 84 = .ok (.dup, 1) := by decide +kernel
theorem dX10_init_85 : decode cX10_init 85 = .ok (.bipush 12, 2) := by decide +kernel
theorem dX10_init_87 : decode cX10_init 87 = .ok (.bipush 100, 2) := by decide +kernel
theorem dX10_init_89 : decode cX10_init 89 = .ok (.iastore, 1) := by decide +kernel
theorem dX10_init_90 : decode cX10_init 90 = .ok (.dup, 1) := by decide +kernel
theorem dX10_init_91 : decode cX10_init 91 = .ok (.bipush 13, 2) := by decide +kernel
theorem dX10_init_93 : decode cX10_init 93 = .ok (.bipush 105, 2) := by decide +kernel
theorem dX10_init_95 : decode cX10_init 95 = .ok (.iastore, 1) := by decide +kernel
theorem dX10_init_96 : decode cX10_init 96 = .ok (.dup, 1) := by decide +kernel
theorem dX10_init_97 : decode cX10_init 97 = .ok (.bipush 14, 2) := by decide +kernel
theorem dX10_init_99 : decode cX10_init 99 = .ok (.bipush 120, 2) := by decide +kernel
theorem dX10_init_101 : decode cX10_init 101 = .ok (.iastore, 1) := by decide +kernel
theorem dX10_init_102 : decode cX10_init 102 = .ok (.dup, 1) := by decide +kernel
theorem dX10_init_103 : decode cX10_init 103 = .ok (.bipush 15, 2) := by decide +kernel
theorem dX10_init_105 : decode cX10_init 105 = .ok (.bipush 32, 2) := by decide +kernel
theorem dX10_init_107 : decode cX10_init 107 = .ok (.iastore, 1) := by decide +kernel
theorem dX10_init_108 : decode cX10_init 108 = .ok (.dup, 1) := by decide +kernel
theorem dX10_init_109 : decode cX10_init 109 = .ok (.bipush 16, 2) := by decide +kernel
theorem dX10_init_111 : decode cX10_init 111 = .ok (.bipush 111, 2) := by decide +kernel
theorem dX10_init_113 : decode cX10_init 113 = .ok (.iastore, 1) := by decide +kernel
theorem dX10_init_114 : decode cX10_init 114 = .ok (.dup, 1) := by decide +kernel
theorem dX10_init_115 : decode cX10_init 115 = .ok (.bipush 17, 2) := by decide +kernel
theorem dX10_init_117 : decode cX10_init 117 = .ok (.bipush 114, 2) := by decide +kernel
theorem dX10_init_119 : decode cX10_init 119 = .ok (.iastore, 1) := by decide +kernel
theorem dX10_init_120 : decode cX10_init 120 = .ok (.dup, 1) := by decide +kernel
theorem dX10_init_121 : decode cX10_init 121 = .ok (.bipush 18, 2) := by decide +kernel
theorem dX10_init_123 : decode cX10_init 123 = .ok (.bipush 100, 2) := by decide +kernel
theorem dX10_init_125 : decode cX10_init 125 = .ok (.iastore, 1) := by decide +kernel
theorem dX10_init_126 : decode cX10_init 126 = .ok (.dup, 1) := by decide +kernel
theorem dX10_init_127 : decode cX10_init 127 = .ok (.bipush 19, 2) := by decide +kernel
theorem dX10_init_129 : decode cX10_init 129 = .ok (.bipush 101, 2) := by decide +kernel
theorem dX10_init_131 : decode cX10_init 131 = .ok (.iastore, 1) := by decide +kernel
theorem dX10_init_132 : decode cX10_init 132 = .ok (.dup, 1) := by decide +kernel
theorem dX10_init_133 : decode cX10_init 133 = .ok (.bipush 20, 2) := by decide +kernel
theorem dX10_init_135 : decode cX10_init 135 = .ok (.bipush 114, 2) := by decide +kernel
theorem dX10_init_137 : decode cX10_init 137 = .ok (.iastore, 1) := by decide +kernel
theorem dX10_init_138 : decode cX10_init 138 = .ok (.dup, 1) := by decide +kernel
theorem dX10_init_139 : decode cX10_init 139 = .ok (.bipush 21, 2) := by decide +kernel
theorem dX10_init_141 : decode cX10_init 141 = .ok (.bipush 32, 2) := by decide +kernel
theorem dX10_init_143 : decode cX10_init 143 = .ok (.iastore, 1) := by decide +kernel
theorem dX10_init_144 : decode cX10_init 144 = .ok (.dup, 1) := by decide +kernel
theorem dX10_init_145 : decode cX10_init 145 = .ok (.bipush 22, 2) := by decide +kernel
theorem dX10_init_147 : decode cX10_init 147 = .ok (.bipush 110, 2) := by decide +kernel
theorem dX10_init_149 : decode cX10_init 149 = .ok (.iastore, 1) := by decide +kernel
theorem dX10_init_150 : decode cX10_init 150 = .ok (.dup, 1) := by decide +kernel
theorem dX10_init_151 : decode cX10_init 151 = .ok (.bipush 23, 2) := by decide +kernel
theorem dX10_init_153 : decode cX10_init 153 = .ok (.bipush 101, 2) := by decide +kernel
theorem dX10_init_155 : decode cX10_init 155 = .ok (.iastore, 1) := by decide +kernel
theorem dX10_init_156 : decode cX10_init 156 = .ok (.dup, 1) := by decide +kernel
theorem dX10_init_157 : decode cX10_init 157 = .ok (.bipush 24, 2) := by decide +kernel
theorem dX10_init_159 : decode cX10_init 159 = .ok (.bipush 97, 2) := by decide +kernel
theorem dX10_init_161 : decode cX10_init 161 = .ok (.iastore, 1) := by decide +kernel
theorem dX10_init_162 : decode cX10_init 162 = .ok (.dup, 1) := by decide +kernel
theorem dX10_init_163 : decode cX10_init 163 = .ok (.bipush 25, 2) := by decide +kernel
theorem dX10_init_165 : decode cX10_init 165 = .ok (.bipush 114, 2) := by decide +kernel
theorem dX10_init_167 : decode cX10_init 167 = .ok (.iastore, 1) := by decide +kernel
theorem dX10_init_168 : decode cX10_init 168 = .ok (.dup, 1) := by decide +kernel
theorem dX10_init_169 : decode cX10_init 169 = .ok (.bipush 26, 2) := by decide +kernel
theorem dX10_init_171 : decode cX10_init 171 = .ok (.bipush 32, 2) := by decide +kernel
theorem dX10_init_173 : decode cX10_init 173 = .ok (.iastore, 1) := by decide +kernel
theorem dX10_init_174 : decode cX10_init 174 = .ok (.dup, 1) := by decide +kernel
theorem dX10_init_175 : decode cX10_init 175 = .ok (.bipush 27, 2) := by decide +kernel
theorem dX10_init_177 : decode cX10_init 177 = .ok (.bipush 115, 2) := by decide +kernel
theorem dX10_init_179 : decode cX10_init 179 = .ok (.iastore, 1) := by decide +kernel
theorem dX10_init_180 : decode cX10_init 180 = .ok (.dup, 1) := by decide +kernel
theorem dX10_init_181 : decode cX10_init 181 = .ok (.bipush 28, 2) := by decide +kernel
theorem dX10_init_183 : decode cX10_init 183 = .ok (.bipush 101, 2) := by decide +kernel
theorem dX10_init_185 : decode cX10_init 185 = .ok (.iastore, 1) := by decide +kernel
theorem dX10_init_186 : decode cX10_init 186 = .ok (.dup, 1) := by decide +kernel
theorem dX10_init_187 : decode cX10_init 187 = .ok (.bipush 29, 2) := by decide +kernel
theorem dX10_init_189 : decode cX10_init 189 = .ok (.bipush 101, 2) := by decide +kernel
theorem dX10_init_191 : decode cX10_init 191 = .ok (.iastore, 1) := by decide +kernel
theorem dX10_init_192 : decode cX10_init 192 = .ok (.dup, 1) := by decide +kernel
theorem dX10_init_193 : decode cX10_init 193 = .ok (.bipush 30, 2) := by decide +kernel
theorem dX10_init_195 : decode cX10_init 195 = .ok (.bipush 100, 2) := by decide +kernel
theorem dX10_init_197 : decode cX10_init 197 = .ok (.iastore, 1) := by decide +kernel
theorem dX10_init_198 : decode cX10_init 198 = .ok (.dup, 1) := by decide +kernel
theorem dX10_init_199 : decode cX10_init 199 = .ok (.bipush 31, 2) := by decide +kernel
theorem dX10_init_201 : decode cX10_init 201 = .ok (.bipush 32, 2) := by decide +kernel
theorem dX10_init_203 : decode cX10_init 203 = .ok (.iastore, 1) := by decide +kernel
theorem dX10_init_204 : decode cX10_init 204 = .ok (.dup, 1) := by decide +kernel
theorem dX10_init_205 : decode cX10_init 205 = .ok (.bipush 32, 2) := by decide +kernel
theorem dX10_init_207 : decode cX10_init 207 = .ok (.bipush 114, 2) := by decide +kernel
theorem dX10_init_209 : decode cX10_init 209 = .ok (.iastore, 1) := by decide +kernel
theorem dX10_init_210 : decode cX10_init 210 = .ok (.dup, 1) := by decide +kernel
theorem dX10_init_211 : decode cX10_init 211 = .ok (.bipush 33, 2) := by decide +kernel
theorem dX10_init_213 : decode cX10_init 213 = .ok (.bipush 101, 2) := by decide +kernel
theorem dX10_init_215 : decode cX10_init 215 = .ok (.iastore, 1) := by decide +kernel
theorem dX10_init_216 : decode cX10_init 216 = .ok (.dup, 1) := by decide +kernel
theorem dX10_init_217 : decode cX10_init 217 = .ok (.bipush 34, 2) := by decide +kernel
theorem dX10_init_219 : decode cX10_init 219 = .ok (.bipush 97, 2) := by decide +kernel
theorem dX10_init_221 : decode cX10_init 221 = .ok (.iastore, 1) := by decide +kernel
theorem dX10_init_222 : decode cX10_init 222 = .ok (.dup, 1) := by decide +kernel
theorem dX10_init_223 : decode cX10_init 223 = .ok (.bipush 35, 2) := by decide +kernel
theorem dX10_init_225 : decode cX10_init 225 = .ok (.bipush 108, 2) := by decide +kernel
theorem dX10_init_227 : decode cX10_init 227 = .ok (.iastore, 1) := by decide +kernel
theorem dX10_init_228 : decode cX10_init 228 = .ok (.dup, 1) := by decide +kernel
theorem dX10_init_229 : decode cX10_init 229 = .ok (.bipush 36, 2) := by decide +kernel
theorem dX10_init_231 : decode cX10_init 231 = .ok (.bipush 32, 2) := by decide +kernel
theorem dX10_init_233 : decode cX10_init 233 = .ok (.iastore, 1) := by decide +kernel
theorem dX10_init_234 : decode cX10_init 234 = .ok (.dup, 1) := by decide +kernel
theorem dX10_init_235 : decode cX10_init 235 = .ok (.bipush 37, 2) := by decide +kernel
theorem dX10_init_237 : decode cX10_init 237 = .ok (.bipush 108, 2) := by decide +kernel
theorem dX10_init_239 : decode cX10_init 239 = .ok (.iastore, 1) := by decide +kernel
theorem dX10_init_240 : decode cX10_init 240 = .ok (.dup, 1) := by decide +kernel
theorem dX10_init_241 : decode cX10_init 241 = .ok (.bipush 38, 2) := by decide +kernel
theorem dX10_init_243 : decode cX10_init 243 = .ok (.bipush 101, 2) := by decide +kernel
theorem dX10_init_245 : decode cX10_init 245 = .ok (.iastore, 1) := by decide +kernel
theorem dX10_init_246 : decode cX10_init 246 = .ok (.dup, 1) := by decide +kernel
theorem dX10_init_247 : decode cX10_init 247 = .ok (.bipush 39, 2) := by decide +kernel
theorem dX10_init_249 : decode cX10_init 249 = .ok (.bipush 115, 2) := by decide +kernel
theorem dX10_init_251 : decode cX10_init 251 = .ok (.iastore, 1) := by decide +kernel
theorem dX10_init_252 : decode cX10_init 252 = .ok (.dup, 1) := by decide +kernel
theorem dX10_init_253 : decode cX10_init 253 = .ok (.bipush 40, 2) := by decide +kernel
theorem dX10_init_255 : decode cX10_init 255 = .ok (.bipush 115, 2) := by decide +kernel
theorem dX10_init_257 : decode cX10_init 257 = .ok (.iastore, 1) := by decide +kernel
theorem dX10_init_258 : decode cX10_init 258 = .ok (.dup, 1) := by decide +kernel
theorem dX10_init_259 : decode cX10_init 259 = .ok (.bipush 41, 2) := by decide +kernel
theorem dX10_init_261 : decode cX10_init 261 = .ok (.bipush 32, 2) := by decide +kernel
theorem dX10_init_263 : decode cX10_init 263 = .ok (.iastore, 1) := by decide +kernel
theorem dX10_init_264 : decode cX10_init 264 = .ok (.dup, 1) := by decide +kernel
theorem dX10_init_265 : decode cX10_init 265 = .ok (.bipush 42, 2) := by decide +kernel
theorem dX10_init_267 : decode cX10_init 267 = .ok (.bipush 115, 2) := by decide +kernel
theorem dX10_init_269 : decode cX10_init 269 = .ok (.iastore, 1) := by decide +kernel
theorem dX10_init_270 : decode cX10_init 270 = .ok (.dup, 1) := by decide +kernel
theorem dX10_init_271 : decode cX10_init 271 = .ok (.bipush 43, 2) := by decide +kernel
theorem dX10_init_273 : decode cX10_init 273 = .ok (.bipush 105, 2) := by decide +kernel
theorem dX10_init_275 : decode cX10_init 275 = .ok (.iastore, 1) := by decide +kernel
theorem dX10_init_276 : decode cX10_init 276 = .ok (.dup, 1) := by decide +kernel
theorem dX10_init_277 : decode cX10_init 277 = .ok (.bipush 44, 2) := by decide +kernel
theorem dX10_init_279 : decode cX10_init 279 = .ok (.bipush 100, 2) := by decide +kernel
theorem dX10_init_281 : decode cX10_init 281 = .ok (.iastore, 1) := by decide +kernel
theorem dX10_init_282 : decode cX10_init 282 = .ok (.dup, 1) := by decide +kernel
theorem dX10_init_283 : decode cX10_init 283 = .ok (.bipush 45, 2) := by decide +kernel
theorem dX10_init_285 : decode cX10_init 285 = .ok (.bipush 101, 2) := by decide +kernel
theorem dX10_init_287 : decode cX10_init 287 = .ok (.iastore, 1) := by decide +kernel
theorem dX10_init_288 : decode cX10_init 288 = .ok (.dup, 1) := by decide +kernel
theorem dX10_init_289 : decode cX10_init 289 = .ok (.bipush 46, 2) := by decide +kernel
theorem dX10_init_291 : decode cX10_init 291 = .ok (.bipush 32, 2) := by decide +kernel
theorem dX10_init_293 : decode cX10_init 293 = .ok (.iastore, 1) := by decide +kernel
theorem dX10_init_294 : decode cX10_init 294 = .ok (.dup, 1) := by decide +kernel
theorem dX10_init_295 : decode cX10_init 295 = .ok (.bipush 47, 2) := by decide +kernel
theorem dX10_init_297 : decode cX10_init 297 = .ok (.bipush 100, 2) := by decide +kernel
theorem dX10_init_299 : decode cX10_init 299 = .ok (.iastore, 1) := by decide +kernel
theorem dX10_init_300 : decode cX10_init 300 = .ok (.dup, 1) := by decide +kernel
theorem dX10_init_301 : decode cX10_init 301 = .ok (.bipush 48, 2) := by decide +kernel
theorem dX10_init_303 : decode cX10_init 303 = .ok (.bipush 111, 2) := by decide +kernel
theorem dX10_init_305 : decode cX10_init 305 = .ok (.iastore, 1) := by decide +kernel
theorem dX10_init_306 : decode cX10_init 306 = .ok (.dup, 1) := by decide +kernel
theorem dX10_init_307 : decode cX10_init 307 = .ok (.bipush 49, 2) := by decide +kernel
theorem dX10_init_309 : decode cX10_init 309 = .ok (.bipush 119, 2) := by decide +kernel
theorem dX10_init_311 : decode cX10_init 311 = .ok (.iastore, 1) := by decide +kernel
theorem dX10_init_312 : decode cX10_init 312 = .ok (.dup, 1) := by decide +kernel
theorem dX10_init_313 : decode cX10_init 313 = .ok (.bipush 50, 2) := by decide +kernel
theorem dX10_init_315 : decode cX10_init 315 = .ok (.bipush 110, 2) := by decide +kernel
theorem dX10_init_317 : decode cX10_init 317 = .ok (.iastore, 1) := by decide +kernel
theorem dX10_init_318 : decode cX10_init 318 = .ok (.dup, 1) := by decide +kernel
theorem dX10_init_319 : decode cX10_init 319 = .ok (.bipush 51, 2) := by decide +kernel
theorem dX10_init_321 : decode cX10_init 321 = .ok (.bipush 32, 2) := by decide +kernel
theorem dX10_init_323 : decode cX10_init 323 = .ok (.iastore, 1) := by decide +kernel
theorem dX10_init_324 : decode cX10_init 324 = .ok (.putfield 13, 3) := by decide +kernel
theorem dX10_init_327 : decode cX10_init 327 = .ok (.aload_n 0, 1) := by decide +kernel
theorem dX10_init_328 : decode cX10_init 328 = .ok (.iconst (-1), 1) := by decide +kernel
theorem dX10_init_329 : decode cX10_init 329 = .ok (.putfield 16, 3) := by decide +kernel
theorem dX10_init_332 : decode cX10_init 332 = .ok (.aload_n 0, 1) := by decide +kernel
theorem dX10_init_333 : decode cX10_init 333 = .ok (.bipush 12, 2) := by decide +kernel
theorem dX10_init_335 : decode cX10_init 335 = .ok (.newarray .int, 2) := by decide +kernel
theorem dX10_init_337 : decode cX10_init 337 = .ok (.putfield 20, 3) := by decide +kernel
theorem dX10_init_340 : decode cX10_init 340 = .ok (.aload_n 0, 1) := by decide +kernel
theorem dX10_init_341 : decode cX10_init 341 = .ok (.bipush 6, 2) := by decide +kernel
theorem dX10_init_343 : decode cX10_init 343 = .ok (.newarray .boolean, 2) := by decide +kernel
theorem dX10_init_345 : decode cX10_init 345 = .ok (.putfield 23, 3) := by decide +kernel
theorem dX10_init_348 : decode cX10_init 348 = .ok (.aload_n 0, 1) := by decide +kernel
theorem dX10_init_349 : decode cX10_init 349 = .ok (.sipush 128, 3) := by decide +kernel
theorem dX10_init_352 : decode cX10_init 352 = .ok (.newarray .int, 2) := by decide +kernel
theorem dX10_init_354 : decode cX10_init 354 = .ok (.putfield 27, 3) := by decide +kernel
theorem dX10_init_357 : decode cX10_init 357 = .ok (.aload_n 0, 1) := by decide +kernel
theorem dX10_init_358 : decode cX10_init 358 = .ok (.bipush 64, 2) := by decide +kernel
theorem dX10_init_360 : decode cX10_init 360 = .ok (.newarray .boolean, 2) := by decide +kernel
theorem dX10_init_362 : decode cX10_init 362 = .ok (.putfield 30, 3) := by decide +kernel
theorem dX10_init_365 : decode cX10_init 365 = .ok (.aload_n 0, 1) := by decide +kernel
theorem dX10_init_366 : decode cX10_init 366 = .ok (.sipush 3128, 3) := by decide +kernel
theorem dX10_init_369 : decode cX10_init 369 = .ok (.newarray .int, 2) := by decide +kernel
theorem dX10_init_371 : decode cX10_init 371 = .ok (.putfield 33, 3) := by decide +kernel
theorem dX10_init_374 : decode cX10_init 374 = .ok (.aload_n 0, 1) := by decide +kernel
theorem dX10_init_375 : decode cX10_init 375 = .ok (.bipush 9, 2) := by decide +kernel
theorem dX10_init_377 : decode cX10_init 377 = .ok (.newarray .int, 2) := by decide +kernel
theorem dX10_init_379 : decode cX10_init 379 = .ok (.dup, 1) := by decide +kernel
theorem dX10_init_380 : decode cX10_init 380 = .ok (.iconst 0, 1) := by decide +kernel
theorem dX10_init_381 : decode cX10_init 381 = .ok (.sipush 16384, 3) := by decide +kernel
theorem dX10_init_384 : decode cX10_init 384 = .ok (.iastore, 1) := by decide +kernel
theorem dX10_init_385 : decode cX10_init 385 = .ok (.dup, 1) := by decide +kernel
theorem dX10_init_386 : decode cX10_init 386 = .ok (.iconst 1, 1) := by decide +kernel
theorem dX10_init_387 : decode cX10_init 387 = .ok (.sipush 16069, 3) := by decide +kernel
theorem dX10_init_390 : decode cX10_init 390 = .ok (.iastore, 1) := by decide +kernel
theorem dX10_init_391 : decode cX10_init 391 = .ok (.dup, 1) := by decide +kernel
theorem dX10_init_392 : decode cX10_init 392 = .ok (.iconst 2, 1) := by decide +kernel
theorem dX10_init_393 : decode cX10_init 393 = .ok (.sipush 15137, 3) := by decide +kernel
theorem dX10_init_396 : decode cX10_init 396 = .ok (.iastore, 1) := by decide +kernel
theorem dX10_init_397 : decode cX10_init 397 = .ok (.dup, 1) := by decide +kernel
theorem dX10_init_398 : decode cX10_init 398 = .ok (.iconst 3, 1) := by decide +kernel
theorem dX10_init_399 : decode cX10_init 399 = .ok (.sipush 13623, 3) := by decide +kernel
theorem dX10_init_402 : decode cX10_init 402 = .ok (.iastore, 1) := by decide +kernel
theorem dX10_init_403 : decode cX10_init 403 = .ok (.dup, 1) := by decide +kernel
theorem dX10_init_404 : decode cX10_init 404 = .ok (.iconst 4, 1) := by decide +kernel
theorem dX10_init_405 : decode cX10_init 405 = .ok (.sipush 11585, 3) := by decide +kernel
theorem dX10_init_408 : decode cX10_init 408 = .ok (.iastore, 1) := by decide +kernel
theorem dX10_init_409 : decode cX10_init 409 = .ok (.dup, 1) := by decide +kernel
theorem dX10_init_410 : decode cX10_init 410 = .ok (.iconst 5, 1) := by decide +kernel
theorem dX10_init_411 : decode cX10_init 411 = .ok (.sipush 9102, 3) := by decide +kernel
theorem dX10_init_414 : decode cX10_init 414 = .ok (.iastore, 1) := by decide +kernel
theorem dX10_init_415 : decode cX10_init 415 = .ok (.dup, 1) := by decide +kernel
theorem dX10_init_416 : decode cX10_init 416 = .ok (.bipush 6, 2) := by decide +kernel
theorem dX10_init_418 : decode cX10_init 418 = .ok (.sipush 6270, 3) := by decide +kernel
theorem dX10_init_421 : decode cX10_init 421 = .ok (.iastore, 1) := by decide +kernel
theorem dX10_init_422 : decode cX10_init 422 = .ok (.dup, 1) := by decide +kernel
theorem dX10_init_423 : decode cX10_init 423 = .ok (.bipush 7, 2) := by decide +kernel
theorem dX10_init_425 : decode cX10_init 425 = .ok (.sipush 3196, 3) := by decide +kernel
theorem dX10_init_428 : decode cX10_init 428 = .ok (.iastore, 1) := by decide +kernel
theorem dX10_init_429 : decode cX10_init 429 = .ok (.dup, 1) := by decide +kernel
theorem dX10_init_430 : decode cX10_init 430 = .ok (.bipush 8, 2) := by decide +kernel
theorem dX10_init_432 : decode cX10_init 432 = .ok (.iconst 0, 1) := by decide +kernel
theorem dX10_init_433 : decode cX10_init 433 = .ok (.iastore, 1) := by decide +kernel
theorem dX10_init_434 : decode cX10_init 434 = .ok (.putfield 36, 3) := by decide +kernel
theorem dX10_init_437 : decode cX10_init 437 = .ok (.aload_n 0, 1) := by decide +kernel
theorem dX10_init_438 : decode cX10_init 438 = .ok (.bipush 32, 2) := by decide +kernel
theorem dX10_init_440 : decode cX10_init 440 = .ok (.newarray .int, 2) := by decide +kernel
theorem dX10_init_442 : decode cX10_init 442 = .ok (.putfield 39, 3) := by decide +kernel
theorem dX10_init_445 : decode cX10_init 445 = .ok (.aload_n 0, 1) := by decide +kernel
theorem dX10_init_446 : decode cX10_init 446 = .ok (.bipush 32, 2) := by decide +kernel
theorem dX10_init_448 : decode cX10_init 448 = .ok (.newarray .int, 2) := by decide +kernel
theorem dX10_init_450 : decode cX10_init 450 = .ok (.putfield 42, 3) := by decide +kernel
theorem dX10_init_453 : decode cX10_init 453 = .ok (.aload_n 0, 1) := by decide +kernel
theorem dX10_init_454 : decode cX10_init 454 = .ok (.bipush 32, 2) := by decide +kernel
theorem dX10_init_456 : decode cX10_init 456 = .ok (.newarray .int, 2) := by decide +kernel
theorem dX10_init_458 : decode cX10_init 458 = .ok (.putfield 45, 3) := by decide +kernel
theorem dX10_init_461 : decode cX10_init 461 = .ok (.aload_n 0, 1) := by decide +kernel
theorem dX10_init_462 : decode cX10_init 462 = .ok (.bipush 64, 2) := by decide +kernel
theorem dX10_init_464 : decode cX10_init 464 = .ok (.newarray .long, 2) := by decide +kernel
theorem dX10_init_466 : decode cX10_init 466 = .ok (.putfield 48, 3) := by decide +kernel
theorem dX10_init_469 : decode cX10_init 469 = .ok (.aload_n 0, 1) := by decide +kernel
theorem dX10_init_470 : decode cX10_init 470 = .ok (.iconst (-1), 1) := by decide +kernel
theorem dX10_init_471 : decode cX10_init 471 = .ok (.putfield 52, 3) := by decide +kernel
theorem dX10_init_474 : decode cX10_init 474 = .ok (.aload_n 0, 1) := by decide +kernel
theorem dX10_init_475 : decode cX10_init 475 = .ok (.bipush 72, 2) := by decide +kernel
theorem dX10_init_477 : decode cX10_init 477 = .ok (.newarray .int, 2) := by decide +kernel
theorem dX10_init_479 : decode cX10_init 479 = .ok (.putfield 55, 3) := by decide +kernel
theorem dX10_init_482 : decode cX10_init 482 = .ok (.aload_n 0, 1) := by decide +kernel
theorem dX10_init_483 : decode cX10_init 483 = .ok (.bipush 24, 2) := by decide +kernel
theorem dX10_init_485 : decode cX10_init 485 = .ok (.newarray .boolean, 2) := by decide +kernel
theorem dX10_init_487 : decode cX10_init 487 = .ok (.putfield 58, 3) := by decide +kernel
theorem dX10_init_490 : decode cX10_init 490 = .ok (.aload_n 0, 1) := by decide +kernel
theorem dX10_init_491 : decode cX10_init 491 = .ok (.bipush 16, 2) := by decide +kernel
theorem dX10_init_493 : decode cX10_init 493 = .ok (.newarray .int, 2) := by decide +kernel
theorem dX10_init_495 : decode cX10_init 495 = .ok (.putfield 61, 3) := by decide +kernel
theorem dX10_init_498 : decode cX10_init 498 = .ok (.aload_n 0, 1) := by decide +kernel
theorem dX10_init_499 : decode cX10_init 499 = .ok (.invokevirtual 64, 3) := by decide +kernel
theorem dX10_init_502 : decode cX10_init 502 = .ok (.aload_n 0, 1) := by decide +kernel
theorem dX10_init_503 : decode cX10_init 503 = .ok (.invokevirtual 67, 3) := by decide +kernel
theorem dX10_init_506 : decode cX10_init 506 = .ok (.return_, 1) := by decide +kernel
theorem dX10_thrown_0 : decode cX10_thrown 0 = .ok (.aload_n 0, 1) := by decide +kernel
theorem dX10_thrown_1 : decode cX10_thrown 1 = .ok (.getfield 70, 3) := by decide +kernel
theorem dX10_thrown_4 : decode cX10_thrown 4 = .ok (.ireturn, 1) := by decide +kernel
theorem dX10_feed_0 : decode cX10_feed 0 = .ok (.aload_n 0, 1) := by decide +kernel
theorem dX10_feed_1 : decode cX10_feed 1 = .ok (.iconst 0, 1) := by decide +kernel
theorem dX10_feed_2 : decode cX10_feed 2 = .ok (.putfield 70, 3) := by decide +kernel
theorem dX10_feed_5 : decode cX10_feed 5 = .ok (.aload_n 0, 1) := by decide +kernel
theorem dX10_feed_6 : decode cX10_feed 6 = .ok (.getfield 73, 3) := by decide +kernel
theorem dX10_feed_9 : decode cX10_feed 9 = .ok (.bipush 20, 2) := by decide +kernel
theorem dX10_feed_11 : decode cX10_feed 11 = .ok (.iadd, 1) := by decide +kernel
theorem dX10_feed_12 : decode cX10_feed 12 = .ok (.sipush 700, 3) := by decide +kernel
theorem dX10_feed_15 : decode cX10_feed 15 = .ok (.if_icmp .le 5, 3) := by decide +kernel
theorem dX10_feed_18 : decode cX10_feed 18 = .ok (.iconst (-1), 1) := by decide +kernel
theorem dX10_feed_19 : decode cX10_feed 19 = .ok (.ireturn, 1) := by decide +kernel
theorem dX10_feed_20 : decode cX10_feed 20 = .ok (.iconst 0, 1) := by decide +kernel
theorem dX10_feed_21 : decode cX10_feed 21 = .ok (.istore 6, 2) := by decide +kernel
theorem dX10_feed_23 : decode cX10_feed 23 = .ok (.iload 6, 2) := by decide +kernel
theorem dX10_feed_25 : decode cX10_feed 25 = .ok (.bipush 20, 2) := by decide +kernel
theorem dX10_feed_27 : decode cX10_feed 27 = .ok (.if_icmp .ge 86, 3) := by decide +kernel
theorem dX10_feed_30 : decode cX10_feed 30 = .ok (.iload 6, 2) := by decide +kernel
theorem dX10_feed_32 : decode cX10_feed 32 = .ok (.iconst 4, 1) := by decide +kernel
theorem dX10_feed_33 : decode cX10_feed 33 = .ok (.if_icmp .ge 7, 3) := by decide +kernel
theorem dX10_feed_36 : decode cX10_feed 36 = .ok (.iload_n 1, 1) := by decide +kernel
theorem dX10_feed_37 : decode cX10_feed 37 = .ok (.goto 39, 3) := by decide +kernel
theorem dX10_feed_40 : decode cX10_feed 40 = .ok (.iload 6, 2) := by decide +kernel
theorem dX10_feed_42 : decode cX10_feed 42 = .ok (.bipush 8, 2) := by decide +kernel
theorem dX10_feed_44 : decode cX10_feed 44 = .ok (.if_icmp .ge 7, 3) := by decide +kernel
theorem dX10_feed_47 : decode cX10_feed 47 = .ok (.iload_n 2, 1) := by decide +kernel
theorem dX10_feed_48 : decode cX10_feed 48 = .ok (.goto 28, 3) := by decide +kernel
theorem dX10_feed_51 : decode cX10_feed 51 = .ok (.iload 6, 2) := by decide +kernel
theorem dX10_feed_53 : decode cX10_feed 53 = .ok (.bipush 12, 2) := by decide +kernel
theorem dX10_feed_55 : decode cX10_feed 55 = .ok (.if_icmp .ge 7, 3) := by decide +kernel
theorem dX10_feed_58 : decode cX10_feed 58 = .ok (.iload_n 3, 1) := by decide +kernel
theorem dX10_feed_59 : decode cX10_feed 59 = .ok (.goto 17, 3) := by decide +kernel
theorem dX10_feed_62 : decode cX10_feed 62 = .ok (.iload 6, 2) := by decide +kernel
theorem dX10_feed_64 : decode cX10_feed 64 = .ok (.bipush 16, 2) := by decide +kernel
theorem dX10_feed_66 : decode cX10_feed 66 = .ok (.if_icmp .ge 8, 3) := by decide +kernel
theorem dX10_feed_69 : decode cX10_feed 69 = .ok (.iload 4, 2) := by decide +kernel
theorem dX10_feed_71 : decode cX10_feed 71 = .ok (.goto 5, 3) := by decide +kernel
theorem dX10_feed_74 : decode cX10_feed 74 = .ok (.iload 5, 2) := by decide +kernel
theorem dX10_feed_76 : decode cX10_feed 76 = .ok (.istore 7, 2) := by decide +kernel
theorem dX10_feed_78 : decode cX10_feed 78 = .ok (.aload_n 0, 1) := by decide +kernel
theorem dX10_feed_79 : decode cX10_feed 79 = .ok (.getfield 7, 3) := by decide +kernel
theorem dX10_feed_82 : decode cX10_feed 82 = .ok (.aload_n 0, 1) := by decide +kernel
theorem dX10_feed_83 : decode cX10_feed 83 = .ok (.getfield 73, 3) := by decide +kernel
theorem dX10_feed_86 : decode cX10_feed 86 = .ok (.iload 6, 2) := by decide +kernel
theorem dX10_feed_88 : decode cX10_feed 88 = .ok (.iadd, 1) := by decide +kernel
theorem dX10_feed_89 : decode cX10_feed 89 = .ok (.iload 7, 2) := by decide +kernel
theorem dX10_feed_91 : decode cX10_feed 91 = .ok (.bipush 24, 2) := by decide +kernel
theorem dX10_feed_93 : decode cX10_feed 93 = .ok (.bipush 8, 2) := by decide +kernel
theorem dX10_feed_95 : decode cX10_feed 95 = .ok (.iload 6, 2) := by decide +kernel
theorem dX10_feed_97 : decode cX10_feed 97 = .ok (.iconst 4, 1) := by decide +kernel
theorem dX10_feed_98 : decode cX10_feed 98 = .ok (.irem, 1) := by decide +kernel
theorem dX10_feed_99 : decode cX10_feed 99 = .ok (.imul, 1) := by decide +kernel
theorem dX10_feed_100 : decode cX10_feed 100 = .ok (.isub, 1) := by decide +kernel
theorem dX10_feed_101 : decode cX10_feed 101 = .ok (.ishr, 1) := by decide +kernel
theorem dX10_feed_102 : decode cX10_feed 102 = .ok (.sipush 255, 3) := by decide +kernel
theorem dX10_feed_105 : decode cX10_feed 105 = .ok (.iand, 1) := by decide +kernel
theorem dX10_feed_106 : decode cX10_feed 106 = .ok (.iastore, 1) := by decide +kernel
theorem dX10_feed_107 : decode cX10_feed 107 = .ok (.iinc 6 1, 3) := by decide +kernel
theorem dX10_feed_110 : decode cX10_feed 110 = .ok (.goto (-87), 3) := by decide +kernel
theorem dX10_feed_113 : decode cX10_feed 113 = .ok (.aload_n 0, 1) := by decide +kernel
theorem dX10_feed_114 : decode cX10_feed 114 = .ok (.dup, 1) := by decide +kernel
theorem dX10_feed_115 : decode cX10_feed 115 = .ok (.getfield 73, 3) := by decide +kernel
theorem dX10_feed_118 : decode cX10_feed 118 = .ok (.bipush 20, 2) := by decide +kernel
theorem dX10_feed_120 : decode cX10_feed 120 = .ok (.iadd, 1) := by decide +kernel
theorem dX10_feed_121 : decode cX10_feed 121 = .ok (.putfield 73, 3) := by decide +kernel
theorem dX10_feed_124 : decode cX10_feed 124 = .ok (.aload_n 0, 1) := by decide +kernel
theorem dX10_feed_125 : decode cX10_feed 125 = .ok (.getfield 73, 3) := by decide +kernel
theorem dX10_feed_128 : decode cX10_feed 128 = .ok (.ireturn, 1) := by decide +kernel
theorem dX10_isIn_0 : decode cX10_isIn 0 = .ok (.iload_n 0, 1) := by decide +kernel
theorem dX10_isIn_1 : decode cX10_isIn 1 = .ok (.iload_n 1, 1) := by decide +kernel
theorem dX10_isIn_2 : decode cX10_isIn 2 = .ok (.if_icmp .lt 12, 3) := by decide +kernel
theorem dX10_isIn_5 : decode cX10_isIn 5 = .ok (.iload_n 0, 1) := by decide +kernel
theorem dX10_isIn_6 : decode cX10_isIn 6 = .ok (.iload_n 2, 1) := by decide +kernel
theorem dX10_isIn_7 : decode cX10_isIn 7 = .ok (.if_icmp .gt 7, 3) := by decide +kernel
theorem dX10_isIn_10 : decode cX10_isIn 10 = .ok (.iconst 1, 1) := by decide +kernel
theorem dX10_isIn_11 : decode cX10_isIn 11 = .ok (.goto 4, 3) := by decide +kernel
theorem dX10_isIn_14 : decode cX10_isIn 14 = .ok (.iconst 0, 1) := by decide +kernel
theorem dX10_isIn_15 : decode cX10_isIn 15 = .ok (.ireturn, 1) := by decide +kernel
theorem dX10_isOf_0 : decode cX10_isOf 0 = .ok (.iload_n 0, 1) := by decide +kernel
theorem dX10_isOf_1 : decode cX10_isOf 1 = .ok (.iload_n 1, 1) := by decide +kernel
theorem dX10_isOf_2 : decode cX10_isOf 2 = .ok (.ishr, 1) := by decide +kernel
theorem dX10_isOf_3 : decode cX10_isOf 3 = .ok (.iconst 1, 1) := by decide +kernel
theorem dX10_isOf_4 : decode cX10_isOf 4 = .ok (.iand, 1) := by decide +kernel
theorem dX10_isOf_5 : decode cX10_isOf 5 = .ok (.iconst 1, 1) := by decide +kernel
theorem dX10_isOf_6 : decode cX10_isOf 6 = .ok (.if_icmp .ne 7, 3) := by decide +kernel
theorem dX10_isOf_9 : decode cX10_isOf 9 = .ok (.iconst 1, 1) := by decide +kernel
theorem dX10_isOf_10 : decode cX10_isOf 10 = .ok (.goto 4, 3) := by decide +kernel
theorem dX10_isOf_13 : decode cX10_isOf 13 = .ok (.iconst 0, 1) := by decide +kernel
theorem dX10_isOf_14 : decode cX10_isOf 14 = .ok (.ireturn, 1) := by decide +kernel
theorem dX10_wrong_0 : decode cX10_wrong 0 = .ok (.aload_n 0, 1) := by decide +kernel
theorem dX10_wrong_1 : decode cX10_wrong 1 = .ok (.iload_n 1, 1) := by decide +kernel
theorem dX10_wrong_2 : decode cX10_wrong 2 = .ok (.putfield 76, 3) := by decide +kernel
theorem dX10_wrong_5 : decode cX10_wrong 5 = .ok (.aload_n 0, 1) := by decide +kernel
theorem dX10_wrong_6 : decode cX10_wrong 6 = .ok (.aload_n 0, 1) := by decide +kernel
theorem dX10_wrong_7 : decode cX10_wrong 7 = .ok (.getfield 79, 3) := by decide +kernel
theorem dX10_wrong_10 : decode cX10_wrong 10 = .ok (.putfield 16, 3) := by decide +kernel
theorem dX10_wrong_13 : decode cX10_wrong 13 = .ok (.iconst 0, 1) := by decide +kernel
theorem dX10_wrong_14 : decode cX10_wrong 14 = .ok (.ireturn, 1) := by decide +kernel
theorem dX10_wordAt_0 : decode cX10_wordAt 0 = .ok (.iconst 0, 1) := by decide +kernel
theorem dX10_wordAt_1 : decode cX10_wordAt 1 = .ok (.istore_n 3, 1) := by decide +kernel
theorem dX10_wordAt_2 : decode cX10_wordAt 2 = .ok (.iconst 0, 1) := by decide +kernel
theorem dX10_wordAt_3 : decode cX10_wordAt 3 = .ok (.istore 4, 2) := by decide +kernel
theorem dX10_wordAt_5 : decode cX10_wordAt 5 = .ok (.iload 4, 2) := by decide +kernel
theorem dX10_wordAt_7 : decode cX10_wordAt 7 = .ok (.aload_n 0, 1) := by decide +kernel
theorem dX10_wordAt_8 : decode cX10_wordAt 8 = .ok (.getfield 13, 3) := by decide +kernel
theorem dX10_wordAt_11 : decode cX10_wordAt 11 = .ok (.arraylength, 1) := by decide +kernel
theorem dX10_wordAt_12 : decode cX10_wordAt 12 = .ok (.if_icmp .ge 114, 3) := by decide +kernel
theorem dX10_wordAt_15 : decode cX10_wordAt 15 = .ok (.iconst 0, 1) := by decide +kernel
theorem dX10_wordAt_16 : decode cX10_wordAt 16 = .ok (.istore 5, 2) := by decide +kernel
theorem dX10_wordAt_18 : decode cX10_wordAt 18 = .ok (.aload_n 0, 1) := by decide +kernel
theorem dX10_wordAt_19 : decode cX10_wordAt 19 = .ok (.getfield 13, 3) := by decide +kernel
theorem dX10_wordAt_22 : decode cX10_wordAt 22 = .ok (.iload 4, 2) := by decide +kernel
theorem dX10_wordAt_24 : decode cX10_wordAt 24 = .ok (.iload 5, 2) := by decide +kernel
theorem dX10_wordAt_26 : decode cX10_wordAt 26 = .ok (.iadd, 1) := by decide +kernel
theorem dX10_wordAt_27 : decode cX10_wordAt 27 = .ok (.iaload, 1) := by decide +kernel
theorem dX10_wordAt_28 : decode cX10_wordAt 28 = .ok (.bipush 32, 2) := by decide +kernel
theorem dX10_wordAt_30 : decode cX10_wordAt 30 = .ok (.if_icmp .eq 9, 3) := by decide +kernel
theorem dX10_wordAt_33 : decode cX10_wordAt 33 = .ok (.iinc 5 1, 3) := by decide +kernel
theorem dX10_wordAt_36 : decode cX10_wordAt 36 = .ok (.goto (-18), 3) := by decide +kernel
theorem dX10_wordAt_39 : decode cX10_wordAt 39 = .ok (.iload 5, 2) := by decide +kernel
theorem dX10_wordAt_41 : decode cX10_wordAt 41 = .ok (.iload_n 2, 1) := by decide +kernel
theorem dX10_wordAt_42 : decode cX10_wordAt 42 = .ok (.iload_n 1, 1) := by decide +kernel
theorem dX10_wordAt_43 : decode cX10_wordAt 43 = .ok (.isub, 1) := by decide +kernel
theorem dX10_wordAt_44 : decode cX10_wordAt 44 = .ok (.if_icmp .ne 7, 3) := by decide +kernel
theorem dX10_wordAt_47 : decode cX10_wordAt 47 = .ok (.iconst 1, 1) := by decide +kernel
theorem dX10_wordAt_48 : decode cX10_wordAt 48 = .ok (.goto 4, 3) := by decide +kernel
theorem dX10_wordAt_51 : decode cX10_wordAt 51 = .ok (.iconst 0, 1) := by decide +kernel
theorem dX10_wordAt_52 : decode cX10_wordAt 52 = .ok (.istore 6, 2) := by decide +kernel
theorem dX10_wordAt_54 : decode cX10_wordAt 54 = .ok (.iconst 0, 1) := by decide +kernel
theorem dX10_wordAt_55 : decode cX10_wordAt 55 = .ok (.istore 7, 2) := by decide +kernel
theorem dX10_wordAt_57 : decode cX10_wordAt 57 = .ok (.iload 7, 2) := by decide +kernel
theorem dX10_wordAt_59 : decode cX10_wordAt 59 = .ok (.iload 5, 2) := by decide +kernel
theorem dX10_wordAt_61 : decode cX10_wordAt 61 = .ok (.if_icmp .ge 43, 3) := by decide +kernel
theorem dX10_wordAt_64 : decode cX10_wordAt 64 = .ok (.iload 6, 2) := by decide +kernel
theorem dX10_wordAt_66 : decode cX10_wordAt 66 = .ok (.ifCond .eq 38, 3) := by decide +kernel
theorem dX10_wordAt_69 : decode cX10_wordAt 69 = .ok (.aload_n 0, 1) := by decide +kernel
theorem dX10_wordAt_70 : decode cX10_wordAt 70 = .ok (.getfield 13, 3) := by decide +kernel
theorem dX10_wordAt_73 : decode cX10_wordAt 73 = .ok (.iload 4, 2) := by decide +kernel
theorem dX10_wordAt_75 : decode cX10_wordAt 75 = .ok (.iload 7, 2) := by decide +kernel
theorem dX10_wordAt_77 : decode cX10_wordAt 77 = .ok (.iadd, 1) := by decide +kernel
theorem dX10_wordAt_78 : decode cX10_wordAt 78 = .ok (.iaload, 1) := by decide +kernel
theorem dX10_wordAt_79 : decode cX10_wordAt 79 = .ok (.aload_n 0, 1) := by decide +kernel
theorem dX10_wordAt_80 : decode cX10_wordAt 80 = .ok (.getfield 7, 3) := by decide +kernel
theorem dX10_wordAt_83 : decode cX10_wordAt 83 = .ok (.iload_n 1, 1) := by decide +kernel
theorem dX10_wordAt_84 : decode cX10_wordAt 84 = .ok (.iload 7, 2) := by decide +kernel
theorem dX10_wordAt_86 : decode cX10_wordAt 86 = .ok (.iadd, 1) := by decide +kernel
theorem dX10_wordAt_87 : decode cX10_wordAt 87 = .ok (.iaload, 1) := by decide +kernel
theorem dX10_wordAt_88 : decode cX10_wordAt 88 = .ok (.if_icmp .ne 7, 3) := by decide +kernel
theorem dX10_wordAt_91 : decode cX10_wordAt 91 = .ok (.iconst 1, 1) := by decide +kernel
theorem dX10_wordAt_92 : decode cX10_wordAt 92 = .ok (.goto 4, 3) := by decide +kernel
theorem dX10_wordAt_95 : decode cX10_wordAt 95 = .ok (.iconst 0, 1) := by decide +kernel
theorem dX10_wordAt_96 : decode cX10_wordAt 96 = .ok (.istore 6, 2) := by decide +kernel
theorem dX10_wordAt_98 : decode cX10_wordAt 98 = .ok (.iinc 7 1, 3) := by decide +kernel
theorem dX10_wordAt_101 : decode cX10_wordAt 101 = .ok (.goto (-44), 3) := by decide +kernel
theorem dX10_wordAt_104 : decode cX10_wordAt 104 = .ok (.iload 6, 2) := by decide +kernel
theorem dX10_wordAt_106 : decode cX10_wordAt 106 = .ok (.ifCond .eq 5, 3) := by decide +kernel
theorem dX10_wordAt_109 : decode cX10_wordAt 109 = .ok (.iload_n 3, 1) := by decide +kernel
theorem dX10_wordAt_110 : decode cX10_wordAt 110 = .ok (.ireturn, 1) := by decide +kernel
theorem dX10_wordAt_111 : decode cX10_wordAt 111 = .ok (.iload 4, 2) := by decide +kernel
theorem dX10_wordAt_113 : decode cX10_wordAt 113 = .ok (.iload 5, 2) := by decide +kernel
theorem dX10_wordAt_115 : decode cX10_wordAt 115 = .ok (.iconst 1, 1) := by decide +kernel
theorem dX10_wordAt_116 : decode cX10_wordAt 116 = .ok (.iadd, 1) := by decide +kernel
theorem dX10_wordAt_117 : decode cX10_wordAt 117 = .ok (.iadd, 1) := by decide +kernel
theorem dX10_wordAt_118 : decode cX10_wordAt 118 = .ok (.istore 4, 2) := by decide +kernel
theorem dX10_wordAt_120 : decode cX10_wordAt 120 = .ok (.iinc 3 1, 3) := by decide +kernel
theorem dX10_wordAt_123 : decode cX10_wordAt 123 = .ok (.goto (-118), 3) := by decide +kernel
theorem dX10_wordAt_126 : decode cX10_wordAt 126 = .ok (.iconst (-1), 1) := by decide +kernel
theorem dX10_wordAt_127 : decode cX10_wordAt 127 = .ok (.ireturn, 1) := by decide +kernel
theorem dX10_isSmall_0 : decode cX10_isSmall 0 = .ok (.iload_n 1, 1) := by decide +kernel
theorem dX10_isSmall_1 : decode cX10_isSmall 1 = .ok (.aload_n 0, 1) := by decide +kernel
theorem dX10_isSmall_2 : decode cX10_isSmall 2 = .ok (.getfield 82, 3) := by decide +kernel
theorem dX10_isSmall_5 : decode cX10_isSmall 5 = .ok (.if_icmp .ge 29, 3) := by decide +kernel
theorem dX10_isSmall_8 : decode cX10_isSmall 8 = .ok (.aload_n 0, 1) := by decide +kernel
theorem dX10_isSmall_9 : decode cX10_isSmall 9 = .ok (.getfield 7, 3) := by decide +kernel
theorem dX10_isSmall_12 : decode cX10_isSmall 12 = .ok (.iload_n 1, 1) := by decide +kernel
theorem dX10_isSmall_13 : decode cX10_isSmall 13 = .ok (.iaload, 1) := by decide +kernel
theorem dX10_isSmall_14 : decode cX10_isSmall 14 = .ok (.bipush 97, 2) := by decide +kernel
theorem dX10_isSmall_16 : decode cX10_isSmall 16 = .ok (.if_icmp .lt 18, 3) := by decide +kernel
theorem dX10_isSmall_19 : decode cX10_isSmall 19 = .ok (.aload_n 0, 1) := by decide +kernel
theorem dX10_isSmall_20 : decode cX10_isSmall 20 = .ok (.getfield 7, 3) := by decide +kernel
theorem dX10_isSmall_23 : decode cX10_isSmall 23 = .ok (.iload_n 1, 1) := by decide +kernel
theorem dX10_isSmall_24 : decode cX10_isSmall 24 = .ok (.iaload, 1) := by decide +kernel
theorem dX10_isSmall_25 : decode cX10_isSmall 25 = .ok (.bipush 122, 2) := by decide +kernel
theorem dX10_isSmall_27 : decode cX10_isSmall 27 = .ok (.if_icmp .gt 7, 3) := by decide +kernel
theorem dX10_isSmall_30 : decode cX10_isSmall 30 = .ok (.iconst 1, 1) := by decide +kernel
theorem dX10_isSmall_31 : decode cX10_isSmall 31 = .ok (.goto 4, 3) := by decide +kernel
theorem dX10_isSmall_34 : decode cX10_isSmall 34 = .ok (.iconst 0, 1) := by decide +kernel
theorem dX10_isSmall_35 : decode cX10_isSmall 35 = .ok (.ireturn, 1) := by decide +kernel
theorem dX10_isDigit_0 : decode cX10_isDigit 0 = .ok (.iload_n 1, 1) := by decide +kernel
theorem dX10_isDigit_1 : decode cX10_isDigit 1 = .ok (.aload_n 0, 1) := by decide +kernel
theorem dX10_isDigit_2 : decode cX10_isDigit 2 = .ok (.getfield 82, 3) := by decide +kernel
theorem dX10_isDigit_5 : decode cX10_isDigit 5 = .ok (.if_icmp .ge 29, 3) := by decide +kernel
theorem dX10_isDigit_8 : decode cX10_isDigit 8 = .ok (.aload_n 0, 1) := by decide +kernel
theorem dX10_isDigit_9 : decode cX10_isDigit 9 = .ok (.getfield 7, 3) := by decide +kernel
theorem dX10_isDigit_12 : decode cX10_isDigit 12 = .ok (.iload_n 1, 1) := by decide +kernel
theorem dX10_isDigit_13 : decode cX10_isDigit 13 = .ok (.iaload, 1) := by decide +kernel
theorem dX10_isDigit_14 : decode cX10_isDigit 14 = .ok (.bipush 48, 2) := by decide +kernel
theorem dX10_isDigit_16 : decode cX10_isDigit 16 = .ok (.if_icmp .lt 18, 3) := by decide +kernel
theorem dX10_isDigit_19 : decode cX10_isDigit 19 = .ok (.aload_n 0, 1) := by decide +kernel
theorem dX10_isDigit_20 : decode cX10_isDigit 20 = .ok (.getfield 7, 3) := by decide +kernel
theorem dX10_isDigit_23 : decode cX10_isDigit 23 = .ok (.iload_n 1, 1) := by decide +kernel
theorem dX10_isDigit_24 : decode cX10_isDigit 24 = .ok (.iaload, 1) := by decide +kernel
theorem dX10_isDigit_25 : decode cX10_isDigit 25 = .ok (.bipush 57, 2) := by decide +kernel
theorem dX10_isDigit_27 : decode cX10_isDigit 27 = .ok (.if_icmp .gt 7, 3) := by decide +kernel
theorem dX10_isDigit_30 : decode cX10_isDigit 30 = .ok (.iconst 1, 1) := by decide +kernel
theorem dX10_isDigit_31 : decode cX10_isDigit 31 = .ok (.goto 4, 3) := by decide +kernel
theorem dX10_isDigit_34 : decode cX10_isDigit 34 = .ok (.iconst 0, 1) := by decide +kernel
theorem dX10_isDigit_35 : decode cX10_isDigit 35 = .ok (.ireturn, 1) := by decide +kernel
set_option maxRecDepth 20000 in
theorem ggX10_token_X10_isSmall : GoodIn wsX10_token wsX10_isSmall := goodIn_r _ [12, 2, 3, 22, 23, 24, 25, 26, 27, 28, 29, 30, 31, 32, 33, 34, 35, 36, 37, 38, 39, 40, 41, 42, 43, 44, 45, 46, 47, 48, 49, 50, 51, 52, 53, 54, 55, 56, 57, 58] (by decide +kernel) (by decide +kernel)
set_option maxRecDepth 20000 in
theorem gX10_token_X10_isSmall : GoodIn wsX10_token (wsV RX10 91 RX10 yX10_isSmall wsX10_isSmall) := goodIn_app (goodIn_of _ (by decide +kernel)) ggX10_token_X10_isSmall
set_option maxRecDepth 20000 in
theorem ggX10_token_X10_wordAt : GoodIn wsX10_token wsX10_wordAt := goodIn_r _ [16, 17, 3, 22, 23, 24, 25, 26, 27, 28, 29, 30, 31, 32, 33, 34, 35, 36, 37, 38, 39, 40, 41, 42, 43, 44, 45, 46, 47, 48, 49, 50, 51, 52, 53, 54, 55, 56, 57, 58] (by decide +kernel) (by decide +kernel)
set_option maxRecDepth 20000 in
theorem gX10_token_X10_wordAt : GoodIn wsX10_token (wsV RX10 95 RX10 yX10_wordAt wsX10_wordAt) := goodIn_app (goodIn_of _ (by decide +kernel)) ggX10_token_X10_wordAt
set_option maxRecDepth 20000 in
theorem ggX10_token_X10_isDigit : GoodIn wsX10_token wsX10_isDigit := goodIn_r _ [21, 2, 3, 22, 23, 24, 25, 26, 27, 28, 29, 30, 31, 32, 33, 34, 35, 36, 37, 38, 39, 40, 41, 42, 43, 44, 45, 46, 47, 48, 49, 50, 51, 52, 53, 54, 55, 56, 57, 58] (by decide +kernel) (by decide +kernel)
set_option maxRecDepth 20000 in
theorem gX10_token_X10_isDigit : GoodIn wsX10_token (wsV RX10 102 RX10 yX10_isDigit wsX10_isDigit) := goodIn_app (goodIn_of _ (by decide +kernel)) ggX10_token_X10_isDigit
theorem dX10_token_0 : decode cX10_token 0 = .ok (.aload_n 0, 1) := by decide +kernel
theorem dX10_token_1 : decode cX10_token 1 = .ok (.getfield 85, 3) := by decide +kernel
theorem dX10_token_4 : decode cX10_token 4 = .ok (.aload_n 0, 1) := by decide +kernel
theorem dX10_token_5 : decode cX10_token 5 = .ok (.getfield 82, 3) := by decide +kernel
theorem dX10_token_8 : decode cX10_token 8 = .ok (.if_icmp .ge 44, 3) := by decide +kernel
theorem dX10_token_11 : decode cX10_token 11 = .ok (.aload_n 0, 1) := by decide +kernel
theorem dX10_token_12 : decode cX10_token 12 = .ok (.getfield 7, 3) := by decide +kernel
theorem dX10_token_15 : decode cX10_token 15 = .ok (.aload_n 0, 1) := by decide +kernel
theorem dX10_token_16 : decode cX10_token 16 = .ok (.getfield 85, 3) := by decide +kernel
theorem dX10_token_19 : decode cX10_token 19 = .ok (.iaload, 1) := by decide +kernel
theorem dX10_token_20 : decode cX10_token 20 = .ok (.bipush 10, 2) := by decide +kernel
theorem dX10_token_22 : decode cX10_token 22 = .ok (.if_icmp .eq 17, 3) := by decide +kernel
theorem dX10_token_25 : decode cX10_token 25 = .ok (.aload_n 0, 1) := by decide +kernel
theorem dX10_token_26 : decode cX10_token 26 = .ok (.getfield 7, 3) := by decide +kernel
theorem dX10_token_29 : decode cX10_token 29 = .ok (.aload_n 0, 1) := by decide +kernel
theorem dX10_token_30 : decode cX10_token 30 = .ok (.getfield 85, 3) := by decide +kernel
theorem dX10_token_33 : decode cX10_token 33 = .ok (.iaload, 1) := by decide +kernel
theorem dX10_token_34 : decode cX10_token 34 = .ok (.bipush 32, 2) := by decide +kernel
theorem dX10_token_36 : decode cX10_token 36 = .ok (.if_icmp .ne 16, 3) := by decide +kernel
theorem dX10_token_39 : decode cX10_token 39 = .ok (.aload_n 0, 1) := by decide +kernel
theorem dX10_token_40 : decode cX10_token 40 = .ok (.dup, 1) := by decide +kernel
theorem dX10_token_41 : decode cX10_token 41 = .ok (.getfield 85, 3) := by decide +kernel
theorem dX10_token_44 : decode cX10_token 44 = .ok (.iconst 1, 1) := by decide +kernel
theorem dX10_token_45 : decode cX10_token 45 = .ok (.iadd, 1) := by decide +kernel
theorem dX10_token_46 : decode cX10_token 46 = .ok (.putfield 85, 3) := by decide +kernel
theorem dX10_token_49 : decode cX10_token 49 = .ok (.goto (-49), 3) := by decide +kernel
theorem dX10_token_52 : decode cX10_token 52 = .ok (.aload_n 0, 1) := by decide +kernel
theorem dX10_token_53 : decode cX10_token 53 = .ok (.aload_n 0, 1) := by decide +kernel
theorem dX10_token_54 : decode cX10_token 54 = .ok (.getfield 85, 3) := by decide +kernel
theorem dX10_token_57 : decode cX10_token 57 = .ok (.putfield 79, 3) := by decide +kernel
theorem dX10_token_60 : decode cX10_token 60 = .ok (.aload_n 0, 1) := by decide +kernel
theorem dX10_token_61 : decode cX10_token 61 = .ok (.getfield 85, 3) := by decide +kernel
theorem dX10_token_64 : decode cX10_token 64 = .ok (.aload_n 0, 1) := by decide +kernel
theorem dX10_token_65 : decode cX10_token 65 = .ok (.getfield 82, 3) := by decide +kernel
theorem dX10_token_68 : decode cX10_token 68 = .ok (.if_icmp .ne 11, 3) := by decide +kernel
theorem dX10_token_71 : decode cX10_token 71 = .ok (.aload_n 0, 1) := by decide +kernel
theorem dX10_token_72 : decode cX10_token 72 = .ok (.iconst 0, 1) := by decide +kernel
theorem dX10_token_73 : decode cX10_token 73 = .ok (.putfield 88, 3) := by decide +kernel
theorem dX10_token_76 : decode cX10_token 76 = .ok (.goto 191, 3) := by decide +kernel
theorem dX10_token_79 : decode cX10_token 79 = .ok (.aload_n 0, 1) := by decide +kernel
theorem dX10_token_80 : decode cX10_token 80 = .ok (.aload_n 0, 1) := by decide +kernel
theorem dX10_token_81 : decode cX10_token 81 = .ok (.getfield 85, 3) := by decide +kernel
theorem dX10_token_84 : decode cX10_token 84 = .ok (.invokevirtual 91, 3) := by decide +kernel
theorem dX10_token_87 : decode cX10_token 87 = .ok (.ifCond .eq 62, 3) := by decide +kernel
theorem dX10_token_90 : decode cX10_token 90 = .ok (.aload_n 0, 1) := by decide +kernel
theorem dX10_token_91 : decode cX10_token 91 = .ok (.aload_n 0, 1) := by decide +kernel
theorem dX10_token_92 : decode cX10_token 92 = .ok (.getfield 85, 3) := by decide +kernel
theorem dX10_token_95 : decode cX10_token 95 = .ok (.invokevirtual 91, 3) := by decide +kernel
theorem dX10_token_98 : decode cX10_token 98 = .ok (.ifCond .eq 16, 3) := by decide +kernel
theorem dX10_token_101 : decode cX10_token 101 = .ok (.aload_n 0, 1) := by decide +kernel
theorem dX10_token_102 : decode cX10_token 102 = .ok (.dup, 1) := by decide +kernel
theorem dX10_token_103 : decode cX10_token 103 = .ok (.getfield 85, 3) := by decide +kernel
theorem dX10_token_106 : decode cX10_token 106 = .ok (.iconst 1, 1) := by decide +kernel
theorem dX10_token_107 : decode cX10_token 107 = .ok (.iadd, 1) := by decide +kernel
theorem dX10_token_108 : decode cX10_token 108 = .ok (.putfield 85, 3) := by decide +kernel
theorem dX10_token_111 : decode cX10_token 111 = .ok (.goto (-21), 3) := by decide +kernel
theorem dX10_token_114 : decode cX10_token 114 = .ok (.aload_n 0, 1) := by decide +kernel
theorem dX10_token_115 : decode cX10_token 115 = .ok (.aload_n 0, 1) := by decide +kernel
theorem dX10_token_116 : decode cX10_token 116 = .ok (.aload_n 0, 1) := by decide +kernel
theorem dX10_token_117 : decode cX10_token 117 = .ok (.getfield 79, 3) := by decide +kernel
theorem dX10_token_120 : decode cX10_token 120 = .ok (.aload_n 0, 1) := by decide +kernel
theorem dX10_token_121 : decode cX10_token 121 = .ok (.getfield 85, 3) := by decide +kernel
theorem dX10_token_124 : decode cX10_token 124 = .ok (.invokevirtual 95, 3) := by decide +kernel
theorem dX10_token_127 : decode cX10_token 127 = .ok (.putfield 99, 3) := by decide +kernel
theorem dX10_token_130 : decode cX10_token 130 = .ok (.aload_n 0, 1) := by decide +kernel
theorem dX10_token_131 : decode cX10_token 131 = .ok (.aload_n 0, 1) := by decide +kernel
theorem dX10_token_132 : decode cX10_token 132 = .ok (.getfield 99, 3) := by decide +kernel
theorem dX10_token_135 : decode cX10_token 135 = .ok (.ifCond .lt 7, 3) := by decide +kernel
theorem dX10_token_138 : decode cX10_token 138 = .ok (.iconst 1, 1) := by decide +kernel
theorem dX10_token_139 : decode cX10_token 139 = .ok (.goto 4, 3) := by decide +kernel
theorem dX10_token_142 : decode cX10_token 142 = .ok (.iconst 4, 1) := by decide +kernel
theorem dX10_token_143 : decode cX10_token 143 = .ok (.putfield 88, 3) := by decide +kernel
theorem dX10_token_146 : decode cX10_token 146 = .ok (.goto 121, 3) := by decide +kernel
theorem dX10_token_149 : decode cX10_token 149 = .ok (.aload_n 0, 1) := by decide +kernel
theorem dX10_token_150 : decode cX10_token 150 = .ok (.aload_n 0, 1) := by decide +kernel
theorem dX10_token_151 : decode cX10_token 151 = .ok (.getfield 85, 3) := by decide +kernel
theorem dX10_token_154 : decode cX10_token 154 = .ok (.invokevirtual 102, 3) := by decide +kernel
theorem dX10_token_157 : decode cX10_token 157 = .ok (.ifCond .eq 77, 3) := by decide +kernel
theorem dX10_token_160 : decode cX10_token 160 = .ok (.aload_n 0, 1) := by decide +kernel
theorem dX10_token_161 : decode cX10_token 161 = .ok (.iconst 2, 1) := by decide +kernel
theorem dX10_token_162 : decode cX10_token 162 = .ok (.putfield 88, 3) := by decide +kernel
theorem dX10_token_165 : decode cX10_token 165 = .ok (.aload_n 0, 1) := by decide +kernel
theorem dX10_token_166 : decode cX10_token 166 = .ok (.iconst 0, 1) := by decide +kernel
theorem dX10_token_167 : decode cX10_token 167 = .ok (.putfield 99, 3) := by decide +kernel
theorem dX10_token_170 : decode cX10_token 170 = .ok (.aload_n 0, 1) := by decide +kernel
theorem dX10_token_171 : decode cX10_token 171 = .ok (.aload_n 0, 1) := by decide +kernel
theorem dX10_token_172 : decode cX10_token 172 = .ok (.getfield 85, 3) := by decide +kernel
theorem dX10_token_175 : decode cX10_token 175 = .ok (.invokevirtual 102, 3) := by decide +kernel
theorem dX10_token_178 : decode cX10_token 178 = .ok (.ifCond .eq 89, 3) := by decide +kernel
theorem dX10_token_181 : decode cX10_token 181 = .ok (.aload_n 0, 1) := by decide +kernel
theorem dX10_token_182 : decode cX10_token 182 = .ok (.aload_n 0, 1) := by decide +kernel
theorem dX10_token_183 : decode cX10_token 183 = .ok (.getfield 99, 3) := by decide +kernel
theorem dX10_token_186 : decode cX10_token 186 = .ok (.ldc 105, 2) := by decide +kernel
theorem dX10_token_188 : decode cX10_token 188 = .ok (.if_icmp .le 10, 3) := by decide +kernel
theorem dX10_token_191 : decode cX10_token 191 = .ok (.aload_n 0, 1) := by decide +kernel
theorem dX10_token_192 : decode cX10_token 192 = .ok (.getfield 99, 3) := by decide +kernel
theorem dX10_token_195 : decode cX10_token 195 = .ok (.goto 23, 3) := by decide +kernel
theorem dX10_token_198 : decode cX10_token 198 = .ok (.bipush 10, 2) := by decide +kernel
theorem dX10_token_200 : decode cX10_token 200 = .ok (.aload_n 0, 1) := by decide +kernel
theorem dX10_token_201 : decode cX10_token 201 = .ok (.getfield 99, 3) := by decide +kernel
theorem dX10_token_204 : decode cX10_token 204 = .ok (.imul, 1) := by decide +kernel
theorem dX10_token_205 : decode cX10_token 205 = .ok (.aload_n 0, 1) := by decide +kernel
theorem dX10_token_206 : decode cX10_token 206 = .ok (.getfield 7, 3) := by decide +kernel
theorem dX10_token_209 : decode cX10_token 209 = .ok (.aload_n 0, 1) := by decide +kernel
theorem dX10_token_210 : decode cX10_token 210 = .ok (.getfield 85, 3) := by decide +kernel
theorem dX10_token_213 : decode cX10_token 213 = .ok (.iaload, 1) := by decide +kernel
theorem dX10_token_214 : decode cX10_token 214 = .ok (.iadd, 1) := by decide +kernel
theorem dX10_token_215 : decode cX10_token 215 = .ok (.bipush 48, 2) := by decide +kernel
theorem dX10_token_217 : decode cX10_token 217 = .ok (.isub, 1) := by decide +kernel
theorem dX10_token_218 : decode cX10_token 218 = .ok (.putfield 99, 3) := by decide +kernel
theorem dX10_token_221 : decode cX10_token 221 = .ok (.aload_n 0, 1) := by decide +kernel
theorem dX10_token_222 : decode cX10_token 222 = .ok (.dup, 1) := by decide +kernel
theorem dX10_token_223 : decode cX10_token 223 = .ok (.getfield 85, 3) := by decide +kernel
theorem dX10_token_226 : decode cX10_token 226 = .ok (.iconst 1, 1) := by decide +kernel
theorem dX10_token_227 : decode cX10_token 227 = .ok (.iadd, 1) := by decide +kernel
theorem dX10_token_228 : decode cX10_token 228 = .ok (.putfield 85, 3) := by decide +kernel
theorem dX10_token_231 : decode cX10_token 231 = .ok (.goto (-61), 3) := by decide +kernel
theorem dX10_token_234 : decode cX10_token 234 = .ok (.aload_n 0, 1) := by decide +kernel
theorem dX10_token_235 : decode cX10_token 235 = .ok (.aload_n 0, 1) := by decide +kernel
theorem dX10_token_236 : decode cX10_token 236 = .ok (.getfield 7, 3) := by decide +kernel
theorem dX10_token_239 : decode cX10_token 239 = .ok (.aload_n 0, 1) := by decide +kernel
theorem dX10_token_240 : decode cX10_token 240 = .ok (.getfield 85, 3) := by decide +kernel
theorem dX10_token_243 : decode cX10_token 243 = .ok (.iaload, 1) := by decide +kernel
theorem dX10_token_244 : decode cX10_token 244 = .ok (.bipush 59, 2) := by decide +kernel
theorem dX10_token_246 : decode cX10_token 246 = .ok (.if_icmp .ne 7, 3) := by decide +kernel
theorem dX10_token_249 : decode cX10_token 249 = .ok (.iconst 3, 1) := by decide +kernel
theorem dX10_token_250 : decode cX10_token 250 = .ok (.goto 4, 3) := by decide +kernel
theorem dX10_token_253 : decode cX10_token 253 = .ok (.iconst 4, 1) := by decide +kernel
theorem dX10_token_254 : decode cX10_token 254 = .ok (.putfield 88, 3) := by decide +kernel
theorem dX10_token_257 : decode cX10_token 257 = .ok (.aload_n 0, 1) := by decide +kernel
theorem dX10_token_258 : decode cX10_token 258 = .ok (.dup, 1) := by decide +kernel
theorem dX10_token_259 : decode cX10_token 259 = .ok (.getfield 85, 3) := by decide +kernel
theorem dX10_token_262 : decode cX10_token 262 = .ok (.iconst 1, 1) := by decide +kernel
theorem dX10_token_263 : decode cX10_token 263 = .ok (.iadd, 1) := by decide +kernel
theorem dX10_token_264 : decode cX10_token 264 = .ok (.putfield 85, 3) := by decide +kernel
theorem dX10_token_267 : decode cX10_token 267 = .ok (.return_, 1) := by decide +kernel
theorem dX10_plain_0 : decode cX10_plain 0 = .ok (.aload_n 0, 1) := by decide +kernel
theorem dX10_plain_1 : decode cX10_plain 1 = .ok (.getfield 20, 3) := by decide +kernel
theorem dX10_plain_4 : decode cX10_plain 4 = .ok (.bipush 6, 2) := by decide +kernel
theorem dX10_plain_6 : decode cX10_plain 6 = .ok (.bipush 8, 2) := by decide +kernel
theorem dX10_plain_8 : decode cX10_plain 8 = .ok (.iastore, 1) := by decide +kernel
theorem dX10_plain_9 : decode cX10_plain 9 = .ok (.aload_n 0, 1) := by decide +kernel
theorem dX10_plain_10 : decode cX10_plain 10 = .ok (.getfield 20, 3) := by decide +kernel
theorem dX10_plain_13 : decode cX10_plain 13 = .ok (.bipush 7, 2) := by decide +kernel
theorem dX10_plain_15 : decode cX10_plain 15 = .ok (.bipush 16, 2) := by decide +kernel
theorem dX10_plain_17 : decode cX10_plain 17 = .ok (.iastore, 1) := by decide +kernel
theorem dX10_plain_18 : decode cX10_plain 18 = .ok (.aload_n 0, 1) := by decide +kernel
theorem dX10_plain_19 : decode cX10_plain 19 = .ok (.getfield 20, 3) := by decide +kernel
theorem dX10_plain_22 : decode cX10_plain 22 = .ok (.bipush 8, 2) := by decide +kernel
theorem dX10_plain_24 : decode cX10_plain 24 = .ok (.iconst 2, 1) := by decide +kernel
theorem dX10_plain_25 : decode cX10_plain 25 = .ok (.iastore, 1) := by decide +kernel
theorem dX10_plain_26 : decode cX10_plain 26 = .ok (.aload_n 0, 1) := by decide +kernel
theorem dX10_plain_27 : decode cX10_plain 27 = .ok (.getfield 20, 3) := by decide +kernel
theorem dX10_plain_30 : decode cX10_plain 30 = .ok (.bipush 9, 2) := by decide +kernel
theorem dX10_plain_32 : decode cX10_plain 32 = .ok (.iconst 0, 1) := by decide +kernel
theorem dX10_plain_33 : decode cX10_plain 33 = .ok (.iastore, 1) := by decide +kernel
theorem dX10_plain_34 : decode cX10_plain 34 = .ok (.aload_n 0, 1) := by decide +kernel
theorem dX10_plain_35 : decode cX10_plain 35 = .ok (.getfield 20, 3) := by decide +kernel
theorem dX10_plain_38 : decode cX10_plain 38 = .ok (.bipush 10, 2) := by decide +kernel
theorem dX10_plain_40 : decode cX10_plain 40 = .ok (.iconst 1, 1) := by decide +kernel
theorem dX10_plain_41 : decode cX10_plain 41 = .ok (.iastore, 1) := by decide +kernel
theorem dX10_plain_42 : decode cX10_plain 42 = .ok (.aload_n 0, 1) := by decide +kernel
theorem dX10_plain_43 : decode cX10_plain 43 = .ok (.getfield 20, 3) := by decide +kernel
theorem dX10_plain_46 : decode cX10_plain 46 = .ok (.bipush 11, 2) := by decide +kernel
theorem dX10_plain_48 : decode cX10_plain 48 = .ok (.iconst 0, 1) := by decide +kernel
theorem dX10_plain_49 : decode cX10_plain 49 = .ok (.iastore, 1) := by decide +kernel
theorem dX10_plain_50 : decode cX10_plain 50 = .ok (.iconst 0, 1) := by decide +kernel
theorem dX10_plain_51 : decode cX10_plain 51 = .ok (.istore_n 1, 1) := by decide +kernel
theorem dX10_plain_52 : decode cX10_plain 52 = .ok (.iload_n 1, 1) := by decide +kernel
theorem dX10_plain_53 : decode cX10_plain 53 = .ok (.bipush 6, 2) := by decide +kernel
theorem dX10_plain_55 : decode cX10_plain 55 = .ok (.if_icmp .ge 16, 3) := by decide +kernel
theorem dX10_plain_58 : decode cX10_plain 58 = .ok (.aload_n 0, 1) := by decide +kernel
theorem dX10_plain_59 : decode cX10_plain 59 = .ok (.getfield 23, 3) := by decide +kernel
theorem dX10_plain_62 : decode cX10_plain 62 = .ok (.iload_n 1, 1) := by decide +kernel
theorem dX10_plain_63 : decode cX10_plain 63 = .ok (.iconst 0, 1) := by decide +kernel
theorem dX10_plain_64 : decode cX10_plain 64 = .ok (.bastore, 1) := by decide +kernel
theorem dX10_plain_65 : decode cX10_plain 65 = .ok (.iinc 1 1, 3) := by decide +kernel
theorem dX10_plain_68 : decode cX10_plain 68 = .ok (.goto (-16), 3) := by decide +kernel
theorem dX10_plain_71 : decode cX10_plain 71 = .ok (.iconst 0, 1) := by decide +kernel
theorem dX10_plain_72 : decode cX10_plain 72 = .ok (.istore_n 1, 1) := by decide +kernel
theorem dX10_plain_73 : decode cX10_plain 73 = .ok (.iload_n 1, 1) := by decide +kernel
theorem dX10_plain_74 : decode cX10_plain 74 = .ok (.bipush 64, 2) := by decide +kernel
theorem dX10_plain_76 : decode cX10_plain 76 = .ok (.if_icmp .ge 26, 3) := by decide +kernel
theorem dX10_plain_79 : decode cX10_plain 79 = .ok (.aload_n 0, 1) := by decide +kernel
theorem dX10_plain_80 : decode cX10_plain 80 = .ok (.getfield 27, 3) := by decide +kernel
theorem dX10_plain_83 : decode cX10_plain 83 = .ok (.bipush 64, 2) := by decide +kernel
theorem dX10_plain_85 : decode cX10_plain 85 = .ok (.iload_n 1, 1) := by decide +kernel
theorem dX10_plain_86 : decode cX10_plain 86 = .ok (.iadd, 1) := by decide +kernel
theorem dX10_plain_87 : decode cX10_plain 87 = .ok (.iconst 0, 1) := by decide +kernel
theorem dX10_plain_88 : decode cX10_plain 88 = .ok (.iastore, 1) := by decide +kernel
theorem dX10_plain_89 : decode cX10_plain 89 = .ok (.aload_n 0, 1) := by decide +kernel
theorem dX10_plain_90 : decode cX10_plain 90 = .ok (.getfield 30, 3) := by decide +kernel
theorem dX10_plain_93 : decode cX10_plain 93 = .ok (.iload_n 1, 1) := by decide +kernel
theorem dX10_plain_94 : decode cX10_plain 94 = .ok (.iconst 0, 1) := by decide +kernel
theorem dX10_plain_95 : decode cX10_plain 95 = .ok (.bastore, 1) := by decide +kernel
theorem dX10_plain_96 : decode cX10_plain 96 = .ok (.iinc 1 1, 3) := by decide +kernel
theorem dX10_plain_99 : decode cX10_plain 99 = .ok (.goto (-26), 3) := by decide +kernel
theorem dX10_plain_102 : decode cX10_plain 102 = .ok (.aload_n 0, 1) := by decide +kernel
theorem dX10_plain_103 : decode cX10_plain 103 = .ok (.iconst 0, 1) := by decide +kernel
theorem dX10_plain_104 : decode cX10_plain 104 = .ok (.putfield 106, 3) := by decide +kernel
theorem dX10_plain_107 : decode cX10_plain 107 = .ok (.return_, 1) := by decide +kernel
theorem dX10_limitOf_0 : decode cX10_limitOf 0 = .ok (.iconst 1, 1) := by decide +kernel
theorem dX10_limitOf_1 : decode cX10_limitOf 1 = .ok (.iload_n 0, 1) := by decide +kernel
theorem dX10_limitOf_2 : decode cX10_limitOf 2 = .ok (.iconst 1, 1) := by decide +kernel
theorem dX10_limitOf_3 : decode cX10_limitOf 3 = .ok (.isub, 1) := by decide +kernel
theorem dX10_limitOf_4 : decode cX10_limitOf 4 = .ok (.ishl, 1) := by decide +kernel
theorem dX10_limitOf_5 : decode cX10_limitOf 5 = .ok (.iconst 1, 1) := by decide +kernel
theorem dX10_limitOf_6 : decode cX10_limitOf 6 = .ok (.isub, 1) := by decide +kernel
theorem dX10_limitOf_7 : decode cX10_limitOf 7 = .ok (.ireturn, 1) := by decide +kernel
set_option maxRecDepth 20000 in
theorem ggX10_keepText_X10_bySize : GoodIn wsX10_keepText wsX10_bySize := goodIn_r _ [12, 13, 14, 15, 16, 17, 11, 18, 1, 40, 41, 42, 43, 44, 45, 46, 47, 48, 49, 50, 51, 52, 53, 54, 55, 56, 57, 58, 59, 60, 61, 62, 63, 64, 65, 66, 67, 68, 69, 70, 71, 72, 73, 74, 75, 76] (by decide +kernel) (by decide +kernel)
set_option maxRecDepth 20000 in
theorem gX10_keepText_X10_bySize : GoodIn wsX10_keepText (wsV RX10 109 RX10 yX10_bySize wsX10_bySize) := goodIn_app (goodIn_of _ (by decide +kernel)) ggX10_keepText_X10_bySize
set_option maxRecDepth 20000 in
theorem ggX10_keepText_X10_byText : GoodIn wsX10_keepText wsX10_byText := goodIn_r _ [22, 1, 23, 24, 25, 26, 27, 28, 29, 11, 30, 40, 41, 42, 43, 44, 45, 46, 47, 48, 49, 50, 51, 52, 53, 54, 55, 56, 57, 58, 59, 60, 61, 62, 63, 64, 65, 66, 67, 68, 69, 70, 71, 72, 73, 74, 75, 76] (by decide +kernel) (by decide +kernel)
set_option maxRecDepth 20000 in
theorem gX10_keepText_X10_byText : GoodIn wsX10_keepText (wsV RX10 115 RX10 yX10_byText wsX10_byText) := goodIn_app (goodIn_of _ (by decide +kernel)) ggX10_keepText_X10_byText
set_option maxRecDepth 20000 in
theorem ggX10_keepText_X10_lay : GoodIn wsX10_keepText wsX10_lay := goodIn_r _ [34, 35, 3, 40, 41, 42, 43, 44, 45, 46, 47, 48, 49, 50, 51, 52, 53, 54, 55, 56, 57, 58, 59, 60, 61, 62, 63, 64, 65, 66, 67, 68, 69, 70, 71, 72, 73, 74, 75, 76] (by decide +kernel) (by decide +kernel)
set_option maxRecDepth 20000 in
theorem gX10_keepText_X10_lay : GoodIn wsX10_keepText (wsV RX10 118 RX10 yX10_lay wsX10_lay) := goodIn_app (goodIn_of _ (by decide +kernel)) ggX10_keepText_X10_lay
set_option maxRecDepth 20000 in
theorem ggX10_keepText_X10_noneHalved : GoodIn wsX10_keepText wsX10_noneHalved := goodIn_r _ [39, 31, 32, 33, 11, 34, 35, 3, 40, 41, 42, 43, 44, 45, 46, 47, 48, 49, 50, 51, 52, 53, 54, 55, 56, 57, 58, 59, 60, 61, 62, 63, 64, 65, 66, 67, 68, 69, 70, 71, 72, 73, 74, 75, 76] (by decide +kernel) (by decide +kernel)
set_option maxRecDepth 20000 in
theorem gX10_keepText_X10_noneHalved : GoodIn wsX10_keepText (wsV RX10 122 RX10 yX10_noneHalved wsX10_noneHalved) := goodIn_app (goodIn_of _ (by decide +kernel)) ggX10_keepText_X10_noneHalved
theorem dX10_keepText_0 : decode cX10_keepText 0 = .ok (.iconst 0, 1) := by decide +kernel
theorem dX10_keepText_1 : decode cX10_keepText 1 = .ok (.istore_n 1, 1) := by decide +kernel
theorem dX10_keepText_2 : decode cX10_keepText 2 = .ok (.iload_n 1, 1) := by decide +kernel
theorem dX10_keepText_3 : decode cX10_keepText 3 = .ok (.bipush 6, 2) := by decide +kernel
theorem dX10_keepText_5 : decode cX10_keepText 5 = .ok (.if_icmp .ge 24, 3) := by decide +kernel
theorem dX10_keepText_8 : decode cX10_keepText 8 = .ok (.aload_n 0, 1) := by decide +kernel
theorem dX10_keepText_9 : decode cX10_keepText 9 = .ok (.getfield 20, 3) := by decide +kernel
theorem dX10_keepText_12 : decode cX10_keepText 12 = .ok (.iload_n 1, 1) := by decide +kernel
theorem dX10_keepText_13 : decode cX10_keepText 13 = .ok (.aload_n 0, 1) := by decide +kernel
theorem dX10_keepText_14 : decode cX10_keepText 14 = .ok (.getfield 20, 3) := by decide +kernel
theorem dX10_keepText_17 : decode cX10_keepText 17 = .ok (.bipush 6, 2) := by decide +kernel
theorem dX10_keepText_19 : decode cX10_keepText 19 = .ok (.iload_n 1, 1) := by decide +kernel
theorem dX10_keepText_20 : decode cX10_keepText 20 = .ok (.iadd, 1) := by decide +kernel
theorem dX10_keepText_21 : decode cX10_keepText 21 = .ok (.iaload, 1) := by decide +kernel
theorem dX10_keepText_22 : decode cX10_keepText 22 = .ok (.iastore, 1) := by decide +kernel
theorem dX10_keepText_23 : decode cX10_keepText 23 = .ok (.iinc 1 1, 3) := by decide +kernel
theorem dX10_keepText_26 : decode cX10_keepText 26 = .ok (.goto (-24), 3) := by decide +kernel
theorem dX10_keepText_29 : decode cX10_keepText 29 = .ok (.aload_n 0, 1) := by decide +kernel
theorem dX10_keepText_30 : decode cX10_keepText 30 = .ok (.invokevirtual 109, 3) := by decide +kernel
theorem dX10_keepText_33 : decode cX10_keepText 33 = .ok (.iconst 0, 1) := by decide +kernel
theorem dX10_keepText_34 : decode cX10_keepText 34 = .ok (.istore_n 1, 1) := by decide +kernel
theorem dX10_keepText_35 : decode cX10_keepText 35 = .ok (.iload_n 1, 1) := by decide +kernel
theorem dX10_keepText_36 : decode cX10_keepText 36 = .ok (.bipush 64, 2) := by decide +kernel
theorem dX10_keepText_38 : decode cX10_keepText 38 = .ok (.if_icmp .ge 24, 3) := by decide +kernel
theorem dX10_keepText_41 : decode cX10_keepText 41 = .ok (.aload_n 0, 1) := by decide +kernel
theorem dX10_keepText_42 : decode cX10_keepText 42 = .ok (.getfield 27, 3) := by decide +kernel
theorem dX10_keepText_45 : decode cX10_keepText 45 = .ok (.iload_n 1, 1) := by decide +kernel
theorem dX10_keepText_46 : decode cX10_keepText 46 = .ok (.aload_n 0, 1) := by decide +kernel
theorem dX10_keepText_47 : decode cX10_keepText 47 = .ok (.getfield 27, 3) := by decide +kernel
theorem dX10_keepText_50 : decode cX10_keepText 50 = .ok (.bipush 64, 2) := by decide +kernel
theorem dX10_keepText_52 : decode cX10_keepText 52 = .ok (.iload_n 1, 1) := by decide +kernel
theorem dX10_keepText_53 : decode cX10_keepText 53 = .ok (.iadd, 1) := by decide +kernel
theorem dX10_keepText_54 : decode cX10_keepText 54 = .ok (.iaload, 1) := by decide +kernel
theorem dX10_keepText_55 : decode cX10_keepText 55 = .ok (.iastore, 1) := by decide +kernel
theorem dX10_keepText_56 : decode cX10_keepText 56 = .ok (.iinc 1 1, 3) := by decide +kernel
theorem dX10_keepText_59 : decode cX10_keepText 59 = .ok (.goto (-24), 3) := by decide +kernel
theorem dX10_keepText_62 : decode cX10_keepText 62 = .ok (.aload_n 0, 1) := by decide +kernel
theorem dX10_keepText_63 : decode cX10_keepText 63 = .ok (.iconst 0, 1) := by decide +kernel
theorem dX10_keepText_64 : decode cX10_keepText 64 = .ok (.putfield 112, 3) := by decide +kernel
theorem dX10_keepText_67 : decode cX10_keepText 67 = .ok (.aload_n 0, 1) := by decide +kernel
theorem dX10_keepText_68 : decode cX10_keepText 68 = .ok (.invokevirtual 115, 3) := by decide +kernel
theorem dX10_keepText_71 : decode cX10_keepText 71 = .ok (.iconst 0, 1) := by decide +kernel
theorem dX10_keepText_72 : decode cX10_keepText 72 = .ok (.istore_n 1, 1) := by decide +kernel
theorem dX10_keepText_73 : decode cX10_keepText 73 = .ok (.iload_n 1, 1) := by decide +kernel
theorem dX10_keepText_74 : decode cX10_keepText 74 = .ok (.sipush 136, 3) := by decide +kernel
theorem dX10_keepText_77 : decode cX10_keepText 77 = .ok (.if_icmp .ge 15, 3) := by decide +kernel
theorem dX10_keepText_80 : decode cX10_keepText 80 = .ok (.aload_n 0, 1) := by decide +kernel
theorem dX10_keepText_81 : decode cX10_keepText 81 = .ok (.iload_n 1, 1) := by decide +kernel
theorem dX10_keepText_82 : decode cX10_keepText 82 = .ok (.iconst 0, 1) := by decide +kernel
theorem dX10_keepText_83 : decode cX10_keepText 83 = .ok (.invokevirtual 118, 3) := by decide +kernel
theorem dX10_keepText_86 : decode cX10_keepText 86 = .ok (.iinc 1 1, 3) := by decide +kernel
theorem dX10_keepText_89 : decode cX10_keepText 89 = .ok (.goto (-16), 3) := by decide +kernel
theorem dX10_keepText_92 : decode cX10_keepText 92 = .ok (.iconst 0, 1) := by decide +kernel
theorem dX10_keepText_93 : decode cX10_keepText 93 = .ok (.istore_n 1, 1) := by decide +kernel
theorem dX10_keepText_94 : decode cX10_keepText 94 = .ok (.iload_n 1, 1) := by decide +kernel
theorem dX10_keepText_95 : decode cX10_keepText 95 = .ok (.bipush 64, 2) := by decide +kernel
theorem dX10_keepText_97 : decode cX10_keepText 97 = .ok (.if_icmp .ge 34, 3) := by decide +kernel
theorem dX10_keepText_100 : decode cX10_keepText 100 = .ok (.aload_n 0, 1) := by decide +kernel
theorem dX10_keepText_101 : decode cX10_keepText 101 = .ok (.iload_n 1, 1) := by decide +kernel
theorem dX10_keepText_102 : decode cX10_keepText 102 = .ok (.aload_n 0, 1) := by decide +kernel
theorem dX10_keepText_103 : decode cX10_keepText 103 = .ok (.getfield 27, 3) := by decide +kernel
theorem dX10_keepText_106 : decode cX10_keepText 106 = .ok (.iload_n 1, 1) := by decide +kernel
theorem dX10_keepText_107 : decode cX10_keepText 107 = .ok (.iaload, 1) := by decide +kernel
theorem dX10_keepText_108 : decode cX10_keepText 108 = .ok (.invokevirtual 118, 3) := by decide +kernel
theorem dX10_keepText_111 : decode cX10_keepText 111 = .ok (.aload_n 0, 1) := by decide +kernel
theorem dX10_keepText_112 : decode cX10_keepText 112 = .ok (.bipush 64, 2) := by decide +kernel
theorem dX10_keepText_114 : decode cX10_keepText 114 = .ok (.iload_n 1, 1) := by decide +kernel
theorem dX10_keepText_115 : decode cX10_keepText 115 = .ok (.iadd, 1) := by decide +kernel
theorem dX10_keepText_116 : decode cX10_keepText 116 = .ok (.aload_n 0, 1) := by decide +kernel
theorem dX10_keepText_117 : decode cX10_keepText 117 = .ok (.getfield 27, 3) := by decide +kernel
theorem dX10_keepText_120 : decode cX10_keepText 120 = .ok (.iload_n 1, 1) := by decide +kernel
theorem dX10_keepText_121 : decode cX10_keepText 121 = .ok (.iaload, 1) := by decide +kernel
theorem dX10_keepText_122 : decode cX10_keepText 122 = .ok (.invokevirtual 118, 3) := by decide +kernel
theorem dX10_keepText_125 : decode cX10_keepText 125 = .ok (.iinc 1 1, 3) := by decide +kernel
theorem dX10_keepText_128 : decode cX10_keepText 128 = .ok (.goto (-34), 3) := by decide +kernel
theorem dX10_keepText_131 : decode cX10_keepText 131 = .ok (.aload_n 0, 1) := by decide +kernel
theorem dX10_keepText_132 : decode cX10_keepText 132 = .ok (.invokevirtual 122, 3) := by decide +kernel
theorem dX10_keepText_135 : decode cX10_keepText 135 = .ok (.aload_n 0, 1) := by decide +kernel
theorem dX10_keepText_136 : decode cX10_keepText 136 = .ok (.iconst 0, 1) := by decide +kernel
theorem dX10_keepText_137 : decode cX10_keepText 137 = .ok (.putfield 125, 3) := by decide +kernel
theorem dX10_keepText_140 : decode cX10_keepText 140 = .ok (.aload_n 0, 1) := by decide +kernel
theorem dX10_keepText_141 : decode cX10_keepText 141 = .ok (.iconst 0, 1) := by decide +kernel
theorem dX10_keepText_142 : decode cX10_keepText 142 = .ok (.putfield 129, 3) := by decide +kernel
theorem dX10_keepText_145 : decode cX10_keepText 145 = .ok (.aload_n 0, 1) := by decide +kernel
theorem dX10_keepText_146 : decode cX10_keepText 146 = .ok (.iconst 0, 1) := by decide +kernel
theorem dX10_keepText_147 : decode cX10_keepText 147 = .ok (.putfield 132, 3) := by decide +kernel
theorem dX10_keepText_150 : decode cX10_keepText 150 = .ok (.aload_n 0, 1) := by decide +kernel
theorem dX10_keepText_151 : decode cX10_keepText 151 = .ok (.iconst (-1), 1) := by decide +kernel
theorem dX10_keepText_152 : decode cX10_keepText 152 = .ok (.putfield 52, 3) := by decide +kernel
theorem dX10_keepText_155 : decode cX10_keepText 155 = .ok (.return_, 1) := by decide +kernel
theorem dX10_isPower_0 : decode cX10_isPower 0 = .ok (.iload_n 1, 1) := by decide +kernel
theorem dX10_isPower_1 : decode cX10_isPower 1 = .ok (.iconst 2, 1) := by decide +kernel
theorem dX10_isPower_2 : decode cX10_isPower 2 = .ok (.if_icmp .eq 26, 3) := by decide +kernel
theorem dX10_isPower_5 : decode cX10_isPower 5 = .ok (.iload_n 1, 1) := by decide +kernel
theorem dX10_isPower_6 : decode cX10_isPower 6 = .ok (.iconst 4, 1) := by decide +kernel
theorem dX10_isPower_7 : decode cX10_isPower 7 = .ok (.if_icmp .eq 21, 3) := by decide +kernel
theorem dX10_isPower_10 : decode cX10_isPower 10 = .ok (.iload_n 1, 1) := by decide +kernel
theorem dX10_isPower_11 : decode cX10_isPower 11 = .ok (.bipush 8, 2) := by decide +kernel
theorem dX10_isPower_13 : decode cX10_isPower 13 = .ok (.if_icmp .eq 15, 3) := by decide +kernel
theorem dX10_isPower_16 : decode cX10_isPower 16 = .ok (.iload_n 1, 1) := by decide +kernel
theorem dX10_isPower_17 : decode cX10_isPower 17 = .ok (.bipush 16, 2) := by decide +kernel
theorem dX10_isPower_19 : decode cX10_isPower 19 = .ok (.if_icmp .eq 9, 3) := by decide +kernel
theorem dX10_isPower_22 : decode cX10_isPower 22 = .ok (.iload_n 1, 1) := by decide +kernel
theorem dX10_isPower_23 : decode cX10_isPower 23 = .ok (.bipush 32, 2) := by decide +kernel
theorem dX10_isPower_25 : decode cX10_isPower 25 = .ok (.if_icmp .ne 7, 3) := by decide +kernel
theorem dX10_isPower_28 : decode cX10_isPower 28 = .ok (.iconst 1, 1) := by decide +kernel
theorem dX10_isPower_29 : decode cX10_isPower 29 = .ok (.goto 4, 3) := by decide +kernel
theorem dX10_isPower_32 : decode cX10_isPower 32 = .ok (.iconst 0, 1) := by decide +kernel
theorem dX10_isPower_33 : decode cX10_isPower 33 = .ok (.ireturn, 1) := by decide +kernel
set_option maxRecDepth 20000 in
theorem ggX10_isRight_X10_isPower : GoodIn wsX10_isRight wsX10_isPower := goodIn_r _ [6] (by decide +kernel) (by decide +kernel)
set_option maxRecDepth 20000 in
theorem gX10_isRight_X10_isPower : GoodIn wsX10_isRight (wsV RX10 135 RX10 yX10_isPower wsX10_isPower) := goodIn_app (goodIn_of _ (by decide +kernel)) ggX10_isRight_X10_isPower
set_option maxRecDepth 20000 in
theorem ggX10_isRight_X10_isIn : GoodIn wsX10_isRight wsX10_isIn := goodIn_r _ [9] (by decide +kernel) (by decide +kernel)
set_option maxRecDepth 20000 in
theorem gX10_isRight_X10_isIn : GoodIn wsX10_isRight (va_wsS RX10 138 yX10_isIn wsX10_isIn) := goodIn_app (goodIn_of _ (by decide +kernel)) ggX10_isRight_X10_isIn
theorem dX10_isRight_0 : decode cX10_isRight 0 = .ok (.iload_n 1, 1) := by decide +kernel
theorem dX10_isRight_1 : decode cX10_isRight 1 = .ok (.tableswitch 82 0 5 #[39, 45, 54, 82, 82, 70], 39) := by decide +kernel
theorem dX10_isRight_40 : decode cX10_isRight 40 = .ok (.aload_n 0, 1) := by decide +kernel
theorem dX10_isRight_41 : decode cX10_isRight 41 = .ok (.iload_n 2, 1) := by decide +kernel
theorem dX10_isRight_42 : decode cX10_isRight 42 = .ok (.invokevirtual 135, 3) := by decide +kernel
theorem dX10_isRight_45 : decode cX10_isRight 45 = .ok (.ireturn, 1) := by decide +kernel
theorem dX10_isRight_46 : decode cX10_isRight 46 = .ok (.iload_n 2, 1) := by decide +kernel
theorem dX10_isRight_47 : decode cX10_isRight 47 = .ok (.bipush 8, 2) := by decide +kernel
theorem dX10_isRight_49 : decode cX10_isRight 49 = .ok (.bipush 16, 2) := by decide +kernel
theorem dX10_isRight_51 : decode cX10_isRight 51 = .ok (.invokestatic 138, 3) := by decide +kernel
theorem dX10_isRight_54 : decode cX10_isRight 54 = .ok (.ireturn, 1) := by decide +kernel
theorem dX10_isRight_55 : decode cX10_isRight 55 = .ok (.iload_n 2, 1) := by decide +kernel
theorem dX10_isRight_56 : decode cX10_isRight 56 = .ok (.iconst 2, 1) := by decide +kernel
theorem dX10_isRight_57 : decode cX10_isRight 57 = .ok (.if_icmp .eq 8, 3) := by decide +kernel
theorem dX10_isRight_60 : decode cX10_isRight 60 = .ok (.iload_n 2, 1) := by decide +kernel
theorem dX10_isRight_61 : decode cX10_isRight 61 = .ok (.iconst 4, 1) := by decide +kernel
theorem dX10_isRight_62 : decode cX10_isRight 62 = .ok (.if_icmp .ne 7, 3) := by decide +kernel
theorem dX10_isRight_65 : decode cX10_isRight 65 = .ok (.iconst 1, 1) := by decide +kernel
theorem dX10_isRight_66 : decode cX10_isRight 66 = .ok (.goto 4, 3) := by decide +kernel
theorem dX10_isRight_69 : decode cX10_isRight 69 = .ok (.iconst 0, 1) := by decide +kernel
theorem dX10_isRight_70 : decode cX10_isRight 70 = .ok (.ireturn, 1) := by decide +kernel
theorem dX10_isRight_71 : decode cX10_isRight 71 = .ok (.iload_n 2, 1) := by decide +kernel
theorem dX10_isRight_72 : decode cX10_isRight 72 = .ok (.ldc 105, 2) := by decide +kernel
theorem dX10_isRight_74 : decode cX10_isRight 74 = .ok (.if_icmp .gt 7, 3) := by decide +kernel
theorem dX10_isRight_77 : decode cX10_isRight 77 = .ok (.iconst 1, 1) := by decide +kernel
theorem dX10_isRight_78 : decode cX10_isRight 78 = .ok (.goto 4, 3) := by decide +kernel
theorem dX10_isRight_81 : decode cX10_isRight 81 = .ok (.iconst 0, 1) := by decide +kernel
theorem dX10_isRight_82 : decode cX10_isRight 82 = .ok (.ireturn, 1) := by decide +kernel
theorem dX10_isRight_83 : decode cX10_isRight 83 = .ok (.iload_n 2, 1) := by decide +kernel
theorem dX10_isRight_84 : decode cX10_isRight 84 = .ok (.iconst 1, 1) := by decide +kernel
theorem dX10_isRight_85 : decode cX10_isRight 85 = .ok (.if_icmp .gt 7, 3) := by decide +kernel
theorem dX10_isRight_88 : decode cX10_isRight 88 = .ok (.iconst 1, 1) := by decide +kernel
theorem dX10_isRight_89 : decode cX10_isRight 89 = .ok (.goto 4, 3) := by decide +kernel
theorem dX10_isRight_92 : decode cX10_isRight 92 = .ok (.iconst 0, 1) := by decide +kernel
theorem dX10_isRight_93 : decode cX10_isRight 93 = .ok (.ireturn, 1) := by decide +kernel
set_option maxRecDepth 20000 in
theorem ggX10_wordLine_X10_wrong : GoodIn wsX10_wordLine wsX10_wrong := goodIn_r _ [10, 11, 12, 13, 46, 47, 48, 49, 50, 51, 52, 53, 54, 55, 56, 57, 58, 59, 60, 61, 62, 63, 64, 65, 66, 67, 68, 69, 70, 71, 72, 73, 74, 75, 76, 77, 78, 79, 80, 81, 82] (by decide +kernel) (by decide +kernel)
set_option maxRecDepth 20000 in
theorem gX10_wordLine_X10_wrong : GoodIn wsX10_wordLine (wsV RX10 142 RX10 yX10_wrong wsX10_wrong) := goodIn_app (goodIn_of _ (by decide +kernel)) ggX10_wordLine_X10_wrong
set_option maxRecDepth 20000 in
theorem ggX10_wordLine_X10_token : GoodIn wsX10_wordLine wsX10_token := goodIn_r _ [17, 18, 19, 20, 12, 4, 1, 21, 22, 23, 24, 9, 25, 26, 27, 28, 29, 30, 31, 32, 33, 34, 46, 47, 48, 49, 50, 51, 52, 53, 54, 55, 56, 57, 58, 59, 60, 61, 62, 63, 64, 65, 66, 67, 68, 69, 70, 71, 72, 73, 74, 75, 76, 77, 78, 79, 80, 81, 82] (by decide +kernel) (by decide +kernel)
set_option maxRecDepth 20000 in
theorem gX10_wordLine_X10_token : GoodIn wsX10_wordLine (wsV RX10 145 RX10 yX10_token wsX10_token) := goodIn_app (goodIn_of _ (by decide +kernel)) ggX10_wordLine_X10_token
set_option maxRecDepth 20000 in
theorem ggX10_wordLine_X10_isRight : GoodIn wsX10_wordLine wsX10_isRight := goodIn_r _ [38, 21, 39, 40, 41, 9, 42, 43, 44, 45] (by decide +kernel) (by decide +kernel)
set_option maxRecDepth 20000 in
theorem gX10_wordLine_X10_isRight : GoodIn wsX10_wordLine (wsV RX10 148 RX10 yX10_isRight wsX10_isRight) := goodIn_app (goodIn_of _ (by decide +kernel)) ggX10_wordLine_X10_isRight
theorem dX10_wordLine_0 : decode cX10_wordLine 0 = .ok (.aload_n 0, 1) := by decide +kernel
theorem dX10_wordLine_1 : decode cX10_wordLine 1 = .ok (.getfield 99, 3) := by decide +kernel
theorem dX10_wordLine_4 : decode cX10_wordLine 4 = .ok (.istore_n 1, 1) := by decide +kernel
theorem dX10_wordLine_5 : decode cX10_wordLine 5 = .ok (.iload_n 1, 1) := by decide +kernel
theorem dX10_wordLine_6 : decode cX10_wordLine 6 = .ok (.iconst 1, 1) := by decide +kernel
theorem dX10_wordLine_7 : decode cX10_wordLine 7 = .ok (.if_icmp .gt 16, 3) := by decide +kernel
theorem dX10_wordLine_10 : decode cX10_wordLine 10 = .ok (.aload_n 0, 1) := by decide +kernel
theorem dX10_wordLine_11 : decode cX10_wordLine 11 = .ok (.getfield 106, 3) := by decide +kernel
theorem dX10_wordLine_14 : decode cX10_wordLine 14 = .ok (.ifCond .le 9, 3) := by decide +kernel
theorem dX10_wordLine_17 : decode cX10_wordLine 17 = .ok (.aload_n 0, 1) := by decide +kernel
theorem dX10_wordLine_18 : decode cX10_wordLine 18 = .ok (.iconst 1, 1) := by decide +kernel
theorem dX10_wordLine_19 : decode cX10_wordLine 19 = .ok (.invokevirtual 142, 3) := by decide +kernel
theorem dX10_wordLine_22 : decode cX10_wordLine 22 = .ok (.ireturn, 1) := by decide +kernel
theorem dX10_wordLine_23 : decode cX10_wordLine 23 = .ok (.aload_n 0, 1) := by decide +kernel
theorem dX10_wordLine_24 : decode cX10_wordLine 24 = .ok (.getfield 23, 3) := by decide +kernel
theorem dX10_wordLine_27 : decode cX10_wordLine 27 = .ok (.iload_n 1, 1) := by decide +kernel
theorem dX10_wordLine_28 : decode cX10_wordLine 28 = .ok (.baload, 1) := by decide +kernel
theorem dX10_wordLine_29 : decode cX10_wordLine 29 = .ok (.ifCond .eq 9, 3) := by decide +kernel
theorem dX10_wordLine_32 : decode cX10_wordLine 32 = .ok (.aload_n 0, 1) := by decide +kernel
theorem dX10_wordLine_33 : decode cX10_wordLine 33 = .ok (.iconst 3, 1) := by decide +kernel
theorem dX10_wordLine_34 : decode cX10_wordLine 34 = .ok (.invokevirtual 142, 3) := by decide +kernel
theorem dX10_wordLine_37 : decode cX10_wordLine 37 = .ok (.ireturn, 1) := by decide +kernel
theorem dX10_wordLine_38 : decode cX10_wordLine 38 = .ok (.aload_n 0, 1) := by decide +kernel
theorem dX10_wordLine_39 : decode cX10_wordLine 39 = .ok (.getfield 23, 3) := by decide +kernel
theorem dX10_wordLine_42 : decode cX10_wordLine 42 = .ok (.iload_n 1, 1) := by decide +kernel
theorem dX10_wordLine_43 : decode cX10_wordLine 43 = .ok (.iconst 1, 1) := by decide +kernel
theorem dX10_wordLine_44 : decode cX10_wordLine 44 = .ok (.bastore, 1) := by decide +kernel
theorem dX10_wordLine_45 : decode cX10_wordLine 45 = .ok (.aload_n 0, 1) := by decide +kernel
theorem dX10_wordLine_46 : decode cX10_wordLine 46 = .ok (.invokevirtual 145, 3) := by decide +kernel
theorem dX10_wordLine_49 : decode cX10_wordLine 49 = .ok (.aload_n 0, 1) := by decide +kernel
theorem dX10_wordLine_50 : decode cX10_wordLine 50 = .ok (.getfield 88, 3) := by decide +kernel
theorem dX10_wordLine_53 : decode cX10_wordLine 53 = .ok (.iconst 2, 1) := by decide +kernel
theorem dX10_wordLine_54 : decode cX10_wordLine 54 = .ok (.if_icmp .eq 9, 3) := by decide +kernel
theorem dX10_wordLine_57 : decode cX10_wordLine 57 = .ok (.aload_n 0, 1) := by decide +kernel
theorem dX10_wordLine_58 : decode cX10_wordLine 58 = .ok (.iconst 1, 1) := by decide +kernel
theorem dX10_wordLine_59 : decode cX10_wordLine 59 = .ok (.invokevirtual 142, 3) := by decide +kernel
theorem dX10_wordLine_62 : decode cX10_wordLine 62 = .ok (.ireturn, 1) := by decide +kernel
theorem dX10_wordLine_63 : decode cX10_wordLine 63 = .ok (.aload_n 0, 1) := by decide +kernel
theorem dX10_wordLine_64 : decode cX10_wordLine 64 = .ok (.iload_n 1, 1) := by decide +kernel
theorem dX10_wordLine_65 : decode cX10_wordLine 65 = .ok (.aload_n 0, 1) := by decide +kernel
theorem dX10_wordLine_66 : decode cX10_wordLine 66 = .ok (.getfield 99, 3) := by decide +kernel
theorem dX10_wordLine_69 : decode cX10_wordLine 69 = .ok (.invokevirtual 148, 3) := by decide +kernel
theorem dX10_wordLine_72 : decode cX10_wordLine 72 = .ok (.ifCond .ne 9, 3) := by decide +kernel
theorem dX10_wordLine_75 : decode cX10_wordLine 75 = .ok (.aload_n 0, 1) := by decide +kernel
theorem dX10_wordLine_76 : decode cX10_wordLine 76 = .ok (.iconst 2, 1) := by decide +kernel
theorem dX10_wordLine_77 : decode cX10_wordLine 77 = .ok (.invokevirtual 142, 3) := by decide +kernel
theorem dX10_wordLine_80 : decode cX10_wordLine 80 = .ok (.ireturn, 1) := by decide +kernel
theorem dX10_wordLine_81 : decode cX10_wordLine 81 = .ok (.aload_n 0, 1) := by decide +kernel
theorem dX10_wordLine_82 : decode cX10_wordLine 82 = .ok (.getfield 20, 3) := by decide +kernel
theorem dX10_wordLine_85 : decode cX10_wordLine 85 = .ok (.bipush 6, 2) := by decide +kernel
theorem dX10_wordLine_87 : decode cX10_wordLine 87 = .ok (.iload_n 1, 1) := by decide +kernel
theorem dX10_wordLine_88 : decode cX10_wordLine 88 = .ok (.iadd, 1) := by decide +kernel
theorem dX10_wordLine_89 : decode cX10_wordLine 89 = .ok (.aload_n 0, 1) := by decide +kernel
theorem dX10_wordLine_90 : decode cX10_wordLine 90 = .ok (.getfield 99, 3) := by decide +kernel
theorem dX10_wordLine_93 : decode cX10_wordLine 93 = .ok (.iastore, 1) := by decide +kernel
theorem dX10_wordLine_94 : decode cX10_wordLine 94 = .ok (.aload_n 0, 1) := by decide +kernel
theorem dX10_wordLine_95 : decode cX10_wordLine 95 = .ok (.invokevirtual 145, 3) := by decide +kernel
theorem dX10_wordLine_98 : decode cX10_wordLine 98 = .ok (.iconst 1, 1) := by decide +kernel
theorem dX10_wordLine_99 : decode cX10_wordLine 99 = .ok (.ireturn, 1) := by decide +kernel
set_option maxRecDepth 20000 in
theorem ggX10_pointLine_X10_token : GoodIn wsX10_pointLine wsX10_token := goodIn_r _ [11, 12, 13, 14, 15, 3, 1, 16, 17, 18, 19, 10, 20, 21, 22, 23, 24, 25, 26, 27, 28, 29, 39, 40, 41, 42, 43, 44, 45, 46, 47, 48, 49, 50, 51, 52, 53, 54, 55, 56, 57, 58, 59, 60, 61, 62, 63, 64, 65, 66, 67, 68, 69, 70, 71, 72, 73, 74, 75] (by decide +kernel) (by decide +kernel)
set_option maxRecDepth 20000 in
theorem gX10_pointLine_X10_token : GoodIn wsX10_pointLine (wsV RX10 145 RX10 yX10_token wsX10_token) := goodIn_app (goodIn_of _ (by decide +kernel)) ggX10_pointLine_X10_token
set_option maxRecDepth 20000 in
theorem ggX10_pointLine_X10_wrong : GoodIn wsX10_pointLine wsX10_wrong := goodIn_r _ [33, 34, 15, 35, 39, 40, 41, 42, 43, 44, 45, 46, 47, 48, 49, 50, 51, 52, 53, 54, 55, 56, 57, 58, 59, 60, 61, 62, 63, 64, 65, 66, 67, 68, 69, 70, 71, 72, 73, 74, 75] (by decide +kernel) (by decide +kernel)
set_option maxRecDepth 20000 in
theorem gX10_pointLine_X10_wrong : GoodIn wsX10_pointLine (wsV RX10 142 RX10 yX10_wrong wsX10_wrong) := goodIn_app (goodIn_of _ (by decide +kernel)) ggX10_pointLine_X10_wrong
set_option maxRecDepth 20000 in
theorem ggX10_pointLine_X10_limitOf : GoodIn wsX10_pointLine wsX10_limitOf := goodIn_r _ [38] (by decide +kernel) (by decide +kernel)
set_option maxRecDepth 20000 in
theorem gX10_pointLine_X10_limitOf : GoodIn wsX10_pointLine (va_wsS RX10 152 yX10_limitOf wsX10_limitOf) := goodIn_app (goodIn_of _ (by decide +kernel)) ggX10_pointLine_X10_limitOf
theorem dX10_pointLine_0 : decode cX10_pointLine 0 = .ok (.aload_n 0, 1) := by decide +kernel
theorem dX10_pointLine_1 : decode cX10_pointLine 1 = .ok (.getfield 99, 3) := by decide +kernel
theorem dX10_pointLine_4 : decode cX10_pointLine 4 = .ok (.istore_n 1, 1) := by decide +kernel
theorem dX10_pointLine_5 : decode cX10_pointLine 5 = .ok (.aload_n 0, 1) := by decide +kernel
theorem dX10_pointLine_6 : decode cX10_pointLine 6 = .ok (.dup, 1) := by decide +kernel
theorem dX10_pointLine_7 : decode cX10_pointLine 7 = .ok (.getfield 106, 3) := by decide +kernel
theorem dX10_pointLine_10 : decode cX10_pointLine 10 = .ok (.iconst 1, 1) := by decide +kernel
theorem dX10_pointLine_11 : decode cX10_pointLine 11 = .ok (.iadd, 1) := by decide +kernel
theorem dX10_pointLine_12 : decode cX10_pointLine 12 = .ok (.putfield 106, 3) := by decide +kernel
theorem dX10_pointLine_15 : decode cX10_pointLine 15 = .ok (.aload_n 0, 1) := by decide +kernel
theorem dX10_pointLine_16 : decode cX10_pointLine 16 = .ok (.invokevirtual 145, 3) := by decide +kernel
theorem dX10_pointLine_19 : decode cX10_pointLine 19 = .ok (.aload_n 0, 1) := by decide +kernel
theorem dX10_pointLine_20 : decode cX10_pointLine 20 = .ok (.getfield 88, 3) := by decide +kernel
theorem dX10_pointLine_23 : decode cX10_pointLine 23 = .ok (.iconst 2, 1) := by decide +kernel
theorem dX10_pointLine_24 : decode cX10_pointLine 24 = .ok (.if_icmp .eq 9, 3) := by decide +kernel
theorem dX10_pointLine_27 : decode cX10_pointLine 27 = .ok (.aload_n 0, 1) := by decide +kernel
theorem dX10_pointLine_28 : decode cX10_pointLine 28 = .ok (.iconst 1, 1) := by decide +kernel
theorem dX10_pointLine_29 : decode cX10_pointLine 29 = .ok (.invokevirtual 142, 3) := by decide +kernel
theorem dX10_pointLine_32 : decode cX10_pointLine 32 = .ok (.ireturn, 1) := by decide +kernel
theorem dX10_pointLine_33 : decode cX10_pointLine 33 = .ok (.aload_n 0, 1) := by decide +kernel
theorem dX10_pointLine_34 : decode cX10_pointLine 34 = .ok (.getfield 99, 3) := by decide +kernel
theorem dX10_pointLine_37 : decode cX10_pointLine 37 = .ok (.aload_n 0, 1) := by decide +kernel
theorem dX10_pointLine_38 : decode cX10_pointLine 38 = .ok (.getfield 20, 3) := by decide +kernel
theorem dX10_pointLine_41 : decode cX10_pointLine 41 = .ok (.bipush 6, 2) := by decide +kernel
theorem dX10_pointLine_43 : decode cX10_pointLine 43 = .ok (.iaload, 1) := by decide +kernel
theorem dX10_pointLine_44 : decode cX10_pointLine 44 = .ok (.if_icmp .lt 9, 3) := by decide +kernel
theorem dX10_pointLine_47 : decode cX10_pointLine 47 = .ok (.aload_n 0, 1) := by decide +kernel
theorem dX10_pointLine_48 : decode cX10_pointLine 48 = .ok (.iconst 2, 1) := by decide +kernel
theorem dX10_pointLine_49 : decode cX10_pointLine 49 = .ok (.invokevirtual 142, 3) := by decide +kernel
theorem dX10_pointLine_52 : decode cX10_pointLine 52 = .ok (.ireturn, 1) := by decide +kernel
theorem dX10_pointLine_53 : decode cX10_pointLine 53 = .ok (.aload_n 0, 1) := by decide +kernel
theorem dX10_pointLine_54 : decode cX10_pointLine 54 = .ok (.getfield 99, 3) := by decide +kernel
theorem dX10_pointLine_57 : decode cX10_pointLine 57 = .ok (.iload_n 1, 1) := by decide +kernel
theorem dX10_pointLine_58 : decode cX10_pointLine 58 = .ok (.bipush 8, 2) := by decide +kernel
theorem dX10_pointLine_60 : decode cX10_pointLine 60 = .ok (.if_icmp .lt 8, 3) := by decide +kernel
theorem dX10_pointLine_63 : decode cX10_pointLine 63 = .ok (.bipush 32, 2) := by decide +kernel
theorem dX10_pointLine_65 : decode cX10_pointLine 65 = .ok (.goto 4, 3) := by decide +kernel
theorem dX10_pointLine_68 : decode cX10_pointLine 68 = .ok (.iconst 0, 1) := by decide +kernel
theorem dX10_pointLine_69 : decode cX10_pointLine 69 = .ok (.iadd, 1) := by decide +kernel
theorem dX10_pointLine_70 : decode cX10_pointLine 70 = .ok (.istore_n 2, 1) := by decide +kernel
theorem dX10_pointLine_71 : decode cX10_pointLine 71 = .ok (.aload_n 0, 1) := by decide +kernel
theorem dX10_pointLine_72 : decode cX10_pointLine 72 = .ok (.getfield 30, 3) := by decide +kernel
theorem dX10_pointLine_75 : decode cX10_pointLine 75 = .ok (.iload_n 2, 1) := by decide +kernel
theorem dX10_pointLine_76 : decode cX10_pointLine 76 = .ok (.baload, 1) := by decide +kernel
theorem dX10_pointLine_77 : decode cX10_pointLine 77 = .ok (.ifCond .eq 9, 3) := by decide +kernel
theorem dX10_pointLine_80 : decode cX10_pointLine 80 = .ok (.aload_n 0, 1) := by decide +kernel
theorem dX10_pointLine_81 : decode cX10_pointLine 81 = .ok (.iconst 3, 1) := by decide +kernel
theorem dX10_pointLine_82 : decode cX10_pointLine 82 = .ok (.invokevirtual 142, 3) := by decide +kernel
theorem dX10_pointLine_85 : decode cX10_pointLine 85 = .ok (.ireturn, 1) := by decide +kernel
theorem dX10_pointLine_86 : decode cX10_pointLine 86 = .ok (.aload_n 0, 1) := by decide +kernel
theorem dX10_pointLine_87 : decode cX10_pointLine 87 = .ok (.getfield 30, 3) := by decide +kernel
theorem dX10_pointLine_90 : decode cX10_pointLine 90 = .ok (.iload_n 2, 1) := by decide +kernel
theorem dX10_pointLine_91 : decode cX10_pointLine 91 = .ok (.iconst 1, 1) := by decide +kernel
theorem dX10_pointLine_92 : decode cX10_pointLine 92 = .ok (.bastore, 1) := by decide +kernel
theorem dX10_pointLine_93 : decode cX10_pointLine 93 = .ok (.aload_n 0, 1) := by decide +kernel
theorem dX10_pointLine_94 : decode cX10_pointLine 94 = .ok (.invokevirtual 145, 3) := by decide +kernel
theorem dX10_pointLine_97 : decode cX10_pointLine 97 = .ok (.aload_n 0, 1) := by decide +kernel
theorem dX10_pointLine_98 : decode cX10_pointLine 98 = .ok (.getfield 88, 3) := by decide +kernel
theorem dX10_pointLine_101 : decode cX10_pointLine 101 = .ok (.iconst 2, 1) := by decide +kernel
theorem dX10_pointLine_102 : decode cX10_pointLine 102 = .ok (.if_icmp .eq 9, 3) := by decide +kernel
theorem dX10_pointLine_105 : decode cX10_pointLine 105 = .ok (.aload_n 0, 1) := by decide +kernel
theorem dX10_pointLine_106 : decode cX10_pointLine 106 = .ok (.iconst 1, 1) := by decide +kernel
theorem dX10_pointLine_107 : decode cX10_pointLine 107 = .ok (.invokevirtual 142, 3) := by decide +kernel
theorem dX10_pointLine_110 : decode cX10_pointLine 110 = .ok (.ireturn, 1) := by decide +kernel
theorem dX10_pointLine_111 : decode cX10_pointLine 111 = .ok (.aload_n 0, 1) := by decide +kernel
theorem dX10_pointLine_112 : decode cX10_pointLine 112 = .ok (.getfield 99, 3) := by decide +kernel
theorem dX10_pointLine_115 : decode cX10_pointLine 115 = .ok (.aload_n 0, 1) := by decide +kernel
theorem dX10_pointLine_116 : decode cX10_pointLine 116 = .ok (.getfield 20, 3) := by decide +kernel
theorem dX10_pointLine_119 : decode cX10_pointLine 119 = .ok (.bipush 7, 2) := by decide +kernel
theorem dX10_pointLine_121 : decode cX10_pointLine 121 = .ok (.iaload, 1) := by decide +kernel
theorem dX10_pointLine_122 : decode cX10_pointLine 122 = .ok (.invokestatic 152, 3) := by decide +kernel
theorem dX10_pointLine_125 : decode cX10_pointLine 125 = .ok (.if_icmp .le 9, 3) := by decide +kernel
theorem dX10_pointLine_128 : decode cX10_pointLine 128 = .ok (.aload_n 0, 1) := by decide +kernel
theorem dX10_pointLine_129 : decode cX10_pointLine 129 = .ok (.iconst 2, 1) := by decide +kernel
theorem dX10_pointLine_130 : decode cX10_pointLine 130 = .ok (.invokevirtual 142, 3) := by decide +kernel
theorem dX10_pointLine_133 : decode cX10_pointLine 133 = .ok (.ireturn, 1) := by decide +kernel
theorem dX10_pointLine_134 : decode cX10_pointLine 134 = .ok (.aload_n 0, 1) := by decide +kernel
theorem dX10_pointLine_135 : decode cX10_pointLine 135 = .ok (.getfield 27, 3) := by decide +kernel
theorem dX10_pointLine_138 : decode cX10_pointLine 138 = .ok (.bipush 64, 2) := by decide +kernel
theorem dX10_pointLine_140 : decode cX10_pointLine 140 = .ok (.iload_n 2, 1) := by decide +kernel
theorem dX10_pointLine_141 : decode cX10_pointLine 141 = .ok (.iadd, 1) := by decide +kernel
theorem dX10_pointLine_142 : decode cX10_pointLine 142 = .ok (.iload_n 1, 1) := by decide +kernel
theorem dX10_pointLine_143 : decode cX10_pointLine 143 = .ok (.bipush 7, 2) := by decide +kernel
theorem dX10_pointLine_145 : decode cX10_pointLine 145 = .ok (.if_icmp .eq 9, 3) := by decide +kernel
theorem dX10_pointLine_148 : decode cX10_pointLine 148 = .ok (.iload_n 1, 1) := by decide +kernel
theorem dX10_pointLine_149 : decode cX10_pointLine 149 = .ok (.bipush 9, 2) := by decide +kernel
theorem dX10_pointLine_151 : decode cX10_pointLine 151 = .ok (.if_icmp .ne 11, 3) := by decide +kernel
theorem dX10_pointLine_154 : decode cX10_pointLine 154 = .ok (.aload_n 0, 1) := by decide +kernel
theorem dX10_pointLine_155 : decode cX10_pointLine 155 = .ok (.getfield 99, 3) := by decide +kernel
theorem dX10_pointLine_158 : decode cX10_pointLine 158 = .ok (.ineg, 1) := by decide +kernel
theorem dX10_pointLine_159 : decode cX10_pointLine 159 = .ok (.goto 7, 3) := by decide +kernel
theorem dX10_pointLine_162 : decode cX10_pointLine 162 = .ok (.aload_n 0, 1) := by decide +kernel
theorem dX10_pointLine_163 : decode cX10_pointLine 163 = .ok (.getfield 99, 3) := by decide +kernel
theorem dX10_pointLine_166 : decode cX10_pointLine 166 = .ok (.iastore, 1) := by decide +kernel
theorem dX10_pointLine_167 : decode cX10_pointLine 167 = .ok (.aload_n 0, 1) := by decide +kernel
theorem dX10_pointLine_168 : decode cX10_pointLine 168 = .ok (.invokevirtual 145, 3) := by decide +kernel
theorem dX10_pointLine_171 : decode cX10_pointLine 171 = .ok (.iconst 1, 1) := by decide +kernel
theorem dX10_pointLine_172 : decode cX10_pointLine 172 = .ok (.ireturn, 1) := by decide +kernel
set_option maxRecDepth 20000 in
theorem ggX10_lineRead_X10_wrong : GoodIn wsX10_lineRead wsX10_wrong := goodIn_r _ [7, 8, 9, 10, 59, 60, 61, 62, 63, 64, 65, 66, 67, 68, 69, 70, 71, 72, 73, 74, 75, 76, 77, 78, 79, 80, 81, 82, 83, 84, 85, 86, 87, 88, 89, 90, 91, 92, 93, 94, 95] (by decide +kernel) (by decide +kernel)
set_option maxRecDepth 20000 in
theorem gX10_lineRead_X10_wrong : GoodIn wsX10_lineRead (wsV RX10 142 RX10 yX10_wrong wsX10_wrong) := goodIn_app (goodIn_of _ (by decide +kernel)) ggX10_lineRead_X10_wrong
set_option maxRecDepth 20000 in
theorem ggX10_lineRead_X10_pointLine : GoodIn wsX10_lineRead wsX10_pointLine := goodIn_r _ [14, 2, 15, 1, 16, 17, 18, 19, 20, 21, 6, 22, 23, 24, 25, 9, 26, 27, 28, 29, 30, 31, 32, 33, 34, 35, 36, 37, 38, 39, 3, 4, 5, 7, 8, 10, 40, 41, 42, 59, 60, 61, 62, 63, 64, 65, 66, 67, 68, 69, 70, 71, 72, 73, 74, 75, 76, 77, 78, 79, 80, 81, 82, 83, 84, 85, 86, 87, 88, 89, 90, 91, 92, 93, 94, 95] (by decide +kernel) (by decide +kernel)
set_option maxRecDepth 20000 in
theorem gX10_lineRead_X10_pointLine : GoodIn wsX10_lineRead (wsV RX10 156 RX10 yX10_pointLine wsX10_pointLine) := goodIn_app (goodIn_of _ (by decide +kernel)) ggX10_lineRead_X10_pointLine
set_option maxRecDepth 20000 in
theorem ggX10_lineRead_X10_wordLine : GoodIn wsX10_lineRead wsX10_wordLine := goodIn_r _ [46, 2, 15, 47, 1, 16, 3, 4, 5, 6, 7, 8, 9, 10, 19, 20, 21, 22, 23, 24, 25, 26, 27, 28, 29, 30, 31, 32, 33, 34, 35, 36, 37, 38, 39, 48, 49, 50, 51, 52, 53, 54, 55, 56, 57, 58, 59, 60, 61, 62, 63, 64, 65, 66, 67, 68, 69, 70, 71, 72, 73, 74, 75, 76, 77, 78, 79, 80, 81, 82, 83, 84, 85, 86, 87, 88, 89, 90, 91, 92, 93, 94, 95] (by decide +kernel) (by decide +kernel)
set_option maxRecDepth 20000 in
theorem gX10_lineRead_X10_wordLine : GoodIn wsX10_lineRead (wsV RX10 160 RX10 yX10_wordLine wsX10_wordLine) := goodIn_app (goodIn_of _ (by decide +kernel)) ggX10_lineRead_X10_wordLine
set_option maxRecDepth 20000 in
theorem ggX10_lineRead_X10_token : GoodIn wsX10_lineRead wsX10_token := goodIn_r _ [22, 23, 24, 25, 9, 1, 2, 26, 27, 28, 29, 6, 30, 31, 32, 33, 34, 35, 36, 37, 38, 39, 59, 60, 61, 62, 63, 64, 65, 66, 67, 68, 69, 70, 71, 72, 73, 74, 75, 76, 77, 78, 79, 80, 81, 82, 83, 84, 85, 86, 87, 88, 89, 90, 91, 92, 93, 94, 95] (by decide +kernel) (by decide +kernel)
set_option maxRecDepth 20000 in
theorem gX10_lineRead_X10_token : GoodIn wsX10_lineRead (wsV RX10 145 RX10 yX10_token wsX10_token) := goodIn_app (goodIn_of _ (by decide +kernel)) ggX10_lineRead_X10_token
theorem dX10_lineRead_0 : decode cX10_lineRead 0 = .ok (.aload_n 0, 1) := by decide +kernel
theorem dX10_lineRead_1 : decode cX10_lineRead 1 = .ok (.getfield 88, 3) := by decide +kernel
theorem dX10_lineRead_4 : decode cX10_lineRead 4 = .ok (.iconst 1, 1) := by decide +kernel
theorem dX10_lineRead_5 : decode cX10_lineRead 5 = .ok (.if_icmp .eq 9, 3) := by decide +kernel
theorem dX10_lineRead_8 : decode cX10_lineRead 8 = .ok (.aload_n 0, 1) := by decide +kernel
theorem dX10_lineRead_9 : decode cX10_lineRead 9 = .ok (.iconst 1, 1) := by decide +kernel
theorem dX10_lineRead_10 : decode cX10_lineRead 10 = .ok (.invokevirtual 142, 3) := by decide +kernel
theorem dX10_lineRead_13 : decode cX10_lineRead 13 = .ok (.ireturn, 1) := by decide +kernel
theorem dX10_lineRead_14 : decode cX10_lineRead 14 = .ok (.aload_n 0, 1) := by decide +kernel
theorem dX10_lineRead_15 : decode cX10_lineRead 15 = .ok (.getfield 99, 3) := by decide +kernel
theorem dX10_lineRead_18 : decode cX10_lineRead 18 = .ok (.bipush 6, 2) := by decide +kernel
theorem dX10_lineRead_20 : decode cX10_lineRead 20 = .ok (.if_icmp .lt 10, 3) := by decide +kernel
theorem dX10_lineRead_23 : decode cX10_lineRead 23 = .ok (.aload_n 0, 1) := by decide +kernel
theorem dX10_lineRead_24 : decode cX10_lineRead 24 = .ok (.invokevirtual 156, 3) := by decide +kernel
theorem dX10_lineRead_27 : decode cX10_lineRead 27 = .ok (.goto 7, 3) := by decide +kernel
theorem dX10_lineRead_30 : decode cX10_lineRead 30 = .ok (.aload_n 0, 1) := by decide +kernel
theorem dX10_lineRead_31 : decode cX10_lineRead 31 = .ok (.invokevirtual 160, 3) := by decide +kernel
theorem dX10_lineRead_34 : decode cX10_lineRead 34 = .ok (.istore_n 1, 1) := by decide +kernel
theorem dX10_lineRead_35 : decode cX10_lineRead 35 = .ok (.iload_n 1, 1) := by decide +kernel
theorem dX10_lineRead_36 : decode cX10_lineRead 36 = .ok (.ifCond .ne 5, 3) := by decide +kernel
theorem dX10_lineRead_39 : decode cX10_lineRead 39 = .ok (.iconst 0, 1) := by decide +kernel
theorem dX10_lineRead_40 : decode cX10_lineRead 40 = .ok (.ireturn, 1) := by decide +kernel
theorem dX10_lineRead_41 : decode cX10_lineRead 41 = .ok (.aload_n 0, 1) := by decide +kernel
theorem dX10_lineRead_42 : decode cX10_lineRead 42 = .ok (.getfield 88, 3) := by decide +kernel
theorem dX10_lineRead_45 : decode cX10_lineRead 45 = .ok (.iconst 3, 1) := by decide +kernel
theorem dX10_lineRead_46 : decode cX10_lineRead 46 = .ok (.if_icmp .eq 9, 3) := by decide +kernel
theorem dX10_lineRead_49 : decode cX10_lineRead 49 = .ok (.aload_n 0, 1) := by decide +kernel
theorem dX10_lineRead_50 : decode cX10_lineRead 50 = .ok (.iconst 1, 1) := by decide +kernel
theorem dX10_lineRead_51 : decode cX10_lineRead 51 = .ok (.invokevirtual 142, 3) := by decide +kernel
theorem dX10_lineRead_54 : decode cX10_lineRead 54 = .ok (.ireturn, 1) := by decide +kernel
theorem dX10_lineRead_55 : decode cX10_lineRead 55 = .ok (.aload_n 0, 1) := by decide +kernel
theorem dX10_lineRead_56 : decode cX10_lineRead 56 = .ok (.invokevirtual 145, 3) := by decide +kernel
theorem dX10_lineRead_59 : decode cX10_lineRead 59 = .ok (.iconst 1, 1) := by decide +kernel
theorem dX10_lineRead_60 : decode cX10_lineRead 60 = .ok (.ireturn, 1) := by decide +kernel
set_option maxRecDepth 20000 in
theorem ggX10_text_X10_plain : GoodIn wsX10_text wsX10_plain := goodIn_r _ [12, 13, 14, 15, 16, 17, 106, 107, 108, 109, 110, 111, 112, 113, 114, 115, 116, 117, 118, 119, 120, 121, 122, 123, 124, 125, 126, 127, 128, 129, 130, 131, 132, 133, 134, 135, 136, 137, 138, 139, 140, 141, 142] (by decide +kernel) (by decide +kernel)
set_option maxRecDepth 20000 in
theorem gX10_text_X10_plain : GoodIn wsX10_text (wsV RX10 64 RX10 yX10_plain wsX10_plain) := goodIn_app (goodIn_of _ (by decide +kernel)) ggX10_text_X10_plain
set_option maxRecDepth 20000 in
theorem ggX10_text_X10_token : GoodIn wsX10_text wsX10_token := goodIn_r _ [21, 6, 3, 22, 23, 7, 24, 25, 26, 27, 28, 11, 29, 30, 31, 32, 33, 34, 35, 36, 37, 38, 106, 107, 108, 109, 110, 111, 112, 113, 114, 115, 116, 117, 118, 119, 120, 121, 122, 123, 124, 125, 126, 127, 128, 129, 130, 131, 132, 133, 134, 135, 136, 137, 138, 139, 140, 141, 142] (by decide +kernel) (by decide +kernel)
set_option maxRecDepth 20000 in
theorem gX10_text_X10_token : GoodIn wsX10_text (wsV RX10 145 RX10 yX10_token wsX10_token) := goodIn_app (goodIn_of _ (by decide +kernel)) ggX10_text_X10_token
set_option maxRecDepth 20000 in
theorem ggX10_text_X10_lineRead : GoodIn wsX10_text wsX10_lineRead := goodIn_r _ [42, 7, 24, 43, 44, 45, 11, 46, 4, 23, 5, 47, 48, 49, 50, 17, 13, 16, 15, 18, 19, 20, 21, 6, 3, 22, 25, 26, 27, 28, 29, 30, 31, 32, 33, 34, 35, 36, 37, 38, 51, 52, 53, 54, 55, 56, 57, 14, 58, 59, 60, 61, 62, 63, 64, 65, 66, 67, 68, 106, 107, 108, 109, 110, 111, 112, 113, 114, 115, 116, 117, 118, 119, 120, 121, 122, 123, 124, 125, 126, 127, 128, 129, 130, 131, 132, 133, 134, 135, 136, 137, 138, 139, 140, 141, 142] (by decide +kernel) (by decide +kernel)
set_option maxRecDepth 20000 in
theorem gX10_text_X10_lineRead : GoodIn wsX10_text (wsV RX10 163 RX10 yX10_lineRead wsX10_lineRead) := goodIn_app (goodIn_of _ (by decide +kernel)) ggX10_text_X10_lineRead
set_option maxRecDepth 20000 in
theorem ggX10_text_X10_keepText : GoodIn wsX10_text wsX10_keepText := goodIn_r _ [72, 13, 15, 73, 74, 75, 76, 77, 78, 79, 80, 11, 81, 82, 83, 84, 85, 86, 87, 88, 89, 90, 91, 92, 93, 94, 95, 96, 51, 52, 53, 97, 98, 99, 100, 101, 102, 103, 104, 105, 106, 107, 108, 109, 110, 111, 112, 113, 114, 115, 116, 117, 118, 119, 120, 121, 122, 123, 124, 125, 126, 127, 128, 129, 130, 131, 132, 133, 134, 135, 136, 137, 138, 139, 140, 141, 142] (by decide +kernel) (by decide +kernel)
set_option maxRecDepth 20000 in
theorem gX10_text_X10_keepText : GoodIn wsX10_text (wsV RX10 67 RX10 yX10_keepText wsX10_keepText) := goodIn_app (goodIn_of _ (by decide +kernel)) ggX10_text_X10_keepText
theorem dX10_text_0 : decode cX10_text 0 = .ok (.aload_n 0, 1) := by decide +kernel
theorem dX10_text_1 : decode cX10_text 1 = .ok (.iconst 0, 1) := by decide +kernel
theorem dX10_text_2 : decode cX10_text 2 = .ok (.putfield 70, 3) := by decide +kernel
theorem dX10_text_5 : decode cX10_text 5 = .ok (.iload_n 1, 1) := by decide +kernel
theorem dX10_text_6 : decode cX10_text 6 = .ok (.ifCond .lt 11, 3) := by decide +kernel
theorem dX10_text_9 : decode cX10_text 9 = .ok (.iload_n 1, 1) := by decide +kernel
theorem dX10_text_10 : decode cX10_text 10 = .ok (.aload_n 0, 1) := by decide +kernel
theorem dX10_text_11 : decode cX10_text 11 = .ok (.getfield 73, 3) := by decide +kernel
theorem dX10_text_14 : decode cX10_text 14 = .ok (.if_icmp .le 6, 3) := by decide +kernel
theorem dX10_text_17 : decode cX10_text 17 = .ok (.bipush (-2), 2) := by decide +kernel
theorem dX10_text_19 : decode cX10_text 19 = .ok (.ireturn, 1) := by decide +kernel
theorem dX10_text_20 : decode cX10_text 20 = .ok (.aload_n 0, 1) := by decide +kernel
theorem dX10_text_21 : decode cX10_text 21 = .ok (.iload_n 1, 1) := by decide +kernel
theorem dX10_text_22 : decode cX10_text 22 = .ok (.putfield 82, 3) := by decide +kernel
theorem dX10_text_25 : decode cX10_text 25 = .ok (.aload_n 0, 1) := by decide +kernel
theorem dX10_text_26 : decode cX10_text 26 = .ok (.iconst 0, 1) := by decide +kernel
theorem dX10_text_27 : decode cX10_text 27 = .ok (.putfield 73, 3) := by decide +kernel
theorem dX10_text_30 : decode cX10_text 30 = .ok (.aload_n 0, 1) := by decide +kernel
theorem dX10_text_31 : decode cX10_text 31 = .ok (.iconst 0, 1) := by decide +kernel
theorem dX10_text_32 : decode cX10_text 32 = .ok (.putfield 76, 3) := by decide +kernel
theorem dX10_text_35 : decode cX10_text 35 = .ok (.aload_n 0, 1) := by decide +kernel
theorem dX10_text_36 : decode cX10_text 36 = .ok (.iconst (-1), 1) := by decide +kernel
theorem dX10_text_37 : decode cX10_text 37 = .ok (.putfield 16, 3) := by decide +kernel
theorem dX10_text_40 : decode cX10_text 40 = .ok (.aload_n 0, 1) := by decide +kernel
theorem dX10_text_41 : decode cX10_text 41 = .ok (.iconst 0, 1) := by decide +kernel
theorem dX10_text_42 : decode cX10_text 42 = .ok (.putfield 85, 3) := by decide +kernel
theorem dX10_text_45 : decode cX10_text 45 = .ok (.aload_n 0, 1) := by decide +kernel
theorem dX10_text_46 : decode cX10_text 46 = .ok (.invokevirtual 64, 3) := by decide +kernel
theorem dX10_text_49 : decode cX10_text 49 = .ok (.aload_n 0, 1) := by decide +kernel
theorem dX10_text_50 : decode cX10_text 50 = .ok (.invokevirtual 145, 3) := by decide +kernel
theorem dX10_text_53 : decode cX10_text 53 = .ok (.iconst 0, 1) := by decide +kernel
theorem dX10_text_54 : decode cX10_text 54 = .ok (.istore_n 2, 1) := by decide +kernel
theorem dX10_text_55 : decode cX10_text 55 = .ok (.aload_n 0, 1) := by decide +kernel
theorem dX10_text_56 : decode cX10_text 56 = .ok (.getfield 88, 3) := by decide +kernel
theorem dX10_text_59 : decode cX10_text 59 = .ok (.ifCond .eq 18, 3) := by decide +kernel
theorem dX10_text_62 : decode cX10_text 62 = .ok (.aload_n 0, 1) := by decide +kernel
theorem dX10_text_63 : decode cX10_text 63 = .ok (.invokevirtual 163, 3) := by decide +kernel
theorem dX10_text_66 : decode cX10_text 66 = .ok (.ifCond .ne 5, 3) := by decide +kernel
theorem dX10_text_69 : decode cX10_text 69 = .ok (.iconst (-1), 1) := by decide +kernel
theorem dX10_text_70 : decode cX10_text 70 = .ok (.ireturn, 1) := by decide +kernel
theorem dX10_text_71 : decode cX10_text 71 = .ok (.iinc 2 1, 3) := by decide +kernel
theorem dX10_text_74 : decode cX10_text 74 = .ok (.goto (-19), 3) := by decide +kernel
theorem dX10_text_77 : decode cX10_text 77 = .ok (.aload_n 0, 1) := by decide +kernel
theorem dX10_text_78 : decode cX10_text 78 = .ok (.invokevirtual 67, 3) := by decide +kernel
theorem dX10_text_81 : decode cX10_text 81 = .ok (.iload_n 2, 1) := by decide +kernel
theorem dX10_text_82 : decode cX10_text 82 = .ok (.ireturn, 1) := by decide +kernel
theorem dX10_fault_0 : decode cX10_fault 0 = .ok (.aload_n 0, 1) := by decide +kernel
theorem dX10_fault_1 : decode cX10_fault 1 = .ok (.iconst 0, 1) := by decide +kernel
theorem dX10_fault_2 : decode cX10_fault 2 = .ok (.putfield 70, 3) := by decide +kernel
theorem dX10_fault_5 : decode cX10_fault 5 = .ok (.iload_n 1, 1) := by decide +kernel
theorem dX10_fault_6 : decode cX10_fault 6 = .ok (.ifCond .ne 10, 3) := by decide +kernel
theorem dX10_fault_9 : decode cX10_fault 9 = .ok (.aload_n 0, 1) := by decide +kernel
theorem dX10_fault_10 : decode cX10_fault 10 = .ok (.getfield 76, 3) := by decide +kernel
theorem dX10_fault_13 : decode cX10_fault 13 = .ok (.goto 16, 3) := by decide +kernel
theorem dX10_fault_16 : decode cX10_fault 16 = .ok (.iload_n 1, 1) := by decide +kernel
theorem dX10_fault_17 : decode cX10_fault 17 = .ok (.iconst 1, 1) := by decide +kernel
theorem dX10_fault_18 : decode cX10_fault 18 = .ok (.if_icmp .ne 10, 3) := by decide +kernel
theorem dX10_fault_21 : decode cX10_fault 21 = .ok (.aload_n 0, 1) := by decide +kernel
theorem dX10_fault_22 : decode cX10_fault 22 = .ok (.getfield 16, 3) := by decide +kernel
theorem dX10_fault_25 : decode cX10_fault 25 = .ok (.goto 4, 3) := by decide +kernel
theorem dX10_fault_28 : decode cX10_fault 28 = .ok (.iconst (-1), 1) := by decide +kernel
theorem dX10_fault_29 : decode cX10_fault 29 = .ok (.ireturn, 1) := by decide +kernel
theorem dX10_of_0 : decode cX10_of 0 = .ok (.aload_n 0, 1) := by decide +kernel
theorem dX10_of_1 : decode cX10_of 1 = .ok (.getfield 33, 3) := by decide +kernel
theorem dX10_of_4 : decode cX10_of 4 = .ok (.sipush 136, 3) := by decide +kernel
theorem dX10_of_7 : decode cX10_of 7 = .ok (.aload_n 0, 1) := by decide +kernel
theorem dX10_of_8 : decode cX10_of 8 = .ok (.getfield 112, 3) := by decide +kernel
theorem dX10_of_11 : decode cX10_of 11 = .ok (.imul, 1) := by decide +kernel
theorem dX10_of_12 : decode cX10_of 12 = .ok (.iload_n 1, 1) := by decide +kernel
theorem dX10_of_13 : decode cX10_of 13 = .ok (.iadd, 1) := by decide +kernel
theorem dX10_of_14 : decode cX10_of 14 = .ok (.iaload, 1) := by decide +kernel
theorem dX10_of_15 : decode cX10_of 15 = .ok (.ireturn, 1) := by decide +kernel
theorem dX10_lay_0 : decode cX10_lay 0 = .ok (.aload_n 0, 1) := by decide +kernel
theorem dX10_lay_1 : decode cX10_lay 1 = .ok (.getfield 33, 3) := by decide +kernel
theorem dX10_lay_4 : decode cX10_lay 4 = .ok (.sipush 136, 3) := by decide +kernel
theorem dX10_lay_7 : decode cX10_lay 7 = .ok (.aload_n 0, 1) := by decide +kernel
theorem dX10_lay_8 : decode cX10_lay 8 = .ok (.getfield 112, 3) := by decide +kernel
theorem dX10_lay_11 : decode cX10_lay 11 = .ok (.imul, 1) := by decide +kernel
theorem dX10_lay_12 : decode cX10_lay 12 = .ok (.iload_n 1, 1) := by decide +kernel
theorem dX10_lay_13 : decode cX10_lay 13 = .ok (.iadd, 1) := by decide +kernel
theorem dX10_lay_14 : decode cX10_lay 14 = .ok (.iload_n 2, 1) := by decide +kernel
theorem dX10_lay_15 : decode cX10_lay 15 = .ok (.iastore, 1) := by decide +kernel
theorem dX10_lay_16 : decode cX10_lay 16 = .ok (.return_, 1) := by decide +kernel
theorem dX10_copyBank_0 : decode cX10_copyBank 0 = .ok (.iconst 0, 1) := by decide +kernel
theorem dX10_copyBank_1 : decode cX10_copyBank 1 = .ok (.istore_n 3, 1) := by decide +kernel
theorem dX10_copyBank_2 : decode cX10_copyBank 2 = .ok (.iload_n 3, 1) := by decide +kernel
theorem dX10_copyBank_3 : decode cX10_copyBank 3 = .ok (.sipush 136, 3) := by decide +kernel
theorem dX10_copyBank_6 : decode cX10_copyBank 6 = .ok (.if_icmp .ge 33, 3) := by decide +kernel
theorem dX10_copyBank_9 : decode cX10_copyBank 9 = .ok (.aload_n 0, 1) := by decide +kernel
theorem dX10_copyBank_10 : decode cX10_copyBank 10 = .ok (.getfield 33, 3) := by decide +kernel
theorem dX10_copyBank_13 : decode cX10_copyBank 13 = .ok (.sipush 136, 3) := by decide +kernel
theorem dX10_copyBank_16 : decode cX10_copyBank 16 = .ok (.iload_n 2, 1) := by decide +kernel
theorem dX10_copyBank_17 : decode cX10_copyBank 17 = .ok (.imul, 1) := by decide +kernel
theorem dX10_copyBank_18 : decode cX10_copyBank 18 = .ok (.iload_n 3, 1) := by decide +kernel
theorem dX10_copyBank_19 : decode cX10_copyBank 19 = .ok (.iadd, 1) := by decide +kernel
theorem dX10_copyBank_20 : decode cX10_copyBank 20 = .ok (.aload_n 0, 1) := by decide +kernel
theorem dX10_copyBank_21 : decode cX10_copyBank 21 = .ok (.getfield 33, 3) := by decide +kernel
theorem dX10_copyBank_24 : decode cX10_copyBank 24 = .ok (.sipush 136, 3) := by decide +kernel
theorem dX10_copyBank_27 : decode cX10_copyBank 27 = .ok (.iload_n 1, 1) := by decide +kernel
theorem dX10_copyBank_28 : decode cX10_copyBank 28 = .ok (.imul, 1) := by decide +kernel
theorem dX10_copyBank_29 : decode cX10_copyBank 29 = .ok (.iload_n 3, 1) := by decide +kernel
theorem dX10_copyBank_30 : decode cX10_copyBank 30 = .ok (.iadd, 1) := by decide +kernel
theorem dX10_copyBank_31 : decode cX10_copyBank 31 = .ok (.iaload, 1) := by decide +kernel
theorem dX10_copyBank_32 : decode cX10_copyBank 32 = .ok (.iastore, 1) := by decide +kernel
theorem dX10_copyBank_33 : decode cX10_copyBank 33 = .ok (.iinc 3 1, 3) := by decide +kernel
theorem dX10_copyBank_36 : decode cX10_copyBank 36 = .ok (.goto (-34), 3) := by decide +kernel
theorem dX10_copyBank_39 : decode cX10_copyBank 39 = .ok (.return_, 1) := by decide +kernel
set_option maxRecDepth 20000 in
theorem ggX10_byText_X10_limitOf : GoodIn wsX10_byText wsX10_limitOf := goodIn_r _ [10] (by decide +kernel) (by decide +kernel)
set_option maxRecDepth 20000 in
theorem gX10_byText_X10_limitOf : GoodIn wsX10_byText (va_wsS RX10 152 yX10_limitOf wsX10_limitOf) := goodIn_app (goodIn_of _ (by decide +kernel)) ggX10_byText_X10_limitOf
theorem dX10_byText_0 : decode cX10_byText 0 = .ok (.aload_n 0, 1) := by decide +kernel
theorem dX10_byText_1 : decode cX10_byText 1 = .ok (.aload_n 0, 1) := by decide +kernel
theorem dX10_byText_2 : decode cX10_byText 2 = .ok (.getfield 20, 3) := by decide +kernel
theorem dX10_byText_5 : decode cX10_byText 5 = .ok (.iconst 2, 1) := by decide +kernel
theorem dX10_byText_6 : decode cX10_byText 6 = .ok (.iaload, 1) := by decide +kernel
theorem dX10_byText_7 : decode cX10_byText 7 = .ok (.putfield 166, 3) := by decide +kernel
theorem dX10_byText_10 : decode cX10_byText 10 = .ok (.aload_n 0, 1) := by decide +kernel
theorem dX10_byText_11 : decode cX10_byText 11 = .ok (.aload_n 0, 1) := by decide +kernel
theorem dX10_byText_12 : decode cX10_byText 12 = .ok (.getfield 20, 3) := by decide +kernel
theorem dX10_byText_15 : decode cX10_byText 15 = .ok (.iconst 3, 1) := by decide +kernel
theorem dX10_byText_16 : decode cX10_byText 16 = .ok (.iaload, 1) := by decide +kernel
theorem dX10_byText_17 : decode cX10_byText 17 = .ok (.putfield 169, 3) := by decide +kernel
theorem dX10_byText_20 : decode cX10_byText 20 = .ok (.aload_n 0, 1) := by decide +kernel
theorem dX10_byText_21 : decode cX10_byText 21 = .ok (.aload_n 0, 1) := by decide +kernel
theorem dX10_byText_22 : decode cX10_byText 22 = .ok (.getfield 20, 3) := by decide +kernel
theorem dX10_byText_25 : decode cX10_byText 25 = .ok (.iconst 4, 1) := by decide +kernel
theorem dX10_byText_26 : decode cX10_byText 26 = .ok (.iaload, 1) := by decide +kernel
theorem dX10_byText_27 : decode cX10_byText 27 = .ok (.putfield 172, 3) := by decide +kernel
theorem dX10_byText_30 : decode cX10_byText 30 = .ok (.aload_n 0, 1) := by decide +kernel
theorem dX10_byText_31 : decode cX10_byText 31 = .ok (.aload_n 0, 1) := by decide +kernel
theorem dX10_byText_32 : decode cX10_byText 32 = .ok (.getfield 20, 3) := by decide +kernel
theorem dX10_byText_35 : decode cX10_byText 35 = .ok (.iconst 1, 1) := by decide +kernel
theorem dX10_byText_36 : decode cX10_byText 36 = .ok (.iaload, 1) := by decide +kernel
theorem dX10_byText_37 : decode cX10_byText 37 = .ok (.invokestatic 152, 3) := by decide +kernel
theorem dX10_byText_40 : decode cX10_byText 40 = .ok (.putfield 175, 3) := by decide +kernel
theorem dX10_byText_43 : decode cX10_byText 43 = .ok (.aload_n 0, 1) := by decide +kernel
theorem dX10_byText_44 : decode cX10_byText 44 = .ok (.iconst 1, 1) := by decide +kernel
theorem dX10_byText_45 : decode cX10_byText 45 = .ok (.putfield 178, 3) := by decide +kernel
theorem dX10_byText_48 : decode cX10_byText 48 = .ok (.return_, 1) := by decide +kernel
set_option maxRecDepth 20000 in
theorem ggX10_asItIs_X10_byText : GoodIn wsX10_asItIs wsX10_byText := goodIn_r _ [6, 7, 8, 9, 10, 11, 12, 13, 14, 5, 15, 16, 17, 18, 19, 20, 21, 22, 23, 24, 25, 26, 27, 28, 29, 30, 31, 32, 33, 34, 35, 36, 37, 38, 39, 40, 41, 42, 43, 44, 45, 46, 47, 48, 49, 50, 51, 52] (by decide +kernel) (by decide +kernel)
set_option maxRecDepth 20000 in
theorem gX10_asItIs_X10_byText : GoodIn wsX10_asItIs (wsV RX10 115 RX10 yX10_byText wsX10_byText) := goodIn_app (goodIn_of _ (by decide +kernel)) ggX10_asItIs_X10_byText
theorem dX10_asItIs_0 : decode cX10_asItIs 0 = .ok (.aload_n 0, 1) := by decide +kernel
theorem dX10_asItIs_1 : decode cX10_asItIs 1 = .ok (.iconst 0, 1) := by decide +kernel
theorem dX10_asItIs_2 : decode cX10_asItIs 2 = .ok (.putfield 112, 3) := by decide +kernel
theorem dX10_asItIs_5 : decode cX10_asItIs 5 = .ok (.aload_n 0, 1) := by decide +kernel
theorem dX10_asItIs_6 : decode cX10_asItIs 6 = .ok (.invokevirtual 115, 3) := by decide +kernel
theorem dX10_asItIs_9 : decode cX10_asItIs 9 = .ok (.return_, 1) := by decide +kernel
set_option maxRecDepth 20000 in
theorem ggX10_asNow_X10_copyBank : GoodIn wsX10_asNow wsX10_copyBank := goodIn_r _ [6, 7, 8, 9, 10, 11, 12, 13, 14, 15, 16, 17, 18, 19, 20, 21, 22, 23, 24, 25, 26, 27, 28, 29, 30, 31, 32, 33, 34, 35, 36, 37, 38, 39, 40, 41, 42, 43, 44] (by decide +kernel) (by decide +kernel)
set_option maxRecDepth 20000 in
theorem gX10_asNow_X10_copyBank : GoodIn wsX10_asNow (wsV RX10 181 RX10 yX10_copyBank wsX10_copyBank) := goodIn_app (goodIn_of _ (by decide +kernel)) ggX10_asNow_X10_copyBank
theorem dX10_asNow_0 : decode cX10_asNow 0 = .ok (.aload_n 0, 1) := by decide +kernel
theorem dX10_asNow_1 : decode cX10_asNow 1 = .ok (.iconst 0, 1) := by decide +kernel
theorem dX10_asNow_2 : decode cX10_asNow 2 = .ok (.iconst 1, 1) := by decide +kernel
theorem dX10_asNow_3 : decode cX10_asNow 3 = .ok (.invokevirtual 181, 3) := by decide +kernel
theorem dX10_asNow_6 : decode cX10_asNow 6 = .ok (.aload_n 0, 1) := by decide +kernel
theorem dX10_asNow_7 : decode cX10_asNow 7 = .ok (.iconst 1, 1) := by decide +kernel
theorem dX10_asNow_8 : decode cX10_asNow 8 = .ok (.putfield 112, 3) := by decide +kernel
theorem dX10_asNow_11 : decode cX10_asNow 11 = .ok (.return_, 1) := by decide +kernel
set_option maxRecDepth 20000 in
theorem ggX10_asWas_X10_asNow : GoodIn wsX10_asWas wsX10_asNow := goodIn_r _ [5, 6, 7, 8, 9, 4, 10, 11, 28, 29, 30, 31, 32, 33, 34, 35, 36, 37, 38, 39, 40, 41, 42, 43, 44, 45, 46, 47, 48, 49, 50, 51, 52, 53, 54, 55, 56, 57, 58, 59, 60, 61, 62, 63, 64] (by decide +kernel) (by decide +kernel)
set_option maxRecDepth 20000 in
theorem gX10_asWas_X10_asNow : GoodIn wsX10_asWas (wsV RX10 184 RX10 yX10_asNow wsX10_asNow) := goodIn_app (goodIn_of _ (by decide +kernel)) ggX10_asWas_X10_asNow
set_option maxRecDepth 20000 in
theorem ggX10_asWas_X10_of : GoodIn wsX10_asWas wsX10_of := goodIn_r _ [15, 11, 6, 28, 29, 30, 31, 32, 33, 34, 35, 36, 37, 38, 39, 40, 41, 42, 43, 44, 45, 46, 47, 48, 49, 50, 51, 52, 53, 54, 55, 56, 57, 58, 59, 60, 61, 62, 63, 64] (by decide +kernel) (by decide +kernel)
set_option maxRecDepth 20000 in
theorem gX10_asWas_X10_of : GoodIn wsX10_asWas (wsV RX10 187 RX10 yX10_of wsX10_of) := goodIn_app (goodIn_of _ (by decide +kernel)) ggX10_asWas_X10_of
set_option maxRecDepth 20000 in
theorem ggX10_asWas_X10_lay : GoodIn wsX10_asWas wsX10_lay := goodIn_r _ [19, 11, 6, 28, 29, 30, 31, 32, 33, 34, 35, 36, 37, 38, 39, 40, 41, 42, 43, 44, 45, 46, 47, 48, 49, 50, 51, 52, 53, 54, 55, 56, 57, 58, 59, 60, 61, 62, 63, 64] (by decide +kernel) (by decide +kernel)
set_option maxRecDepth 20000 in
theorem gX10_asWas_X10_lay : GoodIn wsX10_asWas (wsV RX10 118 RX10 yX10_lay wsX10_lay) := goodIn_app (goodIn_of _ (by decide +kernel)) ggX10_asWas_X10_lay
set_option maxRecDepth 20000 in
theorem ggX10_asWas_X10_begins : GoodIn wsX10_asWas wsX10_begins := goodIn_r _ [23, 16, 17, 18, 4, 19, 11, 6, 24, 25, 26, 27, 28, 29, 30, 31, 32, 33, 34, 35, 36, 37, 38, 39, 40, 41, 42, 43, 44, 45, 46, 47, 48, 49, 50, 51, 52, 53, 54, 55, 56, 57, 58, 59, 60, 61, 62, 63, 64] (by decide +kernel) (by decide +kernel)
set_option maxRecDepth 20000 in
theorem gX10_asWas_X10_begins : GoodIn wsX10_asWas (wsV RX10 190 RX10 yX10_begins wsX10_begins) := goodIn_app (goodIn_of _ (by decide +kernel)) ggX10_asWas_X10_begins
theorem dX10_asWas_0 : decode cX10_asWas 0 = .ok (.aload_n 0, 1) := by decide +kernel
theorem dX10_asWas_1 : decode cX10_asWas 1 = .ok (.invokevirtual 184, 3) := by decide +kernel
theorem dX10_asWas_4 : decode cX10_asWas 4 = .ok (.iconst 0, 1) := by decide +kernel
theorem dX10_asWas_5 : decode cX10_asWas 5 = .ok (.istore_n 1, 1) := by decide +kernel
theorem dX10_asWas_6 : decode cX10_asWas 6 = .ok (.iload_n 1, 1) := by decide +kernel
theorem dX10_asWas_7 : decode cX10_asWas 7 = .ok (.bipush 64, 2) := by decide +kernel
theorem dX10_asWas_9 : decode cX10_asWas 9 = .ok (.if_icmp .ge 22, 3) := by decide +kernel
theorem dX10_asWas_12 : decode cX10_asWas 12 = .ok (.aload_n 0, 1) := by decide +kernel
theorem dX10_asWas_13 : decode cX10_asWas 13 = .ok (.iload_n 1, 1) := by decide +kernel
theorem dX10_asWas_14 : decode cX10_asWas 14 = .ok (.aload_n 0, 1) := by decide +kernel
theorem dX10_asWas_15 : decode cX10_asWas 15 = .ok (.bipush 64, 2) := by decide +kernel
theorem dX10_asWas_17 : decode cX10_asWas 17 = .ok (.iload_n 1, 1) := by decide +kernel
theorem dX10_asWas_18 : decode cX10_asWas 18 = .ok (.iadd, 1) := by decide +kernel
theorem dX10_asWas_19 : decode cX10_asWas 19 = .ok (.invokevirtual 187, 3) := by decide +kernel
theorem dX10_asWas_22 : decode cX10_asWas 22 = .ok (.invokevirtual 118, 3) := by decide +kernel
theorem dX10_asWas_25 : decode cX10_asWas 25 = .ok (.iinc 1 1, 3) := by decide +kernel
theorem dX10_asWas_28 : decode cX10_asWas 28 = .ok (.goto (-22), 3) := by decide +kernel
theorem dX10_asWas_31 : decode cX10_asWas 31 = .ok (.aload_n 0, 1) := by decide +kernel
theorem dX10_asWas_32 : decode cX10_asWas 32 = .ok (.invokevirtual 190, 3) := by decide +kernel
theorem dX10_asWas_35 : decode cX10_asWas 35 = .ok (.return_, 1) := by decide +kernel
set_option maxRecDepth 20000 in
theorem ggX10_begins_X10_lay : GoodIn wsX10_begins wsX10_lay := goodIn_r _ [5, 6, 7, 12, 13, 14, 15, 16, 17, 18, 19, 20, 21, 22, 23, 24, 25, 26, 27, 28, 29, 30, 31, 32, 33, 34, 35, 36, 37, 38, 39, 40, 41, 42, 43, 44, 45, 46, 47, 48] (by decide +kernel) (by decide +kernel)
set_option maxRecDepth 20000 in
theorem gX10_begins_X10_lay : GoodIn wsX10_begins (wsV RX10 118 RX10 yX10_lay wsX10_lay) := goodIn_app (goodIn_of _ (by decide +kernel)) ggX10_begins_X10_lay
set_option maxRecDepth 20000 in
theorem ggX10_begins_X10_noneHalved : GoodIn wsX10_begins wsX10_noneHalved := goodIn_r _ [11, 1, 2, 3, 4, 5, 6, 7, 12, 13, 14, 15, 16, 17, 18, 19, 20, 21, 22, 23, 24, 25, 26, 27, 28, 29, 30, 31, 32, 33, 34, 35, 36, 37, 38, 39, 40, 41, 42, 43, 44, 45, 46, 47, 48] (by decide +kernel) (by decide +kernel)
set_option maxRecDepth 20000 in
theorem gX10_begins_X10_noneHalved : GoodIn wsX10_begins (wsV RX10 122 RX10 yX10_noneHalved wsX10_noneHalved) := goodIn_app (goodIn_of _ (by decide +kernel)) ggX10_begins_X10_noneHalved
theorem dX10_begins_0 : decode cX10_begins 0 = .ok (.aload_n 0, 1) := by decide +kernel
theorem dX10_begins_1 : decode cX10_begins 1 = .ok (.sipush 128, 3) := by decide +kernel
theorem dX10_begins_4 : decode cX10_begins 4 = .ok (.iconst 0, 1) := by decide +kernel
theorem dX10_begins_5 : decode cX10_begins 5 = .ok (.invokevirtual 118, 3) := by decide +kernel
theorem dX10_begins_8 : decode cX10_begins 8 = .ok (.aload_n 0, 1) := by decide +kernel
theorem dX10_begins_9 : decode cX10_begins 9 = .ok (.sipush 129, 3) := by decide +kernel
theorem dX10_begins_12 : decode cX10_begins 12 = .ok (.iconst 0, 1) := by decide +kernel
theorem dX10_begins_13 : decode cX10_begins 13 = .ok (.invokevirtual 118, 3) := by decide +kernel
theorem dX10_begins_16 : decode cX10_begins 16 = .ok (.aload_n 0, 1) := by decide +kernel
theorem dX10_begins_17 : decode cX10_begins 17 = .ok (.sipush 130, 3) := by decide +kernel
theorem dX10_begins_20 : decode cX10_begins 20 = .ok (.iconst 0, 1) := by decide +kernel
theorem dX10_begins_21 : decode cX10_begins 21 = .ok (.invokevirtual 118, 3) := by decide +kernel
theorem dX10_begins_24 : decode cX10_begins 24 = .ok (.aload_n 0, 1) := by decide +kernel
theorem dX10_begins_25 : decode cX10_begins 25 = .ok (.invokevirtual 122, 3) := by decide +kernel
theorem dX10_begins_28 : decode cX10_begins 28 = .ok (.return_, 1) := by decide +kernel
set_option maxRecDepth 20000 in
theorem ggX10_noneHalved_X10_lay : GoodIn wsX10_noneHalved wsX10_lay := goodIn_r _ [5, 6, 7, 8, 9, 10, 11, 12, 13, 14, 15, 16, 17, 18, 19, 20, 21, 22, 23, 24, 25, 26, 27, 28, 29, 30, 31, 32, 33, 34, 35, 36, 37, 38, 39, 40, 41, 42, 43, 44] (by decide +kernel) (by decide +kernel)
set_option maxRecDepth 20000 in
theorem gX10_noneHalved_X10_lay : GoodIn wsX10_noneHalved (wsV RX10 118 RX10 yX10_lay wsX10_lay) := goodIn_app (goodIn_of _ (by decide +kernel)) ggX10_noneHalved_X10_lay
theorem dX10_noneHalved_0 : decode cX10_noneHalved 0 = .ok (.iconst 0, 1) := by decide +kernel
theorem dX10_noneHalved_1 : decode cX10_noneHalved 1 = .ok (.istore_n 1, 1) := by decide +kernel
theorem dX10_noneHalved_2 : decode cX10_noneHalved 2 = .ok (.iload_n 1, 1) := by decide +kernel
theorem dX10_noneHalved_3 : decode cX10_noneHalved 3 = .ok (.iconst 5, 1) := by decide +kernel
theorem dX10_noneHalved_4 : decode cX10_noneHalved 4 = .ok (.if_icmp .ge 20, 3) := by decide +kernel
theorem dX10_noneHalved_7 : decode cX10_noneHalved 7 = .ok (.aload_n 0, 1) := by decide +kernel
theorem dX10_noneHalved_8 : decode cX10_noneHalved 8 = .ok (.sipush 131, 3) := by decide +kernel
theorem dX10_noneHalved_11 : decode cX10_noneHalved 11 = .ok (.iload_n 1, 1) := by decide +kernel
theorem dX10_noneHalved_12 : decode cX10_noneHalved 12 = .ok (.iadd, 1) := by decide +kernel
theorem dX10_noneHalved_13 : decode cX10_noneHalved 13 = .ok (.bipush (-2), 2) := by decide +kernel
theorem dX10_noneHalved_15 : decode cX10_noneHalved 15 = .ok (.invokevirtual 118, 3) := by decide +kernel
theorem dX10_noneHalved_18 : decode cX10_noneHalved 18 = .ok (.iinc 1 1, 3) := by decide +kernel
theorem dX10_noneHalved_21 : decode cX10_noneHalved 21 = .ok (.goto (-19), 3) := by decide +kernel
theorem dX10_noneHalved_24 : decode cX10_noneHalved 24 = .ok (.return_, 1) := by decide +kernel
set_option maxRecDepth 20000 in
theorem ggX10_canUndo_X10_copyBank : GoodIn wsX10_canUndo wsX10_copyBank := goodIn_r _ [6, 7, 8, 9, 10, 11, 12, 13, 14, 15, 16, 17, 18, 19, 20, 21, 22, 23, 24, 25, 26, 27, 28, 29, 30, 31, 32, 33, 34, 35, 36, 37, 38, 39, 40, 41, 42, 43, 44] (by decide +kernel) (by decide +kernel)
set_option maxRecDepth 20000 in
theorem gX10_canUndo_X10_copyBank : GoodIn wsX10_canUndo (wsV RX10 181 RX10 yX10_copyBank wsX10_copyBank) := goodIn_app (goodIn_of _ (by decide +kernel)) ggX10_canUndo_X10_copyBank
theorem dX10_canUndo_0 : decode cX10_canUndo 0 = .ok (.aload_n 0, 1) := by decide +kernel
theorem dX10_canUndo_1 : decode cX10_canUndo 1 = .ok (.getfield 129, 3) := by decide +kernel
theorem dX10_canUndo_4 : decode cX10_canUndo 4 = .ok (.bipush 20, 2) := by decide +kernel
theorem dX10_canUndo_6 : decode cX10_canUndo 6 = .ok (.if_icmp .ne 35, 3) := by decide +kernel
theorem dX10_canUndo_9 : decode cX10_canUndo 9 = .ok (.iconst 1, 1) := by decide +kernel
theorem dX10_canUndo_10 : decode cX10_canUndo 10 = .ok (.istore_n 1, 1) := by decide +kernel
theorem dX10_canUndo_11 : decode cX10_canUndo 11 = .ok (.iload_n 1, 1) := by decide +kernel
theorem dX10_canUndo_12 : decode cX10_canUndo 12 = .ok (.bipush 20, 2) := by decide +kernel
theorem dX10_canUndo_14 : decode cX10_canUndo 14 = .ok (.if_icmp .ge 21, 3) := by decide +kernel
theorem dX10_canUndo_17 : decode cX10_canUndo 17 = .ok (.aload_n 0, 1) := by decide +kernel
theorem dX10_canUndo_18 : decode cX10_canUndo 18 = .ok (.iconst 3, 1) := by decide +kernel
theorem dX10_canUndo_19 : decode cX10_canUndo 19 = .ok (.iload_n 1, 1) := by decide +kernel
theorem dX10_canUndo_20 : decode cX10_canUndo 20 = .ok (.iadd, 1) := by decide +kernel
theorem dX10_canUndo_21 : decode cX10_canUndo 21 = .ok (.iconst 3, 1) := by decide +kernel
theorem dX10_canUndo_22 : decode cX10_canUndo 22 = .ok (.iload_n 1, 1) := by decide +kernel
theorem dX10_canUndo_23 : decode cX10_canUndo 23 = .ok (.iadd, 1) := by decide +kernel
theorem dX10_canUndo_24 : decode cX10_canUndo 24 = .ok (.iconst 1, 1) := by decide +kernel
theorem dX10_canUndo_25 : decode cX10_canUndo 25 = .ok (.isub, 1) := by decide +kernel
theorem dX10_canUndo_26 : decode cX10_canUndo 26 = .ok (.invokevirtual 181, 3) := by decide +kernel
theorem dX10_canUndo_29 : decode cX10_canUndo 29 = .ok (.iinc 1 1, 3) := by decide +kernel
theorem dX10_canUndo_32 : decode cX10_canUndo 32 = .ok (.goto (-21), 3) := by decide +kernel
theorem dX10_canUndo_35 : decode cX10_canUndo 35 = .ok (.aload_n 0, 1) := by decide +kernel
theorem dX10_canUndo_36 : decode cX10_canUndo 36 = .ok (.bipush 19, 2) := by decide +kernel
theorem dX10_canUndo_38 : decode cX10_canUndo 38 = .ok (.putfield 129, 3) := by decide +kernel
theorem dX10_canUndo_41 : decode cX10_canUndo 41 = .ok (.aload_n 0, 1) := by decide +kernel
theorem dX10_canUndo_42 : decode cX10_canUndo 42 = .ok (.iconst 0, 1) := by decide +kernel
theorem dX10_canUndo_43 : decode cX10_canUndo 43 = .ok (.iconst 3, 1) := by decide +kernel
theorem dX10_canUndo_44 : decode cX10_canUndo 44 = .ok (.aload_n 0, 1) := by decide +kernel
theorem dX10_canUndo_45 : decode cX10_canUndo 45 = .ok (.getfield 129, 3) := by decide +kernel
theorem dX10_canUndo_48 : decode cX10_canUndo 48 = .ok (.iadd, 1) := by decide +kernel
theorem dX10_canUndo_49 : decode cX10_canUndo 49 = .ok (.invokevirtual 181, 3) := by decide +kernel
theorem dX10_canUndo_52 : decode cX10_canUndo 52 = .ok (.aload_n 0, 1) := by decide +kernel
theorem dX10_canUndo_53 : decode cX10_canUndo 53 = .ok (.dup, 1) := by decide +kernel
theorem dX10_canUndo_54 : decode cX10_canUndo 54 = .ok (.getfield 129, 3) := by decide +kernel
theorem dX10_canUndo_57 : decode cX10_canUndo 57 = .ok (.iconst 1, 1) := by decide +kernel
theorem dX10_canUndo_58 : decode cX10_canUndo 58 = .ok (.iadd, 1) := by decide +kernel
theorem dX10_canUndo_59 : decode cX10_canUndo 59 = .ok (.putfield 129, 3) := by decide +kernel
theorem dX10_canUndo_62 : decode cX10_canUndo 62 = .ok (.return_, 1) := by decide +kernel
theorem dX10_cos_0 : decode cX10_cos 0 = .ok (.iload_n 1, 1) := by decide +kernel
theorem dX10_cos_1 : decode cX10_cos 1 = .ok (.bipush 16, 2) := by decide +kernel
theorem dX10_cos_3 : decode cX10_cos 3 = .ok (.if_icmp .le 10, 3) := by decide +kernel
theorem dX10_cos_6 : decode cX10_cos 6 = .ok (.bipush 32, 2) := by decide +kernel
theorem dX10_cos_8 : decode cX10_cos 8 = .ok (.iload_n 1, 1) := by decide +kernel
theorem dX10_cos_9 : decode cX10_cos 9 = .ok (.isub, 1) := by decide +kernel
theorem dX10_cos_10 : decode cX10_cos 10 = .ok (.goto 4, 3) := by decide +kernel
theorem dX10_cos_13 : decode cX10_cos 13 = .ok (.iload_n 1, 1) := by decide +kernel
theorem dX10_cos_14 : decode cX10_cos 14 = .ok (.istore_n 2, 1) := by decide +kernel
theorem dX10_cos_15 : decode cX10_cos 15 = .ok (.iload_n 2, 1) := by decide +kernel
theorem dX10_cos_16 : decode cX10_cos 16 = .ok (.bipush 8, 2) := by decide +kernel
theorem dX10_cos_18 : decode cX10_cos 18 = .ok (.if_icmp .gt 12, 3) := by decide +kernel
theorem dX10_cos_21 : decode cX10_cos 21 = .ok (.aload_n 0, 1) := by decide +kernel
theorem dX10_cos_22 : decode cX10_cos 22 = .ok (.getfield 36, 3) := by decide +kernel
theorem dX10_cos_25 : decode cX10_cos 25 = .ok (.iload_n 2, 1) := by decide +kernel
theorem dX10_cos_26 : decode cX10_cos 26 = .ok (.iaload, 1) := by decide +kernel
theorem dX10_cos_27 : decode cX10_cos 27 = .ok (.goto 13, 3) := by decide +kernel
theorem dX10_cos_30 : decode cX10_cos 30 = .ok (.aload_n 0, 1) := by decide +kernel
theorem dX10_cos_31 : decode cX10_cos 31 = .ok (.getfield 36, 3) := by decide +kernel
theorem dX10_cos_34 : decode cX10_cos 34 = .ok (.bipush 16, 2) := by decide +kernel
theorem dX10_cos_36 : decode cX10_cos 36 = .ok (.iload_n 2, 1) := by decide +kernel
theorem dX10_cos_37 : decode cX10_cos 37 = .ok (.isub, 1) := by decide +kernel
theorem dX10_cos_38 : decode cX10_cos 38 = .ok (.iaload, 1) := by decide +kernel
theorem dX10_cos_39 : decode cX10_cos 39 = .ok (.ineg, 1) := by decide +kernel
theorem dX10_cos_40 : decode cX10_cos 40 = .ok (.ireturn, 1) := by decide +kernel
theorem dX10_size_0 : decode cX10_size 0 = .ok (.aload_n 0, 1) := by decide +kernel
theorem dX10_size_1 : decode cX10_size 1 = .ok (.getfield 20, 3) := by decide +kernel
theorem dX10_size_4 : decode cX10_size 4 = .ok (.iconst 0, 1) := by decide +kernel
theorem dX10_size_5 : decode cX10_size 5 = .ok (.iaload, 1) := by decide +kernel
theorem dX10_size_6 : decode cX10_size 6 = .ok (.ireturn, 1) := by decide +kernel
theorem dX10_powerOf_0 : decode cX10_powerOf 0 = .ok (.aload_n 0, 1) := by decide +kernel
theorem dX10_powerOf_1 : decode cX10_powerOf 1 = .ok (.getfield 193, 3) := by decide +kernel
theorem dX10_powerOf_4 : decode cX10_powerOf 4 = .ok (.ireturn, 1) := by decide +kernel
set_option maxRecDepth 20000 in
theorem ggX10_bySize_X10_size : GoodIn wsX10_bySize wsX10_size := goodIn_r _ [7, 8, 9, 10, 11, 12, 13, 14, 15, 16, 17, 18, 19, 20, 21, 22, 23, 24, 25, 26, 27, 28, 29, 30, 31, 32, 33, 34, 35, 36, 37, 38, 39, 40, 41, 42, 43, 44, 45] (by decide +kernel) (by decide +kernel)
set_option maxRecDepth 20000 in
theorem gX10_bySize_X10_size : GoodIn wsX10_bySize (wsV RX10 196 RX10 yX10_size wsX10_size) := goodIn_app (goodIn_of _ (by decide +kernel)) ggX10_bySize_X10_size
theorem dX10_bySize_0 : decode cX10_bySize 0 = .ok (.aload_n 0, 1) := by decide +kernel
theorem dX10_bySize_1 : decode cX10_bySize 1 = .ok (.iconst 0, 1) := by decide +kernel
theorem dX10_bySize_2 : decode cX10_bySize 2 = .ok (.putfield 193, 3) := by decide +kernel
theorem dX10_bySize_5 : decode cX10_bySize 5 = .ok (.iconst 1, 1) := by decide +kernel
theorem dX10_bySize_6 : decode cX10_bySize 6 = .ok (.aload_n 0, 1) := by decide +kernel
theorem dX10_bySize_7 : decode cX10_bySize 7 = .ok (.getfield 193, 3) := by decide +kernel
theorem dX10_bySize_10 : decode cX10_bySize 10 = .ok (.ishl, 1) := by decide +kernel
theorem dX10_bySize_11 : decode cX10_bySize 11 = .ok (.aload_n 0, 1) := by decide +kernel
theorem dX10_bySize_12 : decode cX10_bySize 12 = .ok (.invokevirtual 196, 3) := by decide +kernel
theorem dX10_bySize_15 : decode cX10_bySize 15 = .ok (.if_icmp .ge 16, 3) := by decide +kernel
theorem dX10_bySize_18 : decode cX10_bySize 18 = .ok (.aload_n 0, 1) := by decide +kernel
theorem dX10_bySize_19 : decode cX10_bySize 19 = .ok (.dup, 1) := by decide +kernel
theorem dX10_bySize_20 : decode cX10_bySize 20 = .ok (.getfield 193, 3) := by decide +kernel
theorem dX10_bySize_23 : decode cX10_bySize 23 = .ok (.iconst 1, 1) := by decide +kernel
theorem dX10_bySize_24 : decode cX10_bySize 24 = .ok (.iadd, 1) := by decide +kernel
theorem dX10_bySize_25 : decode cX10_bySize 25 = .ok (.putfield 193, 3) := by decide +kernel
theorem dX10_bySize_28 : decode cX10_bySize 28 = .ok (.goto (-23), 3) := by decide +kernel
theorem dX10_bySize_31 : decode cX10_bySize 31 = .ok (.aload_n 0, 1) := by decide +kernel
theorem dX10_bySize_32 : decode cX10_bySize 32 = .ok (.invokevirtual 196, 3) := by decide +kernel
theorem dX10_bySize_35 : decode cX10_bySize 35 = .ok (.bipush 32, 2) := by decide +kernel
theorem dX10_bySize_37 : decode cX10_bySize 37 = .ok (.if_icmp .ne 8, 3) := by decide +kernel
theorem dX10_bySize_40 : decode cX10_bySize 40 = .ok (.bipush 28, 2) := by decide +kernel
theorem dX10_bySize_42 : decode cX10_bySize 42 = .ok (.goto 46, 3) := by decide +kernel
theorem dX10_bySize_45 : decode cX10_bySize 45 = .ok (.aload_n 0, 1) := by decide +kernel
theorem dX10_bySize_46 : decode cX10_bySize 46 = .ok (.invokevirtual 196, 3) := by decide +kernel
theorem dX10_bySize_49 : decode cX10_bySize 49 = .ok (.bipush 16, 2) := by decide +kernel
theorem dX10_bySize_51 : decode cX10_bySize 51 = .ok (.if_icmp .ne 8, 3) := by decide +kernel
theorem dX10_bySize_54 : decode cX10_bySize 54 = .ok (.bipush 8, 2) := by decide +kernel
theorem dX10_bySize_56 : decode cX10_bySize 56 = .ok (.goto 32, 3) := by decide +kernel
theorem dX10_bySize_59 : decode cX10_bySize 59 = .ok (.aload_n 0, 1) := by decide +kernel
theorem dX10_bySize_60 : decode cX10_bySize 60 = .ok (.invokevirtual 196, 3) := by decide +kernel
theorem dX10_bySize_63 : decode cX10_bySize 63 = .ok (.bipush 8, 2) := by decide +kernel
theorem dX10_bySize_65 : decode cX10_bySize 65 = .ok (.if_icmp .ne 8, 3) := by decide +kernel
theorem dX10_bySize_68 : decode cX10_bySize 68 = .ok (.bipush 64, 2) := by decide +kernel
theorem dX10_bySize_70 : decode cX10_bySize 70 = .ok (.goto 18, 3) := by decide +kernel
theorem dX10_bySize_73 : decode cX10_bySize 73 = .ok (.aload_n 0, 1) := by decide +kernel
theorem dX10_bySize_74 : decode cX10_bySize 74 = .ok (.invokevirtual 196, 3) := by decide +kernel
theorem dX10_bySize_77 : decode cX10_bySize 77 = .ok (.iconst 4, 1) := by decide +kernel
theorem dX10_bySize_78 : decode cX10_bySize 78 = .ok (.if_icmp .ne 8, 3) := by decide +kernel
theorem dX10_bySize_81 : decode cX10_bySize 81 = .ok (.bipush 22, 2) := by decide +kernel
theorem dX10_bySize_83 : decode cX10_bySize 83 = .ok (.goto 5, 3) := by decide +kernel
theorem dX10_bySize_86 : decode cX10_bySize 86 = .ok (.bipush 96, 2) := by decide +kernel
theorem dX10_bySize_88 : decode cX10_bySize 88 = .ok (.istore_n 1, 1) := by decide +kernel
theorem dX10_bySize_89 : decode cX10_bySize 89 = .ok (.aload_n 0, 1) := by decide +kernel
theorem dX10_bySize_90 : decode cX10_bySize 90 = .ok (.getfield 39, 3) := by decide +kernel
theorem dX10_bySize_93 : decode cX10_bySize 93 = .ok (.iconst 0, 1) := by decide +kernel
theorem dX10_bySize_94 : decode cX10_bySize 94 = .ok (.iconst 1, 1) := by decide +kernel
theorem dX10_bySize_95 : decode cX10_bySize 95 = .ok (.iastore, 1) := by decide +kernel
theorem dX10_bySize_96 : decode cX10_bySize 96 = .ok (.iconst 1, 1) := by decide +kernel
theorem dX10_bySize_97 : decode cX10_bySize 97 = .ok (.istore_n 2, 1) := by decide +kernel
theorem dX10_bySize_98 : decode cX10_bySize 98 = .ok (.iload_n 2, 1) := by decide +kernel
theorem dX10_bySize_99 : decode cX10_bySize 99 = .ok (.aload_n 0, 1) := by decide +kernel
theorem dX10_bySize_100 : decode cX10_bySize 100 = .ok (.invokevirtual 196, 3) := by decide +kernel
theorem dX10_bySize_103 : decode cX10_bySize 103 = .ok (.if_icmp .ge 28, 3) := by decide +kernel
theorem dX10_bySize_106 : decode cX10_bySize 106 = .ok (.aload_n 0, 1) := by decide +kernel
theorem dX10_bySize_107 : decode cX10_bySize 107 = .ok (.getfield 39, 3) := by decide +kernel
theorem dX10_bySize_110 : decode cX10_bySize 110 = .ok (.iload_n 2, 1) := by decide +kernel
theorem dX10_bySize_111 : decode cX10_bySize 111 = .ok (.aload_n 0, 1) := by decide +kernel
theorem dX10_bySize_112 : decode cX10_bySize 112 = .ok (.getfield 39, 3) := by decide +kernel
theorem dX10_bySize_115 : decode cX10_bySize 115 = .ok (.iload_n 2, 1) := by decide +kernel
theorem dX10_bySize_116 : decode cX10_bySize 116 = .ok (.iconst 1, 1) := by decide +kernel
theorem dX10_bySize_117 : decode cX10_bySize 117 = .ok (.isub, 1) := by decide +kernel
theorem dX10_bySize_118 : decode cX10_bySize 118 = .ok (.iaload, 1) := by decide +kernel
theorem dX10_bySize_119 : decode cX10_bySize 119 = .ok (.iload_n 1, 1) := by decide +kernel
theorem dX10_bySize_120 : decode cX10_bySize 120 = .ok (.imul, 1) := by decide +kernel
theorem dX10_bySize_121 : decode cX10_bySize 121 = .ok (.bipush 97, 2) := by decide +kernel
theorem dX10_bySize_123 : decode cX10_bySize 123 = .ok (.irem, 1) := by decide +kernel
theorem dX10_bySize_124 : decode cX10_bySize 124 = .ok (.iastore, 1) := by decide +kernel
theorem dX10_bySize_125 : decode cX10_bySize 125 = .ok (.iinc 2 1, 3) := by decide +kernel
theorem dX10_bySize_128 : decode cX10_bySize 128 = .ok (.goto (-30), 3) := by decide +kernel
theorem dX10_bySize_131 : decode cX10_bySize 131 = .ok (.return_, 1) := by decide +kernel
set_option maxRecDepth 20000 in
theorem ggX10_cosOf_X10_size : GoodIn wsX10_cosOf wsX10_size := goodIn_r _ [5, 6, 12, 13, 14, 15, 16, 17, 18, 19, 20, 21, 22, 23, 24, 25, 26, 27, 28, 29, 30, 31, 32, 33, 34, 35, 36, 37, 38, 39, 40, 41, 42, 43, 44, 45, 46, 47, 48] (by decide +kernel) (by decide +kernel)
set_option maxRecDepth 20000 in
theorem gX10_cosOf_X10_size : GoodIn wsX10_cosOf (wsV RX10 196 RX10 yX10_size wsX10_size) := goodIn_app (goodIn_of _ (by decide +kernel)) ggX10_cosOf_X10_size
set_option maxRecDepth 20000 in
theorem ggX10_cosOf_X10_cos : GoodIn wsX10_cosOf wsX10_cos := goodIn_r _ [10, 11, 12, 13, 14, 15, 16, 17, 18, 19, 20, 21, 22, 23, 24, 25, 26, 27, 28, 29, 30, 31, 32, 33, 34, 35, 36, 37, 38, 39, 40, 41, 42, 43, 44, 45, 46, 47, 48] (by decide +kernel) (by decide +kernel)
set_option maxRecDepth 20000 in
theorem gX10_cosOf_X10_cos : GoodIn wsX10_cosOf (wsV RX10 200 RX10 yX10_cos wsX10_cos) := goodIn_app (goodIn_of _ (by decide +kernel)) ggX10_cosOf_X10_cos
theorem dX10_cosOf_0 : decode cX10_cosOf 0 = .ok (.aload_n 0, 1) := by decide +kernel
theorem dX10_cosOf_1 : decode cX10_cosOf 1 = .ok (.iload_n 1, 1) := by decide +kernel
theorem dX10_cosOf_2 : decode cX10_cosOf 2 = .ok (.bipush 32, 2) := by decide +kernel
theorem dX10_cosOf_4 : decode cX10_cosOf 4 = .ok (.imul, 1) := by decide +kernel
theorem dX10_cosOf_5 : decode cX10_cosOf 5 = .ok (.aload_n 0, 1) := by decide +kernel
theorem dX10_cosOf_6 : decode cX10_cosOf 6 = .ok (.invokevirtual 196, 3) := by decide +kernel
theorem dX10_cosOf_9 : decode cX10_cosOf 9 = .ok (.idiv, 1) := by decide +kernel
theorem dX10_cosOf_10 : decode cX10_cosOf 10 = .ok (.invokevirtual 200, 3) := by decide +kernel
theorem dX10_cosOf_13 : decode cX10_cosOf 13 = .ok (.ireturn, 1) := by decide +kernel
set_option maxRecDepth 20000 in
theorem ggX10_sinOf_X10_size : GoodIn wsX10_sinOf wsX10_size := goodIn_r _ [5, 6, 12, 13, 14, 15, 16, 17, 18, 19, 20, 21, 22, 23, 24, 25, 26, 27, 28, 29, 30, 31, 32, 33, 34, 35, 36, 37, 38, 39, 40, 41, 42, 43, 44, 45, 46, 47, 48] (by decide +kernel) (by decide +kernel)
set_option maxRecDepth 20000 in
theorem gX10_sinOf_X10_size : GoodIn wsX10_sinOf (wsV RX10 196 RX10 yX10_size wsX10_size) := goodIn_app (goodIn_of _ (by decide +kernel)) ggX10_sinOf_X10_size
set_option maxRecDepth 20000 in
theorem ggX10_sinOf_X10_cos : GoodIn wsX10_sinOf wsX10_cos := goodIn_r _ [10, 11, 12, 13, 14, 15, 16, 17, 18, 19, 20, 21, 22, 23, 24, 25, 26, 27, 28, 29, 30, 31, 32, 33, 34, 35, 36, 37, 38, 39, 40, 41, 42, 43, 44, 45, 46, 47, 48] (by decide +kernel) (by decide +kernel)
set_option maxRecDepth 20000 in
theorem gX10_sinOf_X10_cos : GoodIn wsX10_sinOf (wsV RX10 200 RX10 yX10_cos wsX10_cos) := goodIn_app (goodIn_of _ (by decide +kernel)) ggX10_sinOf_X10_cos
theorem dX10_sinOf_0 : decode cX10_sinOf 0 = .ok (.aload_n 0, 1) := by decide +kernel
theorem dX10_sinOf_1 : decode cX10_sinOf 1 = .ok (.iload_n 1, 1) := by decide +kernel
theorem dX10_sinOf_2 : decode cX10_sinOf 2 = .ok (.bipush 32, 2) := by decide +kernel
theorem dX10_sinOf_4 : decode cX10_sinOf 4 = .ok (.imul, 1) := by decide +kernel
theorem dX10_sinOf_5 : decode cX10_sinOf 5 = .ok (.aload_n 0, 1) := by decide +kernel
theorem dX10_sinOf_6 : decode cX10_sinOf 6 = .ok (.invokevirtual 196, 3) := by decide +kernel
theorem dX10_sinOf_9 : decode cX10_sinOf 9 = .ok (.idiv, 1) := by decide +kernel
theorem dX10_sinOf_10 : decode cX10_sinOf 10 = .ok (.bipush 24, 2) := by decide +kernel
theorem dX10_sinOf_12 : decode cX10_sinOf 12 = .ok (.iadd, 1) := by decide +kernel
theorem dX10_sinOf_13 : decode cX10_sinOf 13 = .ok (.bipush 32, 2) := by decide +kernel
theorem dX10_sinOf_15 : decode cX10_sinOf 15 = .ok (.irem, 1) := by decide +kernel
theorem dX10_sinOf_16 : decode cX10_sinOf 16 = .ok (.invokevirtual 200, 3) := by decide +kernel
theorem dX10_sinOf_19 : decode cX10_sinOf 19 = .ok (.ireturn, 1) := by decide +kernel
set_option maxRecDepth 20000 in
theorem ggX10_isPlace_X10_size : GoodIn wsX10_isPlace wsX10_size := goodIn_r _ [5, 6, 7, 8, 9, 10, 11, 12, 13, 14, 15, 16, 17, 18, 19, 20, 21, 22, 23, 24, 25, 26, 27, 28, 29, 30, 31, 32, 33, 34, 35, 36, 37, 38, 39, 40, 41, 42, 43] (by decide +kernel) (by decide +kernel)
set_option maxRecDepth 20000 in
theorem gX10_isPlace_X10_size : GoodIn wsX10_isPlace (wsV RX10 196 RX10 yX10_size wsX10_size) := goodIn_app (goodIn_of _ (by decide +kernel)) ggX10_isPlace_X10_size
theorem dX10_isPlace_0 : decode cX10_isPlace 0 = .ok (.iload_n 1, 1) := by decide +kernel
theorem dX10_isPlace_1 : decode cX10_isPlace 1 = .ok (.ifCond .lt 15, 3) := by decide +kernel
theorem dX10_isPlace_4 : decode cX10_isPlace 4 = .ok (.iload_n 1, 1) := by decide +kernel
theorem dX10_isPlace_5 : decode cX10_isPlace 5 = .ok (.aload_n 0, 1) := by decide +kernel
theorem dX10_isPlace_6 : decode cX10_isPlace 6 = .ok (.invokevirtual 196, 3) := by decide +kernel
theorem dX10_isPlace_9 : decode cX10_isPlace 9 = .ok (.if_icmp .ge 7, 3) := by decide +kernel
theorem dX10_isPlace_12 : decode cX10_isPlace 12 = .ok (.iconst 1, 1) := by decide +kernel
theorem dX10_isPlace_13 : decode cX10_isPlace 13 = .ok (.goto 4, 3) := by decide +kernel
theorem dX10_isPlace_16 : decode cX10_isPlace 16 = .ok (.iconst 0, 1) := by decide +kernel
theorem dX10_isPlace_17 : decode cX10_isPlace 17 = .ok (.ireturn, 1) := by decide +kernel
set_option maxRecDepth 20000 in
theorem ggX10_turn_X10_isPlace : GoodIn wsX10_turn wsX10_isPlace := goodIn_r _ [7, 8, 9, 10, 6, 11, 12, 29, 30, 31, 32, 33, 34, 35, 36, 37, 38, 39, 40, 41, 42, 43, 44, 45, 46, 47, 48, 49, 50, 51, 52, 53, 54, 55, 56, 57, 58, 59, 60, 61, 62, 63, 64, 65] (by decide +kernel) (by decide +kernel)
set_option maxRecDepth 20000 in
theorem gX10_turn_X10_isPlace : GoodIn wsX10_turn (wsV RX10 203 RX10 yX10_isPlace wsX10_isPlace) := goodIn_app (goodIn_of _ (by decide +kernel)) ggX10_turn_X10_isPlace
set_option maxRecDepth 20000 in
theorem ggX10_turn_X10_isIn : GoodIn wsX10_turn wsX10_isIn := goodIn_r _ [15] (by decide +kernel) (by decide +kernel)
set_option maxRecDepth 20000 in
theorem gX10_turn_X10_isIn : GoodIn wsX10_turn (va_wsS RX10 138 yX10_isIn wsX10_isIn) := goodIn_app (goodIn_of _ (by decide +kernel)) ggX10_turn_X10_isIn
set_option maxRecDepth 20000 in
theorem ggX10_turn_X10_cosOf : GoodIn wsX10_turn wsX10_cosOf := goodIn_r _ [19, 8, 9, 10, 6, 11, 12, 20, 21, 22, 23, 24, 29, 30, 31, 32, 33, 34, 35, 36, 37, 38, 39, 40, 41, 42, 43, 44, 45, 46, 47, 48, 49, 50, 51, 52, 53, 54, 55, 56, 57, 58, 59, 60, 61, 62, 63, 64, 65] (by decide +kernel) (by decide +kernel)
set_option maxRecDepth 20000 in
theorem gX10_turn_X10_cosOf : GoodIn wsX10_turn (wsV RX10 207 RX10 yX10_cosOf wsX10_cosOf) := goodIn_app (goodIn_of _ (by decide +kernel)) ggX10_turn_X10_cosOf
set_option maxRecDepth 20000 in
theorem ggX10_turn_X10_sinOf : GoodIn wsX10_turn wsX10_sinOf := goodIn_r _ [28, 8, 9, 10, 6, 11, 12, 20, 21, 22, 23, 24, 29, 30, 31, 32, 33, 34, 35, 36, 37, 38, 39, 40, 41, 42, 43, 44, 45, 46, 47, 48, 49, 50, 51, 52, 53, 54, 55, 56, 57, 58, 59, 60, 61, 62, 63, 64, 65] (by decide +kernel) (by decide +kernel)
set_option maxRecDepth 20000 in
theorem gX10_turn_X10_sinOf : GoodIn wsX10_turn (wsV RX10 210 RX10 yX10_sinOf wsX10_sinOf) := goodIn_app (goodIn_of _ (by decide +kernel)) ggX10_turn_X10_sinOf
theorem dX10_turn_0 : decode cX10_turn 0 = .ok (.aload_n 0, 1) := by decide +kernel
theorem dX10_turn_1 : decode cX10_turn 1 = .ok (.iconst 0, 1) := by decide +kernel
theorem dX10_turn_2 : decode cX10_turn 2 = .ok (.putfield 70, 3) := by decide +kernel
theorem dX10_turn_5 : decode cX10_turn 5 = .ok (.aload_n 0, 1) := by decide +kernel
theorem dX10_turn_6 : decode cX10_turn 6 = .ok (.iload_n 1, 1) := by decide +kernel
theorem dX10_turn_7 : decode cX10_turn 7 = .ok (.invokevirtual 203, 3) := by decide +kernel
theorem dX10_turn_10 : decode cX10_turn 10 = .ok (.ifCond .eq 12, 3) := by decide +kernel
theorem dX10_turn_13 : decode cX10_turn 13 = .ok (.iload_n 2, 1) := by decide +kernel
theorem dX10_turn_14 : decode cX10_turn 14 = .ok (.iconst 0, 1) := by decide +kernel
theorem dX10_turn_15 : decode cX10_turn 15 = .ok (.iconst 1, 1) := by decide +kernel
theorem dX10_turn_16 : decode cX10_turn 16 = .ok (.invokestatic 138, 3) := by decide +kernel
theorem dX10_turn_19 : decode cX10_turn 19 = .ok (.ifCond .ne 6, 3) := by decide +kernel
theorem dX10_turn_22 : decode cX10_turn 22 = .ok (.ldc 206, 2) := by decide +kernel
theorem dX10_turn_24 : decode cX10_turn 24 = .ok (.ireturn, 1) := by decide +kernel
theorem dX10_turn_25 : decode cX10_turn 25 = .ok (.iload_n 2, 1) := by decide +kernel
theorem dX10_turn_26 : decode cX10_turn 26 = .ok (.ifCond .ne 11, 3) := by decide +kernel
theorem dX10_turn_29 : decode cX10_turn 29 = .ok (.aload_n 0, 1) := by decide +kernel
theorem dX10_turn_30 : decode cX10_turn 30 = .ok (.iload_n 1, 1) := by decide +kernel
theorem dX10_turn_31 : decode cX10_turn 31 = .ok (.invokevirtual 207, 3) := by decide +kernel
theorem dX10_turn_34 : decode cX10_turn 34 = .ok (.goto 9, 3) := by decide +kernel
theorem dX10_turn_37 : decode cX10_turn 37 = .ok (.aload_n 0, 1) := by decide +kernel
theorem dX10_turn_38 : decode cX10_turn 38 = .ok (.iload_n 1, 1) := by decide +kernel
theorem dX10_turn_39 : decode cX10_turn 39 = .ok (.invokevirtual 210, 3) := by decide +kernel
theorem dX10_turn_42 : decode cX10_turn 42 = .ok (.ineg, 1) := by decide +kernel
theorem dX10_turn_43 : decode cX10_turn 43 = .ok (.ireturn, 1) := by decide +kernel
set_option maxRecDepth 20000 in
theorem ggX10_stagesMany_X10_powerOf : GoodIn wsX10_stagesMany wsX10_powerOf := goodIn_r _ [6, 7, 8, 9, 10, 11, 12, 13, 14, 15, 16, 17, 18, 19, 20, 21, 22, 23, 24, 25, 26, 27, 28, 29, 30, 31, 32, 33, 34, 35, 36, 37, 38, 39, 40, 41, 42, 43, 44] (by decide +kernel) (by decide +kernel)
set_option maxRecDepth 20000 in
theorem gX10_stagesMany_X10_powerOf : GoodIn wsX10_stagesMany (wsV RX10 213 RX10 yX10_powerOf wsX10_powerOf) := goodIn_app (goodIn_of _ (by decide +kernel)) ggX10_stagesMany_X10_powerOf
theorem dX10_stagesMany_0 : decode cX10_stagesMany 0 = .ok (.aload_n 0, 1) := by decide +kernel
theorem dX10_stagesMany_1 : decode cX10_stagesMany 1 = .ok (.getfield 166, 3) := by decide +kernel
theorem dX10_stagesMany_4 : decode cX10_stagesMany 4 = .ok (.iconst 2, 1) := by decide +kernel
theorem dX10_stagesMany_5 : decode cX10_stagesMany 5 = .ok (.if_icmp .ne 10, 3) := by decide +kernel
theorem dX10_stagesMany_8 : decode cX10_stagesMany 8 = .ok (.aload_n 0, 1) := by decide +kernel
theorem dX10_stagesMany_9 : decode cX10_stagesMany 9 = .ok (.invokevirtual 213, 3) := by decide +kernel
theorem dX10_stagesMany_12 : decode cX10_stagesMany 12 = .ok (.goto 11, 3) := by decide +kernel
theorem dX10_stagesMany_15 : decode cX10_stagesMany 15 = .ok (.aload_n 0, 1) := by decide +kernel
theorem dX10_stagesMany_16 : decode cX10_stagesMany 16 = .ok (.invokevirtual 213, 3) := by decide +kernel
theorem dX10_stagesMany_19 : decode cX10_stagesMany 19 = .ok (.iconst 1, 1) := by decide +kernel
theorem dX10_stagesMany_20 : decode cX10_stagesMany 20 = .ok (.iadd, 1) := by decide +kernel
theorem dX10_stagesMany_21 : decode cX10_stagesMany 21 = .ok (.iconst 2, 1) := by decide +kernel
theorem dX10_stagesMany_22 : decode cX10_stagesMany 22 = .ok (.idiv, 1) := by decide +kernel
theorem dX10_stagesMany_23 : decode cX10_stagesMany 23 = .ok (.ireturn, 1) := by decide +kernel
set_option maxRecDepth 20000 in
theorem ggX10_radixAt_X10_powerOf : GoodIn wsX10_radixAt wsX10_powerOf := goodIn_r _ [7, 8, 13, 14, 15, 16, 17, 18, 19, 20, 21, 22, 23, 24, 25, 26, 27, 28, 29, 30, 31, 32, 33, 34, 35, 36, 37, 38, 39, 40, 41, 42, 43, 44, 45, 46, 47, 48, 49] (by decide +kernel) (by decide +kernel)
set_option maxRecDepth 20000 in
theorem gX10_radixAt_X10_powerOf : GoodIn wsX10_radixAt (wsV RX10 213 RX10 yX10_powerOf wsX10_powerOf) := goodIn_app (goodIn_of _ (by decide +kernel)) ggX10_radixAt_X10_powerOf
set_option maxRecDepth 20000 in
theorem ggX10_radixAt_X10_stagesMany : GoodIn wsX10_radixAt wsX10_stagesMany := goodIn_r _ [12, 2, 3, 4, 5, 6, 7, 8, 13, 14, 15, 16, 17, 18, 19, 20, 21, 22, 23, 24, 25, 26, 27, 28, 29, 30, 31, 32, 33, 34, 35, 36, 37, 38, 39, 40, 41, 42, 43, 44, 45, 46, 47, 48, 49] (by decide +kernel) (by decide +kernel)
set_option maxRecDepth 20000 in
theorem gX10_radixAt_X10_stagesMany : GoodIn wsX10_radixAt (wsV RX10 216 RX10 yX10_stagesMany wsX10_stagesMany) := goodIn_app (goodIn_of _ (by decide +kernel)) ggX10_radixAt_X10_stagesMany
theorem dX10_radixAt_0 : decode cX10_radixAt 0 = .ok (.aload_n 0, 1) := by decide +kernel
theorem dX10_radixAt_1 : decode cX10_radixAt 1 = .ok (.invokevirtual 213, 3) := by decide +kernel
theorem dX10_radixAt_4 : decode cX10_radixAt 4 = .ok (.iconst 2, 1) := by decide +kernel
theorem dX10_radixAt_5 : decode cX10_radixAt 5 = .ok (.irem, 1) := by decide +kernel
theorem dX10_radixAt_6 : decode cX10_radixAt 6 = .ok (.iconst 1, 1) := by decide +kernel
theorem dX10_radixAt_7 : decode cX10_radixAt 7 = .ok (.if_icmp .ne 7, 3) := by decide +kernel
theorem dX10_radixAt_10 : decode cX10_radixAt 10 = .ok (.iconst 1, 1) := by decide +kernel
theorem dX10_radixAt_11 : decode cX10_radixAt 11 = .ok (.goto 4, 3) := by decide +kernel
theorem dX10_radixAt_14 : decode cX10_radixAt 14 = .ok (.iconst 0, 1) := by decide +kernel
theorem dX10_radixAt_15 : decode cX10_radixAt 15 = .ok (.istore_n 2, 1) := by decide +kernel
theorem dX10_radixAt_16 : decode cX10_radixAt 16 = .ok (.iload_n 2, 1) := by decide +kernel
theorem dX10_radixAt_17 : decode cX10_radixAt 17 = .ok (.ifCond .eq 28, 3) := by decide +kernel
theorem dX10_radixAt_20 : decode cX10_radixAt 20 = .ok (.iload_n 1, 1) := by decide +kernel
theorem dX10_radixAt_21 : decode cX10_radixAt 21 = .ok (.aload_n 0, 1) := by decide +kernel
theorem dX10_radixAt_22 : decode cX10_radixAt 22 = .ok (.getfield 169, 3) := by decide +kernel
theorem dX10_radixAt_25 : decode cX10_radixAt 25 = .ok (.ifCond .ne 7, 3) := by decide +kernel
theorem dX10_radixAt_28 : decode cX10_radixAt 28 = .ok (.iconst 0, 1) := by decide +kernel
theorem dX10_radixAt_29 : decode cX10_radixAt 29 = .ok (.goto 9, 3) := by decide +kernel
theorem dX10_radixAt_32 : decode cX10_radixAt 32 = .ok (.aload_n 0, 1) := by decide +kernel
theorem dX10_radixAt_33 : decode cX10_radixAt 33 = .ok (.invokevirtual 216, 3) := by decide +kernel
theorem dX10_radixAt_36 : decode cX10_radixAt 36 = .ok (.iconst 1, 1) := by decide +kernel
theorem dX10_radixAt_37 : decode cX10_radixAt 37 = .ok (.isub, 1) := by decide +kernel
theorem dX10_radixAt_38 : decode cX10_radixAt 38 = .ok (.if_icmp .ne 7, 3) := by decide +kernel
theorem dX10_radixAt_41 : decode cX10_radixAt 41 = .ok (.iconst 1, 1) := by decide +kernel
theorem dX10_radixAt_42 : decode cX10_radixAt 42 = .ok (.goto 4, 3) := by decide +kernel
theorem dX10_radixAt_45 : decode cX10_radixAt 45 = .ok (.iconst 0, 1) := by decide +kernel
theorem dX10_radixAt_46 : decode cX10_radixAt 46 = .ok (.istore_n 3, 1) := by decide +kernel
theorem dX10_radixAt_47 : decode cX10_radixAt 47 = .ok (.aload_n 0, 1) := by decide +kernel
theorem dX10_radixAt_48 : decode cX10_radixAt 48 = .ok (.getfield 166, 3) := by decide +kernel
theorem dX10_radixAt_51 : decode cX10_radixAt 51 = .ok (.iconst 2, 1) := by decide +kernel
theorem dX10_radixAt_52 : decode cX10_radixAt 52 = .ok (.if_icmp .eq 7, 3) := by decide +kernel
theorem dX10_radixAt_55 : decode cX10_radixAt 55 = .ok (.iload_n 3, 1) := by decide +kernel
theorem dX10_radixAt_56 : decode cX10_radixAt 56 = .ok (.ifCond .eq 7, 3) := by decide +kernel
theorem dX10_radixAt_59 : decode cX10_radixAt 59 = .ok (.iconst 2, 1) := by decide +kernel
theorem dX10_radixAt_60 : decode cX10_radixAt 60 = .ok (.goto 4, 3) := by decide +kernel
theorem dX10_radixAt_63 : decode cX10_radixAt 63 = .ok (.iconst 4, 1) := by decide +kernel
theorem dX10_radixAt_64 : decode cX10_radixAt 64 = .ok (.ireturn, 1) := by decide +kernel
set_option maxRecDepth 20000 in
theorem ggX10_digitOf_X10_stagesMany : GoodIn wsX10_digitOf wsX10_stagesMany := goodIn_r _ [5, 6, 7, 8, 9, 4, 10, 11, 17, 18, 19, 20, 21, 22, 23, 24, 25, 26, 27, 28, 29, 30, 31, 32, 33, 34, 35, 36, 37, 38, 39, 40, 41, 42, 43, 44, 45, 46, 47, 48, 49, 50, 51, 52, 53] (by decide +kernel) (by decide +kernel)
set_option maxRecDepth 20000 in
theorem gX10_digitOf_X10_stagesMany : GoodIn wsX10_digitOf (wsV RX10 216 RX10 yX10_stagesMany wsX10_stagesMany) := goodIn_app (goodIn_of _ (by decide +kernel)) ggX10_digitOf_X10_stagesMany
set_option maxRecDepth 20000 in
theorem ggX10_digitOf_X10_radixAt : GoodIn wsX10_digitOf wsX10_radixAt := goodIn_r _ [15, 16, 6, 7, 8, 9, 4, 10, 11, 1, 2, 3, 5, 17, 18, 19, 20, 21, 22, 23, 24, 25, 26, 27, 28, 29, 30, 31, 32, 33, 34, 35, 36, 37, 38, 39, 40, 41, 42, 43, 44, 45, 46, 47, 48, 49, 50, 51, 52, 53] (by decide +kernel) (by decide +kernel)
set_option maxRecDepth 20000 in
theorem gX10_digitOf_X10_radixAt : GoodIn wsX10_digitOf (wsV RX10 219 RX10 yX10_radixAt wsX10_radixAt) := goodIn_app (goodIn_of _ (by decide +kernel)) ggX10_digitOf_X10_radixAt
theorem dX10_digitOf_0 : decode cX10_digitOf 0 = .ok (.iload_n 1, 1) := by decide +kernel
theorem dX10_digitOf_1 : decode cX10_digitOf 1 = .ok (.istore_n 3, 1) := by decide +kernel
theorem dX10_digitOf_2 : decode cX10_digitOf 2 = .ok (.iconst 0, 1) := by decide +kernel
theorem dX10_digitOf_3 : decode cX10_digitOf 3 = .ok (.istore 4, 2) := by decide +kernel
theorem dX10_digitOf_5 : decode cX10_digitOf 5 = .ok (.iload 4, 2) := by decide +kernel
theorem dX10_digitOf_7 : decode cX10_digitOf 7 = .ok (.iload_n 2, 1) := by decide +kernel
theorem dX10_digitOf_8 : decode cX10_digitOf 8 = .ok (.if_icmp .ge 25, 3) := by decide +kernel
theorem dX10_digitOf_11 : decode cX10_digitOf 11 = .ok (.iload_n 3, 1) := by decide +kernel
theorem dX10_digitOf_12 : decode cX10_digitOf 12 = .ok (.aload_n 0, 1) := by decide +kernel
theorem dX10_digitOf_13 : decode cX10_digitOf 13 = .ok (.aload_n 0, 1) := by decide +kernel
theorem dX10_digitOf_14 : decode cX10_digitOf 14 = .ok (.invokevirtual 216, 3) := by decide +kernel
theorem dX10_digitOf_17 : decode cX10_digitOf 17 = .ok (.iconst 1, 1) := by decide +kernel
theorem dX10_digitOf_18 : decode cX10_digitOf 18 = .ok (.isub, 1) := by decide +kernel
theorem dX10_digitOf_19 : decode cX10_digitOf 19 = .ok (.iload 4, 2) := by decide +kernel
theorem dX10_digitOf_21 : decode cX10_digitOf 21 = .ok (.isub, 1) := by decide +kernel
theorem dX10_digitOf_22 : decode cX10_digitOf 22 = .ok (.invokevirtual 219, 3) := by decide +kernel
theorem dX10_digitOf_25 : decode cX10_digitOf 25 = .ok (.idiv, 1) := by decide +kernel
theorem dX10_digitOf_26 : decode cX10_digitOf 26 = .ok (.istore_n 3, 1) := by decide +kernel
theorem dX10_digitOf_27 : decode cX10_digitOf 27 = .ok (.iinc 4 1, 3) := by decide +kernel
theorem dX10_digitOf_30 : decode cX10_digitOf 30 = .ok (.goto (-25), 3) := by decide +kernel
theorem dX10_digitOf_33 : decode cX10_digitOf 33 = .ok (.iload_n 3, 1) := by decide +kernel
theorem dX10_digitOf_34 : decode cX10_digitOf 34 = .ok (.aload_n 0, 1) := by decide +kernel
theorem dX10_digitOf_35 : decode cX10_digitOf 35 = .ok (.aload_n 0, 1) := by decide +kernel
theorem dX10_digitOf_36 : decode cX10_digitOf 36 = .ok (.invokevirtual 216, 3) := by decide +kernel
theorem dX10_digitOf_39 : decode cX10_digitOf 39 = .ok (.iconst 1, 1) := by decide +kernel
theorem dX10_digitOf_40 : decode cX10_digitOf 40 = .ok (.isub, 1) := by decide +kernel
theorem dX10_digitOf_41 : decode cX10_digitOf 41 = .ok (.iload_n 2, 1) := by decide +kernel
theorem dX10_digitOf_42 : decode cX10_digitOf 42 = .ok (.isub, 1) := by decide +kernel
theorem dX10_digitOf_43 : decode cX10_digitOf 43 = .ok (.invokevirtual 219, 3) := by decide +kernel
theorem dX10_digitOf_46 : decode cX10_digitOf 46 = .ok (.irem, 1) := by decide +kernel
theorem dX10_digitOf_47 : decode cX10_digitOf 47 = .ok (.ireturn, 1) := by decide +kernel
set_option maxRecDepth 20000 in
theorem ggX10_reversedOf_X10_stagesMany : GoodIn wsX10_reversedOf wsX10_stagesMany := goodIn_r _ [5, 6, 7, 8, 9, 4, 10, 11, 17, 18, 19, 20, 21, 22, 23, 24, 25, 26, 27, 28, 29, 30, 31, 32, 33, 34, 35, 36, 37, 38, 39, 40, 41, 42, 43, 44, 45, 46, 47, 48, 49, 50, 51, 52, 53] (by decide +kernel) (by decide +kernel)
set_option maxRecDepth 20000 in
theorem gX10_reversedOf_X10_stagesMany : GoodIn wsX10_reversedOf (wsV RX10 216 RX10 yX10_stagesMany wsX10_stagesMany) := goodIn_app (goodIn_of _ (by decide +kernel)) ggX10_reversedOf_X10_stagesMany
set_option maxRecDepth 20000 in
theorem ggX10_reversedOf_X10_radixAt : GoodIn wsX10_reversedOf wsX10_radixAt := goodIn_r _ [15, 16, 6, 7, 8, 9, 4, 10, 11, 1, 2, 3, 5, 17, 18, 19, 20, 21, 22, 23, 24, 25, 26, 27, 28, 29, 30, 31, 32, 33, 34, 35, 36, 37, 38, 39, 40, 41, 42, 43, 44, 45, 46, 47, 48, 49, 50, 51, 52, 53] (by decide +kernel) (by decide +kernel)
set_option maxRecDepth 20000 in
theorem gX10_reversedOf_X10_radixAt : GoodIn wsX10_reversedOf (wsV RX10 219 RX10 yX10_radixAt wsX10_radixAt) := goodIn_app (goodIn_of _ (by decide +kernel)) ggX10_reversedOf_X10_radixAt
theorem dX10_reversedOf_0 : decode cX10_reversedOf 0 = .ok (.iconst 0, 1) := by decide +kernel
theorem dX10_reversedOf_1 : decode cX10_reversedOf 1 = .ok (.istore_n 2, 1) := by decide +kernel
theorem dX10_reversedOf_2 : decode cX10_reversedOf 2 = .ok (.iload_n 1, 1) := by decide +kernel
theorem dX10_reversedOf_3 : decode cX10_reversedOf 3 = .ok (.istore_n 3, 1) := by decide +kernel
theorem dX10_reversedOf_4 : decode cX10_reversedOf 4 = .ok (.aload_n 0, 1) := by decide +kernel
theorem dX10_reversedOf_5 : decode cX10_reversedOf 5 = .ok (.invokevirtual 216, 3) := by decide +kernel
theorem dX10_reversedOf_8 : decode cX10_reversedOf 8 = .ok (.iconst 1, 1) := by decide +kernel
theorem dX10_reversedOf_9 : decode cX10_reversedOf 9 = .ok (.isub, 1) := by decide +kernel
theorem dX10_reversedOf_10 : decode cX10_reversedOf 10 = .ok (.istore 4, 2) := by decide +kernel
theorem dX10_reversedOf_12 : decode cX10_reversedOf 12 = .ok (.iload 4, 2) := by decide +kernel
theorem dX10_reversedOf_14 : decode cX10_reversedOf 14 = .ok (.ifCond .lt 32, 3) := by decide +kernel
theorem dX10_reversedOf_17 : decode cX10_reversedOf 17 = .ok (.aload_n 0, 1) := by decide +kernel
theorem dX10_reversedOf_18 : decode cX10_reversedOf 18 = .ok (.iload 4, 2) := by decide +kernel
theorem dX10_reversedOf_20 : decode cX10_reversedOf 20 = .ok (.invokevirtual 219, 3) := by decide +kernel
theorem dX10_reversedOf_23 : decode cX10_reversedOf 23 = .ok (.istore 5, 2) := by decide +kernel
theorem dX10_reversedOf_25 : decode cX10_reversedOf 25 = .ok (.iload_n 2, 1) := by decide +kernel
theorem dX10_reversedOf_26 : decode cX10_reversedOf 26 = .ok (.iload 5, 2) := by decide +kernel
theorem dX10_reversedOf_28 : decode cX10_reversedOf 28 = .ok (.imul, 1) := by decide +kernel
theorem dX10_reversedOf_29 : decode cX10_reversedOf 29 = .ok (.iload_n 3, 1) := by decide +kernel
theorem dX10_reversedOf_30 : decode cX10_reversedOf 30 = .ok (.iload 5, 2) := by decide +kernel
theorem dX10_reversedOf_32 : decode cX10_reversedOf 32 = .ok (.irem, 1) := by decide +kernel
theorem dX10_reversedOf_33 : decode cX10_reversedOf 33 = .ok (.iadd, 1) := by decide +kernel
theorem dX10_reversedOf_34 : decode cX10_reversedOf 34 = .ok (.istore_n 2, 1) := by decide +kernel
theorem dX10_reversedOf_35 : decode cX10_reversedOf 35 = .ok (.iload_n 3, 1) := by decide +kernel
theorem dX10_reversedOf_36 : decode cX10_reversedOf 36 = .ok (.iload 5, 2) := by decide +kernel
theorem dX10_reversedOf_38 : decode cX10_reversedOf 38 = .ok (.idiv, 1) := by decide +kernel
theorem dX10_reversedOf_39 : decode cX10_reversedOf 39 = .ok (.istore_n 3, 1) := by decide +kernel
theorem dX10_reversedOf_40 : decode cX10_reversedOf 40 = .ok (.iinc 4 (-1), 3) := by decide +kernel
theorem dX10_reversedOf_43 : decode cX10_reversedOf 43 = .ok (.goto (-31), 3) := by decide +kernel
theorem dX10_reversedOf_46 : decode cX10_reversedOf 46 = .ok (.iload_n 2, 1) := by decide +kernel
theorem dX10_reversedOf_47 : decode cX10_reversedOf 47 = .ok (.ireturn, 1) := by decide +kernel
set_option maxRecDepth 20000 in
theorem ggX10_reversed_X10_isPlace : GoodIn wsX10_reversed wsX10_isPlace := goodIn_r _ [6, 7, 8, 9, 5, 10, 11, 31, 32, 33, 34, 35, 36, 37, 38, 39, 40, 41, 42, 43, 44, 45, 46, 47, 48, 49, 50, 51, 52, 53, 54, 55, 56, 57, 58, 59, 60, 61, 62, 63, 64, 65, 66, 67] (by decide +kernel) (by decide +kernel)
set_option maxRecDepth 20000 in
theorem gX10_reversed_X10_isPlace : GoodIn wsX10_reversed (wsV RX10 203 RX10 yX10_isPlace wsX10_isPlace) := goodIn_app (goodIn_of _ (by decide +kernel)) ggX10_reversed_X10_isPlace
set_option maxRecDepth 20000 in
theorem ggX10_reversed_X10_reversedOf : GoodIn wsX10_reversed wsX10_reversedOf := goodIn_r _ [15, 16, 17, 18, 5, 19, 20, 21, 22, 23, 24, 25, 26, 27, 28, 29, 30, 31, 32, 33, 34, 35, 36, 37, 38, 39, 40, 41, 42, 43, 44, 45, 46, 47, 48, 49, 50, 51, 52, 53, 54, 55, 56, 57, 58, 59, 60, 61, 62, 63, 64, 65, 66, 67] (by decide +kernel) (by decide +kernel)
set_option maxRecDepth 20000 in
theorem gX10_reversed_X10_reversedOf : GoodIn wsX10_reversed (wsV RX10 222 RX10 yX10_reversedOf wsX10_reversedOf) := goodIn_app (goodIn_of _ (by decide +kernel)) ggX10_reversed_X10_reversedOf
theorem dX10_reversed_0 : decode cX10_reversed 0 = .ok (.aload_n 0, 1) := by decide +kernel
theorem dX10_reversed_1 : decode cX10_reversed 1 = .ok (.iconst 0, 1) := by decide +kernel
theorem dX10_reversed_2 : decode cX10_reversed 2 = .ok (.putfield 70, 3) := by decide +kernel
theorem dX10_reversed_5 : decode cX10_reversed 5 = .ok (.aload_n 0, 1) := by decide +kernel
theorem dX10_reversed_6 : decode cX10_reversed 6 = .ok (.iload_n 1, 1) := by decide +kernel
theorem dX10_reversed_7 : decode cX10_reversed 7 = .ok (.invokevirtual 203, 3) := by decide +kernel
theorem dX10_reversed_10 : decode cX10_reversed 10 = .ok (.ifCond .eq 11, 3) := by decide +kernel
theorem dX10_reversed_13 : decode cX10_reversed 13 = .ok (.aload_n 0, 1) := by decide +kernel
theorem dX10_reversed_14 : decode cX10_reversed 14 = .ok (.iload_n 1, 1) := by decide +kernel
theorem dX10_reversed_15 : decode cX10_reversed 15 = .ok (.invokevirtual 222, 3) := by decide +kernel
theorem dX10_reversed_18 : decode cX10_reversed 18 = .ok (.goto 4, 3) := by decide +kernel
theorem dX10_reversed_21 : decode cX10_reversed 21 = .ok (.iconst (-1), 1) := by decide +kernel
theorem dX10_reversed_22 : decode cX10_reversed 22 = .ok (.ireturn, 1) := by decide +kernel
set_option maxRecDepth 20000 in
theorem ggX10_digit_X10_isPlace : GoodIn wsX10_digit wsX10_isPlace := goodIn_r _ [6, 7, 8, 9, 5, 10, 11, 31, 32, 33, 34, 35, 36, 37, 38, 39, 40, 41, 42, 43, 44, 45, 46, 47, 48, 49, 50, 51, 52, 53, 54, 55, 56, 57, 58, 59, 60, 61, 62, 63, 64, 65, 66, 67] (by decide +kernel) (by decide +kernel)
set_option maxRecDepth 20000 in
theorem gX10_digit_X10_isPlace : GoodIn wsX10_digit (wsV RX10 203 RX10 yX10_isPlace wsX10_isPlace) := goodIn_app (goodIn_of _ (by decide +kernel)) ggX10_digit_X10_isPlace
set_option maxRecDepth 20000 in
theorem ggX10_digit_X10_stagesMany : GoodIn wsX10_digit wsX10_stagesMany := goodIn_r _ [15, 16, 17, 18, 19, 5, 20, 21, 31, 32, 33, 34, 35, 36, 37, 38, 39, 40, 41, 42, 43, 44, 45, 46, 47, 48, 49, 50, 51, 52, 53, 54, 55, 56, 57, 58, 59, 60, 61, 62, 63, 64, 65, 66, 67] (by decide +kernel) (by decide +kernel)
set_option maxRecDepth 20000 in
theorem gX10_digit_X10_stagesMany : GoodIn wsX10_digit (wsV RX10 216 RX10 yX10_stagesMany wsX10_stagesMany) := goodIn_app (goodIn_of _ (by decide +kernel)) ggX10_digit_X10_stagesMany
set_option maxRecDepth 20000 in
theorem ggX10_digit_X10_digitOf : GoodIn wsX10_digit wsX10_digitOf := goodIn_r _ [25, 12, 13, 14, 5, 15, 16, 17, 18, 19, 20, 21, 26, 27, 28, 29, 30, 31, 32, 33, 34, 35, 36, 37, 38, 39, 40, 41, 42, 43, 44, 45, 46, 47, 48, 49, 50, 51, 52, 53, 54, 55, 56, 57, 58, 59, 60, 61, 62, 63, 64, 65, 66, 67] (by decide +kernel) (by decide +kernel)
set_option maxRecDepth 20000 in
theorem gX10_digit_X10_digitOf : GoodIn wsX10_digit (wsV RX10 225 RX10 yX10_digitOf wsX10_digitOf) := goodIn_app (goodIn_of _ (by decide +kernel)) ggX10_digit_X10_digitOf
theorem dX10_digit_0 : decode cX10_digit 0 = .ok (.aload_n 0, 1) := by decide +kernel
theorem dX10_digit_1 : decode cX10_digit 1 = .ok (.iconst 0, 1) := by decide +kernel
theorem dX10_digit_2 : decode cX10_digit 2 = .ok (.putfield 70, 3) := by decide +kernel
theorem dX10_digit_5 : decode cX10_digit 5 = .ok (.aload_n 0, 1) := by decide +kernel
theorem dX10_digit_6 : decode cX10_digit 6 = .ok (.iload_n 1, 1) := by decide +kernel
theorem dX10_digit_7 : decode cX10_digit 7 = .ok (.invokevirtual 203, 3) := by decide +kernel
theorem dX10_digit_10 : decode cX10_digit 10 = .ok (.ifCond .eq 24, 3) := by decide +kernel
theorem dX10_digit_13 : decode cX10_digit 13 = .ok (.iload_n 2, 1) := by decide +kernel
theorem dX10_digit_14 : decode cX10_digit 14 = .ok (.ifCond .lt 20, 3) := by decide +kernel
theorem dX10_digit_17 : decode cX10_digit 17 = .ok (.iload_n 2, 1) := by decide +kernel
theorem dX10_digit_18 : decode cX10_digit 18 = .ok (.aload_n 0, 1) := by decide +kernel
theorem dX10_digit_19 : decode cX10_digit 19 = .ok (.invokevirtual 216, 3) := by decide +kernel
theorem dX10_digit_22 : decode cX10_digit 22 = .ok (.if_icmp .ge 12, 3) := by decide +kernel
theorem dX10_digit_25 : decode cX10_digit 25 = .ok (.aload_n 0, 1) := by decide +kernel
theorem dX10_digit_26 : decode cX10_digit 26 = .ok (.iload_n 1, 1) := by decide +kernel
theorem dX10_digit_27 : decode cX10_digit 27 = .ok (.iload_n 2, 1) := by decide +kernel
theorem dX10_digit_28 : decode cX10_digit 28 = .ok (.invokevirtual 225, 3) := by decide +kernel
theorem dX10_digit_31 : decode cX10_digit 31 = .ok (.goto 4, 3) := by decide +kernel
theorem dX10_digit_34 : decode cX10_digit 34 = .ok (.iconst (-1), 1) := by decide +kernel
theorem dX10_digit_35 : decode cX10_digit 35 = .ok (.ireturn, 1) := by decide +kernel
theorem dX10_over0_0 : decode cX10_over0 0 = .ok (.iload_n 0, 1) := by decide +kernel
theorem dX10_over0_1 : decode cX10_over0 1 = .ok (.ifCond .ge 8, 3) := by decide +kernel
theorem dX10_over0_4 : decode cX10_over0 4 = .ok (.iload_n 0, 1) := by decide +kernel
theorem dX10_over0_5 : decode cX10_over0 5 = .ok (.ineg, 1) := by decide +kernel
theorem dX10_over0_6 : decode cX10_over0 6 = .ok (.goto 4, 3) := by decide +kernel
theorem dX10_over0_9 : decode cX10_over0 9 = .ok (.iload_n 0, 1) := by decide +kernel
theorem dX10_over0_10 : decode cX10_over0 10 = .ok (.ireturn, 1) := by decide +kernel
set_option maxRecDepth 20000 in
theorem ggX10_largestIn_X10_of : GoodIn wsX10_largestIn wsX10_of := goodIn_r _ [5, 6, 7, 11, 12, 13, 14, 15, 16, 17, 18, 19, 20, 21, 22, 23, 24, 25, 26, 27, 28, 29, 30, 31, 32, 33, 34, 35, 36, 37, 38, 39, 40, 41, 42, 43, 44, 45, 46, 47] (by decide +kernel) (by decide +kernel)
set_option maxRecDepth 20000 in
theorem gX10_largestIn_X10_of : GoodIn wsX10_largestIn (wsV RX10 187 RX10 yX10_of wsX10_of) := goodIn_app (goodIn_of _ (by decide +kernel)) ggX10_largestIn_X10_of
set_option maxRecDepth 20000 in
theorem ggX10_largestIn_X10_over0 : GoodIn wsX10_largestIn wsX10_over0 := goodIn_r _ [10] (by decide +kernel) (by decide +kernel)
set_option maxRecDepth 20000 in
theorem gX10_largestIn_X10_over0 : GoodIn wsX10_largestIn (va_wsS RX10 228 yX10_over0 wsX10_over0) := goodIn_app (goodIn_of _ (by decide +kernel)) ggX10_largestIn_X10_over0
theorem dX10_largestIn_0 : decode cX10_largestIn 0 = .ok (.iconst 0, 1) := by decide +kernel
theorem dX10_largestIn_1 : decode cX10_largestIn 1 = .ok (.istore_n 3, 1) := by decide +kernel
theorem dX10_largestIn_2 : decode cX10_largestIn 2 = .ok (.iload_n 1, 1) := by decide +kernel
theorem dX10_largestIn_3 : decode cX10_largestIn 3 = .ok (.istore 4, 2) := by decide +kernel
theorem dX10_largestIn_5 : decode cX10_largestIn 5 = .ok (.iload 4, 2) := by decide +kernel
theorem dX10_largestIn_7 : decode cX10_largestIn 7 = .ok (.iload_n 1, 1) := by decide +kernel
theorem dX10_largestIn_8 : decode cX10_largestIn 8 = .ok (.iload_n 2, 1) := by decide +kernel
theorem dX10_largestIn_9 : decode cX10_largestIn 9 = .ok (.iadd, 1) := by decide +kernel
theorem dX10_largestIn_10 : decode cX10_largestIn 10 = .ok (.if_icmp .ge 60, 3) := by decide +kernel
theorem dX10_largestIn_13 : decode cX10_largestIn 13 = .ok (.aload_n 0, 1) := by decide +kernel
theorem dX10_largestIn_14 : decode cX10_largestIn 14 = .ok (.iload 4, 2) := by decide +kernel
theorem dX10_largestIn_16 : decode cX10_largestIn 16 = .ok (.invokevirtual 187, 3) := by decide +kernel
theorem dX10_largestIn_19 : decode cX10_largestIn 19 = .ok (.invokestatic 228, 3) := by decide +kernel
theorem dX10_largestIn_22 : decode cX10_largestIn 22 = .ok (.istore 5, 2) := by decide +kernel
theorem dX10_largestIn_24 : decode cX10_largestIn 24 = .ok (.aload_n 0, 1) := by decide +kernel
theorem dX10_largestIn_25 : decode cX10_largestIn 25 = .ok (.bipush 32, 2) := by decide +kernel
theorem dX10_largestIn_27 : decode cX10_largestIn 27 = .ok (.iload 4, 2) := by decide +kernel
theorem dX10_largestIn_29 : decode cX10_largestIn 29 = .ok (.iadd, 1) := by decide +kernel
theorem dX10_largestIn_30 : decode cX10_largestIn 30 = .ok (.invokevirtual 187, 3) := by decide +kernel
theorem dX10_largestIn_33 : decode cX10_largestIn 33 = .ok (.invokestatic 228, 3) := by decide +kernel
theorem dX10_largestIn_36 : decode cX10_largestIn 36 = .ok (.istore 6, 2) := by decide +kernel
theorem dX10_largestIn_38 : decode cX10_largestIn 38 = .ok (.iload 5, 2) := by decide +kernel
theorem dX10_largestIn_40 : decode cX10_largestIn 40 = .ok (.iload_n 3, 1) := by decide +kernel
theorem dX10_largestIn_41 : decode cX10_largestIn 41 = .ok (.if_icmp .le 8, 3) := by decide +kernel
theorem dX10_largestIn_44 : decode cX10_largestIn 44 = .ok (.iload 5, 2) := by decide +kernel
theorem dX10_largestIn_46 : decode cX10_largestIn 46 = .ok (.goto 4, 3) := by decide +kernel
theorem dX10_largestIn_49 : decode cX10_largestIn 49 = .ok (.iload_n 3, 1) := by decide +kernel
theorem dX10_largestIn_50 : decode cX10_largestIn 50 = .ok (.istore_n 3, 1) := by decide +kernel
theorem dX10_largestIn_51 : decode cX10_largestIn 51 = .ok (.iload 6, 2) := by decide +kernel
theorem dX10_largestIn_53 : decode cX10_largestIn 53 = .ok (.iload_n 3, 1) := by decide +kernel
theorem dX10_largestIn_54 : decode cX10_largestIn 54 = .ok (.if_icmp .le 8, 3) := by decide +kernel
theorem dX10_largestIn_57 : decode cX10_largestIn 57 = .ok (.iload 6, 2) := by decide +kernel
theorem dX10_largestIn_59 : decode cX10_largestIn 59 = .ok (.goto 4, 3) := by decide +kernel
theorem dX10_largestIn_62 : decode cX10_largestIn 62 = .ok (.iload_n 3, 1) := by decide +kernel
theorem dX10_largestIn_63 : decode cX10_largestIn 63 = .ok (.istore_n 3, 1) := by decide +kernel
theorem dX10_largestIn_64 : decode cX10_largestIn 64 = .ok (.iinc 4 1, 3) := by decide +kernel
theorem dX10_largestIn_67 : decode cX10_largestIn 67 = .ok (.goto (-62), 3) := by decide +kernel
theorem dX10_largestIn_70 : decode cX10_largestIn 70 = .ok (.iload_n 3, 1) := by decide +kernel
theorem dX10_largestIn_71 : decode cX10_largestIn 71 = .ok (.ireturn, 1) := by decide +kernel
set_option maxRecDepth 20000 in
theorem ggX10_largestNow_X10_size : GoodIn wsX10_largestNow wsX10_size := goodIn_r _ [5, 6, 20, 21, 22, 23, 24, 25, 26, 27, 28, 29, 30, 31, 32, 33, 34, 35, 36, 37, 38, 39, 40, 41, 42, 43, 44, 45, 46, 47, 48, 49, 50, 51, 52, 53, 54, 55, 56] (by decide +kernel) (by decide +kernel)
set_option maxRecDepth 20000 in
theorem gX10_largestNow_X10_size : GoodIn wsX10_largestNow (wsV RX10 196 RX10 yX10_size wsX10_size) := goodIn_app (goodIn_of _ (by decide +kernel)) ggX10_largestNow_X10_size
set_option maxRecDepth 20000 in
theorem ggX10_largestNow_X10_largestIn : GoodIn wsX10_largestNow wsX10_largestIn := goodIn_r _ [10, 11, 12, 13, 4, 14, 15, 16, 17, 18, 19, 20, 21, 22, 23, 24, 25, 26, 27, 28, 29, 30, 31, 32, 33, 34, 35, 36, 37, 38, 39, 40, 41, 42, 43, 44, 45, 46, 47, 48, 49, 50, 51, 52, 53, 54, 55, 56] (by decide +kernel) (by decide +kernel)
set_option maxRecDepth 20000 in
theorem gX10_largestNow_X10_largestIn : GoodIn wsX10_largestNow (wsV RX10 231 RX10 yX10_largestIn wsX10_largestIn) := goodIn_app (goodIn_of _ (by decide +kernel)) ggX10_largestNow_X10_largestIn
theorem dX10_largestNow_0 : decode cX10_largestNow 0 = .ok (.aload_n 0, 1) := by decide +kernel
theorem dX10_largestNow_1 : decode cX10_largestNow 1 = .ok (.iconst 0, 1) := by decide +kernel
theorem dX10_largestNow_2 : decode cX10_largestNow 2 = .ok (.aload_n 0, 1) := by decide +kernel
theorem dX10_largestNow_3 : decode cX10_largestNow 3 = .ok (.invokevirtual 196, 3) := by decide +kernel
theorem dX10_largestNow_6 : decode cX10_largestNow 6 = .ok (.invokevirtual 231, 3) := by decide +kernel
theorem dX10_largestNow_9 : decode cX10_largestNow 9 = .ok (.ireturn, 1) := by decide +kernel
theorem dX10_rounded_0 : decode cX10_rounded 0 = .ok (.aload_n 0, 1) := by decide +kernel
theorem dX10_rounded_1 : decode cX10_rounded 1 = .ok (.getfield 172, 3) := by decide +kernel
theorem dX10_rounded_4 : decode cX10_rounded 4 = .ok (.iconst 1, 1) := by decide +kernel
theorem dX10_rounded_5 : decode cX10_rounded 5 = .ok (.if_icmp .ne 15, 3) := by decide +kernel
theorem dX10_rounded_8 : decode cX10_rounded 8 = .ok (.lload_n 1, 1) := by decide +kernel
theorem dX10_rounded_9 : decode cX10_rounded 9 = .ok (.lconst 1, 1) := by decide +kernel
theorem dX10_rounded_10 : decode cX10_rounded 10 = .ok (.iload_n 3, 1) := by decide +kernel
theorem dX10_rounded_11 : decode cX10_rounded 11 = .ok (.iconst 1, 1) := by decide +kernel
