theorem dX10_init_0 : decode cX10_init 0 = .ok (.aload_n 0, 1) := by decide +kernel
theorem dX10_init_1 : decode cX10_init 1 = .ok (.invokespecial 1, 3) := by decide +kernel
theorem dX10_init_4 : decode cX10_init 4 = .ok (.aload_n 0, 1) := by decide +kernel
theorem dX10_init_5 : decode cX10_init 5 = .ok (.sipush 700, 3) := by decide +kernel
theorem dX10_init_8 : decode cX10_init 8 = .ok (.newarray .int, 2) := by decide +kernel
theorem dX10_init_10 : decode cX10_init 10 = .ok (.putfield 7, 3) := by decide +kernel
theorem dX10_init_13 : decode cX10_init 13 = .ok (.aload_n 0, 1) := by decide +kernel
theorem dX10_init_14 : decode cX10_init 14 = .ok (.bipush 52, 2) := by decide +kernel
theorem dX10_init_16 : decode cX10_init 16 = .ok (.newarray .int, 2) := by decide +kernel
theorem dX10_init_18 : decode cX10_init 18 = .ok (.dup, 1) := by decide +kernel
theorem dX10_init_19 : decode cX10_init 19 = .ok (.iconst 0, 1) := by decide +kernel
theorem dX10_init_20 : decode cX10_init 20 = .ok (.bipush 115, 2) := by decide +kernel
theorem dX10_init_22 : decode cX10_init 22 = .ok (.iastore, 1) := by decide +kernel
theorem dX10_init_23 : decode cX10_init 23 = .ok (.dup, 1) := by decide +kernel
theorem dX10_init_24 : decode cX10_init 24 = .ok (.iconst 1, 1) := by decide +kernel
theorem dX10_init_25 : decode cX10_init 25 = .ok (.bipush 105, 2) := by decide +kernel
theorem dX10_init_27 : decode cX10_init 27 = .ok (.iastore, 1) := by decide +kernel
theorem dX10_init_28 : decode cX10_init 28 = .ok (.dup, 1) := by decide +kernel
theorem dX10_init_29 : decode cX10_init 29 = .ok (.iconst 2, 1) := by decide +kernel
theorem dX10_init_30 : decode cX10_init 30 = .ok (.bipush 122, 2) := by decide +kernel
theorem dX10_init_32 : decode cX10_init 32 = .ok (.iastore, 1) := by decide +kernel
theorem dX10_init_33 : decode cX10_init 33 = .ok (.dup, 1) := by decide +kernel
theorem dX10_init_34 : decode cX10_init 34 = .ok (.iconst 3, 1) := by decide +kernel
theorem dX10_init_35 : decode cX10_init 35 = .ok (.bipush 101, 2) := by decide +kernel
theorem dX10_init_37 : decode cX10_init 37 = .ok (.iastore, 1) := by decide +kernel
theorem dX10_init_38 : decode cX10_init 38 = .ok (.dup, 1) := by decide +kernel
theorem dX10_init_39 : decode cX10_init 39 = .ok (.iconst 4, 1) := by decide +kernel
theorem dX10_init_40 : decode cX10_init 40 = .ok (.bipush 32, 2) := by decide +kernel
theorem dX10_init_42 : decode cX10_init 42 = .ok (.iastore, 1) := by decide +kernel
theorem dX10_init_43 : decode cX10_init 43 = .ok (.dup, 1) := by decide +kernel
theorem dX10_init_44 : decode cX10_init 44 = .ok (.iconst 5, 1) := by decide +kernel
theorem dX10_init_45 : decode cX10_init 45 = .ok (.bipush 98, 2) := by decide +kernel
theorem dX10_init_47 : decode cX10_init 47 = .ok (.iastore, 1) := by decide +kernel
theorem dX10_init_48 : decode cX10_init 48 = .ok (.dup, 1) := by decide +kernel
theorem dX10_init_49 : decode cX10_init 49 = .ok (.bipush 6, 2) := by decide +kernel
theorem dX10_init_51 : decode cX10_init 51 = .ok (.bipush 105, 2) := by decide +kernel
theorem dX10_init_53 : decode cX10_init 53 = .ok (.iastore, 1) := by decide +kernel
theorem dX10_init_54 : decode cX10_init 54 = .ok (.dup, 1) := by decide +kernel
theorem dX10_init_55 : decode cX10_init 55 = .ok (.bipush 7, 2) := by decide +kernel
theorem dX10_init_57 : decode cX10_init 57 = .ok (.bipush 116, 2) := by decide +kernel
theorem dX10_init_59 : decode cX10_init 59 = .ok (.iastore, 1) := by decide +kernel
theorem dX10_init_60 : decode cX10_init 60 = .ok (.dup, 1) := by decide +kernel
theorem dX10_init_61 : decode cX10_init 61 = .ok (.bipush 8, 2) := by decide +kernel
theorem dX10_init_63 : decode cX10_init 63 = .ok (.bipush 115, 2) := by decide +kernel
theorem dX10_init_65 : decode cX10_init 65 = .ok (.iastore, 1) := by decide +kernel
theorem dX10_init_66 : decode cX10_init 66 = .ok (.dup, 1) := by decide +kernel
theorem dX10_init_67 : decode cX10_init 67 = .ok (.bipush 9, 2) := by decide +kernel
theorem dX10_init_69 : decode cX10_init 69 = .ok (.bipush 32, 2) := by decide +kernel
theorem dX10_init_71 : decode cX10_init 71 = .ok (.iastore, 1) := by decide +kernel
theorem dX10_init_72 : decode cX10_init 72 = .ok (.dup, 1) := by decide +kernel
theorem dX10_init_73 : decode cX10_init 73 = .ok (.bipush 10, 2) := by decide +kernel
theorem dX10_init_75 : decode cX10_init 75 = .ok (.bipush 114, 2) := by decide +kernel
theorem dX10_init_77 : decode cX10_init 77 = .ok (.iastore, 1) := by decide +kernel
theorem dX10_init_78 : decode cX10_init 78 = .ok (.dup, 1) := by decide +kernel
theorem dX10_init_79 : decode cX10_init 79 = .ok (.bipush 11, 2) := by decide +kernel
theorem dX10_init_81 : decode cX10_init 81 = .ok (.bipush 97, 2) := by decide +kernel
theorem dX10_init_83 : decode cX10_init 83 = .ok (.iastore, 1) := by decide +kernel
theorem dX10_init_84 : decode cX10_init 84 = .ok (.dup, 1) := by decide +kernel
theorem dX10_init_85 : decode cX10_init 85 = .ok (.bipush 12, 2) := by decide +kernel
theorem dX10_init_87 : decode cX10_init 87 = .ok (.bipush 100, 2) := by decide +kernel
theorem dX10_init_89 : decode cX10_init 89 = .ok (.iastore, 1) := by decide +kernel
theorem dX10_init_90 : decode cX10_init 90 = .ok (.dup, 1) := by decide +kernel
theorem dX10_init_91 : decode cX10_init 91 = .ok (.bipush 13, 2) := by decide +kernel
theorem dX10_init_93 : decode cX10_init 93 = .ok (.bipush 105, 2) := by decide +kernel
theorem dX10_init_95 : decode cX10_init 95 = .ok (.iastore, 1) := by decide +kernel
theorem dX10_init_96 : decode cX10_init 96 = .ok (.dup, 1) := by decide +kernel
theorem dX10_init_97 : decode cX10_init 97 = .ok (.bipush 14, 2) := by decide +kernel
theorem dX10_init_99 : decode cX10_init 99 = .ok (.bipush 120, 2) := by decide +kernel
theorem dX10_init_101 : decode cX10_init 101 = .ok (.iastore, 1) := by decide +kernel
theorem dX10_init_102 : decode cX10_init 102 = .ok (.dup, 1) := by decide +kernel
theorem dX10_init_103 : decode cX10_init 103 = .ok (.bipush 15, 2) := by decide +kernel
theorem dX10_init_105 : decode cX10_init 105 = .ok (.bipush 32, 2) := by decide +kernel
theorem dX10_init_107 : decode cX10_init 107 = .ok (.iastore, 1) := by decide +kernel
theorem dX10_init_108 : decode cX10_init 108 = .ok (.dup, 1) := by decide +kernel
theorem dX10_init_109 : decode cX10_init 109 = .ok (.bipush 16, 2) := by decide +kernel
theorem dX10_init_111 : decode cX10_init 111 = .ok (.bipush 111, 2) := by decide +kernel
theorem dX10_init_113 : decode cX10_init 113 = .ok (.iastore, 1) := by decide +kernel
theorem dX10_init_114 : decode cX10_init 114 = .ok (.dup, 1) := by decide +kernel
theorem dX10_init_115 : decode cX10_init 115 = .ok (.bipush 17, 2) := by decide +kernel
theorem dX10_init_117 : decode cX10_init 117 = .ok (.bipush 114, 2) := by decide +kernel
theorem dX10_init_119 : decode cX10_init 119 = .ok (.iastore, 1) := by decide +kernel
theorem dX10_init_120 : decode cX10_init 120 = .ok (.dup, 1) := by decide +kernel
theorem dX10_init_121 : decode cX10_init 121 = .ok (.bipush 18, 2) := by decide +kernel
theorem dX10_init_123 : decode cX10_init 123 = .ok (.bipush 100, 2) := by decide +kernel
theorem dX10_init_125 : decode cX10_init 125 = .ok (.iastore, 1) := by decide +kernel
theorem dX10_init_126 : decode cX10_init 126 = .ok (.dup, 1) := by decide +kernel
theorem dX10_init_127 : decode cX10_init 127 = .ok (.bipush 19, 2) := by decide +kernel
theorem dX10_init_129 : decode cX10_init 129 = .ok (.bipush 101, 2) := by decide +kernel
theorem dX10_init_131 : decode cX10_init 131 = .ok (.iastore, 1) := by decide +kernel
theorem dX10_init_132 : decode cX10_init 132 = .ok (.dup, 1) := by decide +kernel
theorem dX10_init_133 : decode cX10_init 133 = .ok (.bipush 20, 2) := by decide +kernel
theorem dX10_init_135 : decode cX10_init 135 = .ok (.bipush 114, 2) := by decide +kernel
theorem dX10_init_137 : decode cX10_init 137 = .ok (.iastore, 1) := by decide +kernel
theorem dX10_init_138 : decode cX10_init 138 = .ok (.dup, 1) := by decide +kernel
theorem dX10_init_139 : decode cX10_init 139 = .ok (.bipush 21, 2) := by decide +kernel
theorem dX10_init_141 : decode cX10_init 141 = .ok (.bipush 32, 2) := by decide +kernel
theorem dX10_init_143 : decode cX10_init 143 = .ok (.iastore, 1) := by decide +kernel
theorem dX10_init_144 : decode cX10_init 144 = .ok (.dup, 1) := by decide +kernel
theorem dX10_init_145 : decode cX10_init 145 = .ok (.bipush 22, 2) := by decide +kernel
theorem dX10_init_147 : decode cX10_init 147 = .ok (.bipush 110, 2) := by decide +kernel
theorem dX10_init_149 : decode cX10_init 149 = .ok (.iastore, 1) := by decide +kernel
theorem dX10_init_150 : decode cX10_init 150 = .ok (.dup, 1) := by decide +kernel
theorem dX10_init_151 : decode cX10_init 151 = .ok (.bipush 23, 2) := by decide +kernel
theorem dX10_init_153 : decode cX10_init 153 = .ok (.bipush 101, 2) := by decide +kernel
theorem dX10_init_155 : decode cX10_init 155 = .ok (.iastore, 1) := by decide +kernel
theorem dX10_init_156 : decode cX10_init 156 = .ok (.dup, 1) := by decide +kernel
theorem dX10_init_157 : decode cX10_init 157 = .ok (.bipush 24, 2) := by decide +kernel
theorem dX10_init_159 : decode cX10_init 159 = .ok (.bipush 97, 2) := by decide +kernel
theorem dX10_init_161 : decode cX10_init 161 = .ok (.iastore, 1) := by decide +kernel
theorem dX10_init_162 : decode cX10_init 162 = .ok (.dup, 1) := by decide +kernel
theorem dX10_init_163 : decode cX10_init 163 = .ok (.bipush 25, 2) := by decide +kernel
theorem dX10_init_165 : decode cX10_init 165 = .ok (.bipush 114, 2) := by decide +kernel
theorem dX10_init_167 : decode cX10_init 167 = .ok (.iastore, 1) := by decide +kernel
theorem dX10_init_168 : decode cX10_init 168 = .ok (.dup, 1) := by decide +kernel
theorem dX10_init_169 : decode cX10_init 169 = .ok (.bipush 26, 2) := by decide +kernel
theorem dX10_init_171 : decode cX10_init 171 = .ok (.bipush 32, 2) := by decide +kernel
theorem dX10_init_173 : decode cX10_init 173 = .ok (.iastore, 1) := by decide +kernel
theorem dX10_init_174 : decode cX10_init 174 = .ok (.dup, 1) := by decide +kernel
theorem dX10_init_175 : decode cX10_init 175 = .ok (.bipush 27, 2) := by decide +kernel
theorem dX10_init_177 : decode cX10_init 177 = .ok (.bipush 115, 2) := by decide +kernel
theorem dX10_init_179 : decode cX10_init 179 = .ok (.iastore, 1) := by decide +kernel
theorem dX10_init_180 : decode cX10_init 180 = .ok (.dup, 1) := by decide +kernel
theorem dX10_init_181 : decode cX10_init 181 = .ok (.bipush 28, 2) := by decide +kernel
theorem dX10_init_183 : decode cX10_init 183 = .ok (.bipush 101, 2) := by decide +kernel
theorem dX10_init_185 : decode cX10_init 185 = .ok (.iastore, 1) := by decide +kernel
theorem dX10_init_186 : decode cX10_init 186 = .ok (.dup, 1) := by decide +kernel
theorem dX10_init_187 : decode cX10_init 187 = .ok (.bipush 29, 2) := by decide +kernel
theorem dX10_init_189 : decode cX10_init 189 = .ok (.bipush 101, 2) := by decide +kernel
theorem dX10_init_191 : decode cX10_init 191 = .ok (.iastore, 1) := by decide +kernel
theorem dX10_init_192 : decode cX10_init 192 = .ok (.dup, 1) := by decide +kernel
theorem dX10_init_193 : decode cX10_init 193 = .ok (.bipush 30, 2) := by decide +kernel
theorem dX10_init_195 : decode cX10_init 195 = .ok (.bipush 100, 2) := by decide +kernel
theorem dX10_init_197 : decode cX10_init 197 = .ok (.iastore, 1) := by decide +kernel
theorem dX10_init_198 : decode cX10_init 198 = .ok (.dup, 1) := by decide +kernel
theorem dX10_init_199 : decode cX10_init 199 = .ok (.bipush 31, 2) := by decide +kernel
theorem dX10_init_201 : decode cX10_init 201 = .ok (.bipush 32, 2) := by decide +kernel
theorem dX10_init_203 : decode cX10_init 203 = .ok (.iastore, 1) := by decide +kernel
theorem dX10_init_204 : decode cX10_init 204 = .ok (.dup, 1) := by decide +kernel
theorem dX10_init_205 : decode cX10_init 205 = .ok (.bipush 32, 2) := by decide +kernel
theorem dX10_init_207 : decode cX10_init 207 = .ok (.bipush 114, 2) := by decide +kernel
theorem dX10_init_209 : decode cX10_init 209 = .ok (.iastore, 1) := by decide +kernel
theorem dX10_init_210 : decode cX10_init 210 = .ok (.dup, 1) := by decide +kernel
theorem dX10_init_211 : decode cX10_init 211 = .ok (.bipush 33, 2) := by decide +kernel
theorem dX10_init_213 : decode cX10_init 213 = .ok (.bipush 101, 2) := by decide +kernel
theorem dX10_init_215 : decode cX10_init 215 = .ok (.iastore, 1) := by decide +kernel
theorem dX10_init_216 : decode cX10_init 216 = .ok (.dup, 1) := by decide +kernel
theorem dX10_init_217 : decode cX10_init 217 = .ok (.bipush 34, 2) := by decide +kernel
theorem dX10_init_219 : decode cX10_init 219 = .ok (.bipush 97, 2) := by decide +kernel
theorem dX10_init_221 : decode cX10_init 221 = .ok (.iastore, 1) := by decide +kernel
theorem dX10_init_222 : decode cX10_init 222 = .ok (.dup, 1) := by decide +kernel
theorem dX10_init_223 : decode cX10_init 223 = .ok (.bipush 35, 2) := by decide +kernel
theorem dX10_init_225 : decode cX10_init 225 = .ok (.bipush 108, 2) := by decide +kernel
theorem dX10_init_227 : decode cX10_init 227 = .ok (.iastore, 1) := by decide +kernel
theorem dX10_init_228 : decode cX10_init 228 = .ok (.dup, 1) := by decide +kernel
theorem dX10_init_229 : decode cX10_init 229 = .ok (.bipush 36, 2) := by decide +kernel
theorem dX10_init_231 : decode cX10_init 231 = .ok (.bipush 32, 2) := by decide +kernel
theorem dX10_init_233 : decode cX10_init 233 = .ok (.iastore, 1) := by decide +kernel
theorem dX10_init_234 : decode cX10_init 234 = .ok (.dup, 1) := by decide +kernel
theorem dX10_init_235 : decode cX10_init 235 = .ok (.bipush 37, 2) := by decide +kernel
theorem dX10_init_237 : decode cX10_init 237 = .ok (.bipush 108, 2) := by decide +kernel
theorem dX10_init_239 : decode cX10_init 239 = .ok (.iastore, 1) := by decide +kernel
theorem dX10_init_240 : decode cX10_init 240 = .ok (.dup, 1) := by decide +kernel
theorem dX10_init_241 : decode cX10_init 241 = .ok (.bipush 38, 2) := by decide +kernel
theorem dX10_init_243 : decode cX10_init 243 = .ok (.bipush 101, 2) := by decide +kernel
theorem dX10_init_245 : decode cX10_init 245 = .ok (.iastore, 1) := by decide +kernel
theorem dX10_init_246 : decode cX10_init 246 = .ok (.dup, 1) := by decide +kernel
theorem dX10_init_247 : decode cX10_init 247 = .ok (.bipush 39, 2) := by decide +kernel
theorem dX10_init_249 : decode cX10_init 249 = .ok (.bipush 115, 2) := by decide +kernel
theorem dX10_init_251 : decode cX10_init 251 = .ok (.iastore, 1) := by decide +kernel
theorem dX10_init_252 : decode cX10_init 252 = .ok (.dup, 1) := by decide +kernel
theorem dX10_init_253 : decode cX10_init 253 = .ok (.bipush 40, 2) := by decide +kernel
theorem dX10_init_255 : decode cX10_init 255 = .ok (.bipush 115, 2) := by decide +kernel
theorem dX10_init_257 : decode cX10_init 257 = .ok (.iastore, 1) := by decide +kernel
theorem dX10_init_258 : decode cX10_init 258 = .ok (.dup, 1) := by decide +kernel
theorem dX10_init_259 : decode cX10_init 259 = .ok (.bipush 41, 2) := by decide +kernel
theorem dX10_init_261 : decode cX10_init 261 = .ok (.bipush 32, 2) := by decide +kernel
theorem dX10_init_263 : decode cX10_init 263 = .ok (.iastore, 1) := by decide +kernel
theorem dX10_init_264 : decode cX10_init 264 = .ok (.dup, 1) := by decide +kernel
theorem dX10_init_265 : decode cX10_init 265 = .ok (.bipush 42, 2) := by decide +kernel
theorem dX10_init_267 : decode cX10_init 267 = .ok (.bipush 115, 2) := by decide +kernel
theorem dX10_init_269 : decode cX10_init 269 = .ok (.iastore, 1) := by decide +kernel
theorem dX10_init_270 : decode cX10_init 270 = .ok (.dup, 1) := by decide +kernel
theorem dX10_init_271 : decode cX10_init 271 = .ok (.bipush 43, 2) := by decide +kernel
theorem dX10_init_273 : decode cX10_init 273 = .ok (.bipush 105, 2) := by decide +kernel
theorem dX10_init_275 : decode cX10_init 275 = .ok (.iastore, 1) := by decide +kernel
theorem dX10_init_276 : decode cX10_init 276 = .ok (.dup, 1) := by decide +kernel
theorem dX10_init_277 : decode cX10_init 277 = .ok (.bipush 44, 2) := by decide +kernel
theorem dX10_init_279 : decode cX10_init 279 = .ok (.bipush 100, 2) := by decide +kernel
theorem dX10_init_281 : decode cX10_init 281 = .ok (.iastore, 1) := by decide +kernel
theorem dX10_init_282 : decode cX10_init 282 = .ok (.dup, 1) := by decide +kernel
theorem dX10_init_283 : decode cX10_init 283 = .ok (.bipush 45, 2) := by decide +kernel
theorem dX10_init_285 : decode cX10_init 285 = .ok (.bipush 101, 2) := by decide +kernel
theorem dX10_init_287 : decode cX10_init 287 = .ok (.iastore, 1) := by decide +kernel
theorem dX10_init_288 : decode cX10_init 288 = .ok (.dup, 1) := by decide +kernel
theorem dX10_init_289 : decode cX10_init 289 = .ok (.bipush 46, 2) := by decide +kernel
theorem dX10_init_291 : decode cX10_init 291 = .ok (.bipush 32, 2) := by decide +kernel
theorem dX10_init_293 : decode cX10_init 293 = .ok (.iastore, 1) := by decide +kernel
theorem dX10_init_294 : decode cX10_init 294 = .ok (.dup, 1) := by decide +kernel
theorem dX10_init_295 : decode cX10_init 295 = .ok (.bipush 47, 2) := by decide +kernel
theorem dX10_init_297 : decode cX10_init 297 = .ok (.bipush 100, 2) := by decide +kernel
theorem dX10_init_299 : decode cX10_init 299 = .ok (.iastore, 1) := by decide +kernel
theorem dX10_init_300 : decode cX10_init 300 = .ok (.dup, 1) := by decide +kernel
theorem dX10_init_301 : decode cX10_init 301 = .ok (.bipush 48, 2) := by decide +kernel
theorem dX10_init_303 : decode cX10_init 303 = .ok (.bipush 111, 2) := by decide +kernel
theorem dX10_init_305 : decode cX10_init 305 = .ok (.iastore, 1) := by decide +kernel
theorem dX10_init_306 : decode cX10_init 306 = .ok (.dup, 1) := by decide +kernel
theorem dX10_init_307 : decode cX10_init 307 = .ok (.bipush 49, 2) := by decide +kernel
theorem dX10_init_309 : decode cX10_init 309 = .ok (.bipush 119, 2) := by decide +kernel
theorem dX10_init_311 : decode cX10_init 311 = .ok (.iastore, 1) := by decide +kernel
theorem dX10_init_312 : decode cX10_init 312 = .ok (.dup, 1) := by decide +kernel
theorem dX10_init_313 : decode cX10_init 313 = .ok (.bipush 50, 2) := by decide +kernel
theorem dX10_init_315 : decode cX10_init 315 = .ok (.bipush 110, 2) := by decide +kernel
theorem dX10_init_317 : decode cX10_init 317 = .ok (.iastore, 1) := by decide +kernel
theorem dX10_init_318 : decode cX10_init 318 = .ok (.dup, 1) := by decide +kernel
theorem dX10_init_319 : decode cX10_init 319 = .ok (.bipush 51, 2) := by decide +kernel
theorem dX10_init_321 : decode cX10_init 321 = .ok (.bipush 32, 2) := by decide +kernel
theorem dX10_init_323 : decode cX10_init 323 = .ok (.iastore, 1) := by decide +kernel
theorem dX10_init_324 : decode cX10_init 324 = .ok (.putfield 13, 3) := by decide +kernel
theorem dX10_init_327 : decode cX10_init 327 = .ok (.aload_n 0, 1) := by decide +kernel
theorem dX10_init_328 : decode cX10_init 328 = .ok (.iconst (-1), 1) := by decide +kernel
theorem dX10_init_329 : decode cX10_init 329 = .ok (.putfield 16, 3) := by decide +kernel
theorem dX10_init_332 : decode cX10_init 332 = .ok (.aload_n 0, 1) := by decide +kernel
theorem dX10_init_333 : decode cX10_init 333 = .ok (.bipush 12, 2) := by decide +kernel
theorem dX10_init_335 : decode cX10_init 335 = .ok (.newarray .int, 2) := by decide +kernel
theorem dX10_init_337 : decode cX10_init 337 = .ok (.putfield 20, 3) := by decide +kernel
theorem dX10_init_340 : decode cX10_init 340 = .ok (.aload_n 0, 1) := by decide +kernel
theorem dX10_init_341 : decode cX10_init 341 = .ok (.bipush 6, 2) := by decide +kernel
theorem dX10_init_343 : decode cX10_init 343 = .ok (.newarray .boolean, 2) := by decide +kernel
theorem dX10_init_345 : decode cX10_init 345 = .ok (.putfield 23, 3) := by decide +kernel
theorem dX10_init_348 : decode cX10_init 348 = .ok (.aload_n 0, 1) := by decide +kernel
theorem dX10_init_349 : decode cX10_init 349 = .ok (.sipush 128, 3) := by decide +kernel
theorem dX10_init_352 : decode cX10_init 352 = .ok (.newarray .int, 2) := by decide +kernel
theorem dX10_init_354 : decode cX10_init 354 = .ok (.putfield 27, 3) := by decide +kernel
theorem dX10_init_357 : decode cX10_init 357 = .ok (.aload_n 0, 1) := by decide +kernel
theorem dX10_init_358 : decode cX10_init 358 = .ok (.bipush 64, 2) := by decide +kernel
theorem dX10_init_360 : decode cX10_init 360 = .ok (.newarray .boolean, 2) := by decide +kernel
theorem dX10_init_362 : decode cX10_init 362 = .ok (.putfield 30, 3) := by decide +kernel
theorem dX10_init_365 : decode cX10_init 365 = .ok (.aload_n 0, 1) := by decide +kernel
theorem dX10_init_366 : decode cX10_init 366 = .ok (.sipush 3128, 3) := by decide +kernel
theorem dX10_init_369 : decode cX10_init 369 = .ok (.newarray .int, 2) := by decide +kernel
theorem dX10_init_371 : decode cX10_init 371 = .ok (.putfield 33, 3) := by decide +kernel
theorem dX10_init_374 : decode cX10_init 374 = .ok (.aload_n 0, 1) := by decide +kernel
theorem dX10_init_375 : decode cX10_init 375 = .ok (.bipush 9, 2) := by decide +kernel
theorem dX10_init_377 : decode cX10_init 377 = .ok (.newarray .int, 2) := by decide +kernel
theorem dX10_init_379 : decode cX10_init 379 = .ok (.dup, 1) := by decide +kernel
theorem dX10_init_380 : decode cX10_init 380 = .ok (.iconst 0, 1) := by decide +kernel
theorem dX10_init_381 : decode cX10_init 381 = .ok (.sipush 16384, 3) := by decide +kernel
theorem dX10_init_384 : decode cX10_init 384 = .ok (.iastore, 1) := by decide +kernel
theorem dX10_init_385 : decode cX10_init 385 = .ok (.dup, 1) := by decide +kernel
theorem dX10_init_386 : decode cX10_init 386 = .ok (.iconst 1, 1) := by decide +kernel
theorem dX10_init_387 : decode cX10_init 387 = .ok (.sipush 16069, 3) := by decide +kernel
theorem dX10_init_390 : decode cX10_init 390 = .ok (.iastore, 1) := by decide +kernel
theorem dX10_init_391 : decode cX10_init 391 = .ok (.dup, 1) := by decide +kernel
theorem dX10_init_392 : decode cX10_init 392 = .ok (.iconst 2, 1) := by decide +kernel
theorem dX10_init_393 : decode cX10_init 393 = .ok (.sipush 15137, 3) := by decide +kernel
theorem dX10_init_396 : decode cX10_init 396 = .ok (.iastore, 1) := by decide +kernel
theorem dX10_init_397 : decode cX10_init 397 = .ok (.dup, 1) := by decide +kernel
theorem dX10_init_398 : decode cX10_init 398 = .ok (.iconst 3, 1) := by decide +kernel
theorem dX10_init_399 : decode cX10_init 399 = .ok (.sipush 13623, 3) := by decide +kernel
theorem dX10_init_402 : decode cX10_init 402 = .ok (.iastore, 1) := by decide +kernel
theorem dX10_init_403 : decode cX10_init 403 = .ok (.dup, 1) := by decide +kernel
theorem dX10_init_404 : decode cX10_init 404 = .ok (.iconst 4, 1) := by decide +kernel
theorem dX10_init_405 : decode cX10_init 405 = .ok (.sipush 11585, 3) := by decide +kernel
theorem dX10_init_408 : decode cX10_init 408 = .ok (.iastore, 1) := by decide +kernel
theorem dX10_init_409 : decode cX10_init 409 = .ok (.dup, 1) := by decide +kernel
theorem dX10_init_410 : decode cX10_init 410 = .ok (.iconst 5, 1) := by decide +kernel
theorem dX10_init_411 : decode cX10_init 411 = .ok (.sipush 9102, 3) := by decide +kernel
theorem dX10_init_414 : decode cX10_init 414 = .ok (.iastore, 1) := by decide +kernel
theorem dX10_init_415 : decode cX10_init 415 = .ok (.dup, 1) := by decide +kernel
theorem dX10_init_416 : decode cX10_init 416 = .ok (.bipush 6, 2) := by decide +kernel
theorem dX10_init_418 : decode cX10_init 418 = .ok (.sipush 6270, 3) := by decide +kernel
theorem dX10_init_421 : decode cX10_init 421 = .ok (.iastore, 1) := by decide +kernel
theorem dX10_init_422 : decode cX10_init 422 = .ok (.dup, 1) := by decide +kernel
theorem dX10_init_423 : decode cX10_init 423 = .ok (.bipush 7, 2) := by decide +kernel
theorem dX10_init_425 : decode cX10_init 425 = .ok (.sipush 3196, 3) := by decide +kernel
theorem dX10_init_428 : decode cX10_init 428 = .ok (.iastore, 1) := by decide +kernel
theorem dX10_init_429 : decode cX10_init 429 = .ok (.dup, 1) := by decide +kernel
theorem dX10_init_430 : decode cX10_init 430 = .ok (.bipush 8, 2) := by decide +kernel
theorem dX10_init_432 : decode cX10_init 432 = .ok (.iconst 0, 1) := by decide +kernel
theorem dX10_init_433 : decode cX10_init 433 = .ok (.iastore, 1) := by decide +kernel
theorem dX10_init_434 : decode cX10_init 434 = .ok (.putfield 36, 3) := by decide +kernel
theorem dX10_init_437 : decode cX10_init 437 = .ok (.aload_n 0, 1) := by decide +kernel
theorem dX10_init_438 : decode cX10_init 438 = .ok (.bipush 32, 2) := by decide +kernel
theorem dX10_init_440 : decode cX10_init 440 = .ok (.newarray .int, 2) := by decide +kernel
theorem dX10_init_442 : decode cX10_init 442 = .ok (.putfield 39, 3) := by decide +kernel
theorem dX10_init_445 : decode cX10_init 445 = .ok (.aload_n 0, 1) := by decide +kernel
theorem dX10_init_446 : decode cX10_init 446 = .ok (.bipush 32, 2) := by decide +kernel
theorem dX10_init_448 : decode cX10_init 448 = .ok (.newarray .int, 2) := by decide +kernel
theorem dX10_init_450 : decode cX10_init 450 = .ok (.putfield 42, 3) := by decide +kernel
theorem dX10_init_453 : decode cX10_init 453 = .ok (.aload_n 0, 1) := by decide +kernel
theorem dX10_init_454 : decode cX10_init 454 = .ok (.bipush 32, 2) := by decide +kernel
theorem dX10_init_456 : decode cX10_init 456 = .ok (.newarray .int, 2) := by decide +kernel
theorem dX10_init_458 : decode cX10_init 458 = .ok (.putfield 45, 3) := by decide +kernel
theorem dX10_init_461 : decode cX10_init 461 = .ok (.aload_n 0, 1) := by decide +kernel
theorem dX10_init_462 : decode cX10_init 462 = .ok (.bipush 64, 2) := by decide +kernel
theorem dX10_init_464 : decode cX10_init 464 = .ok (.newarray .long, 2) := by decide +kernel
theorem dX10_init_466 : decode cX10_init 466 = .ok (.putfield 48, 3) := by decide +kernel
theorem dX10_init_469 : decode cX10_init 469 = .ok (.aload_n 0, 1) := by decide +kernel
theorem dX10_init_470 : decode cX10_init 470 = .ok (.iconst (-1), 1) := by decide +kernel
theorem dX10_init_471 : decode cX10_init 471 = .ok (.putfield 52, 3) := by decide +kernel
theorem dX10_init_474 : decode cX10_init 474 = .ok (.aload_n 0, 1) := by decide +kernel
theorem dX10_init_475 : decode cX10_init 475 = .ok (.bipush 72, 2) := by decide +kernel
theorem dX10_init_477 : decode cX10_init 477 = .ok (.newarray .int, 2) := by decide +kernel
theorem dX10_init_479 : decode cX10_init 479 = .ok (.putfield 55, 3) := by decide +kernel
theorem dX10_init_482 : decode cX10_init 482 = .ok (.aload_n 0, 1) := by decide +kernel
theorem dX10_init_483 : decode cX10_init 483 = .ok (.bipush 24, 2) := by decide +kernel
theorem dX10_init_485 : decode cX10_init 485 = .ok (.newarray .boolean, 2) := by decide +kernel
theorem dX10_init_487 : decode cX10_init 487 = .ok (.putfield 58, 3) := by decide +kernel
theorem dX10_init_490 : decode cX10_init 490 = .ok (.aload_n 0, 1) := by decide +kernel
theorem dX10_init_491 : decode cX10_init 491 = .ok (.bipush 16, 2) := by decide +kernel
theorem dX10_init_493 : decode cX10_init 493 = .ok (.newarray .int, 2) := by decide +kernel
theorem dX10_init_495 : decode cX10_init 495 = .ok (.putfield 61, 3) := by decide +kernel
theorem dX10_init_498 : decode cX10_init 498 = .ok (.aload_n 0, 1) := by decide +kernel
theorem dX10_init_499 : decode cX10_init 499 = .ok (.invokevirtual 64, 3) := by decide +kernel
theorem dX10_init_502 : decode cX10_init 502 = .ok (.aload_n 0, 1) := by decide +kernel
theorem dX10_init_503 : decode cX10_init 503 = .ok (.invokevirtual 67, 3) := by decide +kernel
theorem dX10_init_506 : decode cX10_init 506 = .ok (.return_, 1) := by decide +kernel
theorem dX10_thrown_0 : decode cX10_thrown 0 = .ok (.aload_n 0, 1) := by decide +kernel
theorem dX10_thrown_1 : decode cX10_thrown 1 = .ok (.getfield 70, 3) := by decide +kernel
theorem dX10_thrown_4 : decode cX10_thrown 4 = .ok (.ireturn, 1) := by decide +kernel
theorem dX10_feed_0 : decode cX10_feed 0 = .ok (.aload_n 0, 1) := by decide +kernel
theorem dX10_feed_1 : decode cX10_feed 1 = .ok (.iconst 0, 1) := by decide +kernel
theorem dX10_feed_2 : decode cX10_feed 2 = .ok (.putfield 70, 3) := by decide +kernel
theorem dX10_feed_5 : decode cX10_feed 5 = .ok (.aload_n 0, 1) := by decide +kernel
theorem dX10_feed_6 : decode cX10_feed 6 = .ok (.getfield 73, 3) := by decide +kernel
theorem dX10_feed_9 : decode cX10_feed 9 = .ok (.bipush 20, 2) := by decide +kernel
theorem dX10_feed_11 : decode cX10_feed 11 = .ok (.iadd, 1) := by decide +kernel
theorem dX10_feed_12 : decode cX10_feed 12 = .ok (.sipush 700, 3) := by decide +kernel
theorem dX10_feed_15 : decode cX10_feed 15 = .ok (.if_icmp .le 5, 3) := by decide +kernel
theorem dX10_feed_18 : decode cX10_feed 18 = .ok (.iconst (-1), 1) := by decide +kernel
theorem dX10_feed_19 : decode cX10_feed 19 = .ok (.ireturn, 1) := by decide +kernel
theorem dX10_feed_20 : decode cX10_feed 20 = .ok (.iconst 0, 1) := by decide +kernel
theorem dX10_feed_21 : decode cX10_feed 21 = .ok (.istore 6, 2) := by decide +kernel
theorem dX10_feed_23 : decode cX10_feed 23 = .ok (.iload 6, 2) := by decide +kernel
theorem dX10_feed_25 : decode cX10_feed 25 = .ok (.bipush 20, 2) := by decide +kernel
theorem dX10_feed_27 : decode cX10_feed 27 = .ok (.if_icmp .ge 86, 3) := by decide +kernel
theorem dX10_feed_30 : decode cX10_feed 30 = .ok (.iload 6, 2) := by decide +kernel
theorem dX10_feed_32 : decode cX10_feed 32 = .ok (.iconst 4, 1) := by decide +kernel
theorem dX10_feed_33 : decode cX10_feed 33 = .ok (.if_icmp .ge 7, 3) := by decide +kernel
theorem dX10_feed_36 : decode cX10_feed 36 = .ok (.iload_n 1, 1) := by decide +kernel
theorem dX10_feed_37 : decode cX10_feed 37 = .ok (.goto 39, 3) := by decide +kernel
theorem dX10_feed_40 : decode cX10_feed 40 = .ok (.iload 6, 2) := by decide +kernel
theorem dX10_feed_42 : decode cX10_feed 42 = .ok (.bipush 8, 2) := by decide +kernel
theorem dX10_feed_44 : decode cX10_feed 44 = .ok (.if_icmp .ge 7, 3) := by decide +kernel
theorem dX10_feed_47 : decode cX10_feed 47 = .ok (.iload_n 2, 1) := by decide +kernel
theorem dX10_feed_48 : decode cX10_feed 48 = .ok (.goto 28, 3) := by decide +kernel
theorem dX10_feed_51 : decode cX10_feed 51 = .ok (.iload 6, 2) := by decide +kernel
theorem dX10_feed_53 : decode cX10_feed 53 = .ok (.bipush 12, 2) := by decide +kernel
theorem dX10_feed_55 : decode cX10_feed 55 = .ok (.if_icmp .ge 7, 3) := by decide +kernel
theorem dX10_feed_58 : decode cX10_feed 58 = .ok (.iload_n 3, 1) := by decide +kernel
theorem dX10_feed_59 : decode cX10_feed 59 = .ok (.goto 17, 3) := by decide +kernel
theorem dX10_feed_62 : decode cX10_feed 62 = .ok (.iload 6, 2) := by decide +kernel
theorem dX10_feed_64 : decode cX10_feed 64 = .ok (.bipush 16, 2) := by decide +kernel
theorem dX10_feed_66 : decode cX10_feed 66 = .ok (.if_icmp .ge 8, 3) := by decide +kernel
theorem dX10_feed_69 : decode cX10_feed 69 = .ok (.iload 4, 2) := by decide +kernel
theorem dX10_feed_71 : decode cX10_feed 71 = .ok (.goto 5, 3) := by decide +kernel
theorem dX10_feed_74 : decode cX10_feed 74 = .ok (.iload 5, 2) := by decide +kernel
theorem dX10_feed_76 : decode cX10_feed 76 = .ok (.istore 7, 2) := by decide +kernel
theorem dX10_feed_78 : decode cX10_feed 78 = .ok (.aload_n 0, 1) := by decide +kernel
theorem dX10_feed_79 : decode cX10_feed 79 = .ok (.getfield 7, 3) := by decide +kernel
theorem dX10_feed_82 : decode cX10_feed 82 = .ok (.aload_n 0, 1) := by decide +kernel
theorem dX10_feed_83 : decode cX10_feed 83 = .ok (.getfield 73, 3) := by decide +kernel
theorem dX10_feed_86 : decode cX10_feed 86 = .ok (.iload 6, 2) := by decide +kernel
theorem dX10_feed_88 : decode cX10_feed 88 = .ok (.iadd, 1) := by decide +kernel
theorem dX10_feed_89 : decode cX10_feed 89 = .ok (.iload 7, 2) := by decide +kernel
theorem dX10_feed_91 : decode cX10_feed 91 = .ok (.bipush 24, 2) := by decide +kernel
theorem dX10_feed_93 : decode cX10_feed 93 = .ok (.bipush 8, 2) := by decide +kernel
theorem dX10_feed_95 : decode cX10_feed 95 = .ok (.iload 6, 2) := by decide +kernel
theorem dX10_feed_97 : decode cX10_feed 97 = .ok (.iconst 4, 1) := by decide +kernel
theorem dX10_feed_98 : decode cX10_feed 98 = .ok (.irem, 1) := by decide +kernel
theorem dX10_feed_99 : decode cX10_feed 99 = .ok (.imul, 1) := by decide +kernel
theorem dX10_feed_100 : decode cX10_feed 100 = .ok (.isub, 1) := by decide +kernel
theorem dX10_feed_101 : decode cX10_feed 101 = .ok (.ishr, 1) := by decide +kernel
theorem dX10_feed_102 : decode cX10_feed 102 = .ok (.sipush 255, 3) := by decide +kernel
theorem dX10_feed_105 : decode cX10_feed 105 = .ok (.iand, 1) := by decide +kernel
theorem dX10_feed_106 : decode cX10_feed 106 = .ok (.iastore, 1) := by decide +kernel
theorem dX10_feed_107 : decode cX10_feed 107 = .ok (.iinc 6 1, 3) := by decide +kernel
theorem dX10_feed_110 : decode cX10_feed 110 = .ok (.goto (-87), 3) := by decide +kernel
theorem dX10_feed_113 : decode cX10_feed 113 = .ok (.aload_n 0, 1) := by decide +kernel
theorem dX10_feed_114 : decode cX10_feed 114 = .ok (.dup, 1) := by decide +kernel
theorem dX10_feed_115 : decode cX10_feed 115 = .ok (.getfield 73, 3) := by decide +kernel
theorem dX10_feed_118 : decode cX10_feed 118 = .ok (.bipush 20, 2) := by decide +kernel
theorem dX10_feed_120 : decode cX10_feed 120 = .ok (.iadd, 1) := by decide +kernel
theorem dX10_feed_121 : decode cX10_feed 121 = .ok (.putfield 73, 3) := by decide +kernel
theorem dX10_feed_124 : decode cX10_feed 124 = .ok (.aload_n 0, 1) := by decide +kernel
theorem dX10_feed_125 : decode cX10_feed 125 = .ok (.getfield 73, 3) := by decide +kernel
theorem dX10_feed_128 : decode cX10_feed 128 = .ok (.ireturn, 1) := by decide +kernel
theorem dX10_isIn_0 : decode cX10_isIn 0 = .ok (.iload_n 0, 1) := by decide +kernel
theorem dX10_isIn_1 : decode cX10_isIn 1 = .ok (.iload_n 1, 1) := by decide +kernel
theorem dX10_isIn_2 : decode cX10_isIn 2 = .ok (.if_icmp .lt 12, 3) := by decide +kernel
theorem dX10_isIn_5 : decode cX10_isIn 5 = .ok (.iload_n 0, 1) := by decide +kernel
theorem dX10_isIn_6 : decode cX10_isIn 6 = .ok (.iload_n 2, 1) := by decide +kernel
theorem dX10_isIn_7 : decode cX10_isIn 7 = .ok (.if_icmp .gt 7, 3) := by decide +kernel
theorem dX10_isIn_10 : decode cX10_isIn 10 = .ok (.iconst 1, 1) := by decide +kernel
theorem dX10_isIn_11 : decode cX10_isIn 11 = .ok (.goto 4, 3) := by decide +kernel
theorem dX10_isIn_14 : decode cX10_isIn 14 = .ok (.iconst 0, 1) := by decide +kernel
theorem dX10_isIn_15 : decode cX10_isIn 15 = .ok (.ireturn, 1) := by decide +kernel
theorem dX10_isOf_0 : decode cX10_isOf 0 = .ok (.iload_n 0, 1) := by decide +kernel
theorem dX10_isOf_1 : decode cX10_isOf 1 = .ok (.iload_n 1, 1) := by decide +kernel
theorem dX10_isOf_2 : decode cX10_isOf 2 = .ok (.ishr, 1) := by decide +kernel
theorem dX10_isOf_3 : decode cX10_isOf 3 = .ok (.iconst 1, 1) := by decide +kernel
theorem dX10_isOf_4 : decode cX10_isOf 4 = .ok (.iand, 1) := by decide +kernel
theorem dX10_isOf_5 : decode cX10_isOf 5 = .ok (.iconst 1, 1) := by decide +kernel
theorem dX10_isOf_6 : decode cX10_isOf 6 = .ok (.if_icmp .ne 7, 3) := by decide +kernel
theorem dX10_isOf_9 : decode cX10_isOf 9 = .ok (.iconst 1, 1) := by decide +kernel
theorem dX10_isOf_10 : decode cX10_isOf 10 = .ok (.goto 4, 3) := by decide +kernel
theorem dX10_isOf_13 : decode cX10_isOf 13 = .ok (.iconst 0, 1) := by decide +kernel
theorem dX10_isOf_14 : decode cX10_isOf 14 = .ok (.ireturn, 1) := by decide +kernel
theorem dX10_wrong_0 : decode cX10_wrong 0 = .ok (.aload_n 0, 1) := by decide +kernel
theorem dX10_wrong_1 : decode cX10_wrong 1 = .ok (.iload_n 1, 1) := by decide +kernel
theorem dX10_wrong_2 : decode cX10_wrong 2 = .ok (.putfield 76, 3) := by decide +kernel
theorem dX10_wrong_5 : decode cX10_wrong 5 = .ok (.aload_n 0, 1) := by decide +kernel
theorem dX10_wrong_6 : decode cX10_wrong 6 = .ok (.aload_n 0, 1) := by decide +kernel
theorem dX10_wrong_7 : decode cX10_wrong 7 = .ok (.getfield 79, 3) := by decide +kernel
theorem dX10_wrong_10 : decode cX10_wrong 10 = .ok (.putfield 16, 3) := by decide +kernel
theorem dX10_wrong_13 : decode cX10_wrong 13 = .ok (.iconst 0, 1) := by decide +kernel
theorem dX10_wrong_14 : decode cX10_wrong 14 = .ok (.ireturn, 1) := by decide +kernel
theorem dX10_wordAt_0 : decode cX10_wordAt 0 = .ok (.iconst 0, 1) := by decide +kernel
theorem dX10_wordAt_1 : decode cX10_wordAt 1 = .ok (.istore_n 3, 1) := by decide +kernel
theorem dX10_wordAt_2 : decode cX10_wordAt 2 = .ok (.iconst 0, 1) := by decide +kernel
theorem dX10_wordAt_3 : decode cX10_wordAt 3 = .ok (.istore 4, 2) := by decide +kernel
theorem dX10_wordAt_5 : decode cX10_wordAt 5 = .ok (.iload 4, 2) := by decide +kernel
theorem dX10_wordAt_7 : decode cX10_wordAt 7 = .ok (.aload_n 0, 1) := by decide +kernel
theorem dX10_wordAt_8 : decode cX10_wordAt 8 = .ok (.getfield 13, 3) := by decide +kernel
theorem dX10_wordAt_11 : decode cX10_wordAt 11 = .ok (.arraylength, 1) := by decide +kernel
theorem dX10_wordAt_12 : decode cX10_wordAt 12 = .ok (.if_icmp .ge 114, 3) := by decide +kernel
theorem dX10_wordAt_15 : decode cX10_wordAt 15 = .ok (.iconst 0, 1) := by decide +kernel
theorem dX10_wordAt_16 : decode cX10_wordAt 16 = .ok (.istore 5, 2) := by decide +kernel
theorem dX10_wordAt_18 : decode cX10_wordAt 18 = .ok (.aload_n 0, 1) := by decide +kernel
theorem dX10_wordAt_19 : decode cX10_wordAt 19 = .ok (.getfield 13, 3) := by decide +kernel
theorem dX10_wordAt_22 : decode cX10_wordAt 22 = .ok (.iload 4, 2) := by decide +kernel
theorem dX10_wordAt_24 : decode cX10_wordAt 24 = .ok (.iload 5, 2) := by decide +kernel
theorem dX10_wordAt_26 : decode cX10_wordAt 26 = .ok (.iadd, 1) := by decide +kernel
theorem dX10_wordAt_27 : decode cX10_wordAt 27 = .ok (.iaload, 1) := by decide +kernel
theorem dX10_wordAt_28 : decode cX10_wordAt 28 = .ok (.bipush 32, 2) := by decide +kernel
theorem dX10_wordAt_30 : decode cX10_wordAt 30 = .ok (.if_icmp .eq 9, 3) := by decide +kernel
theorem dX10_wordAt_33 : decode cX10_wordAt 33 = .ok (.iinc 5 1, 3) := by decide +kernel
theorem dX10_wordAt_36 : decode cX10_wordAt 36 = .ok (.goto (-18), 3) := by decide +kernel
theorem dX10_wordAt_39 : decode cX10_wordAt 39 = .ok (.iload 5, 2) := by decide +kernel
theorem dX10_wordAt_41 : decode cX10_wordAt 41 = .ok (.iload_n 2, 1) := by decide +kernel
theorem dX10_wordAt_42 : decode cX10_wordAt 42 = .ok (.iload_n 1, 1) := by decide +kernel
theorem dX10_wordAt_43 : decode cX10_wordAt 43 = .ok (.isub, 1) := by decide +kernel
theorem dX10_wordAt_44 : decode cX10_wordAt 44 = .ok (.if_icmp .ne 7, 3) := by decide +kernel
theorem dX10_wordAt_47 : decode cX10_wordAt 47 = .ok (.iconst 1, 1) := by decide +kernel
theorem dX10_wordAt_48 : decode cX10_wordAt 48 = .ok (.goto 4, 3) := by decide +kernel
theorem dX10_wordAt_51 : decode cX10_wordAt 51 = .ok (.iconst 0, 1) := by decide +kernel
theorem dX10_wordAt_52 : decode cX10_wordAt 52 = .ok (.istore 6, 2) := by decide +kernel
theorem dX10_wordAt_54 : decode cX10_wordAt 54 = .ok (.iconst 0, 1) := by decide +kernel
theorem dX10_wordAt_55 : decode cX10_wordAt 55 = .ok (.istore 7, 2) := by decide +kernel
theorem dX10_wordAt_57 : decode cX10_wordAt 57 = .ok (.iload 7, 2) := by decide +kernel
theorem dX10_wordAt_59 : decode cX10_wordAt 59 = .ok (.iload 5, 2) := by decide +kernel
theorem dX10_wordAt_61 : decode cX10_wordAt 61 = .ok (.if_icmp .ge 43, 3) := by decide +kernel
theorem dX10_wordAt_64 : decode cX10_wordAt 64 = .ok (.iload 6, 2) := by decide +kernel
theorem dX10_wordAt_66 : decode cX10_wordAt 66 = .ok (.ifCond .eq 38, 3) := by decide +kernel
theorem dX10_wordAt_69 : decode cX10_wordAt 69 = .ok (.aload_n 0, 1) := by decide +kernel
theorem dX10_wordAt_70 : decode cX10_wordAt 70 = .ok (.getfield 13, 3) := by decide +kernel
theorem dX10_wordAt_73 : decode cX10_wordAt 73 = .ok (.iload 4, 2) := by decide +kernel
theorem dX10_wordAt_75 : decode cX10_wordAt 75 = .ok (.iload 7, 2) := by decide +kernel
theorem dX10_wordAt_77 : decode cX10_wordAt 77 = .ok (.iadd, 1) := by decide +kernel
theorem dX10_wordAt_78 : decode cX10_wordAt 78 = .ok (.iaload, 1) := by decide +kernel
theorem dX10_wordAt_79 : decode cX10_wordAt 79 = .ok (.aload_n 0, 1) := by decide +kernel
theorem dX10_wordAt_80 : decode cX10_wordAt 80 = .ok (.getfield 7, 3) := by decide +kernel
theorem dX10_wordAt_83 : decode cX10_wordAt 83 = .ok (.iload_n 1, 1) := by decide +kernel
theorem dX10_wordAt_84 : decode cX10_wordAt 84 = .ok (.iload 7, 2) := by decide +kernel
theorem dX10_wordAt_86 : decode cX10_wordAt 86 = .ok (.iadd, 1) := by decide +kernel
theorem dX10_wordAt_87 : decode cX10_wordAt 87 = .ok (.iaload, 1) := by decide +kernel
theorem dX10_wordAt_88 : decode cX10_wordAt 88 = .ok (.if_icmp .ne 7, 3) := by decide +kernel
theorem dX10_wordAt_91 : decode cX10_wordAt 91 = .ok (.iconst 1, 1) := by decide +kernel
theorem dX10_wordAt_92 : decode cX10_wordAt 92 = .ok (.goto 4, 3) := by decide +kernel
theorem dX10_wordAt_95 : decode cX10_wordAt 95 = .ok (.iconst 0, 1) := by decide +kernel
theorem dX10_wordAt_96 : decode cX10_wordAt 96 = .ok (.istore 6, 2) := by decide +kernel
theorem dX10_wordAt_98 : decode cX10_wordAt 98 = .ok (.iinc 7 1, 3) := by decide +kernel
theorem dX10_wordAt_101 : decode cX10_wordAt 101 = .ok (.goto (-44), 3) := by decide +kernel
theorem dX10_wordAt_104 : decode cX10_wordAt 104 = .ok (.iload 6, 2) := by decide +kernel
theorem dX10_wordAt_106 : decode cX10_wordAt 106 = .ok (.ifCond .eq 5, 3) := by decide +kernel
theorem dX10_wordAt_109 : decode cX10_wordAt 109 = .ok (.iload_n 3, 1) := by decide +kernel
theorem dX10_wordAt_110 : decode cX10_wordAt 110 = .ok (.ireturn, 1) := by decide +kernel
theorem dX10_wordAt_111 : decode cX10_wordAt 111 = .ok (.iload 4, 2) := by decide +kernel
theorem dX10_wordAt_113 : decode cX10_wordAt 113 = .ok (.iload 5, 2) := by decide +kernel
theorem dX10_wordAt_115 : decode cX10_wordAt 115 = .ok (.iconst 1, 1) := by decide +kernel
theorem dX10_wordAt_116 : decode cX10_wordAt 116 = .ok (.iadd, 1) := by decide +kernel
theorem dX10_wordAt_117 : decode cX10_wordAt 117 = .ok (.iadd, 1) := by decide +kernel
theorem dX10_wordAt_118 : decode cX10_wordAt 118 = .ok (.istore 4, 2) := by decide +kernel
theorem dX10_wordAt_120 : decode cX10_wordAt 120 = .ok (.iinc 3 1, 3) := by decide +kernel
theorem dX10_wordAt_123 : decode cX10_wordAt 123 = .ok (.goto (-118), 3) := by decide +kernel
theorem dX10_wordAt_126 : decode cX10_wordAt 126 = .ok (.iconst (-1), 1) := by decide +kernel
theorem dX10_wordAt_127 : decode cX10_wordAt 127 = .ok (.ireturn, 1) := by decide +kernel
theorem dX10_isSmall_0 : decode cX10_isSmall 0 = .ok (.iload_n 1, 1) := by decide +kernel
theorem dX10_isSmall_1 : decode cX10_isSmall 1 = .ok (.aload_n 0, 1) := by decide +kernel
theorem dX10_isSmall_2 : decode cX10_isSmall 2 = .ok (.getfield 82, 3) := by decide +kernel
theorem dX10_isSmall_5 : decode cX10_isSmall 5 = .ok (.if_icmp .ge 29, 3) := by decide +kernel
theorem dX10_isSmall_8 : decode cX10_isSmall 8 = .ok (.aload_n 0, 1) := by decide +kernel
theorem dX10_isSmall_9 : decode cX10_isSmall 9 = .ok (.getfield 7, 3) := by decide +kernel
theorem dX10_isSmall_12 : decode cX10_isSmall 12 = .ok (.iload_n 1, 1) := by decide +kernel
theorem dX10_isSmall_13 : decode cX10_isSmall 13 = .ok (.iaload, 1) := by decide +kernel
theorem dX10_isSmall_14 : decode cX10_isSmall 14 = .ok (.bipush 97, 2) := by decide +kernel
theorem dX10_isSmall_16 : decode cX10_isSmall 16 = .ok (.if_icmp .lt 18, 3) := by decide +kernel
theorem dX10_isSmall_19 : decode cX10_isSmall 19 = .ok (.aload_n 0, 1) := by decide +kernel
theorem dX10_isSmall_20 : decode cX10_isSmall 20 = .ok (.getfield 7, 3) := by decide +kernel
theorem dX10_isSmall_23 : decode cX10_isSmall 23 = .ok (.iload_n 1, 1) := by decide +kernel
theorem dX10_isSmall_24 : decode cX10_isSmall 24 = .ok (.iaload, 1) := by decide +kernel
theorem dX10_isSmall_25 : decode cX10_isSmall 25 = .ok (.bipush 122, 2) := by decide +kernel
theorem dX10_isSmall_27 : decode cX10_isSmall 27 = .ok (.if_icmp .gt 7, 3) := by decide +kernel
theorem dX10_isSmall_30 : decode cX10_isSmall 30 = .ok (.iconst 1, 1) := by decide +kernel
theorem dX10_isSmall_31 : decode cX10_isSmall 31 = .ok (.goto 4, 3) := by decide +kernel
theorem dX10_isSmall_34 : decode cX10_isSmall 34 = .ok (.iconst 0, 1) := by decide +kernel
theorem dX10_isSmall_35 : decode cX10_isSmall 35 = .ok (.ireturn, 1) := by decide +kernel
theorem dX10_isDigit_0 : decode cX10_isDigit 0 = .ok (.iload_n 1, 1) := by decide +kernel
theorem dX10_isDigit_1 : decode cX10_isDigit 1 = .ok (.aload_n 0, 1) := by decide +kernel
theorem dX10_isDigit_2 : decode cX10_isDigit 2 = .ok (.getfield 82, 3) := by decide +kernel
theorem dX10_isDigit_5 : decode cX10_isDigit 5 = .ok (.if_icmp .ge 29, 3) := by decide +kernel
theorem dX10_isDigit_8 : decode cX10_isDigit 8 = .ok (.aload_n 0, 1) := by decide +kernel
theorem dX10_isDigit_9 : decode cX10_isDigit 9 = .ok (.getfield 7, 3) := by decide +kernel
theorem dX10_isDigit_12 : decode cX10_isDigit 12 = .ok (.iload_n 1, 1) := by decide +kernel
theorem dX10_isDigit_13 : decode cX10_isDigit 13 = .ok (.iaload, 1) := by decide +kernel
theorem dX10_isDigit_14 : decode cX10_isDigit 14 = .ok (.bipush 48, 2) := by decide +kernel
theorem dX10_isDigit_16 : decode cX10_isDigit 16 = .ok (.if_icmp .lt 18, 3) := by decide +kernel
theorem dX10_isDigit_19 : decode cX10_isDigit 19 = .ok (.aload_n 0, 1) := by decide +kernel
theorem dX10_isDigit_20 : decode cX10_isDigit 20 = .ok (.getfield 7, 3) := by decide +kernel
theorem dX10_isDigit_23 : decode cX10_isDigit 23 = .ok (.iload_n 1, 1) := by decide +kernel
theorem dX10_isDigit_24 : decode cX10_isDigit 24 = .ok (.iaload, 1) := by decide +kernel
theorem dX10_isDigit_25 : decode cX10_isDigit 25 = .ok (.bipush 57, 2) := by decide +kernel
theorem dX10_isDigit_27 : decode cX10_isDigit 27 = .ok (.if_icmp .gt 7, 3) := by decide +kernel
theorem dX10_isDigit_30 : decode cX10_isDigit 30 = .ok (.iconst 1, 1) := by decide +kernel
theorem dX10_isDigit_31 : decode cX10_isDigit 31 = .ok (.goto 4, 3) := by decide +kernel
theorem dX10_isDigit_34 : decode cX10_isDigit 34 = .ok (.iconst 0, 1) := by decide +kernel
theorem dX10_isDigit_35 : decode cX10_isDigit 35 = .ok (.ireturn, 1) := by decide +kernel
theorem dX10_token_0 : decode cX10_token 0 = .ok (.aload_n 0, 1) := by decide +kernel
theorem dX10_token_1 : decode cX10_token 1 = .ok (.getfield 85, 3) := by decide +kernel
theorem dX10_token_4 : decode cX10_token 4 = .ok (.aload_n 0, 1) := by decide +kernel
theorem dX10_token_5 : decode cX10_token 5 = .ok (.getfield 82, 3) := by decide +kernel
theorem dX10_token_8 : decode cX10_token 8 = .ok (.if_icmp .ge 44, 3) := by decide +kernel
theorem dX10_token_11 : decode cX10_token 11 = .ok (.aload_n 0, 1) := by decide +kernel
theorem dX10_token_12 : decode cX10_token 12 = .ok (.getfield 7, 3) := by decide +kernel
theorem dX10_token_15 : decode cX10_token 15 = .ok (.aload_n 0, 1) := by decide +kernel
theorem dX10_token_16 : decode cX10_token 16 = .ok (.getfield 85, 3) := by decide +kernel
theorem dX10_token_19 : decode cX10_token 19 = .ok (.iaload, 1) := by decide +kernel
theorem dX10_token_20 : decode cX10_token 20 = .ok (.bipush 10, 2) := by decide +kernel
theorem dX10_token_22 : decode cX10_token 22 = .ok (.if_icmp .eq 17, 3) := by decide +kernel
theorem dX10_token_25 : decode cX10_token 25 = .ok (.aload_n 0, 1) := by decide +kernel
theorem dX10_token_26 : decode cX10_token 26 = .ok (.getfield 7, 3) := by decide +kernel
theorem dX10_token_29 : decode cX10_token 29 = .ok (.aload_n 0, 1) := by decide +kernel
theorem dX10_token_30 : decode cX10_token 30 = .ok (.getfield 85, 3) := by decide +kernel
theorem dX10_token_33 : decode cX10_token 33 = .ok (.iaload, 1) := by decide +kernel
theorem dX10_token_34 : decode cX10_token 34 = .ok (.bipush 32, 2) := by decide +kernel
theorem dX10_token_36 : decode cX10_token 36 = .ok (.if_icmp .ne 16, 3) := by decide +kernel
theorem dX10_token_39 : decode cX10_token 39 = .ok (.aload_n 0, 1) := by decide +kernel
theorem dX10_token_40 : decode cX10_token 40 = .ok (.dup, 1) := by decide +kernel
theorem dX10_token_41 : decode cX10_token 41 = .ok (.getfield 85, 3) := by decide +kernel
theorem dX10_token_44 : decode cX10_token 44 = .ok (.iconst 1, 1) := by decide +kernel
theorem dX10_token_45 : decode cX10_token 45 = .ok (.iadd, 1) := by decide +kernel
theorem dX10_token_46 : decode cX10_token 46 = .ok (.putfield 85, 3) := by decide +kernel
theorem dX10_token_49 : decode cX10_token 49 = .ok (.goto (-49), 3) := by decide +kernel
theorem dX10_token_52 : decode cX10_token 52 = .ok (.aload_n 0, 1) := by decide +kernel
theorem dX10_token_53 : decode cX10_token 53 = .ok (.aload_n 0, 1) := by decide +kernel
theorem dX10_token_54 : decode cX10_token 54 = .ok (.getfield 85, 3) := by decide +kernel
theorem dX10_token_57 : decode cX10_token 57 = .ok (.putfield 79, 3) := by decide +kernel
theorem dX10_token_60 : decode cX10_token 60 = .ok (.aload_n 0, 1) := by decide +kernel
theorem dX10_token_61 : decode cX10_token 61 = .ok (.getfield 85, 3) := by decide +kernel
theorem dX10_token_64 : decode cX10_token 64 = .ok (.aload_n 0, 1) := by decide +kernel
theorem dX10_token_65 : decode cX10_token 65 = .ok (.getfield 82, 3) := by decide +kernel
theorem dX10_token_68 : decode cX10_token 68 = .ok (.if_icmp .ne 11, 3) := by decide +kernel
theorem dX10_token_71 : decode cX10_token 71 = .ok (.aload_n 0, 1) := by decide +kernel
theorem dX10_token_72 : decode cX10_token 72 = .ok (.iconst 0, 1) := by decide +kernel
theorem dX10_token_73 : decode cX10_token 73 = .ok (.putfield 88, 3) := by decide +kernel
theorem dX10_token_76 : decode cX10_token 76 = .ok (.goto 191, 3) := by decide +kernel
theorem dX10_token_79 : decode cX10_token 79 = .ok (.aload_n 0, 1) := by decide +kernel
theorem dX10_token_80 : decode cX10_token 80 = .ok (.aload_n 0, 1) := by decide +kernel
theorem dX10_token_81 : decode cX10_token 81 = .ok (.getfield 85, 3) := by decide +kernel
theorem dX10_token_84 : decode cX10_token 84 = .ok (.invokevirtual 91, 3) := by decide +kernel
theorem dX10_token_87 : decode cX10_token 87 = .ok (.ifCond .eq 62, 3) := by decide +kernel
theorem dX10_token_90 : decode cX10_token 90 = .ok (.aload_n 0, 1) := by decide +kernel
theorem dX10_token_91 : decode cX10_token 91 = .ok (.aload_n 0, 1) := by decide +kernel
theorem dX10_token_92 : decode cX10_token 92 = .ok (.getfield 85, 3) := by decide +kernel
theorem dX10_token_95 : decode cX10_token 95 = .ok (.invokevirtual 91, 3) := by decide +kernel
theorem dX10_token_98 : decode cX10_token 98 = .ok (.ifCond .eq 16, 3) := by decide +kernel
theorem dX10_token_101 : decode cX10_token 101 = .ok (.aload_n 0, 1) := by decide +kernel
theorem dX10_token_102 : decode cX10_token 102 = .ok (.dup, 1) := by decide +kernel
theorem dX10_token_103 : decode cX10_token 103 = .ok (.getfield 85, 3) := by decide +kernel
theorem dX10_token_106 : decode cX10_token 106 = .ok (.iconst 1, 1) := by decide +kernel
theorem dX10_token_107 : decode cX10_token 107 = .ok (.iadd, 1) := by decide +kernel
theorem dX10_token_108 : decode cX10_token 108 = .ok (.putfield 85, 3) := by decide +kernel
theorem dX10_token_111 : decode cX10_token 111 = .ok (.goto (-21), 3) := by decide +kernel
theorem dX10_token_114 : decode cX10_token 114 = .ok (.aload_n 0, 1) := by decide +kernel
theorem dX10_token_115 : decode cX10_token 115 = .ok (.aload_n 0, 1) := by decide +kernel
theorem dX10_token_116 : decode cX10_token 116 = .ok (.aload_n 0, 1) := by decide +kernel
theorem dX10_token_117 : decode cX10_token 117 = .ok (.getfield 79, 3) := by decide +kernel
theorem dX10_token_120 : decode cX10_token 120 = .ok (.aload_n 0, 1) := by decide +kernel
theorem dX10_token_121 : decode cX10_token 121 = .ok (.getfield 85, 3) := by decide +kernel
theorem dX10_token_124 : decode cX10_token 124 = .ok (.invokevirtual 95, 3) := by decide +kernel
theorem dX10_token_127 : decode cX10_token 127 = .ok (.putfield 99, 3) := by decide +kernel
theorem dX10_token_130 : decode cX10_token 130 = .ok (.aload_n 0, 1) := by decide +kernel
theorem dX10_token_131 : decode cX10_token 131 = .ok (.aload_n 0, 1) := by decide +kernel
theorem dX10_token_132 : decode cX10_token 132 = .ok (.getfield 99, 3) := by decide +kernel
theorem dX10_token_135 : decode cX10_token 135 = .ok (.ifCond .lt 7, 3) := by decide +kernel
theorem dX10_token_138 : decode cX10_token 138 = .ok (.iconst 1, 1) := by decide +kernel
theorem dX10_token_139 : decode cX10_token 139 = .ok (.goto 4, 3) := by decide +kernel
theorem dX10_token_142 : decode cX10_token 142 = .ok (.iconst 4, 1) := by decide +kernel
theorem dX10_token_143 : decode cX10_token 143 = .ok (.putfield 88, 3) := by decide +kernel
theorem dX10_token_146 : decode cX10_token 146 = .ok (.goto 121, 3) := by decide +kernel
theorem dX10_token_149 : decode cX10_token 149 = .ok (.aload_n 0, 1) := by decide +kernel
theorem dX10_token_150 : decode cX10_token 150 = .ok (.aload_n 0, 1) := by decide +kernel
theorem dX10_token_151 : decode cX10_token 151 = .ok (.getfield 85, 3) := by decide +kernel
theorem dX10_token_154 : decode cX10_token 154 = .ok (.invokevirtual 102, 3) := by decide +kernel
theorem dX10_token_157 : decode cX10_token 157 = .ok (.ifCond .eq 77, 3) := by decide +kernel
theorem dX10_token_160 : decode cX10_token 160 = .ok (.aload_n 0, 1) := by decide +kernel
theorem dX10_token_161 : decode cX10_token 161 = .ok (.iconst 2, 1) := by decide +kernel
theorem dX10_token_162 : decode cX10_token 162 = .ok (.putfield 88, 3) := by decide +kernel
theorem dX10_token_165 : decode cX10_token 165 = .ok (.aload_n 0, 1) := by decide +kernel
theorem dX10_token_166 : decode cX10_token 166 = .ok (.iconst 0, 1) := by decide +kernel
theorem dX10_token_167 : decode cX10_token 167 = .ok (.putfield 99, 3) := by decide +kernel
theorem dX10_token_170 : decode cX10_token 170 = .ok (.aload_n 0, 1) := by decide +kernel
theorem dX10_token_171 : decode cX10_token 171 = .ok (.aload_n 0, 1) := by decide +kernel
theorem dX10_token_172 : decode cX10_token 172 = .ok (.getfield 85, 3) := by decide +kernel
theorem dX10_token_175 : decode cX10_token 175 = .ok (.invokevirtual 102, 3) := by decide +kernel
theorem dX10_token_178 : decode cX10_token 178 = .ok (.ifCond .eq 89, 3) := by decide +kernel
theorem dX10_token_181 : decode cX10_token 181 = .ok (.aload_n 0, 1) := by decide +kernel
theorem dX10_token_182 : decode cX10_token 182 = .ok (.aload_n 0, 1) := by decide +kernel
theorem dX10_token_183 : decode cX10_token 183 = .ok (.getfield 99, 3) := by decide +kernel
theorem dX10_token_186 : decode cX10_token 186 = .ok (.ldc 105, 2) := by decide +kernel
theorem dX10_token_188 : decode cX10_token 188 = .ok (.if_icmp .le 10, 3) := by decide +kernel
theorem dX10_token_191 : decode cX10_token 191 = .ok (.aload_n 0, 1) := by decide +kernel
theorem dX10_token_192 : decode cX10_token 192 = .ok (.getfield 99, 3) := by decide +kernel
theorem dX10_token_195 : decode cX10_token 195 = .ok (.goto 23, 3) := by decide +kernel
theorem dX10_token_198 : decode cX10_token 198 = .ok (.bipush 10, 2) := by decide +kernel
theorem dX10_token_200 : decode cX10_token 200 = .ok (.aload_n 0, 1) := by decide +kernel
theorem dX10_token_201 : decode cX10_token 201 = .ok (.getfield 99, 3) := by decide +kernel
theorem dX10_token_204 : decode cX10_token 204 = .ok (.imul, 1) := by decide +kernel
theorem dX10_token_205 : decode cX10_token 205 = .ok (.aload_n 0, 1) := by decide +kernel
theorem dX10_token_206 : decode cX10_token 206 = .ok (.getfield 7, 3) := by decide +kernel
theorem dX10_token_209 : decode cX10_token 209 = .ok (.aload_n 0, 1) := by decide +kernel
theorem dX10_token_210 : decode cX10_token 210 = .ok (.getfield 85, 3) := by decide +kernel
theorem dX10_token_213 : decode cX10_token 213 = .ok (.iaload, 1) := by decide +kernel
theorem dX10_token_214 : decode cX10_token 214 = .ok (.iadd, 1) := by decide +kernel
theorem dX10_token_215 : decode cX10_token 215 = .ok (.bipush 48, 2) := by decide +kernel
theorem dX10_token_217 : decode cX10_token 217 = .ok (.isub, 1) := by decide +kernel
theorem dX10_token_218 : decode cX10_token 218 = .ok (.putfield 99, 3) := by decide +kernel
theorem dX10_token_221 : decode cX10_token 221 = .ok (.aload_n 0, 1) := by decide +kernel
theorem dX10_token_222 : decode cX10_token 222 = .ok (.dup, 1) := by decide +kernel
theorem dX10_token_223 : decode cX10_token 223 = .ok (.getfield 85, 3) := by decide +kernel
theorem dX10_token_226 : decode cX10_token 226 = .ok (.iconst 1, 1) := by decide +kernel
theorem dX10_token_227 : decode cX10_token 227 = .ok (.iadd, 1) := by decide +kernel
theorem dX10_token_228 : decode cX10_token 228 = .ok (.putfield 85, 3) := by decide +kernel
theorem dX10_token_231 : decode cX10_token 231 = .ok (.goto (-61), 3) := by decide +kernel
theorem dX10_token_234 : decode cX10_token 234 = .ok (.aload_n 0, 1) := by decide +kernel
theorem dX10_token_235 : decode cX10_token 235 = .ok (.aload_n 0, 1) := by decide +kernel
theorem dX10_token_236 : decode cX10_token 236 = .ok (.getfield 7, 3) := by decide +kernel
theorem dX10_token_239 : decode cX10_token 239 = .ok (.aload_n 0, 1) := by decide +kernel
theorem dX10_token_240 : decode cX10_token 240 = .ok (.getfield 85, 3) := by decide +kernel
theorem dX10_token_243 : decode cX10_token 243 = .ok (.iaload, 1) := by decide +kernel
theorem dX10_token_244 : decode cX10_token 244 = .ok (.bipush 59, 2) := by decide +kernel
theorem dX10_token_246 : decode cX10_token 246 = .ok (.if_icmp .ne 7, 3) := by decide +kernel
theorem dX10_token_249 : decode cX10_token 249 = .ok (.iconst 3, 1) := by decide +kernel
theorem dX10_token_250 : decode cX10_token 250 = .ok (.goto 4, 3) := by decide +kernel
theorem dX10_token_253 : decode cX10_token 253 = .ok (.iconst 4, 1) := by decide +kernel
theorem dX10_token_254 : decode cX10_token 254 = .ok (.putfield 88, 3) := by decide +kernel
theorem dX10_token_257 : decode cX10_token 257 = .ok (.aload_n 0, 1) := by decide +kernel
theorem dX10_token_258 : decode cX10_token 258 = .ok (.dup, 1) := by decide +kernel
theorem dX10_token_259 : decode cX10_token 259 = .ok (.getfield 85, 3) := by decide +kernel
theorem dX10_token_262 : decode cX10_token 262 = .ok (.iconst 1, 1) := by decide +kernel
theorem dX10_token_263 : decode cX10_token 263 = .ok (.iadd, 1) := by decide +kernel
theorem dX10_token_264 : decode cX10_token 264 = .ok (.putfield 85, 3) := by decide +kernel
theorem dX10_token_267 : decode cX10_token 267 = .ok (.return_, 1) := by decide +kernel
theorem dX10_plain_0 : decode cX10_plain 0 = .ok (.aload_n 0, 1) := by decide +kernel
theorem dX10_plain_1 : decode cX10_plain 1 = .ok (.getfield 20, 3) := by decide +kernel
theorem dX10_plain_4 : decode cX10_plain 4 = .ok (.bipush 6, 2) := by decide +kernel
theorem dX10_plain_6 : decode cX10_plain 6 = .ok (.bipush 8, 2) := by decide +kernel
theorem dX10_plain_8 : decode cX10_plain 8 = .ok (.iastore, 1) := by decide +kernel
theorem dX10_plain_9 : decode cX10_plain 9 = .ok (.aload_n 0, 1) := by decide +kernel
theorem dX10_plain_10 : decode cX10_plain 10 = .ok (.getfield 20, 3) := by decide +kernel
theorem dX10_plain_13 : decode cX10_plain 13 = .ok (.bipush 7, 2) := by decide +kernel
theorem dX10_plain_15 : decode cX10_plain 15 = .ok (.bipush 16, 2) := by decide +kernel
theorem dX10_plain_17 : decode cX10_plain 17 = .ok (.iastore, 1) := by decide +kernel
theorem dX10_plain_18 : decode cX10_plain 18 = .ok (.aload_n 0, 1) := by decide +kernel
theorem dX10_plain_19 : decode cX10_plain 19 = .ok (.getfield 20, 3) := by decide +kernel
theorem dX10_plain_22 : decode cX10_plain 22 = .ok (.bipush 8, 2) := by decide +kernel
theorem dX10_plain_24 : decode cX10_plain 24 = .ok (.iconst 2, 1) := by decide +kernel
theorem dX10_plain_25 : decode cX10_plain 25 = .ok (.iastore, 1) := by decide +kernel
theorem dX10_plain_26 : decode cX10_plain 26 = .ok (.aload_n 0, 1) := by decide +kernel
theorem dX10_plain_27 : decode cX10_plain 27 = .ok (.getfield 20, 3) := by decide +kernel
theorem dX10_plain_30 : decode cX10_plain 30 = .ok (.bipush 9, 2) := by decide +kernel
theorem dX10_plain_32 : decode cX10_plain 32 = .ok (.iconst 0, 1) := by decide +kernel
theorem dX10_plain_33 : decode cX10_plain 33 = .ok (.iastore, 1) := by decide +kernel
theorem dX10_plain_34 : decode cX10_plain 34 = .ok (.aload_n 0, 1) := by decide +kernel
theorem dX10_plain_35 : decode cX10_plain 35 = .ok (.getfield 20, 3) := by decide +kernel
theorem dX10_plain_38 : decode cX10_plain 38 = .ok (.bipush 10, 2) := by decide +kernel
theorem dX10_plain_40 : decode cX10_plain 40 = .ok (.iconst 1, 1) := by decide +kernel
theorem dX10_plain_41 : decode cX10_plain 41 = .ok (.iastore, 1) := by decide +kernel
theorem dX10_plain_42 : decode cX10_plain 42 = .ok (.aload_n 0, 1) := by decide +kernel
theorem dX10_plain_43 : decode cX10_plain 43 = .ok (.getfield 20, 3) := by decide +kernel
theorem dX10_plain_46 : decode cX10_plain 46 = .ok (.bipush 11, 2) := by decide +kernel
theorem dX10_plain_48 : decode cX10_plain 48 = .ok (.iconst 0, 1) := by decide +kernel
theorem dX10_plain_49 : decode cX10_plain 49 = .ok (.iastore, 1) := by decide +kernel
theorem dX10_plain_50 : decode cX10_plain 50 = .ok (.iconst 0, 1) := by decide +kernel
theorem dX10_plain_51 : decode cX10_plain 51 = .ok (.istore_n 1, 1) := by decide +kernel
theorem dX10_plain_52 : decode cX10_plain 52 = .ok (.iload_n 1, 1) := by decide +kernel
theorem dX10_plain_53 : decode cX10_plain 53 = .ok (.bipush 6, 2) := by decide +kernel
theorem dX10_plain_55 : decode cX10_plain 55 = .ok (.if_icmp .ge 16, 3) := by decide +kernel
theorem dX10_plain_58 : decode cX10_plain 58 = .ok (.aload_n 0, 1) := by decide +kernel
theorem dX10_plain_59 : decode cX10_plain 59 = .ok (.getfield 23, 3) := by decide +kernel
theorem dX10_plain_62 : decode cX10_plain 62 = .ok (.iload_n 1, 1) := by decide +kernel
theorem dX10_plain_63 : decode cX10_plain 63 = .ok (.iconst 0, 1) := by decide +kernel
theorem dX10_plain_64 : decode cX10_plain 64 = .ok (.bastore, 1) := by decide +kernel
theorem dX10_plain_65 : decode cX10_plain 65 = .ok (.iinc 1 1, 3) := by decide +kernel
theorem dX10_plain_68 : decode cX10_plain 68 = .ok (.goto (-16), 3) := by decide +kernel
theorem dX10_plain_71 : decode cX10_plain 71 = .ok (.iconst 0, 1) := by decide +kernel
theorem dX10_plain_72 : decode cX10_plain 72 = .ok (.istore_n 1, 1) := by decide +kernel
theorem dX10_plain_73 : decode cX10_plain 73 = .ok (.iload_n 1, 1) := by decide +kernel
theorem dX10_plain_74 : decode cX10_plain 74 = .ok (.bipush 64, 2) := by decide +kernel
theorem dX10_plain_76 : decode cX10_plain 76 = .ok (.if_icmp .ge 26, 3) := by decide +kernel
theorem dX10_plain_79 : decode cX10_plain 79 = .ok (.aload_n 0, 1) := by decide +kernel
theorem dX10_plain_80 : decode cX10_plain 80 = .ok (.getfield 27, 3) := by decide +kernel
theorem dX10_plain_83 : decode cX10_plain 83 = .ok (.bipush 64, 2) := by decide +kernel
theorem dX10_plain_85 : decode cX10_plain 85 = .ok (.iload_n 1, 1) := by decide +kernel
theorem dX10_plain_86 : decode cX10_plain 86 = .ok (.iadd, 1) := by decide +kernel
theorem dX10_plain_87 : decode cX10_plain 87 = .ok (.iconst 0, 1) := by decide +kernel
theorem dX10_plain_88 : decode cX10_plain 88 = .ok (.iastore, 1) := by decide +kernel
theorem dX10_plain_89 : decode cX10_plain 89 = .ok (.aload_n 0, 1) := by decide +kernel
theorem dX10_plain_90 : decode cX10_plain 90 = .ok (.getfield 30, 3) := by decide +kernel
theorem dX10_plain_93 : decode cX10_plain 93 = .ok (.iload_n 1, 1) := by decide +kernel
theorem dX10_plain_94 : decode cX10_plain 94 = .ok (.iconst 0, 1) := by decide +kernel
theorem dX10_plain_95 : decode cX10_plain 95 = .ok (.bastore, 1) := by decide +kernel
theorem dX10_plain_96 : decode cX10_plain 96 = .ok (.iinc 1 1, 3) := by decide +kernel
theorem dX10_plain_99 : decode cX10_plain 99 = .ok (.goto (-26), 3) := by decide +kernel
theorem dX10_plain_102 : decode cX10_plain 102 = .ok (.aload_n 0, 1) := by decide +kernel
theorem dX10_plain_103 : decode cX10_plain 103 = .ok (.iconst 0, 1) := by decide +kernel
theorem dX10_plain_104 : decode cX10_plain 104 = .ok (.putfield 106, 3) := by decide +kernel
theorem dX10_plain_107 : decode cX10_plain 107 = .ok (.return_, 1) := by decide +kernel
theorem dX10_limitOf_0 : decode cX10_limitOf 0 = .ok (.iconst 1, 1) := by decide +kernel
theorem dX10_limitOf_1 : decode cX10_limitOf 1 = .ok (.iload_n 0, 1) := by decide +kernel
theorem dX10_limitOf_2 : decode cX10_limitOf 2 = .ok (.iconst 1, 1) := by decide +kernel
theorem dX10_limitOf_3 : decode cX10_limitOf 3 = .ok (.isub, 1) := by decide +kernel
theorem dX10_limitOf_4 : decode cX10_limitOf 4 = .ok (.ishl, 1) := by decide +kernel
theorem dX10_limitOf_5 : decode cX10_limitOf 5 = .ok (.iconst 1, 1) := by decide +kernel
theorem dX10_limitOf_6 : decode cX10_limitOf 6 = .ok (.isub, 1) := by decide +kernel
theorem dX10_limitOf_7 : decode cX10_limitOf 7 = .ok (.ireturn, 1) := by decide +kernel
theorem dX10_keepText_0 : decode cX10_keepText 0 = .ok (.iconst 0, 1) := by decide +kernel
theorem dX10_keepText_1 : decode cX10_keepText 1 = .ok (.istore_n 1, 1) := by decide +kernel
theorem dX10_keepText_2 : decode cX10_keepText 2 = .ok (.iload_n 1, 1) := by decide +kernel
theorem dX10_keepText_3 : decode cX10_keepText 3 = .ok (.bipush 6, 2) := by decide +kernel
theorem dX10_keepText_5 : decode cX10_keepText 5 = .ok (.if_icmp .ge 24, 3) := by decide +kernel
theorem dX10_keepText_8 : decode cX10_keepText 8 = .ok (.aload_n 0, 1) := by decide +kernel
theorem dX10_keepText_9 : decode cX10_keepText 9 = .ok (.getfield 20, 3) := by decide +kernel
theorem dX10_keepText_12 : decode cX10_keepText 12 = .ok (.iload_n 1, 1) := by decide +kernel
theorem dX10_keepText_13 : decode cX10_keepText 13 = .ok (.aload_n 0, 1) := by decide +kernel
theorem dX10_keepText_14 : decode cX10_keepText 14 = .ok (.getfield 20, 3) := by decide +kernel
theorem dX10_keepText_17 : decode cX10_keepText 17 = .ok (.bipush 6, 2) := by decide +kernel
theorem dX10_keepText_19 : decode cX10_keepText 19 = .ok (.iload_n 1, 1) := by decide +kernel
theorem dX10_keepText_20 : decode cX10_keepText 20 = .ok (.iadd, 1) := by decide +kernel
theorem dX10_keepText_21 : decode cX10_keepText 21 = .ok (.iaload, 1) := by decide +kernel
theorem dX10_keepText_22 : decode cX10_keepText 22 = .ok (.iastore, 1) := by decide +kernel
theorem dX10_keepText_23 : decode cX10_keepText 23 = .ok (.iinc 1 1, 3) := by decide +kernel
theorem dX10_keepText_26 : decode cX10_keepText 26 = .ok (.goto (-24), 3) := by decide +kernel
theorem dX10_keepText_29 : decode cX10_keepText 29 = .ok (.aload_n 0, 1) := by decide +kernel
theorem dX10_keepText_30 : decode cX10_keepText 30 = .ok (.invokevirtual 109, 3) := by decide +kernel
theorem dX10_keepText_33 : decode cX10_keepText 33 = .ok (.iconst 0, 1) := by decide +kernel
theorem dX10_keepText_34 : decode cX10_keepText 34 = .ok (.istore_n 1, 1) := by decide +kernel
theorem dX10_keepText_35 : decode cX10_keepText 35 = .ok (.iload_n 1, 1) := by decide +kernel
theorem dX10_keepText_36 : decode cX10_keepText 36 = .ok (.bipush 64, 2) := by decide +kernel
theorem dX10_keepText_38 : decode cX10_keepText 38 = .ok (.if_icmp .ge 24, 3) := by decide +kernel
theorem dX10_keepText_41 : decode cX10_keepText 41 = .ok (.aload_n 0, 1) := by decide +kernel
theorem dX10_keepText_42 : decode cX10_keepText 42 = .ok (.getfield 27, 3) := by decide +kernel
theorem dX10_keepText_45 : decode cX10_keepText 45 = .ok (.iload_n 1, 1) := by decide +kernel
theorem dX10_keepText_46 : decode cX10_keepText 46 = .ok (.aload_n 0, 1) := by decide +kernel
theorem dX10_keepText_47 : decode cX10_keepText 47 = .ok (.getfield 27, 3) := by decide +kernel
theorem dX10_keepText_50 : decode cX10_keepText 50 = .ok (.bipush 64, 2) := by decide +kernel
theorem dX10_keepText_52 : decode cX10_keepText 52 = .ok (.iload_n 1, 1) := by decide +kernel
theorem dX10_keepText_53 : decode cX10_keepText 53 = .ok (.iadd, 1) := by decide +kernel
theorem dX10_keepText_54 : decode cX10_keepText 54 = .ok (.iaload, 1) := by decide +kernel
theorem dX10_keepText_55 : decode cX10_keepText 55 = .ok (.iastore, 1) := by decide +kernel
theorem dX10_keepText_56 : decode cX10_keepText 56 = .ok (.iinc 1 1, 3) := by decide +kernel
theorem dX10_keepText_59 : decode cX10_keepText 59 = .ok (.goto (-24), 3) := by decide +kernel
theorem dX10_keepText_62 : decode cX10_keepText 62 = .ok (.aload_n 0, 1) := by decide +kernel
theorem dX10_keepText_63 : decode cX10_keepText 63 = .ok (.iconst 0, 1) := by decide +kernel
theorem dX10_keepText_64 : decode cX10_keepText 64 = .ok (.putfield 112, 3) := by decide +kernel
theorem dX10_keepText_67 : decode cX10_keepText 67 = .ok (.aload_n 0, 1) := by decide +kernel
theorem dX10_keepText_68 : decode cX10_keepText 68 = .ok (.invokevirtual 115, 3) := by decide +kernel
theorem dX10_keepText_71 : decode cX10_keepText 71 = .ok (.iconst 0, 1) := by decide +kernel
theorem dX10_keepText_72 : decode cX10_keepText 72 = .ok (.istore_n 1, 1) := by decide +kernel
theorem dX10_keepText_73 : decode cX10_keepText 73 = .ok (.iload_n 1, 1) := by decide +kernel
theorem dX10_keepText_74 : decode cX10_keepText 74 = .ok (.sipush 136, 3) := by decide +kernel
theorem dX10_keepText_77 : decode cX10_keepText 77 = .ok (.if_icmp .ge 15, 3) := by decide +kernel
theorem dX10_keepText_80 : decode cX10_keepText 80 = .ok (.aload_n 0, 1) := by decide +kernel
theorem dX10_keepText_81 : decode cX10_keepText 81 = .ok (.iload_n 1, 1) := by decide +kernel
theorem dX10_keepText_82 : decode cX10_keepText 82 = .ok (.iconst 0, 1) := by decide +kernel
theorem dX10_keepText_83 : decode cX10_keepText 83 = .ok (.invokevirtual 118, 3) := by decide +kernel
theorem dX10_keepText_86 : decode cX10_keepText 86 = .ok (.iinc 1 1, 3) := by decide +kernel
theorem dX10_keepText_89 : decode cX10_keepText 89 = .ok (.goto (-16), 3) := by decide +kernel
theorem dX10_keepText_92 : decode cX10_keepText 92 = .ok (.iconst 0, 1) := by decide +kernel
theorem dX10_keepText_93 : decode cX10_keepText 93 = .ok (.istore_n 1, 1) := by decide +kernel
theorem dX10_keepText_94 : decode cX10_keepText 94 = .ok (.iload_n 1, 1) := by decide +kernel
theorem dX10_keepText_95 : decode cX10_keepText 95 = .ok (.bipush 64, 2) := by decide +kernel
theorem dX10_keepText_97 : decode cX10_keepText 97 = .ok (.if_icmp .ge 34, 3) := by decide +kernel
theorem dX10_keepText_100 : decode cX10_keepText 100 = .ok (.aload_n 0, 1) := by decide +kernel
theorem dX10_keepText_101 : decode cX10_keepText 101 = .ok (.iload_n 1, 1) := by decide +kernel
theorem dX10_keepText_102 : decode cX10_keepText 102 = .ok (.aload_n 0, 1) := by decide +kernel
theorem dX10_keepText_103 : decode cX10_keepText 103 = .ok (.getfield 27, 3) := by decide +kernel
theorem dX10_keepText_106 : decode cX10_keepText 106 = .ok (.iload_n 1, 1) := by decide +kernel
theorem dX10_keepText_107 : decode cX10_keepText 107 = .ok (.iaload, 1) := by decide +kernel
theorem dX10_keepText_108 : decode cX10_keepText 108 = .ok (.invokevirtual 118, 3) := by decide +kernel
theorem dX10_keepText_111 : decode cX10_keepText 111 = .ok (.aload_n 0, 1) := by decide +kernel
theorem dX10_keepText_112 : decode cX10_keepText 112 = .ok (.bipush 64, 2) := by decide +kernel
theorem dX10_keepText_114 : decode cX10_keepText 114 = .ok (.iload_n 1, 1) := by decide +kernel
theorem dX10_keepText_115 : decode cX10_keepText 115 = .ok (.iadd, 1) := by decide +kernel
theorem dX10_keepText_116 : decode cX10_keepText 116 = .ok (.aload_n 0, 1) := by decide +kernel
theorem dX10_keepText_117 : decode cX10_keepText 117 = .ok (.getfield 27, 3) := by decide +kernel
theorem dX10_keepText_120 : decode cX10_keepText 120 = .ok (.iload_n 1, 1) := by decide +kernel
theorem dX10_keepText_121 : decode cX10_keepText 121 = .ok (.iaload, 1) := by decide +kernel
theorem dX10_keepText_122 : decode cX10_keepText 122 = .ok (.invokevirtual 118, 3) := by decide +kernel
theorem dX10_keepText_125 : decode cX10_keepText 125 = .ok (.iinc 1 1, 3) := by decide +kernel
theorem dX10_keepText_128 : decode cX10_keepText 128 = .ok (.goto (-34), 3) := by decide +kernel
theorem dX10_keepText_131 : decode cX10_keepText 131 = .ok (.aload_n 0, 1) := by decide +kernel
theorem dX10_keepText_132 : decode cX10_keepText 132 = .ok (.invokevirtual 122, 3) := by decide +kernel
theorem dX10_keepText_135 : decode cX10_keepText 135 = .ok (.aload_n 0, 1) := by decide +kernel
theorem dX10_keepText_136 : decode cX10_keepText 136 = .ok (.iconst 0, 1) := by decide +kernel
theorem dX10_keepText_137 : decode cX10_keepText 137 = .ok (.putfield 125, 3) := by decide +kernel
theorem dX10_keepText_140 : decode cX10_keepText 140 = .ok (.aload_n 0, 1) := by decide +kernel
theorem dX10_keepText_141 : decode cX10_keepText 141 = .ok (.iconst 0, 1) := by decide +kernel
theorem dX10_keepText_142 : decode cX10_keepText 142 = .ok (.putfield 129, 3) := by decide +kernel
theorem dX10_keepText_145 : decode cX10_keepText 145 = .ok (.aload_n 0, 1) := by decide +kernel
theorem dX10_keepText_146 : decode cX10_keepText 146 = .ok (.iconst 0, 1) := by decide +kernel
theorem dX10_keepText_147 : decode cX10_keepText 147 = .ok (.putfield 132, 3) := by decide +kernel
theorem dX10_keepText_150 : decode cX10_keepText 150 = .ok (.aload_n 0, 1) := by decide +kernel
theorem dX10_keepText_151 : decode cX10_keepText 151 = .ok (.iconst (-1), 1) := by decide +kernel
theorem dX10_keepText_152 : decode cX10_keepText 152 = .ok (.putfield 52, 3) := by decide +kernel
theorem dX10_keepText_155 : decode cX10_keepText 155 = .ok (.return_, 1) := by decide +kernel
theorem dX10_isPower_0 : decode cX10_isPower 0 = .ok (.iload_n 1, 1) := by decide +kernel
theorem dX10_isPower_1 : decode cX10_isPower 1 = .ok (.iconst 2, 1) := by decide +kernel
theorem dX10_isPower_2 : decode cX10_isPower 2 = .ok (.if_icmp .eq 26, 3) := by decide +kernel
theorem dX10_isPower_5 : decode cX10_isPower 5 = .ok (.iload_n 1, 1) := by decide +kernel
theorem dX10_isPower_6 : decode cX10_isPower 6 = .ok (.iconst 4, 1) := by decide +kernel
theorem dX10_isPower_7 : decode cX10_isPower 7 = .ok (.if_icmp .eq 21, 3) := by decide +kernel
theorem dX10_isPower_10 : decode cX10_isPower 10 = .ok (.iload_n 1, 1) := by decide +kernel
theorem dX10_isPower_11 : decode cX10_isPower 11 = .ok (.bipush 8, 2) := by decide +kernel
theorem dX10_isPower_13 : decode cX10_isPower 13 = .ok (.if_icmp .eq 15, 3) := by decide +kernel
theorem dX10_isPower_16 : decode cX10_isPower 16 = .ok (.iload_n 1, 1) := by decide +kernel
theorem dX10_isPower_17 : decode cX10_isPower 17 = .ok (.bipush 16, 2) := by decide +kernel
theorem dX10_isPower_19 : decode cX10_isPower 19 = .ok (.if_icmp .eq 9, 3) := by decide +kernel
theorem dX10_isPower_22 : decode cX10_isPower 22 = .ok (.iload_n 1, 1) := by decide +kernel
theorem dX10_isPower_23 : decode cX10_isPower 23 = .ok (.bipush 32, 2) := by decide +kernel
theorem dX10_isPower_25 : decode cX10_isPower 25 = .ok (.if_icmp .ne 7, 3) := by decide +kernel
theorem dX10_isPower_28 : decode cX10_isPower 28 = .ok (.iconst 1, 1) := by decide +kernel
theorem dX10_isPower_29 : decode cX10_isPower 29 = .ok (.goto 4, 3) := by decide +kernel
theorem dX10_isPower_32 : decode cX10_isPower 32 = .ok (.iconst 0, 1) := by decide +kernel
theorem dX10_isPower_33 : decode cX10_isPower 33 = .ok (.ireturn, 1) := by decide +kernel
theorem dX10_isRight_0 : decode cX10_isRight 0 = .ok (.iload_n 1, 1) := by decide +kernel
theorem dX10_isRight_1 : decode cX10_isRight 1 = .ok (.tableswitch 82 0 5 #[39, 45, 54, 82, 82, 70], 39) := by decide +kernel
theorem dX10_isRight_40 : decode cX10_isRight 40 = .ok (.aload_n 0, 1) := by decide +kernel
theorem dX10_isRight_41 : decode cX10_isRight 41 = .ok (.iload_n 2, 1) := by decide +kernel
theorem dX10_isRight_42 : decode cX10_isRight 42 = .ok (.invokevirtual 135, 3) := by decide +kernel
theorem dX10_isRight_45 : decode cX10_isRight 45 = .ok (.ireturn, 1) := by decide +kernel
theorem dX10_isRight_46 : decode cX10_isRight 46 = .ok (.iload_n 2, 1) := by decide +kernel
theorem dX10_isRight_47 : decode cX10_isRight 47 = .ok (.bipush 8, 2) := by decide +kernel
theorem dX10_isRight_49 : decode cX10_isRight 49 = .ok (.bipush 16, 2) := by decide +kernel
theorem dX10_isRight_51 : decode cX10_isRight 51 = .ok (.invokestatic 138, 3) := by decide +kernel
theorem dX10_isRight_54 : decode cX10_isRight 54 = .ok (.ireturn, 1) := by decide +kernel
theorem dX10_isRight_55 : decode cX10_isRight 55 = .ok (.iload_n 2, 1) := by decide +kernel
theorem dX10_isRight_56 : decode cX10_isRight 56 = .ok (.iconst 2, 1) := by decide +kernel
theorem dX10_isRight_57 : decode cX10_isRight 57 = .ok (.if_icmp .eq 8, 3) := by decide +kernel
theorem dX10_isRight_60 : decode cX10_isRight 60 = .ok (.iload_n 2, 1) := by decide +kernel
theorem dX10_isRight_61 : decode cX10_isRight 61 = .ok (.iconst 4, 1) := by decide +kernel
theorem dX10_isRight_62 : decode cX10_isRight 62 = .ok (.if_icmp .ne 7, 3) := by decide +kernel
theorem dX10_isRight_65 : decode cX10_isRight 65 = .ok (.iconst 1, 1) := by decide +kernel
theorem dX10_isRight_66 : decode cX10_isRight 66 = .ok (.goto 4, 3) := by decide +kernel
theorem dX10_isRight_69 : decode cX10_isRight 69 = .ok (.iconst 0, 1) := by decide +kernel
theorem dX10_isRight_70 : decode cX10_isRight 70 = .ok (.ireturn, 1) := by decide +kernel
theorem dX10_isRight_71 : decode cX10_isRight 71 = .ok (.iload_n 2, 1) := by decide +kernel
theorem dX10_isRight_72 : decode cX10_isRight 72 = .ok (.ldc 105, 2) := by decide +kernel
theorem dX10_isRight_74 : decode cX10_isRight 74 = .ok (.if_icmp .gt 7, 3) := by decide +kernel
theorem dX10_isRight_77 : decode cX10_isRight 77 = .ok (.iconst 1, 1) := by decide +kernel
theorem dX10_isRight_78 : decode cX10_isRight 78 = .ok (.goto 4, 3) := by decide +kernel
theorem dX10_isRight_81 : decode cX10_isRight 81 = .ok (.iconst 0, 1) := by decide +kernel
theorem dX10_isRight_82 : decode cX10_isRight 82 = .ok (.ireturn, 1) := by decide +kernel
theorem dX10_isRight_83 : decode cX10_isRight 83 = .ok (.iload_n 2, 1) := by decide +kernel
theorem dX10_isRight_84 : decode cX10_isRight 84 = .ok (.iconst 1, 1) := by decide +kernel
theorem dX10_isRight_85 : decode cX10_isRight 85 = .ok (.if_icmp .gt 7, 3) := by decide +kernel
theorem dX10_isRight_88 : decode cX10_isRight 88 = .ok (.iconst 1, 1) := by decide +kernel
theorem dX10_isRight_89 : decode cX10_isRight 89 = .ok (.goto 4, 3) := by decide +kernel
theorem dX10_isRight_92 : decode cX10_isRight 92 = .ok (.iconst 0, 1) := by decide +kernel
theorem dX10_isRight_93 : decode cX10_isRight 93 = .ok (.ireturn, 1) := by decide +kernel
theorem dX10_wordLine_0 : decode cX10_wordLine 0 = .ok (.aload_n 0, 1) := by decide +kernel
theorem dX10_wordLine_1 : decode cX10_wordLine 1 = .ok (.getfield 99, 3) := by decide +kernel
theorem dX10_wordLine_4 : decode cX10_wordLine 4 = .ok (.istore_n 1, 1) := by decide +kernel
theorem dX10_wordLine_5 : decode cX10_wordLine 5 = .ok (.iload_n 1, 1) := by decide +kernel
theorem dX10_wordLine_6 : decode cX10_wordLine 6 = .ok (.iconst 1, 1) := by decide +kernel
theorem dX10_wordLine_7 : decode cX10_wordLine 7 = .ok (.if_icmp .gt 16, 3) := by decide +kernel
theorem dX10_wordLine_10 : decode cX10_wordLine 10 = .ok (.aload_n 0, 1) := by decide +kernel
theorem dX10_wordLine_11 : decode cX10_wordLine 11 = .ok (.getfield 106, 3) := by decide +kernel
theorem dX10_wordLine_14 : decode cX10_wordLine 14 = .ok (.ifCond .le 9, 3) := by decide +kernel
theorem dX10_wordLine_17 : decode cX10_wordLine 17 = .ok (.aload_n 0, 1) := by decide +kernel
theorem dX10_wordLine_18 : decode cX10_wordLine 18 = .ok (.iconst 1, 1) := by decide +kernel
theorem dX10_wordLine_19 : decode cX10_wordLine 19 = .ok (.invokevirtual 142, 3) := by decide +kernel
theorem dX10_wordLine_22 : decode cX10_wordLine 22 = .ok (.ireturn, 1) := by decide +kernel
theorem dX10_wordLine_23 : decode cX10_wordLine 23 = .ok (.aload_n 0, 1) := by decide +kernel
theorem dX10_wordLine_24 : decode cX10_wordLine 24 = .ok (.getfield 23, 3) := by decide +kernel
theorem dX10_wordLine_27 : decode cX10_wordLine 27 = .ok (.iload_n 1, 1) := by decide +kernel
theorem dX10_wordLine_28 : decode cX10_wordLine 28 = .ok (.baload, 1) := by decide +kernel
theorem dX10_wordLine_29 : decode cX10_wordLine 29 = .ok (.ifCond .eq 9, 3) := by decide +kernel
theorem dX10_wordLine_32 : decode cX10_wordLine 32 = .ok (.aload_n 0, 1) := by decide +kernel
theorem dX10_wordLine_33 : decode cX10_wordLine 33 = .ok (.iconst 3, 1) := by decide +kernel
theorem dX10_wordLine_34 : decode cX10_wordLine 34 = .ok (.invokevirtual 142, 3) := by decide +kernel
theorem dX10_wordLine_37 : decode cX10_wordLine 37 = .ok (.ireturn, 1) := by decide +kernel
theorem dX10_wordLine_38 : decode cX10_wordLine 38 = .ok (.aload_n 0, 1) := by decide +kernel
theorem dX10_wordLine_39 : decode cX10_wordLine 39 = .ok (.getfield 23, 3) := by decide +kernel
theorem dX10_wordLine_42 : decode cX10_wordLine 42 = .ok (.iload_n 1, 1) := by decide +kernel
theorem dX10_wordLine_43 : decode cX10_wordLine 43 = .ok (.iconst 1, 1) := by decide +kernel
theorem dX10_wordLine_44 : decode cX10_wordLine 44 = .ok (.bastore, 1) := by decide +kernel
theorem dX10_wordLine_45 : decode cX10_wordLine 45 = .ok (.aload_n 0, 1) := by decide +kernel
theorem dX10_wordLine_46 : decode cX10_wordLine 46 = .ok (.invokevirtual 145, 3) := by decide +kernel
theorem dX10_wordLine_49 : decode cX10_wordLine 49 = .ok (.aload_n 0, 1) := by decide +kernel
theorem dX10_wordLine_50 : decode cX10_wordLine 50 = .ok (.getfield 88, 3) := by decide +kernel
theorem dX10_wordLine_53 : decode cX10_wordLine 53 = .ok (.iconst 2, 1) := by decide +kernel
theorem dX10_wordLine_54 : decode cX10_wordLine 54 = .ok (.if_icmp .eq 9, 3) := by decide +kernel
theorem dX10_wordLine_57 : decode cX10_wordLine 57 = .ok (.aload_n 0, 1) := by decide +kernel
theorem dX10_wordLine_58 : decode cX10_wordLine 58 = .ok (.iconst 1, 1) := by decide +kernel
theorem dX10_wordLine_59 : decode cX10_wordLine 59 = .ok (.invokevirtual 142, 3) := by decide +kernel
theorem dX10_wordLine_62 : decode cX10_wordLine 62 = .ok (.ireturn, 1) := by decide +kernel
theorem dX10_wordLine_63 : decode cX10_wordLine 63 = .ok (.aload_n 0, 1) := by decide +kernel
theorem dX10_wordLine_64 : decode cX10_wordLine 64 = .ok (.iload_n 1, 1) := by decide +kernel
theorem dX10_wordLine_65 : decode cX10_wordLine 65 = .ok (.aload_n 0, 1) := by decide +kernel
theorem dX10_wordLine_66 : decode cX10_wordLine 66 = .ok (.getfield 99, 3) := by decide +kernel
theorem dX10_wordLine_69 : decode cX10_wordLine 69 = .ok (.invokevirtual 148, 3) := by decide +kernel
theorem dX10_wordLine_72 : decode cX10_wordLine 72 = .ok (.ifCond .ne 9, 3) := by decide +kernel
theorem dX10_wordLine_75 : decode cX10_wordLine 75 = .ok (.aload_n 0, 1) := by decide +kernel
theorem dX10_wordLine_76 : decode cX10_wordLine 76 = .ok (.iconst 2, 1) := by decide +kernel
theorem dX10_wordLine_77 : decode cX10_wordLine 77 = .ok (.invokevirtual 142, 3) := by decide +kernel
theorem dX10_wordLine_80 : decode cX10_wordLine 80 = .ok (.ireturn, 1) := by decide +kernel
theorem dX10_wordLine_81 : decode cX10_wordLine 81 = .ok (.aload_n 0, 1) := by decide +kernel
theorem dX10_wordLine_82 : decode cX10_wordLine 82 = .ok (.getfield 20, 3) := by decide +kernel
theorem dX10_wordLine_85 : decode cX10_wordLine 85 = .ok (.bipush 6, 2) := by decide +kernel
theorem dX10_wordLine_87 : decode cX10_wordLine 87 = .ok (.iload_n 1, 1) := by decide +kernel
theorem dX10_wordLine_88 : decode cX10_wordLine 88 = .ok (.iadd, 1) := by decide +kernel
theorem dX10_wordLine_89 : decode cX10_wordLine 89 = .ok (.aload_n 0, 1) := by decide +kernel
theorem dX10_wordLine_90 : decode cX10_wordLine 90 = .ok (.getfield 99, 3) := by decide +kernel
theorem dX10_wordLine_93 : decode cX10_wordLine 93 = .ok (.iastore, 1) := by decide +kernel
theorem dX10_wordLine_94 : decode cX10_wordLine 94 = .ok (.aload_n 0, 1) := by decide +kernel
theorem dX10_wordLine_95 : decode cX10_wordLine 95 = .ok (.invokevirtual 145, 3) := by decide +kernel
theorem dX10_wordLine_98 : decode cX10_wordLine 98 = .ok (.iconst 1, 1) := by decide +kernel
theorem dX10_wordLine_99 : decode cX10_wordLine 99 = .ok (.ireturn, 1) := by decide +kernel
theorem dX10_pointLine_0 : decode cX10_pointLine 0 = .ok (.aload_n 0, 1) := by decide +kernel
theorem dX10_pointLine_1 : decode cX10_pointLine 1 = .ok (.getfield 99, 3) := by decide +kernel
theorem dX10_pointLine_4 : decode cX10_pointLine 4 = .ok (.istore_n 1, 1) := by decide +kernel
theorem dX10_pointLine_5 : decode cX10_pointLine 5 = .ok (.aload_n 0, 1) := by decide +kernel
theorem dX10_pointLine_6 : decode cX10_pointLine 6 = .ok (.dup, 1) := by decide +kernel
theorem dX10_pointLine_7 : decode cX10_pointLine 7 = .ok (.getfield 106, 3) := by decide +kernel
theorem dX10_pointLine_10 : decode cX10_pointLine 10 = .ok (.iconst 1, 1) := by decide +kernel
theorem dX10_pointLine_11 : decode cX10_pointLine 11 = .ok (.iadd, 1) := by decide +kernel
theorem dX10_pointLine_12 : decode cX10_pointLine 12 = .ok (.putfield 106, 3) := by decide +kernel
theorem dX10_pointLine_15 : decode cX10_pointLine 15 = .ok (.aload_n 0, 1) := by decide +kernel
theorem dX10_pointLine_16 : decode cX10_pointLine 16 = .ok (.invokevirtual 145, 3) := by decide +kernel
theorem dX10_pointLine_19 : decode cX10_pointLine 19 = .ok (.aload_n 0, 1) := by decide +kernel
theorem dX10_pointLine_20 : decode cX10_pointLine 20 = .ok (.getfield 88, 3) := by decide +kernel
theorem dX10_pointLine_23 : decode cX10_pointLine 23 = .ok (.iconst 2, 1) := by decide +kernel
theorem dX10_pointLine_24 : decode cX10_pointLine 24 = .ok (.if_icmp .eq 9, 3) := by decide +kernel
theorem dX10_pointLine_27 : decode cX10_pointLine 27 = .ok (.aload_n 0, 1) := by decide +kernel
theorem dX10_pointLine_28 : decode cX10_pointLine 28 = .ok (.iconst 1, 1) := by decide +kernel
theorem dX10_pointLine_29 : decode cX10_pointLine 29 = .ok (.invokevirtual 142, 3) := by decide +kernel
theorem dX10_pointLine_32 : decode cX10_pointLine 32 = .ok (.ireturn, 1) := by decide +kernel
theorem dX10_pointLine_33 : decode cX10_pointLine 33 = .ok (.aload_n 0, 1) := by decide +kernel
theorem dX10_pointLine_34 : decode cX10_pointLine 34 = .ok (.getfield 99, 3) := by decide +kernel
theorem dX10_pointLine_37 : decode cX10_pointLine 37 = .ok (.aload_n 0, 1) := by decide +kernel
theorem dX10_pointLine_38 : decode cX10_pointLine 38 = .ok (.getfield 20, 3) := by decide +kernel
theorem dX10_pointLine_41 : decode cX10_pointLine 41 = .ok (.bipush 6, 2) := by decide +kernel
theorem dX10_pointLine_43 : decode cX10_pointLine 43 = .ok (.iaload, 1) := by decide +kernel
theorem dX10_pointLine_44 : decode cX10_pointLine 44 = .ok (.if_icmp .lt 9, 3) := by decide +kernel
theorem dX10_pointLine_47 : decode cX10_pointLine 47 = .ok (.aload_n 0, 1) := by decide +kernel
theorem dX10_pointLine_48 : decode cX10_pointLine 48 = .ok (.iconst 2, 1) := by decide +kernel
theorem dX10_pointLine_49 : decode cX10_pointLine 49 = .ok (.invokevirtual 142, 3) := by decide +kernel
theorem dX10_pointLine_52 : decode cX10_pointLine 52 = .ok (.ireturn, 1) := by decide +kernel
theorem dX10_pointLine_53 : decode cX10_pointLine 53 = .ok (.aload_n 0, 1) := by decide +kernel
theorem dX10_pointLine_54 : decode cX10_pointLine 54 = .ok (.getfield 99, 3) := by decide +kernel
theorem dX10_pointLine_57 : decode cX10_pointLine 57 = .ok (.iload_n 1, 1) := by decide +kernel
theorem dX10_pointLine_58 : decode cX10_pointLine 58 = .ok (.bipush 8, 2) := by decide +kernel
theorem dX10_pointLine_60 : decode cX10_pointLine 60 = .ok (.if_icmp .lt 8, 3) := by decide +kernel
theorem dX10_pointLine_63 : decode cX10_pointLine 63 = .ok (.bipush 32, 2) := by decide +kernel
theorem dX10_pointLine_65 : decode cX10_pointLine 65 = .ok (.goto 4, 3) := by decide +kernel
theorem dX10_pointLine_68 : decode cX10_pointLine 68 = .ok (.iconst 0, 1) := by decide +kernel
theorem dX10_pointLine_69 : decode cX10_pointLine 69 = .ok (.iadd, 1) := by decide +kernel
theorem dX10_pointLine_70 : decode cX10_pointLine 70 = .ok (.istore_n 2, 1) := by decide +kernel
theorem dX10_pointLine_71 : decode cX10_pointLine 71 = .ok (.aload_n 0, 1) := by decide +kernel
theorem dX10_pointLine_72 : decode cX10_pointLine 72 = .ok (.getfield 30, 3) := by decide +kernel
theorem dX10_pointLine_75 : decode cX10_pointLine 75 = .ok (.iload_n 2, 1) := by decide +kernel
theorem dX10_pointLine_76 : decode cX10_pointLine 76 = .ok (.baload, 1) := by decide +kernel
theorem dX10_pointLine_77 : decode cX10_pointLine 77 = .ok (.ifCond .eq 9, 3) := by decide +kernel
theorem dX10_pointLine_80 : decode cX10_pointLine 80 = .ok (.aload_n 0, 1) := by decide +kernel
theorem dX10_pointLine_81 : decode cX10_pointLine 81 = .ok (.iconst 3, 1) := by decide +kernel
theorem dX10_pointLine_82 : decode cX10_pointLine 82 = .ok (.invokevirtual 142, 3) := by decide +kernel
theorem dX10_pointLine_85 : decode cX10_pointLine 85 = .ok (.ireturn, 1) := by decide +kernel
theorem dX10_pointLine_86 : decode cX10_pointLine 86 = .ok (.aload_n 0, 1) := by decide +kernel
theorem dX10_pointLine_87 : decode cX10_pointLine 87 = .ok (.getfield 30, 3) := by decide +kernel
theorem dX10_pointLine_90 : decode cX10_pointLine 90 = .ok (.iload_n 2, 1) := by decide +kernel
theorem dX10_pointLine_91 : decode cX10_pointLine 91 = .ok (.iconst 1, 1) := by decide +kernel
theorem dX10_pointLine_92 : decode cX10_pointLine 92 = .ok (.bastore, 1) := by decide +kernel
theorem dX10_pointLine_93 : decode cX10_pointLine 93 = .ok (.aload_n 0, 1) := by decide +kernel
theorem dX10_pointLine_94 : decode cX10_pointLine 94 = .ok (.invokevirtual 145, 3) := by decide +kernel
theorem dX10_pointLine_97 : decode cX10_pointLine 97 = .ok (.aload_n 0, 1) := by decide +kernel
theorem dX10_pointLine_98 : decode cX10_pointLine 98 = .ok (.getfield 88, 3) := by decide +kernel
theorem dX10_pointLine_101 : decode cX10_pointLine 101 = .ok (.iconst 2, 1) := by decide +kernel
theorem dX10_pointLine_102 : decode cX10_pointLine 102 = .ok (.if_icmp .eq 9, 3) := by decide +kernel
theorem dX10_pointLine_105 : decode cX10_pointLine 105 = .ok (.aload_n 0, 1) := by decide +kernel
theorem dX10_pointLine_106 : decode cX10_pointLine 106 = .ok (.iconst 1, 1) := by decide +kernel
theorem dX10_pointLine_107 : decode cX10_pointLine 107 = .ok (.invokevirtual 142, 3) := by decide +kernel
theorem dX10_pointLine_110 : decode cX10_pointLine 110 = .ok (.ireturn, 1) := by decide +kernel
theorem dX10_pointLine_111 : decode cX10_pointLine 111 = .ok (.aload_n 0, 1) := by decide +kernel
theorem dX10_pointLine_112 : decode cX10_pointLine 112 = .ok (.getfield 99, 3) := by decide +kernel
theorem dX10_pointLine_115 : decode cX10_pointLine 115 = .ok (.aload_n 0, 1) := by decide +kernel
theorem dX10_pointLine_116 : decode cX10_pointLine 116 = .ok (.getfield 20, 3) := by decide +kernel
theorem dX10_pointLine_119 : decode cX10_pointLine 119 = .ok (.bipush 7, 2) := by decide +kernel
theorem dX10_pointLine_121 : decode cX10_pointLine 121 = .ok (.iaload, 1) := by decide +kernel
theorem dX10_pointLine_122 : decode cX10_pointLine 122 = .ok (.invokestatic 152, 3) := by decide +kernel
theorem dX10_pointLine_125 : decode cX10_pointLine 125 = .ok (.if_icmp .le 9, 3) := by decide +kernel
theorem dX10_pointLine_128 : decode cX10_pointLine 128 = .ok (.aload_n 0, 1) := by decide +kernel
theorem dX10_pointLine_129 : decode cX10_pointLine 129 = .ok (.iconst 2, 1) := by decide +kernel
theorem dX10_pointLine_130 : decode cX10_pointLine 130 = .ok (.invokevirtual 142, 3) := by decide +kernel
theorem dX10_pointLine_133 : decode cX10_pointLine 133 = .ok (.ireturn, 1) := by decide +kernel
theorem dX10_pointLine_134 : decode cX10_pointLine 134 = .ok (.aload_n 0, 1) := by decide +kernel
theorem dX10_pointLine_135 : decode cX10_pointLine 135 = .ok (.getfield 27, 3) := by decide +kernel
theorem dX10_pointLine_138 : decode cX10_pointLine 138 = .ok (.bipush 64, 2) := by decide +kernel
theorem dX10_pointLine_140 : decode cX10_pointLine 140 = .ok (.iload_n 2, 1) := by decide +kernel
theorem dX10_pointLine_141 : decode cX10_pointLine 141 = .ok (.iadd, 1) := by decide +kernel
theorem dX10_pointLine_142 : decode cX10_pointLine 142 = .ok (.iload_n 1, 1) := by decide +kernel
theorem dX10_pointLine_143 : decode cX10_pointLine 143 = .ok (.bipush 7, 2) := by decide +kernel
theorem dX10_pointLine_145 : decode cX10_pointLine 145 = .ok (.if_icmp .eq 9, 3) := by decide +kernel
theorem dX10_pointLine_148 : decode cX10_pointLine 148 = .ok (.iload_n 1, 1) := by decide +kernel
theorem dX10_pointLine_149 : decode cX10_pointLine 149 = .ok (.bipush 9, 2) := by decide +kernel
theorem dX10_pointLine_151 : decode cX10_pointLine 151 = .ok (.if_icmp .ne 11, 3) := by decide +kernel
theorem dX10_pointLine_154 : decode cX10_pointLine 154 = .ok (.aload_n 0, 1) := by decide +kernel
theorem dX10_pointLine_155 : decode cX10_pointLine 155 = .ok (.getfield 99, 3) := by decide +kernel
theorem dX10_pointLine_158 : decode cX10_pointLine 158 = .ok (.ineg, 1) := by decide +kernel
theorem dX10_pointLine_159 : decode cX10_pointLine 159 = .ok (.goto 7, 3) := by decide +kernel
theorem dX10_pointLine_162 : decode cX10_pointLine 162 = .ok (.aload_n 0, 1) := by decide +kernel
theorem dX10_pointLine_163 : decode cX10_pointLine 163 = .ok (.getfield 99, 3) := by decide +kernel
theorem dX10_pointLine_166 : decode cX10_pointLine 166 = .ok (.iastore, 1) := by decide +kernel
theorem dX10_pointLine_167 : decode cX10_pointLine 167 = .ok (.aload_n 0, 1) := by decide +kernel
theorem dX10_pointLine_168 : decode cX10_pointLine 168 = .ok (.invokevirtual 145, 3) := by decide +kernel
theorem dX10_pointLine_171 : decode cX10_pointLine 171 = .ok (.iconst 1, 1) := by decide +kernel
theorem dX10_pointLine_172 : decode cX10_pointLine 172 = .ok (.ireturn, 1) := by decide +kernel
theorem dX10_lineRead_0 : decode cX10_lineRead 0 = .ok (.aload_n 0, 1) := by decide +kernel
theorem dX10_lineRead_1 : decode cX10_lineRead 1 = .ok (.getfield 88, 3) := by decide +kernel
theorem dX10_lineRead_4 : decode cX10_lineRead 4 = .ok (.iconst 1, 1) := by decide +kernel
theorem dX10_lineRead_5 : decode cX10_lineRead 5 = .ok (.if_icmp .eq 9, 3) := by decide +kernel
theorem dX10_lineRead_8 : decode cX10_lineRead 8 = .ok (.aload_n 0, 1) := by decide +kernel
theorem dX10_lineRead_9 : decode cX10_lineRead 9 = .ok (.iconst 1, 1) := by decide +kernel
theorem dX10_lineRead_10 : decode cX10_lineRead 10 = .ok (.invokevirtual 142, 3) := by decide +kernel
theorem dX10_lineRead_13 : decode cX10_lineRead 13 = .ok (.ireturn, 1) := by decide +kernel
theorem dX10_lineRead_14 : decode cX10_lineRead 14 = .ok (.aload_n 0, 1) := by decide +kernel
theorem dX10_lineRead_15 : decode cX10_lineRead 15 = .ok (.getfield 99, 3) := by decide +kernel
theorem dX10_lineRead_18 : decode cX10_lineRead 18 = .ok (.bipush 6, 2) := by decide +kernel
theorem dX10_lineRead_20 : decode cX10_lineRead 20 = .ok (.if_icmp .lt 10, 3) := by decide +kernel
theorem dX10_lineRead_23 : decode cX10_lineRead 23 = .ok (.aload_n 0, 1) := by decide +kernel
theorem dX10_lineRead_24 : decode cX10_lineRead 24 = .ok (.invokevirtual 156, 3) := by decide +kernel
theorem dX10_lineRead_27 : decode cX10_lineRead 27 = .ok (.goto 7, 3) := by decide +kernel
theorem dX10_lineRead_30 : decode cX10_lineRead 30 = .ok (.aload_n 0, 1) := by decide +kernel
theorem dX10_lineRead_31 : decode cX10_lineRead 31 = .ok (.invokevirtual 160, 3) := by decide +kernel
theorem dX10_lineRead_34 : decode cX10_lineRead 34 = .ok (.istore_n 1, 1) := by decide +kernel
theorem dX10_lineRead_35 : decode cX10_lineRead 35 = .ok (.iload_n 1, 1) := by decide +kernel
theorem dX10_lineRead_36 : decode cX10_lineRead 36 = .ok (.ifCond .ne 5, 3) := by decide +kernel
theorem dX10_lineRead_39 : decode cX10_lineRead 39 = .ok (.iconst 0, 1) := by decide +kernel
theorem dX10_lineRead_40 : decode cX10_lineRead 40 = .ok (.ireturn, 1) := by decide +kernel
theorem dX10_lineRead_41 : decode cX10_lineRead 41 = .ok (.aload_n 0, 1) := by decide +kernel
theorem dX10_lineRead_42 : decode cX10_lineRead 42 = .ok (.getfield 88, 3) := by decide +kernel
theorem dX10_lineRead_45 : decode cX10_lineRead 45 = .ok (.iconst 3, 1) := by decide +kernel
theorem dX10_lineRead_46 : decode cX10_lineRead 46 = .ok (.if_icmp .eq 9, 3) := by decide +kernel
theorem dX10_lineRead_49 : decode cX10_lineRead 49 = .ok (.aload_n 0, 1) := by decide +kernel
theorem dX10_lineRead_50 : decode cX10_lineRead 50 = .ok (.iconst 1, 1) := by decide +kernel
theorem dX10_lineRead_51 : decode cX10_lineRead 51 = .ok (.invokevirtual 142, 3) := by decide +kernel
theorem dX10_lineRead_54 : decode cX10_lineRead 54 = .ok (.ireturn, 1) := by decide +kernel
theorem dX10_lineRead_55 : decode cX10_lineRead 55 = .ok (.aload_n 0, 1) := by decide +kernel
theorem dX10_lineRead_56 : decode cX10_lineRead 56 = .ok (.invokevirtual 145, 3) := by decide +kernel
theorem dX10_lineRead_59 : decode cX10_lineRead 59 = .ok (.iconst 1, 1) := by decide +kernel
theorem dX10_lineRead_60 : decode cX10_lineRead 60 = .ok (.ireturn, 1) := by decide +kernel
theorem dX10_text_0 : decode cX10_text 0 = .ok (.aload_n 0, 1) := by decide +kernel
theorem dX10_text_1 : decode cX10_text 1 = .ok (.iconst 0, 1) := by decide +kernel
theorem dX10_text_2 : decode cX10_text 2 = .ok (.putfield 70, 3) := by decide +kernel
theorem dX10_text_5 : decode cX10_text 5 = .ok (.iload_n 1, 1) := by decide +kernel
theorem dX10_text_6 : decode cX10_text 6 = .ok (.ifCond .lt 11, 3) := by decide +kernel
theorem dX10_text_9 : decode cX10_text 9 = .ok (.iload_n 1, 1) := by decide +kernel
theorem dX10_text_10 : decode cX10_text 10 = .ok (.aload_n 0, 1) := by decide +kernel
theorem dX10_text_11 : decode cX10_text 11 = .ok (.getfield 73, 3) := by decide +kernel
theorem dX10_text_14 : decode cX10_text 14 = .ok (.if_icmp .le 6, 3) := by decide +kernel
theorem dX10_text_17 : decode cX10_text 17 = .ok (.bipush (-2), 2) := by decide +kernel
theorem dX10_text_19 : decode cX10_text 19 = .ok (.ireturn, 1) := by decide +kernel
theorem dX10_text_20 : decode cX10_text 20 = .ok (.aload_n 0, 1) := by decide +kernel
theorem dX10_text_21 : decode cX10_text 21 = .ok (.iload_n 1, 1) := by decide +kernel
theorem dX10_text_22 : decode cX10_text 22 = .ok (.putfield 82, 3) := by decide +kernel
theorem dX10_text_25 : decode cX10_text 25 = .ok (.aload_n 0, 1) := by decide +kernel
theorem dX10_text_26 : decode cX10_text 26 = .ok (.iconst 0, 1) := by decide +kernel
theorem dX10_text_27 : decode cX10_text 27 = .ok (.putfield 73, 3) := by decide +kernel
theorem dX10_text_30 : decode cX10_text 30 = .ok (.aload_n 0, 1) := by decide +kernel
theorem dX10_text_31 : decode cX10_text 31 = .ok (.iconst 0, 1) := by decide +kernel
theorem dX10_text_32 : decode cX10_text 32 = .ok (.putfield 76, 3) := by decide +kernel
theorem dX10_text_35 : decode cX10_text 35 = .ok (.aload_n 0, 1) := by decide +kernel
theorem dX10_text_36 : decode cX10_text 36 = .ok (.iconst (-1), 1) := by decide +kernel
theorem dX10_text_37 : decode cX10_text 37 = .ok (.putfield 16, 3) := by decide +kernel
theorem dX10_text_40 : decode cX10_text 40 = .ok (.aload_n 0, 1) := by decide +kernel
theorem dX10_text_41 : decode cX10_text 41 = .ok (.iconst 0, 1) := by decide +kernel
theorem dX10_text_42 : decode cX10_text 42 = .ok (.putfield 85, 3) := by decide +kernel
theorem dX10_text_45 : decode cX10_text 45 = .ok (.aload_n 0, 1) := by decide +kernel
theorem dX10_text_46 : decode cX10_text 46 = .ok (.invokevirtual 64, 3) := by decide +kernel
theorem dX10_text_49 : decode cX10_text 49 = .ok (.aload_n 0, 1) := by decide +kernel
theorem dX10_text_50 : decode cX10_text 50 = .ok (.invokevirtual 145, 3) := by decide +kernel
theorem dX10_text_53 : decode cX10_text 53 = .ok (.iconst 0, 1) := by decide +kernel
theorem dX10_text_54 : decode cX10_text 54 = .ok (.istore_n 2, 1) := by decide +kernel
theorem dX10_text_55 : decode cX10_text 55 = .ok (.aload_n 0, 1) := by decide +kernel
theorem dX10_text_56 : decode cX10_text 56 = .ok (.getfield 88, 3) := by decide +kernel
theorem dX10_text_59 : decode cX10_text 59 = .ok (.ifCond .eq 18, 3) := by decide +kernel
theorem dX10_text_62 : decode cX10_text 62 = .ok (.aload_n 0, 1) := by decide +kernel
theorem dX10_text_63 : decode cX10_text 63 = .ok (.invokevirtual 163, 3) := by decide +kernel
theorem dX10_text_66 : decode cX10_text 66 = .ok (.ifCond .ne 5, 3) := by decide +kernel
theorem dX10_text_69 : decode cX10_text 69 = .ok (.iconst (-1), 1) := by decide +kernel
theorem dX10_text_70 : decode cX10_text 70 = .ok (.ireturn, 1) := by decide +kernel
theorem dX10_text_71 : decode cX10_text 71 = .ok (.iinc 2 1, 3) := by decide +kernel
theorem dX10_text_74 : decode cX10_text 74 = .ok (.goto (-19), 3) := by decide +kernel
theorem dX10_text_77 : decode cX10_text 77 = .ok (.aload_n 0, 1) := by decide +kernel
theorem dX10_text_78 : decode cX10_text 78 = .ok (.invokevirtual 67, 3) := by decide +kernel
theorem dX10_text_81 : decode cX10_text 81 = .ok (.iload_n 2, 1) := by decide +kernel
theorem dX10_text_82 : decode cX10_text 82 = .ok (.ireturn, 1) := by decide +kernel
theorem dX10_fault_0 : decode cX10_fault 0 = .ok (.aload_n 0, 1) := by decide +kernel
theorem dX10_fault_1 : decode cX10_fault 1 = .ok (.iconst 0, 1) := by decide +kernel
theorem dX10_fault_2 : decode cX10_fault 2 = .ok (.putfield 70, 3) := by decide +kernel
theorem dX10_fault_5 : decode cX10_fault 5 = .ok (.iload_n 1, 1) := by decide +kernel
theorem dX10_fault_6 : decode cX10_fault 6 = .ok (.ifCond .ne 10, 3) := by decide +kernel
theorem dX10_fault_9 : decode cX10_fault 9 = .ok (.aload_n 0, 1) := by decide +kernel
theorem dX10_fault_10 : decode cX10_fault 10 = .ok (.getfield 76, 3) := by decide +kernel
theorem dX10_fault_13 : decode cX10_fault 13 = .ok (.goto 16, 3) := by decide +kernel
theorem dX10_fault_16 : decode cX10_fault 16 = .ok (.iload_n 1, 1) := by decide +kernel
theorem dX10_fault_17 : decode cX10_fault 17 = .ok (.iconst 1, 1) := by decide +kernel
theorem dX10_fault_18 : decode cX10_fault 18 = .ok (.if_icmp .ne 10, 3) := by decide +kernel
theorem dX10_fault_21 : decode cX10_fault 21 = .ok (.aload_n 0, 1) := by decide +kernel
theorem dX10_fault_22 : decode cX10_fault 22 = .ok (.getfield 16, 3) := by decide +kernel
theorem dX10_fault_25 : decode cX10_fault 25 = .ok (.goto 4, 3) := by decide +kernel
theorem dX10_fault_28 : decode cX10_fault 28 = .ok (.iconst (-1), 1) := by decide +kernel
theorem dX10_fault_29 : decode cX10_fault 29 = .ok (.ireturn, 1) := by decide +kernel
theorem dX10_of_0 : decode cX10_of 0 = .ok (.aload_n 0, 1) := by decide +kernel
theorem dX10_of_1 : decode cX10_of 1 = .ok (.getfield 33, 3) := by decide +kernel
theorem dX10_of_4 : decode cX10_of 4 = .ok (.sipush 136, 3) := by decide +kernel
theorem dX10_of_7 : decode cX10_of 7 = .ok (.aload_n 0, 1) := by decide +kernel
theorem dX10_of_8 : decode cX10_of 8 = .ok (.getfield 112, 3) := by decide +kernel
theorem dX10_of_11 : decode cX10_of 11 = .ok (.imul, 1) := by decide +kernel
theorem dX10_of_12 : decode cX10_of 12 = .ok (.iload_n 1, 1) := by decide +kernel
theorem dX10_of_13 : decode cX10_of 13 = .ok (.iadd, 1) := by decide +kernel
theorem dX10_of_14 : decode cX10_of 14 = .ok (.iaload, 1) := by decide +kernel
theorem dX10_of_15 : decode cX10_of 15 = .ok (.ireturn, 1) := by decide +kernel
theorem dX10_lay_0 : decode cX10_lay 0 = .ok (.aload_n 0, 1) := by decide +kernel
theorem dX10_lay_1 : decode cX10_lay 1 = .ok (.getfield 33, 3) := by decide +kernel
theorem dX10_lay_4 : decode cX10_lay 4 = .ok (.sipush 136, 3) := by decide +kernel
theorem dX10_lay_7 : decode cX10_lay 7 = .ok (.aload_n 0, 1) := by decide +kernel
theorem dX10_lay_8 : decode cX10_lay 8 = .ok (.getfield 112, 3) := by decide +kernel
theorem dX10_lay_11 : decode cX10_lay 11 = .ok (.imul, 1) := by decide +kernel
theorem dX10_lay_12 : decode cX10_lay 12 = .ok (.iload_n 1, 1) := by decide +kernel
theorem dX10_lay_13 : decode cX10_lay 13 = .ok (.iadd, 1) := by decide +kernel
theorem dX10_lay_14 : decode cX10_lay 14 = .ok (.iload_n 2, 1) := by decide +kernel
theorem dX10_lay_15 : decode cX10_lay 15 = .ok (.iastore, 1) := by decide +kernel
theorem dX10_lay_16 : decode cX10_lay 16 = .ok (.return_, 1) := by decide +kernel
theorem dX10_copyBank_0 : decode cX10_copyBank 0 = .ok (.iconst 0, 1) := by decide +kernel
theorem dX10_copyBank_1 : decode cX10_copyBank 1 = .ok (.istore_n 3, 1) := by decide +kernel
theorem dX10_copyBank_2 : decode cX10_copyBank 2 = .ok (.iload_n 3, 1) := by decide +kernel
theorem dX10_copyBank_3 : decode cX10_copyBank 3 = .ok (.sipush 136, 3) := by decide +kernel
theorem dX10_copyBank_6 : decode cX10_copyBank 6 = .ok (.if_icmp .ge 33, 3) := by decide +kernel
theorem dX10_copyBank_9 : decode cX10_copyBank 9 = .ok (.aload_n 0, 1) := by decide +kernel
theorem dX10_copyBank_10 : decode cX10_copyBank 10 = .ok (.getfield 33, 3) := by decide +kernel
theorem dX10_copyBank_13 : decode cX10_copyBank 13 = .ok (.sipush 136, 3) := by decide +kernel
theorem dX10_copyBank_16 : decode cX10_copyBank 16 = .ok (.iload_n 2, 1) := by decide +kernel
theorem dX10_copyBank_17 : decode cX10_copyBank 17 = .ok (.imul, 1) := by decide +kernel
theorem dX10_copyBank_18 : decode cX10_copyBank 18 = .ok (.iload_n 3, 1) := by decide +kernel
theorem dX10_copyBank_19 : decode cX10_copyBank 19 = .ok (.iadd, 1) := by decide +kernel
theorem dX10_copyBank_20 : decode cX10_copyBank 20 = .ok (.aload_n 0, 1) := by decide +kernel
theorem dX10_copyBank_21 : decode cX10_copyBank 21 = .ok (.getfield 33, 3) := by decide +kernel
theorem dX10_copyBank_24 : decode cX10_copyBank 24 = .ok (.sipush 136, 3) := by decide +kernel
theorem dX10_copyBank_27 : decode cX10_copyBank 27 = .ok (.iload_n 1, 1) := by decide +kernel
theorem dX10_copyBank_28 : decode cX10_copyBank 28 = .ok (.imul, 1) := by decide +kernel
theorem dX10_copyBank_29 : decode cX10_copyBank 29 = .ok (.iload_n 3, 1) := by decide +kernel
theorem dX10_copyBank_30 : decode cX10_copyBank 30 = .ok (.iadd, 1) := by decide +kernel
theorem dX10_copyBank_31 : decode cX10_copyBank 31 = .ok (.iaload, 1) := by decide +kernel
theorem dX10_copyBank_32 : decode cX10_copyBank 32 = .ok (.iastore, 1) := by decide +kernel
theorem dX10_copyBank_33 : decode cX10_copyBank 33 = .ok (.iinc 3 1, 3) := by decide +kernel
theorem dX10_copyBank_36 : decode cX10_copyBank 36 = .ok (.goto (-34), 3) := by decide +kernel
theorem dX10_copyBank_39 : decode cX10_copyBank 39 = .ok (.return_, 1) := by decide +kernel
theorem dX10_byText_0 : decode cX10_byText 0 = .ok (.aload_n 0, 1) := by decide +kernel
theorem dX10_byText_1 : decode cX10_byText 1 = .ok (.aload_n 0, 1) := by decide +kernel
theorem dX10_byText_2 : decode cX10_byText 2 = .ok (.getfield 20, 3) := by decide +kernel
theorem dX10_byText_5 : decode cX10_byText 5 = .ok (.iconst 2, 1) := by decide +kernel
theorem dX10_byText_6 : decode cX10_byText 6 = .ok (.iaload, 1) := by decide +kernel
theorem dX10_byText_7 : decode cX10_byText 7 = .ok (.putfield 166, 3) := by decide +kernel
theorem dX10_byText_10 : decode cX10_byText 10 = .ok (.aload_n 0, 1) := by decide +kernel
theorem dX10_byText_11 : decode cX10_byText 11 = .ok (.aload_n 0, 1) := by decide +kernel
theorem dX10_byText_12 : decode cX10_byText 12 = .ok (.getfield 20, 3) := by decide +kernel
theorem dX10_byText_15 : decode cX10_byText 15 = .ok (.iconst 3, 1) := by decide +kernel
theorem dX10_byText_16 : decode cX10_byText 16 = .ok (.iaload, 1) := by decide +kernel
theorem dX10_byText_17 : decode cX10_byText 17 = .ok (.putfield 169, 3) := by decide +kernel
theorem dX10_byText_20 : decode cX10_byText 20 = .ok (.aload_n 0, 1) := by decide +kernel
theorem dX10_byText_21 : decode cX10_byText 21 = .ok (.aload_n 0, 1) := by decide +kernel
theorem dX10_byText_22 : decode cX10_byText 22 = .ok (.getfield 20, 3) := by decide +kernel
theorem dX10_byText_25 : decode cX10_byText 25 = .ok (.iconst 4, 1) := by decide +kernel
theorem dX10_byText_26 : decode cX10_byText 26 = .ok (.iaload, 1) := by decide +kernel
theorem dX10_byText_27 : decode cX10_byText 27 = .ok (.putfield 172, 3) := by decide +kernel
theorem dX10_byText_30 : decode cX10_byText 30 = .ok (.aload_n 0, 1) := by decide +kernel
theorem dX10_byText_31 : decode cX10_byText 31 = .ok (.aload_n 0, 1) := by decide +kernel
theorem dX10_byText_32 : decode cX10_byText 32 = .ok (.getfield 20, 3) := by decide +kernel
theorem dX10_byText_35 : decode cX10_byText 35 = .ok (.iconst 1, 1) := by decide +kernel
theorem dX10_byText_36 : decode cX10_byText 36 = .ok (.iaload, 1) := by decide +kernel
theorem dX10_byText_37 : decode cX10_byText 37 = .ok (.invokestatic 152, 3) := by decide +kernel
theorem dX10_byText_40 : decode cX10_byText 40 = .ok (.putfield 175, 3) := by decide +kernel
theorem dX10_byText_43 : decode cX10_byText 43 = .ok (.aload_n 0, 1) := by decide +kernel
theorem dX10_byText_44 : decode cX10_byText 44 = .ok (.iconst 1, 1) := by decide +kernel
theorem dX10_byText_45 : decode cX10_byText 45 = .ok (.putfield 178, 3) := by decide +kernel
theorem dX10_byText_48 : decode cX10_byText 48 = .ok (.return_, 1) := by decide +kernel
theorem dX10_asItIs_0 : decode cX10_asItIs 0 = .ok (.aload_n 0, 1) := by decide +kernel
theorem dX10_asItIs_1 : decode cX10_asItIs 1 = .ok (.iconst 0, 1) := by decide +kernel
theorem dX10_asItIs_2 : decode cX10_asItIs 2 = .ok (.putfield 112, 3) := by decide +kernel
theorem dX10_asItIs_5 : decode cX10_asItIs 5 = .ok (.aload_n 0, 1) := by decide +kernel
theorem dX10_asItIs_6 : decode cX10_asItIs 6 = .ok (.invokevirtual 115, 3) := by decide +kernel
theorem dX10_asItIs_9 : decode cX10_asItIs 9 = .ok (.return_, 1) := by decide +kernel
theorem dX10_asNow_0 : decode cX10_asNow 0 = .ok (.aload_n 0, 1) := by decide +kernel
theorem dX10_asNow_1 : decode cX10_asNow 1 = .ok (.iconst 0, 1) := by decide +kernel
theorem dX10_asNow_2 : decode cX10_asNow 2 = .ok (.iconst 1, 1) := by decide +kernel
theorem dX10_asNow_3 : decode cX10_asNow 3 = .ok (.invokevirtual 181, 3) := by decide +kernel
theorem dX10_asNow_6 : decode cX10_asNow 6 = .ok (.aload_n 0, 1) := by decide +kernel
theorem dX10_asNow_7 : decode cX10_asNow 7 = .ok (.iconst 1, 1) := by decide +kernel
theorem dX10_asNow_8 : decode cX10_asNow 8 = .ok (.putfield 112, 3) := by decide +kernel
theorem dX10_asNow_11 : decode cX10_asNow 11 = .ok (.return_, 1) := by decide +kernel
theorem dX10_asWas_0 : decode cX10_asWas 0 = .ok (.aload_n 0, 1) := by decide +kernel
theorem dX10_asWas_1 : decode cX10_asWas 1 = .ok (.invokevirtual 184, 3) := by decide +kernel
theorem dX10_asWas_4 : decode cX10_asWas 4 = .ok (.iconst 0, 1) := by decide +kernel
theorem dX10_asWas_5 : decode cX10_asWas 5 = .ok (.istore_n 1, 1) := by decide +kernel
theorem dX10_asWas_6 : decode cX10_asWas 6 = .ok (.iload_n 1, 1) := by decide +kernel
theorem dX10_asWas_7 : decode cX10_asWas 7 = .ok (.bipush 64, 2) := by decide +kernel
theorem dX10_asWas_9 : decode cX10_asWas 9 = .ok (.if_icmp .ge 22, 3) := by decide +kernel
theorem dX10_asWas_12 : decode cX10_asWas 12 = .ok (.aload_n 0, 1) := by decide +kernel
theorem dX10_asWas_13 : decode cX10_asWas 13 = .ok (.iload_n 1, 1) := by decide +kernel
theorem dX10_asWas_14 : decode cX10_asWas 14 = .ok (.aload_n 0, 1) := by decide +kernel
theorem dX10_asWas_15 : decode cX10_asWas 15 = .ok (.bipush 64, 2) := by decide +kernel
theorem dX10_asWas_17 : decode cX10_asWas 17 = .ok (.iload_n 1, 1) := by decide +kernel
theorem dX10_asWas_18 : decode cX10_asWas 18 = .ok (.iadd, 1) := by decide +kernel
theorem dX10_asWas_19 : decode cX10_asWas 19 = .ok (.invokevirtual 187, 3) := by decide +kernel
theorem dX10_asWas_22 : decode cX10_asWas 22 = .ok (.invokevirtual 118, 3) := by decide +kernel
theorem dX10_asWas_25 : decode cX10_asWas 25 = .ok (.iinc 1 1, 3) := by decide +kernel
theorem dX10_asWas_28 : decode cX10_asWas 28 = .ok (.goto (-22), 3) := by decide +kernel
theorem dX10_asWas_31 : decode cX10_asWas 31 = .ok (.aload_n 0, 1) := by decide +kernel
theorem dX10_asWas_32 : decode cX10_asWas 32 = .ok (.invokevirtual 190, 3) := by decide +kernel
theorem dX10_asWas_35 : decode cX10_asWas 35 = .ok (.return_, 1) := by decide +kernel
theorem dX10_begins_0 : decode cX10_begins 0 = .ok (.aload_n 0, 1) := by decide +kernel
theorem dX10_begins_1 : decode cX10_begins 1 = .ok (.sipush 128, 3) := by decide +kernel
theorem dX10_begins_4 : decode cX10_begins 4 = .ok (.iconst 0, 1) := by decide +kernel
theorem dX10_begins_5 : decode cX10_begins 5 = .ok (.invokevirtual 118, 3) := by decide +kernel
theorem dX10_begins_8 : decode cX10_begins 8 = .ok (.aload_n 0, 1) := by decide +kernel
theorem dX10_begins_9 : decode cX10_begins 9 = .ok (.sipush 129, 3) := by decide +kernel
theorem dX10_begins_12 : decode cX10_begins 12 = .ok (.iconst 0, 1) := by decide +kernel
theorem dX10_begins_13 : decode cX10_begins 13 = .ok (.invokevirtual 118, 3) := by decide +kernel
theorem dX10_begins_16 : decode cX10_begins 16 = .ok (.aload_n 0, 1) := by decide +kernel
theorem dX10_begins_17 : decode cX10_begins 17 = .ok (.sipush 130, 3) := by decide +kernel
theorem dX10_begins_20 : decode cX10_begins 20 = .ok (.iconst 0, 1) := by decide +kernel
theorem dX10_begins_21 : decode cX10_begins 21 = .ok (.invokevirtual 118, 3) := by decide +kernel
theorem dX10_begins_24 : decode cX10_begins 24 = .ok (.aload_n 0, 1) := by decide +kernel
theorem dX10_begins_25 : decode cX10_begins 25 = .ok (.invokevirtual 122, 3) := by decide +kernel
theorem dX10_begins_28 : decode cX10_begins 28 = .ok (.return_, 1) := by decide +kernel
theorem dX10_noneHalved_0 : decode cX10_noneHalved 0 = .ok (.iconst 0, 1) := by decide +kernel
theorem dX10_noneHalved_1 : decode cX10_noneHalved 1 = .ok (.istore_n 1, 1) := by decide +kernel
theorem dX10_noneHalved_2 : decode cX10_noneHalved 2 = .ok (.iload_n 1, 1) := by decide +kernel
theorem dX10_noneHalved_3 : decode cX10_noneHalved 3 = .ok (.iconst 5, 1) := by decide +kernel
theorem dX10_noneHalved_4 : decode cX10_noneHalved 4 = .ok (.if_icmp .ge 20, 3) := by decide +kernel
theorem dX10_noneHalved_7 : decode cX10_noneHalved 7 = .ok (.aload_n 0, 1) := by decide +kernel
theorem dX10_noneHalved_8 : decode cX10_noneHalved 8 = .ok (.sipush 131, 3) := by decide +kernel
theorem dX10_noneHalved_11 : decode cX10_noneHalved 11 = .ok (.iload_n 1, 1) := by decide +kernel
theorem dX10_noneHalved_12 : decode cX10_noneHalved 12 = .ok (.iadd, 1) := by decide +kernel
theorem dX10_noneHalved_13 : decode cX10_noneHalved 13 = .ok (.bipush (-2), 2) := by decide +kernel
theorem dX10_noneHalved_15 : decode cX10_noneHalved 15 = .ok (.invokevirtual 118, 3) := by decide +kernel
theorem dX10_noneHalved_18 : decode cX10_noneHalved 18 = .ok (.iinc 1 1, 3) := by decide +kernel
theorem dX10_noneHalved_21 : decode cX10_noneHalved 21 = .ok (.goto (-19), 3) := by decide +kernel
theorem dX10_noneHalved_24 : decode cX10_noneHalved 24 = .ok (.return_, 1) := by decide +kernel
theorem dX10_canUndo_0 : decode cX10_canUndo 0 = .ok (.aload_n 0, 1) := by decide +kernel
theorem dX10_canUndo_1 : decode cX10_canUndo 1 = .ok (.getfield 129, 3) := by decide +kernel
theorem dX10_canUndo_4 : decode cX10_canUndo 4 = .ok (.bipush 20, 2) := by decide +kernel
theorem dX10_canUndo_6 : decode cX10_canUndo 6 = .ok (.if_icmp .ne 35, 3) := by decide +kernel
theorem dX10_canUndo_9 : decode cX10_canUndo 9 = .ok (.iconst 1, 1) := by decide +kernel
theorem dX10_canUndo_10 : decode cX10_canUndo 10 = .ok (.istore_n 1, 1) := by decide +kernel
theorem dX10_canUndo_11 : decode cX10_canUndo 11 = .ok (.iload_n 1, 1) := by decide +kernel
theorem dX10_canUndo_12 : decode cX10_canUndo 12 = .ok (.bipush 20, 2) := by decide +kernel
theorem dX10_canUndo_14 : decode cX10_canUndo 14 = .ok (.if_icmp .ge 21, 3) := by decide +kernel
theorem dX10_canUndo_17 : decode cX10_canUndo 17 = .ok (.aload_n 0, 1) := by decide +kernel
theorem dX10_canUndo_18 : decode cX10_canUndo 18 = .ok (.iconst 3, 1) := by decide +kernel
theorem dX10_canUndo_19 : decode cX10_canUndo 19 = .ok (.iload_n 1, 1) := by decide +kernel
theorem dX10_canUndo_20 : decode cX10_canUndo 20 = .ok (.iadd, 1) := by decide +kernel
theorem dX10_canUndo_21 : decode cX10_canUndo 21 = .ok (.iconst 3, 1) := by decide +kernel
theorem dX10_canUndo_22 : decode cX10_canUndo 22 = .ok (.iload_n 1, 1) := by decide +kernel
theorem dX10_canUndo_23 : decode cX10_canUndo 23 = .ok (.iadd, 1) := by decide +kernel
theorem dX10_canUndo_24 : decode cX10_canUndo 24 = .ok (.iconst 1, 1) := by decide +kernel
theorem dX10_canUndo_25 : decode cX10_canUndo 25 = .ok (.isub, 1) := by decide +kernel
theorem dX10_canUndo_26 : decode cX10_canUndo 26 = .ok (.invokevirtual 181, 3) := by decide +kernel
theorem dX10_canUndo_29 : decode cX10_canUndo 29 = .ok (.iinc 1 1, 3) := by decide +kernel
theorem dX10_canUndo_32 : decode cX10_canUndo 32 = .ok (.goto (-21), 3) := by decide +kernel
theorem dX10_canUndo_35 : decode cX10_canUndo 35 = .ok (.aload_n 0, 1) := by decide +kernel
theorem dX10_canUndo_36 : decode cX10_canUndo 36 = .ok (.bipush 19, 2) := by decide +kernel
theorem dX10_canUndo_38 : decode cX10_canUndo 38 = .ok (.putfield 129, 3) := by decide +kernel
theorem dX10_canUndo_41 : decode cX10_canUndo 41 = .ok (.aload_n 0, 1) := by decide +kernel
theorem dX10_canUndo_42 : decode cX10_canUndo 42 = .ok (.iconst 0, 1) := by decide +kernel
theorem dX10_canUndo_43 : decode cX10_canUndo 43 = .ok (.iconst 3, 1) := by decide +kernel
theorem dX10_canUndo_44 : decode cX10_canUndo 44 = .ok (.aload_n 0, 1) := by decide +kernel
theorem dX10_canUndo_45 : decode cX10_canUndo 45 = .ok (.getfield 129, 3) := by decide +kernel
theorem dX10_canUndo_48 : decode cX10_canUndo 48 = .ok (.iadd, 1) := by decide +kernel
theorem dX10_canUndo_49 : decode cX10_canUndo 49 = .ok (.invokevirtual 181, 3) := by decide +kernel
theorem dX10_canUndo_52 : decode cX10_canUndo 52 = .ok (.aload_n 0, 1) := by decide +kernel
theorem dX10_canUndo_53 : decode cX10_canUndo 53 = .ok (.dup, 1) := by decide +kernel
theorem dX10_canUndo_54 : decode cX10_canUndo 54 = .ok (.getfield 129, 3) := by decide +kernel
theorem dX10_canUndo_57 : decode cX10_canUndo 57 = .ok (.iconst 1, 1) := by decide +kernel
theorem dX10_canUndo_58 : decode cX10_canUndo 58 = .ok (.iadd, 1) := by decide +kernel
theorem dX10_canUndo_59 : decode cX10_canUndo 59 = .ok (.putfield 129, 3) := by decide +kernel
theorem dX10_canUndo_62 : decode cX10_canUndo 62 = .ok (.return_, 1) := by decide +kernel
theorem dX10_cos_0 : decode cX10_cos 0 = .ok (.iload_n 1, 1) := by decide +kernel
theorem dX10_cos_1 : decode cX10_cos 1 = .ok (.bipush 16, 2) := by decide +kernel
theorem dX10_cos_3 : decode cX10_cos 3 = .ok (.if_icmp .le 10, 3) := by decide +kernel
theorem dX10_cos_6 : decode cX10_cos 6 = .ok (.bipush 32, 2) := by decide +kernel
theorem dX10_cos_8 : decode cX10_cos 8 = .ok (.iload_n 1, 1) := by decide +kernel
theorem dX10_cos_9 : decode cX10_cos 9 = .ok (.isub, 1) := by decide +kernel
theorem dX10_cos_10 : decode cX10_cos 10 = .ok (.goto 4, 3) := by decide +kernel
theorem dX10_cos_13 : decode cX10_cos 13 = .ok (.iload_n 1, 1) := by decide +kernel
theorem dX10_cos_14 : decode cX10_cos 14 = .ok (.istore_n 2, 1) := by decide +kernel
theorem dX10_cos_15 : decode cX10_cos 15 = .ok (.iload_n 2, 1) := by decide +kernel
theorem dX10_cos_16 : decode cX10_cos 16 = .ok (.bipush 8, 2) := by decide +kernel
theorem dX10_cos_18 : decode cX10_cos 18 = .ok (.if_icmp .gt 12, 3) := by decide +kernel
theorem dX10_cos_21 : decode cX10_cos 21 = .ok (.aload_n 0, 1) := by decide +kernel
theorem dX10_cos_22 : decode cX10_cos 22 = .ok (.getfield 36, 3) := by decide +kernel
theorem dX10_cos_25 : decode cX10_cos 25 = .ok (.iload_n 2, 1) := by decide +kernel
theorem dX10_cos_26 : decode cX10_cos 26 = .ok (.iaload, 1) := by decide +kernel
theorem dX10_cos_27 : decode cX10_cos 27 = .ok (.goto 13, 3) := by decide +kernel
theorem dX10_cos_30 : decode cX10_cos 30 = .ok (.aload_n 0, 1) := by decide +kernel
theorem dX10_cos_31 : decode cX10_cos 31 = .ok (.getfield 36, 3) := by decide +kernel
theorem dX10_cos_34 : decode cX10_cos 34 = .ok (.bipush 16, 2) := by decide +kernel
theorem dX10_cos_36 : decode cX10_cos 36 = .ok (.iload_n 2, 1) := by decide +kernel
theorem dX10_cos_37 : decode cX10_cos 37 = .ok (.isub, 1) := by decide +kernel
theorem dX10_cos_38 : decode cX10_cos 38 = .ok (.iaload, 1) := by decide +kernel
theorem dX10_cos_39 : decode cX10_cos 39 = .ok (.ineg, 1) := by decide +kernel
theorem dX10_cos_40 : decode cX10_cos 40 = .ok (.ireturn, 1) := by decide +kernel
theorem dX10_size_0 : decode cX10_size 0 = .ok (.aload_n 0, 1) := by decide +kernel
theorem dX10_size_1 : decode cX10_size 1 = .ok (.getfield 20, 3) := by decide +kernel
theorem dX10_size_4 : decode cX10_size 4 = .ok (.iconst 0, 1) := by decide +kernel
theorem dX10_size_5 : decode cX10_size 5 = .ok (.iaload, 1) := by decide +kernel
theorem dX10_size_6 : decode cX10_size 6 = .ok (.ireturn, 1) := by decide +kernel
theorem dX10_powerOf_0 : decode cX10_powerOf 0 = .ok (.aload_n 0, 1) := by decide +kernel
theorem dX10_powerOf_1 : decode cX10_powerOf 1 = .ok (.getfield 193, 3) := by decide +kernel
theorem dX10_powerOf_4 : decode cX10_powerOf 4 = .ok (.ireturn, 1) := by decide +kernel
theorem dX10_bySize_0 : decode cX10_bySize 0 = .ok (.aload_n 0, 1) := by decide +kernel
theorem dX10_bySize_1 : decode cX10_bySize 1 = .ok (.iconst 0, 1) := by decide +kernel
theorem dX10_bySize_2 : decode cX10_bySize 2 = .ok (.putfield 193, 3) := by decide +kernel
theorem dX10_bySize_5 : decode cX10_bySize 5 = .ok (.iconst 1, 1) := by decide +kernel
theorem dX10_bySize_6 : decode cX10_bySize 6 = .ok (.aload_n 0, 1) := by decide +kernel
theorem dX10_bySize_7 : decode cX10_bySize 7 = .ok (.getfield 193, 3) := by decide +kernel
theorem dX10_bySize_10 : decode cX10_bySize 10 = .ok (.ishl, 1) := by decide +kernel
theorem dX10_bySize_11 : decode cX10_bySize 11 = .ok (.aload_n 0, 1) := by decide +kernel
theorem dX10_bySize_12 : decode cX10_bySize 12 = .ok (.invokevirtual 196, 3) := by decide +kernel
theorem dX10_bySize_15 : decode cX10_bySize 15 = .ok (.if_icmp .ge 16, 3) := by decide +kernel
theorem dX10_bySize_18 : decode cX10_bySize 18 = .ok (.aload_n 0, 1) := by decide +kernel
theorem dX10_bySize_19 : decode cX10_bySize 19 = .ok (.dup, 1) := by decide +kernel
theorem dX10_bySize_20 : decode cX10_bySize 20 = .ok (.getfield 193, 3) := by decide +kernel
theorem dX10_bySize_23 : decode cX10_bySize 23 = .ok (.iconst 1, 1) := by decide +kernel
theorem dX10_bySize_24 : decode cX10_bySize 24 = .ok (.iadd, 1) := by decide +kernel
theorem dX10_bySize_25 : decode cX10_bySize 25 = .ok (.putfield 193, 3) := by decide +kernel
theorem dX10_bySize_28 : decode cX10_bySize 28 = .ok (.goto (-23), 3) := by decide +kernel
theorem dX10_bySize_31 : decode cX10_bySize 31 = .ok (.aload_n 0, 1) := by decide +kernel
theorem dX10_bySize_32 : decode cX10_bySize 32 = .ok (.invokevirtual 196, 3) := by decide +kernel
theorem dX10_bySize_35 : decode cX10_bySize 35 = .ok (.bipush 32, 2) := by decide +kernel
theorem dX10_bySize_37 : decode cX10_bySize 37 = .ok (.if_icmp .ne 8, 3) := by decide +kernel
theorem dX10_bySize_40 : decode cX10_bySize 40 = .ok (.bipush 28, 2) := by decide +kernel
theorem dX10_bySize_42 : decode cX10_bySize 42 = .ok (.goto 46, 3) := by decide +kernel
theorem dX10_bySize_45 : decode cX10_bySize 45 = .ok (.aload_n 0, 1) := by decide +kernel
theorem dX10_bySize_46 : decode cX10_bySize 46 = .ok (.invokevirtual 196, 3) := by decide +kernel
theorem dX10_bySize_49 : decode cX10_bySize 49 = .ok (.bipush 16, 2) := by decide +kernel
theorem dX10_bySize_51 : decode cX10_bySize 51 = .ok (.if_icmp .ne 8, 3) := by decide +kernel
theorem dX10_bySize_54 : decode cX10_bySize 54 = .ok (.bipush 8, 2) := by decide +kernel
theorem dX10_bySize_56 : decode cX10_bySize 56 = .ok (.goto 32, 3) := by decide +kernel
theorem dX10_bySize_59 : decode cX10_bySize 59 = .ok (.aload_n 0, 1) := by decide +kernel
theorem dX10_bySize_60 : decode cX10_bySize 60 = .ok (.invokevirtual 196, 3) := by decide +kernel
theorem dX10_bySize_63 : decode cX10_bySize 63 = .ok (.bipush 8, 2) := by decide +kernel
theorem dX10_bySize_65 : decode cX10_bySize 65 = .ok (.if_icmp .ne 8, 3) := by decide +kernel
theorem dX10_bySize_68 : decode cX10_bySize 68 = .ok (.bipush 64, 2) := by decide +kernel
theorem dX10_bySize_70 : decode cX10_bySize 70 = .ok (.goto 18, 3) := by decide +kernel
theorem dX10_bySize_73 : decode cX10_bySize 73 = .ok (.aload_n 0, 1) := by decide +kernel
theorem dX10_bySize_74 : decode cX10_bySize 74 = .ok (.invokevirtual 196, 3) := by decide +kernel
theorem dX10_bySize_77 : decode cX10_bySize 77 = .ok (.iconst 4, 1) := by decide +kernel
theorem dX10_bySize_78 : decode cX10_bySize 78 = .ok (.if_icmp .ne 8, 3) := by decide +kernel
theorem dX10_bySize_81 : decode cX10_bySize 81 = .ok (.bipush 22, 2) := by decide +kernel
theorem dX10_bySize_83 : decode cX10_bySize 83 = .ok (.goto 5, 3) := by decide +kernel
theorem dX10_bySize_86 : decode cX10_bySize 86 = .ok (.bipush 96, 2) := by decide +kernel
theorem dX10_bySize_88 : decode cX10_bySize 88 = .ok (.istore_n 1, 1) := by decide +kernel
theorem dX10_bySize_89 : decode cX10_bySize 89 = .ok (.aload_n 0, 1) := by decide +kernel
theorem dX10_bySize_90 : decode cX10_bySize 90 = .ok (.getfield 39, 3) := by decide +kernel
theorem dX10_bySize_93 : decode cX10_bySize 93 = .ok (.iconst 0, 1) := by decide +kernel
theorem dX10_bySize_94 : decode cX10_bySize 94 = .ok (.iconst 1, 1) := by decide +kernel
theorem dX10_bySize_95 : decode cX10_bySize 95 = .ok (.iastore, 1) := by decide +kernel
theorem dX10_bySize_96 : decode cX10_bySize 96 = .ok (.iconst 1, 1) := by decide +kernel
theorem dX10_bySize_97 : decode cX10_bySize 97 = .ok (.istore_n 2, 1) := by decide +kernel
theorem dX10_bySize_98 : decode cX10_bySize 98 = .ok (.iload_n 2, 1) := by decide +kernel
theorem dX10_bySize_99 : decode cX10_bySize 99 = .ok (.aload_n 0, 1) := by decide +kernel
theorem dX10_bySize_100 : decode cX10_bySize 100 = .ok (.invokevirtual 196, 3) := by decide +kernel
theorem dX10_bySize_103 : decode cX10_bySize 103 = .ok (.if_icmp .ge 28, 3) := by decide +kernel
theorem dX10_bySize_106 : decode cX10_bySize 106 = .ok (.aload_n 0, 1) := by decide +kernel
theorem dX10_bySize_107 : decode cX10_bySize 107 = .ok (.getfield 39, 3) := by decide +kernel
theorem dX10_bySize_110 : decode cX10_bySize 110 = .ok (.iload_n 2, 1) := by decide +kernel
theorem dX10_bySize_111 : decode cX10_bySize 111 = .ok (.aload_n 0, 1) := by decide +kernel
theorem dX10_bySize_112 : decode cX10_bySize 112 = .ok (.getfield 39, 3) := by decide +kernel
theorem dX10_bySize_115 : decode cX10_bySize 115 = .ok (.iload_n 2, 1) := by decide +kernel
theorem dX10_bySize_116 : decode cX10_bySize 116 = .ok (.iconst 1, 1) := by decide +kernel
theorem dX10_bySize_117 : decode cX10_bySize 117 = .ok (.isub, 1) := by decide +kernel
theorem dX10_bySize_118 : decode cX10_bySize 118 = .ok (.iaload, 1) := by decide +kernel
theorem dX10_bySize_119 : decode cX10_bySize 119 = .ok (.iload_n 1, 1) := by decide +kernel
theorem dX10_bySize_120 : decode cX10_bySize 120 = .ok (.imul, 1) := by decide +kernel
theorem dX10_bySize_121 : decode cX10_bySize 121 = .ok (.bipush 97, 2) := by decide +kernel
theorem dX10_bySize_123 : decode cX10_bySize 123 = .ok (.irem, 1) := by decide +kernel
theorem dX10_bySize_124 : decode cX10_bySize 124 = .ok (.iastore, 1) := by decide +kernel
theorem dX10_bySize_125 : decode cX10_bySize 125 = .ok (.iinc 2 1, 3) := by decide +kernel
theorem dX10_bySize_128 : decode cX10_bySize 128 = .ok (.goto (-30), 3) := by decide +kernel
theorem dX10_bySize_131 : decode cX10_bySize 131 = .ok (.return_, 1) := by decide +kernel
theorem dX10_cosOf_0 : decode cX10_cosOf 0 = .ok (.aload_n 0, 1) := by decide +kernel
theorem dX10_cosOf_1 : decode cX10_cosOf 1 = .ok (.iload_n 1, 1) := by decide +kernel
theorem dX10_cosOf_2 : decode cX10_cosOf 2 = .ok (.bipush 32, 2) := by decide +kernel
theorem dX10_cosOf_4 : decode cX10_cosOf 4 = .ok (.imul, 1) := by decide +kernel
theorem dX10_cosOf_5 : decode cX10_cosOf 5 = .ok (.aload_n 0, 1) := by decide +kernel
theorem dX10_cosOf_6 : decode cX10_cosOf 6 = .ok (.invokevirtual 196, 3) := by decide +kernel
theorem dX10_cosOf_9 : decode cX10_cosOf 9 = .ok (.idiv, 1) := by decide +kernel
theorem dX10_cosOf_10 : decode cX10_cosOf 10 = .ok (.invokevirtual 200, 3) := by decide +kernel
theorem dX10_cosOf_13 : decode cX10_cosOf 13 = .ok (.ireturn, 1) := by decide +kernel
theorem dX10_sinOf_0 : decode cX10_sinOf 0 = .ok (.aload_n 0, 1) := by decide +kernel
theorem dX10_sinOf_1 : decode cX10_sinOf 1 = .ok (.iload_n 1, 1) := by decide +kernel
theorem dX10_sinOf_2 : decode cX10_sinOf 2 = .ok (.bipush 32, 2) := by decide +kernel
theorem dX10_sinOf_4 : decode cX10_sinOf 4 = .ok (.imul, 1) := by decide +kernel
theorem dX10_sinOf_5 : decode cX10_sinOf 5 = .ok (.aload_n 0, 1) := by decide +kernel
theorem dX10_sinOf_6 : decode cX10_sinOf 6 = .ok (.invokevirtual 196, 3) := by decide +kernel
theorem dX10_sinOf_9 : decode cX10_sinOf 9 = .ok (.idiv, 1) := by decide +kernel
theorem dX10_sinOf_10 : decode cX10_sinOf 10 = .ok (.bipush 24, 2) := by decide +kernel
theorem dX10_sinOf_12 : decode cX10_sinOf 12 = .ok (.iadd, 1) := by decide +kernel
theorem dX10_sinOf_13 : decode cX10_sinOf 13 = .ok (.bipush 32, 2) := by decide +kernel
theorem dX10_sinOf_15 : decode cX10_sinOf 15 = .ok (.irem, 1) := by decide +kernel
theorem dX10_sinOf_16 : decode cX10_sinOf 16 = .ok (.invokevirtual 200, 3) := by decide +kernel
theorem dX10_sinOf_19 : decode cX10_sinOf 19 = .ok (.ireturn, 1) := by decide +kernel
theorem dX10_isPlace_0 : decode cX10_isPlace 0 = .ok (.iload_n 1, 1) := by decide +kernel
theorem dX10_isPlace_1 : decode cX10_isPlace 1 = .ok (.ifCond .lt 15, 3) := by decide +kernel
theorem dX10_isPlace_4 : decode cX10_isPlace 4 = .ok (.iload_n 1, 1) := by decide +kernel
theorem dX10_isPlace_5 : decode cX10_isPlace 5 = .ok (.aload_n 0, 1) := by decide +kernel
theorem dX10_isPlace_6 : decode cX10_isPlace 6 = .ok (.invokevirtual 196, 3) := by decide +kernel
theorem dX10_isPlace_9 : decode cX10_isPlace 9 = .ok (.if_icmp .ge 7, 3) := by decide +kernel
theorem dX10_isPlace_12 : decode cX10_isPlace 12 = .ok (.iconst 1, 1) := by decide +kernel
theorem dX10_isPlace_13 : decode cX10_isPlace 13 = .ok (.goto 4, 3) := by decide +kernel
theorem dX10_isPlace_16 : decode cX10_isPlace 16 = .ok (.iconst 0, 1) := by decide +kernel
theorem dX10_isPlace_17 : decode cX10_isPlace 17 = .ok (.ireturn, 1) := by decide +kernel
theorem dX10_turn_0 : decode cX10_turn 0 = .ok (.aload_n 0, 1) := by decide +kernel
theorem dX10_turn_1 : decode cX10_turn 1 = .ok (.iconst 0, 1) := by decide +kernel
theorem dX10_turn_2 : decode cX10_turn 2 = .ok (.putfield 70, 3) := by decide +kernel
theorem dX10_turn_5 : decode cX10_turn 5 = .ok (.aload_n 0, 1) := by decide +kernel
theorem dX10_turn_6 : decode cX10_turn 6 = .ok (.iload_n 1, 1) := by decide +kernel
theorem dX10_turn_7 : decode cX10_turn 7 = .ok (.invokevirtual 203, 3) := by decide +kernel
theorem dX10_turn_10 : decode cX10_turn 10 = .ok (.ifCond .eq 12, 3) := by decide +kernel
theorem dX10_turn_13 : decode cX10_turn 13 = .ok (.iload_n 2, 1) := by decide +kernel
theorem dX10_turn_14 : decode cX10_turn 14 = .ok (.iconst 0, 1) := by decide +kernel
theorem dX10_turn_15 : decode cX10_turn 15 = .ok (.iconst 1, 1) := by decide +kernel
theorem dX10_turn_16 : decode cX10_turn 16 = .ok (.invokestatic 138, 3) := by decide +kernel
theorem dX10_turn_19 : decode cX10_turn 19 = .ok (.ifCond .ne 6, 3) := by decide +kernel
theorem dX10_turn_22 : decode cX10_turn 22 = .ok (.ldc 206, 2) := by decide +kernel
theorem dX10_turn_24 : decode cX10_turn 24 = .ok (.ireturn, 1) := by decide +kernel
theorem dX10_turn_25 : decode cX10_turn 25 = .ok (.iload_n 2, 1) := by decide +kernel
theorem dX10_turn_26 : decode cX10_turn 26 = .ok (.ifCond .ne 11, 3) := by decide +kernel
theorem dX10_turn_29 : decode cX10_turn 29 = .ok (.aload_n 0, 1) := by decide +kernel
theorem dX10_turn_30 : decode cX10_turn 30 = .ok (.iload_n 1, 1) := by decide +kernel
theorem dX10_turn_31 : decode cX10_turn 31 = .ok (.invokevirtual 207, 3) := by decide +kernel
theorem dX10_turn_34 : decode cX10_turn 34 = .ok (.goto 9, 3) := by decide +kernel
theorem dX10_turn_37 : decode cX10_turn 37 = .ok (.aload_n 0, 1) := by decide +kernel
theorem dX10_turn_38 : decode cX10_turn 38 = .ok (.iload_n 1, 1) := by decide +kernel
theorem dX10_turn_39 : decode cX10_turn 39 = .ok (.invokevirtual 210, 3) := by decide +kernel
theorem dX10_turn_42 : decode cX10_turn 42 = .ok (.ineg, 1) := by decide +kernel
theorem dX10_turn_43 : decode cX10_turn 43 = .ok (.ireturn, 1) := by decide +kernel
theorem dX10_stagesMany_0 : decode cX10_stagesMany 0 = .ok (.aload_n 0, 1) := by decide +kernel
theorem dX10_stagesMany_1 : decode cX10_stagesMany 1 = .ok (.getfield 166, 3) := by decide +kernel
theorem dX10_stagesMany_4 : decode cX10_stagesMany 4 = .ok (.iconst 2, 1) := by decide +kernel
theorem dX10_stagesMany_5 : decode cX10_stagesMany 5 = .ok (.if_icmp .ne 10, 3) := by decide +kernel
theorem dX10_stagesMany_8 : decode cX10_stagesMany 8 = .ok (.aload_n 0, 1) := by decide +kernel
theorem dX10_stagesMany_9 : decode cX10_stagesMany 9 = .ok (.invokevirtual 213, 3) := by decide +kernel
theorem dX10_stagesMany_12 : decode cX10_stagesMany 12 = .ok (.goto 11, 3) := by decide +kernel
theorem dX10_stagesMany_15 : decode cX10_stagesMany 15 = .ok (.aload_n 0, 1) := by decide +kernel
theorem dX10_stagesMany_16 : decode cX10_stagesMany 16 = .ok (.invokevirtual 213, 3) := by decide +kernel
theorem dX10_stagesMany_19 : decode cX10_stagesMany 19 = .ok (.iconst 1, 1) := by decide +kernel
theorem dX10_stagesMany_20 : decode cX10_stagesMany 20 = .ok (.iadd, 1) := by decide +kernel
theorem dX10_stagesMany_21 : decode cX10_stagesMany 21 = .ok (.iconst 2, 1) := by decide +kernel
theorem dX10_stagesMany_22 : decode cX10_stagesMany 22 = .ok (.idiv, 1) := by decide +kernel
theorem dX10_stagesMany_23 : decode cX10_stagesMany 23 = .ok (.ireturn, 1) := by decide +kernel
theorem dX10_radixAt_0 : decode cX10_radixAt 0 = .ok (.aload_n 0, 1) := by decide +kernel
theorem dX10_radixAt_1 : decode cX10_radixAt 1 = .ok (.invokevirtual 213, 3) := by decide +kernel
theorem dX10_radixAt_4 : decode cX10_radixAt 4 = .ok (.iconst 2, 1) := by decide +kernel
theorem dX10_radixAt_5 : decode cX10_radixAt 5 = .ok (.irem, 1) := by decide +kernel
theorem dX10_radixAt_6 : decode cX10_radixAt 6 = .ok (.iconst 1, 1) := by decide +kernel
theorem dX10_radixAt_7 : decode cX10_radixAt 7 = .ok (.if_icmp .ne 7, 3) := by decide +kernel
theorem dX10_radixAt_10 : decode cX10_radixAt 10 = .ok (.iconst 1, 1) := by decide +kernel
theorem dX10_radixAt_11 : decode cX10_radixAt 11 = .ok (.goto 4, 3) := by decide +kernel
theorem dX10_radixAt_14 : decode cX10_radixAt 14 = .ok (.iconst 0, 1) := by decide +kernel
theorem dX10_radixAt_15 : decode cX10_radixAt 15 = .ok (.istore_n 2, 1) := by decide +kernel
theorem dX10_radixAt_16 : decode cX10_radixAt 16 = .ok (.iload_n 2, 1) := by decide +kernel
theorem dX10_radixAt_17 : decode cX10_radixAt 17 = .ok (.ifCond .eq 28, 3) := by decide +kernel
theorem dX10_radixAt_20 : decode cX10_radixAt 20 = .ok (.iload_n 1, 1) := by decide +kernel
theorem dX10_radixAt_21 : decode cX10_radixAt 21 = .ok (.aload_n 0, 1) := by decide +kernel
theorem dX10_radixAt_22 : decode cX10_radixAt 22 = .ok (.getfield 169, 3) := by decide +kernel
theorem dX10_radixAt_25 : decode cX10_radixAt 25 = .ok (.ifCond .ne 7, 3) := by decide +kernel
theorem dX10_radixAt_28 : decode cX10_radixAt 28 = .ok (.iconst 0, 1) := by decide +kernel
theorem dX10_radixAt_29 : decode cX10_radixAt 29 = .ok (.goto 9, 3) := by decide +kernel
theorem dX10_radixAt_32 : decode cX10_radixAt 32 = .ok (.aload_n 0, 1) := by decide +kernel
theorem dX10_radixAt_33 : decode cX10_radixAt 33 = .ok (.invokevirtual 216, 3) := by decide +kernel
theorem dX10_radixAt_36 : decode cX10_radixAt 36 = .ok (.iconst 1, 1) := by decide +kernel
theorem dX10_radixAt_37 : decode cX10_radixAt 37 = .ok (.isub, 1) := by decide +kernel
theorem dX10_radixAt_38 : decode cX10_radixAt 38 = .ok (.if_icmp .ne 7, 3) := by decide +kernel
theorem dX10_radixAt_41 : decode cX10_radixAt 41 = .ok (.iconst 1, 1) := by decide +kernel
theorem dX10_radixAt_42 : decode cX10_radixAt 42 = .ok (.goto 4, 3) := by decide +kernel
theorem dX10_radixAt_45 : decode cX10_radixAt 45 = .ok (.iconst 0, 1) := by decide +kernel
theorem dX10_radixAt_46 : decode cX10_radixAt 46 = .ok (.istore_n 3, 1) := by decide +kernel
theorem dX10_radixAt_47 : decode cX10_radixAt 47 = .ok (.aload_n 0, 1) := by decide +kernel
theorem dX10_radixAt_48 : decode cX10_radixAt 48 = .ok (.getfield 166, 3) := by decide +kernel
theorem dX10_radixAt_51 : decode cX10_radixAt 51 = .ok (.iconst 2, 1) := by decide +kernel
theorem dX10_radixAt_52 : decode cX10_radixAt 52 = .ok (.if_icmp .eq 7, 3) := by decide +kernel
theorem dX10_radixAt_55 : decode cX10_radixAt 55 = .ok (.iload_n 3, 1) := by decide +kernel
theorem dX10_radixAt_56 : decode cX10_radixAt 56 = .ok (.ifCond .eq 7, 3) := by decide +kernel
theorem dX10_radixAt_59 : decode cX10_radixAt 59 = .ok (.iconst 2, 1) := by decide +kernel
theorem dX10_radixAt_60 : decode cX10_radixAt 60 = .ok (.goto 4, 3) := by decide +kernel
theorem dX10_radixAt_63 : decode cX10_radixAt 63 = .ok (.iconst 4, 1) := by decide +kernel
theorem dX10_radixAt_64 : decode cX10_radixAt 64 = .ok (.ireturn, 1) := by decide +kernel
theorem dX10_digitOf_0 : decode cX10_digitOf 0 = .ok (.iload_n 1, 1) := by decide +kernel
theorem dX10_digitOf_1 : decode cX10_digitOf 1 = .ok (.istore_n 3, 1) := by decide +kernel
theorem dX10_digitOf_2 : decode cX10_digitOf 2 = .ok (.iconst 0, 1) := by decide +kernel
theorem dX10_digitOf_3 : decode cX10_digitOf 3 = .ok (.istore 4, 2) := by decide +kernel
theorem dX10_digitOf_5 : decode cX10_digitOf 5 = .ok (.iload 4, 2) := by decide +kernel
theorem dX10_digitOf_7 : decode cX10_digitOf 7 = .ok (.iload_n 2, 1) := by decide +kernel
theorem dX10_digitOf_8 : decode cX10_digitOf 8 = .ok (.if_icmp .ge 25, 3) := by decide +kernel
theorem dX10_digitOf_11 : decode cX10_digitOf 11 = .ok (.iload_n 3, 1) := by decide +kernel
theorem dX10_digitOf_12 : decode cX10_digitOf 12 = .ok (.aload_n 0, 1) := by decide +kernel
theorem dX10_digitOf_13 : decode cX10_digitOf 13 = .ok (.aload_n 0, 1) := by decide +kernel
theorem dX10_digitOf_14 : decode cX10_digitOf 14 = .ok (.invokevirtual 216, 3) := by decide +kernel
theorem dX10_digitOf_17 : decode cX10_digitOf 17 = .ok (.iconst 1, 1) := by decide +kernel
theorem dX10_digitOf_18 : decode cX10_digitOf 18 = .ok (.isub, 1) := by decide +kernel
theorem dX10_digitOf_19 : decode cX10_digitOf 19 = .ok (.iload 4, 2) := by decide +kernel
theorem dX10_digitOf_21 : decode cX10_digitOf 21 = .ok (.isub, 1) := by decide +kernel
theorem dX10_digitOf_22 : decode cX10_digitOf 22 = .ok (.invokevirtual 219, 3) := by decide +kernel
theorem dX10_digitOf_25 : decode cX10_digitOf 25 = .ok (.idiv, 1) := by decide +kernel
theorem dX10_digitOf_26 : decode cX10_digitOf 26 = .ok (.istore_n 3, 1) := by decide +kernel
theorem dX10_digitOf_27 : decode cX10_digitOf 27 = .ok (.iinc 4 1, 3) := by decide +kernel
theorem dX10_digitOf_30 : decode cX10_digitOf 30 = .ok (.goto (-25), 3) := by decide +kernel
theorem dX10_digitOf_33 : decode cX10_digitOf 33 = .ok (.iload_n 3, 1) := by decide +kernel
theorem dX10_digitOf_34 : decode cX10_digitOf 34 = .ok (.aload_n 0, 1) := by decide +kernel
theorem dX10_digitOf_35 : decode cX10_digitOf 35 = .ok (.aload_n 0, 1) := by decide +kernel
theorem dX10_digitOf_36 : decode cX10_digitOf 36 = .ok (.invokevirtual 216, 3) := by decide +kernel
theorem dX10_digitOf_39 : decode cX10_digitOf 39 = .ok (.iconst 1, 1) := by decide +kernel
theorem dX10_digitOf_40 : decode cX10_digitOf 40 = .ok (.isub, 1) := by decide +kernel
theorem dX10_digitOf_41 : decode cX10_digitOf 41 = .ok (.iload_n 2, 1) := by decide +kernel
theorem dX10_digitOf_42 : decode cX10_digitOf 42 = .ok (.isub, 1) := by decide +kernel
theorem dX10_digitOf_43 : decode cX10_digitOf 43 = .ok (.invokevirtual 219, 3) := by decide +kernel
theorem dX10_digitOf_46 : decode cX10_digitOf 46 = .ok (.irem, 1) := by decide +kernel
theorem dX10_digitOf_47 : decode cX10_digitOf 47 = .ok (.ireturn, 1) := by decide +kernel
theorem dX10_reversedOf_0 : decode cX10_reversedOf 0 = .ok (.iconst 0, 1) := by decide +kernel
theorem dX10_reversedOf_1 : decode cX10_reversedOf 1 = .ok (.istore_n 2, 1) := by decide +kernel
theorem dX10_reversedOf_2 : decode cX10_reversedOf 2 = .ok (.iload_n 1, 1) := by decide +kernel
theorem dX10_reversedOf_3 : decode cX10_reversedOf 3 = .ok (.istore_n 3, 1) := by decide +kernel
theorem dX10_reversedOf_4 : decode cX10_reversedOf 4 = .ok (.aload_n 0, 1) := by decide +kernel
theorem dX10_reversedOf_5 : decode cX10_reversedOf 5 = .ok (.invokevirtual 216, 3) := by decide +kernel
theorem dX10_reversedOf_8 : decode cX10_reversedOf 8 = .ok (.iconst 1, 1) := by decide +kernel
theorem dX10_reversedOf_9 : decode cX10_reversedOf 9 = .ok (.isub, 1) := by decide +kernel
theorem dX10_reversedOf_10 : decode cX10_reversedOf 10 = .ok (.istore 4, 2) := by decide +kernel
theorem dX10_reversedOf_12 : decode cX10_reversedOf 12 = .ok (.iload 4, 2) := by decide +kernel
theorem dX10_reversedOf_14 : decode cX10_reversedOf 14 = .ok (.ifCond .lt 32, 3) := by decide +kernel
theorem dX10_reversedOf_17 : decode cX10_reversedOf 17 = .ok (.aload_n 0, 1) := by decide +kernel
theorem dX10_reversedOf_18 : decode cX10_reversedOf 18 = .ok (.iload 4, 2) := by decide +kernel
theorem dX10_reversedOf_20 : decode cX10_reversedOf 20 = .ok (.invokevirtual 219, 3) := by decide +kernel
theorem dX10_reversedOf_23 : decode cX10_reversedOf 23 = .ok (.istore 5, 2) := by decide +kernel
theorem dX10_reversedOf_25 : decode cX10_reversedOf 25 = .ok (.iload_n 2, 1) := by decide +kernel
theorem dX10_reversedOf_26 : decode cX10_reversedOf 26 = .ok (.iload 5, 2) := by decide +kernel
theorem dX10_reversedOf_28 : decode cX10_reversedOf 28 = .ok (.imul, 1) := by decide +kernel
theorem dX10_reversedOf_29 : decode cX10_reversedOf 29 = .ok (.iload_n 3, 1) := by decide +kernel
theorem dX10_reversedOf_30 : decode cX10_reversedOf 30 = .ok (.iload 5, 2) := by decide +kernel
theorem dX10_reversedOf_32 : decode cX10_reversedOf 32 = .ok (.irem, 1) := by decide +kernel
theorem dX10_reversedOf_33 : decode cX10_reversedOf 33 = .ok (.iadd, 1) := by decide +kernel
theorem dX10_reversedOf_34 : decode cX10_reversedOf 34 = .ok (.istore_n 2, 1) := by decide +kernel
theorem dX10_reversedOf_35 : decode cX10_reversedOf 35 = .ok (.iload_n 3, 1) := by decide +kernel
theorem dX10_reversedOf_36 : decode cX10_reversedOf 36 = .ok (.iload 5, 2) := by decide +kernel
theorem dX10_reversedOf_38 : decode cX10_reversedOf 38 = .ok (.idiv, 1) := by decide +kernel
theorem dX10_reversedOf_39 : decode cX10_reversedOf 39 = .ok (.istore_n 3, 1) := by decide +kernel
theorem dX10_reversedOf_40 : decode cX10_reversedOf 40 = .ok (.iinc 4 (-1), 3) := by decide +kernel
theorem dX10_reversedOf_43 : decode cX10_reversedOf 43 = .ok (.goto (-31), 3) := by decide +kernel
theorem dX10_reversedOf_46 : decode cX10_reversedOf 46 = .ok (.iload_n 2, 1) := by decide +kernel
theorem dX10_reversedOf_47 : decode cX10_reversedOf 47 = .ok (.ireturn, 1) := by decide +kernel
theorem dX10_reversed_0 : decode cX10_reversed 0 = .ok (.aload_n 0, 1) := by decide +kernel
theorem dX10_reversed_1 : decode cX10_reversed 1 = .ok (.iconst 0, 1) := by decide +kernel
theorem dX10_reversed_2 : decode cX10_reversed 2 = .ok (.putfield 70, 3) := by decide +kernel
theorem dX10_reversed_5 : decode cX10_reversed 5 = .ok (.aload_n 0, 1) := by decide +kernel
theorem dX10_reversed_6 : decode cX10_reversed 6 = .ok (.iload_n 1, 1) := by decide +kernel
theorem dX10_reversed_7 : decode cX10_reversed 7 = .ok (.invokevirtual 203, 3) := by decide +kernel
theorem dX10_reversed_10 : decode cX10_reversed 10 = .ok (.ifCond .eq 11, 3) := by decide +kernel
theorem dX10_reversed_13 : decode cX10_reversed 13 = .ok (.aload_n 0, 1) := by decide +kernel
theorem dX10_reversed_14 : decode cX10_reversed 14 = .ok (.iload_n 1, 1) := by decide +kernel
theorem dX10_reversed_15 : decode cX10_reversed 15 = .ok (.invokevirtual 222, 3) := by decide +kernel
theorem dX10_reversed_18 : decode cX10_reversed 18 = .ok (.goto 4, 3) := by decide +kernel
theorem dX10_reversed_21 : decode cX10_reversed 21 = .ok (.iconst (-1), 1) := by decide +kernel
theorem dX10_reversed_22 : decode cX10_reversed 22 = .ok (.ireturn, 1) := by decide +kernel
theorem dX10_digit_0 : decode cX10_digit 0 = .ok (.aload_n 0, 1) := by decide +kernel
theorem dX10_digit_1 : decode cX10_digit 1 = .ok (.iconst 0, 1) := by decide +kernel
theorem dX10_digit_2 : decode cX10_digit 2 = .ok (.putfield 70, 3) := by decide +kernel
theorem dX10_digit_5 : decode cX10_digit 5 = .ok (.aload_n 0, 1) := by decide +kernel
theorem dX10_digit_6 : decode cX10_digit 6 = .ok (.iload_n 1, 1) := by decide +kernel
theorem dX10_digit_7 : decode cX10_digit 7 = .ok (.invokevirtual 203, 3) := by decide +kernel
theorem dX10_digit_10 : decode cX10_digit 10 = .ok (.ifCond .eq 24, 3) := by decide +kernel
theorem dX10_digit_13 : decode cX10_digit 13 = .ok (.iload_n 2, 1) := by decide +kernel
theorem dX10_digit_14 : decode cX10_digit 14 = .ok (.ifCond .lt 20, 3) := by decide +kernel
theorem dX10_digit_17 : decode cX10_digit 17 = .ok (.iload_n 2, 1) := by decide +kernel
theorem dX10_digit_18 : decode cX10_digit 18 = .ok (.aload_n 0, 1) := by decide +kernel
theorem dX10_digit_19 : decode cX10_digit 19 = .ok (.invokevirtual 216, 3) := by decide +kernel
theorem dX10_digit_22 : decode cX10_digit 22 = .ok (.if_icmp .ge 12, 3) := by decide +kernel
theorem dX10_digit_25 : decode cX10_digit 25 = .ok (.aload_n 0, 1) := by decide +kernel
theorem dX10_digit_26 : decode cX10_digit 26 = .ok (.iload_n 1, 1) := by decide +kernel
theorem dX10_digit_27 : decode cX10_digit 27 = .ok (.iload_n 2, 1) := by decide +kernel
theorem dX10_digit_28 : decode cX10_digit 28 = .ok (.invokevirtual 225, 3) := by decide +kernel
theorem dX10_digit_31 : decode cX10_digit 31 = .ok (.goto 4, 3) := by decide +kernel
theorem dX10_digit_34 : decode cX10_digit 34 = .ok (.iconst (-1), 1) := by decide +kernel
theorem dX10_digit_35 : decode cX10_digit 35 = .ok (.ireturn, 1) := by decide +kernel
theorem dX10_over0_0 : decode cX10_over0 0 = .ok (.iload_n 0, 1) := by decide +kernel
theorem dX10_over0_1 : decode cX10_over0 1 = .ok (.ifCond .ge 8, 3) := by decide +kernel
theorem dX10_over0_4 : decode cX10_over0 4 = .ok (.iload_n 0, 1) := by decide +kernel
theorem dX10_over0_5 : decode cX10_over0 5 = .ok (.ineg, 1) := by decide +kernel
theorem dX10_over0_6 : decode cX10_over0 6 = .ok (.goto 4, 3) := by decide +kernel
theorem dX10_over0_9 : decode cX10_over0 9 = .ok (.iload_n 0, 1) := by decide +kernel
theorem dX10_over0_10 : decode cX10_over0 10 = .ok (.ireturn, 1) := by decide +kernel
theorem dX10_largestIn_0 : decode cX10_largestIn 0 = .ok (.iconst 0, 1) := by decide +kernel
theorem dX10_largestIn_1 : decode cX10_largestIn 1 = .ok (.istore_n 3, 1) := by decide +kernel
theorem dX10_largestIn_2 : decode cX10_largestIn 2 = .ok (.iload_n 1, 1) := by decide +kernel
theorem dX10_largestIn_3 : decode cX10_largestIn 3 = .ok (.istore 4, 2) := by decide +kernel
theorem dX10_largestIn_5 : decode cX10_largestIn 5 = .ok (.iload 4, 2) := by decide +kernel
theorem dX10_largestIn_7 : decode cX10_largestIn 7 = .ok (.iload_n 1, 1) := by decide +kernel
theorem dX10_largestIn_8 : decode cX10_largestIn 8 = .ok (.iload_n 2, 1) := by decide +kernel
theorem dX10_largestIn_9 : decode cX10_largestIn 9 = .ok (.iadd, 1) := by decide +kernel
theorem dX10_largestIn_10 : decode cX10_largestIn 10 = .ok (.if_icmp .ge 60, 3) := by decide +kernel
theorem dX10_largestIn_13 : decode cX10_largestIn 13 = .ok (.aload_n 0, 1) := by decide +kernel
theorem dX10_largestIn_14 : decode cX10_largestIn 14 = .ok (.iload 4, 2) := by decide +kernel
theorem dX10_largestIn_16 : decode cX10_largestIn 16 = .ok (.invokevirtual 187, 3) := by decide +kernel
theorem dX10_largestIn_19 : decode cX10_largestIn 19 = .ok (.invokestatic 228, 3) := by decide +kernel
theorem dX10_largestIn_22 : decode cX10_largestIn 22 = .ok (.istore 5, 2) := by decide +kernel
theorem dX10_largestIn_24 : decode cX10_largestIn 24 = .ok (.aload_n 0, 1) := by decide +kernel
theorem dX10_largestIn_25 : decode cX10_largestIn 25 = .ok (.bipush 32, 2) := by decide +kernel
theorem dX10_largestIn_27 : decode cX10_largestIn 27 = .ok (.iload 4, 2) := by decide +kernel
theorem dX10_largestIn_29 : decode cX10_largestIn 29 = .ok (.iadd, 1) := by decide +kernel
theorem dX10_largestIn_30 : decode cX10_largestIn 30 = .ok (.invokevirtual 187, 3) := by decide +kernel
theorem dX10_largestIn_33 : decode cX10_largestIn 33 = .ok (.invokestatic 228, 3) := by decide +kernel
theorem dX10_largestIn_36 : decode cX10_largestIn 36 = .ok (.istore 6, 2) := by decide +kernel
theorem dX10_largestIn_38 : decode cX10_largestIn 38 = .ok (.iload 5, 2) := by decide +kernel
theorem dX10_largestIn_40 : decode cX10_largestIn 40 = .ok (.iload_n 3, 1) := by decide +kernel
theorem dX10_largestIn_41 : decode cX10_largestIn 41 = .ok (.if_icmp .le 8, 3) := by decide +kernel
theorem dX10_largestIn_44 : decode cX10_largestIn 44 = .ok (.iload 5, 2) := by decide +kernel
theorem dX10_largestIn_46 : decode cX10_largestIn 46 = .ok (.goto 4, 3) := by decide +kernel
theorem dX10_largestIn_49 : decode cX10_largestIn 49 = .ok (.iload_n 3, 1) := by decide +kernel
theorem dX10_largestIn_50 : decode cX10_largestIn 50 = .ok (.istore_n 3, 1) := by decide +kernel
theorem dX10_largestIn_51 : decode cX10_largestIn 51 = .ok (.iload 6, 2) := by decide +kernel
theorem dX10_largestIn_53 : decode cX10_largestIn 53 = .ok (.iload_n 3, 1) := by decide +kernel
theorem dX10_largestIn_54 : decode cX10_largestIn 54 = .ok (.if_icmp .le 8, 3) := by decide +kernel
theorem dX10_largestIn_57 : decode cX10_largestIn 57 = .ok (.iload 6, 2) := by decide +kernel
theorem dX10_largestIn_59 : decode cX10_largestIn 59 = .ok (.goto 4, 3) := by decide +kernel
theorem dX10_largestIn_62 : decode cX10_largestIn 62 = .ok (.iload_n 3, 1) := by decide +kernel
theorem dX10_largestIn_63 : decode cX10_largestIn 63 = .ok (.istore_n 3, 1) := by decide +kernel
theorem dX10_largestIn_64 : decode cX10_largestIn 64 = .ok (.iinc 4 1, 3) := by decide +kernel
theorem dX10_largestIn_67 : decode cX10_largestIn 67 = .ok (.goto (-62), 3) := by decide +kernel
theorem dX10_largestIn_70 : decode cX10_largestIn 70 = .ok (.iload_n 3, 1) := by decide +kernel
theorem dX10_largestIn_71 : decode cX10_largestIn 71 = .ok (.ireturn, 1) := by decide +kernel
theorem dX10_largestNow_0 : decode cX10_largestNow 0 = .ok (.aload_n 0, 1) := by decide +kernel
theorem dX10_largestNow_1 : decode cX10_largestNow 1 = .ok (.iconst 0, 1) := by decide +kernel
theorem dX10_largestNow_2 : decode cX10_largestNow 2 = .ok (.aload_n 0, 1) := by decide +kernel
theorem dX10_largestNow_3 : decode cX10_largestNow 3 = .ok (.invokevirtual 196, 3) := by decide +kernel
theorem dX10_largestNow_6 : decode cX10_largestNow 6 = .ok (.invokevirtual 231, 3) := by decide +kernel
theorem dX10_largestNow_9 : decode cX10_largestNow 9 = .ok (.ireturn, 1) := by decide +kernel
theorem dX10_rounded_0 : decode cX10_rounded 0 = .ok (.aload_n 0, 1) := by decide +kernel
theorem dX10_rounded_1 : decode cX10_rounded 1 = .ok (.getfield 172, 3) := by decide +kernel
theorem dX10_rounded_4 : decode cX10_rounded 4 = .ok (.iconst 1, 1) := by decide +kernel
theorem dX10_rounded_5 : decode cX10_rounded 5 = .ok (.if_icmp .ne 15, 3) := by decide +kernel
theorem dX10_rounded_8 : decode cX10_rounded 8 = .ok (.lload_n 1, 1) := by decide +kernel
theorem dX10_rounded_9 : decode cX10_rounded 9 = .ok (.lconst 1, 1) := by decide +kernel
theorem dX10_rounded_10 : decode cX10_rounded 10 = .ok (.iload_n 3, 1) := by decide +kernel
theorem dX10_rounded_11 : decode cX10_rounded 11 = .ok (.iconst 1, 1) := by decide +kernel
theorem dX10_rounded_12 : decode cX10_rounded 12 = .ok (.isub, 1) := by decide +kernel
theorem dX10_rounded_13 : decode cX10_rounded 13 = .ok (.lshl, 1) := by decide +kernel
theorem dX10_rounded_14 : decode cX10_rounded 14 = .ok (.ladd, 1) := by decide +kernel
theorem dX10_rounded_15 : decode cX10_rounded 15 = .ok (.iload_n 3, 1) := by decide +kernel
theorem dX10_rounded_16 : decode cX10_rounded 16 = .ok (.lshr, 1) := by decide +kernel
theorem dX10_rounded_17 : decode cX10_rounded 17 = .ok (.goto 6, 3) := by decide +kernel
theorem dX10_rounded_20 : decode cX10_rounded 20 = .ok (.lload_n 1, 1) := by decide +kernel
theorem dX10_rounded_21 : decode cX10_rounded 21 = .ok (.iload_n 3, 1) := by decide +kernel
theorem dX10_rounded_22 : decode cX10_rounded 22 = .ok (.lshr, 1) := by decide +kernel
theorem dX10_rounded_23 : decode cX10_rounded 23 = .ok (.lreturn, 1) := by decide +kernel
theorem dX10_laid_0 : decode cX10_laid 0 = .ok (.iconst 0, 1) := by decide +kernel
theorem dX10_laid_1 : decode cX10_laid 1 = .ok (.istore_n 1, 1) := by decide +kernel
theorem dX10_laid_2 : decode cX10_laid 2 = .ok (.iload_n 1, 1) := by decide +kernel
theorem dX10_laid_3 : decode cX10_laid 3 = .ok (.aload_n 0, 1) := by decide +kernel
theorem dX10_laid_4 : decode cX10_laid 4 = .ok (.invokevirtual 196, 3) := by decide +kernel
theorem dX10_laid_7 : decode cX10_laid 7 = .ok (.if_icmp .ge 34, 3) := by decide +kernel
theorem dX10_laid_10 : decode cX10_laid 10 = .ok (.aload_n 0, 1) := by decide +kernel
theorem dX10_laid_11 : decode cX10_laid 11 = .ok (.iload_n 1, 1) := by decide +kernel
theorem dX10_laid_12 : decode cX10_laid 12 = .ok (.aload_n 0, 1) := by decide +kernel
theorem dX10_laid_13 : decode cX10_laid 13 = .ok (.getfield 42, 3) := by decide +kernel
theorem dX10_laid_16 : decode cX10_laid 16 = .ok (.iload_n 1, 1) := by decide +kernel
theorem dX10_laid_17 : decode cX10_laid 17 = .ok (.iaload, 1) := by decide +kernel
theorem dX10_laid_18 : decode cX10_laid 18 = .ok (.invokevirtual 118, 3) := by decide +kernel
theorem dX10_laid_21 : decode cX10_laid 21 = .ok (.aload_n 0, 1) := by decide +kernel
theorem dX10_laid_22 : decode cX10_laid 22 = .ok (.bipush 32, 2) := by decide +kernel
theorem dX10_laid_24 : decode cX10_laid 24 = .ok (.iload_n 1, 1) := by decide +kernel
theorem dX10_laid_25 : decode cX10_laid 25 = .ok (.iadd, 1) := by decide +kernel
theorem dX10_laid_26 : decode cX10_laid 26 = .ok (.aload_n 0, 1) := by decide +kernel
theorem dX10_laid_27 : decode cX10_laid 27 = .ok (.getfield 45, 3) := by decide +kernel
theorem dX10_laid_30 : decode cX10_laid 30 = .ok (.iload_n 1, 1) := by decide +kernel
theorem dX10_laid_31 : decode cX10_laid 31 = .ok (.iaload, 1) := by decide +kernel
theorem dX10_laid_32 : decode cX10_laid 32 = .ok (.invokevirtual 118, 3) := by decide +kernel
theorem dX10_laid_35 : decode cX10_laid 35 = .ok (.iinc 1 1, 3) := by decide +kernel
theorem dX10_laid_38 : decode cX10_laid 38 = .ok (.goto (-36), 3) := by decide +kernel
theorem dX10_laid_41 : decode cX10_laid 41 = .ok (.return_, 1) := by decide +kernel
theorem dX10_reverses_0 : decode cX10_reverses 0 = .ok (.iconst 0, 1) := by decide +kernel
theorem dX10_reverses_1 : decode cX10_reverses 1 = .ok (.istore_n 1, 1) := by decide +kernel
theorem dX10_reverses_2 : decode cX10_reverses 2 = .ok (.iload_n 1, 1) := by decide +kernel
theorem dX10_reverses_3 : decode cX10_reverses 3 = .ok (.aload_n 0, 1) := by decide +kernel
theorem dX10_reverses_4 : decode cX10_reverses 4 = .ok (.invokevirtual 196, 3) := by decide +kernel
theorem dX10_reverses_7 : decode cX10_reverses 7 = .ok (.if_icmp .ge 40, 3) := by decide +kernel
theorem dX10_reverses_10 : decode cX10_reverses 10 = .ok (.aload_n 0, 1) := by decide +kernel
theorem dX10_reverses_11 : decode cX10_reverses 11 = .ok (.iload_n 1, 1) := by decide +kernel
theorem dX10_reverses_12 : decode cX10_reverses 12 = .ok (.invokevirtual 222, 3) := by decide +kernel
theorem dX10_reverses_15 : decode cX10_reverses 15 = .ok (.istore_n 2, 1) := by decide +kernel
theorem dX10_reverses_16 : decode cX10_reverses 16 = .ok (.aload_n 0, 1) := by decide +kernel
theorem dX10_reverses_17 : decode cX10_reverses 17 = .ok (.getfield 42, 3) := by decide +kernel
theorem dX10_reverses_20 : decode cX10_reverses 20 = .ok (.iload_n 2, 1) := by decide +kernel
theorem dX10_reverses_21 : decode cX10_reverses 21 = .ok (.aload_n 0, 1) := by decide +kernel
theorem dX10_reverses_22 : decode cX10_reverses 22 = .ok (.iload_n 1, 1) := by decide +kernel
theorem dX10_reverses_23 : decode cX10_reverses 23 = .ok (.invokevirtual 187, 3) := by decide +kernel
theorem dX10_reverses_26 : decode cX10_reverses 26 = .ok (.iastore, 1) := by decide +kernel
theorem dX10_reverses_27 : decode cX10_reverses 27 = .ok (.aload_n 0, 1) := by decide +kernel
theorem dX10_reverses_28 : decode cX10_reverses 28 = .ok (.getfield 45, 3) := by decide +kernel
theorem dX10_reverses_31 : decode cX10_reverses 31 = .ok (.iload_n 2, 1) := by decide +kernel
theorem dX10_reverses_32 : decode cX10_reverses 32 = .ok (.aload_n 0, 1) := by decide +kernel
theorem dX10_reverses_33 : decode cX10_reverses 33 = .ok (.bipush 32, 2) := by decide +kernel
theorem dX10_reverses_35 : decode cX10_reverses 35 = .ok (.iload_n 1, 1) := by decide +kernel
theorem dX10_reverses_36 : decode cX10_reverses 36 = .ok (.iadd, 1) := by decide +kernel
theorem dX10_reverses_37 : decode cX10_reverses 37 = .ok (.invokevirtual 187, 3) := by decide +kernel
theorem dX10_reverses_40 : decode cX10_reverses 40 = .ok (.iastore, 1) := by decide +kernel
theorem dX10_reverses_41 : decode cX10_reverses 41 = .ok (.iinc 1 1, 3) := by decide +kernel
theorem dX10_reverses_44 : decode cX10_reverses 44 = .ok (.goto (-42), 3) := by decide +kernel
theorem dX10_reverses_47 : decode cX10_reverses 47 = .ok (.aload_n 0, 1) := by decide +kernel
theorem dX10_reverses_48 : decode cX10_reverses 48 = .ok (.invokevirtual 234, 3) := by decide +kernel
theorem dX10_reverses_51 : decode cX10_reverses 51 = .ok (.return_, 1) := by decide +kernel
theorem dX10_halvedNow_0 : decode cX10_halvedNow 0 = .ok (.iload_n 1, 1) := by decide +kernel
theorem dX10_halvedNow_1 : decode cX10_halvedNow 1 = .ok (.iconst 4, 1) := by decide +kernel
theorem dX10_halvedNow_2 : decode cX10_halvedNow 2 = .ok (.if_icmp .ne 8, 3) := by decide +kernel
theorem dX10_halvedNow_5 : decode cX10_halvedNow 5 = .ok (.bipush 12, 2) := by decide +kernel
theorem dX10_halvedNow_7 : decode cX10_halvedNow 7 = .ok (.goto 16, 3) := by decide +kernel
theorem dX10_halvedNow_10 : decode cX10_halvedNow 10 = .ok (.aload_n 0, 1) := by decide +kernel
theorem dX10_halvedNow_11 : decode cX10_halvedNow 11 = .ok (.getfield 169, 3) := by decide +kernel
theorem dX10_halvedNow_14 : decode cX10_halvedNow 14 = .ok (.ifCond .ne 7, 3) := by decide +kernel
theorem dX10_halvedNow_17 : decode cX10_halvedNow 17 = .ok (.iconst 5, 1) := by decide +kernel
theorem dX10_halvedNow_18 : decode cX10_halvedNow 18 = .ok (.goto 5, 3) := by decide +kernel
theorem dX10_halvedNow_21 : decode cX10_halvedNow 21 = .ok (.bipush 6, 2) := by decide +kernel
theorem dX10_halvedNow_23 : decode cX10_halvedNow 23 = .ok (.istore_n 2, 1) := by decide +kernel
theorem dX10_halvedNow_24 : decode cX10_halvedNow 24 = .ok (.iconst 0, 1) := by decide +kernel
theorem dX10_halvedNow_25 : decode cX10_halvedNow 25 = .ok (.istore_n 3, 1) := by decide +kernel
theorem dX10_halvedNow_26 : decode cX10_halvedNow 26 = .ok (.aload_n 0, 1) := by decide +kernel
theorem dX10_halvedNow_27 : decode cX10_halvedNow 27 = .ok (.getfield 178, 3) := by decide +kernel
theorem dX10_halvedNow_30 : decode cX10_halvedNow 30 = .ok (.ifCond .eq 59, 3) := by decide +kernel
theorem dX10_halvedNow_33 : decode cX10_halvedNow 33 = .ok (.aload_n 0, 1) := by decide +kernel
theorem dX10_halvedNow_34 : decode cX10_halvedNow 34 = .ok (.invokevirtual 237, 3) := by decide +kernel
theorem dX10_halvedNow_37 : decode cX10_halvedNow 37 = .ok (.iload_n 2, 1) := by decide +kernel
theorem dX10_halvedNow_38 : decode cX10_halvedNow 38 = .ok (.imul, 1) := by decide +kernel
theorem dX10_halvedNow_39 : decode cX10_halvedNow 39 = .ok (.iconst 2, 1) := by decide +kernel
theorem dX10_halvedNow_40 : decode cX10_halvedNow 40 = .ok (.aload_n 0, 1) := by decide +kernel
theorem dX10_halvedNow_41 : decode cX10_halvedNow 41 = .ok (.getfield 175, 3) := by decide +kernel
theorem dX10_halvedNow_44 : decode cX10_halvedNow 44 = .ok (.imul, 1) := by decide +kernel
theorem dX10_halvedNow_45 : decode cX10_halvedNow 45 = .ok (.if_icmp .le 44, 3) := by decide +kernel
theorem dX10_halvedNow_48 : decode cX10_halvedNow 48 = .ok (.iconst 0, 1) := by decide +kernel
theorem dX10_halvedNow_49 : decode cX10_halvedNow 49 = .ok (.istore 4, 2) := by decide +kernel
theorem dX10_halvedNow_51 : decode cX10_halvedNow 51 = .ok (.iload 4, 2) := by decide +kernel
theorem dX10_halvedNow_53 : decode cX10_halvedNow 53 = .ok (.bipush 64, 2) := by decide +kernel
theorem dX10_halvedNow_55 : decode cX10_halvedNow 55 = .ok (.if_icmp .ge 28, 3) := by decide +kernel
theorem dX10_halvedNow_58 : decode cX10_halvedNow 58 = .ok (.aload_n 0, 1) := by decide +kernel
theorem dX10_halvedNow_59 : decode cX10_halvedNow 59 = .ok (.iload 4, 2) := by decide +kernel
theorem dX10_halvedNow_61 : decode cX10_halvedNow 61 = .ok (.aload_n 0, 1) := by decide +kernel
theorem dX10_halvedNow_62 : decode cX10_halvedNow 62 = .ok (.aload_n 0, 1) := by decide +kernel
theorem dX10_halvedNow_63 : decode cX10_halvedNow 63 = .ok (.iload 4, 2) := by decide +kernel
theorem dX10_halvedNow_65 : decode cX10_halvedNow 65 = .ok (.invokevirtual 187, 3) := by decide +kernel
theorem dX10_halvedNow_68 : decode cX10_halvedNow 68 = .ok (.i2l, 1) := by decide +kernel
theorem dX10_halvedNow_69 : decode cX10_halvedNow 69 = .ok (.iconst 1, 1) := by decide +kernel
theorem dX10_halvedNow_70 : decode cX10_halvedNow 70 = .ok (.invokevirtual 240, 3) := by decide +kernel
theorem dX10_halvedNow_73 : decode cX10_halvedNow 73 = .ok (.l2i, 1) := by decide +kernel
theorem dX10_halvedNow_74 : decode cX10_halvedNow 74 = .ok (.invokevirtual 118, 3) := by decide +kernel
theorem dX10_halvedNow_77 : decode cX10_halvedNow 77 = .ok (.iinc 4 1, 3) := by decide +kernel
theorem dX10_halvedNow_80 : decode cX10_halvedNow 80 = .ok (.goto (-29), 3) := by decide +kernel
theorem dX10_halvedNow_83 : decode cX10_halvedNow 83 = .ok (.iinc 3 1, 3) := by decide +kernel
theorem dX10_halvedNow_86 : decode cX10_halvedNow 86 = .ok (.goto (-60), 3) := by decide +kernel
theorem dX10_halvedNow_89 : decode cX10_halvedNow 89 = .ok (.iload_n 3, 1) := by decide +kernel
theorem dX10_halvedNow_90 : decode cX10_halvedNow 90 = .ok (.ireturn, 1) := by decide +kernel
theorem dX10_turnedRe_0 : decode cX10_turnedRe 0 = .ok (.aload_n 0, 1) := by decide +kernel
theorem dX10_turnedRe_1 : decode cX10_turnedRe 1 = .ok (.iload_n 1, 1) := by decide +kernel
theorem dX10_turnedRe_2 : decode cX10_turnedRe 2 = .ok (.i2l, 1) := by decide +kernel
theorem dX10_turnedRe_3 : decode cX10_turnedRe 3 = .ok (.aload_n 0, 1) := by decide +kernel
theorem dX10_turnedRe_4 : decode cX10_turnedRe 4 = .ok (.iload_n 3, 1) := by decide +kernel
theorem dX10_turnedRe_5 : decode cX10_turnedRe 5 = .ok (.invokevirtual 207, 3) := by decide +kernel
theorem dX10_turnedRe_8 : decode cX10_turnedRe 8 = .ok (.i2l, 1) := by decide +kernel
theorem dX10_turnedRe_9 : decode cX10_turnedRe 9 = .ok (.lmul, 1) := by decide +kernel
theorem dX10_turnedRe_10 : decode cX10_turnedRe 10 = .ok (.iload_n 2, 1) := by decide +kernel
theorem dX10_turnedRe_11 : decode cX10_turnedRe 11 = .ok (.i2l, 1) := by decide +kernel
theorem dX10_turnedRe_12 : decode cX10_turnedRe 12 = .ok (.aload_n 0, 1) := by decide +kernel
theorem dX10_turnedRe_13 : decode cX10_turnedRe 13 = .ok (.iload_n 3, 1) := by decide +kernel
theorem dX10_turnedRe_14 : decode cX10_turnedRe 14 = .ok (.invokevirtual 210, 3) := by decide +kernel
theorem dX10_turnedRe_17 : decode cX10_turnedRe 17 = .ok (.i2l, 1) := by decide +kernel
theorem dX10_turnedRe_18 : decode cX10_turnedRe 18 = .ok (.lmul, 1) := by decide +kernel
theorem dX10_turnedRe_19 : decode cX10_turnedRe 19 = .ok (.ladd, 1) := by decide +kernel
theorem dX10_turnedRe_20 : decode cX10_turnedRe 20 = .ok (.bipush 14, 2) := by decide +kernel
theorem dX10_turnedRe_22 : decode cX10_turnedRe 22 = .ok (.invokevirtual 240, 3) := by decide +kernel
theorem dX10_turnedRe_25 : decode cX10_turnedRe 25 = .ok (.lreturn, 1) := by decide +kernel
theorem dX10_turnedIm_0 : decode cX10_turnedIm 0 = .ok (.aload_n 0, 1) := by decide +kernel
theorem dX10_turnedIm_1 : decode cX10_turnedIm 1 = .ok (.iload_n 2, 1) := by decide +kernel
theorem dX10_turnedIm_2 : decode cX10_turnedIm 2 = .ok (.i2l, 1) := by decide +kernel
theorem dX10_turnedIm_3 : decode cX10_turnedIm 3 = .ok (.aload_n 0, 1) := by decide +kernel
theorem dX10_turnedIm_4 : decode cX10_turnedIm 4 = .ok (.iload_n 3, 1) := by decide +kernel
theorem dX10_turnedIm_5 : decode cX10_turnedIm 5 = .ok (.invokevirtual 207, 3) := by decide +kernel
theorem dX10_turnedIm_8 : decode cX10_turnedIm 8 = .ok (.i2l, 1) := by decide +kernel
theorem dX10_turnedIm_9 : decode cX10_turnedIm 9 = .ok (.lmul, 1) := by decide +kernel
theorem dX10_turnedIm_10 : decode cX10_turnedIm 10 = .ok (.iload_n 1, 1) := by decide +kernel
theorem dX10_turnedIm_11 : decode cX10_turnedIm 11 = .ok (.i2l, 1) := by decide +kernel
theorem dX10_turnedIm_12 : decode cX10_turnedIm 12 = .ok (.aload_n 0, 1) := by decide +kernel
theorem dX10_turnedIm_13 : decode cX10_turnedIm 13 = .ok (.iload_n 3, 1) := by decide +kernel
theorem dX10_turnedIm_14 : decode cX10_turnedIm 14 = .ok (.invokevirtual 210, 3) := by decide +kernel
theorem dX10_turnedIm_17 : decode cX10_turnedIm 17 = .ok (.i2l, 1) := by decide +kernel
theorem dX10_turnedIm_18 : decode cX10_turnedIm 18 = .ok (.lmul, 1) := by decide +kernel
theorem dX10_turnedIm_19 : decode cX10_turnedIm 19 = .ok (.lsub, 1) := by decide +kernel
theorem dX10_turnedIm_20 : decode cX10_turnedIm 20 = .ok (.bipush 14, 2) := by decide +kernel
theorem dX10_turnedIm_22 : decode cX10_turnedIm 22 = .ok (.invokevirtual 240, 3) := by decide +kernel
theorem dX10_turnedIm_25 : decode cX10_turnedIm 25 = .ok (.lreturn, 1) := by decide +kernel
theorem dX10_gathers_0 : decode cX10_gathers 0 = .ok (.iload_n 1, 1) := by decide +kernel
theorem dX10_gathers_1 : decode cX10_gathers 1 = .ok (.iload_n 1, 1) := by decide +kernel
theorem dX10_gathers_2 : decode cX10_gathers 2 = .ok (.iload_n 2, 1) := by decide +kernel
theorem dX10_gathers_3 : decode cX10_gathers 3 = .ok (.iload_n 3, 1) := by decide +kernel
theorem dX10_gathers_4 : decode cX10_gathers 4 = .ok (.imul, 1) := by decide +kernel
theorem dX10_gathers_5 : decode cX10_gathers 5 = .ok (.irem, 1) := by decide +kernel
theorem dX10_gathers_6 : decode cX10_gathers 6 = .ok (.isub, 1) := by decide +kernel
theorem dX10_gathers_7 : decode cX10_gathers 7 = .ok (.istore 5, 2) := by decide +kernel
theorem dX10_gathers_9 : decode cX10_gathers 9 = .ok (.iload_n 1, 1) := by decide +kernel
theorem dX10_gathers_10 : decode cX10_gathers 10 = .ok (.iload_n 2, 1) := by decide +kernel
theorem dX10_gathers_11 : decode cX10_gathers 11 = .ok (.iload_n 3, 1) := by decide +kernel
theorem dX10_gathers_12 : decode cX10_gathers 12 = .ok (.imul, 1) := by decide +kernel
theorem dX10_gathers_13 : decode cX10_gathers 13 = .ok (.irem, 1) := by decide +kernel
theorem dX10_gathers_14 : decode cX10_gathers 14 = .ok (.iload_n 3, 1) := by decide +kernel
theorem dX10_gathers_15 : decode cX10_gathers 15 = .ok (.idiv, 1) := by decide +kernel
theorem dX10_gathers_16 : decode cX10_gathers 16 = .ok (.istore 6, 2) := by decide +kernel
theorem dX10_gathers_18 : decode cX10_gathers 18 = .ok (.iload_n 1, 1) := by decide +kernel
theorem dX10_gathers_19 : decode cX10_gathers 19 = .ok (.iload_n 3, 1) := by decide +kernel
theorem dX10_gathers_20 : decode cX10_gathers 20 = .ok (.irem, 1) := by decide +kernel
theorem dX10_gathers_21 : decode cX10_gathers 21 = .ok (.istore 7, 2) := by decide +kernel
theorem dX10_gathers_23 : decode cX10_gathers 23 = .ok (.iconst 0, 1) := by decide +kernel
theorem dX10_gathers_24 : decode cX10_gathers 24 = .ok (.istore 8, 2) := by decide +kernel
theorem dX10_gathers_26 : decode cX10_gathers 26 = .ok (.iconst 0, 1) := by decide +kernel
theorem dX10_gathers_27 : decode cX10_gathers 27 = .ok (.istore 9, 2) := by decide +kernel
theorem dX10_gathers_29 : decode cX10_gathers 29 = .ok (.iconst 0, 1) := by decide +kernel
theorem dX10_gathers_30 : decode cX10_gathers 30 = .ok (.istore 10, 2) := by decide +kernel
theorem dX10_gathers_32 : decode cX10_gathers 32 = .ok (.iload 10, 2) := by decide +kernel
theorem dX10_gathers_34 : decode cX10_gathers 34 = .ok (.iload_n 2, 1) := by decide +kernel
theorem dX10_gathers_35 : decode cX10_gathers 35 = .ok (.if_icmp .ge 148, 3) := by decide +kernel
theorem dX10_gathers_38 : decode cX10_gathers 38 = .ok (.aload_n 0, 1) := by decide +kernel
theorem dX10_gathers_39 : decode cX10_gathers 39 = .ok (.iload 5, 2) := by decide +kernel
theorem dX10_gathers_41 : decode cX10_gathers 41 = .ok (.iload 7, 2) := by decide +kernel
theorem dX10_gathers_43 : decode cX10_gathers 43 = .ok (.iadd, 1) := by decide +kernel
theorem dX10_gathers_44 : decode cX10_gathers 44 = .ok (.iload 10, 2) := by decide +kernel
theorem dX10_gathers_46 : decode cX10_gathers 46 = .ok (.iload_n 3, 1) := by decide +kernel
theorem dX10_gathers_47 : decode cX10_gathers 47 = .ok (.imul, 1) := by decide +kernel
theorem dX10_gathers_48 : decode cX10_gathers 48 = .ok (.iadd, 1) := by decide +kernel
theorem dX10_gathers_49 : decode cX10_gathers 49 = .ok (.invokevirtual 187, 3) := by decide +kernel
theorem dX10_gathers_52 : decode cX10_gathers 52 = .ok (.istore 11, 2) := by decide +kernel
theorem dX10_gathers_54 : decode cX10_gathers 54 = .ok (.aload_n 0, 1) := by decide +kernel
theorem dX10_gathers_55 : decode cX10_gathers 55 = .ok (.bipush 32, 2) := by decide +kernel
theorem dX10_gathers_57 : decode cX10_gathers 57 = .ok (.iload 5, 2) := by decide +kernel
theorem dX10_gathers_59 : decode cX10_gathers 59 = .ok (.iadd, 1) := by decide +kernel
theorem dX10_gathers_60 : decode cX10_gathers 60 = .ok (.iload 7, 2) := by decide +kernel
theorem dX10_gathers_62 : decode cX10_gathers 62 = .ok (.iadd, 1) := by decide +kernel
theorem dX10_gathers_63 : decode cX10_gathers 63 = .ok (.iload 10, 2) := by decide +kernel
theorem dX10_gathers_65 : decode cX10_gathers 65 = .ok (.iload_n 3, 1) := by decide +kernel
theorem dX10_gathers_66 : decode cX10_gathers 66 = .ok (.imul, 1) := by decide +kernel
theorem dX10_gathers_67 : decode cX10_gathers 67 = .ok (.iadd, 1) := by decide +kernel
theorem dX10_gathers_68 : decode cX10_gathers 68 = .ok (.invokevirtual 187, 3) := by decide +kernel
theorem dX10_gathers_71 : decode cX10_gathers 71 = .ok (.istore 12, 2) := by decide +kernel
theorem dX10_gathers_73 : decode cX10_gathers 73 = .ok (.aload_n 0, 1) := by decide +kernel
theorem dX10_gathers_74 : decode cX10_gathers 74 = .ok (.getfield 169, 3) := by decide +kernel
theorem dX10_gathers_77 : decode cX10_gathers 77 = .ok (.ifCond .ne 48, 3) := by decide +kernel
theorem dX10_gathers_80 : decode cX10_gathers 80 = .ok (.iload 10, 2) := by decide +kernel
theorem dX10_gathers_82 : decode cX10_gathers 82 = .ok (.ifCond .le 43, 3) := by decide +kernel
theorem dX10_gathers_85 : decode cX10_gathers 85 = .ok (.iload 10, 2) := by decide +kernel
theorem dX10_gathers_87 : decode cX10_gathers 87 = .ok (.iload 7, 2) := by decide +kernel
theorem dX10_gathers_89 : decode cX10_gathers 89 = .ok (.imul, 1) := by decide +kernel
theorem dX10_gathers_90 : decode cX10_gathers 90 = .ok (.iload 4, 2) := by decide +kernel
theorem dX10_gathers_92 : decode cX10_gathers 92 = .ok (.imul, 1) := by decide +kernel
theorem dX10_gathers_93 : decode cX10_gathers 93 = .ok (.istore 13, 2) := by decide +kernel
theorem dX10_gathers_95 : decode cX10_gathers 95 = .ok (.aload_n 0, 1) := by decide +kernel
theorem dX10_gathers_96 : decode cX10_gathers 96 = .ok (.iload 11, 2) := by decide +kernel
theorem dX10_gathers_98 : decode cX10_gathers 98 = .ok (.iload 12, 2) := by decide +kernel
theorem dX10_gathers_100 : decode cX10_gathers 100 = .ok (.iload 13, 2) := by decide +kernel
theorem dX10_gathers_102 : decode cX10_gathers 102 = .ok (.invokevirtual 244, 3) := by decide +kernel
theorem dX10_gathers_105 : decode cX10_gathers 105 = .ok (.l2i, 1) := by decide +kernel
theorem dX10_gathers_106 : decode cX10_gathers 106 = .ok (.istore 14, 2) := by decide +kernel
theorem dX10_gathers_108 : decode cX10_gathers 108 = .ok (.aload_n 0, 1) := by decide +kernel
theorem dX10_gathers_109 : decode cX10_gathers 109 = .ok (.iload 11, 2) := by decide +kernel
theorem dX10_gathers_111 : decode cX10_gathers 111 = .ok (.iload 12, 2) := by decide +kernel
theorem dX10_gathers_113 : decode cX10_gathers 113 = .ok (.iload 13, 2) := by decide +kernel
theorem dX10_gathers_115 : decode cX10_gathers 115 = .ok (.invokevirtual 248, 3) := by decide +kernel
theorem dX10_gathers_118 : decode cX10_gathers 118 = .ok (.l2i, 1) := by decide +kernel
theorem dX10_gathers_119 : decode cX10_gathers 119 = .ok (.istore 12, 2) := by decide +kernel
theorem dX10_gathers_121 : decode cX10_gathers 121 = .ok (.iload 14, 2) := by decide +kernel
theorem dX10_gathers_123 : decode cX10_gathers 123 = .ok (.istore 11, 2) := by decide +kernel
theorem dX10_gathers_125 : decode cX10_gathers 125 = .ok (.iconst 0, 1) := by decide +kernel
theorem dX10_gathers_126 : decode cX10_gathers 126 = .ok (.istore 13, 2) := by decide +kernel
theorem dX10_gathers_128 : decode cX10_gathers 128 = .ok (.iload 13, 2) := by decide +kernel
theorem dX10_gathers_130 : decode cX10_gathers 130 = .ok (.iload 6, 2) := by decide +kernel
theorem dX10_gathers_132 : decode cX10_gathers 132 = .ok (.iload 10, 2) := by decide +kernel
theorem dX10_gathers_134 : decode cX10_gathers 134 = .ok (.imul, 1) := by decide +kernel
theorem dX10_gathers_135 : decode cX10_gathers 135 = .ok (.iconst 4, 1) := by decide +kernel
theorem dX10_gathers_136 : decode cX10_gathers 136 = .ok (.iload_n 2, 1) := by decide +kernel
theorem dX10_gathers_137 : decode cX10_gathers 137 = .ok (.idiv, 1) := by decide +kernel
theorem dX10_gathers_138 : decode cX10_gathers 138 = .ok (.imul, 1) := by decide +kernel
theorem dX10_gathers_139 : decode cX10_gathers 139 = .ok (.iconst 4, 1) := by decide +kernel
theorem dX10_gathers_140 : decode cX10_gathers 140 = .ok (.irem, 1) := by decide +kernel
theorem dX10_gathers_141 : decode cX10_gathers 141 = .ok (.if_icmp .ge 22, 3) := by decide +kernel
theorem dX10_gathers_144 : decode cX10_gathers 144 = .ok (.iload 12, 2) := by decide +kernel
theorem dX10_gathers_146 : decode cX10_gathers 146 = .ok (.istore 14, 2) := by decide +kernel
theorem dX10_gathers_148 : decode cX10_gathers 148 = .ok (.iload 11, 2) := by decide +kernel
theorem dX10_gathers_150 : decode cX10_gathers 150 = .ok (.ineg, 1) := by decide +kernel
theorem dX10_gathers_151 : decode cX10_gathers 151 = .ok (.istore 12, 2) := by decide +kernel
theorem dX10_gathers_153 : decode cX10_gathers 153 = .ok (.iload 14, 2) := by decide +kernel
theorem dX10_gathers_155 : decode cX10_gathers 155 = .ok (.istore 11, 2) := by decide +kernel
theorem dX10_gathers_157 : decode cX10_gathers 157 = .ok (.iinc 13 1, 3) := by decide +kernel
theorem dX10_gathers_160 : decode cX10_gathers 160 = .ok (.goto (-32), 3) := by decide +kernel
theorem dX10_gathers_163 : decode cX10_gathers 163 = .ok (.iload 8, 2) := by decide +kernel
theorem dX10_gathers_165 : decode cX10_gathers 165 = .ok (.iload 11, 2) := by decide +kernel
theorem dX10_gathers_167 : decode cX10_gathers 167 = .ok (.iadd, 1) := by decide +kernel
theorem dX10_gathers_168 : decode cX10_gathers 168 = .ok (.istore 8, 2) := by decide +kernel
theorem dX10_gathers_170 : decode cX10_gathers 170 = .ok (.iload 9, 2) := by decide +kernel
theorem dX10_gathers_172 : decode cX10_gathers 172 = .ok (.iload 12, 2) := by decide +kernel
theorem dX10_gathers_174 : decode cX10_gathers 174 = .ok (.iadd, 1) := by decide +kernel
theorem dX10_gathers_175 : decode cX10_gathers 175 = .ok (.istore 9, 2) := by decide +kernel
theorem dX10_gathers_177 : decode cX10_gathers 177 = .ok (.iinc 10 1, 3) := by decide +kernel
theorem dX10_gathers_180 : decode cX10_gathers 180 = .ok (.goto (-148), 3) := by decide +kernel
theorem dX10_gathers_183 : decode cX10_gathers 183 = .ok (.aload_n 0, 1) := by decide +kernel
theorem dX10_gathers_184 : decode cX10_gathers 184 = .ok (.getfield 169, 3) := by decide +kernel
theorem dX10_gathers_187 : decode cX10_gathers 187 = .ok (.iconst 1, 1) := by decide +kernel
theorem dX10_gathers_188 : decode cX10_gathers 188 = .ok (.if_icmp .ne 12, 3) := by decide +kernel
theorem dX10_gathers_191 : decode cX10_gathers 191 = .ok (.iload 6, 2) := by decide +kernel
theorem dX10_gathers_193 : decode cX10_gathers 193 = .ok (.ifCond .le 7, 3) := by decide +kernel
theorem dX10_gathers_196 : decode cX10_gathers 196 = .ok (.iconst 1, 1) := by decide +kernel
theorem dX10_gathers_197 : decode cX10_gathers 197 = .ok (.goto 4, 3) := by decide +kernel
theorem dX10_gathers_200 : decode cX10_gathers 200 = .ok (.iconst 0, 1) := by decide +kernel
theorem dX10_gathers_201 : decode cX10_gathers 201 = .ok (.istore 10, 2) := by decide +kernel
theorem dX10_gathers_203 : decode cX10_gathers 203 = .ok (.aload_n 0, 1) := by decide +kernel
theorem dX10_gathers_204 : decode cX10_gathers 204 = .ok (.getfield 42, 3) := by decide +kernel
theorem dX10_gathers_207 : decode cX10_gathers 207 = .ok (.iload_n 1, 1) := by decide +kernel
theorem dX10_gathers_208 : decode cX10_gathers 208 = .ok (.iload 10, 2) := by decide +kernel
theorem dX10_gathers_210 : decode cX10_gathers 210 = .ok (.ifCond .eq 23, 3) := by decide +kernel
theorem dX10_gathers_213 : decode cX10_gathers 213 = .ok (.aload_n 0, 1) := by decide +kernel
theorem dX10_gathers_214 : decode cX10_gathers 214 = .ok (.iload 8, 2) := by decide +kernel
theorem dX10_gathers_216 : decode cX10_gathers 216 = .ok (.iload 9, 2) := by decide +kernel
theorem dX10_gathers_218 : decode cX10_gathers 218 = .ok (.iload 6, 2) := by decide +kernel
theorem dX10_gathers_220 : decode cX10_gathers 220 = .ok (.iload 7, 2) := by decide +kernel
theorem dX10_gathers_222 : decode cX10_gathers 222 = .ok (.imul, 1) := by decide +kernel
theorem dX10_gathers_223 : decode cX10_gathers 223 = .ok (.iload 4, 2) := by decide +kernel
theorem dX10_gathers_225 : decode cX10_gathers 225 = .ok (.imul, 1) := by decide +kernel
theorem dX10_gathers_226 : decode cX10_gathers 226 = .ok (.invokevirtual 244, 3) := by decide +kernel
theorem dX10_gathers_229 : decode cX10_gathers 229 = .ok (.l2i, 1) := by decide +kernel
theorem dX10_gathers_230 : decode cX10_gathers 230 = .ok (.goto 5, 3) := by decide +kernel
theorem dX10_gathers_233 : decode cX10_gathers 233 = .ok (.iload 8, 2) := by decide +kernel
theorem dX10_gathers_235 : decode cX10_gathers 235 = .ok (.iastore, 1) := by decide +kernel
theorem dX10_gathers_236 : decode cX10_gathers 236 = .ok (.aload_n 0, 1) := by decide +kernel
theorem dX10_gathers_237 : decode cX10_gathers 237 = .ok (.getfield 45, 3) := by decide +kernel
theorem dX10_gathers_240 : decode cX10_gathers 240 = .ok (.iload_n 1, 1) := by decide +kernel
theorem dX10_gathers_241 : decode cX10_gathers 241 = .ok (.iload 10, 2) := by decide +kernel
theorem dX10_gathers_243 : decode cX10_gathers 243 = .ok (.ifCond .eq 23, 3) := by decide +kernel
theorem dX10_gathers_246 : decode cX10_gathers 246 = .ok (.aload_n 0, 1) := by decide +kernel
theorem dX10_gathers_247 : decode cX10_gathers 247 = .ok (.iload 8, 2) := by decide +kernel
theorem dX10_gathers_249 : decode cX10_gathers 249 = .ok (.iload 9, 2) := by decide +kernel
theorem dX10_gathers_251 : decode cX10_gathers 251 = .ok (.iload 6, 2) := by decide +kernel
theorem dX10_gathers_253 : decode cX10_gathers 253 = .ok (.iload 7, 2) := by decide +kernel
theorem dX10_gathers_255 : decode cX10_gathers 255 = .ok (.imul, 1) := by decide +kernel
theorem dX10_gathers_256 : decode cX10_gathers 256 = .ok (.iload 4, 2) := by decide +kernel
theorem dX10_gathers_258 : decode cX10_gathers 258 = .ok (.imul, 1) := by decide +kernel
theorem dX10_gathers_259 : decode cX10_gathers 259 = .ok (.invokevirtual 248, 3) := by decide +kernel
theorem dX10_gathers_262 : decode cX10_gathers 262 = .ok (.l2i, 1) := by decide +kernel
theorem dX10_gathers_263 : decode cX10_gathers 263 = .ok (.goto 5, 3) := by decide +kernel
theorem dX10_gathers_266 : decode cX10_gathers 266 = .ok (.iload 9, 2) := by decide +kernel
theorem dX10_gathers_268 : decode cX10_gathers 268 = .ok (.iastore, 1) := by decide +kernel
theorem dX10_gathers_269 : decode cX10_gathers 269 = .ok (.return_, 1) := by decide +kernel
theorem dX10_wings_0 : decode cX10_wings 0 = .ok (.aload_n 0, 1) := by decide +kernel
theorem dX10_wings_1 : decode cX10_wings 1 = .ok (.iload_n 1, 1) := by decide +kernel
theorem dX10_wings_2 : decode cX10_wings 2 = .ok (.invokevirtual 219, 3) := by decide +kernel
theorem dX10_wings_5 : decode cX10_wings 5 = .ok (.istore_n 2, 1) := by decide +kernel
theorem dX10_wings_6 : decode cX10_wings 6 = .ok (.iconst 1, 1) := by decide +kernel
theorem dX10_wings_7 : decode cX10_wings 7 = .ok (.istore_n 3, 1) := by decide +kernel
theorem dX10_wings_8 : decode cX10_wings 8 = .ok (.iconst 0, 1) := by decide +kernel
theorem dX10_wings_9 : decode cX10_wings 9 = .ok (.istore 4, 2) := by decide +kernel
theorem dX10_wings_11 : decode cX10_wings 11 = .ok (.iload 4, 2) := by decide +kernel
theorem dX10_wings_13 : decode cX10_wings 13 = .ok (.iload_n 1, 1) := by decide +kernel
theorem dX10_wings_14 : decode cX10_wings 14 = .ok (.if_icmp .ge 18, 3) := by decide +kernel
theorem dX10_wings_17 : decode cX10_wings 17 = .ok (.iload_n 3, 1) := by decide +kernel
theorem dX10_wings_18 : decode cX10_wings 18 = .ok (.aload_n 0, 1) := by decide +kernel
theorem dX10_wings_19 : decode cX10_wings 19 = .ok (.iload 4, 2) := by decide +kernel
theorem dX10_wings_21 : decode cX10_wings 21 = .ok (.invokevirtual 219, 3) := by decide +kernel
theorem dX10_wings_24 : decode cX10_wings 24 = .ok (.imul, 1) := by decide +kernel
theorem dX10_wings_25 : decode cX10_wings 25 = .ok (.istore_n 3, 1) := by decide +kernel
theorem dX10_wings_26 : decode cX10_wings 26 = .ok (.iinc 4 1, 3) := by decide +kernel
theorem dX10_wings_29 : decode cX10_wings 29 = .ok (.goto (-18), 3) := by decide +kernel
theorem dX10_wings_32 : decode cX10_wings 32 = .ok (.aload_n 0, 1) := by decide +kernel
theorem dX10_wings_33 : decode cX10_wings 33 = .ok (.getfield 169, 3) := by decide +kernel
theorem dX10_wings_36 : decode cX10_wings 36 = .ok (.iconst 1, 1) := by decide +kernel
theorem dX10_wings_37 : decode cX10_wings 37 = .ok (.if_icmp .ne 12, 3) := by decide +kernel
theorem dX10_wings_40 : decode cX10_wings 40 = .ok (.aload_n 0, 1) := by decide +kernel
theorem dX10_wings_41 : decode cX10_wings 41 = .ok (.invokevirtual 196, 3) := by decide +kernel
theorem dX10_wings_44 : decode cX10_wings 44 = .ok (.iload_n 3, 1) := by decide +kernel
theorem dX10_wings_45 : decode cX10_wings 45 = .ok (.iload_n 2, 1) := by decide +kernel
theorem dX10_wings_46 : decode cX10_wings 46 = .ok (.imul, 1) := by decide +kernel
theorem dX10_wings_47 : decode cX10_wings 47 = .ok (.idiv, 1) := by decide +kernel
theorem dX10_wings_48 : decode cX10_wings 48 = .ok (.istore_n 3, 1) := by decide +kernel
theorem dX10_wings_49 : decode cX10_wings 49 = .ok (.iconst 0, 1) := by decide +kernel
theorem dX10_wings_50 : decode cX10_wings 50 = .ok (.istore 4, 2) := by decide +kernel
theorem dX10_wings_52 : decode cX10_wings 52 = .ok (.iload 4, 2) := by decide +kernel
theorem dX10_wings_54 : decode cX10_wings 54 = .ok (.aload_n 0, 1) := by decide +kernel
theorem dX10_wings_55 : decode cX10_wings 55 = .ok (.invokevirtual 196, 3) := by decide +kernel
theorem dX10_wings_58 : decode cX10_wings 58 = .ok (.if_icmp .ge 25, 3) := by decide +kernel
theorem dX10_wings_61 : decode cX10_wings 61 = .ok (.aload_n 0, 1) := by decide +kernel
theorem dX10_wings_62 : decode cX10_wings 62 = .ok (.iload 4, 2) := by decide +kernel
theorem dX10_wings_64 : decode cX10_wings 64 = .ok (.iload_n 2, 1) := by decide +kernel
theorem dX10_wings_65 : decode cX10_wings 65 = .ok (.iload_n 3, 1) := by decide +kernel
theorem dX10_wings_66 : decode cX10_wings 66 = .ok (.aload_n 0, 1) := by decide +kernel
theorem dX10_wings_67 : decode cX10_wings 67 = .ok (.invokevirtual 196, 3) := by decide +kernel
theorem dX10_wings_70 : decode cX10_wings 70 = .ok (.iload_n 2, 1) := by decide +kernel
theorem dX10_wings_71 : decode cX10_wings 71 = .ok (.iload_n 3, 1) := by decide +kernel
theorem dX10_wings_72 : decode cX10_wings 72 = .ok (.imul, 1) := by decide +kernel
theorem dX10_wings_73 : decode cX10_wings 73 = .ok (.idiv, 1) := by decide +kernel
theorem dX10_wings_74 : decode cX10_wings 74 = .ok (.invokevirtual 251, 3) := by decide +kernel
theorem dX10_wings_77 : decode cX10_wings 77 = .ok (.iinc 4 1, 3) := by decide +kernel
theorem dX10_wings_80 : decode cX10_wings 80 = .ok (.goto (-28), 3) := by decide +kernel
theorem dX10_wings_83 : decode cX10_wings 83 = .ok (.aload_n 0, 1) := by decide +kernel
theorem dX10_wings_84 : decode cX10_wings 84 = .ok (.invokevirtual 234, 3) := by decide +kernel
theorem dX10_wings_87 : decode cX10_wings 87 = .ok (.return_, 1) := by decide +kernel
theorem dX10_turnsOver_0 : decode cX10_turnsOver 0 = .ok (.iconst 0, 1) := by decide +kernel
theorem dX10_turnsOver_1 : decode cX10_turnsOver 1 = .ok (.istore_n 1, 1) := by decide +kernel
theorem dX10_turnsOver_2 : decode cX10_turnsOver 2 = .ok (.iload_n 1, 1) := by decide +kernel
theorem dX10_turnsOver_3 : decode cX10_turnsOver 3 = .ok (.bipush 32, 2) := by decide +kernel
theorem dX10_turnsOver_5 : decode cX10_turnsOver 5 = .ok (.if_icmp .ge 26, 3) := by decide +kernel
theorem dX10_turnsOver_8 : decode cX10_turnsOver 8 = .ok (.aload_n 0, 1) := by decide +kernel
theorem dX10_turnsOver_9 : decode cX10_turnsOver 9 = .ok (.bipush 32, 2) := by decide +kernel
theorem dX10_turnsOver_11 : decode cX10_turnsOver 11 = .ok (.iload_n 1, 1) := by decide +kernel
theorem dX10_turnsOver_12 : decode cX10_turnsOver 12 = .ok (.iadd, 1) := by decide +kernel
theorem dX10_turnsOver_13 : decode cX10_turnsOver 13 = .ok (.aload_n 0, 1) := by decide +kernel
theorem dX10_turnsOver_14 : decode cX10_turnsOver 14 = .ok (.bipush 32, 2) := by decide +kernel
theorem dX10_turnsOver_16 : decode cX10_turnsOver 16 = .ok (.iload_n 1, 1) := by decide +kernel
theorem dX10_turnsOver_17 : decode cX10_turnsOver 17 = .ok (.iadd, 1) := by decide +kernel
theorem dX10_turnsOver_18 : decode cX10_turnsOver 18 = .ok (.invokevirtual 187, 3) := by decide +kernel
theorem dX10_turnsOver_21 : decode cX10_turnsOver 21 = .ok (.ineg, 1) := by decide +kernel
theorem dX10_turnsOver_22 : decode cX10_turnsOver 22 = .ok (.invokevirtual 118, 3) := by decide +kernel
theorem dX10_turnsOver_25 : decode cX10_turnsOver 25 = .ok (.iinc 1 1, 3) := by decide +kernel
theorem dX10_turnsOver_28 : decode cX10_turnsOver 28 = .ok (.goto (-26), 3) := by decide +kernel
theorem dX10_turnsOver_31 : decode cX10_turnsOver 31 = .ok (.return_, 1) := by decide +kernel
theorem dX10_beats_0 : decode cX10_beats 0 = .ok (.aload_n 0, 1) := by decide +kernel
theorem dX10_beats_1 : decode cX10_beats 1 = .ok (.sipush 129, 3) := by decide +kernel
theorem dX10_beats_4 : decode cX10_beats 4 = .ok (.invokevirtual 187, 3) := by decide +kernel
theorem dX10_beats_7 : decode cX10_beats 7 = .ok (.istore_n 1, 1) := by decide +kernel
theorem dX10_beats_8 : decode cX10_beats 8 = .ok (.aload_n 0, 1) := by decide +kernel
theorem dX10_beats_9 : decode cX10_beats 9 = .ok (.getfield 169, 3) := by decide +kernel
theorem dX10_beats_12 : decode cX10_beats 12 = .ok (.ifCond .ne 11, 3) := by decide +kernel
theorem dX10_beats_15 : decode cX10_beats 15 = .ok (.iload_n 1, 1) := by decide +kernel
theorem dX10_beats_16 : decode cX10_beats 16 = .ok (.ifCond .ne 7, 3) := by decide +kernel
theorem dX10_beats_19 : decode cX10_beats 19 = .ok (.aload_n 0, 1) := by decide +kernel
theorem dX10_beats_20 : decode cX10_beats 20 = .ok (.invokevirtual 255, 3) := by decide +kernel
theorem dX10_beats_23 : decode cX10_beats 23 = .ok (.aload_n 0, 1) := by decide +kernel
theorem dX10_beats_24 : decode cX10_beats 24 = .ok (.aload_n 0, 1) := by decide +kernel
theorem dX10_beats_25 : decode cX10_beats 25 = .ok (.iload_n 1, 1) := by decide +kernel
theorem dX10_beats_26 : decode cX10_beats 26 = .ok (.invokevirtual 219, 3) := by decide +kernel
theorem dX10_beats_29 : decode cX10_beats 29 = .ok (.invokevirtual 258, 3) := by decide +kernel
theorem dX10_beats_32 : decode cX10_beats 32 = .ok (.istore_n 2, 1) := by decide +kernel
theorem dX10_beats_33 : decode cX10_beats 33 = .ok (.aload_n 0, 1) := by decide +kernel
theorem dX10_beats_34 : decode cX10_beats 34 = .ok (.iload_n 1, 1) := by decide +kernel
theorem dX10_beats_35 : decode cX10_beats 35 = .ok (.invokevirtual 261, 3) := by decide +kernel
theorem dX10_beats_38 : decode cX10_beats 38 = .ok (.iload_n 1, 1) := by decide +kernel
theorem dX10_beats_39 : decode cX10_beats 39 = .ok (.aload_n 0, 1) := by decide +kernel
theorem dX10_beats_40 : decode cX10_beats 40 = .ok (.invokevirtual 216, 3) := by decide +kernel
theorem dX10_beats_43 : decode cX10_beats 43 = .ok (.iconst 1, 1) := by decide +kernel
theorem dX10_beats_44 : decode cX10_beats 44 = .ok (.isub, 1) := by decide +kernel
theorem dX10_beats_45 : decode cX10_beats 45 = .ok (.if_icmp .ne 7, 3) := by decide +kernel
theorem dX10_beats_48 : decode cX10_beats 48 = .ok (.iconst 1, 1) := by decide +kernel
theorem dX10_beats_49 : decode cX10_beats 49 = .ok (.goto 4, 3) := by decide +kernel
theorem dX10_beats_52 : decode cX10_beats 52 = .ok (.iconst 0, 1) := by decide +kernel
theorem dX10_beats_53 : decode cX10_beats 53 = .ok (.istore_n 3, 1) := by decide +kernel
theorem dX10_beats_54 : decode cX10_beats 54 = .ok (.aload_n 0, 1) := by decide +kernel
theorem dX10_beats_55 : decode cX10_beats 55 = .ok (.getfield 169, 3) := by decide +kernel
theorem dX10_beats_58 : decode cX10_beats 58 = .ok (.iconst 1, 1) := by decide +kernel
theorem dX10_beats_59 : decode cX10_beats 59 = .ok (.if_icmp .ne 11, 3) := by decide +kernel
theorem dX10_beats_62 : decode cX10_beats 62 = .ok (.iload_n 3, 1) := by decide +kernel
theorem dX10_beats_63 : decode cX10_beats 63 = .ok (.ifCond .eq 7, 3) := by decide +kernel
theorem dX10_beats_66 : decode cX10_beats 66 = .ok (.aload_n 0, 1) := by decide +kernel
theorem dX10_beats_67 : decode cX10_beats 67 = .ok (.invokevirtual 255, 3) := by decide +kernel
theorem dX10_beats_70 : decode cX10_beats 70 = .ok (.aload_n 0, 1) := by decide +kernel
theorem dX10_beats_71 : decode cX10_beats 71 = .ok (.sipush 131, 3) := by decide +kernel
theorem dX10_beats_74 : decode cX10_beats 74 = .ok (.iload_n 1, 1) := by decide +kernel
theorem dX10_beats_75 : decode cX10_beats 75 = .ok (.iadd, 1) := by decide +kernel
theorem dX10_beats_76 : decode cX10_beats 76 = .ok (.iload_n 2, 1) := by decide +kernel
theorem dX10_beats_77 : decode cX10_beats 77 = .ok (.invokevirtual 118, 3) := by decide +kernel
theorem dX10_beats_80 : decode cX10_beats 80 = .ok (.aload_n 0, 1) := by decide +kernel
theorem dX10_beats_81 : decode cX10_beats 81 = .ok (.sipush 128, 3) := by decide +kernel
theorem dX10_beats_84 : decode cX10_beats 84 = .ok (.aload_n 0, 1) := by decide +kernel
theorem dX10_beats_85 : decode cX10_beats 85 = .ok (.sipush 128, 3) := by decide +kernel
theorem dX10_beats_88 : decode cX10_beats 88 = .ok (.invokevirtual 187, 3) := by decide +kernel
theorem dX10_beats_91 : decode cX10_beats 91 = .ok (.iload_n 2, 1) := by decide +kernel
theorem dX10_beats_92 : decode cX10_beats 92 = .ok (.iadd, 1) := by decide +kernel
theorem dX10_beats_93 : decode cX10_beats 93 = .ok (.invokevirtual 118, 3) := by decide +kernel
theorem dX10_beats_96 : decode cX10_beats 96 = .ok (.aload_n 0, 1) := by decide +kernel
theorem dX10_beats_97 : decode cX10_beats 97 = .ok (.sipush 129, 3) := by decide +kernel
theorem dX10_beats_100 : decode cX10_beats 100 = .ok (.iload_n 1, 1) := by decide +kernel
theorem dX10_beats_101 : decode cX10_beats 101 = .ok (.iconst 1, 1) := by decide +kernel
theorem dX10_beats_102 : decode cX10_beats 102 = .ok (.iadd, 1) := by decide +kernel
theorem dX10_beats_103 : decode cX10_beats 103 = .ok (.invokevirtual 118, 3) := by decide +kernel
theorem dX10_beats_106 : decode cX10_beats 106 = .ok (.iload_n 3, 1) := by decide +kernel
theorem dX10_beats_107 : decode cX10_beats 107 = .ok (.ifCond .eq 37, 3) := by decide +kernel
theorem dX10_beats_110 : decode cX10_beats 110 = .ok (.aload_n 0, 1) := by decide +kernel
theorem dX10_beats_111 : decode cX10_beats 111 = .ok (.sipush 130, 3) := by decide +kernel
theorem dX10_beats_114 : decode cX10_beats 114 = .ok (.invokevirtual 187, 3) := by decide +kernel
theorem dX10_beats_117 : decode cX10_beats 117 = .ok (.iconst 1, 1) := by decide +kernel
theorem dX10_beats_118 : decode cX10_beats 118 = .ok (.if_icmp .ne 26, 3) := by decide +kernel
theorem dX10_beats_121 : decode cX10_beats 121 = .ok (.aload_n 0, 1) := by decide +kernel
theorem dX10_beats_122 : decode cX10_beats 122 = .ok (.invokevirtual 265, 3) := by decide +kernel
theorem dX10_beats_125 : decode cX10_beats 125 = .ok (.aload_n 0, 1) := by decide +kernel
theorem dX10_beats_126 : decode cX10_beats 126 = .ok (.sipush 128, 3) := by decide +kernel
theorem dX10_beats_129 : decode cX10_beats 129 = .ok (.aload_n 0, 1) := by decide +kernel
theorem dX10_beats_130 : decode cX10_beats 130 = .ok (.sipush 128, 3) := by decide +kernel
theorem dX10_beats_133 : decode cX10_beats 133 = .ok (.invokevirtual 187, 3) := by decide +kernel
theorem dX10_beats_136 : decode cX10_beats 136 = .ok (.aload_n 0, 1) := by decide +kernel
theorem dX10_beats_137 : decode cX10_beats 137 = .ok (.invokevirtual 213, 3) := by decide +kernel
theorem dX10_beats_140 : decode cX10_beats 140 = .ok (.isub, 1) := by decide +kernel
theorem dX10_beats_141 : decode cX10_beats 141 = .ok (.invokevirtual 118, 3) := by decide +kernel
theorem dX10_beats_144 : decode cX10_beats 144 = .ok (.iload_n 2, 1) := by decide +kernel
theorem dX10_beats_145 : decode cX10_beats 145 = .ok (.ireturn, 1) := by decide +kernel
theorem dX10_isDone_0 : decode cX10_isDone 0 = .ok (.aload_n 0, 1) := by decide +kernel
theorem dX10_isDone_1 : decode cX10_isDone 1 = .ok (.sipush 129, 3) := by decide +kernel
theorem dX10_isDone_4 : decode cX10_isDone 4 = .ok (.invokevirtual 187, 3) := by decide +kernel
theorem dX10_isDone_7 : decode cX10_isDone 7 = .ok (.aload_n 0, 1) := by decide +kernel
theorem dX10_isDone_8 : decode cX10_isDone 8 = .ok (.invokevirtual 216, 3) := by decide +kernel
theorem dX10_isDone_11 : decode cX10_isDone 11 = .ok (.if_icmp .ne 7, 3) := by decide +kernel
theorem dX10_isDone_14 : decode cX10_isDone 14 = .ok (.iconst 1, 1) := by decide +kernel
theorem dX10_isDone_15 : decode cX10_isDone 15 = .ok (.goto 4, 3) := by decide +kernel
theorem dX10_isDone_18 : decode cX10_isDone 18 = .ok (.iconst 0, 1) := by decide +kernel
theorem dX10_isDone_19 : decode cX10_isDone 19 = .ok (.ireturn, 1) := by decide +kernel
theorem dX10_isForward_0 : decode cX10_isForward 0 = .ok (.aload_n 0, 1) := by decide +kernel
theorem dX10_isForward_1 : decode cX10_isForward 1 = .ok (.invokevirtual 268, 3) := by decide +kernel
theorem dX10_isForward_4 : decode cX10_isForward 4 = .ok (.ifCond .eq 17, 3) := by decide +kernel
theorem dX10_isForward_7 : decode cX10_isForward 7 = .ok (.aload_n 0, 1) := by decide +kernel
theorem dX10_isForward_8 : decode cX10_isForward 8 = .ok (.sipush 130, 3) := by decide +kernel
theorem dX10_isForward_11 : decode cX10_isForward 11 = .ok (.invokevirtual 187, 3) := by decide +kernel
theorem dX10_isForward_14 : decode cX10_isForward 14 = .ok (.ifCond .ne 7, 3) := by decide +kernel
theorem dX10_isForward_17 : decode cX10_isForward 17 = .ok (.iconst 1, 1) := by decide +kernel
theorem dX10_isForward_18 : decode cX10_isForward 18 = .ok (.goto 4, 3) := by decide +kernel
theorem dX10_isForward_21 : decode cX10_isForward 21 = .ok (.iconst 0, 1) := by decide +kernel
theorem dX10_isForward_22 : decode cX10_isForward 22 = .ok (.ireturn, 1) := by decide +kernel
theorem dX10_isFresh_0 : decode cX10_isFresh 0 = .ok (.aload_n 0, 1) := by decide +kernel
theorem dX10_isFresh_1 : decode cX10_isFresh 1 = .ok (.sipush 129, 3) := by decide +kernel
theorem dX10_isFresh_4 : decode cX10_isFresh 4 = .ok (.invokevirtual 187, 3) := by decide +kernel
theorem dX10_isFresh_7 : decode cX10_isFresh 7 = .ok (.ifCond .ne 17, 3) := by decide +kernel
theorem dX10_isFresh_10 : decode cX10_isFresh 10 = .ok (.aload_n 0, 1) := by decide +kernel
theorem dX10_isFresh_11 : decode cX10_isFresh 11 = .ok (.sipush 130, 3) := by decide +kernel
theorem dX10_isFresh_14 : decode cX10_isFresh 14 = .ok (.invokevirtual 187, 3) := by decide +kernel
theorem dX10_isFresh_17 : decode cX10_isFresh 17 = .ok (.ifCond .ne 7, 3) := by decide +kernel
theorem dX10_isFresh_20 : decode cX10_isFresh 20 = .ok (.iconst 1, 1) := by decide +kernel
theorem dX10_isFresh_21 : decode cX10_isFresh 21 = .ok (.goto 4, 3) := by decide +kernel
theorem dX10_isFresh_24 : decode cX10_isFresh 24 = .ok (.iconst 0, 1) := by decide +kernel
theorem dX10_isFresh_25 : decode cX10_isFresh 25 = .ok (.ireturn, 1) := by decide +kernel
theorem dX10_beatsAll_0 : decode cX10_beatsAll 0 = .ok (.aload_n 0, 1) := by decide +kernel
theorem dX10_beatsAll_1 : decode cX10_beatsAll 1 = .ok (.invokevirtual 268, 3) := by decide +kernel
theorem dX10_beatsAll_4 : decode cX10_beatsAll 4 = .ok (.ifCond .ne 11, 3) := by decide +kernel
theorem dX10_beatsAll_7 : decode cX10_beatsAll 7 = .ok (.aload_n 0, 1) := by decide +kernel
theorem dX10_beatsAll_8 : decode cX10_beatsAll 8 = .ok (.invokevirtual 271, 3) := by decide +kernel
theorem dX10_beatsAll_11 : decode cX10_beatsAll 11 = .ok (.pop, 1) := by decide +kernel
theorem dX10_beatsAll_12 : decode cX10_beatsAll 12 = .ok (.goto (-12), 3) := by decide +kernel
theorem dX10_beatsAll_15 : decode cX10_beatsAll 15 = .ok (.return_, 1) := by decide +kernel
theorem dX10_goesBack_0 : decode cX10_goesBack 0 = .ok (.aload_n 0, 1) := by decide +kernel
theorem dX10_goesBack_1 : decode cX10_goesBack 1 = .ok (.invokevirtual 265, 3) := by decide +kernel
theorem dX10_goesBack_4 : decode cX10_goesBack 4 = .ok (.aload_n 0, 1) := by decide +kernel
theorem dX10_goesBack_5 : decode cX10_goesBack 5 = .ok (.sipush 130, 3) := by decide +kernel
theorem dX10_goesBack_8 : decode cX10_goesBack 8 = .ok (.iconst 1, 1) := by decide +kernel
theorem dX10_goesBack_9 : decode cX10_goesBack 9 = .ok (.invokevirtual 118, 3) := by decide +kernel
theorem dX10_goesBack_12 : decode cX10_goesBack 12 = .ok (.aload_n 0, 1) := by decide +kernel
theorem dX10_goesBack_13 : decode cX10_goesBack 13 = .ok (.sipush 129, 3) := by decide +kernel
theorem dX10_goesBack_16 : decode cX10_goesBack 16 = .ok (.iconst 0, 1) := by decide +kernel
theorem dX10_goesBack_17 : decode cX10_goesBack 17 = .ok (.invokevirtual 118, 3) := by decide +kernel
theorem dX10_goesBack_20 : decode cX10_goesBack 20 = .ok (.aload_n 0, 1) := by decide +kernel
theorem dX10_goesBack_21 : decode cX10_goesBack 21 = .ok (.invokevirtual 122, 3) := by decide +kernel
theorem dX10_goesBack_24 : decode cX10_goesBack 24 = .ok (.return_, 1) := by decide +kernel
theorem dX10_fails_0 : decode cX10_fails 0 = .ok (.aload_n 0, 1) := by decide +kernel
theorem dX10_fails_1 : decode cX10_fails 1 = .ok (.iload_n 1, 1) := by decide +kernel
theorem dX10_fails_2 : decode cX10_fails 2 = .ok (.putfield 70, 3) := by decide +kernel
theorem dX10_fails_5 : decode cX10_fails 5 = .ok (.iconst 0, 1) := by decide +kernel
theorem dX10_fails_6 : decode cX10_fails 6 = .ok (.ireturn, 1) := by decide +kernel
theorem dX10_point_0 : decode cX10_point 0 = .ok (.aload_n 0, 1) := by decide +kernel
theorem dX10_point_1 : decode cX10_point 1 = .ok (.iconst 0, 1) := by decide +kernel
theorem dX10_point_2 : decode cX10_point 2 = .ok (.putfield 70, 3) := by decide +kernel
theorem dX10_point_5 : decode cX10_point 5 = .ok (.aload_n 0, 1) := by decide +kernel
theorem dX10_point_6 : decode cX10_point 6 = .ok (.iload_n 1, 1) := by decide +kernel
theorem dX10_point_7 : decode cX10_point 7 = .ok (.invokevirtual 203, 3) := by decide +kernel
theorem dX10_point_10 : decode cX10_point 10 = .ok (.ifCond .ne 9, 3) := by decide +kernel
theorem dX10_point_13 : decode cX10_point 13 = .ok (.aload_n 0, 1) := by decide +kernel
theorem dX10_point_14 : decode cX10_point 14 = .ok (.iconst 1, 1) := by decide +kernel
theorem dX10_point_15 : decode cX10_point 15 = .ok (.invokevirtual 274, 3) := by decide +kernel
theorem dX10_point_18 : decode cX10_point 18 = .ok (.ireturn, 1) := by decide +kernel
theorem dX10_point_19 : decode cX10_point 19 = .ok (.iload_n 2, 1) := by decide +kernel
theorem dX10_point_20 : decode cX10_point 20 = .ok (.iconst 0, 1) := by decide +kernel
theorem dX10_point_21 : decode cX10_point 21 = .ok (.iconst 3, 1) := by decide +kernel
theorem dX10_point_22 : decode cX10_point 22 = .ok (.invokestatic 138, 3) := by decide +kernel
theorem dX10_point_25 : decode cX10_point 25 = .ok (.ifCond .eq 16, 3) := by decide +kernel
theorem dX10_point_28 : decode cX10_point 28 = .ok (.aload_n 0, 1) := by decide +kernel
theorem dX10_point_29 : decode cX10_point 29 = .ok (.bipush 32, 2) := by decide +kernel
theorem dX10_point_31 : decode cX10_point 31 = .ok (.iload_n 2, 1) := by decide +kernel
theorem dX10_point_32 : decode cX10_point 32 = .ok (.imul, 1) := by decide +kernel
theorem dX10_point_33 : decode cX10_point 33 = .ok (.iload_n 1, 1) := by decide +kernel
theorem dX10_point_34 : decode cX10_point 34 = .ok (.iadd, 1) := by decide +kernel
theorem dX10_point_35 : decode cX10_point 35 = .ok (.invokevirtual 187, 3) := by decide +kernel
theorem dX10_point_38 : decode cX10_point 38 = .ok (.goto 8, 3) := by decide +kernel
theorem dX10_point_41 : decode cX10_point 41 = .ok (.aload_n 0, 1) := by decide +kernel
theorem dX10_point_42 : decode cX10_point 42 = .ok (.iconst 2, 1) := by decide +kernel
theorem dX10_point_43 : decode cX10_point 43 = .ok (.invokevirtual 274, 3) := by decide +kernel
theorem dX10_point_46 : decode cX10_point 46 = .ok (.ireturn, 1) := by decide +kernel
theorem dX10_stage_0 : decode cX10_stage 0 = .ok (.aload_n 0, 1) := by decide +kernel
theorem dX10_stage_1 : decode cX10_stage 1 = .ok (.iconst 0, 1) := by decide +kernel
theorem dX10_stage_2 : decode cX10_stage 2 = .ok (.putfield 70, 3) := by decide +kernel
theorem dX10_stage_5 : decode cX10_stage 5 = .ok (.iload_n 1, 1) := by decide +kernel
theorem dX10_stage_6 : decode cX10_stage 6 = .ok (.ifCond .lt 20, 3) := by decide +kernel
theorem dX10_stage_9 : decode cX10_stage 9 = .ok (.iload_n 1, 1) := by decide +kernel
theorem dX10_stage_10 : decode cX10_stage 10 = .ok (.aload_n 0, 1) := by decide +kernel
theorem dX10_stage_11 : decode cX10_stage 11 = .ok (.invokevirtual 216, 3) := by decide +kernel
theorem dX10_stage_14 : decode cX10_stage 14 = .ok (.if_icmp .ge 12, 3) := by decide +kernel
theorem dX10_stage_17 : decode cX10_stage 17 = .ok (.iload_n 2, 1) := by decide +kernel
theorem dX10_stage_18 : decode cX10_stage 18 = .ok (.iconst 0, 1) := by decide +kernel
theorem dX10_stage_19 : decode cX10_stage 19 = .ok (.iconst 1, 1) := by decide +kernel
theorem dX10_stage_20 : decode cX10_stage 20 = .ok (.invokestatic 138, 3) := by decide +kernel
theorem dX10_stage_23 : decode cX10_stage 23 = .ok (.ifCond .ne 5, 3) := by decide +kernel
theorem dX10_stage_26 : decode cX10_stage 26 = .ok (.iconst (-1), 1) := by decide +kernel
theorem dX10_stage_27 : decode cX10_stage 27 = .ok (.ireturn, 1) := by decide +kernel
theorem dX10_stage_28 : decode cX10_stage 28 = .ok (.iload_n 2, 1) := by decide +kernel
theorem dX10_stage_29 : decode cX10_stage 29 = .ok (.ifCond .ne 11, 3) := by decide +kernel
theorem dX10_stage_32 : decode cX10_stage 32 = .ok (.aload_n 0, 1) := by decide +kernel
theorem dX10_stage_33 : decode cX10_stage 33 = .ok (.iload_n 1, 1) := by decide +kernel
theorem dX10_stage_34 : decode cX10_stage 34 = .ok (.invokevirtual 219, 3) := by decide +kernel
theorem dX10_stage_37 : decode cX10_stage 37 = .ok (.goto 12, 3) := by decide +kernel
theorem dX10_stage_40 : decode cX10_stage 40 = .ok (.aload_n 0, 1) := by decide +kernel
theorem dX10_stage_41 : decode cX10_stage 41 = .ok (.sipush 131, 3) := by decide +kernel
theorem dX10_stage_44 : decode cX10_stage 44 = .ok (.iload_n 1, 1) := by decide +kernel
theorem dX10_stage_45 : decode cX10_stage 45 = .ok (.iadd, 1) := by decide +kernel
theorem dX10_stage_46 : decode cX10_stage 46 = .ok (.invokevirtual 187, 3) := by decide +kernel
theorem dX10_stage_49 : decode cX10_stage 49 = .ok (.ireturn, 1) := by decide +kernel
theorem dX10_beat_0 : decode cX10_beat 0 = .ok (.aload_n 0, 1) := by decide +kernel
theorem dX10_beat_1 : decode cX10_beat 1 = .ok (.iconst 0, 1) := by decide +kernel
theorem dX10_beat_2 : decode cX10_beat 2 = .ok (.putfield 70, 3) := by decide +kernel
theorem dX10_beat_5 : decode cX10_beat 5 = .ok (.aload_n 0, 1) := by decide +kernel
theorem dX10_beat_6 : decode cX10_beat 6 = .ok (.invokevirtual 268, 3) := by decide +kernel
theorem dX10_beat_9 : decode cX10_beat 9 = .ok (.ifCond .eq 6, 3) := by decide +kernel
theorem dX10_beat_12 : decode cX10_beat 12 = .ok (.bipush (-2), 2) := by decide +kernel
theorem dX10_beat_14 : decode cX10_beat 14 = .ok (.ireturn, 1) := by decide +kernel
theorem dX10_beat_15 : decode cX10_beat 15 = .ok (.aload_n 0, 1) := by decide +kernel
theorem dX10_beat_16 : decode cX10_beat 16 = .ok (.invokevirtual 277, 3) := by decide +kernel
theorem dX10_beat_19 : decode cX10_beat 19 = .ok (.aload_n 0, 1) := by decide +kernel
theorem dX10_beat_20 : decode cX10_beat 20 = .ok (.invokevirtual 271, 3) := by decide +kernel
theorem dX10_beat_23 : decode cX10_beat 23 = .ok (.ireturn, 1) := by decide +kernel
theorem dX10_beatAll_0 : decode cX10_beatAll 0 = .ok (.aload_n 0, 1) := by decide +kernel
theorem dX10_beatAll_1 : decode cX10_beatAll 1 = .ok (.iconst 0, 1) := by decide +kernel
theorem dX10_beatAll_2 : decode cX10_beatAll 2 = .ok (.putfield 70, 3) := by decide +kernel
theorem dX10_beatAll_5 : decode cX10_beatAll 5 = .ok (.aload_n 0, 1) := by decide +kernel
theorem dX10_beatAll_6 : decode cX10_beatAll 6 = .ok (.invokevirtual 280, 3) := by decide +kernel
theorem dX10_beatAll_9 : decode cX10_beatAll 9 = .ok (.aload_n 0, 1) := by decide +kernel
theorem dX10_beatAll_10 : decode cX10_beatAll 10 = .ok (.iconst 0, 1) := by decide +kernel
theorem dX10_beatAll_11 : decode cX10_beatAll 11 = .ok (.putfield 129, 3) := by decide +kernel
theorem dX10_beatAll_14 : decode cX10_beatAll 14 = .ok (.aload_n 0, 1) := by decide +kernel
theorem dX10_beatAll_15 : decode cX10_beatAll 15 = .ok (.sipush 128, 3) := by decide +kernel
theorem dX10_beatAll_18 : decode cX10_beatAll 18 = .ok (.invokevirtual 187, 3) := by decide +kernel
theorem dX10_beatAll_21 : decode cX10_beatAll 21 = .ok (.ireturn, 1) := by decide +kernel
theorem dX10_turnBack_0 : decode cX10_turnBack 0 = .ok (.aload_n 0, 1) := by decide +kernel
theorem dX10_turnBack_1 : decode cX10_turnBack 1 = .ok (.iconst 0, 1) := by decide +kernel
theorem dX10_turnBack_2 : decode cX10_turnBack 2 = .ok (.putfield 70, 3) := by decide +kernel
theorem dX10_turnBack_5 : decode cX10_turnBack 5 = .ok (.aload_n 0, 1) := by decide +kernel
theorem dX10_turnBack_6 : decode cX10_turnBack 6 = .ok (.invokevirtual 283, 3) := by decide +kernel
theorem dX10_turnBack_9 : decode cX10_turnBack 9 = .ok (.ifCond .ne 5, 3) := by decide +kernel
theorem dX10_turnBack_12 : decode cX10_turnBack 12 = .ok (.iconst 0, 1) := by decide +kernel
theorem dX10_turnBack_13 : decode cX10_turnBack 13 = .ok (.ireturn, 1) := by decide +kernel
theorem dX10_turnBack_14 : decode cX10_turnBack 14 = .ok (.aload_n 0, 1) := by decide +kernel
theorem dX10_turnBack_15 : decode cX10_turnBack 15 = .ok (.invokevirtual 277, 3) := by decide +kernel
theorem dX10_turnBack_18 : decode cX10_turnBack 18 = .ok (.aload_n 0, 1) := by decide +kernel
theorem dX10_turnBack_19 : decode cX10_turnBack 19 = .ok (.invokevirtual 286, 3) := by decide +kernel
theorem dX10_turnBack_22 : decode cX10_turnBack 22 = .ok (.iconst 1, 1) := by decide +kernel
theorem dX10_turnBack_23 : decode cX10_turnBack 23 = .ok (.ireturn, 1) := by decide +kernel
theorem dX10_ahead_0 : decode cX10_ahead 0 = .ok (.aload_n 0, 1) := by decide +kernel
theorem dX10_ahead_1 : decode cX10_ahead 1 = .ok (.iconst 0, 1) := by decide +kernel
theorem dX10_ahead_2 : decode cX10_ahead 2 = .ok (.putfield 70, 3) := by decide +kernel
theorem dX10_ahead_5 : decode cX10_ahead 5 = .ok (.iload_n 1, 1) := by decide +kernel
theorem dX10_ahead_6 : decode cX10_ahead 6 = .ok (.iconst 0, 1) := by decide +kernel
theorem dX10_ahead_7 : decode cX10_ahead 7 = .ok (.iconst 5, 1) := by decide +kernel
theorem dX10_ahead_8 : decode cX10_ahead 8 = .ok (.invokestatic 138, 3) := by decide +kernel
theorem dX10_ahead_11 : decode cX10_ahead 11 = .ok (.ifCond .eq 12, 3) := by decide +kernel
theorem dX10_ahead_14 : decode cX10_ahead 14 = .ok (.iload_n 2, 1) := by decide +kernel
theorem dX10_ahead_15 : decode cX10_ahead 15 = .ok (.iconst 0, 1) := by decide +kernel
theorem dX10_ahead_16 : decode cX10_ahead 16 = .ok (.iconst 2, 1) := by decide +kernel
theorem dX10_ahead_17 : decode cX10_ahead 17 = .ok (.invokestatic 138, 3) := by decide +kernel
theorem dX10_ahead_20 : decode cX10_ahead 20 = .ok (.ifCond .ne 5, 3) := by decide +kernel
theorem dX10_ahead_23 : decode cX10_ahead 23 = .ok (.iconst (-1), 1) := by decide +kernel
theorem dX10_ahead_24 : decode cX10_ahead 24 = .ok (.ireturn, 1) := by decide +kernel
theorem dX10_ahead_25 : decode cX10_ahead 25 = .ok (.aload_n 0, 1) := by decide +kernel
theorem dX10_ahead_26 : decode cX10_ahead 26 = .ok (.invokevirtual 184, 3) := by decide +kernel
theorem dX10_ahead_29 : decode cX10_ahead 29 = .ok (.iconst 0, 1) := by decide +kernel
theorem dX10_ahead_30 : decode cX10_ahead 30 = .ok (.istore_n 3, 1) := by decide +kernel
theorem dX10_ahead_31 : decode cX10_ahead 31 = .ok (.iconst 0, 1) := by decide +kernel
theorem dX10_ahead_32 : decode cX10_ahead 32 = .ok (.istore 4, 2) := by decide +kernel
theorem dX10_ahead_34 : decode cX10_ahead 34 = .ok (.iload 4, 2) := by decide +kernel
theorem dX10_ahead_36 : decode cX10_ahead 36 = .ok (.iload_n 1, 1) := by decide +kernel
theorem dX10_ahead_37 : decode cX10_ahead 37 = .ok (.if_icmp .ge 23, 3) := by decide +kernel
theorem dX10_ahead_40 : decode cX10_ahead 40 = .ok (.aload_n 0, 1) := by decide +kernel
theorem dX10_ahead_41 : decode cX10_ahead 41 = .ok (.invokevirtual 268, 3) := by decide +kernel
theorem dX10_ahead_44 : decode cX10_ahead 44 = .ok (.ifCond .ne 16, 3) := by decide +kernel
theorem dX10_ahead_47 : decode cX10_ahead 47 = .ok (.iload_n 3, 1) := by decide +kernel
theorem dX10_ahead_48 : decode cX10_ahead 48 = .ok (.aload_n 0, 1) := by decide +kernel
theorem dX10_ahead_49 : decode cX10_ahead 49 = .ok (.invokevirtual 271, 3) := by decide +kernel
theorem dX10_ahead_52 : decode cX10_ahead 52 = .ok (.iadd, 1) := by decide +kernel
theorem dX10_ahead_53 : decode cX10_ahead 53 = .ok (.istore_n 3, 1) := by decide +kernel
theorem dX10_ahead_54 : decode cX10_ahead 54 = .ok (.iinc 4 1, 3) := by decide +kernel
theorem dX10_ahead_57 : decode cX10_ahead 57 = .ok (.goto (-23), 3) := by decide +kernel
theorem dX10_ahead_60 : decode cX10_ahead 60 = .ok (.iload_n 2, 1) := by decide +kernel
theorem dX10_ahead_61 : decode cX10_ahead 61 = .ok (.ifCond .ne 13, 3) := by decide +kernel
theorem dX10_ahead_64 : decode cX10_ahead 64 = .ok (.aload_n 0, 1) := by decide +kernel
theorem dX10_ahead_65 : decode cX10_ahead 65 = .ok (.sipush 128, 3) := by decide +kernel
theorem dX10_ahead_68 : decode cX10_ahead 68 = .ok (.invokevirtual 187, 3) := by decide +kernel
theorem dX10_ahead_71 : decode cX10_ahead 71 = .ok (.goto 16, 3) := by decide +kernel
theorem dX10_ahead_74 : decode cX10_ahead 74 = .ok (.iload_n 2, 1) := by decide +kernel
theorem dX10_ahead_75 : decode cX10_ahead 75 = .ok (.iconst 1, 1) := by decide +kernel
theorem dX10_ahead_76 : decode cX10_ahead 76 = .ok (.if_icmp .ne 10, 3) := by decide +kernel
theorem dX10_ahead_79 : decode cX10_ahead 79 = .ok (.aload_n 0, 1) := by decide +kernel
theorem dX10_ahead_80 : decode cX10_ahead 80 = .ok (.invokevirtual 237, 3) := by decide +kernel
theorem dX10_ahead_83 : decode cX10_ahead 83 = .ok (.goto 4, 3) := by decide +kernel
theorem dX10_ahead_86 : decode cX10_ahead 86 = .ok (.iload_n 3, 1) := by decide +kernel
theorem dX10_ahead_87 : decode cX10_ahead 87 = .ok (.istore 4, 2) := by decide +kernel
theorem dX10_ahead_89 : decode cX10_ahead 89 = .ok (.aload_n 0, 1) := by decide +kernel
theorem dX10_ahead_90 : decode cX10_ahead 90 = .ok (.invokevirtual 289, 3) := by decide +kernel
theorem dX10_ahead_93 : decode cX10_ahead 93 = .ok (.iload 4, 2) := by decide +kernel
theorem dX10_ahead_95 : decode cX10_ahead 95 = .ok (.ireturn, 1) := by decide +kernel
theorem dX10_isValue_0 : decode cX10_isValue 0 = .ok (.iload_n 1, 1) := by decide +kernel
theorem dX10_isValue_1 : decode cX10_isValue 1 = .ok (.aload_n 0, 1) := by decide +kernel
theorem dX10_isValue_2 : decode cX10_isValue 2 = .ok (.getfield 175, 3) := by decide +kernel
theorem dX10_isValue_5 : decode cX10_isValue 5 = .ok (.ineg, 1) := by decide +kernel
theorem dX10_isValue_6 : decode cX10_isValue 6 = .ok (.if_icmp .lt 15, 3) := by decide +kernel
theorem dX10_isValue_9 : decode cX10_isValue 9 = .ok (.iload_n 1, 1) := by decide +kernel
theorem dX10_isValue_10 : decode cX10_isValue 10 = .ok (.aload_n 0, 1) := by decide +kernel
theorem dX10_isValue_11 : decode cX10_isValue 11 = .ok (.getfield 175, 3) := by decide +kernel
theorem dX10_isValue_14 : decode cX10_isValue 14 = .ok (.if_icmp .gt 7, 3) := by decide +kernel
theorem dX10_isValue_17 : decode cX10_isValue 17 = .ok (.iconst 1, 1) := by decide +kernel
theorem dX10_isValue_18 : decode cX10_isValue 18 = .ok (.goto 4, 3) := by decide +kernel
theorem dX10_isValue_21 : decode cX10_isValue 21 = .ok (.iconst 0, 1) := by decide +kernel
theorem dX10_isValue_22 : decode cX10_isValue 22 = .ok (.ireturn, 1) := by decide +kernel
theorem dX10_set_0 : decode cX10_set 0 = .ok (.aload_n 0, 1) := by decide +kernel
theorem dX10_set_1 : decode cX10_set 1 = .ok (.iconst 0, 1) := by decide +kernel
theorem dX10_set_2 : decode cX10_set 2 = .ok (.putfield 70, 3) := by decide +kernel
theorem dX10_set_5 : decode cX10_set 5 = .ok (.aload_n 0, 1) := by decide +kernel
theorem dX10_set_6 : decode cX10_set 6 = .ok (.iload_n 1, 1) := by decide +kernel
theorem dX10_set_7 : decode cX10_set 7 = .ok (.invokevirtual 203, 3) := by decide +kernel
theorem dX10_set_10 : decode cX10_set 10 = .ok (.ifCond .eq 26, 3) := by decide +kernel
theorem dX10_set_13 : decode cX10_set 13 = .ok (.aload_n 0, 1) := by decide +kernel
theorem dX10_set_14 : decode cX10_set 14 = .ok (.iload_n 2, 1) := by decide +kernel
theorem dX10_set_15 : decode cX10_set 15 = .ok (.invokevirtual 292, 3) := by decide +kernel
theorem dX10_set_18 : decode cX10_set 18 = .ok (.ifCond .eq 18, 3) := by decide +kernel
theorem dX10_set_21 : decode cX10_set 21 = .ok (.aload_n 0, 1) := by decide +kernel
theorem dX10_set_22 : decode cX10_set 22 = .ok (.iload_n 3, 1) := by decide +kernel
theorem dX10_set_23 : decode cX10_set 23 = .ok (.invokevirtual 292, 3) := by decide +kernel
theorem dX10_set_26 : decode cX10_set 26 = .ok (.ifCond .eq 10, 3) := by decide +kernel
theorem dX10_set_29 : decode cX10_set 29 = .ok (.aload_n 0, 1) := by decide +kernel
theorem dX10_set_30 : decode cX10_set 30 = .ok (.invokevirtual 295, 3) := by decide +kernel
theorem dX10_set_33 : decode cX10_set 33 = .ok (.ifCond .ne 5, 3) := by decide +kernel
theorem dX10_set_36 : decode cX10_set 36 = .ok (.iconst 0, 1) := by decide +kernel
theorem dX10_set_37 : decode cX10_set 37 = .ok (.ireturn, 1) := by decide +kernel
theorem dX10_set_38 : decode cX10_set 38 = .ok (.aload_n 0, 1) := by decide +kernel
theorem dX10_set_39 : decode cX10_set 39 = .ok (.invokevirtual 277, 3) := by decide +kernel
theorem dX10_set_42 : decode cX10_set 42 = .ok (.aload_n 0, 1) := by decide +kernel
theorem dX10_set_43 : decode cX10_set 43 = .ok (.iload_n 1, 1) := by decide +kernel
theorem dX10_set_44 : decode cX10_set 44 = .ok (.iload_n 2, 1) := by decide +kernel
theorem dX10_set_45 : decode cX10_set 45 = .ok (.invokevirtual 118, 3) := by decide +kernel
theorem dX10_set_48 : decode cX10_set 48 = .ok (.aload_n 0, 1) := by decide +kernel
theorem dX10_set_49 : decode cX10_set 49 = .ok (.bipush 32, 2) := by decide +kernel
theorem dX10_set_51 : decode cX10_set 51 = .ok (.iload_n 1, 1) := by decide +kernel
theorem dX10_set_52 : decode cX10_set 52 = .ok (.iadd, 1) := by decide +kernel
theorem dX10_set_53 : decode cX10_set 53 = .ok (.iload_n 3, 1) := by decide +kernel
theorem dX10_set_54 : decode cX10_set 54 = .ok (.invokevirtual 118, 3) := by decide +kernel
theorem dX10_set_57 : decode cX10_set 57 = .ok (.aload_n 0, 1) := by decide +kernel
theorem dX10_set_58 : decode cX10_set 58 = .ok (.invokevirtual 298, 3) := by decide +kernel
theorem dX10_set_61 : decode cX10_set 61 = .ok (.iconst 1, 1) := by decide +kernel
theorem dX10_set_62 : decode cX10_set 62 = .ok (.ireturn, 1) := by decide +kernel
theorem dX10_asTheyAre_0 : decode cX10_asTheyAre 0 = .ok (.iconst 0, 1) := by decide +kernel
theorem dX10_asTheyAre_1 : decode cX10_asTheyAre 1 = .ok (.istore_n 1, 1) := by decide +kernel
theorem dX10_asTheyAre_2 : decode cX10_asTheyAre 2 = .ok (.iload_n 1, 1) := by decide +kernel
theorem dX10_asTheyAre_3 : decode cX10_asTheyAre 3 = .ok (.bipush 64, 2) := by decide +kernel
theorem dX10_asTheyAre_5 : decode cX10_asTheyAre 5 = .ok (.if_icmp .ge 22, 3) := by decide +kernel
theorem dX10_asTheyAre_8 : decode cX10_asTheyAre 8 = .ok (.aload_n 0, 1) := by decide +kernel
theorem dX10_asTheyAre_9 : decode cX10_asTheyAre 9 = .ok (.bipush 64, 2) := by decide +kernel
theorem dX10_asTheyAre_11 : decode cX10_asTheyAre 11 = .ok (.iload_n 1, 1) := by decide +kernel
theorem dX10_asTheyAre_12 : decode cX10_asTheyAre 12 = .ok (.iadd, 1) := by decide +kernel
theorem dX10_asTheyAre_13 : decode cX10_asTheyAre 13 = .ok (.aload_n 0, 1) := by decide +kernel
theorem dX10_asTheyAre_14 : decode cX10_asTheyAre 14 = .ok (.iload_n 1, 1) := by decide +kernel
theorem dX10_asTheyAre_15 : decode cX10_asTheyAre 15 = .ok (.invokevirtual 187, 3) := by decide +kernel
theorem dX10_asTheyAre_18 : decode cX10_asTheyAre 18 = .ok (.invokevirtual 118, 3) := by decide +kernel
theorem dX10_asTheyAre_21 : decode cX10_asTheyAre 21 = .ok (.iinc 1 1, 3) := by decide +kernel
theorem dX10_asTheyAre_24 : decode cX10_asTheyAre 24 = .ok (.goto (-22), 3) := by decide +kernel
theorem dX10_asTheyAre_27 : decode cX10_asTheyAre 27 = .ok (.return_, 1) := by decide +kernel
theorem dX10_taper_0 : decode cX10_taper 0 = .ok (.aload_n 0, 1) := by decide +kernel
theorem dX10_taper_1 : decode cX10_taper 1 = .ok (.iconst 0, 1) := by decide +kernel
theorem dX10_taper_2 : decode cX10_taper 2 = .ok (.putfield 70, 3) := by decide +kernel
theorem dX10_taper_5 : decode cX10_taper 5 = .ok (.aload_n 0, 1) := by decide +kernel
theorem dX10_taper_6 : decode cX10_taper 6 = .ok (.invokevirtual 295, 3) := by decide +kernel
theorem dX10_taper_9 : decode cX10_taper 9 = .ok (.ifCond .ne 5, 3) := by decide +kernel
theorem dX10_taper_12 : decode cX10_taper 12 = .ok (.iconst 0, 1) := by decide +kernel
theorem dX10_taper_13 : decode cX10_taper 13 = .ok (.ireturn, 1) := by decide +kernel
theorem dX10_taper_14 : decode cX10_taper 14 = .ok (.aload_n 0, 1) := by decide +kernel
theorem dX10_taper_15 : decode cX10_taper 15 = .ok (.invokevirtual 277, 3) := by decide +kernel
theorem dX10_taper_18 : decode cX10_taper 18 = .ok (.iconst 0, 1) := by decide +kernel
theorem dX10_taper_19 : decode cX10_taper 19 = .ok (.istore_n 1, 1) := by decide +kernel
theorem dX10_taper_20 : decode cX10_taper 20 = .ok (.iload_n 1, 1) := by decide +kernel
theorem dX10_taper_21 : decode cX10_taper 21 = .ok (.aload_n 0, 1) := by decide +kernel
theorem dX10_taper_22 : decode cX10_taper 22 = .ok (.invokevirtual 196, 3) := by decide +kernel
theorem dX10_taper_25 : decode cX10_taper 25 = .ok (.if_icmp .ge 66, 3) := by decide +kernel
theorem dX10_taper_28 : decode cX10_taper 28 = .ok (.ldc2_w 301, 3) := by decide +kernel
theorem dX10_taper_31 : decode cX10_taper 31 = .ok (.aload_n 0, 1) := by decide +kernel
theorem dX10_taper_32 : decode cX10_taper 32 = .ok (.iload_n 1, 1) := by decide +kernel
theorem dX10_taper_33 : decode cX10_taper 33 = .ok (.invokevirtual 207, 3) := by decide +kernel
theorem dX10_taper_36 : decode cX10_taper 36 = .ok (.i2l, 1) := by decide +kernel
theorem dX10_taper_37 : decode cX10_taper 37 = .ok (.lsub, 1) := by decide +kernel
theorem dX10_taper_38 : decode cX10_taper 38 = .ok (.lstore_n 2, 1) := by decide +kernel
theorem dX10_taper_39 : decode cX10_taper 39 = .ok (.aload_n 0, 1) := by decide +kernel
theorem dX10_taper_40 : decode cX10_taper 40 = .ok (.iload_n 1, 1) := by decide +kernel
theorem dX10_taper_41 : decode cX10_taper 41 = .ok (.aload_n 0, 1) := by decide +kernel
theorem dX10_taper_42 : decode cX10_taper 42 = .ok (.aload_n 0, 1) := by decide +kernel
theorem dX10_taper_43 : decode cX10_taper 43 = .ok (.iload_n 1, 1) := by decide +kernel
theorem dX10_taper_44 : decode cX10_taper 44 = .ok (.invokevirtual 187, 3) := by decide +kernel
theorem dX10_taper_47 : decode cX10_taper 47 = .ok (.i2l, 1) := by decide +kernel
theorem dX10_taper_48 : decode cX10_taper 48 = .ok (.lload_n 2, 1) := by decide +kernel
theorem dX10_taper_49 : decode cX10_taper 49 = .ok (.lmul, 1) := by decide +kernel
theorem dX10_taper_50 : decode cX10_taper 50 = .ok (.bipush 15, 2) := by decide +kernel
theorem dX10_taper_52 : decode cX10_taper 52 = .ok (.invokevirtual 240, 3) := by decide +kernel
theorem dX10_taper_55 : decode cX10_taper 55 = .ok (.l2i, 1) := by decide +kernel
theorem dX10_taper_56 : decode cX10_taper 56 = .ok (.invokevirtual 118, 3) := by decide +kernel
theorem dX10_taper_59 : decode cX10_taper 59 = .ok (.aload_n 0, 1) := by decide +kernel
theorem dX10_taper_60 : decode cX10_taper 60 = .ok (.bipush 32, 2) := by decide +kernel
theorem dX10_taper_62 : decode cX10_taper 62 = .ok (.iload_n 1, 1) := by decide +kernel
theorem dX10_taper_63 : decode cX10_taper 63 = .ok (.iadd, 1) := by decide +kernel
theorem dX10_taper_64 : decode cX10_taper 64 = .ok (.aload_n 0, 1) := by decide +kernel
theorem dX10_taper_65 : decode cX10_taper 65 = .ok (.aload_n 0, 1) := by decide +kernel
theorem dX10_taper_66 : decode cX10_taper 66 = .ok (.bipush 32, 2) := by decide +kernel
theorem dX10_taper_68 : decode cX10_taper 68 = .ok (.iload_n 1, 1) := by decide +kernel
theorem dX10_taper_69 : decode cX10_taper 69 = .ok (.iadd, 1) := by decide +kernel
theorem dX10_taper_70 : decode cX10_taper 70 = .ok (.invokevirtual 187, 3) := by decide +kernel
theorem dX10_taper_73 : decode cX10_taper 73 = .ok (.i2l, 1) := by decide +kernel
theorem dX10_taper_74 : decode cX10_taper 74 = .ok (.lload_n 2, 1) := by decide +kernel
theorem dX10_taper_75 : decode cX10_taper 75 = .ok (.lmul, 1) := by decide +kernel
theorem dX10_taper_76 : decode cX10_taper 76 = .ok (.bipush 15, 2) := by decide +kernel
theorem dX10_taper_78 : decode cX10_taper 78 = .ok (.invokevirtual 240, 3) := by decide +kernel
theorem dX10_taper_81 : decode cX10_taper 81 = .ok (.l2i, 1) := by decide +kernel
theorem dX10_taper_82 : decode cX10_taper 82 = .ok (.invokevirtual 118, 3) := by decide +kernel
theorem dX10_taper_85 : decode cX10_taper 85 = .ok (.iinc 1 1, 3) := by decide +kernel
theorem dX10_taper_88 : decode cX10_taper 88 = .ok (.goto (-68), 3) := by decide +kernel
theorem dX10_taper_91 : decode cX10_taper 91 = .ok (.aload_n 0, 1) := by decide +kernel
theorem dX10_taper_92 : decode cX10_taper 92 = .ok (.invokevirtual 298, 3) := by decide +kernel
theorem dX10_taper_95 : decode cX10_taper 95 = .ok (.iconst 1, 1) := by decide +kernel
theorem dX10_taper_96 : decode cX10_taper 96 = .ok (.ireturn, 1) := by decide +kernel
theorem dX10_moves_0 : decode cX10_moves 0 = .ok (.aload_n 0, 1) := by decide +kernel
theorem dX10_moves_1 : decode cX10_moves 1 = .ok (.invokevirtual 277, 3) := by decide +kernel
theorem dX10_moves_4 : decode cX10_moves 4 = .ok (.iconst 0, 1) := by decide +kernel
theorem dX10_moves_5 : decode cX10_moves 5 = .ok (.istore_n 3, 1) := by decide +kernel
theorem dX10_moves_6 : decode cX10_moves 6 = .ok (.iload_n 3, 1) := by decide +kernel
theorem dX10_moves_7 : decode cX10_moves 7 = .ok (.aload_n 0, 1) := by decide +kernel
theorem dX10_moves_8 : decode cX10_moves 8 = .ok (.invokevirtual 196, 3) := by decide +kernel
theorem dX10_moves_11 : decode cX10_moves 11 = .ok (.if_icmp .ge 53, 3) := by decide +kernel
theorem dX10_moves_14 : decode cX10_moves 14 = .ok (.iload_n 1, 1) := by decide +kernel
theorem dX10_moves_15 : decode cX10_moves 15 = .ok (.iload_n 2, 1) := by decide +kernel
theorem dX10_moves_16 : decode cX10_moves 16 = .ok (.iload_n 3, 1) := by decide +kernel
theorem dX10_moves_17 : decode cX10_moves 17 = .ok (.imul, 1) := by decide +kernel
theorem dX10_moves_18 : decode cX10_moves 18 = .ok (.iadd, 1) := by decide +kernel
theorem dX10_moves_19 : decode cX10_moves 19 = .ok (.aload_n 0, 1) := by decide +kernel
theorem dX10_moves_20 : decode cX10_moves 20 = .ok (.invokevirtual 196, 3) := by decide +kernel
theorem dX10_moves_23 : decode cX10_moves 23 = .ok (.iadd, 1) := by decide +kernel
theorem dX10_moves_24 : decode cX10_moves 24 = .ok (.aload_n 0, 1) := by decide +kernel
theorem dX10_moves_25 : decode cX10_moves 25 = .ok (.invokevirtual 196, 3) := by decide +kernel
theorem dX10_moves_28 : decode cX10_moves 28 = .ok (.irem, 1) := by decide +kernel
theorem dX10_moves_29 : decode cX10_moves 29 = .ok (.istore 4, 2) := by decide +kernel
theorem dX10_moves_31 : decode cX10_moves 31 = .ok (.aload_n 0, 1) := by decide +kernel
theorem dX10_moves_32 : decode cX10_moves 32 = .ok (.getfield 42, 3) := by decide +kernel
theorem dX10_moves_35 : decode cX10_moves 35 = .ok (.iload 4, 2) := by decide +kernel
theorem dX10_moves_37 : decode cX10_moves 37 = .ok (.aload_n 0, 1) := by decide +kernel
theorem dX10_moves_38 : decode cX10_moves 38 = .ok (.iload_n 3, 1) := by decide +kernel
theorem dX10_moves_39 : decode cX10_moves 39 = .ok (.invokevirtual 187, 3) := by decide +kernel
theorem dX10_moves_42 : decode cX10_moves 42 = .ok (.iastore, 1) := by decide +kernel
theorem dX10_moves_43 : decode cX10_moves 43 = .ok (.aload_n 0, 1) := by decide +kernel
theorem dX10_moves_44 : decode cX10_moves 44 = .ok (.getfield 45, 3) := by decide +kernel
theorem dX10_moves_47 : decode cX10_moves 47 = .ok (.iload 4, 2) := by decide +kernel
theorem dX10_moves_49 : decode cX10_moves 49 = .ok (.aload_n 0, 1) := by decide +kernel
theorem dX10_moves_50 : decode cX10_moves 50 = .ok (.bipush 32, 2) := by decide +kernel
theorem dX10_moves_52 : decode cX10_moves 52 = .ok (.iload_n 3, 1) := by decide +kernel
theorem dX10_moves_53 : decode cX10_moves 53 = .ok (.iadd, 1) := by decide +kernel
theorem dX10_moves_54 : decode cX10_moves 54 = .ok (.invokevirtual 187, 3) := by decide +kernel
theorem dX10_moves_57 : decode cX10_moves 57 = .ok (.iastore, 1) := by decide +kernel
theorem dX10_moves_58 : decode cX10_moves 58 = .ok (.iinc 3 1, 3) := by decide +kernel
theorem dX10_moves_61 : decode cX10_moves 61 = .ok (.goto (-55), 3) := by decide +kernel
theorem dX10_moves_64 : decode cX10_moves 64 = .ok (.aload_n 0, 1) := by decide +kernel
theorem dX10_moves_65 : decode cX10_moves 65 = .ok (.invokevirtual 234, 3) := by decide +kernel
theorem dX10_moves_68 : decode cX10_moves 68 = .ok (.aload_n 0, 1) := by decide +kernel
theorem dX10_moves_69 : decode cX10_moves 69 = .ok (.invokevirtual 298, 3) := by decide +kernel
theorem dX10_moves_72 : decode cX10_moves 72 = .ok (.return_, 1) := by decide +kernel
theorem dX10_shift_0 : decode cX10_shift 0 = .ok (.aload_n 0, 1) := by decide +kernel
theorem dX10_shift_1 : decode cX10_shift 1 = .ok (.iconst 0, 1) := by decide +kernel
theorem dX10_shift_2 : decode cX10_shift 2 = .ok (.putfield 70, 3) := by decide +kernel
theorem dX10_shift_5 : decode cX10_shift 5 = .ok (.iload_n 1, 1) := by decide +kernel
theorem dX10_shift_6 : decode cX10_shift 6 = .ok (.iconst 1, 1) := by decide +kernel
theorem dX10_shift_7 : decode cX10_shift 7 = .ok (.bipush 31, 2) := by decide +kernel
theorem dX10_shift_9 : decode cX10_shift 9 = .ok (.invokestatic 138, 3) := by decide +kernel
theorem dX10_shift_12 : decode cX10_shift 12 = .ok (.ifCond .eq 10, 3) := by decide +kernel
theorem dX10_shift_15 : decode cX10_shift 15 = .ok (.aload_n 0, 1) := by decide +kernel
theorem dX10_shift_16 : decode cX10_shift 16 = .ok (.invokevirtual 295, 3) := by decide +kernel
theorem dX10_shift_19 : decode cX10_shift 19 = .ok (.ifCond .ne 5, 3) := by decide +kernel
theorem dX10_shift_22 : decode cX10_shift 22 = .ok (.iconst 0, 1) := by decide +kernel
theorem dX10_shift_23 : decode cX10_shift 23 = .ok (.ireturn, 1) := by decide +kernel
theorem dX10_shift_24 : decode cX10_shift 24 = .ok (.aload_n 0, 1) := by decide +kernel
theorem dX10_shift_25 : decode cX10_shift 25 = .ok (.iload_n 1, 1) := by decide +kernel
theorem dX10_shift_26 : decode cX10_shift 26 = .ok (.iconst 1, 1) := by decide +kernel
theorem dX10_shift_27 : decode cX10_shift 27 = .ok (.invokevirtual 303, 3) := by decide +kernel
theorem dX10_shift_30 : decode cX10_shift 30 = .ok (.iconst 1, 1) := by decide +kernel
theorem dX10_shift_31 : decode cX10_shift 31 = .ok (.ireturn, 1) := by decide +kernel
theorem dX10_turnRound_0 : decode cX10_turnRound 0 = .ok (.aload_n 0, 1) := by decide +kernel
theorem dX10_turnRound_1 : decode cX10_turnRound 1 = .ok (.iconst 0, 1) := by decide +kernel
theorem dX10_turnRound_2 : decode cX10_turnRound 2 = .ok (.putfield 70, 3) := by decide +kernel
theorem dX10_turnRound_5 : decode cX10_turnRound 5 = .ok (.aload_n 0, 1) := by decide +kernel
theorem dX10_turnRound_6 : decode cX10_turnRound 6 = .ok (.invokevirtual 295, 3) := by decide +kernel
theorem dX10_turnRound_9 : decode cX10_turnRound 9 = .ok (.ifCond .ne 5, 3) := by decide +kernel
theorem dX10_turnRound_12 : decode cX10_turnRound 12 = .ok (.iconst 0, 1) := by decide +kernel
theorem dX10_turnRound_13 : decode cX10_turnRound 13 = .ok (.ireturn, 1) := by decide +kernel
theorem dX10_turnRound_14 : decode cX10_turnRound 14 = .ok (.aload_n 0, 1) := by decide +kernel
theorem dX10_turnRound_15 : decode cX10_turnRound 15 = .ok (.iconst 0, 1) := by decide +kernel
theorem dX10_turnRound_16 : decode cX10_turnRound 16 = .ok (.iconst (-1), 1) := by decide +kernel
theorem dX10_turnRound_17 : decode cX10_turnRound 17 = .ok (.invokevirtual 303, 3) := by decide +kernel
theorem dX10_turnRound_20 : decode cX10_turnRound 20 = .ok (.iconst 1, 1) := by decide +kernel
theorem dX10_turnRound_21 : decode cX10_turnRound 21 = .ok (.ireturn, 1) := by decide +kernel
theorem dX10_louder_0 : decode cX10_louder 0 = .ok (.aload_n 0, 1) := by decide +kernel
theorem dX10_louder_1 : decode cX10_louder 1 = .ok (.iconst 0, 1) := by decide +kernel
theorem dX10_louder_2 : decode cX10_louder 2 = .ok (.putfield 70, 3) := by decide +kernel
theorem dX10_louder_5 : decode cX10_louder 5 = .ok (.iload_n 1, 1) := by decide +kernel
theorem dX10_louder_6 : decode cX10_louder 6 = .ok (.iconst 2, 1) := by decide +kernel
theorem dX10_louder_7 : decode cX10_louder 7 = .ok (.bipush 9, 2) := by decide +kernel
theorem dX10_louder_9 : decode cX10_louder 9 = .ok (.invokestatic 138, 3) := by decide +kernel
theorem dX10_louder_12 : decode cX10_louder 12 = .ok (.ifCond .eq 23, 3) := by decide +kernel
theorem dX10_louder_15 : decode cX10_louder 15 = .ok (.aload_n 0, 1) := by decide +kernel
theorem dX10_louder_16 : decode cX10_louder 16 = .ok (.invokevirtual 295, 3) := by decide +kernel
theorem dX10_louder_19 : decode cX10_louder 19 = .ok (.ifCond .eq 16, 3) := by decide +kernel
theorem dX10_louder_22 : decode cX10_louder 22 = .ok (.aload_n 0, 1) := by decide +kernel
theorem dX10_louder_23 : decode cX10_louder 23 = .ok (.invokevirtual 237, 3) := by decide +kernel
theorem dX10_louder_26 : decode cX10_louder 26 = .ok (.iload_n 1, 1) := by decide +kernel
theorem dX10_louder_27 : decode cX10_louder 27 = .ok (.imul, 1) := by decide +kernel
theorem dX10_louder_28 : decode cX10_louder 28 = .ok (.aload_n 0, 1) := by decide +kernel
theorem dX10_louder_29 : decode cX10_louder 29 = .ok (.getfield 175, 3) := by decide +kernel
theorem dX10_louder_32 : decode cX10_louder 32 = .ok (.if_icmp .le 5, 3) := by decide +kernel
theorem dX10_louder_35 : decode cX10_louder 35 = .ok (.iconst 0, 1) := by decide +kernel
theorem dX10_louder_36 : decode cX10_louder 36 = .ok (.ireturn, 1) := by decide +kernel
theorem dX10_louder_37 : decode cX10_louder 37 = .ok (.aload_n 0, 1) := by decide +kernel
theorem dX10_louder_38 : decode cX10_louder 38 = .ok (.invokevirtual 277, 3) := by decide +kernel
theorem dX10_louder_41 : decode cX10_louder 41 = .ok (.iconst 0, 1) := by decide +kernel
theorem dX10_louder_42 : decode cX10_louder 42 = .ok (.istore_n 2, 1) := by decide +kernel
theorem dX10_louder_43 : decode cX10_louder 43 = .ok (.iload_n 2, 1) := by decide +kernel
theorem dX10_louder_44 : decode cX10_louder 44 = .ok (.bipush 64, 2) := by decide +kernel
theorem dX10_louder_46 : decode cX10_louder 46 = .ok (.if_icmp .ge 21, 3) := by decide +kernel
theorem dX10_louder_49 : decode cX10_louder 49 = .ok (.aload_n 0, 1) := by decide +kernel
theorem dX10_louder_50 : decode cX10_louder 50 = .ok (.iload_n 2, 1) := by decide +kernel
theorem dX10_louder_51 : decode cX10_louder 51 = .ok (.aload_n 0, 1) := by decide +kernel
theorem dX10_louder_52 : decode cX10_louder 52 = .ok (.iload_n 2, 1) := by decide +kernel
theorem dX10_louder_53 : decode cX10_louder 53 = .ok (.invokevirtual 187, 3) := by decide +kernel
theorem dX10_louder_56 : decode cX10_louder 56 = .ok (.iload_n 1, 1) := by decide +kernel
theorem dX10_louder_57 : decode cX10_louder 57 = .ok (.imul, 1) := by decide +kernel
theorem dX10_louder_58 : decode cX10_louder 58 = .ok (.invokevirtual 118, 3) := by decide +kernel
theorem dX10_louder_61 : decode cX10_louder 61 = .ok (.iinc 2 1, 3) := by decide +kernel
theorem dX10_louder_64 : decode cX10_louder 64 = .ok (.goto (-21), 3) := by decide +kernel
theorem dX10_louder_67 : decode cX10_louder 67 = .ok (.aload_n 0, 1) := by decide +kernel
theorem dX10_louder_68 : decode cX10_louder 68 = .ok (.invokevirtual 298, 3) := by decide +kernel
theorem dX10_louder_71 : decode cX10_louder 71 = .ok (.iconst 1, 1) := by decide +kernel
theorem dX10_louder_72 : decode cX10_louder 72 = .ok (.ireturn, 1) := by decide +kernel
theorem dX10_doubled_0 : decode cX10_doubled 0 = .ok (.iconst 0, 1) := by decide +kernel
theorem dX10_doubled_1 : decode cX10_doubled 1 = .ok (.istore_n 2, 1) := by decide +kernel
theorem dX10_doubled_2 : decode cX10_doubled 2 = .ok (.iload_n 1, 1) := by decide +kernel
theorem dX10_doubled_3 : decode cX10_doubled 3 = .ok (.i2l, 1) := by decide +kernel
theorem dX10_doubled_4 : decode cX10_doubled 4 = .ok (.lstore_n 3, 1) := by decide +kernel
theorem dX10_doubled_5 : decode cX10_doubled 5 = .ok (.iload_n 2, 1) := by decide +kernel
theorem dX10_doubled_6 : decode cX10_doubled 6 = .ok (.bipush 15, 2) := by decide +kernel
theorem dX10_doubled_8 : decode cX10_doubled 8 = .ok (.if_icmp .ge 29, 3) := by decide +kernel
theorem dX10_doubled_11 : decode cX10_doubled 11 = .ok (.ldc2_w 306, 3) := by decide +kernel
theorem dX10_doubled_14 : decode cX10_doubled 14 = .ok (.lload_n 3, 1) := by decide +kernel
theorem dX10_doubled_15 : decode cX10_doubled 15 = .ok (.lmul, 1) := by decide +kernel
theorem dX10_doubled_16 : decode cX10_doubled 16 = .ok (.aload_n 0, 1) := by decide +kernel
theorem dX10_doubled_17 : decode cX10_doubled 17 = .ok (.getfield 175, 3) := by decide +kernel
theorem dX10_doubled_20 : decode cX10_doubled 20 = .ok (.i2l, 1) := by decide +kernel
theorem dX10_doubled_21 : decode cX10_doubled 21 = .ok (.lcmp, 1) := by decide +kernel
theorem dX10_doubled_22 : decode cX10_doubled 22 = .ok (.ifCond .gt 15, 3) := by decide +kernel
theorem dX10_doubled_25 : decode cX10_doubled 25 = .ok (.lload_n 3, 1) := by decide +kernel
theorem dX10_doubled_26 : decode cX10_doubled 26 = .ok (.ldc2_w 306, 3) := by decide +kernel
theorem dX10_doubled_29 : decode cX10_doubled 29 = .ok (.lmul, 1) := by decide +kernel
theorem dX10_doubled_30 : decode cX10_doubled 30 = .ok (.lstore_n 3, 1) := by decide +kernel
theorem dX10_doubled_31 : decode cX10_doubled 31 = .ok (.iinc 2 1, 3) := by decide +kernel
theorem dX10_doubled_34 : decode cX10_doubled 34 = .ok (.goto (-29), 3) := by decide +kernel
theorem dX10_doubled_37 : decode cX10_doubled 37 = .ok (.iload_n 2, 1) := by decide +kernel
theorem dX10_doubled_38 : decode cX10_doubled 38 = .ok (.ireturn, 1) := by decide +kernel
theorem dX10_largest_0 : decode cX10_largest 0 = .ok (.aload_n 0, 1) := by decide +kernel
theorem dX10_largest_1 : decode cX10_largest 1 = .ok (.iconst 0, 1) := by decide +kernel
theorem dX10_largest_2 : decode cX10_largest 2 = .ok (.putfield 70, 3) := by decide +kernel
theorem dX10_largest_5 : decode cX10_largest 5 = .ok (.aload_n 0, 1) := by decide +kernel
theorem dX10_largest_6 : decode cX10_largest 6 = .ok (.invokevirtual 237, 3) := by decide +kernel
theorem dX10_largest_9 : decode cX10_largest 9 = .ok (.ireturn, 1) := by decide +kernel
theorem dX10_left_0 : decode cX10_left 0 = .ok (.aload_n 0, 1) := by decide +kernel
theorem dX10_left_1 : decode cX10_left 1 = .ok (.iconst 0, 1) := by decide +kernel
theorem dX10_left_2 : decode cX10_left 2 = .ok (.putfield 70, 3) := by decide +kernel
theorem dX10_left_5 : decode cX10_left 5 = .ok (.aload_n 0, 1) := by decide +kernel
theorem dX10_left_6 : decode cX10_left 6 = .ok (.aload_n 0, 1) := by decide +kernel
theorem dX10_left_7 : decode cX10_left 7 = .ok (.invokevirtual 237, 3) := by decide +kernel
theorem dX10_left_10 : decode cX10_left 10 = .ok (.invokevirtual 308, 3) := by decide +kernel
theorem dX10_left_13 : decode cX10_left 13 = .ok (.ireturn, 1) := by decide +kernel
theorem dX10_room_0 : decode cX10_room 0 = .ok (.aload_n 0, 1) := by decide +kernel
theorem dX10_room_1 : decode cX10_room 1 = .ok (.iconst 0, 1) := by decide +kernel
theorem dX10_room_2 : decode cX10_room 2 = .ok (.putfield 70, 3) := by decide +kernel
theorem dX10_room_5 : decode cX10_room 5 = .ok (.aload_n 0, 1) := by decide +kernel
theorem dX10_room_6 : decode cX10_room 6 = .ok (.iload_n 2, 1) := by decide +kernel
theorem dX10_room_7 : decode cX10_room 7 = .ok (.invokevirtual 135, 3) := by decide +kernel
theorem dX10_room_10 : decode cX10_room 10 = .ok (.ifCond .eq 25, 3) := by decide +kernel
theorem dX10_room_13 : decode cX10_room 13 = .ok (.iload_n 2, 1) := by decide +kernel
theorem dX10_room_14 : decode cX10_room 14 = .ok (.aload_n 0, 1) := by decide +kernel
theorem dX10_room_15 : decode cX10_room 15 = .ok (.invokevirtual 196, 3) := by decide +kernel
theorem dX10_room_18 : decode cX10_room 18 = .ok (.if_icmp .gt 17, 3) := by decide +kernel
theorem dX10_room_21 : decode cX10_room 21 = .ok (.iload_n 1, 1) := by decide +kernel
theorem dX10_room_22 : decode cX10_room 22 = .ok (.ifCond .lt 13, 3) := by decide +kernel
theorem dX10_room_25 : decode cX10_room 25 = .ok (.iload_n 1, 1) := by decide +kernel
theorem dX10_room_26 : decode cX10_room 26 = .ok (.aload_n 0, 1) := by decide +kernel
theorem dX10_room_27 : decode cX10_room 27 = .ok (.invokevirtual 196, 3) := by decide +kernel
theorem dX10_room_30 : decode cX10_room 30 = .ok (.iload_n 2, 1) := by decide +kernel
theorem dX10_room_31 : decode cX10_room 31 = .ok (.idiv, 1) := by decide +kernel
theorem dX10_room_32 : decode cX10_room 32 = .ok (.if_icmp .lt 5, 3) := by decide +kernel
theorem dX10_room_35 : decode cX10_room 35 = .ok (.iconst (-1), 1) := by decide +kernel
theorem dX10_room_36 : decode cX10_room 36 = .ok (.ireturn, 1) := by decide +kernel
theorem dX10_room_37 : decode cX10_room 37 = .ok (.aload_n 0, 1) := by decide +kernel
theorem dX10_room_38 : decode cX10_room 38 = .ok (.aload_n 0, 1) := by decide +kernel
theorem dX10_room_39 : decode cX10_room 39 = .ok (.iload_n 1, 1) := by decide +kernel
theorem dX10_room_40 : decode cX10_room 40 = .ok (.iload_n 2, 1) := by decide +kernel
theorem dX10_room_41 : decode cX10_room 41 = .ok (.imul, 1) := by decide +kernel
theorem dX10_room_42 : decode cX10_room 42 = .ok (.iload_n 2, 1) := by decide +kernel
theorem dX10_room_43 : decode cX10_room 43 = .ok (.invokevirtual 231, 3) := by decide +kernel
theorem dX10_room_46 : decode cX10_room 46 = .ok (.invokevirtual 308, 3) := by decide +kernel
theorem dX10_room_49 : decode cX10_room 49 = .ok (.ireturn, 1) := by decide +kernel
theorem dX10_expRun_0 : decode cX10_expRun 0 = .ok (.aload_n 0, 1) := by decide +kernel
theorem dX10_expRun_1 : decode cX10_expRun 1 = .ok (.invokevirtual 280, 3) := by decide +kernel
theorem dX10_expRun_4 : decode cX10_expRun 4 = .ok (.aload_n 0, 1) := by decide +kernel
theorem dX10_expRun_5 : decode cX10_expRun 5 = .ok (.sipush 128, 3) := by decide +kernel
theorem dX10_expRun_8 : decode cX10_expRun 8 = .ok (.invokevirtual 187, 3) := by decide +kernel
theorem dX10_expRun_11 : decode cX10_expRun 11 = .ok (.ireturn, 1) := by decide +kernel
theorem dX10_expBy_0 : decode cX10_expBy 0 = .ok (.aload_n 0, 1) := by decide +kernel
theorem dX10_expBy_1 : decode cX10_expBy 1 = .ok (.invokevirtual 311, 3) := by decide +kernel
theorem dX10_expBy_4 : decode cX10_expBy 4 = .ok (.aload_n 0, 1) := by decide +kernel
theorem dX10_expBy_5 : decode cX10_expBy 5 = .ok (.iload_n 1, 1) := by decide +kernel
theorem dX10_expBy_6 : decode cX10_expBy 6 = .ok (.invokestatic 152, 3) := by decide +kernel
theorem dX10_expBy_9 : decode cX10_expBy 9 = .ok (.putfield 175, 3) := by decide +kernel
theorem dX10_expBy_12 : decode cX10_expBy 12 = .ok (.aload_n 0, 1) := by decide +kernel
theorem dX10_expBy_13 : decode cX10_expBy 13 = .ok (.invokevirtual 314, 3) := by decide +kernel
theorem dX10_expBy_16 : decode cX10_expBy 16 = .ok (.istore_n 2, 1) := by decide +kernel
theorem dX10_expBy_17 : decode cX10_expBy 17 = .ok (.aload_n 0, 1) := by decide +kernel
theorem dX10_expBy_18 : decode cX10_expBy 18 = .ok (.invokevirtual 289, 3) := by decide +kernel
theorem dX10_expBy_21 : decode cX10_expBy 21 = .ok (.iload_n 2, 1) := by decide +kernel
theorem dX10_expBy_22 : decode cX10_expBy 22 = .ok (.ireturn, 1) := by decide +kernel
theorem dX10_sweep_0 : decode cX10_sweep 0 = .ok (.aload_n 0, 1) := by decide +kernel
theorem dX10_sweep_1 : decode cX10_sweep 1 = .ok (.iconst 0, 1) := by decide +kernel
theorem dX10_sweep_2 : decode cX10_sweep 2 = .ok (.putfield 70, 3) := by decide +kernel
theorem dX10_sweep_5 : decode cX10_sweep 5 = .ok (.iload_n 1, 1) := by decide +kernel
theorem dX10_sweep_6 : decode cX10_sweep 6 = .ok (.bipush 8, 2) := by decide +kernel
theorem dX10_sweep_8 : decode cX10_sweep 8 = .ok (.bipush 16, 2) := by decide +kernel
theorem dX10_sweep_10 : decode cX10_sweep 10 = .ok (.invokestatic 138, 3) := by decide +kernel
theorem dX10_sweep_13 : decode cX10_sweep 13 = .ok (.ifCond .eq 11, 3) := by decide +kernel
theorem dX10_sweep_16 : decode cX10_sweep 16 = .ok (.aload_n 0, 1) := by decide +kernel
theorem dX10_sweep_17 : decode cX10_sweep 17 = .ok (.iload_n 1, 1) := by decide +kernel
theorem dX10_sweep_18 : decode cX10_sweep 18 = .ok (.invokevirtual 317, 3) := by decide +kernel
theorem dX10_sweep_21 : decode cX10_sweep 21 = .ok (.goto 4, 3) := by decide +kernel
theorem dX10_sweep_24 : decode cX10_sweep 24 = .ok (.iconst (-1), 1) := by decide +kernel
theorem dX10_sweep_25 : decode cX10_sweep 25 = .ok (.ireturn, 1) := by decide +kernel
theorem dX10_bits_0 : decode cX10_bits 0 = .ok (.aload_n 0, 1) := by decide +kernel
theorem dX10_bits_1 : decode cX10_bits 1 = .ok (.iconst 0, 1) := by decide +kernel
theorem dX10_bits_2 : decode cX10_bits 2 = .ok (.putfield 70, 3) := by decide +kernel
theorem dX10_bits_5 : decode cX10_bits 5 = .ok (.bipush 8, 2) := by decide +kernel
theorem dX10_bits_7 : decode cX10_bits 7 = .ok (.istore_n 1, 1) := by decide +kernel
theorem dX10_bits_8 : decode cX10_bits 8 = .ok (.iload_n 1, 1) := by decide +kernel
theorem dX10_bits_9 : decode cX10_bits 9 = .ok (.bipush 16, 2) := by decide +kernel
theorem dX10_bits_11 : decode cX10_bits 11 = .ok (.if_icmp .gt 19, 3) := by decide +kernel
theorem dX10_bits_14 : decode cX10_bits 14 = .ok (.aload_n 0, 1) := by decide +kernel
theorem dX10_bits_15 : decode cX10_bits 15 = .ok (.iload_n 1, 1) := by decide +kernel
theorem dX10_bits_16 : decode cX10_bits 16 = .ok (.invokevirtual 317, 3) := by decide +kernel
theorem dX10_bits_19 : decode cX10_bits 19 = .ok (.ifCond .ne 5, 3) := by decide +kernel
theorem dX10_bits_22 : decode cX10_bits 22 = .ok (.iload_n 1, 1) := by decide +kernel
theorem dX10_bits_23 : decode cX10_bits 23 = .ok (.ireturn, 1) := by decide +kernel
theorem dX10_bits_24 : decode cX10_bits 24 = .ok (.iinc 1 1, 3) := by decide +kernel
theorem dX10_bits_27 : decode cX10_bits 27 = .ok (.goto (-19), 3) := by decide +kernel
theorem dX10_bits_30 : decode cX10_bits 30 = .ok (.bipush (-2), 2) := by decide +kernel
theorem dX10_bits_32 : decode cX10_bits 32 = .ok (.ireturn, 1) := by decide +kernel
theorem dX10_grown_0 : decode cX10_grown 0 = .ok (.aload_n 0, 1) := by decide +kernel
theorem dX10_grown_1 : decode cX10_grown 1 = .ok (.iconst 0, 1) := by decide +kernel
theorem dX10_grown_2 : decode cX10_grown 2 = .ok (.putfield 70, 3) := by decide +kernel
theorem dX10_grown_5 : decode cX10_grown 5 = .ok (.iload_n 1, 1) := by decide +kernel
theorem dX10_grown_6 : decode cX10_grown 6 = .ok (.iconst 0, 1) := by decide +kernel
theorem dX10_grown_7 : decode cX10_grown 7 = .ok (.iconst 5, 1) := by decide +kernel
theorem dX10_grown_8 : decode cX10_grown 8 = .ok (.invokestatic 138, 3) := by decide +kernel
theorem dX10_grown_11 : decode cX10_grown 11 = .ok (.ifCond .ne 5, 3) := by decide +kernel
theorem dX10_grown_14 : decode cX10_grown 14 = .ok (.iconst (-1), 1) := by decide +kernel
theorem dX10_grown_15 : decode cX10_grown 15 = .ok (.ireturn, 1) := by decide +kernel
theorem dX10_grown_16 : decode cX10_grown 16 = .ok (.aload_n 0, 1) := by decide +kernel
theorem dX10_grown_17 : decode cX10_grown 17 = .ok (.invokevirtual 311, 3) := by decide +kernel
theorem dX10_grown_20 : decode cX10_grown 20 = .ok (.aload_n 0, 1) := by decide +kernel
theorem dX10_grown_21 : decode cX10_grown 21 = .ok (.iconst 0, 1) := by decide +kernel
theorem dX10_grown_22 : decode cX10_grown 22 = .ok (.putfield 178, 3) := by decide +kernel
theorem dX10_grown_25 : decode cX10_grown 25 = .ok (.iconst 0, 1) := by decide +kernel
theorem dX10_grown_26 : decode cX10_grown 26 = .ok (.istore_n 2, 1) := by decide +kernel
theorem dX10_grown_27 : decode cX10_grown 27 = .ok (.iload_n 2, 1) := by decide +kernel
theorem dX10_grown_28 : decode cX10_grown 28 = .ok (.iload_n 1, 1) := by decide +kernel
theorem dX10_grown_29 : decode cX10_grown 29 = .ok (.if_icmp .ge 21, 3) := by decide +kernel
theorem dX10_grown_32 : decode cX10_grown 32 = .ok (.aload_n 0, 1) := by decide +kernel
theorem dX10_grown_33 : decode cX10_grown 33 = .ok (.invokevirtual 268, 3) := by decide +kernel
theorem dX10_grown_36 : decode cX10_grown 36 = .ok (.ifCond .ne 14, 3) := by decide +kernel
theorem dX10_grown_39 : decode cX10_grown 39 = .ok (.aload_n 0, 1) := by decide +kernel
theorem dX10_grown_40 : decode cX10_grown 40 = .ok (.invokevirtual 271, 3) := by decide +kernel
theorem dX10_grown_43 : decode cX10_grown 43 = .ok (.pop, 1) := by decide +kernel
theorem dX10_grown_44 : decode cX10_grown 44 = .ok (.iinc 2 1, 3) := by decide +kernel
theorem dX10_grown_47 : decode cX10_grown 47 = .ok (.goto (-20), 3) := by decide +kernel
theorem dX10_grown_50 : decode cX10_grown 50 = .ok (.aload_n 0, 1) := by decide +kernel
theorem dX10_grown_51 : decode cX10_grown 51 = .ok (.invokevirtual 237, 3) := by decide +kernel
theorem dX10_grown_54 : decode cX10_grown 54 = .ok (.istore_n 2, 1) := by decide +kernel
theorem dX10_grown_55 : decode cX10_grown 55 = .ok (.aload_n 0, 1) := by decide +kernel
theorem dX10_grown_56 : decode cX10_grown 56 = .ok (.invokevirtual 289, 3) := by decide +kernel
theorem dX10_grown_59 : decode cX10_grown 59 = .ok (.iload_n 2, 1) := by decide +kernel
theorem dX10_grown_60 : decode cX10_grown 60 = .ok (.ireturn, 1) := by decide +kernel
theorem dX10_directOf_0 : decode cX10_directOf 0 = .ok (.lconst 0, 1) := by decide +kernel
theorem dX10_directOf_1 : decode cX10_directOf 1 = .ok (.lstore_n 3, 1) := by decide +kernel
theorem dX10_directOf_2 : decode cX10_directOf 2 = .ok (.iconst 0, 1) := by decide +kernel
theorem dX10_directOf_3 : decode cX10_directOf 3 = .ok (.istore 5, 2) := by decide +kernel
theorem dX10_directOf_5 : decode cX10_directOf 5 = .ok (.iload 5, 2) := by decide +kernel
theorem dX10_directOf_7 : decode cX10_directOf 7 = .ok (.aload_n 0, 1) := by decide +kernel
theorem dX10_directOf_8 : decode cX10_directOf 8 = .ok (.invokevirtual 196, 3) := by decide +kernel
theorem dX10_directOf_11 : decode cX10_directOf 11 = .ok (.if_icmp .ge 96, 3) := by decide +kernel
theorem dX10_directOf_14 : decode cX10_directOf 14 = .ok (.iload 5, 2) := by decide +kernel
theorem dX10_directOf_16 : decode cX10_directOf 16 = .ok (.iload_n 1, 1) := by decide +kernel
theorem dX10_directOf_17 : decode cX10_directOf 17 = .ok (.imul, 1) := by decide +kernel
theorem dX10_directOf_18 : decode cX10_directOf 18 = .ok (.aload_n 0, 1) := by decide +kernel
theorem dX10_directOf_19 : decode cX10_directOf 19 = .ok (.invokevirtual 196, 3) := by decide +kernel
theorem dX10_directOf_22 : decode cX10_directOf 22 = .ok (.irem, 1) := by decide +kernel
theorem dX10_directOf_23 : decode cX10_directOf 23 = .ok (.istore 6, 2) := by decide +kernel
theorem dX10_directOf_25 : decode cX10_directOf 25 = .ok (.aload_n 0, 1) := by decide +kernel
theorem dX10_directOf_26 : decode cX10_directOf 26 = .ok (.bipush 64, 2) := by decide +kernel
theorem dX10_directOf_28 : decode cX10_directOf 28 = .ok (.iload 5, 2) := by decide +kernel
theorem dX10_directOf_30 : decode cX10_directOf 30 = .ok (.iadd, 1) := by decide +kernel
theorem dX10_directOf_31 : decode cX10_directOf 31 = .ok (.invokevirtual 187, 3) := by decide +kernel
theorem dX10_directOf_34 : decode cX10_directOf 34 = .ok (.i2l, 1) := by decide +kernel
theorem dX10_directOf_35 : decode cX10_directOf 35 = .ok (.lstore 7, 2) := by decide +kernel
theorem dX10_directOf_37 : decode cX10_directOf 37 = .ok (.aload_n 0, 1) := by decide +kernel
theorem dX10_directOf_38 : decode cX10_directOf 38 = .ok (.bipush 96, 2) := by decide +kernel
theorem dX10_directOf_40 : decode cX10_directOf 40 = .ok (.iload 5, 2) := by decide +kernel
theorem dX10_directOf_42 : decode cX10_directOf 42 = .ok (.iadd, 1) := by decide +kernel
theorem dX10_directOf_43 : decode cX10_directOf 43 = .ok (.invokevirtual 187, 3) := by decide +kernel
theorem dX10_directOf_46 : decode cX10_directOf 46 = .ok (.i2l, 1) := by decide +kernel
theorem dX10_directOf_47 : decode cX10_directOf 47 = .ok (.lstore 9, 2) := by decide +kernel
theorem dX10_directOf_49 : decode cX10_directOf 49 = .ok (.lload_n 3, 1) := by decide +kernel
theorem dX10_directOf_50 : decode cX10_directOf 50 = .ok (.iload_n 2, 1) := by decide +kernel
theorem dX10_directOf_51 : decode cX10_directOf 51 = .ok (.ifCond .ne 27, 3) := by decide +kernel
theorem dX10_directOf_54 : decode cX10_directOf 54 = .ok (.lload 7, 2) := by decide +kernel
theorem dX10_directOf_56 : decode cX10_directOf 56 = .ok (.aload_n 0, 1) := by decide +kernel
theorem dX10_directOf_57 : decode cX10_directOf 57 = .ok (.iload 6, 2) := by decide +kernel
theorem dX10_directOf_59 : decode cX10_directOf 59 = .ok (.invokevirtual 207, 3) := by decide +kernel
theorem dX10_directOf_62 : decode cX10_directOf 62 = .ok (.i2l, 1) := by decide +kernel
theorem dX10_directOf_63 : decode cX10_directOf 63 = .ok (.lmul, 1) := by decide +kernel
theorem dX10_directOf_64 : decode cX10_directOf 64 = .ok (.lload 9, 2) := by decide +kernel
theorem dX10_directOf_66 : decode cX10_directOf 66 = .ok (.aload_n 0, 1) := by decide +kernel
theorem dX10_directOf_67 : decode cX10_directOf 67 = .ok (.iload 6, 2) := by decide +kernel
theorem dX10_directOf_69 : decode cX10_directOf 69 = .ok (.invokevirtual 210, 3) := by decide +kernel
theorem dX10_directOf_72 : decode cX10_directOf 72 = .ok (.i2l, 1) := by decide +kernel
theorem dX10_directOf_73 : decode cX10_directOf 73 = .ok (.lmul, 1) := by decide +kernel
theorem dX10_directOf_74 : decode cX10_directOf 74 = .ok (.ladd, 1) := by decide +kernel
theorem dX10_directOf_75 : decode cX10_directOf 75 = .ok (.goto 24, 3) := by decide +kernel
theorem dX10_directOf_78 : decode cX10_directOf 78 = .ok (.lload 9, 2) := by decide +kernel
theorem dX10_directOf_80 : decode cX10_directOf 80 = .ok (.aload_n 0, 1) := by decide +kernel
theorem dX10_directOf_81 : decode cX10_directOf 81 = .ok (.iload 6, 2) := by decide +kernel
theorem dX10_directOf_83 : decode cX10_directOf 83 = .ok (.invokevirtual 207, 3) := by decide +kernel
theorem dX10_directOf_86 : decode cX10_directOf 86 = .ok (.i2l, 1) := by decide +kernel
theorem dX10_directOf_87 : decode cX10_directOf 87 = .ok (.lmul, 1) := by decide +kernel
theorem dX10_directOf_88 : decode cX10_directOf 88 = .ok (.lload 7, 2) := by decide +kernel
theorem dX10_directOf_90 : decode cX10_directOf 90 = .ok (.aload_n 0, 1) := by decide +kernel
theorem dX10_directOf_91 : decode cX10_directOf 91 = .ok (.iload 6, 2) := by decide +kernel
theorem dX10_directOf_93 : decode cX10_directOf 93 = .ok (.invokevirtual 210, 3) := by decide +kernel
theorem dX10_directOf_96 : decode cX10_directOf 96 = .ok (.i2l, 1) := by decide +kernel
theorem dX10_directOf_97 : decode cX10_directOf 97 = .ok (.lmul, 1) := by decide +kernel
theorem dX10_directOf_98 : decode cX10_directOf 98 = .ok (.lsub, 1) := by decide +kernel
theorem dX10_directOf_99 : decode cX10_directOf 99 = .ok (.ladd, 1) := by decide +kernel
theorem dX10_directOf_100 : decode cX10_directOf 100 = .ok (.lstore_n 3, 1) := by decide +kernel
theorem dX10_directOf_101 : decode cX10_directOf 101 = .ok (.iinc 5 1, 3) := by decide +kernel
theorem dX10_directOf_104 : decode cX10_directOf 104 = .ok (.goto (-99), 3) := by decide +kernel
theorem dX10_directOf_107 : decode cX10_directOf 107 = .ok (.lload_n 3, 1) := by decide +kernel
theorem dX10_directOf_108 : decode cX10_directOf 108 = .ok (.lreturn, 1) := by decide +kernel
theorem dX10_direct_0 : decode cX10_direct 0 = .ok (.aload_n 0, 1) := by decide +kernel
theorem dX10_direct_1 : decode cX10_direct 1 = .ok (.iconst 0, 1) := by decide +kernel
theorem dX10_direct_2 : decode cX10_direct 2 = .ok (.putfield 70, 3) := by decide +kernel
theorem dX10_direct_5 : decode cX10_direct 5 = .ok (.aload_n 0, 1) := by decide +kernel
theorem dX10_direct_6 : decode cX10_direct 6 = .ok (.iload_n 1, 1) := by decide +kernel
theorem dX10_direct_7 : decode cX10_direct 7 = .ok (.invokevirtual 203, 3) := by decide +kernel
theorem dX10_direct_10 : decode cX10_direct 10 = .ok (.ifCond .eq 21, 3) := by decide +kernel
theorem dX10_direct_13 : decode cX10_direct 13 = .ok (.iload_n 2, 1) := by decide +kernel
theorem dX10_direct_14 : decode cX10_direct 14 = .ok (.iconst 0, 1) := by decide +kernel
theorem dX10_direct_15 : decode cX10_direct 15 = .ok (.iconst 1, 1) := by decide +kernel
theorem dX10_direct_16 : decode cX10_direct 16 = .ok (.invokestatic 138, 3) := by decide +kernel
theorem dX10_direct_19 : decode cX10_direct 19 = .ok (.ifCond .eq 12, 3) := by decide +kernel
theorem dX10_direct_22 : decode cX10_direct 22 = .ok (.aload_n 0, 1) := by decide +kernel
theorem dX10_direct_23 : decode cX10_direct 23 = .ok (.iload_n 1, 1) := by decide +kernel
theorem dX10_direct_24 : decode cX10_direct 24 = .ok (.iload_n 2, 1) := by decide +kernel
theorem dX10_direct_25 : decode cX10_direct 25 = .ok (.invokevirtual 320, 3) := by decide +kernel
theorem dX10_direct_28 : decode cX10_direct 28 = .ok (.goto 6, 3) := by decide +kernel
theorem dX10_direct_31 : decode cX10_direct 31 = .ok (.ldc2_w 324, 3) := by decide +kernel
theorem dX10_direct_34 : decode cX10_direct 34 = .ok (.lreturn, 1) := by decide +kernel
theorem dX10_apartBy_0 : decode cX10_apartBy 0 = .ok (.lload_n 0, 1) := by decide +kernel
theorem dX10_apartBy_1 : decode cX10_apartBy 1 = .ok (.lload_n 2, 1) := by decide +kernel
theorem dX10_apartBy_2 : decode cX10_apartBy 2 = .ok (.lcmp, 1) := by decide +kernel
theorem dX10_apartBy_3 : decode cX10_apartBy 3 = .ok (.ifCond .le 9, 3) := by decide +kernel
theorem dX10_apartBy_6 : decode cX10_apartBy 6 = .ok (.lload_n 0, 1) := by decide +kernel
theorem dX10_apartBy_7 : decode cX10_apartBy 7 = .ok (.lload_n 2, 1) := by decide +kernel
theorem dX10_apartBy_8 : decode cX10_apartBy 8 = .ok (.lsub, 1) := by decide +kernel
theorem dX10_apartBy_9 : decode cX10_apartBy 9 = .ok (.goto 6, 3) := by decide +kernel
theorem dX10_apartBy_12 : decode cX10_apartBy 12 = .ok (.lload_n 2, 1) := by decide +kernel
theorem dX10_apartBy_13 : decode cX10_apartBy 13 = .ok (.lload_n 0, 1) := by decide +kernel
theorem dX10_apartBy_14 : decode cX10_apartBy 14 = .ok (.lsub, 1) := by decide +kernel
theorem dX10_apartBy_15 : decode cX10_apartBy 15 = .ok (.lreturn, 1) := by decide +kernel
theorem dX10_offOf_0 : decode cX10_offOf 0 = .ok (.aload_n 0, 1) := by decide +kernel
theorem dX10_offOf_1 : decode cX10_offOf 1 = .ok (.iload_n 1, 1) := by decide +kernel
theorem dX10_offOf_2 : decode cX10_offOf 2 = .ok (.invokevirtual 187, 3) := by decide +kernel
theorem dX10_offOf_5 : decode cX10_offOf 5 = .ok (.i2l, 1) := by decide +kernel
theorem dX10_offOf_6 : decode cX10_offOf 6 = .ok (.ldc2_w 301, 3) := by decide +kernel
theorem dX10_offOf_9 : decode cX10_offOf 9 = .ok (.lmul, 1) := by decide +kernel
theorem dX10_offOf_10 : decode cX10_offOf 10 = .ok (.aload_n 0, 1) := by decide +kernel
theorem dX10_offOf_11 : decode cX10_offOf 11 = .ok (.sipush 128, 3) := by decide +kernel
theorem dX10_offOf_14 : decode cX10_offOf 14 = .ok (.invokevirtual 187, 3) := by decide +kernel
theorem dX10_offOf_17 : decode cX10_offOf 17 = .ok (.lshl, 1) := by decide +kernel
theorem dX10_offOf_18 : decode cX10_offOf 18 = .ok (.aload_n 0, 1) := by decide +kernel
theorem dX10_offOf_19 : decode cX10_offOf 19 = .ok (.iload_n 1, 1) := by decide +kernel
theorem dX10_offOf_20 : decode cX10_offOf 20 = .ok (.iconst 0, 1) := by decide +kernel
theorem dX10_offOf_21 : decode cX10_offOf 21 = .ok (.invokevirtual 320, 3) := by decide +kernel
theorem dX10_offOf_24 : decode cX10_offOf 24 = .ok (.invokestatic 326, 3) := by decide +kernel
theorem dX10_offOf_27 : decode cX10_offOf 27 = .ok (.lstore_n 2, 1) := by decide +kernel
theorem dX10_offOf_28 : decode cX10_offOf 28 = .ok (.aload_n 0, 1) := by decide +kernel
theorem dX10_offOf_29 : decode cX10_offOf 29 = .ok (.bipush 32, 2) := by decide +kernel
theorem dX10_offOf_31 : decode cX10_offOf 31 = .ok (.iload_n 1, 1) := by decide +kernel
theorem dX10_offOf_32 : decode cX10_offOf 32 = .ok (.iadd, 1) := by decide +kernel
theorem dX10_offOf_33 : decode cX10_offOf 33 = .ok (.invokevirtual 187, 3) := by decide +kernel
theorem dX10_offOf_36 : decode cX10_offOf 36 = .ok (.i2l, 1) := by decide +kernel
theorem dX10_offOf_37 : decode cX10_offOf 37 = .ok (.ldc2_w 301, 3) := by decide +kernel
theorem dX10_offOf_40 : decode cX10_offOf 40 = .ok (.lmul, 1) := by decide +kernel
theorem dX10_offOf_41 : decode cX10_offOf 41 = .ok (.aload_n 0, 1) := by decide +kernel
theorem dX10_offOf_42 : decode cX10_offOf 42 = .ok (.sipush 128, 3) := by decide +kernel
theorem dX10_offOf_45 : decode cX10_offOf 45 = .ok (.invokevirtual 187, 3) := by decide +kernel
theorem dX10_offOf_48 : decode cX10_offOf 48 = .ok (.lshl, 1) := by decide +kernel
theorem dX10_offOf_49 : decode cX10_offOf 49 = .ok (.aload_n 0, 1) := by decide +kernel
theorem dX10_offOf_50 : decode cX10_offOf 50 = .ok (.iload_n 1, 1) := by decide +kernel
theorem dX10_offOf_51 : decode cX10_offOf 51 = .ok (.iconst 1, 1) := by decide +kernel
theorem dX10_offOf_52 : decode cX10_offOf 52 = .ok (.invokevirtual 320, 3) := by decide +kernel
theorem dX10_offOf_55 : decode cX10_offOf 55 = .ok (.invokestatic 326, 3) := by decide +kernel
theorem dX10_offOf_58 : decode cX10_offOf 58 = .ok (.lstore 4, 2) := by decide +kernel
theorem dX10_offOf_60 : decode cX10_offOf 60 = .ok (.lload_n 2, 1) := by decide +kernel
theorem dX10_offOf_61 : decode cX10_offOf 61 = .ok (.lload 4, 2) := by decide +kernel
theorem dX10_offOf_63 : decode cX10_offOf 63 = .ok (.lcmp, 1) := by decide +kernel
theorem dX10_offOf_64 : decode cX10_offOf 64 = .ok (.ifCond .le 7, 3) := by decide +kernel
theorem dX10_offOf_67 : decode cX10_offOf 67 = .ok (.lload_n 2, 1) := by decide +kernel
theorem dX10_offOf_68 : decode cX10_offOf 68 = .ok (.goto 5, 3) := by decide +kernel
theorem dX10_offOf_71 : decode cX10_offOf 71 = .ok (.lload 4, 2) := by decide +kernel
theorem dX10_offOf_73 : decode cX10_offOf 73 = .ok (.lreturn, 1) := by decide +kernel
theorem dX10_off_0 : decode cX10_off 0 = .ok (.aload_n 0, 1) := by decide +kernel
theorem dX10_off_1 : decode cX10_off 1 = .ok (.iconst 0, 1) := by decide +kernel
theorem dX10_off_2 : decode cX10_off 2 = .ok (.putfield 70, 3) := by decide +kernel
theorem dX10_off_5 : decode cX10_off 5 = .ok (.aload_n 0, 1) := by decide +kernel
theorem dX10_off_6 : decode cX10_off 6 = .ok (.iload_n 1, 1) := by decide +kernel
theorem dX10_off_7 : decode cX10_off 7 = .ok (.invokevirtual 203, 3) := by decide +kernel
theorem dX10_off_10 : decode cX10_off 10 = .ok (.ifCond .ne 7, 3) := by decide +kernel
theorem dX10_off_13 : decode cX10_off 13 = .ok (.ldc2_w 330, 3) := by decide +kernel
theorem dX10_off_16 : decode cX10_off 16 = .ok (.lreturn, 1) := by decide +kernel
theorem dX10_off_17 : decode cX10_off 17 = .ok (.aload_n 0, 1) := by decide +kernel
theorem dX10_off_18 : decode cX10_off 18 = .ok (.invokevirtual 283, 3) := by decide +kernel
theorem dX10_off_21 : decode cX10_off 21 = .ok (.ifCond .eq 11, 3) := by decide +kernel
theorem dX10_off_24 : decode cX10_off 24 = .ok (.aload_n 0, 1) := by decide +kernel
theorem dX10_off_25 : decode cX10_off 25 = .ok (.iload_n 1, 1) := by decide +kernel
theorem dX10_off_26 : decode cX10_off 26 = .ok (.invokevirtual 332, 3) := by decide +kernel
theorem dX10_off_29 : decode cX10_off 29 = .ok (.goto 6, 3) := by decide +kernel
theorem dX10_off_32 : decode cX10_off 32 = .ok (.ldc2_w 336, 3) := by decide +kernel
theorem dX10_off_35 : decode cX10_off 35 = .ok (.lreturn, 1) := by decide +kernel
theorem dX10_worstAt_0 : decode cX10_worstAt 0 = .ok (.iconst 0, 1) := by decide +kernel
theorem dX10_worstAt_1 : decode cX10_worstAt 1 = .ok (.istore_n 1, 1) := by decide +kernel
theorem dX10_worstAt_2 : decode cX10_worstAt 2 = .ok (.aload_n 0, 1) := by decide +kernel
theorem dX10_worstAt_3 : decode cX10_worstAt 3 = .ok (.iconst 0, 1) := by decide +kernel
theorem dX10_worstAt_4 : decode cX10_worstAt 4 = .ok (.invokevirtual 332, 3) := by decide +kernel
theorem dX10_worstAt_7 : decode cX10_worstAt 7 = .ok (.lstore_n 2, 1) := by decide +kernel
theorem dX10_worstAt_8 : decode cX10_worstAt 8 = .ok (.iconst 1, 1) := by decide +kernel
theorem dX10_worstAt_9 : decode cX10_worstAt 9 = .ok (.istore 4, 2) := by decide +kernel
theorem dX10_worstAt_11 : decode cX10_worstAt 11 = .ok (.iload 4, 2) := by decide +kernel
theorem dX10_worstAt_13 : decode cX10_worstAt 13 = .ok (.aload_n 0, 1) := by decide +kernel
theorem dX10_worstAt_14 : decode cX10_worstAt 14 = .ok (.invokevirtual 196, 3) := by decide +kernel
theorem dX10_worstAt_17 : decode cX10_worstAt 17 = .ok (.if_icmp .ge 45, 3) := by decide +kernel
theorem dX10_worstAt_20 : decode cX10_worstAt 20 = .ok (.aload_n 0, 1) := by decide +kernel
theorem dX10_worstAt_21 : decode cX10_worstAt 21 = .ok (.iload 4, 2) := by decide +kernel
theorem dX10_worstAt_23 : decode cX10_worstAt 23 = .ok (.invokevirtual 332, 3) := by decide +kernel
theorem dX10_worstAt_26 : decode cX10_worstAt 26 = .ok (.lstore 5, 2) := by decide +kernel
theorem dX10_worstAt_28 : decode cX10_worstAt 28 = .ok (.lload 5, 2) := by decide +kernel
theorem dX10_worstAt_30 : decode cX10_worstAt 30 = .ok (.lload_n 2, 1) := by decide +kernel
theorem dX10_worstAt_31 : decode cX10_worstAt 31 = .ok (.lcmp, 1) := by decide +kernel
theorem dX10_worstAt_32 : decode cX10_worstAt 32 = .ok (.ifCond .le 8, 3) := by decide +kernel
theorem dX10_worstAt_35 : decode cX10_worstAt 35 = .ok (.iload 4, 2) := by decide +kernel
theorem dX10_worstAt_37 : decode cX10_worstAt 37 = .ok (.goto 4, 3) := by decide +kernel
theorem dX10_worstAt_40 : decode cX10_worstAt 40 = .ok (.iload_n 1, 1) := by decide +kernel
theorem dX10_worstAt_41 : decode cX10_worstAt 41 = .ok (.istore_n 1, 1) := by decide +kernel
theorem dX10_worstAt_42 : decode cX10_worstAt 42 = .ok (.lload 5, 2) := by decide +kernel
theorem dX10_worstAt_44 : decode cX10_worstAt 44 = .ok (.lload_n 2, 1) := by decide +kernel
theorem dX10_worstAt_45 : decode cX10_worstAt 45 = .ok (.lcmp, 1) := by decide +kernel
theorem dX10_worstAt_46 : decode cX10_worstAt 46 = .ok (.ifCond .le 8, 3) := by decide +kernel
theorem dX10_worstAt_49 : decode cX10_worstAt 49 = .ok (.lload 5, 2) := by decide +kernel
theorem dX10_worstAt_51 : decode cX10_worstAt 51 = .ok (.goto 4, 3) := by decide +kernel
theorem dX10_worstAt_54 : decode cX10_worstAt 54 = .ok (.lload_n 2, 1) := by decide +kernel
theorem dX10_worstAt_55 : decode cX10_worstAt 55 = .ok (.lstore_n 2, 1) := by decide +kernel
theorem dX10_worstAt_56 : decode cX10_worstAt 56 = .ok (.iinc 4 1, 3) := by decide +kernel
theorem dX10_worstAt_59 : decode cX10_worstAt 59 = .ok (.goto (-48), 3) := by decide +kernel
theorem dX10_worstAt_62 : decode cX10_worstAt 62 = .ok (.iload_n 1, 1) := by decide +kernel
theorem dX10_worstAt_63 : decode cX10_worstAt 63 = .ok (.ireturn, 1) := by decide +kernel
theorem dX10_worst_0 : decode cX10_worst 0 = .ok (.aload_n 0, 1) := by decide +kernel
theorem dX10_worst_1 : decode cX10_worst 1 = .ok (.iconst 0, 1) := by decide +kernel
theorem dX10_worst_2 : decode cX10_worst 2 = .ok (.putfield 70, 3) := by decide +kernel
theorem dX10_worst_5 : decode cX10_worst 5 = .ok (.iload_n 1, 1) := by decide +kernel
theorem dX10_worst_6 : decode cX10_worst 6 = .ok (.iconst 0, 1) := by decide +kernel
theorem dX10_worst_7 : decode cX10_worst 7 = .ok (.iconst 1, 1) := by decide +kernel
theorem dX10_worst_8 : decode cX10_worst 8 = .ok (.invokestatic 138, 3) := by decide +kernel
theorem dX10_worst_11 : decode cX10_worst 11 = .ok (.ifCond .ne 7, 3) := by decide +kernel
theorem dX10_worst_14 : decode cX10_worst 14 = .ok (.ldc2_w 330, 3) := by decide +kernel
theorem dX10_worst_17 : decode cX10_worst 17 = .ok (.lreturn, 1) := by decide +kernel
theorem dX10_worst_18 : decode cX10_worst 18 = .ok (.aload_n 0, 1) := by decide +kernel
theorem dX10_worst_19 : decode cX10_worst 19 = .ok (.invokevirtual 283, 3) := by decide +kernel
theorem dX10_worst_22 : decode cX10_worst 22 = .ok (.ifCond .ne 7, 3) := by decide +kernel
theorem dX10_worst_25 : decode cX10_worst 25 = .ok (.ldc2_w 336, 3) := by decide +kernel
theorem dX10_worst_28 : decode cX10_worst 28 = .ok (.lreturn, 1) := by decide +kernel
theorem dX10_worst_29 : decode cX10_worst 29 = .ok (.iload_n 1, 1) := by decide +kernel
theorem dX10_worst_30 : decode cX10_worst 30 = .ok (.ifCond .ne 14, 3) := by decide +kernel
theorem dX10_worst_33 : decode cX10_worst 33 = .ok (.aload_n 0, 1) := by decide +kernel
theorem dX10_worst_34 : decode cX10_worst 34 = .ok (.aload_n 0, 1) := by decide +kernel
theorem dX10_worst_35 : decode cX10_worst 35 = .ok (.invokevirtual 338, 3) := by decide +kernel
theorem dX10_worst_38 : decode cX10_worst 38 = .ok (.invokevirtual 332, 3) := by decide +kernel
theorem dX10_worst_41 : decode cX10_worst 41 = .ok (.goto 8, 3) := by decide +kernel
theorem dX10_worst_44 : decode cX10_worst 44 = .ok (.aload_n 0, 1) := by decide +kernel
theorem dX10_worst_45 : decode cX10_worst 45 = .ok (.invokevirtual 338, 3) := by decide +kernel
theorem dX10_worst_48 : decode cX10_worst 48 = .ok (.i2l, 1) := by decide +kernel
theorem dX10_worst_49 : decode cX10_worst 49 = .ok (.lreturn, 1) := by decide +kernel
theorem dX10_best_0 : decode cX10_best 0 = .ok (.aload_n 0, 1) := by decide +kernel
theorem dX10_best_1 : decode cX10_best 1 = .ok (.iconst 0, 1) := by decide +kernel
theorem dX10_best_2 : decode cX10_best 2 = .ok (.putfield 70, 3) := by decide +kernel
theorem dX10_best_5 : decode cX10_best 5 = .ok (.iconst 0, 1) := by decide +kernel
theorem dX10_best_6 : decode cX10_best 6 = .ok (.istore_n 1, 1) := by decide +kernel
theorem dX10_best_7 : decode cX10_best 7 = .ok (.lconst 0, 1) := by decide +kernel
theorem dX10_best_8 : decode cX10_best 8 = .ok (.lstore_n 2, 1) := by decide +kernel
theorem dX10_best_9 : decode cX10_best 9 = .ok (.iconst 0, 1) := by decide +kernel
theorem dX10_best_10 : decode cX10_best 10 = .ok (.istore 4, 2) := by decide +kernel
theorem dX10_best_12 : decode cX10_best 12 = .ok (.iload 4, 2) := by decide +kernel
theorem dX10_best_14 : decode cX10_best 14 = .ok (.bipush 8, 2) := by decide +kernel
theorem dX10_best_16 : decode cX10_best 16 = .ok (.if_icmp .ge 83, 3) := by decide +kernel
theorem dX10_best_19 : decode cX10_best 19 = .ok (.aload_n 0, 1) := by decide +kernel
theorem dX10_best_20 : decode cX10_best 20 = .ok (.invokevirtual 311, 3) := by decide +kernel
theorem dX10_best_23 : decode cX10_best 23 = .ok (.aload_n 0, 1) := by decide +kernel
theorem dX10_best_24 : decode cX10_best 24 = .ok (.iload 4, 2) := by decide +kernel
theorem dX10_best_26 : decode cX10_best 26 = .ok (.iconst 4, 1) := by decide +kernel
theorem dX10_best_27 : decode cX10_best 27 = .ok (.idiv, 1) := by decide +kernel
theorem dX10_best_28 : decode cX10_best 28 = .ok (.putfield 169, 3) := by decide +kernel
theorem dX10_best_31 : decode cX10_best 31 = .ok (.aload_n 0, 1) := by decide +kernel
theorem dX10_best_32 : decode cX10_best 32 = .ok (.iload 4, 2) := by decide +kernel
theorem dX10_best_34 : decode cX10_best 34 = .ok (.iconst 1, 1) := by decide +kernel
theorem dX10_best_35 : decode cX10_best 35 = .ok (.invokestatic 341, 3) := by decide +kernel
theorem dX10_best_38 : decode cX10_best 38 = .ok (.ifCond .eq 7, 3) := by decide +kernel
theorem dX10_best_41 : decode cX10_best 41 = .ok (.iconst 4, 1) := by decide +kernel
theorem dX10_best_42 : decode cX10_best 42 = .ok (.goto 4, 3) := by decide +kernel
theorem dX10_best_45 : decode cX10_best 45 = .ok (.iconst 2, 1) := by decide +kernel
theorem dX10_best_46 : decode cX10_best 46 = .ok (.putfield 166, 3) := by decide +kernel
theorem dX10_best_49 : decode cX10_best 49 = .ok (.aload_n 0, 1) := by decide +kernel
theorem dX10_best_50 : decode cX10_best 50 = .ok (.iload 4, 2) := by decide +kernel
theorem dX10_best_52 : decode cX10_best 52 = .ok (.iconst 2, 1) := by decide +kernel
theorem dX10_best_53 : decode cX10_best 53 = .ok (.irem, 1) := by decide +kernel
theorem dX10_best_54 : decode cX10_best 54 = .ok (.putfield 172, 3) := by decide +kernel
theorem dX10_best_57 : decode cX10_best 57 = .ok (.aload_n 0, 1) := by decide +kernel
theorem dX10_best_58 : decode cX10_best 58 = .ok (.invokevirtual 280, 3) := by decide +kernel
theorem dX10_best_61 : decode cX10_best 61 = .ok (.aload_n 0, 1) := by decide +kernel
theorem dX10_best_62 : decode cX10_best 62 = .ok (.aload_n 0, 1) := by decide +kernel
theorem dX10_best_63 : decode cX10_best 63 = .ok (.invokevirtual 338, 3) := by decide +kernel
theorem dX10_best_66 : decode cX10_best 66 = .ok (.invokevirtual 332, 3) := by decide +kernel
theorem dX10_best_69 : decode cX10_best 69 = .ok (.lstore 5, 2) := by decide +kernel
theorem dX10_best_71 : decode cX10_best 71 = .ok (.iload 4, 2) := by decide +kernel
theorem dX10_best_73 : decode cX10_best 73 = .ok (.ifCond .eq 10, 3) := by decide +kernel
theorem dX10_best_76 : decode cX10_best 76 = .ok (.lload 5, 2) := by decide +kernel
theorem dX10_best_78 : decode cX10_best 78 = .ok (.lload_n 2, 1) := by decide +kernel
theorem dX10_best_79 : decode cX10_best 79 = .ok (.lcmp, 1) := by decide +kernel
theorem dX10_best_80 : decode cX10_best 80 = .ok (.ifCond .ge 9, 3) := by decide +kernel
theorem dX10_best_83 : decode cX10_best 83 = .ok (.iload 4, 2) := by decide +kernel
theorem dX10_best_85 : decode cX10_best 85 = .ok (.istore_n 1, 1) := by decide +kernel
theorem dX10_best_86 : decode cX10_best 86 = .ok (.lload 5, 2) := by decide +kernel
theorem dX10_best_88 : decode cX10_best 88 = .ok (.lstore_n 2, 1) := by decide +kernel
theorem dX10_best_89 : decode cX10_best 89 = .ok (.aload_n 0, 1) := by decide +kernel
theorem dX10_best_90 : decode cX10_best 90 = .ok (.invokevirtual 289, 3) := by decide +kernel
theorem dX10_best_93 : decode cX10_best 93 = .ok (.iinc 4 1, 3) := by decide +kernel
theorem dX10_best_96 : decode cX10_best 96 = .ok (.goto (-84), 3) := by decide +kernel
theorem dX10_best_99 : decode cX10_best 99 = .ok (.iload_n 1, 1) := by decide +kernel
theorem dX10_best_100 : decode cX10_best 100 = .ok (.ireturn, 1) := by decide +kernel
theorem dX10_apart_0 : decode cX10_apart 0 = .ok (.aload_n 0, 1) := by decide +kernel
theorem dX10_apart_1 : decode cX10_apart 1 = .ok (.iconst 0, 1) := by decide +kernel
theorem dX10_apart_2 : decode cX10_apart 2 = .ok (.putfield 70, 3) := by decide +kernel
theorem dX10_apart_5 : decode cX10_apart 5 = .ok (.lconst 0, 1) := by decide +kernel
theorem dX10_apart_6 : decode cX10_apart 6 = .ok (.lstore_n 1, 1) := by decide +kernel
theorem dX10_apart_7 : decode cX10_apart 7 = .ok (.iconst 0, 1) := by decide +kernel
theorem dX10_apart_8 : decode cX10_apart 8 = .ok (.istore_n 3, 1) := by decide +kernel
theorem dX10_apart_9 : decode cX10_apart 9 = .ok (.iload_n 3, 1) := by decide +kernel
theorem dX10_apart_10 : decode cX10_apart 10 = .ok (.iconst 2, 1) := by decide +kernel
theorem dX10_apart_11 : decode cX10_apart 11 = .ok (.if_icmp .ge 104, 3) := by decide +kernel
theorem dX10_apart_14 : decode cX10_apart 14 = .ok (.aload_n 0, 1) := by decide +kernel
theorem dX10_apart_15 : decode cX10_apart 15 = .ok (.invokevirtual 311, 3) := by decide +kernel
theorem dX10_apart_18 : decode cX10_apart 18 = .ok (.aload_n 0, 1) := by decide +kernel
theorem dX10_apart_19 : decode cX10_apart 19 = .ok (.iload_n 3, 1) := by decide +kernel
theorem dX10_apart_20 : decode cX10_apart 20 = .ok (.putfield 169, 3) := by decide +kernel
theorem dX10_apart_23 : decode cX10_apart 23 = .ok (.aload_n 0, 1) := by decide +kernel
theorem dX10_apart_24 : decode cX10_apart 24 = .ok (.invokevirtual 280, 3) := by decide +kernel
theorem dX10_apart_27 : decode cX10_apart 27 = .ok (.iconst 0, 1) := by decide +kernel
theorem dX10_apart_28 : decode cX10_apart 28 = .ok (.istore 4, 2) := by decide +kernel
theorem dX10_apart_30 : decode cX10_apart 30 = .ok (.iload 4, 2) := by decide +kernel
theorem dX10_apart_32 : decode cX10_apart 32 = .ok (.bipush 64, 2) := by decide +kernel
theorem dX10_apart_34 : decode cX10_apart 34 = .ok (.if_icmp .ge 71, 3) := by decide +kernel
theorem dX10_apart_37 : decode cX10_apart 37 = .ok (.aload_n 0, 1) := by decide +kernel
theorem dX10_apart_38 : decode cX10_apart 38 = .ok (.iload 4, 2) := by decide +kernel
theorem dX10_apart_40 : decode cX10_apart 40 = .ok (.invokevirtual 187, 3) := by decide +kernel
theorem dX10_apart_43 : decode cX10_apart 43 = .ok (.i2l, 1) := by decide +kernel
theorem dX10_apart_44 : decode cX10_apart 44 = .ok (.aload_n 0, 1) := by decide +kernel
theorem dX10_apart_45 : decode cX10_apart 45 = .ok (.sipush 128, 3) := by decide +kernel
theorem dX10_apart_48 : decode cX10_apart 48 = .ok (.invokevirtual 187, 3) := by decide +kernel
theorem dX10_apart_51 : decode cX10_apart 51 = .ok (.lshl, 1) := by decide +kernel
theorem dX10_apart_52 : decode cX10_apart 52 = .ok (.lstore 5, 2) := by decide +kernel
theorem dX10_apart_54 : decode cX10_apart 54 = .ok (.iload_n 3, 1) := by decide +kernel
theorem dX10_apart_55 : decode cX10_apart 55 = .ok (.ifCond .ne 7, 3) := by decide +kernel
theorem dX10_apart_58 : decode cX10_apart 58 = .ok (.lconst 0, 1) := by decide +kernel
theorem dX10_apart_59 : decode cX10_apart 59 = .ok (.goto 15, 3) := by decide +kernel
theorem dX10_apart_62 : decode cX10_apart 62 = .ok (.lload 5, 2) := by decide +kernel
theorem dX10_apart_64 : decode cX10_apart 64 = .ok (.aload_n 0, 1) := by decide +kernel
theorem dX10_apart_65 : decode cX10_apart 65 = .ok (.getfield 48, 3) := by decide +kernel
theorem dX10_apart_68 : decode cX10_apart 68 = .ok (.iload 4, 2) := by decide +kernel
theorem dX10_apart_70 : decode cX10_apart 70 = .ok (.laload, 1) := by decide +kernel
theorem dX10_apart_71 : decode cX10_apart 71 = .ok (.invokestatic 326, 3) := by decide +kernel
theorem dX10_apart_74 : decode cX10_apart 74 = .ok (.lstore 7, 2) := by decide +kernel
theorem dX10_apart_76 : decode cX10_apart 76 = .ok (.aload_n 0, 1) := by decide +kernel
theorem dX10_apart_77 : decode cX10_apart 77 = .ok (.getfield 48, 3) := by decide +kernel
theorem dX10_apart_80 : decode cX10_apart 80 = .ok (.iload 4, 2) := by decide +kernel
theorem dX10_apart_82 : decode cX10_apart 82 = .ok (.lload 5, 2) := by decide +kernel
theorem dX10_apart_84 : decode cX10_apart 84 = .ok (.lastore, 1) := by decide +kernel
theorem dX10_apart_85 : decode cX10_apart 85 = .ok (.lload 7, 2) := by decide +kernel
theorem dX10_apart_87 : decode cX10_apart 87 = .ok (.lload_n 1, 1) := by decide +kernel
theorem dX10_apart_88 : decode cX10_apart 88 = .ok (.lcmp, 1) := by decide +kernel
theorem dX10_apart_89 : decode cX10_apart 89 = .ok (.ifCond .le 8, 3) := by decide +kernel
theorem dX10_apart_92 : decode cX10_apart 92 = .ok (.lload 7, 2) := by decide +kernel
theorem dX10_apart_94 : decode cX10_apart 94 = .ok (.goto 4, 3) := by decide +kernel
theorem dX10_apart_97 : decode cX10_apart 97 = .ok (.lload_n 1, 1) := by decide +kernel
theorem dX10_apart_98 : decode cX10_apart 98 = .ok (.lstore_n 1, 1) := by decide +kernel
theorem dX10_apart_99 : decode cX10_apart 99 = .ok (.iinc 4 1, 3) := by decide +kernel
theorem dX10_apart_102 : decode cX10_apart 102 = .ok (.goto (-72), 3) := by decide +kernel
theorem dX10_apart_105 : decode cX10_apart 105 = .ok (.aload_n 0, 1) := by decide +kernel
theorem dX10_apart_106 : decode cX10_apart 106 = .ok (.invokevirtual 289, 3) := by decide +kernel
theorem dX10_apart_109 : decode cX10_apart 109 = .ok (.iinc 3 1, 3) := by decide +kernel
theorem dX10_apart_112 : decode cX10_apart 112 = .ok (.goto (-103), 3) := by decide +kernel
theorem dX10_apart_115 : decode cX10_apart 115 = .ok (.lload_n 1, 1) := by decide +kernel
theorem dX10_apart_116 : decode cX10_apart 116 = .ok (.lreturn, 1) := by decide +kernel
theorem dX10_returned_0 : decode cX10_returned 0 = .ok (.aload_n 0, 1) := by decide +kernel
theorem dX10_returned_1 : decode cX10_returned 1 = .ok (.iconst 0, 1) := by decide +kernel
theorem dX10_returned_2 : decode cX10_returned 2 = .ok (.putfield 70, 3) := by decide +kernel
theorem dX10_returned_5 : decode cX10_returned 5 = .ok (.aload_n 0, 1) := by decide +kernel
theorem dX10_returned_6 : decode cX10_returned 6 = .ok (.invokevirtual 311, 3) := by decide +kernel
theorem dX10_returned_9 : decode cX10_returned 9 = .ok (.aload_n 0, 1) := by decide +kernel
theorem dX10_returned_10 : decode cX10_returned 10 = .ok (.invokevirtual 280, 3) := by decide +kernel
theorem dX10_returned_13 : decode cX10_returned 13 = .ok (.aload_n 0, 1) := by decide +kernel
theorem dX10_returned_14 : decode cX10_returned 14 = .ok (.invokevirtual 286, 3) := by decide +kernel
theorem dX10_returned_17 : decode cX10_returned 17 = .ok (.aload_n 0, 1) := by decide +kernel
theorem dX10_returned_18 : decode cX10_returned 18 = .ok (.invokevirtual 280, 3) := by decide +kernel
theorem dX10_returned_21 : decode cX10_returned 21 = .ok (.aload_n 0, 1) := by decide +kernel
theorem dX10_returned_22 : decode cX10_returned 22 = .ok (.sipush 128, 3) := by decide +kernel
theorem dX10_returned_25 : decode cX10_returned 25 = .ok (.invokevirtual 187, 3) := by decide +kernel
theorem dX10_returned_28 : decode cX10_returned 28 = .ok (.aload_n 0, 1) := by decide +kernel
theorem dX10_returned_29 : decode cX10_returned 29 = .ok (.invokevirtual 213, 3) := by decide +kernel
theorem dX10_returned_32 : decode cX10_returned 32 = .ok (.iadd, 1) := by decide +kernel
theorem dX10_returned_33 : decode cX10_returned 33 = .ok (.istore_n 1, 1) := by decide +kernel
theorem dX10_returned_34 : decode cX10_returned 34 = .ok (.lconst 0, 1) := by decide +kernel
theorem dX10_returned_35 : decode cX10_returned 35 = .ok (.lstore_n 2, 1) := by decide +kernel
theorem dX10_returned_36 : decode cX10_returned 36 = .ok (.iconst 0, 1) := by decide +kernel
theorem dX10_returned_37 : decode cX10_returned 37 = .ok (.istore 4, 2) := by decide +kernel
theorem dX10_returned_39 : decode cX10_returned 39 = .ok (.iload 4, 2) := by decide +kernel
theorem dX10_returned_41 : decode cX10_returned 41 = .ok (.bipush 64, 2) := by decide +kernel
theorem dX10_returned_43 : decode cX10_returned 43 = .ok (.if_icmp .ge 52, 3) := by decide +kernel
theorem dX10_returned_46 : decode cX10_returned 46 = .ok (.aload_n 0, 1) := by decide +kernel
theorem dX10_returned_47 : decode cX10_returned 47 = .ok (.iload 4, 2) := by decide +kernel
theorem dX10_returned_49 : decode cX10_returned 49 = .ok (.invokevirtual 187, 3) := by decide +kernel
theorem dX10_returned_52 : decode cX10_returned 52 = .ok (.i2l, 1) := by decide +kernel
theorem dX10_returned_53 : decode cX10_returned 53 = .ok (.iload_n 1, 1) := by decide +kernel
theorem dX10_returned_54 : decode cX10_returned 54 = .ok (.lshl, 1) := by decide +kernel
theorem dX10_returned_55 : decode cX10_returned 55 = .ok (.aload_n 0, 1) := by decide +kernel
theorem dX10_returned_56 : decode cX10_returned 56 = .ok (.bipush 64, 2) := by decide +kernel
theorem dX10_returned_58 : decode cX10_returned 58 = .ok (.iload 4, 2) := by decide +kernel
theorem dX10_returned_60 : decode cX10_returned 60 = .ok (.iadd, 1) := by decide +kernel
theorem dX10_returned_61 : decode cX10_returned 61 = .ok (.invokevirtual 187, 3) := by decide +kernel
theorem dX10_returned_64 : decode cX10_returned 64 = .ok (.i2l, 1) := by decide +kernel
theorem dX10_returned_65 : decode cX10_returned 65 = .ok (.aload_n 0, 1) := by decide +kernel
theorem dX10_returned_66 : decode cX10_returned 66 = .ok (.invokevirtual 213, 3) := by decide +kernel
theorem dX10_returned_69 : decode cX10_returned 69 = .ok (.lshl, 1) := by decide +kernel
theorem dX10_returned_70 : decode cX10_returned 70 = .ok (.invokestatic 326, 3) := by decide +kernel
theorem dX10_returned_73 : decode cX10_returned 73 = .ok (.lstore 5, 2) := by decide +kernel
theorem dX10_returned_75 : decode cX10_returned 75 = .ok (.lload 5, 2) := by decide +kernel
theorem dX10_returned_77 : decode cX10_returned 77 = .ok (.lload_n 2, 1) := by decide +kernel
theorem dX10_returned_78 : decode cX10_returned 78 = .ok (.lcmp, 1) := by decide +kernel
theorem dX10_returned_79 : decode cX10_returned 79 = .ok (.ifCond .le 8, 3) := by decide +kernel
theorem dX10_returned_82 : decode cX10_returned 82 = .ok (.lload 5, 2) := by decide +kernel
theorem dX10_returned_84 : decode cX10_returned 84 = .ok (.goto 4, 3) := by decide +kernel
theorem dX10_returned_87 : decode cX10_returned 87 = .ok (.lload_n 2, 1) := by decide +kernel
theorem dX10_returned_88 : decode cX10_returned 88 = .ok (.lstore_n 2, 1) := by decide +kernel
theorem dX10_returned_89 : decode cX10_returned 89 = .ok (.iinc 4 1, 3) := by decide +kernel
theorem dX10_returned_92 : decode cX10_returned 92 = .ok (.goto (-53), 3) := by decide +kernel
theorem dX10_returned_95 : decode cX10_returned 95 = .ok (.aload_n 0, 1) := by decide +kernel
theorem dX10_returned_96 : decode cX10_returned 96 = .ok (.invokevirtual 289, 3) := by decide +kernel
theorem dX10_returned_99 : decode cX10_returned 99 = .ok (.lload_n 2, 1) := by decide +kernel
theorem dX10_returned_100 : decode cX10_returned 100 = .ok (.lreturn, 1) := by decide +kernel
theorem dX10_squares_0 : decode cX10_squares 0 = .ok (.aload_n 0, 1) := by decide +kernel
theorem dX10_squares_1 : decode cX10_squares 1 = .ok (.iload_n 1, 1) := by decide +kernel
theorem dX10_squares_2 : decode cX10_squares 2 = .ok (.iload_n 2, 1) := by decide +kernel
theorem dX10_squares_3 : decode cX10_squares 3 = .ok (.iadd, 1) := by decide +kernel
theorem dX10_squares_4 : decode cX10_squares 4 = .ok (.invokevirtual 187, 3) := by decide +kernel
theorem dX10_squares_7 : decode cX10_squares 7 = .ok (.i2l, 1) := by decide +kernel
theorem dX10_squares_8 : decode cX10_squares 8 = .ok (.aload_n 0, 1) := by decide +kernel
theorem dX10_squares_9 : decode cX10_squares 9 = .ok (.iload_n 1, 1) := by decide +kernel
theorem dX10_squares_10 : decode cX10_squares 10 = .ok (.iload_n 2, 1) := by decide +kernel
theorem dX10_squares_11 : decode cX10_squares 11 = .ok (.iadd, 1) := by decide +kernel
theorem dX10_squares_12 : decode cX10_squares 12 = .ok (.invokevirtual 187, 3) := by decide +kernel
theorem dX10_squares_15 : decode cX10_squares 15 = .ok (.i2l, 1) := by decide +kernel
theorem dX10_squares_16 : decode cX10_squares 16 = .ok (.lmul, 1) := by decide +kernel
theorem dX10_squares_17 : decode cX10_squares 17 = .ok (.aload_n 0, 1) := by decide +kernel
theorem dX10_squares_18 : decode cX10_squares 18 = .ok (.iload_n 1, 1) := by decide +kernel
theorem dX10_squares_19 : decode cX10_squares 19 = .ok (.bipush 32, 2) := by decide +kernel
theorem dX10_squares_21 : decode cX10_squares 21 = .ok (.iadd, 1) := by decide +kernel
theorem dX10_squares_22 : decode cX10_squares 22 = .ok (.iload_n 2, 1) := by decide +kernel
theorem dX10_squares_23 : decode cX10_squares 23 = .ok (.iadd, 1) := by decide +kernel
theorem dX10_squares_24 : decode cX10_squares 24 = .ok (.invokevirtual 187, 3) := by decide +kernel
theorem dX10_squares_27 : decode cX10_squares 27 = .ok (.i2l, 1) := by decide +kernel
theorem dX10_squares_28 : decode cX10_squares 28 = .ok (.aload_n 0, 1) := by decide +kernel
theorem dX10_squares_29 : decode cX10_squares 29 = .ok (.iload_n 1, 1) := by decide +kernel
theorem dX10_squares_30 : decode cX10_squares 30 = .ok (.bipush 32, 2) := by decide +kernel
theorem dX10_squares_32 : decode cX10_squares 32 = .ok (.iadd, 1) := by decide +kernel
theorem dX10_squares_33 : decode cX10_squares 33 = .ok (.iload_n 2, 1) := by decide +kernel
theorem dX10_squares_34 : decode cX10_squares 34 = .ok (.iadd, 1) := by decide +kernel
theorem dX10_squares_35 : decode cX10_squares 35 = .ok (.invokevirtual 187, 3) := by decide +kernel
theorem dX10_squares_38 : decode cX10_squares 38 = .ok (.i2l, 1) := by decide +kernel
theorem dX10_squares_39 : decode cX10_squares 39 = .ok (.lmul, 1) := by decide +kernel
theorem dX10_squares_40 : decode cX10_squares 40 = .ok (.ladd, 1) := by decide +kernel
theorem dX10_squares_41 : decode cX10_squares 41 = .ok (.lreturn, 1) := by decide +kernel
theorem dX10_energy_0 : decode cX10_energy 0 = .ok (.aload_n 0, 1) := by decide +kernel
theorem dX10_energy_1 : decode cX10_energy 1 = .ok (.iconst 0, 1) := by decide +kernel
theorem dX10_energy_2 : decode cX10_energy 2 = .ok (.putfield 70, 3) := by decide +kernel
theorem dX10_energy_5 : decode cX10_energy 5 = .ok (.iload_n 1, 1) := by decide +kernel
theorem dX10_energy_6 : decode cX10_energy 6 = .ok (.iconst 0, 1) := by decide +kernel
theorem dX10_energy_7 : decode cX10_energy 7 = .ok (.iconst 1, 1) := by decide +kernel
theorem dX10_energy_8 : decode cX10_energy 8 = .ok (.invokestatic 138, 3) := by decide +kernel
theorem dX10_energy_11 : decode cX10_energy 11 = .ok (.ifCond .ne 7, 3) := by decide +kernel
theorem dX10_energy_14 : decode cX10_energy 14 = .ok (.ldc2_w 330, 3) := by decide +kernel
theorem dX10_energy_17 : decode cX10_energy 17 = .ok (.lreturn, 1) := by decide +kernel
theorem dX10_energy_18 : decode cX10_energy 18 = .ok (.lconst 0, 1) := by decide +kernel
theorem dX10_energy_19 : decode cX10_energy 19 = .ok (.lstore_n 2, 1) := by decide +kernel
theorem dX10_energy_20 : decode cX10_energy 20 = .ok (.iconst 0, 1) := by decide +kernel
theorem dX10_energy_21 : decode cX10_energy 21 = .ok (.istore 4, 2) := by decide +kernel
theorem dX10_energy_23 : decode cX10_energy 23 = .ok (.iload 4, 2) := by decide +kernel
theorem dX10_energy_25 : decode cX10_energy 25 = .ok (.aload_n 0, 1) := by decide +kernel
theorem dX10_energy_26 : decode cX10_energy 26 = .ok (.invokevirtual 196, 3) := by decide +kernel
theorem dX10_energy_29 : decode cX10_energy 29 = .ok (.if_icmp .ge 22, 3) := by decide +kernel
theorem dX10_energy_32 : decode cX10_energy 32 = .ok (.lload_n 2, 1) := by decide +kernel
theorem dX10_energy_33 : decode cX10_energy 33 = .ok (.aload_n 0, 1) := by decide +kernel
theorem dX10_energy_34 : decode cX10_energy 34 = .ok (.bipush 64, 2) := by decide +kernel
theorem dX10_energy_36 : decode cX10_energy 36 = .ok (.iload_n 1, 1) := by decide +kernel
theorem dX10_energy_37 : decode cX10_energy 37 = .ok (.imul, 1) := by decide +kernel
theorem dX10_energy_38 : decode cX10_energy 38 = .ok (.iload 4, 2) := by decide +kernel
theorem dX10_energy_40 : decode cX10_energy 40 = .ok (.invokevirtual 344, 3) := by decide +kernel
theorem dX10_energy_43 : decode cX10_energy 43 = .ok (.ladd, 1) := by decide +kernel
theorem dX10_energy_44 : decode cX10_energy 44 = .ok (.lstore_n 2, 1) := by decide +kernel
theorem dX10_energy_45 : decode cX10_energy 45 = .ok (.iinc 4 1, 3) := by decide +kernel
theorem dX10_energy_48 : decode cX10_energy 48 = .ok (.goto (-25), 3) := by decide +kernel
theorem dX10_energy_51 : decode cX10_energy 51 = .ok (.lload_n 2, 1) := by decide +kernel
theorem dX10_energy_52 : decode cX10_energy 52 = .ok (.lreturn, 1) := by decide +kernel
theorem dX10_peak_0 : decode cX10_peak 0 = .ok (.aload_n 0, 1) := by decide +kernel
theorem dX10_peak_1 : decode cX10_peak 1 = .ok (.iconst 0, 1) := by decide +kernel
theorem dX10_peak_2 : decode cX10_peak 2 = .ok (.putfield 70, 3) := by decide +kernel
theorem dX10_peak_5 : decode cX10_peak 5 = .ok (.aload_n 0, 1) := by decide +kernel
theorem dX10_peak_6 : decode cX10_peak 6 = .ok (.iload_n 1, 1) := by decide +kernel
theorem dX10_peak_7 : decode cX10_peak 7 = .ok (.invokevirtual 203, 3) := by decide +kernel
theorem dX10_peak_10 : decode cX10_peak 10 = .ok (.ifCond .ne 5, 3) := by decide +kernel
theorem dX10_peak_13 : decode cX10_peak 13 = .ok (.iconst (-1), 1) := by decide +kernel
theorem dX10_peak_14 : decode cX10_peak 14 = .ok (.ireturn, 1) := by decide +kernel
theorem dX10_peak_15 : decode cX10_peak 15 = .ok (.aload_n 0, 1) := by decide +kernel
theorem dX10_peak_16 : decode cX10_peak 16 = .ok (.invokevirtual 283, 3) := by decide +kernel
theorem dX10_peak_19 : decode cX10_peak 19 = .ok (.ifCond .ne 6, 3) := by decide +kernel
theorem dX10_peak_22 : decode cX10_peak 22 = .ok (.bipush (-2), 2) := by decide +kernel
theorem dX10_peak_24 : decode cX10_peak 24 = .ok (.ireturn, 1) := by decide +kernel
theorem dX10_peak_25 : decode cX10_peak 25 = .ok (.iconst 0, 1) := by decide +kernel
theorem dX10_peak_26 : decode cX10_peak 26 = .ok (.istore_n 2, 1) := by decide +kernel
theorem dX10_peak_27 : decode cX10_peak 27 = .ok (.iconst 0, 1) := by decide +kernel
theorem dX10_peak_28 : decode cX10_peak 28 = .ok (.istore_n 3, 1) := by decide +kernel
theorem dX10_peak_29 : decode cX10_peak 29 = .ok (.iload_n 3, 1) := by decide +kernel
theorem dX10_peak_30 : decode cX10_peak 30 = .ok (.aload_n 0, 1) := by decide +kernel
theorem dX10_peak_31 : decode cX10_peak 31 = .ok (.invokevirtual 196, 3) := by decide +kernel
theorem dX10_peak_34 : decode cX10_peak 34 = .ok (.if_icmp .ge 88, 3) := by decide +kernel
theorem dX10_peak_37 : decode cX10_peak 37 = .ok (.iconst 0, 1) := by decide +kernel
theorem dX10_peak_38 : decode cX10_peak 38 = .ok (.istore 4, 2) := by decide +kernel
theorem dX10_peak_40 : decode cX10_peak 40 = .ok (.iconst 0, 1) := by decide +kernel
theorem dX10_peak_41 : decode cX10_peak 41 = .ok (.istore 5, 2) := by decide +kernel
theorem dX10_peak_43 : decode cX10_peak 43 = .ok (.iload 5, 2) := by decide +kernel
theorem dX10_peak_45 : decode cX10_peak 45 = .ok (.aload_n 0, 1) := by decide +kernel
theorem dX10_peak_46 : decode cX10_peak 46 = .ok (.invokevirtual 196, 3) := by decide +kernel
theorem dX10_peak_49 : decode cX10_peak 49 = .ok (.if_icmp .ge 55, 3) := by decide +kernel
theorem dX10_peak_52 : decode cX10_peak 52 = .ok (.aload_n 0, 1) := by decide +kernel
theorem dX10_peak_53 : decode cX10_peak 53 = .ok (.iconst 0, 1) := by decide +kernel
theorem dX10_peak_54 : decode cX10_peak 54 = .ok (.iload 5, 2) := by decide +kernel
theorem dX10_peak_56 : decode cX10_peak 56 = .ok (.invokevirtual 344, 3) := by decide +kernel
theorem dX10_peak_59 : decode cX10_peak 59 = .ok (.aload_n 0, 1) := by decide +kernel
theorem dX10_peak_60 : decode cX10_peak 60 = .ok (.iconst 0, 1) := by decide +kernel
theorem dX10_peak_61 : decode cX10_peak 61 = .ok (.iload_n 3, 1) := by decide +kernel
theorem dX10_peak_62 : decode cX10_peak 62 = .ok (.invokevirtual 344, 3) := by decide +kernel
theorem dX10_peak_65 : decode cX10_peak 65 = .ok (.lsub, 1) := by decide +kernel
theorem dX10_peak_66 : decode cX10_peak 66 = .ok (.lstore 6, 2) := by decide +kernel
theorem dX10_peak_68 : decode cX10_peak 68 = .ok (.iload 4, 2) := by decide +kernel
theorem dX10_peak_70 : decode cX10_peak 70 = .ok (.lload 6, 2) := by decide +kernel
theorem dX10_peak_72 : decode cX10_peak 72 = .ok (.lconst 0, 1) := by decide +kernel
theorem dX10_peak_73 : decode cX10_peak 73 = .ok (.lcmp, 1) := by decide +kernel
theorem dX10_peak_74 : decode cX10_peak 74 = .ok (.ifCond .gt 16, 3) := by decide +kernel
theorem dX10_peak_77 : decode cX10_peak 77 = .ok (.lload 6, 2) := by decide +kernel
theorem dX10_peak_79 : decode cX10_peak 79 = .ok (.lconst 0, 1) := by decide +kernel
theorem dX10_peak_80 : decode cX10_peak 80 = .ok (.lcmp, 1) := by decide +kernel
theorem dX10_peak_81 : decode cX10_peak 81 = .ok (.ifCond .ne 13, 3) := by decide +kernel
theorem dX10_peak_84 : decode cX10_peak 84 = .ok (.iload 5, 2) := by decide +kernel
theorem dX10_peak_86 : decode cX10_peak 86 = .ok (.iload_n 3, 1) := by decide +kernel
theorem dX10_peak_87 : decode cX10_peak 87 = .ok (.if_icmp .ge 7, 3) := by decide +kernel
theorem dX10_peak_90 : decode cX10_peak 90 = .ok (.iconst 1, 1) := by decide +kernel
theorem dX10_peak_91 : decode cX10_peak 91 = .ok (.goto 4, 3) := by decide +kernel
theorem dX10_peak_94 : decode cX10_peak 94 = .ok (.iconst 0, 1) := by decide +kernel
theorem dX10_peak_95 : decode cX10_peak 95 = .ok (.iadd, 1) := by decide +kernel
theorem dX10_peak_96 : decode cX10_peak 96 = .ok (.istore 4, 2) := by decide +kernel
theorem dX10_peak_98 : decode cX10_peak 98 = .ok (.iinc 5 1, 3) := by decide +kernel
theorem dX10_peak_101 : decode cX10_peak 101 = .ok (.goto (-58), 3) := by decide +kernel
theorem dX10_peak_104 : decode cX10_peak 104 = .ok (.iload 4, 2) := by decide +kernel
theorem dX10_peak_106 : decode cX10_peak 106 = .ok (.iload_n 1, 1) := by decide +kernel
theorem dX10_peak_107 : decode cX10_peak 107 = .ok (.if_icmp .ne 7, 3) := by decide +kernel
theorem dX10_peak_110 : decode cX10_peak 110 = .ok (.iload_n 3, 1) := by decide +kernel
theorem dX10_peak_111 : decode cX10_peak 111 = .ok (.goto 4, 3) := by decide +kernel
theorem dX10_peak_114 : decode cX10_peak 114 = .ok (.iload_n 2, 1) := by decide +kernel
theorem dX10_peak_115 : decode cX10_peak 115 = .ok (.istore_n 2, 1) := by decide +kernel
theorem dX10_peak_116 : decode cX10_peak 116 = .ok (.iinc 3 1, 3) := by decide +kernel
theorem dX10_peak_119 : decode cX10_peak 119 = .ok (.goto (-90), 3) := by decide +kernel
theorem dX10_peak_122 : decode cX10_peak 122 = .ok (.iload_n 2, 1) := by decide +kernel
theorem dX10_peak_123 : decode cX10_peak 123 = .ok (.ireturn, 1) := by decide +kernel
theorem dX10_over_0 : decode cX10_over 0 = .ok (.aload_n 0, 1) := by decide +kernel
theorem dX10_over_1 : decode cX10_over 1 = .ok (.iconst 0, 1) := by decide +kernel
theorem dX10_over_2 : decode cX10_over 2 = .ok (.putfield 70, 3) := by decide +kernel
theorem dX10_over_5 : decode cX10_over 5 = .ok (.iload_n 1, 1) := by decide +kernel
theorem dX10_over_6 : decode cX10_over 6 = .ok (.ifCond .ge 5, 3) := by decide +kernel
theorem dX10_over_9 : decode cX10_over 9 = .ok (.iconst (-1), 1) := by decide +kernel
theorem dX10_over_10 : decode cX10_over 10 = .ok (.ireturn, 1) := by decide +kernel
theorem dX10_over_11 : decode cX10_over 11 = .ok (.iconst 0, 1) := by decide +kernel
theorem dX10_over_12 : decode cX10_over 12 = .ok (.istore_n 2, 1) := by decide +kernel
theorem dX10_over_13 : decode cX10_over 13 = .ok (.iconst 0, 1) := by decide +kernel
theorem dX10_over_14 : decode cX10_over 14 = .ok (.istore_n 3, 1) := by decide +kernel
theorem dX10_over_15 : decode cX10_over 15 = .ok (.iload_n 3, 1) := by decide +kernel
theorem dX10_over_16 : decode cX10_over 16 = .ok (.aload_n 0, 1) := by decide +kernel
theorem dX10_over_17 : decode cX10_over 17 = .ok (.invokevirtual 196, 3) := by decide +kernel
theorem dX10_over_20 : decode cX10_over 20 = .ok (.if_icmp .ge 29, 3) := by decide +kernel
theorem dX10_over_23 : decode cX10_over 23 = .ok (.iload_n 2, 1) := by decide +kernel
theorem dX10_over_24 : decode cX10_over 24 = .ok (.aload_n 0, 1) := by decide +kernel
theorem dX10_over_25 : decode cX10_over 25 = .ok (.iconst 0, 1) := by decide +kernel
theorem dX10_over_26 : decode cX10_over 26 = .ok (.iload_n 3, 1) := by decide +kernel
theorem dX10_over_27 : decode cX10_over 27 = .ok (.invokevirtual 344, 3) := by decide +kernel
theorem dX10_over_30 : decode cX10_over 30 = .ok (.iload_n 1, 1) := by decide +kernel
theorem dX10_over_31 : decode cX10_over 31 = .ok (.i2l, 1) := by decide +kernel
theorem dX10_over_32 : decode cX10_over 32 = .ok (.lcmp, 1) := by decide +kernel
theorem dX10_over_33 : decode cX10_over 33 = .ok (.ifCond .lt 7, 3) := by decide +kernel
theorem dX10_over_36 : decode cX10_over 36 = .ok (.iconst 1, 1) := by decide +kernel
theorem dX10_over_37 : decode cX10_over 37 = .ok (.goto 4, 3) := by decide +kernel
theorem dX10_over_40 : decode cX10_over 40 = .ok (.iconst 0, 1) := by decide +kernel
theorem dX10_over_41 : decode cX10_over 41 = .ok (.iadd, 1) := by decide +kernel
theorem dX10_over_42 : decode cX10_over 42 = .ok (.istore_n 2, 1) := by decide +kernel
theorem dX10_over_43 : decode cX10_over 43 = .ok (.iinc 3 1, 3) := by decide +kernel
theorem dX10_over_46 : decode cX10_over 46 = .ok (.goto (-31), 3) := by decide +kernel
theorem dX10_over_49 : decode cX10_over 49 = .ok (.iload_n 2, 1) := by decide +kernel
theorem dX10_over_50 : decode cX10_over 50 = .ok (.ireturn, 1) := by decide +kernel
theorem dX10_otherOf_0 : decode cX10_otherOf 0 = .ok (.aload_n 0, 1) := by decide +kernel
theorem dX10_otherOf_1 : decode cX10_otherOf 1 = .ok (.invokevirtual 196, 3) := by decide +kernel
theorem dX10_otherOf_4 : decode cX10_otherOf 4 = .ok (.iload_n 1, 1) := by decide +kernel
theorem dX10_otherOf_5 : decode cX10_otherOf 5 = .ok (.isub, 1) := by decide +kernel
theorem dX10_otherOf_6 : decode cX10_otherOf 6 = .ok (.aload_n 0, 1) := by decide +kernel
theorem dX10_otherOf_7 : decode cX10_otherOf 7 = .ok (.invokevirtual 196, 3) := by decide +kernel
theorem dX10_otherOf_10 : decode cX10_otherOf 10 = .ok (.irem, 1) := by decide +kernel
theorem dX10_otherOf_11 : decode cX10_otherOf 11 = .ok (.ireturn, 1) := by decide +kernel
theorem dX10_mirror_0 : decode cX10_mirror 0 = .ok (.aload_n 0, 1) := by decide +kernel
theorem dX10_mirror_1 : decode cX10_mirror 1 = .ok (.iconst 0, 1) := by decide +kernel
theorem dX10_mirror_2 : decode cX10_mirror 2 = .ok (.putfield 70, 3) := by decide +kernel
theorem dX10_mirror_5 : decode cX10_mirror 5 = .ok (.aload_n 0, 1) := by decide +kernel
theorem dX10_mirror_6 : decode cX10_mirror 6 = .ok (.invokevirtual 283, 3) := by decide +kernel
theorem dX10_mirror_9 : decode cX10_mirror 9 = .ok (.ifCond .ne 6, 3) := by decide +kernel
theorem dX10_mirror_12 : decode cX10_mirror 12 = .ok (.bipush (-2), 2) := by decide +kernel
theorem dX10_mirror_14 : decode cX10_mirror 14 = .ok (.ireturn, 1) := by decide +kernel
theorem dX10_mirror_15 : decode cX10_mirror 15 = .ok (.iconst 0, 1) := by decide +kernel
theorem dX10_mirror_16 : decode cX10_mirror 16 = .ok (.istore_n 1, 1) := by decide +kernel
theorem dX10_mirror_17 : decode cX10_mirror 17 = .ok (.iconst 0, 1) := by decide +kernel
theorem dX10_mirror_18 : decode cX10_mirror 18 = .ok (.istore_n 2, 1) := by decide +kernel
theorem dX10_mirror_19 : decode cX10_mirror 19 = .ok (.iload_n 2, 1) := by decide +kernel
theorem dX10_mirror_20 : decode cX10_mirror 20 = .ok (.aload_n 0, 1) := by decide +kernel
theorem dX10_mirror_21 : decode cX10_mirror 21 = .ok (.invokevirtual 196, 3) := by decide +kernel
theorem dX10_mirror_24 : decode cX10_mirror 24 = .ok (.if_icmp .ge 78, 3) := by decide +kernel
theorem dX10_mirror_27 : decode cX10_mirror 27 = .ok (.aload_n 0, 1) := by decide +kernel
theorem dX10_mirror_28 : decode cX10_mirror 28 = .ok (.iload_n 2, 1) := by decide +kernel
theorem dX10_mirror_29 : decode cX10_mirror 29 = .ok (.invokevirtual 187, 3) := by decide +kernel
theorem dX10_mirror_32 : decode cX10_mirror 32 = .ok (.aload_n 0, 1) := by decide +kernel
theorem dX10_mirror_33 : decode cX10_mirror 33 = .ok (.aload_n 0, 1) := by decide +kernel
theorem dX10_mirror_34 : decode cX10_mirror 34 = .ok (.iload_n 2, 1) := by decide +kernel
theorem dX10_mirror_35 : decode cX10_mirror 35 = .ok (.invokevirtual 347, 3) := by decide +kernel
theorem dX10_mirror_38 : decode cX10_mirror 38 = .ok (.invokevirtual 187, 3) := by decide +kernel
theorem dX10_mirror_41 : decode cX10_mirror 41 = .ok (.isub, 1) := by decide +kernel
theorem dX10_mirror_42 : decode cX10_mirror 42 = .ok (.invokestatic 228, 3) := by decide +kernel
theorem dX10_mirror_45 : decode cX10_mirror 45 = .ok (.istore_n 3, 1) := by decide +kernel
theorem dX10_mirror_46 : decode cX10_mirror 46 = .ok (.aload_n 0, 1) := by decide +kernel
theorem dX10_mirror_47 : decode cX10_mirror 47 = .ok (.bipush 32, 2) := by decide +kernel
theorem dX10_mirror_49 : decode cX10_mirror 49 = .ok (.iload_n 2, 1) := by decide +kernel
theorem dX10_mirror_50 : decode cX10_mirror 50 = .ok (.iadd, 1) := by decide +kernel
theorem dX10_mirror_51 : decode cX10_mirror 51 = .ok (.invokevirtual 187, 3) := by decide +kernel
theorem dX10_mirror_54 : decode cX10_mirror 54 = .ok (.aload_n 0, 1) := by decide +kernel
theorem dX10_mirror_55 : decode cX10_mirror 55 = .ok (.bipush 32, 2) := by decide +kernel
theorem dX10_mirror_57 : decode cX10_mirror 57 = .ok (.aload_n 0, 1) := by decide +kernel
theorem dX10_mirror_58 : decode cX10_mirror 58 = .ok (.iload_n 2, 1) := by decide +kernel
theorem dX10_mirror_59 : decode cX10_mirror 59 = .ok (.invokevirtual 347, 3) := by decide +kernel
theorem dX10_mirror_62 : decode cX10_mirror 62 = .ok (.iadd, 1) := by decide +kernel
theorem dX10_mirror_63 : decode cX10_mirror 63 = .ok (.invokevirtual 187, 3) := by decide +kernel
theorem dX10_mirror_66 : decode cX10_mirror 66 = .ok (.iadd, 1) := by decide +kernel
theorem dX10_mirror_67 : decode cX10_mirror 67 = .ok (.invokestatic 228, 3) := by decide +kernel
theorem dX10_mirror_70 : decode cX10_mirror 70 = .ok (.istore 4, 2) := by decide +kernel
theorem dX10_mirror_72 : decode cX10_mirror 72 = .ok (.iload_n 3, 1) := by decide +kernel
theorem dX10_mirror_73 : decode cX10_mirror 73 = .ok (.iload_n 1, 1) := by decide +kernel
theorem dX10_mirror_74 : decode cX10_mirror 74 = .ok (.if_icmp .le 7, 3) := by decide +kernel
theorem dX10_mirror_77 : decode cX10_mirror 77 = .ok (.iload_n 3, 1) := by decide +kernel
theorem dX10_mirror_78 : decode cX10_mirror 78 = .ok (.goto 4, 3) := by decide +kernel
theorem dX10_mirror_81 : decode cX10_mirror 81 = .ok (.iload_n 1, 1) := by decide +kernel
theorem dX10_mirror_82 : decode cX10_mirror 82 = .ok (.istore_n 1, 1) := by decide +kernel
theorem dX10_mirror_83 : decode cX10_mirror 83 = .ok (.iload 4, 2) := by decide +kernel
theorem dX10_mirror_85 : decode cX10_mirror 85 = .ok (.iload_n 1, 1) := by decide +kernel
theorem dX10_mirror_86 : decode cX10_mirror 86 = .ok (.if_icmp .le 8, 3) := by decide +kernel
theorem dX10_mirror_89 : decode cX10_mirror 89 = .ok (.iload 4, 2) := by decide +kernel
theorem dX10_mirror_91 : decode cX10_mirror 91 = .ok (.goto 4, 3) := by decide +kernel
theorem dX10_mirror_94 : decode cX10_mirror 94 = .ok (.iload_n 1, 1) := by decide +kernel
theorem dX10_mirror_95 : decode cX10_mirror 95 = .ok (.istore_n 1, 1) := by decide +kernel
theorem dX10_mirror_96 : decode cX10_mirror 96 = .ok (.iinc 2 1, 3) := by decide +kernel
theorem dX10_mirror_99 : decode cX10_mirror 99 = .ok (.goto (-80), 3) := by decide +kernel
theorem dX10_mirror_102 : decode cX10_mirror 102 = .ok (.iload_n 1, 1) := by decide +kernel
theorem dX10_mirror_103 : decode cX10_mirror 103 = .ok (.ireturn, 1) := by decide +kernel
theorem dX10_pair_0 : decode cX10_pair 0 = .ok (.aload_n 0, 1) := by decide +kernel
theorem dX10_pair_1 : decode cX10_pair 1 = .ok (.iconst 0, 1) := by decide +kernel
theorem dX10_pair_2 : decode cX10_pair 2 = .ok (.putfield 70, 3) := by decide +kernel
theorem dX10_pair_5 : decode cX10_pair 5 = .ok (.aload_n 0, 1) := by decide +kernel
theorem dX10_pair_6 : decode cX10_pair 6 = .ok (.iload_n 1, 1) := by decide +kernel
theorem dX10_pair_7 : decode cX10_pair 7 = .ok (.invokevirtual 203, 3) := by decide +kernel
theorem dX10_pair_10 : decode cX10_pair 10 = .ok (.ifCond .eq 28, 3) := by decide +kernel
theorem dX10_pair_13 : decode cX10_pair 13 = .ok (.iload_n 2, 1) := by decide +kernel
theorem dX10_pair_14 : decode cX10_pair 14 = .ok (.iconst 0, 1) := by decide +kernel
theorem dX10_pair_15 : decode cX10_pair 15 = .ok (.iconst 1, 1) := by decide +kernel
theorem dX10_pair_16 : decode cX10_pair 16 = .ok (.invokestatic 138, 3) := by decide +kernel
theorem dX10_pair_19 : decode cX10_pair 19 = .ok (.ifCond .eq 19, 3) := by decide +kernel
theorem dX10_pair_22 : decode cX10_pair 22 = .ok (.iload_n 3, 1) := by decide +kernel
theorem dX10_pair_23 : decode cX10_pair 23 = .ok (.iconst 0, 1) := by decide +kernel
theorem dX10_pair_24 : decode cX10_pair 24 = .ok (.iconst 1, 1) := by decide +kernel
theorem dX10_pair_25 : decode cX10_pair 25 = .ok (.invokestatic 138, 3) := by decide +kernel
theorem dX10_pair_28 : decode cX10_pair 28 = .ok (.ifCond .eq 10, 3) := by decide +kernel
theorem dX10_pair_31 : decode cX10_pair 31 = .ok (.aload_n 0, 1) := by decide +kernel
theorem dX10_pair_32 : decode cX10_pair 32 = .ok (.invokevirtual 283, 3) := by decide +kernel
theorem dX10_pair_35 : decode cX10_pair 35 = .ok (.ifCond .ne 6, 3) := by decide +kernel
theorem dX10_pair_38 : decode cX10_pair 38 = .ok (.ldc 206, 2) := by decide +kernel
theorem dX10_pair_40 : decode cX10_pair 40 = .ok (.ireturn, 1) := by decide +kernel
theorem dX10_pair_41 : decode cX10_pair 41 = .ok (.aload_n 0, 1) := by decide +kernel
theorem dX10_pair_42 : decode cX10_pair 42 = .ok (.iload_n 1, 1) := by decide +kernel
theorem dX10_pair_43 : decode cX10_pair 43 = .ok (.invokevirtual 347, 3) := by decide +kernel
theorem dX10_pair_46 : decode cX10_pair 46 = .ok (.istore 4, 2) := by decide +kernel
theorem dX10_pair_48 : decode cX10_pair 48 = .ok (.iload_n 3, 1) := by decide +kernel
theorem dX10_pair_49 : decode cX10_pair 49 = .ok (.ifCond .ne 41, 3) := by decide +kernel
theorem dX10_pair_52 : decode cX10_pair 52 = .ok (.iload_n 2, 1) := by decide +kernel
theorem dX10_pair_53 : decode cX10_pair 53 = .ok (.ifCond .ne 18, 3) := by decide +kernel
theorem dX10_pair_56 : decode cX10_pair 56 = .ok (.aload_n 0, 1) := by decide +kernel
theorem dX10_pair_57 : decode cX10_pair 57 = .ok (.iload_n 1, 1) := by decide +kernel
theorem dX10_pair_58 : decode cX10_pair 58 = .ok (.invokevirtual 187, 3) := by decide +kernel
theorem dX10_pair_61 : decode cX10_pair 61 = .ok (.aload_n 0, 1) := by decide +kernel
theorem dX10_pair_62 : decode cX10_pair 62 = .ok (.iload 4, 2) := by decide +kernel
theorem dX10_pair_64 : decode cX10_pair 64 = .ok (.invokevirtual 187, 3) := by decide +kernel
theorem dX10_pair_67 : decode cX10_pair 67 = .ok (.iadd, 1) := by decide +kernel
theorem dX10_pair_68 : decode cX10_pair 68 = .ok (.goto 21, 3) := by decide +kernel
theorem dX10_pair_71 : decode cX10_pair 71 = .ok (.aload_n 0, 1) := by decide +kernel
theorem dX10_pair_72 : decode cX10_pair 72 = .ok (.bipush 32, 2) := by decide +kernel
theorem dX10_pair_74 : decode cX10_pair 74 = .ok (.iload_n 1, 1) := by decide +kernel
theorem dX10_pair_75 : decode cX10_pair 75 = .ok (.iadd, 1) := by decide +kernel
theorem dX10_pair_76 : decode cX10_pair 76 = .ok (.invokevirtual 187, 3) := by decide +kernel
theorem dX10_pair_79 : decode cX10_pair 79 = .ok (.aload_n 0, 1) := by decide +kernel
theorem dX10_pair_80 : decode cX10_pair 80 = .ok (.bipush 32, 2) := by decide +kernel
theorem dX10_pair_82 : decode cX10_pair 82 = .ok (.iload 4, 2) := by decide +kernel
theorem dX10_pair_84 : decode cX10_pair 84 = .ok (.iadd, 1) := by decide +kernel
theorem dX10_pair_85 : decode cX10_pair 85 = .ok (.invokevirtual 187, 3) := by decide +kernel
theorem dX10_pair_88 : decode cX10_pair 88 = .ok (.iadd, 1) := by decide +kernel
theorem dX10_pair_89 : decode cX10_pair 89 = .ok (.ireturn, 1) := by decide +kernel
theorem dX10_pair_90 : decode cX10_pair 90 = .ok (.iload_n 2, 1) := by decide +kernel
theorem dX10_pair_91 : decode cX10_pair 91 = .ok (.ifCond .ne 24, 3) := by decide +kernel
theorem dX10_pair_94 : decode cX10_pair 94 = .ok (.aload_n 0, 1) := by decide +kernel
theorem dX10_pair_95 : decode cX10_pair 95 = .ok (.bipush 32, 2) := by decide +kernel
theorem dX10_pair_97 : decode cX10_pair 97 = .ok (.iload_n 1, 1) := by decide +kernel
theorem dX10_pair_98 : decode cX10_pair 98 = .ok (.iadd, 1) := by decide +kernel
theorem dX10_pair_99 : decode cX10_pair 99 = .ok (.invokevirtual 187, 3) := by decide +kernel
theorem dX10_pair_102 : decode cX10_pair 102 = .ok (.aload_n 0, 1) := by decide +kernel
theorem dX10_pair_103 : decode cX10_pair 103 = .ok (.bipush 32, 2) := by decide +kernel
theorem dX10_pair_105 : decode cX10_pair 105 = .ok (.iload 4, 2) := by decide +kernel
theorem dX10_pair_107 : decode cX10_pair 107 = .ok (.iadd, 1) := by decide +kernel
theorem dX10_pair_108 : decode cX10_pair 108 = .ok (.invokevirtual 187, 3) := by decide +kernel
theorem dX10_pair_111 : decode cX10_pair 111 = .ok (.isub, 1) := by decide +kernel
theorem dX10_pair_112 : decode cX10_pair 112 = .ok (.goto 15, 3) := by decide +kernel
theorem dX10_pair_115 : decode cX10_pair 115 = .ok (.aload_n 0, 1) := by decide +kernel
theorem dX10_pair_116 : decode cX10_pair 116 = .ok (.iload 4, 2) := by decide +kernel
theorem dX10_pair_118 : decode cX10_pair 118 = .ok (.invokevirtual 187, 3) := by decide +kernel
theorem dX10_pair_121 : decode cX10_pair 121 = .ok (.aload_n 0, 1) := by decide +kernel
theorem dX10_pair_122 : decode cX10_pair 122 = .ok (.iload_n 1, 1) := by decide +kernel
theorem dX10_pair_123 : decode cX10_pair 123 = .ok (.invokevirtual 187, 3) := by decide +kernel
theorem dX10_pair_126 : decode cX10_pair 126 = .ok (.isub, 1) := by decide +kernel
theorem dX10_pair_127 : decode cX10_pair 127 = .ok (.ireturn, 1) := by decide +kernel
theorem dX10_alikeBy_0 : decode cX10_alikeBy 0 = .ok (.lconst 0, 1) := by decide +kernel
theorem dX10_alikeBy_1 : decode cX10_alikeBy 1 = .ok (.lstore_n 3, 1) := by decide +kernel
theorem dX10_alikeBy_2 : decode cX10_alikeBy 2 = .ok (.iconst 0, 1) := by decide +kernel
theorem dX10_alikeBy_3 : decode cX10_alikeBy 3 = .ok (.istore 5, 2) := by decide +kernel
theorem dX10_alikeBy_5 : decode cX10_alikeBy 5 = .ok (.iload 5, 2) := by decide +kernel
theorem dX10_alikeBy_7 : decode cX10_alikeBy 7 = .ok (.aload_n 0, 1) := by decide +kernel
theorem dX10_alikeBy_8 : decode cX10_alikeBy 8 = .ok (.invokevirtual 196, 3) := by decide +kernel
theorem dX10_alikeBy_11 : decode cX10_alikeBy 11 = .ok (.if_icmp .ge 39, 3) := by decide +kernel
theorem dX10_alikeBy_14 : decode cX10_alikeBy 14 = .ok (.lload_n 3, 1) := by decide +kernel
theorem dX10_alikeBy_15 : decode cX10_alikeBy 15 = .ok (.aload_n 0, 1) := by decide +kernel
theorem dX10_alikeBy_16 : decode cX10_alikeBy 16 = .ok (.bipush 64, 2) := by decide +kernel
theorem dX10_alikeBy_18 : decode cX10_alikeBy 18 = .ok (.iload 5, 2) := by decide +kernel
theorem dX10_alikeBy_20 : decode cX10_alikeBy 20 = .ok (.iadd, 1) := by decide +kernel
theorem dX10_alikeBy_21 : decode cX10_alikeBy 21 = .ok (.invokevirtual 187, 3) := by decide +kernel
theorem dX10_alikeBy_24 : decode cX10_alikeBy 24 = .ok (.i2l, 1) := by decide +kernel
theorem dX10_alikeBy_25 : decode cX10_alikeBy 25 = .ok (.aload_n 0, 1) := by decide +kernel
theorem dX10_alikeBy_26 : decode cX10_alikeBy 26 = .ok (.iload_n 2, 1) := by decide +kernel
theorem dX10_alikeBy_27 : decode cX10_alikeBy 27 = .ok (.iload 5, 2) := by decide +kernel
theorem dX10_alikeBy_29 : decode cX10_alikeBy 29 = .ok (.iload_n 1, 1) := by decide +kernel
theorem dX10_alikeBy_30 : decode cX10_alikeBy 30 = .ok (.iadd, 1) := by decide +kernel
theorem dX10_alikeBy_31 : decode cX10_alikeBy 31 = .ok (.aload_n 0, 1) := by decide +kernel
theorem dX10_alikeBy_32 : decode cX10_alikeBy 32 = .ok (.invokevirtual 196, 3) := by decide +kernel
theorem dX10_alikeBy_35 : decode cX10_alikeBy 35 = .ok (.irem, 1) := by decide +kernel
theorem dX10_alikeBy_36 : decode cX10_alikeBy 36 = .ok (.iadd, 1) := by decide +kernel
theorem dX10_alikeBy_37 : decode cX10_alikeBy 37 = .ok (.invokevirtual 187, 3) := by decide +kernel
theorem dX10_alikeBy_40 : decode cX10_alikeBy 40 = .ok (.i2l, 1) := by decide +kernel
theorem dX10_alikeBy_41 : decode cX10_alikeBy 41 = .ok (.lmul, 1) := by decide +kernel
theorem dX10_alikeBy_42 : decode cX10_alikeBy 42 = .ok (.ladd, 1) := by decide +kernel
theorem dX10_alikeBy_43 : decode cX10_alikeBy 43 = .ok (.lstore_n 3, 1) := by decide +kernel
theorem dX10_alikeBy_44 : decode cX10_alikeBy 44 = .ok (.iinc 5 1, 3) := by decide +kernel
theorem dX10_alikeBy_47 : decode cX10_alikeBy 47 = .ok (.goto (-42), 3) := by decide +kernel
theorem dX10_alikeBy_50 : decode cX10_alikeBy 50 = .ok (.lload_n 3, 1) := by decide +kernel
theorem dX10_alikeBy_51 : decode cX10_alikeBy 51 = .ok (.lreturn, 1) := by decide +kernel
theorem dX10_mostAlike_0 : decode cX10_mostAlike 0 = .ok (.iload_n 1, 1) := by decide +kernel
theorem dX10_mostAlike_1 : decode cX10_mostAlike 1 = .ok (.istore_n 3, 1) := by decide +kernel
theorem dX10_mostAlike_2 : decode cX10_mostAlike 2 = .ok (.iload_n 1, 1) := by decide +kernel
theorem dX10_mostAlike_3 : decode cX10_mostAlike 3 = .ok (.iconst 1, 1) := by decide +kernel
theorem dX10_mostAlike_4 : decode cX10_mostAlike 4 = .ok (.iadd, 1) := by decide +kernel
theorem dX10_mostAlike_5 : decode cX10_mostAlike 5 = .ok (.istore 4, 2) := by decide +kernel
theorem dX10_mostAlike_7 : decode cX10_mostAlike 7 = .ok (.iload 4, 2) := by decide +kernel
theorem dX10_mostAlike_9 : decode cX10_mostAlike 9 = .ok (.aload_n 0, 1) := by decide +kernel
theorem dX10_mostAlike_10 : decode cX10_mostAlike 10 = .ok (.invokevirtual 196, 3) := by decide +kernel
theorem dX10_mostAlike_13 : decode cX10_mostAlike 13 = .ok (.if_icmp .ge 33, 3) := by decide +kernel
theorem dX10_mostAlike_16 : decode cX10_mostAlike 16 = .ok (.aload_n 0, 1) := by decide +kernel
theorem dX10_mostAlike_17 : decode cX10_mostAlike 17 = .ok (.iload 4, 2) := by decide +kernel
theorem dX10_mostAlike_19 : decode cX10_mostAlike 19 = .ok (.iload_n 2, 1) := by decide +kernel
theorem dX10_mostAlike_20 : decode cX10_mostAlike 20 = .ok (.invokevirtual 350, 3) := by decide +kernel
theorem dX10_mostAlike_23 : decode cX10_mostAlike 23 = .ok (.aload_n 0, 1) := by decide +kernel
theorem dX10_mostAlike_24 : decode cX10_mostAlike 24 = .ok (.iload_n 3, 1) := by decide +kernel
theorem dX10_mostAlike_25 : decode cX10_mostAlike 25 = .ok (.iload_n 2, 1) := by decide +kernel
theorem dX10_mostAlike_26 : decode cX10_mostAlike 26 = .ok (.invokevirtual 350, 3) := by decide +kernel
theorem dX10_mostAlike_29 : decode cX10_mostAlike 29 = .ok (.lcmp, 1) := by decide +kernel
theorem dX10_mostAlike_30 : decode cX10_mostAlike 30 = .ok (.ifCond .le 8, 3) := by decide +kernel
theorem dX10_mostAlike_33 : decode cX10_mostAlike 33 = .ok (.iload 4, 2) := by decide +kernel
theorem dX10_mostAlike_35 : decode cX10_mostAlike 35 = .ok (.goto 4, 3) := by decide +kernel
theorem dX10_mostAlike_38 : decode cX10_mostAlike 38 = .ok (.iload_n 3, 1) := by decide +kernel
theorem dX10_mostAlike_39 : decode cX10_mostAlike 39 = .ok (.istore_n 3, 1) := by decide +kernel
theorem dX10_mostAlike_40 : decode cX10_mostAlike 40 = .ok (.iinc 4 1, 3) := by decide +kernel
theorem dX10_mostAlike_43 : decode cX10_mostAlike 43 = .ok (.goto (-36), 3) := by decide +kernel
theorem dX10_mostAlike_46 : decode cX10_mostAlike 46 = .ok (.iload_n 3, 1) := by decide +kernel
theorem dX10_mostAlike_47 : decode cX10_mostAlike 47 = .ok (.ireturn, 1) := by decide +kernel
theorem dX10_like_0 : decode cX10_like 0 = .ok (.aload_n 0, 1) := by decide +kernel
theorem dX10_like_1 : decode cX10_like 1 = .ok (.iconst 0, 1) := by decide +kernel
theorem dX10_like_2 : decode cX10_like 2 = .ok (.putfield 70, 3) := by decide +kernel
theorem dX10_like_5 : decode cX10_like 5 = .ok (.aload_n 0, 1) := by decide +kernel
theorem dX10_like_6 : decode cX10_like 6 = .ok (.iload_n 1, 1) := by decide +kernel
theorem dX10_like_7 : decode cX10_like 7 = .ok (.invokevirtual 203, 3) := by decide +kernel
theorem dX10_like_10 : decode cX10_like 10 = .ok (.ifCond .eq 13, 3) := by decide +kernel
theorem dX10_like_13 : decode cX10_like 13 = .ok (.aload_n 0, 1) := by decide +kernel
theorem dX10_like_14 : decode cX10_like 14 = .ok (.iload_n 1, 1) := by decide +kernel
theorem dX10_like_15 : decode cX10_like 15 = .ok (.bipush 64, 2) := by decide +kernel
theorem dX10_like_17 : decode cX10_like 17 = .ok (.invokevirtual 350, 3) := by decide +kernel
theorem dX10_like_20 : decode cX10_like 20 = .ok (.goto 6, 3) := by decide +kernel
theorem dX10_like_23 : decode cX10_like 23 = .ok (.ldc2_w 324, 3) := by decide +kernel
theorem dX10_like_26 : decode cX10_like 26 = .ok (.lreturn, 1) := by decide +kernel
theorem dX10_period_0 : decode cX10_period 0 = .ok (.aload_n 0, 1) := by decide +kernel
theorem dX10_period_1 : decode cX10_period 1 = .ok (.iconst 0, 1) := by decide +kernel
theorem dX10_period_2 : decode cX10_period 2 = .ok (.putfield 70, 3) := by decide +kernel
theorem dX10_period_5 : decode cX10_period 5 = .ok (.aload_n 0, 1) := by decide +kernel
theorem dX10_period_6 : decode cX10_period 6 = .ok (.iconst 1, 1) := by decide +kernel
theorem dX10_period_7 : decode cX10_period 7 = .ok (.bipush 64, 2) := by decide +kernel
theorem dX10_period_9 : decode cX10_period 9 = .ok (.invokevirtual 353, 3) := by decide +kernel
theorem dX10_period_12 : decode cX10_period 12 = .ok (.ireturn, 1) := by decide +kernel
theorem dX10_crossed_0 : decode cX10_crossed 0 = .ok (.aload_n 0, 1) := by decide +kernel
theorem dX10_crossed_1 : decode cX10_crossed 1 = .ok (.iconst 0, 1) := by decide +kernel
theorem dX10_crossed_2 : decode cX10_crossed 2 = .ok (.putfield 70, 3) := by decide +kernel
theorem dX10_crossed_5 : decode cX10_crossed 5 = .ok (.aload_n 0, 1) := by decide +kernel
theorem dX10_crossed_6 : decode cX10_crossed 6 = .ok (.iload_n 1, 1) := by decide +kernel
theorem dX10_crossed_7 : decode cX10_crossed 7 = .ok (.invokevirtual 203, 3) := by decide +kernel
theorem dX10_crossed_10 : decode cX10_crossed 10 = .ok (.ifCond .eq 13, 3) := by decide +kernel
theorem dX10_crossed_13 : decode cX10_crossed 13 = .ok (.aload_n 0, 1) := by decide +kernel
theorem dX10_crossed_14 : decode cX10_crossed 14 = .ok (.iload_n 1, 1) := by decide +kernel
theorem dX10_crossed_15 : decode cX10_crossed 15 = .ok (.bipush 96, 2) := by decide +kernel
theorem dX10_crossed_17 : decode cX10_crossed 17 = .ok (.invokevirtual 350, 3) := by decide +kernel
theorem dX10_crossed_20 : decode cX10_crossed 20 = .ok (.goto 6, 3) := by decide +kernel
theorem dX10_crossed_23 : decode cX10_crossed 23 = .ok (.ldc2_w 324, 3) := by decide +kernel
theorem dX10_crossed_26 : decode cX10_crossed 26 = .ok (.lreturn, 1) := by decide +kernel
theorem dX10_lag_0 : decode cX10_lag 0 = .ok (.aload_n 0, 1) := by decide +kernel
theorem dX10_lag_1 : decode cX10_lag 1 = .ok (.iconst 0, 1) := by decide +kernel
theorem dX10_lag_2 : decode cX10_lag 2 = .ok (.putfield 70, 3) := by decide +kernel
theorem dX10_lag_5 : decode cX10_lag 5 = .ok (.aload_n 0, 1) := by decide +kernel
theorem dX10_lag_6 : decode cX10_lag 6 = .ok (.iconst 0, 1) := by decide +kernel
theorem dX10_lag_7 : decode cX10_lag 7 = .ok (.bipush 96, 2) := by decide +kernel
theorem dX10_lag_9 : decode cX10_lag 9 = .ok (.invokevirtual 353, 3) := by decide +kernel
theorem dX10_lag_12 : decode cX10_lag 12 = .ok (.ireturn, 1) := by decide +kernel
theorem dX10_foldOf_0 : decode cX10_foldOf 0 = .ok (.lconst 0, 1) := by decide +kernel
theorem dX10_foldOf_1 : decode cX10_foldOf 1 = .ok (.lstore_n 2, 1) := by decide +kernel
theorem dX10_foldOf_2 : decode cX10_foldOf 2 = .ok (.iconst 0, 1) := by decide +kernel
theorem dX10_foldOf_3 : decode cX10_foldOf 3 = .ok (.istore 4, 2) := by decide +kernel
theorem dX10_foldOf_5 : decode cX10_foldOf 5 = .ok (.iload 4, 2) := by decide +kernel
theorem dX10_foldOf_7 : decode cX10_foldOf 7 = .ok (.aload_n 0, 1) := by decide +kernel
theorem dX10_foldOf_8 : decode cX10_foldOf 8 = .ok (.invokevirtual 196, 3) := by decide +kernel
theorem dX10_foldOf_11 : decode cX10_foldOf 11 = .ok (.if_icmp .ge 45, 3) := by decide +kernel
theorem dX10_foldOf_14 : decode cX10_foldOf 14 = .ok (.lload_n 2, 1) := by decide +kernel
theorem dX10_foldOf_15 : decode cX10_foldOf 15 = .ok (.aload_n 0, 1) := by decide +kernel
theorem dX10_foldOf_16 : decode cX10_foldOf 16 = .ok (.bipush 64, 2) := by decide +kernel
theorem dX10_foldOf_18 : decode cX10_foldOf 18 = .ok (.iload 4, 2) := by decide +kernel
theorem dX10_foldOf_20 : decode cX10_foldOf 20 = .ok (.iadd, 1) := by decide +kernel
theorem dX10_foldOf_21 : decode cX10_foldOf 21 = .ok (.invokevirtual 187, 3) := by decide +kernel
theorem dX10_foldOf_24 : decode cX10_foldOf 24 = .ok (.i2l, 1) := by decide +kernel
theorem dX10_foldOf_25 : decode cX10_foldOf 25 = .ok (.aload_n 0, 1) := by decide +kernel
theorem dX10_foldOf_26 : decode cX10_foldOf 26 = .ok (.bipush 96, 2) := by decide +kernel
theorem dX10_foldOf_28 : decode cX10_foldOf 28 = .ok (.iload_n 1, 1) := by decide +kernel
theorem dX10_foldOf_29 : decode cX10_foldOf 29 = .ok (.iload 4, 2) := by decide +kernel
theorem dX10_foldOf_31 : decode cX10_foldOf 31 = .ok (.isub, 1) := by decide +kernel
theorem dX10_foldOf_32 : decode cX10_foldOf 32 = .ok (.aload_n 0, 1) := by decide +kernel
theorem dX10_foldOf_33 : decode cX10_foldOf 33 = .ok (.invokevirtual 196, 3) := by decide +kernel
theorem dX10_foldOf_36 : decode cX10_foldOf 36 = .ok (.iadd, 1) := by decide +kernel
theorem dX10_foldOf_37 : decode cX10_foldOf 37 = .ok (.aload_n 0, 1) := by decide +kernel
theorem dX10_foldOf_38 : decode cX10_foldOf 38 = .ok (.invokevirtual 196, 3) := by decide +kernel
theorem dX10_foldOf_41 : decode cX10_foldOf 41 = .ok (.irem, 1) := by decide +kernel
theorem dX10_foldOf_42 : decode cX10_foldOf 42 = .ok (.iadd, 1) := by decide +kernel
theorem dX10_foldOf_43 : decode cX10_foldOf 43 = .ok (.invokevirtual 187, 3) := by decide +kernel
theorem dX10_foldOf_46 : decode cX10_foldOf 46 = .ok (.i2l, 1) := by decide +kernel
theorem dX10_foldOf_47 : decode cX10_foldOf 47 = .ok (.lmul, 1) := by decide +kernel
theorem dX10_foldOf_48 : decode cX10_foldOf 48 = .ok (.ladd, 1) := by decide +kernel
theorem dX10_foldOf_49 : decode cX10_foldOf 49 = .ok (.lstore_n 2, 1) := by decide +kernel
theorem dX10_foldOf_50 : decode cX10_foldOf 50 = .ok (.iinc 4 1, 3) := by decide +kernel
theorem dX10_foldOf_53 : decode cX10_foldOf 53 = .ok (.goto (-48), 3) := by decide +kernel
theorem dX10_foldOf_56 : decode cX10_foldOf 56 = .ok (.lload_n 2, 1) := by decide +kernel
theorem dX10_foldOf_57 : decode cX10_foldOf 57 = .ok (.lreturn, 1) := by decide +kernel
theorem dX10_foldWhole_0 : decode cX10_foldWhole 0 = .ok (.aload_n 0, 1) := by decide +kernel
theorem dX10_foldWhole_1 : decode cX10_foldWhole 1 = .ok (.iconst 0, 1) := by decide +kernel
theorem dX10_foldWhole_2 : decode cX10_foldWhole 2 = .ok (.putfield 70, 3) := by decide +kernel
theorem dX10_foldWhole_5 : decode cX10_foldWhole 5 = .ok (.aload_n 0, 1) := by decide +kernel
theorem dX10_foldWhole_6 : decode cX10_foldWhole 6 = .ok (.iload_n 1, 1) := by decide +kernel
theorem dX10_foldWhole_7 : decode cX10_foldWhole 7 = .ok (.invokevirtual 203, 3) := by decide +kernel
theorem dX10_foldWhole_10 : decode cX10_foldWhole 10 = .ok (.ifCond .eq 11, 3) := by decide +kernel
theorem dX10_foldWhole_13 : decode cX10_foldWhole 13 = .ok (.aload_n 0, 1) := by decide +kernel
theorem dX10_foldWhole_14 : decode cX10_foldWhole 14 = .ok (.iload_n 1, 1) := by decide +kernel
theorem dX10_foldWhole_15 : decode cX10_foldWhole 15 = .ok (.invokevirtual 356, 3) := by decide +kernel
theorem dX10_foldWhole_18 : decode cX10_foldWhole 18 = .ok (.goto 6, 3) := by decide +kernel
theorem dX10_foldWhole_21 : decode cX10_foldWhole 21 = .ok (.ldc2_w 324, 3) := by decide +kernel
theorem dX10_foldWhole_24 : decode cX10_foldWhole 24 = .ok (.lreturn, 1) := by decide +kernel
theorem dX10_swing_0 : decode cX10_swing 0 = .ok (.aload_n 0, 1) := by decide +kernel
theorem dX10_swing_1 : decode cX10_swing 1 = .ok (.iconst 0, 1) := by decide +kernel
theorem dX10_swing_2 : decode cX10_swing 2 = .ok (.putfield 70, 3) := by decide +kernel
theorem dX10_swing_5 : decode cX10_swing 5 = .ok (.aload_n 0, 1) := by decide +kernel
theorem dX10_swing_6 : decode cX10_swing 6 = .ok (.iload_n 1, 1) := by decide +kernel
theorem dX10_swing_7 : decode cX10_swing 7 = .ok (.invokevirtual 203, 3) := by decide +kernel
theorem dX10_swing_10 : decode cX10_swing 10 = .ok (.ifCond .eq 12, 3) := by decide +kernel
theorem dX10_swing_13 : decode cX10_swing 13 = .ok (.iload_n 2, 1) := by decide +kernel
theorem dX10_swing_14 : decode cX10_swing 14 = .ok (.iconst 0, 1) := by decide +kernel
theorem dX10_swing_15 : decode cX10_swing 15 = .ok (.iconst 1, 1) := by decide +kernel
theorem dX10_swing_16 : decode cX10_swing 16 = .ok (.invokestatic 138, 3) := by decide +kernel
theorem dX10_swing_19 : decode cX10_swing 19 = .ok (.ifCond .ne 7, 3) := by decide +kernel
theorem dX10_swing_22 : decode cX10_swing 22 = .ok (.ldc2_w 324, 3) := by decide +kernel
theorem dX10_swing_25 : decode cX10_swing 25 = .ok (.lreturn, 1) := by decide +kernel
theorem dX10_swing_26 : decode cX10_swing 26 = .ok (.lconst 0, 1) := by decide +kernel
theorem dX10_swing_27 : decode cX10_swing 27 = .ok (.lstore_n 3, 1) := by decide +kernel
theorem dX10_swing_28 : decode cX10_swing 28 = .ok (.lconst 0, 1) := by decide +kernel
theorem dX10_swing_29 : decode cX10_swing 29 = .ok (.lstore 5, 2) := by decide +kernel
theorem dX10_swing_31 : decode cX10_swing 31 = .ok (.iconst 0, 1) := by decide +kernel
theorem dX10_swing_32 : decode cX10_swing 32 = .ok (.istore 7, 2) := by decide +kernel
theorem dX10_swing_34 : decode cX10_swing 34 = .ok (.iload 7, 2) := by decide +kernel
theorem dX10_swing_36 : decode cX10_swing 36 = .ok (.aload_n 0, 1) := by decide +kernel
theorem dX10_swing_37 : decode cX10_swing 37 = .ok (.invokevirtual 196, 3) := by decide +kernel
theorem dX10_swing_40 : decode cX10_swing 40 = .ok (.if_icmp .ge 49, 3) := by decide +kernel
theorem dX10_swing_43 : decode cX10_swing 43 = .ok (.aload_n 0, 1) := by decide +kernel
theorem dX10_swing_44 : decode cX10_swing 44 = .ok (.bipush 64, 2) := by decide +kernel
theorem dX10_swing_46 : decode cX10_swing 46 = .ok (.iload 7, 2) := by decide +kernel
theorem dX10_swing_48 : decode cX10_swing 48 = .ok (.iadd, 1) := by decide +kernel
theorem dX10_swing_49 : decode cX10_swing 49 = .ok (.invokevirtual 187, 3) := by decide +kernel
theorem dX10_swing_52 : decode cX10_swing 52 = .ok (.i2l, 1) := by decide +kernel
theorem dX10_swing_53 : decode cX10_swing 53 = .ok (.aload_n 0, 1) := by decide +kernel
theorem dX10_swing_54 : decode cX10_swing 54 = .ok (.lload_n 3, 1) := by decide +kernel
theorem dX10_swing_55 : decode cX10_swing 55 = .ok (.ldc2_w 306, 3) := by decide +kernel
theorem dX10_swing_58 : decode cX10_swing 58 = .ok (.aload_n 0, 1) := by decide +kernel
theorem dX10_swing_59 : decode cX10_swing 59 = .ok (.iload_n 1, 1) := by decide +kernel
theorem dX10_swing_60 : decode cX10_swing 60 = .ok (.invokevirtual 207, 3) := by decide +kernel
theorem dX10_swing_63 : decode cX10_swing 63 = .ok (.i2l, 1) := by decide +kernel
theorem dX10_swing_64 : decode cX10_swing 64 = .ok (.lmul, 1) := by decide +kernel
theorem dX10_swing_65 : decode cX10_swing 65 = .ok (.lmul, 1) := by decide +kernel
theorem dX10_swing_66 : decode cX10_swing 66 = .ok (.bipush 14, 2) := by decide +kernel
theorem dX10_swing_68 : decode cX10_swing 68 = .ok (.invokevirtual 240, 3) := by decide +kernel
theorem dX10_swing_71 : decode cX10_swing 71 = .ok (.ladd, 1) := by decide +kernel
theorem dX10_swing_72 : decode cX10_swing 72 = .ok (.lload 5, 2) := by decide +kernel
theorem dX10_swing_74 : decode cX10_swing 74 = .ok (.lsub, 1) := by decide +kernel
theorem dX10_swing_75 : decode cX10_swing 75 = .ok (.lstore 8, 2) := by decide +kernel
theorem dX10_swing_77 : decode cX10_swing 77 = .ok (.lload_n 3, 1) := by decide +kernel
theorem dX10_swing_78 : decode cX10_swing 78 = .ok (.lstore 5, 2) := by decide +kernel
theorem dX10_swing_80 : decode cX10_swing 80 = .ok (.lload 8, 2) := by decide +kernel
theorem dX10_swing_82 : decode cX10_swing 82 = .ok (.lstore_n 3, 1) := by decide +kernel
theorem dX10_swing_83 : decode cX10_swing 83 = .ok (.iinc 7 1, 3) := by decide +kernel
theorem dX10_swing_86 : decode cX10_swing 86 = .ok (.goto (-52), 3) := by decide +kernel
theorem dX10_swing_89 : decode cX10_swing 89 = .ok (.iload_n 2, 1) := by decide +kernel
theorem dX10_swing_90 : decode cX10_swing 90 = .ok (.ifCond .ne 7, 3) := by decide +kernel
theorem dX10_swing_93 : decode cX10_swing 93 = .ok (.lload_n 3, 1) := by decide +kernel
theorem dX10_swing_94 : decode cX10_swing 94 = .ok (.goto 5, 3) := by decide +kernel
theorem dX10_swing_97 : decode cX10_swing 97 = .ok (.lload 5, 2) := by decide +kernel
theorem dX10_swing_99 : decode cX10_swing 99 = .ok (.lreturn, 1) := by decide +kernel
theorem dX10_inRing_0 : decode cX10_inRing 0 = .ok (.lload_n 0, 1) := by decide +kernel
theorem dX10_inRing_1 : decode cX10_inRing 1 = .ok (.ldc2_w 359, 3) := by decide +kernel
theorem dX10_inRing_4 : decode cX10_inRing 4 = .ok (.lrem, 1) := by decide +kernel
theorem dX10_inRing_5 : decode cX10_inRing 5 = .ok (.lstore_n 2, 1) := by decide +kernel
theorem dX10_inRing_6 : decode cX10_inRing 6 = .ok (.lload_n 2, 1) := by decide +kernel
theorem dX10_inRing_7 : decode cX10_inRing 7 = .ok (.lconst 0, 1) := by decide +kernel
theorem dX10_inRing_8 : decode cX10_inRing 8 = .ok (.lcmp, 1) := by decide +kernel
theorem dX10_inRing_9 : decode cX10_inRing 9 = .ok (.ifCond .ge 11, 3) := by decide +kernel
theorem dX10_inRing_12 : decode cX10_inRing 12 = .ok (.lload_n 2, 1) := by decide +kernel
theorem dX10_inRing_13 : decode cX10_inRing 13 = .ok (.ldc2_w 359, 3) := by decide +kernel
theorem dX10_inRing_16 : decode cX10_inRing 16 = .ok (.ladd, 1) := by decide +kernel
theorem dX10_inRing_17 : decode cX10_inRing 17 = .ok (.goto 4, 3) := by decide +kernel
theorem dX10_inRing_20 : decode cX10_inRing 20 = .ok (.lload_n 2, 1) := by decide +kernel
theorem dX10_inRing_21 : decode cX10_inRing 21 = .ok (.l2i, 1) := by decide +kernel
theorem dX10_inRing_22 : decode cX10_inRing 22 = .ok (.ireturn, 1) := by decide +kernel
theorem dX10_root_0 : decode cX10_root 0 = .ok (.aload_n 0, 1) := by decide +kernel
theorem dX10_root_1 : decode cX10_root 1 = .ok (.getfield 39, 3) := by decide +kernel
theorem dX10_root_4 : decode cX10_root 4 = .ok (.iload_n 1, 1) := by decide +kernel
theorem dX10_root_5 : decode cX10_root 5 = .ok (.aload_n 0, 1) := by decide +kernel
theorem dX10_root_6 : decode cX10_root 6 = .ok (.invokevirtual 196, 3) := by decide +kernel
theorem dX10_root_9 : decode cX10_root 9 = .ok (.irem, 1) := by decide +kernel
theorem dX10_root_10 : decode cX10_root 10 = .ok (.iaload, 1) := by decide +kernel
theorem dX10_root_11 : decode cX10_root 11 = .ok (.ireturn, 1) := by decide +kernel
theorem dX10_binWith_0 : decode cX10_binWith 0 = .ok (.lconst 0, 1) := by decide +kernel
theorem dX10_binWith_1 : decode cX10_binWith 1 = .ok (.lstore 4, 2) := by decide +kernel
theorem dX10_binWith_3 : decode cX10_binWith 3 = .ok (.iconst 0, 1) := by decide +kernel
theorem dX10_binWith_4 : decode cX10_binWith 4 = .ok (.istore 6, 2) := by decide +kernel
theorem dX10_binWith_6 : decode cX10_binWith 6 = .ok (.iload 6, 2) := by decide +kernel
theorem dX10_binWith_8 : decode cX10_binWith 8 = .ok (.aload_n 0, 1) := by decide +kernel
theorem dX10_binWith_9 : decode cX10_binWith 9 = .ok (.invokevirtual 196, 3) := by decide +kernel
theorem dX10_binWith_12 : decode cX10_binWith 12 = .ok (.if_icmp .ge 44, 3) := by decide +kernel
theorem dX10_binWith_15 : decode cX10_binWith 15 = .ok (.lload 4, 2) := by decide +kernel
theorem dX10_binWith_17 : decode cX10_binWith 17 = .ok (.iload 6, 2) := by decide +kernel
theorem dX10_binWith_19 : decode cX10_binWith 19 = .ok (.iload_n 2, 1) := by decide +kernel
theorem dX10_binWith_20 : decode cX10_binWith 20 = .ok (.if_icmp .ne 7, 3) := by decide +kernel
theorem dX10_binWith_23 : decode cX10_binWith 23 = .ok (.iload_n 3, 1) := by decide +kernel
theorem dX10_binWith_24 : decode cX10_binWith 24 = .ok (.goto 12, 3) := by decide +kernel
theorem dX10_binWith_27 : decode cX10_binWith 27 = .ok (.aload_n 0, 1) := by decide +kernel
theorem dX10_binWith_28 : decode cX10_binWith 28 = .ok (.bipush 64, 2) := by decide +kernel
theorem dX10_binWith_30 : decode cX10_binWith 30 = .ok (.iload 6, 2) := by decide +kernel
theorem dX10_binWith_32 : decode cX10_binWith 32 = .ok (.iadd, 1) := by decide +kernel
theorem dX10_binWith_33 : decode cX10_binWith 33 = .ok (.invokevirtual 187, 3) := by decide +kernel
theorem dX10_binWith_36 : decode cX10_binWith 36 = .ok (.i2l, 1) := by decide +kernel
theorem dX10_binWith_37 : decode cX10_binWith 37 = .ok (.aload_n 0, 1) := by decide +kernel
theorem dX10_binWith_38 : decode cX10_binWith 38 = .ok (.iload 6, 2) := by decide +kernel
theorem dX10_binWith_40 : decode cX10_binWith 40 = .ok (.iload_n 1, 1) := by decide +kernel
theorem dX10_binWith_41 : decode cX10_binWith 41 = .ok (.imul, 1) := by decide +kernel
theorem dX10_binWith_42 : decode cX10_binWith 42 = .ok (.invokevirtual 361, 3) := by decide +kernel
theorem dX10_binWith_45 : decode cX10_binWith 45 = .ok (.i2l, 1) := by decide +kernel
theorem dX10_binWith_46 : decode cX10_binWith 46 = .ok (.lmul, 1) := by decide +kernel
theorem dX10_binWith_47 : decode cX10_binWith 47 = .ok (.ladd, 1) := by decide +kernel
theorem dX10_binWith_48 : decode cX10_binWith 48 = .ok (.lstore 4, 2) := by decide +kernel
theorem dX10_binWith_50 : decode cX10_binWith 50 = .ok (.iinc 6 1, 3) := by decide +kernel
theorem dX10_binWith_53 : decode cX10_binWith 53 = .ok (.goto (-47), 3) := by decide +kernel
theorem dX10_binWith_56 : decode cX10_binWith 56 = .ok (.lload 4, 2) := by decide +kernel
theorem dX10_binWith_58 : decode cX10_binWith 58 = .ok (.invokestatic 364, 3) := by decide +kernel
theorem dX10_binWith_61 : decode cX10_binWith 61 = .ok (.ireturn, 1) := by decide +kernel
theorem dX10_bin_0 : decode cX10_bin 0 = .ok (.aload_n 0, 1) := by decide +kernel
theorem dX10_bin_1 : decode cX10_bin 1 = .ok (.iconst 0, 1) := by decide +kernel
theorem dX10_bin_2 : decode cX10_bin 2 = .ok (.putfield 70, 3) := by decide +kernel
theorem dX10_bin_5 : decode cX10_bin 5 = .ok (.aload_n 0, 1) := by decide +kernel
theorem dX10_bin_6 : decode cX10_bin 6 = .ok (.iload_n 1, 1) := by decide +kernel
theorem dX10_bin_7 : decode cX10_bin 7 = .ok (.invokevirtual 203, 3) := by decide +kernel
theorem dX10_bin_10 : decode cX10_bin 10 = .ok (.ifCond .eq 13, 3) := by decide +kernel
theorem dX10_bin_13 : decode cX10_bin 13 = .ok (.aload_n 0, 1) := by decide +kernel
theorem dX10_bin_14 : decode cX10_bin 14 = .ok (.iload_n 1, 1) := by decide +kernel
theorem dX10_bin_15 : decode cX10_bin 15 = .ok (.iconst (-1), 1) := by decide +kernel
theorem dX10_bin_16 : decode cX10_bin 16 = .ok (.iconst 0, 1) := by decide +kernel
theorem dX10_bin_17 : decode cX10_bin 17 = .ok (.invokevirtual 368, 3) := by decide +kernel
theorem dX10_bin_20 : decode cX10_bin 20 = .ok (.goto 4, 3) := by decide +kernel
theorem dX10_bin_23 : decode cX10_bin 23 = .ok (.iconst (-1), 1) := by decide +kernel
theorem dX10_bin_24 : decode cX10_bin 24 = .ok (.ireturn, 1) := by decide +kernel
theorem dX10_fold_0 : decode cX10_fold 0 = .ok (.aload_n 0, 1) := by decide +kernel
theorem dX10_fold_1 : decode cX10_fold 1 = .ok (.iconst 0, 1) := by decide +kernel
theorem dX10_fold_2 : decode cX10_fold 2 = .ok (.putfield 70, 3) := by decide +kernel
theorem dX10_fold_5 : decode cX10_fold 5 = .ok (.aload_n 0, 1) := by decide +kernel
theorem dX10_fold_6 : decode cX10_fold 6 = .ok (.iload_n 1, 1) := by decide +kernel
theorem dX10_fold_7 : decode cX10_fold 7 = .ok (.invokevirtual 203, 3) := by decide +kernel
theorem dX10_fold_10 : decode cX10_fold 10 = .ok (.ifCond .eq 14, 3) := by decide +kernel
theorem dX10_fold_13 : decode cX10_fold 13 = .ok (.aload_n 0, 1) := by decide +kernel
theorem dX10_fold_14 : decode cX10_fold 14 = .ok (.iload_n 1, 1) := by decide +kernel
theorem dX10_fold_15 : decode cX10_fold 15 = .ok (.invokevirtual 356, 3) := by decide +kernel
theorem dX10_fold_18 : decode cX10_fold 18 = .ok (.invokestatic 364, 3) := by decide +kernel
theorem dX10_fold_21 : decode cX10_fold 21 = .ok (.goto 4, 3) := by decide +kernel
theorem dX10_fold_24 : decode cX10_fold 24 = .ok (.iconst (-1), 1) := by decide +kernel
theorem dX10_fold_25 : decode cX10_fold 25 = .ok (.ireturn, 1) := by decide +kernel
theorem dX10_unfold_0 : decode cX10_unfold 0 = .ok (.aload_n 0, 1) := by decide +kernel
theorem dX10_unfold_1 : decode cX10_unfold 1 = .ok (.iconst 0, 1) := by decide +kernel
theorem dX10_unfold_2 : decode cX10_unfold 2 = .ok (.putfield 70, 3) := by decide +kernel
theorem dX10_unfold_5 : decode cX10_unfold 5 = .ok (.aload_n 0, 1) := by decide +kernel
theorem dX10_unfold_6 : decode cX10_unfold 6 = .ok (.iload_n 1, 1) := by decide +kernel
theorem dX10_unfold_7 : decode cX10_unfold 7 = .ok (.invokevirtual 203, 3) := by decide +kernel
theorem dX10_unfold_10 : decode cX10_unfold 10 = .ok (.ifCond .eq 21, 3) := by decide +kernel
theorem dX10_unfold_13 : decode cX10_unfold 13 = .ok (.iload_n 2, 1) := by decide +kernel
theorem dX10_unfold_14 : decode cX10_unfold 14 = .ok (.iconst 0, 1) := by decide +kernel
theorem dX10_unfold_15 : decode cX10_unfold 15 = .ok (.bipush 96, 2) := by decide +kernel
theorem dX10_unfold_17 : decode cX10_unfold 17 = .ok (.invokestatic 138, 3) := by decide +kernel
theorem dX10_unfold_20 : decode cX10_unfold 20 = .ok (.ifCond .eq 11, 3) := by decide +kernel
theorem dX10_unfold_23 : decode cX10_unfold 23 = .ok (.aload_n 0, 1) := by decide +kernel
theorem dX10_unfold_24 : decode cX10_unfold 24 = .ok (.iload_n 3, 1) := by decide +kernel
theorem dX10_unfold_25 : decode cX10_unfold 25 = .ok (.invokevirtual 203, 3) := by decide +kernel
theorem dX10_unfold_28 : decode cX10_unfold 28 = .ok (.ifCond .ne 5, 3) := by decide +kernel
theorem dX10_unfold_31 : decode cX10_unfold 31 = .ok (.iconst (-1), 1) := by decide +kernel
theorem dX10_unfold_32 : decode cX10_unfold 32 = .ok (.ireturn, 1) := by decide +kernel
theorem dX10_unfold_33 : decode cX10_unfold 33 = .ok (.iconst 1, 1) := by decide +kernel
theorem dX10_unfold_34 : decode cX10_unfold 34 = .ok (.istore 4, 2) := by decide +kernel
theorem dX10_unfold_36 : decode cX10_unfold 36 = .ok (.iload 4, 2) := by decide +kernel
theorem dX10_unfold_38 : decode cX10_unfold 38 = .ok (.aload_n 0, 1) := by decide +kernel
theorem dX10_unfold_39 : decode cX10_unfold 39 = .ok (.invokevirtual 196, 3) := by decide +kernel
theorem dX10_unfold_42 : decode cX10_unfold 42 = .ok (.imul, 1) := by decide +kernel
theorem dX10_unfold_43 : decode cX10_unfold 43 = .ok (.bipush 97, 2) := by decide +kernel
theorem dX10_unfold_45 : decode cX10_unfold 45 = .ok (.irem, 1) := by decide +kernel
theorem dX10_unfold_46 : decode cX10_unfold 46 = .ok (.iconst 1, 1) := by decide +kernel
theorem dX10_unfold_47 : decode cX10_unfold 47 = .ok (.if_icmp .eq 9, 3) := by decide +kernel
theorem dX10_unfold_50 : decode cX10_unfold 50 = .ok (.iinc 4 1, 3) := by decide +kernel
theorem dX10_unfold_53 : decode cX10_unfold 53 = .ok (.goto (-17), 3) := by decide +kernel
theorem dX10_unfold_56 : decode cX10_unfold 56 = .ok (.iload_n 2, 1) := by decide +kernel
theorem dX10_unfold_57 : decode cX10_unfold 57 = .ok (.aload_n 0, 1) := by decide +kernel
theorem dX10_unfold_58 : decode cX10_unfold 58 = .ok (.aload_n 0, 1) := by decide +kernel
theorem dX10_unfold_59 : decode cX10_unfold 59 = .ok (.invokevirtual 196, 3) := by decide +kernel
theorem dX10_unfold_62 : decode cX10_unfold 62 = .ok (.iload_n 3, 1) := by decide +kernel
theorem dX10_unfold_63 : decode cX10_unfold 63 = .ok (.iload_n 1, 1) := by decide +kernel
theorem dX10_unfold_64 : decode cX10_unfold 64 = .ok (.imul, 1) := by decide +kernel
theorem dX10_unfold_65 : decode cX10_unfold 65 = .ok (.aload_n 0, 1) := by decide +kernel
theorem dX10_unfold_66 : decode cX10_unfold 66 = .ok (.invokevirtual 196, 3) := by decide +kernel
theorem dX10_unfold_69 : decode cX10_unfold 69 = .ok (.irem, 1) := by decide +kernel
theorem dX10_unfold_70 : decode cX10_unfold 70 = .ok (.isub, 1) := by decide +kernel
theorem dX10_unfold_71 : decode cX10_unfold 71 = .ok (.invokevirtual 361, 3) := by decide +kernel
theorem dX10_unfold_74 : decode cX10_unfold 74 = .ok (.imul, 1) := by decide +kernel
theorem dX10_unfold_75 : decode cX10_unfold 75 = .ok (.bipush 97, 2) := by decide +kernel
theorem dX10_unfold_77 : decode cX10_unfold 77 = .ok (.irem, 1) := by decide +kernel
theorem dX10_unfold_78 : decode cX10_unfold 78 = .ok (.istore 5, 2) := by decide +kernel
theorem dX10_unfold_80 : decode cX10_unfold 80 = .ok (.iload 4, 2) := by decide +kernel
theorem dX10_unfold_82 : decode cX10_unfold 82 = .ok (.iload 5, 2) := by decide +kernel
theorem dX10_unfold_84 : decode cX10_unfold 84 = .ok (.imul, 1) := by decide +kernel
theorem dX10_unfold_85 : decode cX10_unfold 85 = .ok (.bipush 97, 2) := by decide +kernel
theorem dX10_unfold_87 : decode cX10_unfold 87 = .ok (.irem, 1) := by decide +kernel
theorem dX10_unfold_88 : decode cX10_unfold 88 = .ok (.ireturn, 1) := by decide +kernel
theorem dX10_notes1_0 : decode cX10_notes1 0 = .ok (.aload_n 0, 1) := by decide +kernel
theorem dX10_notes1_1 : decode cX10_notes1 1 = .ok (.getfield 132, 3) := by decide +kernel
theorem dX10_notes1_4 : decode cX10_notes1 4 = .ok (.bipush 24, 2) := by decide +kernel
theorem dX10_notes1_6 : decode cX10_notes1 6 = .ok (.if_icmp .ne 5, 3) := by decide +kernel
theorem dX10_notes1_9 : decode cX10_notes1 9 = .ok (.iconst (-1), 1) := by decide +kernel
theorem dX10_notes1_10 : decode cX10_notes1 10 = .ok (.ireturn, 1) := by decide +kernel
theorem dX10_notes1_11 : decode cX10_notes1 11 = .ok (.iconst 3, 1) := by decide +kernel
theorem dX10_notes1_12 : decode cX10_notes1 12 = .ok (.aload_n 0, 1) := by decide +kernel
theorem dX10_notes1_13 : decode cX10_notes1 13 = .ok (.getfield 132, 3) := by decide +kernel
theorem dX10_notes1_16 : decode cX10_notes1 16 = .ok (.imul, 1) := by decide +kernel
theorem dX10_notes1_17 : decode cX10_notes1 17 = .ok (.istore 4, 2) := by decide +kernel
theorem dX10_notes1_19 : decode cX10_notes1 19 = .ok (.aload_n 0, 1) := by decide +kernel
theorem dX10_notes1_20 : decode cX10_notes1 20 = .ok (.getfield 55, 3) := by decide +kernel
theorem dX10_notes1_23 : decode cX10_notes1 23 = .ok (.iload 4, 2) := by decide +kernel
theorem dX10_notes1_25 : decode cX10_notes1 25 = .ok (.iload_n 1, 1) := by decide +kernel
theorem dX10_notes1_26 : decode cX10_notes1 26 = .ok (.iastore, 1) := by decide +kernel
theorem dX10_notes1_27 : decode cX10_notes1 27 = .ok (.aload_n 0, 1) := by decide +kernel
theorem dX10_notes1_28 : decode cX10_notes1 28 = .ok (.getfield 55, 3) := by decide +kernel
theorem dX10_notes1_31 : decode cX10_notes1 31 = .ok (.iload 4, 2) := by decide +kernel
theorem dX10_notes1_33 : decode cX10_notes1 33 = .ok (.iconst 1, 1) := by decide +kernel
theorem dX10_notes1_34 : decode cX10_notes1 34 = .ok (.iadd, 1) := by decide +kernel
theorem dX10_notes1_35 : decode cX10_notes1 35 = .ok (.iload_n 2, 1) := by decide +kernel
theorem dX10_notes1_36 : decode cX10_notes1 36 = .ok (.iastore, 1) := by decide +kernel
theorem dX10_notes1_37 : decode cX10_notes1 37 = .ok (.aload_n 0, 1) := by decide +kernel
theorem dX10_notes1_38 : decode cX10_notes1 38 = .ok (.getfield 55, 3) := by decide +kernel
theorem dX10_notes1_41 : decode cX10_notes1 41 = .ok (.iload 4, 2) := by decide +kernel
theorem dX10_notes1_43 : decode cX10_notes1 43 = .ok (.iconst 2, 1) := by decide +kernel
theorem dX10_notes1_44 : decode cX10_notes1 44 = .ok (.iadd, 1) := by decide +kernel
theorem dX10_notes1_45 : decode cX10_notes1 45 = .ok (.iload_n 3, 1) := by decide +kernel
theorem dX10_notes1_46 : decode cX10_notes1 46 = .ok (.iastore, 1) := by decide +kernel
theorem dX10_notes1_47 : decode cX10_notes1 47 = .ok (.aload_n 0, 1) := by decide +kernel
theorem dX10_notes1_48 : decode cX10_notes1 48 = .ok (.dup, 1) := by decide +kernel
theorem dX10_notes1_49 : decode cX10_notes1 49 = .ok (.getfield 132, 3) := by decide +kernel
theorem dX10_notes1_52 : decode cX10_notes1 52 = .ok (.iconst 1, 1) := by decide +kernel
theorem dX10_notes1_53 : decode cX10_notes1 53 = .ok (.iadd, 1) := by decide +kernel
theorem dX10_notes1_54 : decode cX10_notes1 54 = .ok (.putfield 132, 3) := by decide +kernel
theorem dX10_notes1_57 : decode cX10_notes1 57 = .ok (.aload_n 0, 1) := by decide +kernel
theorem dX10_notes1_58 : decode cX10_notes1 58 = .ok (.getfield 132, 3) := by decide +kernel
theorem dX10_notes1_61 : decode cX10_notes1 61 = .ok (.iconst 1, 1) := by decide +kernel
theorem dX10_notes1_62 : decode cX10_notes1 62 = .ok (.isub, 1) := by decide +kernel
theorem dX10_notes1_63 : decode cX10_notes1 63 = .ok (.ireturn, 1) := by decide +kernel
theorem dX10_note_0 : decode cX10_note 0 = .ok (.aload_n 0, 1) := by decide +kernel
theorem dX10_note_1 : decode cX10_note 1 = .ok (.iconst 0, 1) := by decide +kernel
theorem dX10_note_2 : decode cX10_note 2 = .ok (.putfield 70, 3) := by decide +kernel
theorem dX10_note_5 : decode cX10_note 5 = .ok (.aload_n 0, 1) := by decide +kernel
theorem dX10_note_6 : decode cX10_note 6 = .ok (.iload_n 1, 1) := by decide +kernel
theorem dX10_note_7 : decode cX10_note 7 = .ok (.invokevirtual 203, 3) := by decide +kernel
theorem dX10_note_10 : decode cX10_note 10 = .ok (.ifCond .eq 31, 3) := by decide +kernel
theorem dX10_note_13 : decode cX10_note 13 = .ok (.iload_n 2, 1) := by decide +kernel
theorem dX10_note_14 : decode cX10_note 14 = .ok (.iconst 0, 1) := by decide +kernel
theorem dX10_note_15 : decode cX10_note 15 = .ok (.bipush 96, 2) := by decide +kernel
theorem dX10_note_17 : decode cX10_note 17 = .ok (.invokestatic 138, 3) := by decide +kernel
theorem dX10_note_20 : decode cX10_note 20 = .ok (.ifCond .eq 21, 3) := by decide +kernel
theorem dX10_note_23 : decode cX10_note 23 = .ok (.aload_n 0, 1) := by decide +kernel
theorem dX10_note_24 : decode cX10_note 24 = .ok (.iload_n 1, 1) := by decide +kernel
theorem dX10_note_25 : decode cX10_note 25 = .ok (.iload_n 2, 1) := by decide +kernel
theorem dX10_note_26 : decode cX10_note 26 = .ok (.iload_n 3, 1) := by decide +kernel
theorem dX10_note_27 : decode cX10_note 27 = .ok (.ifCond .eq 7, 3) := by decide +kernel
theorem dX10_note_30 : decode cX10_note 30 = .ok (.iconst 1, 1) := by decide +kernel
theorem dX10_note_31 : decode cX10_note 31 = .ok (.goto 4, 3) := by decide +kernel
theorem dX10_note_34 : decode cX10_note 34 = .ok (.iconst 0, 1) := by decide +kernel
theorem dX10_note_35 : decode cX10_note 35 = .ok (.invokevirtual 372, 3) := by decide +kernel
theorem dX10_note_38 : decode cX10_note 38 = .ok (.goto 4, 3) := by decide +kernel
theorem dX10_note_41 : decode cX10_note 41 = .ok (.iconst (-1), 1) := by decide +kernel
theorem dX10_note_42 : decode cX10_note 42 = .ok (.ireturn, 1) := by decide +kernel
theorem dX10_strike_0 : decode cX10_strike 0 = .ok (.aload_n 0, 1) := by decide +kernel
theorem dX10_strike_1 : decode cX10_strike 1 = .ok (.iconst 0, 1) := by decide +kernel
theorem dX10_strike_2 : decode cX10_strike 2 = .ok (.putfield 70, 3) := by decide +kernel
theorem dX10_strike_5 : decode cX10_strike 5 = .ok (.iload_n 1, 1) := by decide +kernel
theorem dX10_strike_6 : decode cX10_strike 6 = .ok (.ifCond .lt 11, 3) := by decide +kernel
theorem dX10_strike_9 : decode cX10_strike 9 = .ok (.iload_n 1, 1) := by decide +kernel
theorem dX10_strike_10 : decode cX10_strike 10 = .ok (.aload_n 0, 1) := by decide +kernel
theorem dX10_strike_11 : decode cX10_strike 11 = .ok (.getfield 132, 3) := by decide +kernel
theorem dX10_strike_14 : decode cX10_strike 14 = .ok (.if_icmp .lt 7, 3) := by decide +kernel
theorem dX10_strike_17 : decode cX10_strike 17 = .ok (.iconst (-1), 1) := by decide +kernel
theorem dX10_strike_18 : decode cX10_strike 18 = .ok (.goto 10, 3) := by decide +kernel
theorem dX10_strike_21 : decode cX10_strike 21 = .ok (.aload_n 0, 1) := by decide +kernel
theorem dX10_strike_22 : decode cX10_strike 22 = .ok (.iconst (-1), 1) := by decide +kernel
theorem dX10_strike_23 : decode cX10_strike 23 = .ok (.iload_n 1, 1) := by decide +kernel
theorem dX10_strike_24 : decode cX10_strike 24 = .ok (.iconst 0, 1) := by decide +kernel
theorem dX10_strike_25 : decode cX10_strike 25 = .ok (.invokevirtual 372, 3) := by decide +kernel
theorem dX10_strike_28 : decode cX10_strike 28 = .ok (.ireturn, 1) := by decide +kernel
theorem dX10_known_0 : decode cX10_known 0 = .ok (.aload_n 0, 1) := by decide +kernel
theorem dX10_known_1 : decode cX10_known 1 = .ok (.iconst 0, 1) := by decide +kernel
theorem dX10_known_2 : decode cX10_known 2 = .ok (.putfield 70, 3) := by decide +kernel
theorem dX10_known_5 : decode cX10_known 5 = .ok (.iload_n 1, 1) := by decide +kernel
theorem dX10_known_6 : decode cX10_known 6 = .ok (.iconst (-1), 1) := by decide +kernel
theorem dX10_known_7 : decode cX10_known 7 = .ok (.aload_n 0, 1) := by decide +kernel
theorem dX10_known_8 : decode cX10_known 8 = .ok (.getfield 132, 3) := by decide +kernel
theorem dX10_known_11 : decode cX10_known 11 = .ok (.invokestatic 138, 3) := by decide +kernel
theorem dX10_known_14 : decode cX10_known 14 = .ok (.ifCond .ne 5, 3) := by decide +kernel
theorem dX10_known_17 : decode cX10_known 17 = .ok (.iconst 0, 1) := by decide +kernel
theorem dX10_known_18 : decode cX10_known 18 = .ok (.ireturn, 1) := by decide +kernel
theorem dX10_known_19 : decode cX10_known 19 = .ok (.aload_n 0, 1) := by decide +kernel
theorem dX10_known_20 : decode cX10_known 20 = .ok (.iload_n 1, 1) := by decide +kernel
theorem dX10_known_21 : decode cX10_known 21 = .ok (.putfield 52, 3) := by decide +kernel
theorem dX10_known_24 : decode cX10_known 24 = .ok (.iconst 1, 1) := by decide +kernel
theorem dX10_known_25 : decode cX10_known 25 = .ok (.ireturn, 1) := by decide +kernel
theorem dX10_knownBy_0 : decode cX10_knownBy 0 = .ok (.aload_n 0, 1) := by decide +kernel
theorem dX10_knownBy_1 : decode cX10_knownBy 1 = .ok (.getfield 52, 3) := by decide +kernel
theorem dX10_knownBy_4 : decode cX10_knownBy 4 = .ok (.ifCond .ge 10, 3) := by decide +kernel
theorem dX10_knownBy_7 : decode cX10_knownBy 7 = .ok (.aload_n 0, 1) := by decide +kernel
theorem dX10_knownBy_8 : decode cX10_knownBy 8 = .ok (.getfield 132, 3) := by decide +kernel
theorem dX10_knownBy_11 : decode cX10_knownBy 11 = .ok (.goto 7, 3) := by decide +kernel
theorem dX10_knownBy_14 : decode cX10_knownBy 14 = .ok (.aload_n 0, 1) := by decide +kernel
theorem dX10_knownBy_15 : decode cX10_knownBy 15 = .ok (.getfield 52, 3) := by decide +kernel
theorem dX10_knownBy_18 : decode cX10_knownBy 18 = .ok (.ireturn, 1) := by decide +kernel
theorem dX10_layCounts_0 : decode cX10_layCounts 0 = .ok (.iconst 0, 1) := by decide +kernel
theorem dX10_layCounts_1 : decode cX10_layCounts 1 = .ok (.istore_n 1, 1) := by decide +kernel
theorem dX10_layCounts_2 : decode cX10_layCounts 2 = .ok (.iload_n 1, 1) := by decide +kernel
theorem dX10_layCounts_3 : decode cX10_layCounts 3 = .ok (.aload_n 0, 1) := by decide +kernel
theorem dX10_layCounts_4 : decode cX10_layCounts 4 = .ok (.invokevirtual 375, 3) := by decide +kernel
theorem dX10_layCounts_7 : decode cX10_layCounts 7 = .ok (.if_icmp .ge 16, 3) := by decide +kernel
theorem dX10_layCounts_10 : decode cX10_layCounts 10 = .ok (.aload_n 0, 1) := by decide +kernel
theorem dX10_layCounts_11 : decode cX10_layCounts 11 = .ok (.getfield 58, 3) := by decide +kernel
theorem dX10_layCounts_14 : decode cX10_layCounts 14 = .ok (.iload_n 1, 1) := by decide +kernel
theorem dX10_layCounts_15 : decode cX10_layCounts 15 = .ok (.iconst 1, 1) := by decide +kernel
theorem dX10_layCounts_16 : decode cX10_layCounts 16 = .ok (.bastore, 1) := by decide +kernel
theorem dX10_layCounts_17 : decode cX10_layCounts 17 = .ok (.iinc 1 1, 3) := by decide +kernel
theorem dX10_layCounts_20 : decode cX10_layCounts 20 = .ok (.goto (-18), 3) := by decide +kernel
theorem dX10_layCounts_23 : decode cX10_layCounts 23 = .ok (.aload_n 0, 1) := by decide +kernel
theorem dX10_layCounts_24 : decode cX10_layCounts 24 = .ok (.invokevirtual 375, 3) := by decide +kernel
theorem dX10_layCounts_27 : decode cX10_layCounts 27 = .ok (.iconst 1, 1) := by decide +kernel
theorem dX10_layCounts_28 : decode cX10_layCounts 28 = .ok (.isub, 1) := by decide +kernel
theorem dX10_layCounts_29 : decode cX10_layCounts 29 = .ok (.istore_n 1, 1) := by decide +kernel
theorem dX10_layCounts_30 : decode cX10_layCounts 30 = .ok (.iload_n 1, 1) := by decide +kernel
theorem dX10_layCounts_31 : decode cX10_layCounts 31 = .ok (.ifCond .lt 45, 3) := by decide +kernel
theorem dX10_layCounts_34 : decode cX10_layCounts 34 = .ok (.aload_n 0, 1) := by decide +kernel
theorem dX10_layCounts_35 : decode cX10_layCounts 35 = .ok (.getfield 58, 3) := by decide +kernel
theorem dX10_layCounts_38 : decode cX10_layCounts 38 = .ok (.iload_n 1, 1) := by decide +kernel
theorem dX10_layCounts_39 : decode cX10_layCounts 39 = .ok (.baload, 1) := by decide +kernel
theorem dX10_layCounts_40 : decode cX10_layCounts 40 = .ok (.ifCond .eq 30, 3) := by decide +kernel
theorem dX10_layCounts_43 : decode cX10_layCounts 43 = .ok (.aload_n 0, 1) := by decide +kernel
theorem dX10_layCounts_44 : decode cX10_layCounts 44 = .ok (.getfield 55, 3) := by decide +kernel
theorem dX10_layCounts_47 : decode cX10_layCounts 47 = .ok (.iconst 3, 1) := by decide +kernel
theorem dX10_layCounts_48 : decode cX10_layCounts 48 = .ok (.iload_n 1, 1) := by decide +kernel
theorem dX10_layCounts_49 : decode cX10_layCounts 49 = .ok (.imul, 1) := by decide +kernel
theorem dX10_layCounts_50 : decode cX10_layCounts 50 = .ok (.iaload, 1) := by decide +kernel
theorem dX10_layCounts_51 : decode cX10_layCounts 51 = .ok (.ifCond .ge 19, 3) := by decide +kernel
theorem dX10_layCounts_54 : decode cX10_layCounts 54 = .ok (.aload_n 0, 1) := by decide +kernel
theorem dX10_layCounts_55 : decode cX10_layCounts 55 = .ok (.getfield 58, 3) := by decide +kernel
theorem dX10_layCounts_58 : decode cX10_layCounts 58 = .ok (.aload_n 0, 1) := by decide +kernel
theorem dX10_layCounts_59 : decode cX10_layCounts 59 = .ok (.getfield 55, 3) := by decide +kernel
theorem dX10_layCounts_62 : decode cX10_layCounts 62 = .ok (.iconst 3, 1) := by decide +kernel
theorem dX10_layCounts_63 : decode cX10_layCounts 63 = .ok (.iload_n 1, 1) := by decide +kernel
theorem dX10_layCounts_64 : decode cX10_layCounts 64 = .ok (.imul, 1) := by decide +kernel
theorem dX10_layCounts_65 : decode cX10_layCounts 65 = .ok (.iconst 1, 1) := by decide +kernel
theorem dX10_layCounts_66 : decode cX10_layCounts 66 = .ok (.iadd, 1) := by decide +kernel
theorem dX10_layCounts_67 : decode cX10_layCounts 67 = .ok (.iaload, 1) := by decide +kernel
theorem dX10_layCounts_68 : decode cX10_layCounts 68 = .ok (.iconst 0, 1) := by decide +kernel
theorem dX10_layCounts_69 : decode cX10_layCounts 69 = .ok (.bastore, 1) := by decide +kernel
theorem dX10_layCounts_70 : decode cX10_layCounts 70 = .ok (.iinc 1 (-1), 3) := by decide +kernel
theorem dX10_layCounts_73 : decode cX10_layCounts 73 = .ok (.goto (-43), 3) := by decide +kernel
theorem dX10_layCounts_76 : decode cX10_layCounts 76 = .ok (.return_, 1) := by decide +kernel
theorem dX10_isSoBy_0 : decode cX10_isSoBy 0 = .ok (.iconst 0, 1) := by decide +kernel
theorem dX10_isSoBy_1 : decode cX10_isSoBy 1 = .ok (.istore_n 3, 1) := by decide +kernel
theorem dX10_isSoBy_2 : decode cX10_isSoBy 2 = .ok (.iload_n 3, 1) := by decide +kernel
theorem dX10_isSoBy_3 : decode cX10_isSoBy 3 = .ok (.aload_n 0, 1) := by decide +kernel
theorem dX10_isSoBy_4 : decode cX10_isSoBy 4 = .ok (.invokevirtual 375, 3) := by decide +kernel
theorem dX10_isSoBy_7 : decode cX10_isSoBy 7 = .ok (.if_icmp .ge 93, 3) := by decide +kernel
theorem dX10_isSoBy_10 : decode cX10_isSoBy 10 = .ok (.iconst 3, 1) := by decide +kernel
theorem dX10_isSoBy_11 : decode cX10_isSoBy 11 = .ok (.iload_n 3, 1) := by decide +kernel
theorem dX10_isSoBy_12 : decode cX10_isSoBy 12 = .ok (.imul, 1) := by decide +kernel
theorem dX10_isSoBy_13 : decode cX10_isSoBy 13 = .ok (.istore 4, 2) := by decide +kernel
theorem dX10_isSoBy_15 : decode cX10_isSoBy 15 = .ok (.aload_n 0, 1) := by decide +kernel
theorem dX10_isSoBy_16 : decode cX10_isSoBy 16 = .ok (.getfield 58, 3) := by decide +kernel
theorem dX10_isSoBy_19 : decode cX10_isSoBy 19 = .ok (.iload_n 3, 1) := by decide +kernel
theorem dX10_isSoBy_20 : decode cX10_isSoBy 20 = .ok (.baload, 1) := by decide +kernel
theorem dX10_isSoBy_21 : decode cX10_isSoBy 21 = .ok (.ifCond .eq 73, 3) := by decide +kernel
theorem dX10_isSoBy_24 : decode cX10_isSoBy 24 = .ok (.aload_n 0, 1) := by decide +kernel
theorem dX10_isSoBy_25 : decode cX10_isSoBy 25 = .ok (.getfield 55, 3) := by decide +kernel
theorem dX10_isSoBy_28 : decode cX10_isSoBy 28 = .ok (.iload 4, 2) := by decide +kernel
theorem dX10_isSoBy_30 : decode cX10_isSoBy 30 = .ok (.iaload, 1) := by decide +kernel
theorem dX10_isSoBy_31 : decode cX10_isSoBy 31 = .ok (.ifCond .ge 6, 3) := by decide +kernel
theorem dX10_isSoBy_34 : decode cX10_isSoBy 34 = .ok (.goto 60, 3) := by decide +kernel
theorem dX10_isSoBy_37 : decode cX10_isSoBy 37 = .ok (.aload_n 0, 1) := by decide +kernel
theorem dX10_isSoBy_38 : decode cX10_isSoBy 38 = .ok (.aload_n 0, 1) := by decide +kernel
theorem dX10_isSoBy_39 : decode cX10_isSoBy 39 = .ok (.getfield 55, 3) := by decide +kernel
theorem dX10_isSoBy_42 : decode cX10_isSoBy 42 = .ok (.iload 4, 2) := by decide +kernel
theorem dX10_isSoBy_44 : decode cX10_isSoBy 44 = .ok (.iaload, 1) := by decide +kernel
theorem dX10_isSoBy_45 : decode cX10_isSoBy 45 = .ok (.iload_n 1, 1) := by decide +kernel
theorem dX10_isSoBy_46 : decode cX10_isSoBy 46 = .ok (.iload_n 2, 1) := by decide +kernel
theorem dX10_isSoBy_47 : decode cX10_isSoBy 47 = .ok (.invokevirtual 368, 3) := by decide +kernel
theorem dX10_isSoBy_50 : decode cX10_isSoBy 50 = .ok (.aload_n 0, 1) := by decide +kernel
theorem dX10_isSoBy_51 : decode cX10_isSoBy 51 = .ok (.getfield 55, 3) := by decide +kernel
theorem dX10_isSoBy_54 : decode cX10_isSoBy 54 = .ok (.iload 4, 2) := by decide +kernel
theorem dX10_isSoBy_56 : decode cX10_isSoBy 56 = .ok (.iconst 1, 1) := by decide +kernel
theorem dX10_isSoBy_57 : decode cX10_isSoBy 57 = .ok (.iadd, 1) := by decide +kernel
theorem dX10_isSoBy_58 : decode cX10_isSoBy 58 = .ok (.iaload, 1) := by decide +kernel
theorem dX10_isSoBy_59 : decode cX10_isSoBy 59 = .ok (.if_icmp .lt 7, 3) := by decide +kernel
theorem dX10_isSoBy_62 : decode cX10_isSoBy 62 = .ok (.iconst 1, 1) := by decide +kernel
theorem dX10_isSoBy_63 : decode cX10_isSoBy 63 = .ok (.goto 4, 3) := by decide +kernel
theorem dX10_isSoBy_66 : decode cX10_isSoBy 66 = .ok (.iconst 0, 1) := by decide +kernel
theorem dX10_isSoBy_67 : decode cX10_isSoBy 67 = .ok (.istore 5, 2) := by decide +kernel
theorem dX10_isSoBy_69 : decode cX10_isSoBy 69 = .ok (.iload 5, 2) := by decide +kernel
theorem dX10_isSoBy_71 : decode cX10_isSoBy 71 = .ok (.aload_n 0, 1) := by decide +kernel
theorem dX10_isSoBy_72 : decode cX10_isSoBy 72 = .ok (.getfield 55, 3) := by decide +kernel
theorem dX10_isSoBy_75 : decode cX10_isSoBy 75 = .ok (.iload 4, 2) := by decide +kernel
theorem dX10_isSoBy_77 : decode cX10_isSoBy 77 = .ok (.iconst 2, 1) := by decide +kernel
theorem dX10_isSoBy_78 : decode cX10_isSoBy 78 = .ok (.iadd, 1) := by decide +kernel
theorem dX10_isSoBy_79 : decode cX10_isSoBy 79 = .ok (.iaload, 1) := by decide +kernel
theorem dX10_isSoBy_80 : decode cX10_isSoBy 80 = .ok (.iconst 1, 1) := by decide +kernel
theorem dX10_isSoBy_81 : decode cX10_isSoBy 81 = .ok (.if_icmp .ne 7, 3) := by decide +kernel
theorem dX10_isSoBy_84 : decode cX10_isSoBy 84 = .ok (.iconst 1, 1) := by decide +kernel
theorem dX10_isSoBy_85 : decode cX10_isSoBy 85 = .ok (.goto 4, 3) := by decide +kernel
theorem dX10_isSoBy_88 : decode cX10_isSoBy 88 = .ok (.iconst 0, 1) := by decide +kernel
theorem dX10_isSoBy_89 : decode cX10_isSoBy 89 = .ok (.if_icmp .eq 5, 3) := by decide +kernel
theorem dX10_isSoBy_92 : decode cX10_isSoBy 92 = .ok (.iconst 0, 1) := by decide +kernel
theorem dX10_isSoBy_93 : decode cX10_isSoBy 93 = .ok (.ireturn, 1) := by decide +kernel
theorem dX10_isSoBy_94 : decode cX10_isSoBy 94 = .ok (.iinc 3 1, 3) := by decide +kernel
theorem dX10_isSoBy_97 : decode cX10_isSoBy 97 = .ok (.goto (-95), 3) := by decide +kernel
theorem dX10_isSoBy_100 : decode cX10_isSoBy 100 = .ok (.iconst 1, 1) := by decide +kernel
theorem dX10_isSoBy_101 : decode cX10_isSoBy 101 = .ok (.ireturn, 1) := by decide +kernel
theorem dX10_valuesOf_0 : decode cX10_valuesOf 0 = .ok (.aload_n 0, 1) := by decide +kernel
theorem dX10_valuesOf_1 : decode cX10_valuesOf 1 = .ok (.invokevirtual 378, 3) := by decide +kernel
theorem dX10_valuesOf_4 : decode cX10_valuesOf 4 = .ok (.iconst 0, 1) := by decide +kernel
theorem dX10_valuesOf_5 : decode cX10_valuesOf 5 = .ok (.istore_n 2, 1) := by decide +kernel
theorem dX10_valuesOf_6 : decode cX10_valuesOf 6 = .ok (.iconst 0, 1) := by decide +kernel
theorem dX10_valuesOf_7 : decode cX10_valuesOf 7 = .ok (.istore_n 3, 1) := by decide +kernel
theorem dX10_valuesOf_8 : decode cX10_valuesOf 8 = .ok (.iload_n 3, 1) := by decide +kernel
theorem dX10_valuesOf_9 : decode cX10_valuesOf 9 = .ok (.bipush 16, 2) := by decide +kernel
theorem dX10_valuesOf_11 : decode cX10_valuesOf 11 = .ok (.if_icmp .ge 28, 3) := by decide +kernel
theorem dX10_valuesOf_14 : decode cX10_valuesOf 14 = .ok (.iload_n 2, 1) := by decide +kernel
theorem dX10_valuesOf_15 : decode cX10_valuesOf 15 = .ok (.aload_n 0, 1) := by decide +kernel
theorem dX10_valuesOf_16 : decode cX10_valuesOf 16 = .ok (.iload_n 1, 1) := by decide +kernel
theorem dX10_valuesOf_17 : decode cX10_valuesOf 17 = .ok (.iload_n 3, 1) := by decide +kernel
theorem dX10_valuesOf_18 : decode cX10_valuesOf 18 = .ok (.invokevirtual 381, 3) := by decide +kernel
theorem dX10_valuesOf_21 : decode cX10_valuesOf 21 = .ok (.ifCond .eq 9, 3) := by decide +kernel
theorem dX10_valuesOf_24 : decode cX10_valuesOf 24 = .ok (.iconst 1, 1) := by decide +kernel
theorem dX10_valuesOf_25 : decode cX10_valuesOf 25 = .ok (.iload_n 3, 1) := by decide +kernel
theorem dX10_valuesOf_26 : decode cX10_valuesOf 26 = .ok (.ishl, 1) := by decide +kernel
theorem dX10_valuesOf_27 : decode cX10_valuesOf 27 = .ok (.goto 4, 3) := by decide +kernel
theorem dX10_valuesOf_30 : decode cX10_valuesOf 30 = .ok (.iconst 0, 1) := by decide +kernel
theorem dX10_valuesOf_31 : decode cX10_valuesOf 31 = .ok (.ior, 1) := by decide +kernel
theorem dX10_valuesOf_32 : decode cX10_valuesOf 32 = .ok (.istore_n 2, 1) := by decide +kernel
theorem dX10_valuesOf_33 : decode cX10_valuesOf 33 = .ok (.iinc 3 1, 3) := by decide +kernel
theorem dX10_valuesOf_36 : decode cX10_valuesOf 36 = .ok (.goto (-28), 3) := by decide +kernel
theorem dX10_valuesOf_39 : decode cX10_valuesOf 39 = .ok (.iload_n 2, 1) := by decide +kernel
theorem dX10_valuesOf_40 : decode cX10_valuesOf 40 = .ok (.ireturn, 1) := by decide +kernel
theorem dX10_values_0 : decode cX10_values 0 = .ok (.aload_n 0, 1) := by decide +kernel
theorem dX10_values_1 : decode cX10_values 1 = .ok (.iconst 0, 1) := by decide +kernel
theorem dX10_values_2 : decode cX10_values 2 = .ok (.putfield 70, 3) := by decide +kernel
theorem dX10_values_5 : decode cX10_values 5 = .ok (.aload_n 0, 1) := by decide +kernel
theorem dX10_values_6 : decode cX10_values 6 = .ok (.iload_n 1, 1) := by decide +kernel
theorem dX10_values_7 : decode cX10_values 7 = .ok (.invokevirtual 203, 3) := by decide +kernel
theorem dX10_values_10 : decode cX10_values 10 = .ok (.ifCond .eq 11, 3) := by decide +kernel
theorem dX10_values_13 : decode cX10_values 13 = .ok (.aload_n 0, 1) := by decide +kernel
theorem dX10_values_14 : decode cX10_values 14 = .ok (.iload_n 1, 1) := by decide +kernel
theorem dX10_values_15 : decode cX10_values 15 = .ok (.invokevirtual 384, 3) := by decide +kernel
theorem dX10_values_18 : decode cX10_values 18 = .ok (.goto 4, 3) := by decide +kernel
theorem dX10_values_21 : decode cX10_values 21 = .ok (.iconst (-1), 1) := by decide +kernel
theorem dX10_values_22 : decode cX10_values 22 = .ok (.ireturn, 1) := by decide +kernel
theorem dX10_manyBy_0 : decode cX10_manyBy 0 = .ok (.iconst 0, 1) := by decide +kernel
theorem dX10_manyBy_1 : decode cX10_manyBy 1 = .ok (.istore_n 3, 1) := by decide +kernel
theorem dX10_manyBy_2 : decode cX10_manyBy 2 = .ok (.iconst 0, 1) := by decide +kernel
theorem dX10_manyBy_3 : decode cX10_manyBy 3 = .ok (.istore 4, 2) := by decide +kernel
theorem dX10_manyBy_5 : decode cX10_manyBy 5 = .ok (.iload 4, 2) := by decide +kernel
theorem dX10_manyBy_7 : decode cX10_manyBy 7 = .ok (.bipush 16, 2) := by decide +kernel
theorem dX10_manyBy_9 : decode cX10_manyBy 9 = .ok (.if_icmp .ge 37, 3) := by decide +kernel
theorem dX10_manyBy_12 : decode cX10_manyBy 12 = .ok (.iload_n 3, 1) := by decide +kernel
theorem dX10_manyBy_13 : decode cX10_manyBy 13 = .ok (.iload_n 1, 1) := by decide +kernel
theorem dX10_manyBy_14 : decode cX10_manyBy 14 = .ok (.iload 4, 2) := by decide +kernel
theorem dX10_manyBy_16 : decode cX10_manyBy 16 = .ok (.invokestatic 341, 3) := by decide +kernel
theorem dX10_manyBy_19 : decode cX10_manyBy 19 = .ok (.ifCond .eq 18, 3) := by decide +kernel
theorem dX10_manyBy_22 : decode cX10_manyBy 22 = .ok (.aload_n 0, 1) := by decide +kernel
theorem dX10_manyBy_23 : decode cX10_manyBy 23 = .ok (.getfield 61, 3) := by decide +kernel
theorem dX10_manyBy_26 : decode cX10_manyBy 26 = .ok (.iload 4, 2) := by decide +kernel
theorem dX10_manyBy_28 : decode cX10_manyBy 28 = .ok (.iaload, 1) := by decide +kernel
theorem dX10_manyBy_29 : decode cX10_manyBy 29 = .ok (.iload_n 2, 1) := by decide +kernel
theorem dX10_manyBy_30 : decode cX10_manyBy 30 = .ok (.if_icmp .lt 7, 3) := by decide +kernel
theorem dX10_manyBy_33 : decode cX10_manyBy 33 = .ok (.iconst 1, 1) := by decide +kernel
theorem dX10_manyBy_34 : decode cX10_manyBy 34 = .ok (.goto 4, 3) := by decide +kernel
theorem dX10_manyBy_37 : decode cX10_manyBy 37 = .ok (.iconst 0, 1) := by decide +kernel
theorem dX10_manyBy_38 : decode cX10_manyBy 38 = .ok (.iadd, 1) := by decide +kernel
theorem dX10_manyBy_39 : decode cX10_manyBy 39 = .ok (.istore_n 3, 1) := by decide +kernel
theorem dX10_manyBy_40 : decode cX10_manyBy 40 = .ok (.iinc 4 1, 3) := by decide +kernel
theorem dX10_manyBy_43 : decode cX10_manyBy 43 = .ok (.goto (-38), 3) := by decide +kernel
theorem dX10_manyBy_46 : decode cX10_manyBy 46 = .ok (.iload_n 3, 1) := by decide +kernel
theorem dX10_manyBy_47 : decode cX10_manyBy 47 = .ok (.ireturn, 1) := by decide +kernel
theorem dX10_ask_0 : decode cX10_ask 0 = .ok (.aload_n 0, 1) := by decide +kernel
theorem dX10_ask_1 : decode cX10_ask 1 = .ok (.iconst 0, 1) := by decide +kernel
theorem dX10_ask_2 : decode cX10_ask 2 = .ok (.putfield 70, 3) := by decide +kernel
theorem dX10_ask_5 : decode cX10_ask 5 = .ok (.aload_n 0, 1) := by decide +kernel
theorem dX10_ask_6 : decode cX10_ask 6 = .ok (.iload_n 1, 1) := by decide +kernel
theorem dX10_ask_7 : decode cX10_ask 7 = .ok (.invokevirtual 203, 3) := by decide +kernel
theorem dX10_ask_10 : decode cX10_ask 10 = .ok (.ifCond .eq 12, 3) := by decide +kernel
theorem dX10_ask_13 : decode cX10_ask 13 = .ok (.iload_n 2, 1) := by decide +kernel
theorem dX10_ask_14 : decode cX10_ask 14 = .ok (.iconst 0, 1) := by decide +kernel
theorem dX10_ask_15 : decode cX10_ask 15 = .ok (.iconst 2, 1) := by decide +kernel
theorem dX10_ask_16 : decode cX10_ask 16 = .ok (.invokestatic 138, 3) := by decide +kernel
theorem dX10_ask_19 : decode cX10_ask 19 = .ok (.ifCond .ne 5, 3) := by decide +kernel
theorem dX10_ask_22 : decode cX10_ask 22 = .ok (.iconst (-1), 1) := by decide +kernel
theorem dX10_ask_23 : decode cX10_ask 23 = .ok (.ireturn, 1) := by decide +kernel
theorem dX10_ask_24 : decode cX10_ask 24 = .ok (.aload_n 0, 1) := by decide +kernel
theorem dX10_ask_25 : decode cX10_ask 25 = .ok (.iload_n 1, 1) := by decide +kernel
theorem dX10_ask_26 : decode cX10_ask 26 = .ok (.invokevirtual 384, 3) := by decide +kernel
theorem dX10_ask_29 : decode cX10_ask 29 = .ok (.istore_n 3, 1) := by decide +kernel
theorem dX10_ask_30 : decode cX10_ask 30 = .ok (.iconst 0, 1) := by decide +kernel
theorem dX10_ask_31 : decode cX10_ask 31 = .ok (.istore 4, 2) := by decide +kernel
theorem dX10_ask_33 : decode cX10_ask 33 = .ok (.iconst 1, 1) := by decide +kernel
theorem dX10_ask_34 : decode cX10_ask 34 = .ok (.istore 5, 2) := by decide +kernel
theorem dX10_ask_36 : decode cX10_ask 36 = .ok (.bipush 17, 2) := by decide +kernel
theorem dX10_ask_38 : decode cX10_ask 38 = .ok (.istore 6, 2) := by decide +kernel
theorem dX10_ask_40 : decode cX10_ask 40 = .ok (.iconst 0, 1) := by decide +kernel
theorem dX10_ask_41 : decode cX10_ask 41 = .ok (.istore 7, 2) := by decide +kernel
theorem dX10_ask_43 : decode cX10_ask 43 = .ok (.iload 7, 2) := by decide +kernel
theorem dX10_ask_45 : decode cX10_ask 45 = .ok (.aload_n 0, 1) := by decide +kernel
theorem dX10_ask_46 : decode cX10_ask 46 = .ok (.invokevirtual 196, 3) := by decide +kernel
theorem dX10_ask_49 : decode cX10_ask 49 = .ok (.if_icmp .ge 118, 3) := by decide +kernel
theorem dX10_ask_52 : decode cX10_ask 52 = .ok (.iconst 0, 1) := by decide +kernel
theorem dX10_ask_53 : decode cX10_ask 53 = .ok (.istore 8, 2) := by decide +kernel
theorem dX10_ask_55 : decode cX10_ask 55 = .ok (.iload 8, 2) := by decide +kernel
theorem dX10_ask_57 : decode cX10_ask 57 = .ok (.bipush 16, 2) := by decide +kernel
theorem dX10_ask_59 : decode cX10_ask 59 = .ok (.if_icmp .ge 25, 3) := by decide +kernel
theorem dX10_ask_62 : decode cX10_ask 62 = .ok (.aload_n 0, 1) := by decide +kernel
theorem dX10_ask_63 : decode cX10_ask 63 = .ok (.getfield 61, 3) := by decide +kernel
theorem dX10_ask_66 : decode cX10_ask 66 = .ok (.iload 8, 2) := by decide +kernel
theorem dX10_ask_68 : decode cX10_ask 68 = .ok (.aload_n 0, 1) := by decide +kernel
theorem dX10_ask_69 : decode cX10_ask 69 = .ok (.iload 7, 2) := by decide +kernel
theorem dX10_ask_71 : decode cX10_ask 71 = .ok (.iload_n 1, 1) := by decide +kernel
theorem dX10_ask_72 : decode cX10_ask 72 = .ok (.iload 8, 2) := by decide +kernel
theorem dX10_ask_74 : decode cX10_ask 74 = .ok (.invokevirtual 368, 3) := by decide +kernel
theorem dX10_ask_77 : decode cX10_ask 77 = .ok (.iastore, 1) := by decide +kernel
theorem dX10_ask_78 : decode cX10_ask 78 = .ok (.iinc 8 1, 3) := by decide +kernel
theorem dX10_ask_81 : decode cX10_ask 81 = .ok (.goto (-26), 3) := by decide +kernel
theorem dX10_ask_84 : decode cX10_ask 84 = .ok (.aload_n 0, 1) := by decide +kernel
theorem dX10_ask_85 : decode cX10_ask 85 = .ok (.iload_n 3, 1) := by decide +kernel
theorem dX10_ask_86 : decode cX10_ask 86 = .ok (.iconst 0, 1) := by decide +kernel
theorem dX10_ask_87 : decode cX10_ask 87 = .ok (.invokevirtual 387, 3) := by decide +kernel
theorem dX10_ask_90 : decode cX10_ask 90 = .ok (.istore 8, 2) := by decide +kernel
theorem dX10_ask_92 : decode cX10_ask 92 = .ok (.iconst 1, 1) := by decide +kernel
theorem dX10_ask_93 : decode cX10_ask 93 = .ok (.istore 9, 2) := by decide +kernel
theorem dX10_ask_95 : decode cX10_ask 95 = .ok (.iload 9, 2) := by decide +kernel
theorem dX10_ask_97 : decode cX10_ask 97 = .ok (.bipush 96, 2) := by decide +kernel
theorem dX10_ask_99 : decode cX10_ask 99 = .ok (.if_icmp .gt 62, 3) := by decide +kernel
theorem dX10_ask_102 : decode cX10_ask 102 = .ok (.aload_n 0, 1) := by decide +kernel
theorem dX10_ask_103 : decode cX10_ask 103 = .ok (.iload_n 3, 1) := by decide +kernel
theorem dX10_ask_104 : decode cX10_ask 104 = .ok (.iload 9, 2) := by decide +kernel
theorem dX10_ask_106 : decode cX10_ask 106 = .ok (.invokevirtual 387, 3) := by decide +kernel
theorem dX10_ask_109 : decode cX10_ask 109 = .ok (.istore 10, 2) := by decide +kernel
theorem dX10_ask_111 : decode cX10_ask 111 = .ok (.iload 10, 2) := by decide +kernel
theorem dX10_ask_113 : decode cX10_ask 113 = .ok (.iload 8, 2) := by decide +kernel
theorem dX10_ask_115 : decode cX10_ask 115 = .ok (.iload 10, 2) := by decide +kernel
theorem dX10_ask_117 : decode cX10_ask 117 = .ok (.isub, 1) := by decide +kernel
theorem dX10_ask_118 : decode cX10_ask 118 = .ok (.if_icmp .le 8, 3) := by decide +kernel
theorem dX10_ask_121 : decode cX10_ask 121 = .ok (.iload 10, 2) := by decide +kernel
theorem dX10_ask_123 : decode cX10_ask 123 = .ok (.goto 8, 3) := by decide +kernel
theorem dX10_ask_126 : decode cX10_ask 126 = .ok (.iload 8, 2) := by decide +kernel
theorem dX10_ask_128 : decode cX10_ask 128 = .ok (.iload 10, 2) := by decide +kernel
theorem dX10_ask_130 : decode cX10_ask 130 = .ok (.isub, 1) := by decide +kernel
theorem dX10_ask_131 : decode cX10_ask 131 = .ok (.istore 11, 2) := by decide +kernel
theorem dX10_ask_133 : decode cX10_ask 133 = .ok (.iload 11, 2) := by decide +kernel
theorem dX10_ask_135 : decode cX10_ask 135 = .ok (.iload 6, 2) := by decide +kernel
theorem dX10_ask_137 : decode cX10_ask 137 = .ok (.if_icmp .lt 6, 3) := by decide +kernel
theorem dX10_ask_140 : decode cX10_ask 140 = .ok (.goto 15, 3) := by decide +kernel
theorem dX10_ask_143 : decode cX10_ask 143 = .ok (.iload 7, 2) := by decide +kernel
theorem dX10_ask_145 : decode cX10_ask 145 = .ok (.istore 4, 2) := by decide +kernel
theorem dX10_ask_147 : decode cX10_ask 147 = .ok (.iload 9, 2) := by decide +kernel
theorem dX10_ask_149 : decode cX10_ask 149 = .ok (.istore 5, 2) := by decide +kernel
theorem dX10_ask_151 : decode cX10_ask 151 = .ok (.iload 11, 2) := by decide +kernel
theorem dX10_ask_153 : decode cX10_ask 153 = .ok (.istore 6, 2) := by decide +kernel
theorem dX10_ask_155 : decode cX10_ask 155 = .ok (.iinc 9 1, 3) := by decide +kernel
theorem dX10_ask_158 : decode cX10_ask 158 = .ok (.goto (-63), 3) := by decide +kernel
theorem dX10_ask_161 : decode cX10_ask 161 = .ok (.iinc 7 1, 3) := by decide +kernel
theorem dX10_ask_164 : decode cX10_ask 164 = .ok (.goto (-121), 3) := by decide +kernel
theorem dX10_ask_167 : decode cX10_ask 167 = .ok (.iload_n 2, 1) := by decide +kernel
theorem dX10_ask_168 : decode cX10_ask 168 = .ok (.ifCond .ne 8, 3) := by decide +kernel
theorem dX10_ask_171 : decode cX10_ask 171 = .ok (.iload 4, 2) := by decide +kernel
theorem dX10_ask_173 : decode cX10_ask 173 = .ok (.goto 15, 3) := by decide +kernel
theorem dX10_ask_176 : decode cX10_ask 176 = .ok (.iload_n 2, 1) := by decide +kernel
theorem dX10_ask_177 : decode cX10_ask 177 = .ok (.iconst 1, 1) := by decide +kernel
theorem dX10_ask_178 : decode cX10_ask 178 = .ok (.if_icmp .ne 8, 3) := by decide +kernel
theorem dX10_ask_181 : decode cX10_ask 181 = .ok (.iload 5, 2) := by decide +kernel
theorem dX10_ask_183 : decode cX10_ask 183 = .ok (.goto 5, 3) := by decide +kernel
theorem dX10_ask_186 : decode cX10_ask 186 = .ok (.iload 6, 2) := by decide +kernel
theorem dX10_ask_188 : decode cX10_ask 188 = .ok (.ireturn, 1) := by decide +kernel
theorem dX10_noisy_0 : decode cX10_noisy 0 = .ok (.aload_n 0, 1) := by decide +kernel
theorem dX10_noisy_1 : decode cX10_noisy 1 = .ok (.aload_n 0, 1) := by decide +kernel
theorem dX10_noisy_2 : decode cX10_noisy 2 = .ok (.getfield 390, 3) := by decide +kernel
theorem dX10_noisy_5 : decode cX10_noisy 5 = .ok (.ldc2_w 394, 3) := by decide +kernel
theorem dX10_noisy_8 : decode cX10_noisy 8 = .ok (.lmul, 1) := by decide +kernel
theorem dX10_noisy_9 : decode cX10_noisy 9 = .ok (.ldc2_w 396, 3) := by decide +kernel
theorem dX10_noisy_12 : decode cX10_noisy 12 = .ok (.ladd, 1) := by decide +kernel
theorem dX10_noisy_13 : decode cX10_noisy 13 = .ok (.ldc2_w 398, 3) := by decide +kernel
theorem dX10_noisy_16 : decode cX10_noisy 16 = .ok (.land, 1) := by decide +kernel
theorem dX10_noisy_17 : decode cX10_noisy 17 = .ok (.putfield 390, 3) := by decide +kernel
theorem dX10_noisy_20 : decode cX10_noisy 20 = .ok (.iload_n 1, 1) := by decide +kernel
theorem dX10_noisy_21 : decode cX10_noisy 21 = .ok (.aload_n 0, 1) := by decide +kernel
theorem dX10_noisy_22 : decode cX10_noisy 22 = .ok (.getfield 390, 3) := by decide +kernel
theorem dX10_noisy_25 : decode cX10_noisy 25 = .ok (.ldc2_w 400, 3) := by decide +kernel
theorem dX10_noisy_28 : decode cX10_noisy 28 = .ok (.ldiv, 1) := by decide +kernel
theorem dX10_noisy_29 : decode cX10_noisy 29 = .ok (.iconst 2, 1) := by decide +kernel
theorem dX10_noisy_30 : decode cX10_noisy 30 = .ok (.iload_n 2, 1) := by decide +kernel
theorem dX10_noisy_31 : decode cX10_noisy 31 = .ok (.imul, 1) := by decide +kernel
theorem dX10_noisy_32 : decode cX10_noisy 32 = .ok (.iconst 1, 1) := by decide +kernel
theorem dX10_noisy_33 : decode cX10_noisy 33 = .ok (.iadd, 1) := by decide +kernel
theorem dX10_noisy_34 : decode cX10_noisy 34 = .ok (.i2l, 1) := by decide +kernel
theorem dX10_noisy_35 : decode cX10_noisy 35 = .ok (.lrem, 1) := by decide +kernel
theorem dX10_noisy_36 : decode cX10_noisy 36 = .ok (.l2i, 1) := by decide +kernel
theorem dX10_noisy_37 : decode cX10_noisy 37 = .ok (.iadd, 1) := by decide +kernel
theorem dX10_noisy_38 : decode cX10_noisy 38 = .ok (.iload_n 2, 1) := by decide +kernel
theorem dX10_noisy_39 : decode cX10_noisy 39 = .ok (.isub, 1) := by decide +kernel
theorem dX10_noisy_40 : decode cX10_noisy 40 = .ok (.istore_n 3, 1) := by decide +kernel
theorem dX10_noisy_41 : decode cX10_noisy 41 = .ok (.iload_n 3, 1) := by decide +kernel
theorem dX10_noisy_42 : decode cX10_noisy 42 = .ok (.aload_n 0, 1) := by decide +kernel
theorem dX10_noisy_43 : decode cX10_noisy 43 = .ok (.getfield 175, 3) := by decide +kernel
theorem dX10_noisy_46 : decode cX10_noisy 46 = .ok (.if_icmp .le 10, 3) := by decide +kernel
theorem dX10_noisy_49 : decode cX10_noisy 49 = .ok (.aload_n 0, 1) := by decide +kernel
theorem dX10_noisy_50 : decode cX10_noisy 50 = .ok (.getfield 175, 3) := by decide +kernel
theorem dX10_noisy_53 : decode cX10_noisy 53 = .ok (.goto 21, 3) := by decide +kernel
theorem dX10_noisy_56 : decode cX10_noisy 56 = .ok (.iload_n 3, 1) := by decide +kernel
theorem dX10_noisy_57 : decode cX10_noisy 57 = .ok (.aload_n 0, 1) := by decide +kernel
theorem dX10_noisy_58 : decode cX10_noisy 58 = .ok (.getfield 175, 3) := by decide +kernel
theorem dX10_noisy_61 : decode cX10_noisy 61 = .ok (.ineg, 1) := by decide +kernel
theorem dX10_noisy_62 : decode cX10_noisy 62 = .ok (.if_icmp .ge 11, 3) := by decide +kernel
theorem dX10_noisy_65 : decode cX10_noisy 65 = .ok (.aload_n 0, 1) := by decide +kernel
theorem dX10_noisy_66 : decode cX10_noisy 66 = .ok (.getfield 175, 3) := by decide +kernel
theorem dX10_noisy_69 : decode cX10_noisy 69 = .ok (.ineg, 1) := by decide +kernel
theorem dX10_noisy_70 : decode cX10_noisy 70 = .ok (.goto 4, 3) := by decide +kernel
theorem dX10_noisy_73 : decode cX10_noisy 73 = .ok (.iload_n 3, 1) := by decide +kernel
theorem dX10_noisy_74 : decode cX10_noisy 74 = .ok (.ireturn, 1) := by decide +kernel
theorem dX10_chanceOf_0 : decode cX10_chanceOf 0 = .ok (.aload_n 0, 1) := by decide +kernel
theorem dX10_chanceOf_1 : decode cX10_chanceOf 1 = .ok (.iload_n 1, 1) := by decide +kernel
theorem dX10_chanceOf_2 : decode cX10_chanceOf 2 = .ok (.ifCond .ge 13, 3) := by decide +kernel
theorem dX10_chanceOf_5 : decode cX10_chanceOf 5 = .ok (.aload_n 0, 1) := by decide +kernel
theorem dX10_chanceOf_6 : decode cX10_chanceOf 6 = .ok (.getfield 20, 3) := by decide +kernel
theorem dX10_chanceOf_9 : decode cX10_chanceOf 9 = .ok (.iconst 5, 1) := by decide +kernel
theorem dX10_chanceOf_10 : decode cX10_chanceOf 10 = .ok (.iaload, 1) := by decide +kernel
theorem dX10_chanceOf_11 : decode cX10_chanceOf 11 = .ok (.i2l, 1) := by decide +kernel
theorem dX10_chanceOf_12 : decode cX10_chanceOf 12 = .ok (.goto 5, 3) := by decide +kernel
theorem dX10_chanceOf_15 : decode cX10_chanceOf 15 = .ok (.iload_n 1, 1) := by decide +kernel
theorem dX10_chanceOf_16 : decode cX10_chanceOf 16 = .ok (.i2l, 1) := by decide +kernel
theorem dX10_chanceOf_17 : decode cX10_chanceOf 17 = .ok (.putfield 390, 3) := by decide +kernel
theorem dX10_chanceOf_20 : decode cX10_chanceOf 20 = .ok (.iconst 0, 1) := by decide +kernel
theorem dX10_chanceOf_21 : decode cX10_chanceOf 21 = .ok (.istore 4, 2) := by decide +kernel
theorem dX10_chanceOf_23 : decode cX10_chanceOf 23 = .ok (.iconst 0, 1) := by decide +kernel
theorem dX10_chanceOf_24 : decode cX10_chanceOf 24 = .ok (.istore 5, 2) := by decide +kernel
theorem dX10_chanceOf_26 : decode cX10_chanceOf 26 = .ok (.iload 5, 2) := by decide +kernel
theorem dX10_chanceOf_28 : decode cX10_chanceOf 28 = .ok (.bipush 10, 2) := by decide +kernel
theorem dX10_chanceOf_30 : decode cX10_chanceOf 30 = .ok (.if_icmp .ge 93, 3) := by decide +kernel
theorem dX10_chanceOf_33 : decode cX10_chanceOf 33 = .ok (.aload_n 0, 1) := by decide +kernel
theorem dX10_chanceOf_34 : decode cX10_chanceOf 34 = .ok (.invokevirtual 311, 3) := by decide +kernel
theorem dX10_chanceOf_37 : decode cX10_chanceOf 37 = .ok (.iconst 0, 1) := by decide +kernel
theorem dX10_chanceOf_38 : decode cX10_chanceOf 38 = .ok (.istore 6, 2) := by decide +kernel
theorem dX10_chanceOf_40 : decode cX10_chanceOf 40 = .ok (.iload 6, 2) := by decide +kernel
theorem dX10_chanceOf_42 : decode cX10_chanceOf 42 = .ok (.aload_n 0, 1) := by decide +kernel
theorem dX10_chanceOf_43 : decode cX10_chanceOf 43 = .ok (.invokevirtual 196, 3) := by decide +kernel
theorem dX10_chanceOf_46 : decode cX10_chanceOf 46 = .ok (.if_icmp .ge 49, 3) := by decide +kernel
theorem dX10_chanceOf_49 : decode cX10_chanceOf 49 = .ok (.aload_n 0, 1) := by decide +kernel
theorem dX10_chanceOf_50 : decode cX10_chanceOf 50 = .ok (.iload 6, 2) := by decide +kernel
theorem dX10_chanceOf_52 : decode cX10_chanceOf 52 = .ok (.aload_n 0, 1) := by decide +kernel
theorem dX10_chanceOf_53 : decode cX10_chanceOf 53 = .ok (.aload_n 0, 1) := by decide +kernel
theorem dX10_chanceOf_54 : decode cX10_chanceOf 54 = .ok (.iload 6, 2) := by decide +kernel
theorem dX10_chanceOf_56 : decode cX10_chanceOf 56 = .ok (.invokevirtual 187, 3) := by decide +kernel
theorem dX10_chanceOf_59 : decode cX10_chanceOf 59 = .ok (.iload_n 2, 1) := by decide +kernel
theorem dX10_chanceOf_60 : decode cX10_chanceOf 60 = .ok (.invokevirtual 402, 3) := by decide +kernel
theorem dX10_chanceOf_63 : decode cX10_chanceOf 63 = .ok (.invokevirtual 118, 3) := by decide +kernel
theorem dX10_chanceOf_66 : decode cX10_chanceOf 66 = .ok (.aload_n 0, 1) := by decide +kernel
theorem dX10_chanceOf_67 : decode cX10_chanceOf 67 = .ok (.bipush 32, 2) := by decide +kernel
theorem dX10_chanceOf_69 : decode cX10_chanceOf 69 = .ok (.iload 6, 2) := by decide +kernel
theorem dX10_chanceOf_71 : decode cX10_chanceOf 71 = .ok (.iadd, 1) := by decide +kernel
theorem dX10_chanceOf_72 : decode cX10_chanceOf 72 = .ok (.aload_n 0, 1) := by decide +kernel
theorem dX10_chanceOf_73 : decode cX10_chanceOf 73 = .ok (.aload_n 0, 1) := by decide +kernel
theorem dX10_chanceOf_74 : decode cX10_chanceOf 74 = .ok (.bipush 32, 2) := by decide +kernel
theorem dX10_chanceOf_76 : decode cX10_chanceOf 76 = .ok (.iload 6, 2) := by decide +kernel
theorem dX10_chanceOf_78 : decode cX10_chanceOf 78 = .ok (.iadd, 1) := by decide +kernel
theorem dX10_chanceOf_79 : decode cX10_chanceOf 79 = .ok (.invokevirtual 187, 3) := by decide +kernel
theorem dX10_chanceOf_82 : decode cX10_chanceOf 82 = .ok (.iload_n 2, 1) := by decide +kernel
theorem dX10_chanceOf_83 : decode cX10_chanceOf 83 = .ok (.invokevirtual 402, 3) := by decide +kernel
theorem dX10_chanceOf_86 : decode cX10_chanceOf 86 = .ok (.invokevirtual 118, 3) := by decide +kernel
theorem dX10_chanceOf_89 : decode cX10_chanceOf 89 = .ok (.iinc 6 1, 3) := by decide +kernel
theorem dX10_chanceOf_92 : decode cX10_chanceOf 92 = .ok (.goto (-52), 3) := by decide +kernel
theorem dX10_chanceOf_95 : decode cX10_chanceOf 95 = .ok (.iload 4, 2) := by decide +kernel
theorem dX10_chanceOf_97 : decode cX10_chanceOf 97 = .ok (.aload_n 0, 1) := by decide +kernel
theorem dX10_chanceOf_98 : decode cX10_chanceOf 98 = .ok (.invokevirtual 314, 3) := by decide +kernel
theorem dX10_chanceOf_101 : decode cX10_chanceOf 101 = .ok (.iload_n 3, 1) := by decide +kernel
theorem dX10_chanceOf_102 : decode cX10_chanceOf 102 = .ok (.if_icmp .lt 7, 3) := by decide +kernel
theorem dX10_chanceOf_105 : decode cX10_chanceOf 105 = .ok (.iconst 1, 1) := by decide +kernel
theorem dX10_chanceOf_106 : decode cX10_chanceOf 106 = .ok (.goto 4, 3) := by decide +kernel
theorem dX10_chanceOf_109 : decode cX10_chanceOf 109 = .ok (.iconst 0, 1) := by decide +kernel
theorem dX10_chanceOf_110 : decode cX10_chanceOf 110 = .ok (.iadd, 1) := by decide +kernel
theorem dX10_chanceOf_111 : decode cX10_chanceOf 111 = .ok (.istore 4, 2) := by decide +kernel
theorem dX10_chanceOf_113 : decode cX10_chanceOf 113 = .ok (.aload_n 0, 1) := by decide +kernel
theorem dX10_chanceOf_114 : decode cX10_chanceOf 114 = .ok (.invokevirtual 289, 3) := by decide +kernel
theorem dX10_chanceOf_117 : decode cX10_chanceOf 117 = .ok (.iinc 5 1, 3) := by decide +kernel
theorem dX10_chanceOf_120 : decode cX10_chanceOf 120 = .ok (.goto (-94), 3) := by decide +kernel
theorem dX10_chanceOf_123 : decode cX10_chanceOf 123 = .ok (.iload 4, 2) := by decide +kernel
theorem dX10_chanceOf_125 : decode cX10_chanceOf 125 = .ok (.ireturn, 1) := by decide +kernel
theorem dX10_chance_0 : decode cX10_chance 0 = .ok (.aload_n 0, 1) := by decide +kernel
theorem dX10_chance_1 : decode cX10_chance 1 = .ok (.iconst 0, 1) := by decide +kernel
theorem dX10_chance_2 : decode cX10_chance 2 = .ok (.putfield 70, 3) := by decide +kernel
theorem dX10_chance_5 : decode cX10_chance 5 = .ok (.iload_n 1, 1) := by decide +kernel
theorem dX10_chance_6 : decode cX10_chance 6 = .ok (.iconst (-1), 1) := by decide +kernel
theorem dX10_chance_7 : decode cX10_chance 7 = .ok (.if_icmp .lt 33, 3) := by decide +kernel
theorem dX10_chance_10 : decode cX10_chance 10 = .ok (.iload_n 2, 1) := by decide +kernel
theorem dX10_chance_11 : decode cX10_chance 11 = .ok (.iconst 1, 1) := by decide +kernel
theorem dX10_chance_12 : decode cX10_chance 12 = .ok (.bipush 99, 2) := by decide +kernel
theorem dX10_chance_14 : decode cX10_chance 14 = .ok (.invokestatic 138, 3) := by decide +kernel
theorem dX10_chance_17 : decode cX10_chance 17 = .ok (.ifCond .eq 23, 3) := by decide +kernel
theorem dX10_chance_20 : decode cX10_chance 20 = .ok (.iload_n 3, 1) := by decide +kernel
theorem dX10_chance_21 : decode cX10_chance 21 = .ok (.iconst 0, 1) := by decide +kernel
theorem dX10_chance_22 : decode cX10_chance 22 = .ok (.bipush 20, 2) := by decide +kernel
theorem dX10_chance_24 : decode cX10_chance 24 = .ok (.invokestatic 138, 3) := by decide +kernel
theorem dX10_chance_27 : decode cX10_chance 27 = .ok (.ifCond .eq 13, 3) := by decide +kernel
theorem dX10_chance_30 : decode cX10_chance 30 = .ok (.aload_n 0, 1) := by decide +kernel
theorem dX10_chance_31 : decode cX10_chance 31 = .ok (.iload_n 1, 1) := by decide +kernel
theorem dX10_chance_32 : decode cX10_chance 32 = .ok (.iload_n 2, 1) := by decide +kernel
theorem dX10_chance_33 : decode cX10_chance 33 = .ok (.iload_n 3, 1) := by decide +kernel
theorem dX10_chance_34 : decode cX10_chance 34 = .ok (.invokevirtual 405, 3) := by decide +kernel
theorem dX10_chance_37 : decode cX10_chance 37 = .ok (.goto 4, 3) := by decide +kernel
theorem dX10_chance_40 : decode cX10_chance 40 = .ok (.iconst (-1), 1) := by decide +kernel
theorem dX10_chance_41 : decode cX10_chance 41 = .ok (.ireturn, 1) := by decide +kernel
theorem dX10_noise_0 : decode cX10_noise 0 = .ok (.aload_n 0, 1) := by decide +kernel
theorem dX10_noise_1 : decode cX10_noise 1 = .ok (.iconst 0, 1) := by decide +kernel
theorem dX10_noise_2 : decode cX10_noise 2 = .ok (.putfield 70, 3) := by decide +kernel
theorem dX10_noise_5 : decode cX10_noise 5 = .ok (.iload_n 1, 1) := by decide +kernel
theorem dX10_noise_6 : decode cX10_noise 6 = .ok (.iconst (-1), 1) := by decide +kernel
theorem dX10_noise_7 : decode cX10_noise 7 = .ok (.if_icmp .lt 13, 3) := by decide +kernel
theorem dX10_noise_10 : decode cX10_noise 10 = .ok (.iload_n 2, 1) := by decide +kernel
theorem dX10_noise_11 : decode cX10_noise 11 = .ok (.iconst 0, 1) := by decide +kernel
theorem dX10_noise_12 : decode cX10_noise 12 = .ok (.bipush 20, 2) := by decide +kernel
theorem dX10_noise_14 : decode cX10_noise 14 = .ok (.invokestatic 138, 3) := by decide +kernel
theorem dX10_noise_17 : decode cX10_noise 17 = .ok (.ifCond .ne 5, 3) := by decide +kernel
theorem dX10_noise_20 : decode cX10_noise 20 = .ok (.iconst (-1), 1) := by decide +kernel
theorem dX10_noise_21 : decode cX10_noise 21 = .ok (.ireturn, 1) := by decide +kernel
theorem dX10_noise_22 : decode cX10_noise 22 = .ok (.iconst 1, 1) := by decide +kernel
theorem dX10_noise_23 : decode cX10_noise 23 = .ok (.istore_n 3, 1) := by decide +kernel
theorem dX10_noise_24 : decode cX10_noise 24 = .ok (.iload_n 3, 1) := by decide +kernel
theorem dX10_noise_25 : decode cX10_noise 25 = .ok (.bipush 99, 2) := by decide +kernel
theorem dX10_noise_27 : decode cX10_noise 27 = .ok (.if_icmp .gt 22, 3) := by decide +kernel
theorem dX10_noise_30 : decode cX10_noise 30 = .ok (.aload_n 0, 1) := by decide +kernel
theorem dX10_noise_31 : decode cX10_noise 31 = .ok (.iload_n 1, 1) := by decide +kernel
theorem dX10_noise_32 : decode cX10_noise 32 = .ok (.iload_n 3, 1) := by decide +kernel
theorem dX10_noise_33 : decode cX10_noise 33 = .ok (.iload_n 2, 1) := by decide +kernel
theorem dX10_noise_34 : decode cX10_noise 34 = .ok (.invokevirtual 405, 3) := by decide +kernel
theorem dX10_noise_37 : decode cX10_noise 37 = .ok (.iconst 5, 1) := by decide +kernel
theorem dX10_noise_38 : decode cX10_noise 38 = .ok (.if_icmp .lt 5, 3) := by decide +kernel
theorem dX10_noise_41 : decode cX10_noise 41 = .ok (.iload_n 3, 1) := by decide +kernel
theorem dX10_noise_42 : decode cX10_noise 42 = .ok (.ireturn, 1) := by decide +kernel
theorem dX10_noise_43 : decode cX10_noise 43 = .ok (.iinc 3 1, 3) := by decide +kernel
theorem dX10_noise_46 : decode cX10_noise 46 = .ok (.goto (-22), 3) := by decide +kernel
theorem dX10_noise_49 : decode cX10_noise 49 = .ok (.bipush (-2), 2) := by decide +kernel
theorem dX10_noise_51 : decode cX10_noise 51 = .ok (.ireturn, 1) := by decide +kernel
theorem dX10_expWithout_0 : decode cX10_expWithout 0 = .ok (.aload_n 0, 1) := by decide +kernel
theorem dX10_expWithout_1 : decode cX10_expWithout 1 = .ok (.invokevirtual 311, 3) := by decide +kernel
theorem dX10_expWithout_4 : decode cX10_expWithout 4 = .ok (.aload_n 0, 1) := by decide +kernel
theorem dX10_expWithout_5 : decode cX10_expWithout 5 = .ok (.iload_n 1, 1) := by decide +kernel
theorem dX10_expWithout_6 : decode cX10_expWithout 6 = .ok (.iconst 0, 1) := by decide +kernel
theorem dX10_expWithout_7 : decode cX10_expWithout 7 = .ok (.invokevirtual 118, 3) := by decide +kernel
theorem dX10_expWithout_10 : decode cX10_expWithout 10 = .ok (.aload_n 0, 1) := by decide +kernel
theorem dX10_expWithout_11 : decode cX10_expWithout 11 = .ok (.bipush 32, 2) := by decide +kernel
theorem dX10_expWithout_13 : decode cX10_expWithout 13 = .ok (.iload_n 1, 1) := by decide +kernel
theorem dX10_expWithout_14 : decode cX10_expWithout 14 = .ok (.iadd, 1) := by decide +kernel
theorem dX10_expWithout_15 : decode cX10_expWithout 15 = .ok (.iconst 0, 1) := by decide +kernel
theorem dX10_expWithout_16 : decode cX10_expWithout 16 = .ok (.invokevirtual 118, 3) := by decide +kernel
theorem dX10_expWithout_19 : decode cX10_expWithout 19 = .ok (.aload_n 0, 1) := by decide +kernel
theorem dX10_expWithout_20 : decode cX10_expWithout 20 = .ok (.invokevirtual 314, 3) := by decide +kernel
theorem dX10_expWithout_23 : decode cX10_expWithout 23 = .ok (.istore_n 2, 1) := by decide +kernel
theorem dX10_expWithout_24 : decode cX10_expWithout 24 = .ok (.aload_n 0, 1) := by decide +kernel
theorem dX10_expWithout_25 : decode cX10_expWithout 25 = .ok (.invokevirtual 289, 3) := by decide +kernel
theorem dX10_expWithout_28 : decode cX10_expWithout 28 = .ok (.iload_n 2, 1) := by decide +kernel
theorem dX10_expWithout_29 : decode cX10_expWithout 29 = .ok (.ireturn, 1) := by decide +kernel
theorem dX10_tried_0 : decode cX10_tried 0 = .ok (.aload_n 0, 1) := by decide +kernel
theorem dX10_tried_1 : decode cX10_tried 1 = .ok (.iconst 0, 1) := by decide +kernel
theorem dX10_tried_2 : decode cX10_tried 2 = .ok (.putfield 70, 3) := by decide +kernel
theorem dX10_tried_5 : decode cX10_tried 5 = .ok (.iload_n 1, 1) := by decide +kernel
theorem dX10_tried_6 : decode cX10_tried 6 = .ok (.iconst 0, 1) := by decide +kernel
theorem dX10_tried_7 : decode cX10_tried 7 = .ok (.iconst 4, 1) := by decide +kernel
theorem dX10_tried_8 : decode cX10_tried 8 = .ok (.invokestatic 138, 3) := by decide +kernel
theorem dX10_tried_11 : decode cX10_tried 11 = .ok (.ifCond .eq 23, 3) := by decide +kernel
theorem dX10_tried_14 : decode cX10_tried 14 = .ok (.iload_n 1, 1) := by decide +kernel
theorem dX10_tried_15 : decode cX10_tried 15 = .ok (.iconst 2, 1) := by decide +kernel
theorem dX10_tried_16 : decode cX10_tried 16 = .ok (.if_icmp .ne 14, 3) := by decide +kernel
theorem dX10_tried_19 : decode cX10_tried 19 = .ok (.aload_n 0, 1) := by decide +kernel
theorem dX10_tried_20 : decode cX10_tried 20 = .ok (.iload_n 2, 1) := by decide +kernel
theorem dX10_tried_21 : decode cX10_tried 21 = .ok (.invokevirtual 203, 3) := by decide +kernel
theorem dX10_tried_24 : decode cX10_tried 24 = .ok (.ifCond .ne 12, 3) := by decide +kernel
theorem dX10_tried_27 : decode cX10_tried 27 = .ok (.goto 7, 3) := by decide +kernel
theorem dX10_tried_30 : decode cX10_tried 30 = .ok (.iload_n 2, 1) := by decide +kernel
theorem dX10_tried_31 : decode cX10_tried 31 = .ok (.ifCond .eq 5, 3) := by decide +kernel
theorem dX10_tried_34 : decode cX10_tried 34 = .ok (.iconst (-1), 1) := by decide +kernel
theorem dX10_tried_35 : decode cX10_tried 35 = .ok (.ireturn, 1) := by decide +kernel
theorem dX10_tried_36 : decode cX10_tried 36 = .ok (.iload_n 1, 1) := by decide +kernel
theorem dX10_tried_37 : decode cX10_tried 37 = .ok (.iconst 2, 1) := by decide +kernel
theorem dX10_tried_38 : decode cX10_tried 38 = .ok (.if_icmp .ne 9, 3) := by decide +kernel
theorem dX10_tried_41 : decode cX10_tried 41 = .ok (.aload_n 0, 1) := by decide +kernel
theorem dX10_tried_42 : decode cX10_tried 42 = .ok (.iload_n 2, 1) := by decide +kernel
theorem dX10_tried_43 : decode cX10_tried 43 = .ok (.invokevirtual 408, 3) := by decide +kernel
theorem dX10_tried_46 : decode cX10_tried 46 = .ok (.ireturn, 1) := by decide +kernel
theorem dX10_tried_47 : decode cX10_tried 47 = .ok (.aload_n 0, 1) := by decide +kernel
theorem dX10_tried_48 : decode cX10_tried 48 = .ok (.invokevirtual 311, 3) := by decide +kernel
theorem dX10_tried_51 : decode cX10_tried 51 = .ok (.iload_n 1, 1) := by decide +kernel
theorem dX10_tried_52 : decode cX10_tried 52 = .ok (.iconst 1, 1) := by decide +kernel
theorem dX10_tried_53 : decode cX10_tried 53 = .ok (.if_icmp .gt 8, 3) := by decide +kernel
theorem dX10_tried_56 : decode cX10_tried 56 = .ok (.aload_n 0, 1) := by decide +kernel
theorem dX10_tried_57 : decode cX10_tried 57 = .ok (.iload_n 1, 1) := by decide +kernel
theorem dX10_tried_58 : decode cX10_tried 58 = .ok (.putfield 172, 3) := by decide +kernel
theorem dX10_tried_61 : decode cX10_tried 61 = .ok (.iload_n 1, 1) := by decide +kernel
theorem dX10_tried_62 : decode cX10_tried 62 = .ok (.iconst 3, 1) := by decide +kernel
theorem dX10_tried_63 : decode cX10_tried 63 = .ok (.if_icmp .ne 14, 3) := by decide +kernel
theorem dX10_tried_66 : decode cX10_tried 66 = .ok (.aload_n 0, 1) := by decide +kernel
theorem dX10_tried_67 : decode cX10_tried 67 = .ok (.bipush 6, 2) := by decide +kernel
theorem dX10_tried_69 : decode cX10_tried 69 = .ok (.aload_n 0, 1) := by decide +kernel
theorem dX10_tried_70 : decode cX10_tried 70 = .ok (.getfield 166, 3) := by decide +kernel
theorem dX10_tried_73 : decode cX10_tried 73 = .ok (.isub, 1) := by decide +kernel
theorem dX10_tried_74 : decode cX10_tried 74 = .ok (.putfield 166, 3) := by decide +kernel
theorem dX10_tried_77 : decode cX10_tried 77 = .ok (.iload_n 1, 1) := by decide +kernel
theorem dX10_tried_78 : decode cX10_tried 78 = .ok (.iconst 4, 1) := by decide +kernel
theorem dX10_tried_79 : decode cX10_tried 79 = .ok (.if_icmp .ne 13, 3) := by decide +kernel
theorem dX10_tried_82 : decode cX10_tried 82 = .ok (.aload_n 0, 1) := by decide +kernel
theorem dX10_tried_83 : decode cX10_tried 83 = .ok (.iconst 1, 1) := by decide +kernel
theorem dX10_tried_84 : decode cX10_tried 84 = .ok (.aload_n 0, 1) := by decide +kernel
theorem dX10_tried_85 : decode cX10_tried 85 = .ok (.getfield 169, 3) := by decide +kernel
theorem dX10_tried_88 : decode cX10_tried 88 = .ok (.isub, 1) := by decide +kernel
theorem dX10_tried_89 : decode cX10_tried 89 = .ok (.putfield 169, 3) := by decide +kernel
theorem dX10_tried_92 : decode cX10_tried 92 = .ok (.aload_n 0, 1) := by decide +kernel
theorem dX10_tried_93 : decode cX10_tried 93 = .ok (.invokevirtual 314, 3) := by decide +kernel
theorem dX10_tried_96 : decode cX10_tried 96 = .ok (.istore_n 3, 1) := by decide +kernel
theorem dX10_tried_97 : decode cX10_tried 97 = .ok (.aload_n 0, 1) := by decide +kernel
theorem dX10_tried_98 : decode cX10_tried 98 = .ok (.invokevirtual 289, 3) := by decide +kernel
theorem dX10_tried_101 : decode cX10_tried 101 = .ok (.iload_n 3, 1) := by decide +kernel
theorem dX10_tried_102 : decode cX10_tried 102 = .ok (.ireturn, 1) := by decide +kernel
theorem dX10_loudest_0 : decode cX10_loudest 0 = .ok (.aload_n 0, 1) := by decide +kernel
theorem dX10_loudest_1 : decode cX10_loudest 1 = .ok (.iconst 0, 1) := by decide +kernel
theorem dX10_loudest_2 : decode cX10_loudest 2 = .ok (.putfield 70, 3) := by decide +kernel
theorem dX10_loudest_5 : decode cX10_loudest 5 = .ok (.iconst 0, 1) := by decide +kernel
theorem dX10_loudest_6 : decode cX10_loudest 6 = .ok (.istore_n 1, 1) := by decide +kernel
theorem dX10_loudest_7 : decode cX10_loudest 7 = .ok (.aload_n 0, 1) := by decide +kernel
theorem dX10_loudest_8 : decode cX10_loudest 8 = .ok (.iconst 0, 1) := by decide +kernel
theorem dX10_loudest_9 : decode cX10_loudest 9 = .ok (.invokevirtual 408, 3) := by decide +kernel
theorem dX10_loudest_12 : decode cX10_loudest 12 = .ok (.istore_n 2, 1) := by decide +kernel
theorem dX10_loudest_13 : decode cX10_loudest 13 = .ok (.iconst 1, 1) := by decide +kernel
theorem dX10_loudest_14 : decode cX10_loudest 14 = .ok (.istore_n 3, 1) := by decide +kernel
theorem dX10_loudest_15 : decode cX10_loudest 15 = .ok (.iload_n 3, 1) := by decide +kernel
theorem dX10_loudest_16 : decode cX10_loudest 16 = .ok (.aload_n 0, 1) := by decide +kernel
theorem dX10_loudest_17 : decode cX10_loudest 17 = .ok (.invokevirtual 196, 3) := by decide +kernel
theorem dX10_loudest_20 : decode cX10_loudest 20 = .ok (.if_icmp .ge 41, 3) := by decide +kernel
theorem dX10_loudest_23 : decode cX10_loudest 23 = .ok (.aload_n 0, 1) := by decide +kernel
theorem dX10_loudest_24 : decode cX10_loudest 24 = .ok (.iload_n 3, 1) := by decide +kernel
theorem dX10_loudest_25 : decode cX10_loudest 25 = .ok (.invokevirtual 408, 3) := by decide +kernel
theorem dX10_loudest_28 : decode cX10_loudest 28 = .ok (.istore 4, 2) := by decide +kernel
theorem dX10_loudest_30 : decode cX10_loudest 30 = .ok (.iload 4, 2) := by decide +kernel
theorem dX10_loudest_32 : decode cX10_loudest 32 = .ok (.iload_n 2, 1) := by decide +kernel
theorem dX10_loudest_33 : decode cX10_loudest 33 = .ok (.if_icmp .ge 7, 3) := by decide +kernel
theorem dX10_loudest_36 : decode cX10_loudest 36 = .ok (.iload_n 3, 1) := by decide +kernel
theorem dX10_loudest_37 : decode cX10_loudest 37 = .ok (.goto 4, 3) := by decide +kernel
theorem dX10_loudest_40 : decode cX10_loudest 40 = .ok (.iload_n 1, 1) := by decide +kernel
theorem dX10_loudest_41 : decode cX10_loudest 41 = .ok (.istore_n 1, 1) := by decide +kernel
theorem dX10_loudest_42 : decode cX10_loudest 42 = .ok (.iload 4, 2) := by decide +kernel
theorem dX10_loudest_44 : decode cX10_loudest 44 = .ok (.iload_n 2, 1) := by decide +kernel
theorem dX10_loudest_45 : decode cX10_loudest 45 = .ok (.if_icmp .ge 8, 3) := by decide +kernel
theorem dX10_loudest_48 : decode cX10_loudest 48 = .ok (.iload 4, 2) := by decide +kernel
theorem dX10_loudest_50 : decode cX10_loudest 50 = .ok (.goto 4, 3) := by decide +kernel
theorem dX10_loudest_53 : decode cX10_loudest 53 = .ok (.iload_n 2, 1) := by decide +kernel
theorem dX10_loudest_54 : decode cX10_loudest 54 = .ok (.istore_n 2, 1) := by decide +kernel
theorem dX10_loudest_55 : decode cX10_loudest 55 = .ok (.iinc 3 1, 3) := by decide +kernel
theorem dX10_loudest_58 : decode cX10_loudest 58 = .ok (.goto (-43), 3) := by decide +kernel
theorem dX10_loudest_61 : decode cX10_loudest 61 = .ok (.iload_n 1, 1) := by decide +kernel
theorem dX10_loudest_62 : decode cX10_loudest 62 = .ok (.ireturn, 1) := by decide +kernel
theorem dX10_undo_0 : decode cX10_undo 0 = .ok (.aload_n 0, 1) := by decide +kernel
theorem dX10_undo_1 : decode cX10_undo 1 = .ok (.iconst 0, 1) := by decide +kernel
theorem dX10_undo_2 : decode cX10_undo 2 = .ok (.putfield 70, 3) := by decide +kernel
theorem dX10_undo_5 : decode cX10_undo 5 = .ok (.aload_n 0, 1) := by decide +kernel
theorem dX10_undo_6 : decode cX10_undo 6 = .ok (.getfield 129, 3) := by decide +kernel
theorem dX10_undo_9 : decode cX10_undo 9 = .ok (.ifCond .ne 5, 3) := by decide +kernel
theorem dX10_undo_12 : decode cX10_undo 12 = .ok (.iconst (-1), 1) := by decide +kernel
theorem dX10_undo_13 : decode cX10_undo 13 = .ok (.ireturn, 1) := by decide +kernel
theorem dX10_undo_14 : decode cX10_undo 14 = .ok (.aload_n 0, 1) := by decide +kernel
theorem dX10_undo_15 : decode cX10_undo 15 = .ok (.dup, 1) := by decide +kernel
theorem dX10_undo_16 : decode cX10_undo 16 = .ok (.getfield 129, 3) := by decide +kernel
theorem dX10_undo_19 : decode cX10_undo 19 = .ok (.iconst 1, 1) := by decide +kernel
theorem dX10_undo_20 : decode cX10_undo 20 = .ok (.isub, 1) := by decide +kernel
theorem dX10_undo_21 : decode cX10_undo 21 = .ok (.putfield 129, 3) := by decide +kernel
theorem dX10_undo_24 : decode cX10_undo 24 = .ok (.aload_n 0, 1) := by decide +kernel
theorem dX10_undo_25 : decode cX10_undo 25 = .ok (.iconst 3, 1) := by decide +kernel
theorem dX10_undo_26 : decode cX10_undo 26 = .ok (.aload_n 0, 1) := by decide +kernel
theorem dX10_undo_27 : decode cX10_undo 27 = .ok (.getfield 129, 3) := by decide +kernel
theorem dX10_undo_30 : decode cX10_undo 30 = .ok (.iadd, 1) := by decide +kernel
theorem dX10_undo_31 : decode cX10_undo 31 = .ok (.iconst 0, 1) := by decide +kernel
theorem dX10_undo_32 : decode cX10_undo 32 = .ok (.invokevirtual 181, 3) := by decide +kernel
theorem dX10_undo_35 : decode cX10_undo 35 = .ok (.aload_n 0, 1) := by decide +kernel
theorem dX10_undo_36 : decode cX10_undo 36 = .ok (.getfield 129, 3) := by decide +kernel
theorem dX10_undo_39 : decode cX10_undo 39 = .ok (.ireturn, 1) := by decide +kernel
theorem dX10_keep_0 : decode cX10_keep 0 = .ok (.aload_n 0, 1) := by decide +kernel
theorem dX10_keep_1 : decode cX10_keep 1 = .ok (.iconst 0, 1) := by decide +kernel
theorem dX10_keep_2 : decode cX10_keep 2 = .ok (.putfield 70, 3) := by decide +kernel
theorem dX10_keep_5 : decode cX10_keep 5 = .ok (.aload_n 0, 1) := by decide +kernel
theorem dX10_keep_6 : decode cX10_keep 6 = .ok (.iconst 0, 1) := by decide +kernel
theorem dX10_keep_7 : decode cX10_keep 7 = .ok (.iconst 2, 1) := by decide +kernel
theorem dX10_keep_8 : decode cX10_keep 8 = .ok (.invokevirtual 181, 3) := by decide +kernel
theorem dX10_keep_11 : decode cX10_keep 11 = .ok (.aload_n 0, 1) := by decide +kernel
theorem dX10_keep_12 : decode cX10_keep 12 = .ok (.iconst 1, 1) := by decide +kernel
theorem dX10_keep_13 : decode cX10_keep 13 = .ok (.putfield 125, 3) := by decide +kernel
theorem dX10_keep_16 : decode cX10_keep 16 = .ok (.aload_n 0, 1) := by decide +kernel
theorem dX10_keep_17 : decode cX10_keep 17 = .ok (.sipush 129, 3) := by decide +kernel
theorem dX10_keep_20 : decode cX10_keep 20 = .ok (.invokevirtual 187, 3) := by decide +kernel
theorem dX10_keep_23 : decode cX10_keep 23 = .ok (.ireturn, 1) := by decide +kernel
theorem dX10_back_0 : decode cX10_back 0 = .ok (.aload_n 0, 1) := by decide +kernel
theorem dX10_back_1 : decode cX10_back 1 = .ok (.iconst 0, 1) := by decide +kernel
theorem dX10_back_2 : decode cX10_back 2 = .ok (.putfield 70, 3) := by decide +kernel
theorem dX10_back_5 : decode cX10_back 5 = .ok (.aload_n 0, 1) := by decide +kernel
theorem dX10_back_6 : decode cX10_back 6 = .ok (.getfield 125, 3) := by decide +kernel
theorem dX10_back_9 : decode cX10_back 9 = .ok (.ifCond .ne 5, 3) := by decide +kernel
theorem dX10_back_12 : decode cX10_back 12 = .ok (.iconst (-1), 1) := by decide +kernel
theorem dX10_back_13 : decode cX10_back 13 = .ok (.ireturn, 1) := by decide +kernel
theorem dX10_back_14 : decode cX10_back 14 = .ok (.aload_n 0, 1) := by decide +kernel
theorem dX10_back_15 : decode cX10_back 15 = .ok (.iconst 2, 1) := by decide +kernel
theorem dX10_back_16 : decode cX10_back 16 = .ok (.iconst 0, 1) := by decide +kernel
theorem dX10_back_17 : decode cX10_back 17 = .ok (.invokevirtual 181, 3) := by decide +kernel
theorem dX10_back_20 : decode cX10_back 20 = .ok (.aload_n 0, 1) := by decide +kernel
theorem dX10_back_21 : decode cX10_back 21 = .ok (.iconst 0, 1) := by decide +kernel
theorem dX10_back_22 : decode cX10_back 22 = .ok (.putfield 129, 3) := by decide +kernel
theorem dX10_back_25 : decode cX10_back 25 = .ok (.aload_n 0, 1) := by decide +kernel
theorem dX10_back_26 : decode cX10_back 26 = .ok (.sipush 129, 3) := by decide +kernel
theorem dX10_back_29 : decode cX10_back 29 = .ok (.invokevirtual 187, 3) := by decide +kernel
theorem dX10_back_32 : decode cX10_back 32 = .ok (.ireturn, 1) := by decide +kernel
theorem dX10_count_0 : decode cX10_count 0 = .ok (.aload_n 0, 1) := by decide +kernel
theorem dX10_count_1 : decode cX10_count 1 = .ok (.iconst 0, 1) := by decide +kernel
theorem dX10_count_2 : decode cX10_count 2 = .ok (.putfield 70, 3) := by decide +kernel
theorem dX10_count_5 : decode cX10_count 5 = .ok (.iload_n 1, 1) := by decide +kernel
theorem dX10_count_6 : decode cX10_count 6 = .ok (.tableswitch 122 0 12 #[66, 66, 66, 66, 66, 73, 78, 86, 94, 102, 107, 112, 117], 66) := by decide +kernel
theorem dX10_count_72 : decode cX10_count 72 = .ok (.aload_n 0, 1) := by decide +kernel
theorem dX10_count_73 : decode cX10_count 73 = .ok (.getfield 20, 3) := by decide +kernel
theorem dX10_count_76 : decode cX10_count 76 = .ok (.iload_n 1, 1) := by decide +kernel
theorem dX10_count_77 : decode cX10_count 77 = .ok (.iaload, 1) := by decide +kernel
theorem dX10_count_78 : decode cX10_count 78 = .ok (.ireturn, 1) := by decide +kernel
theorem dX10_count_79 : decode cX10_count 79 = .ok (.aload_n 0, 1) := by decide +kernel
theorem dX10_count_80 : decode cX10_count 80 = .ok (.invokevirtual 216, 3) := by decide +kernel
theorem dX10_count_83 : decode cX10_count 83 = .ok (.ireturn, 1) := by decide +kernel
theorem dX10_count_84 : decode cX10_count 84 = .ok (.aload_n 0, 1) := by decide +kernel
theorem dX10_count_85 : decode cX10_count 85 = .ok (.sipush 129, 3) := by decide +kernel
theorem dX10_count_88 : decode cX10_count 88 = .ok (.invokevirtual 187, 3) := by decide +kernel
theorem dX10_count_91 : decode cX10_count 91 = .ok (.ireturn, 1) := by decide +kernel
theorem dX10_count_92 : decode cX10_count 92 = .ok (.aload_n 0, 1) := by decide +kernel
theorem dX10_count_93 : decode cX10_count 93 = .ok (.sipush 130, 3) := by decide +kernel
theorem dX10_count_96 : decode cX10_count 96 = .ok (.invokevirtual 187, 3) := by decide +kernel
theorem dX10_count_99 : decode cX10_count 99 = .ok (.ireturn, 1) := by decide +kernel
theorem dX10_count_100 : decode cX10_count 100 = .ok (.aload_n 0, 1) := by decide +kernel
theorem dX10_count_101 : decode cX10_count 101 = .ok (.sipush 128, 3) := by decide +kernel
theorem dX10_count_104 : decode cX10_count 104 = .ok (.invokevirtual 187, 3) := by decide +kernel
theorem dX10_count_107 : decode cX10_count 107 = .ok (.ireturn, 1) := by decide +kernel
theorem dX10_count_108 : decode cX10_count 108 = .ok (.aload_n 0, 1) := by decide +kernel
theorem dX10_count_109 : decode cX10_count 109 = .ok (.getfield 175, 3) := by decide +kernel
theorem dX10_count_112 : decode cX10_count 112 = .ok (.ireturn, 1) := by decide +kernel
theorem dX10_count_113 : decode cX10_count 113 = .ok (.aload_n 0, 1) := by decide +kernel
theorem dX10_count_114 : decode cX10_count 114 = .ok (.getfield 132, 3) := by decide +kernel
theorem dX10_count_117 : decode cX10_count 117 = .ok (.ireturn, 1) := by decide +kernel
theorem dX10_count_118 : decode cX10_count 118 = .ok (.aload_n 0, 1) := by decide +kernel
theorem dX10_count_119 : decode cX10_count 119 = .ok (.invokevirtual 375, 3) := by decide +kernel
theorem dX10_count_122 : decode cX10_count 122 = .ok (.ireturn, 1) := by decide +kernel
theorem dX10_count_123 : decode cX10_count 123 = .ok (.aload_n 0, 1) := by decide +kernel
theorem dX10_count_124 : decode cX10_count 124 = .ok (.getfield 129, 3) := by decide +kernel
theorem dX10_count_127 : decode cX10_count 127 = .ok (.ireturn, 1) := by decide +kernel
theorem dX10_count_128 : decode cX10_count 128 = .ok (.ldc 206, 2) := by decide +kernel
theorem dX10_count_130 : decode cX10_count 130 = .ok (.ireturn, 1) := by decide +kernel
