theorem dX10_init_0 : decode cX10_init 0 = .ok (.aload_n 0, 1) := by decide +kernel
theorem dX10_init_1 : decode cX10_init 1 = .ok (.invokespecial 3, 3) := by decide +kernel
theorem dX10_init_4 : decode cX10_init 4 = .ok (.aload_n 0, 1) := by decide +kernel
theorem dX10_init_5 : decode cX10_init 5 = .ok (.iconst 5, 1) := by decide +kernel
theorem dX10_init_6 : decode cX10_init 6 = .ok (.newarray .int, 2) := by decide +kernel
theorem dX10_init_8 : decode cX10_init 8 = .ok (.putfield 9, 3) := by decide +kernel
theorem dX10_init_11 : decode cX10_init 11 = .ok (.aload_n 0, 1) := by decide +kernel
theorem dX10_init_12 : decode cX10_init 12 = .ok (.iconst 5, 1) := by decide +kernel
theorem dX10_init_13 : decode cX10_init 13 = .ok (.newarray .int, 2) := by decide +kernel
theorem dX10_init_15 : decode cX10_init 15 = .ok (.putfield 15, 3) := by decide +kernel
theorem dX10_init_18 : decode cX10_init 18 = .ok (.aload_n 0, 1) := by decide +kernel
theorem dX10_init_19 : decode cX10_init 19 = .ok (.bipush 6, 2) := by decide +kernel
theorem dX10_init_21 : decode cX10_init 21 = .ok (.newarray .int, 2) := by decide +kernel
theorem dX10_init_23 : decode cX10_init 23 = .ok (.dup, 1) := by decide +kernel
theorem dX10_init_24 : decode cX10_init 24 = .ok (.iconst 0, 1) := by decide +kernel
theorem dX10_init_25 : decode cX10_init 25 = .ok (.iconst 5, 1) := by decide +kernel
theorem dX10_init_26 : decode cX10_init 26 = .ok (.iastore, 1) := by decide +kernel
theorem dX10_init_27 : decode cX10_init 27 = .ok (.dup, 1) := by decide +kernel
theorem dX10_init_28 : decode cX10_init 28 = .ok (.iconst 1, 1) := by decide +kernel
theorem dX10_init_29 : decode cX10_init 29 = .ok (.iconst 5, 1) := by decide +kernel
theorem dX10_init_30 : decode cX10_init 30 = .ok (.iastore, 1) := by decide +kernel
theorem dX10_init_31 : decode cX10_init 31 = .ok (.dup, 1) := by decide +kernel
theorem dX10_init_32 : decode cX10_init 32 = .ok (.iconst 2, 1) := by decide +kernel
theorem dX10_init_33 : decode cX10_init 33 = .ok (.iconst 5, 1) := by decide +kernel
theorem dX10_init_34 : decode cX10_init 34 = .ok (.iastore, 1) := by decide +kernel
theorem dX10_init_35 : decode cX10_init 35 = .ok (.dup, 1) := by decide +kernel
theorem dX10_init_36 : decode cX10_init 36 = .ok (.iconst 3, 1) := by decide +kernel
theorem dX10_init_37 : decode cX10_init 37 = .ok (.iconst 5, 1) := by decide +kernel
theorem dX10_init_38 : decode cX10_init 38 = .ok (.iastore, 1) := by decide +kernel
theorem dX10_init_39 : decode cX10_init 39 = .ok (.dup, 1) := by decide +kernel
theorem dX10_init_40 : decode cX10_init 40 = .ok (.iconst 4, 1) := by decide +kernel
theorem dX10_init_41 : decode cX10_init 41 = .ok (.iconst 5, 1) := by decide +kernel
theorem dX10_init_42 : decode cX10_init 42 = .ok (.iastore, 1) := by decide +kernel
theorem dX10_init_43 : decode cX10_init 43 = .ok (.dup, 1) := by decide +kernel
theorem dX10_init_44 : decode cX10_init 44 = .ok (.iconst 5, 1) := by decide +kernel
theorem dX10_init_45 : decode cX10_init 45 = .ok (.iconst 5, 1) := by decide +kernel
theorem dX10_init_46 : decode cX10_init 46 = .ok (.iastore, 1) := by decide +kernel
theorem dX10_init_47 : decode cX10_init 47 = .ok (.putfield 18, 3) := by decide +kernel
theorem dX10_init_50 : decode cX10_init 50 = .ok (.aload_n 0, 1) := by decide +kernel
theorem dX10_init_51 : decode cX10_init 51 = .ok (.iconst 5, 1) := by decide +kernel
theorem dX10_init_52 : decode cX10_init 52 = .ok (.newarray .int, 2) := by decide +kernel
theorem dX10_init_54 : decode cX10_init 54 = .ok (.putfield 21, 3) := by decide +kernel
theorem dX10_init_57 : decode cX10_init 57 = .ok (.aload_n 0, 1) := by decide +kernel
theorem dX10_init_58 : decode cX10_init 58 = .ok (.bipush 60, 2) := by decide +kernel
theorem dX10_init_60 : decode cX10_init 60 = .ok (.newarray .int, 2) := by decide +kernel
theorem dX10_init_62 : decode cX10_init 62 = .ok (.putfield 24, 3) := by decide +kernel
theorem dX10_init_65 : decode cX10_init 65 = .ok (.aload_n 0, 1) := by decide +kernel
theorem dX10_init_66 : decode cX10_init 66 = .ok (.bipush 60, 2) := by decide +kernel
theorem dX10_init_68 : decode cX10_init 68 = .ok (.newarray .int, 2) := by decide +kernel
theorem dX10_init_70 : decode cX10_init 70 = .ok (.putfield 27, 3) := by decide +kernel
theorem dX10_init_73 : decode cX10_init 73 = .ok (.aload_n 0, 1) := by decide +kernel
theorem dX10_init_74 : decode cX10_init 74 = .ok (.bipush 40, 2) := by decide +kernel
theorem dX10_init_76 : decode cX10_init 76 = .ok (.newarray .int, 2) := by decide +kernel
theorem dX10_init_78 : decode cX10_init 78 = .ok (.putfield 30, 3) := by decide +kernel
theorem dX10_init_81 : decode cX10_init 81 = .ok (.aload_n 0, 1) := by decide +kernel
theorem dX10_init_82 : decode cX10_init 82 = .ok (.bipush 40, 2) := by decide +kernel
theorem dX10_init_84 : decode cX10_init 84 = .ok (.newarray .int, 2) := by decide +kernel
theorem dX10_init_86 : decode cX10_init 86 = .ok (.putfield 33, 3) := by decide +kernel
theorem dX10_init_89 : decode cX10_init 89 = .ok (.aload_n 0, 1) := by decide +kernel
theorem dX10_init_90 : decode cX10_init 90 = .ok (.bipush 40, 2) := by decide +kernel
theorem dX10_init_92 : decode cX10_init 92 = .ok (.newarray .int, 2) := by decide +kernel
theorem dX10_init_94 : decode cX10_init 94 = .ok (.putfield 36, 3) := by decide +kernel
theorem dX10_init_97 : decode cX10_init 97 = .ok (.aload_n 0, 1) := by decide +kernel
theorem dX10_init_98 : decode cX10_init 98 = .ok (.bipush 40, 2) := by decide +kernel
theorem dX10_init_100 : decode cX10_init 100 = .ok (.newarray .int, 2) := by decide +kernel
theorem dX10_init_102 : decode cX10_init 102 = .ok (.putfield 39, 3) := by decide +kernel
theorem dX10_init_105 : decode cX10_init 105 = .ok (.aload_n 0, 1) := by decide +kernel
theorem dX10_init_106 : decode cX10_init 106 = .ok (.bipush 120, 2) := by decide +kernel
theorem dX10_init_108 : decode cX10_init 108 = .ok (.newarray .byte, 2) := by decide +kernel
theorem dX10_init_110 : decode cX10_init 110 = .ok (.putfield 42, 3) := by decide +kernel
theorem dX10_init_113 : decode cX10_init 113 = .ok (.aload_n 0, 1) := by decide +kernel
theorem dX10_init_114 : decode cX10_init 114 = .ok (.sipush 260, 3) := by decide +kernel
theorem dX10_init_117 : decode cX10_init 117 = .ok (.newarray .byte, 2) := by decide +kernel
theorem dX10_init_119 : decode cX10_init 119 = .ok (.putfield 46, 3) := by decide +kernel
theorem dX10_init_122 : decode cX10_init 122 = .ok (.aload_n 0, 1) := by decide +kernel
theorem dX10_init_123 : decode cX10_init 123 = .ok (.sipush 260, 3) := by decide +kernel
theorem dX10_init_126 : decode cX10_init 126 = .ok (.newarray .int, 2) := by decide +kernel
theorem dX10_init_128 : decode cX10_init 128 = .ok (.putfield 49, 3) := by decide +kernel
theorem dX10_init_131 : decode cX10_init 131 = .ok (.aload_n 0, 1) := by decide +kernel
theorem dX10_init_132 : decode cX10_init 132 = .ok (.iconst 2, 1) := by decide +kernel
theorem dX10_init_133 : decode cX10_init 133 = .ok (.newarray .int, 2) := by decide +kernel
theorem dX10_init_135 : decode cX10_init 135 = .ok (.putfield 52, 3) := by decide +kernel
theorem dX10_init_138 : decode cX10_init 138 = .ok (.aload_n 0, 1) := by decide +kernel
theorem dX10_init_139 : decode cX10_init 139 = .ok (.bipush 122, 2) := by decide +kernel
theorem dX10_init_141 : decode cX10_init 141 = .ok (.newarray .short, 2) := by decide +kernel
theorem dX10_init_143 : decode cX10_init 143 = .ok (.putfield 55, 3) := by decide +kernel
theorem dX10_init_146 : decode cX10_init 146 = .ok (.aload_n 0, 1) := by decide +kernel
theorem dX10_init_147 : decode cX10_init 147 = .ok (.bipush 122, 2) := by decide +kernel
theorem dX10_init_149 : decode cX10_init 149 = .ok (.newarray .short, 2) := by decide +kernel
theorem dX10_init_151 : decode cX10_init 151 = .ok (.putfield 59, 3) := by decide +kernel
theorem dX10_init_154 : decode cX10_init 154 = .ok (.aload_n 0, 1) := by decide +kernel
theorem dX10_init_155 : decode cX10_init 155 = .ok (.bipush 6, 2) := by decide +kernel
theorem dX10_init_157 : decode cX10_init 157 = .ok (.newarray .int, 2) := by decide +kernel
theorem dX10_init_159 : decode cX10_init 159 = .ok (.putfield 62, 3) := by decide +kernel
theorem dX10_init_162 : decode cX10_init 162 = .ok (.aload_n 0, 1) := by decide +kernel
theorem dX10_init_163 : decode cX10_init 163 = .ok (.sipush 130, 3) := by decide +kernel
theorem dX10_init_166 : decode cX10_init 166 = .ok (.newarray .int, 2) := by decide +kernel
theorem dX10_init_168 : decode cX10_init 168 = .ok (.putfield 65, 3) := by decide +kernel
theorem dX10_init_171 : decode cX10_init 171 = .ok (.aload_n 0, 1) := by decide +kernel
theorem dX10_init_172 : decode cX10_init 172 = .ok (.bipush 13, 2) := by decide +kernel
theorem dX10_init_174 : decode cX10_init 174 = .ok (.newarray .int, 2) := by decide +kernel
theorem dX10_init_176 : decode cX10_init 176 = .ok (.putfield 68, 3) := by decide +kernel
theorem dX10_init_179 : decode cX10_init 179 = .ok (.aload_n 0, 1) := by decide +kernel
theorem dX10_init_180 : decode cX10_init 180 = .ok (.bipush 13, 2) := by decide +kernel
theorem dX10_init_182 : decode cX10_init 182 = .ok (.newarray .int, 2) := by decide +kernel
theorem dX10_init_184 : decode cX10_init 184 = .ok (.putfield 71, 3) := by decide +kernel
theorem dX10_init_187 : decode cX10_init 187 = .ok (.aload_n 0, 1) := by decide +kernel
theorem dX10_init_188 : decode cX10_init 188 = .ok (.sipush 10000, 3) := by decide +kernel
theorem dX10_init_191 : decode cX10_init 191 = .ok (.newarray .long, 2) := by decide +kernel
theorem dX10_init_193 : decode cX10_init 193 = .ok (.putfield 74, 3) := by decide +kernel
theorem dX10_init_196 : decode cX10_init 196 = .ok (.aload_n 0, 1) := by decide +kernel
theorem dX10_init_197 : decode cX10_init 197 = .ok (.sipush 600, 3) := by decide +kernel
theorem dX10_init_200 : decode cX10_init 200 = .ok (.newarray .int, 2) := by decide +kernel
theorem dX10_init_202 : decode cX10_init 202 = .ok (.putfield 78, 3) := by decide +kernel
theorem dX10_init_205 : decode cX10_init 205 = .ok (.aload_n 0, 1) := by decide +kernel
theorem dX10_init_206 : decode cX10_init 206 = .ok (.sipush 169, 3) := by decide +kernel
theorem dX10_init_209 : decode cX10_init 209 = .ok (.newarray .int, 2) := by decide +kernel
theorem dX10_init_211 : decode cX10_init 211 = .ok (.putfield 81, 3) := by decide +kernel
theorem dX10_init_214 : decode cX10_init 214 = .ok (.aload_n 0, 1) := by decide +kernel
theorem dX10_init_215 : decode cX10_init 215 = .ok (.iconst 5, 1) := by decide +kernel
theorem dX10_init_216 : decode cX10_init 216 = .ok (.newarray .int, 2) := by decide +kernel
theorem dX10_init_218 : decode cX10_init 218 = .ok (.putfield 84, 3) := by decide +kernel
theorem dX10_init_221 : decode cX10_init 221 = .ok (.aload_n 0, 1) := by decide +kernel
theorem dX10_init_222 : decode cX10_init 222 = .ok (.iconst 5, 1) := by decide +kernel
theorem dX10_init_223 : decode cX10_init 223 = .ok (.newarray .int, 2) := by decide +kernel
theorem dX10_init_225 : decode cX10_init 225 = .ok (.putfield 87, 3) := by decide +kernel
theorem dX10_init_228 : decode cX10_init 228 = .ok (.aload_n 0, 1) := by decide +kernel
theorem dX10_init_229 : decode cX10_init 229 = .ok (.bipush 60, 2) := by decide +kernel
theorem dX10_init_231 : decode cX10_init 231 = .ok (.newarray .int, 2) := by decide +kernel
theorem dX10_init_233 : decode cX10_init 233 = .ok (.putfield 90, 3) := by decide +kernel
theorem dX10_init_236 : decode cX10_init 236 = .ok (.aload_n 0, 1) := by decide +kernel
theorem dX10_init_237 : decode cX10_init 237 = .ok (.bipush 60, 2) := by decide +kernel
theorem dX10_init_239 : decode cX10_init 239 = .ok (.newarray .int, 2) := by decide +kernel
theorem dX10_init_241 : decode cX10_init 241 = .ok (.putfield 93, 3) := by decide +kernel
theorem dX10_init_244 : decode cX10_init 244 = .ok (.aload_n 0, 1) := by decide +kernel
theorem dX10_init_245 : decode cX10_init 245 = .ok (.iconst 5, 1) := by decide +kernel
theorem dX10_init_246 : decode cX10_init 246 = .ok (.newarray .int, 2) := by decide +kernel
theorem dX10_init_248 : decode cX10_init 248 = .ok (.putfield 96, 3) := by decide +kernel
theorem dX10_init_251 : decode cX10_init 251 = .ok (.aload_n 0, 1) := by decide +kernel
theorem dX10_init_252 : decode cX10_init 252 = .ok (.bipush 50, 2) := by decide +kernel
theorem dX10_init_254 : decode cX10_init 254 = .ok (.newarray .int, 2) := by decide +kernel
theorem dX10_init_256 : decode cX10_init 256 = .ok (.putfield 99, 3) := by decide +kernel
theorem dX10_init_259 : decode cX10_init 259 = .ok (.aload_n 0, 1) := by decide +kernel
theorem dX10_init_260 : decode cX10_init 260 = .ok (.bipush 24, 2) := by decide +kernel
theorem dX10_init_262 : decode cX10_init 262 = .ok (.newarray .int, 2) := by decide +kernel
theorem dX10_init_264 : decode cX10_init 264 = .ok (.putfield 102, 3) := by decide +kernel
theorem dX10_init_267 : decode cX10_init 267 = .ok (.aload_n 0, 1) := by decide +kernel
theorem dX10_init_268 : decode cX10_init 268 = .ok (.bipush 6, 2) := by decide +kernel
theorem dX10_init_270 : decode cX10_init 270 = .ok (.newarray .int, 2) := by decide +kernel
theorem dX10_init_272 : decode cX10_init 272 = .ok (.dup, 1) := by decide +kernel
theorem dX10_init_273 : decode cX10_init 273 = .ok (.iconst 0, 1) := by decide +kernel
theorem dX10_init_274 : decode cX10_init 274 = .ok (.iconst (-1), 1) := by decide +kernel
theorem dX10_init_275 : decode cX10_init 275 = .ok (.iastore, 1) := by decide +kernel
theorem dX10_init_276 : decode cX10_init 276 = .ok (.dup, 1) := by decide +kernel
theorem dX10_init_277 : decode cX10_init 277 = .ok (.iconst 1, 1) := by decide +kernel
theorem dX10_init_278 : decode cX10_init 278 = .ok (.iconst (-1), 1) := by decide +kernel
theorem dX10_init_279 : decode cX10_init 279 = .ok (.iastore, 1) := by decide +kernel
theorem dX10_init_280 : decode cX10_init 280 = .ok (.dup, 1) := by decide +kernel
theorem dX10_init_281 : decode cX10_init 281 = .ok (.iconst 2, 1) := by decide +kernel
theorem dX10_init_282 : decode cX10_init 282 = .ok (.iconst (-1), 1) := by decide +kernel
theorem dX10_init_283 : decode cX10_init 283 = .ok (.iastore, 1) := by decide +kernel
theorem dX10_init_284 : decode cX10_init 284 = .ok (.dup, 1) := by decide +kernel
theorem dX10_init_285 : decode cX10_init 285 = .ok (.iconst 3, 1) := by decide +kernel
theorem dX10_init_286 : decode cX10_init 286 = .ok (.iconst (-1), 1) := by decide +kernel
theorem dX10_init_287 : decode cX10_init 287 = .ok (.iastore, 1) := by decide +kernel
theorem dX10_init_288 : decode cX10_init 288 = .ok (.dup, 1) := by decide +kernel
theorem dX10_init_289 : decode cX10_init 289 = .ok (.iconst 4, 1) := by decide +kernel
theorem dX10_init_290 : decode cX10_init 290 = .ok (.iconst (-1), 1) := by decide +kernel
theorem dX10_init_291 : decode cX10_init 291 = .ok (.iastore, 1) := by decide +kernel
theorem dX10_init_292 : decode cX10_init 292 = .ok (.dup, 1) := by decide +kernel
theorem dX10_init_293 : decode cX10_init 293 = .ok (.iconst 5, 1) := by decide +kernel
theorem dX10_init_294 : decode cX10_init 294 = .ok (.iconst (-1), 1) := by decide +kernel
theorem dX10_init_295 : decode cX10_init 295 = .ok (.iastore, 1) := by decide +kernel
theorem dX10_init_296 : decode cX10_init 296 = .ok (.putfield 105, 3) := by decide +kernel
theorem dX10_init_299 : decode cX10_init 299 = .ok (.aload_n 0, 1) := by decide +kernel
theorem dX10_init_300 : decode cX10_init 300 = .ok (.bipush 6, 2) := by decide +kernel
theorem dX10_init_302 : decode cX10_init 302 = .ok (.newarray .int, 2) := by decide +kernel
theorem dX10_init_304 : decode cX10_init 304 = .ok (.putfield 108, 3) := by decide +kernel
theorem dX10_init_307 : decode cX10_init 307 = .ok (.aload_n 0, 1) := by decide +kernel
theorem dX10_init_308 : decode cX10_init 308 = .ok (.sipush 360, 3) := by decide +kernel
theorem dX10_init_311 : decode cX10_init 311 = .ok (.newarray .long, 2) := by decide +kernel
theorem dX10_init_313 : decode cX10_init 313 = .ok (.putfield 111, 3) := by decide +kernel
theorem dX10_init_316 : decode cX10_init 316 = .ok (.aload_n 0, 1) := by decide +kernel
theorem dX10_init_317 : decode cX10_init 317 = .ok (.bipush 60, 2) := by decide +kernel
theorem dX10_init_319 : decode cX10_init 319 = .ok (.newarray .long, 2) := by decide +kernel
theorem dX10_init_321 : decode cX10_init 321 = .ok (.putfield 114, 3) := by decide +kernel
theorem dX10_init_324 : decode cX10_init 324 = .ok (.return_, 1) := by decide +kernel
theorem dX10_in_0 : decode cX10_in 0 = .ok (.iload_n 0, 1) := by decide +kernel
theorem dX10_in_1 : decode cX10_in 1 = .ok (.iload_n 1, 1) := by decide +kernel
theorem dX10_in_2 : decode cX10_in 2 = .ok (.if_icmp .lt 12, 3) := by decide +kernel
theorem dX10_in_5 : decode cX10_in 5 = .ok (.iload_n 0, 1) := by decide +kernel
theorem dX10_in_6 : decode cX10_in 6 = .ok (.iload_n 2, 1) := by decide +kernel
theorem dX10_in_7 : decode cX10_in 7 = .ok (.if_icmp .gt 7, 3) := by decide +kernel
theorem dX10_in_10 : decode cX10_in 10 = .ok (.iconst 1, 1) := by decide +kernel
theorem dX10_in_11 : decode cX10_in 11 = .ok (.goto 4, 3) := by decide +kernel
theorem dX10_in_14 : decode cX10_in 14 = .ok (.iconst 0, 1) := by decide +kernel
theorem dX10_in_15 : decode cX10_in 15 = .ok (.ireturn, 1) := by decide +kernel
theorem dX10_bitsOf_0 : decode cX10_bitsOf 0 = .ok (.iconst 0, 1) := by decide +kernel
theorem dX10_bitsOf_1 : decode cX10_bitsOf 1 = .ok (.istore_n 1, 1) := by decide +kernel
theorem dX10_bitsOf_2 : decode cX10_bitsOf 2 = .ok (.iload_n 0, 1) := by decide +kernel
theorem dX10_bitsOf_3 : decode cX10_bitsOf 3 = .ok (.istore_n 2, 1) := by decide +kernel
theorem dX10_bitsOf_4 : decode cX10_bitsOf 4 = .ok (.iload_n 2, 1) := by decide +kernel
theorem dX10_bitsOf_5 : decode cX10_bitsOf 5 = .ok (.ifCond .eq 15, 3) := by decide +kernel
theorem dX10_bitsOf_8 : decode cX10_bitsOf 8 = .ok (.iinc 1 1, 3) := by decide +kernel
theorem dX10_bitsOf_11 : decode cX10_bitsOf 11 = .ok (.iload_n 2, 1) := by decide +kernel
theorem dX10_bitsOf_12 : decode cX10_bitsOf 12 = .ok (.iload_n 2, 1) := by decide +kernel
theorem dX10_bitsOf_13 : decode cX10_bitsOf 13 = .ok (.iconst 1, 1) := by decide +kernel
theorem dX10_bitsOf_14 : decode cX10_bitsOf 14 = .ok (.isub, 1) := by decide +kernel
theorem dX10_bitsOf_15 : decode cX10_bitsOf 15 = .ok (.iand, 1) := by decide +kernel
theorem dX10_bitsOf_16 : decode cX10_bitsOf 16 = .ok (.istore_n 2, 1) := by decide +kernel
theorem dX10_bitsOf_17 : decode cX10_bitsOf 17 = .ok (.goto (-13), 3) := by decide +kernel
theorem dX10_bitsOf_20 : decode cX10_bitsOf 20 = .ok (.iload_n 1, 1) := by decide +kernel
theorem dX10_bitsOf_21 : decode cX10_bitsOf 21 = .ok (.ireturn, 1) := by decide +kernel
theorem dX10_isSill_0 : decode cX10_isSill 0 = .ok (.iload_n 1, 1) := by decide +kernel
theorem dX10_isSill_1 : decode cX10_isSill 1 = .ok (.iconst 0, 1) := by decide +kernel
theorem dX10_isSill_2 : decode cX10_isSill 2 = .ok (.aload_n 0, 1) := by decide +kernel
theorem dX10_isSill_3 : decode cX10_isSill 3 = .ok (.getfield 121, 3) := by decide +kernel
theorem dX10_isSill_6 : decode cX10_isSill 6 = .ok (.iconst 1, 1) := by decide +kernel
theorem dX10_isSill_7 : decode cX10_isSill 7 = .ok (.isub, 1) := by decide +kernel
theorem dX10_isSill_8 : decode cX10_isSill 8 = .ok (.invokestatic 124, 3) := by decide +kernel
theorem dX10_isSill_11 : decode cX10_isSill 11 = .ok (.ireturn, 1) := by decide +kernel
theorem dX10_isPerson_0 : decode cX10_isPerson 0 = .ok (.iload_n 0, 1) := by decide +kernel
theorem dX10_isPerson_1 : decode cX10_isPerson 1 = .ok (.iconst 0, 1) := by decide +kernel
theorem dX10_isPerson_2 : decode cX10_isPerson 2 = .ok (.iconst 5, 1) := by decide +kernel
theorem dX10_isPerson_3 : decode cX10_isPerson 3 = .ok (.invokestatic 124, 3) := by decide +kernel
theorem dX10_isPerson_6 : decode cX10_isPerson 6 = .ok (.ireturn, 1) := by decide +kernel
theorem dX10_addSill_0 : decode cX10_addSill 0 = .ok (.aload_n 0, 1) := by decide +kernel
theorem dX10_addSill_1 : decode cX10_addSill 1 = .ok (.getfield 9, 3) := by decide +kernel
theorem dX10_addSill_4 : decode cX10_addSill 4 = .ok (.aload_n 0, 1) := by decide +kernel
theorem dX10_addSill_5 : decode cX10_addSill 5 = .ok (.getfield 121, 3) := by decide +kernel
theorem dX10_addSill_8 : decode cX10_addSill 8 = .ok (.iload_n 1, 1) := by decide +kernel
theorem dX10_addSill_9 : decode cX10_addSill 9 = .ok (.iastore, 1) := by decide +kernel
theorem dX10_addSill_10 : decode cX10_addSill 10 = .ok (.aload_n 0, 1) := by decide +kernel
theorem dX10_addSill_11 : decode cX10_addSill 11 = .ok (.getfield 15, 3) := by decide +kernel
theorem dX10_addSill_14 : decode cX10_addSill 14 = .ok (.aload_n 0, 1) := by decide +kernel
theorem dX10_addSill_15 : decode cX10_addSill 15 = .ok (.getfield 121, 3) := by decide +kernel
theorem dX10_addSill_18 : decode cX10_addSill 18 = .ok (.iload_n 2, 1) := by decide +kernel
theorem dX10_addSill_19 : decode cX10_addSill 19 = .ok (.iastore, 1) := by decide +kernel
theorem dX10_addSill_20 : decode cX10_addSill 20 = .ok (.aload_n 0, 1) := by decide +kernel
theorem dX10_addSill_21 : decode cX10_addSill 21 = .ok (.getfield 21, 3) := by decide +kernel
theorem dX10_addSill_24 : decode cX10_addSill 24 = .ok (.aload_n 0, 1) := by decide +kernel
theorem dX10_addSill_25 : decode cX10_addSill 25 = .ok (.getfield 121, 3) := by decide +kernel
theorem dX10_addSill_28 : decode cX10_addSill 28 = .ok (.iconst 0, 1) := by decide +kernel
theorem dX10_addSill_29 : decode cX10_addSill 29 = .ok (.iastore, 1) := by decide +kernel
theorem dX10_addSill_30 : decode cX10_addSill 30 = .ok (.aload_n 0, 1) := by decide +kernel
theorem dX10_addSill_31 : decode cX10_addSill 31 = .ok (.dup, 1) := by decide +kernel
theorem dX10_addSill_32 : decode cX10_addSill 32 = .ok (.getfield 121, 3) := by decide +kernel
theorem dX10_addSill_35 : decode cX10_addSill 35 = .ok (.iconst 1, 1) := by decide +kernel
theorem dX10_addSill_36 : decode cX10_addSill 36 = .ok (.iadd, 1) := by decide +kernel
theorem dX10_addSill_37 : decode cX10_addSill 37 = .ok (.putfield 121, 3) := by decide +kernel
theorem dX10_addSill_40 : decode cX10_addSill 40 = .ok (.aload_n 0, 1) := by decide +kernel
theorem dX10_addSill_41 : decode cX10_addSill 41 = .ok (.getfield 121, 3) := by decide +kernel
theorem dX10_addSill_44 : decode cX10_addSill 44 = .ok (.iconst 1, 1) := by decide +kernel
theorem dX10_addSill_45 : decode cX10_addSill 45 = .ok (.isub, 1) := by decide +kernel
theorem dX10_addSill_46 : decode cX10_addSill 46 = .ok (.ireturn, 1) := by decide +kernel
theorem dX10_sill_0 : decode cX10_sill 0 = .ok (.iload_n 1, 1) := by decide +kernel
theorem dX10_sill_1 : decode cX10_sill 1 = .ok (.iconst 0, 1) := by decide +kernel
theorem dX10_sill_2 : decode cX10_sill 2 = .ok (.bipush 9, 2) := by decide +kernel
theorem dX10_sill_4 : decode cX10_sill 4 = .ok (.invokestatic 124, 3) := by decide +kernel
theorem dX10_sill_7 : decode cX10_sill 7 = .ok (.ifCond .eq 13, 3) := by decide +kernel
theorem dX10_sill_10 : decode cX10_sill 10 = .ok (.iload_n 2, 1) := by decide +kernel
theorem dX10_sill_11 : decode cX10_sill 11 = .ok (.iconst 0, 1) := by decide +kernel
theorem dX10_sill_12 : decode cX10_sill 12 = .ok (.bipush 9, 2) := by decide +kernel
theorem dX10_sill_14 : decode cX10_sill 14 = .ok (.invokestatic 124, 3) := by decide +kernel
theorem dX10_sill_17 : decode cX10_sill 17 = .ok (.ifCond .ne 5, 3) := by decide +kernel
theorem dX10_sill_20 : decode cX10_sill 20 = .ok (.iconst (-1), 1) := by decide +kernel
theorem dX10_sill_21 : decode cX10_sill 21 = .ok (.ireturn, 1) := by decide +kernel
theorem dX10_sill_22 : decode cX10_sill 22 = .ok (.aload_n 0, 1) := by decide +kernel
theorem dX10_sill_23 : decode cX10_sill 23 = .ok (.getfield 121, 3) := by decide +kernel
theorem dX10_sill_26 : decode cX10_sill 26 = .ok (.iconst 5, 1) := by decide +kernel
theorem dX10_sill_27 : decode cX10_sill 27 = .ok (.if_icmp .ne 8, 3) := by decide +kernel
theorem dX10_sill_30 : decode cX10_sill 30 = .ok (.bipush (-3), 2) := by decide +kernel
theorem dX10_sill_32 : decode cX10_sill 32 = .ok (.goto 9, 3) := by decide +kernel
theorem dX10_sill_35 : decode cX10_sill 35 = .ok (.aload_n 0, 1) := by decide +kernel
theorem dX10_sill_36 : decode cX10_sill 36 = .ok (.iload_n 1, 1) := by decide +kernel
theorem dX10_sill_37 : decode cX10_sill 37 = .ok (.iload_n 2, 1) := by decide +kernel
theorem dX10_sill_38 : decode cX10_sill 38 = .ok (.invokevirtual 128, 3) := by decide +kernel
theorem dX10_sill_41 : decode cX10_sill 41 = .ok (.ireturn, 1) := by decide +kernel
theorem dX10_sills_0 : decode cX10_sills 0 = .ok (.iload_n 1, 1) := by decide +kernel
theorem dX10_sills_1 : decode cX10_sills 1 = .ok (.invokestatic 132, 3) := by decide +kernel
theorem dX10_sills_4 : decode cX10_sills 4 = .ok (.ifCond .eq 12, 3) := by decide +kernel
theorem dX10_sills_7 : decode cX10_sills 7 = .ok (.iload_n 3, 1) := by decide +kernel
theorem dX10_sills_8 : decode cX10_sills 8 = .ok (.iconst 1, 1) := by decide +kernel
theorem dX10_sills_9 : decode cX10_sills 9 = .ok (.iconst 5, 1) := by decide +kernel
theorem dX10_sills_10 : decode cX10_sills 10 = .ok (.invokestatic 124, 3) := by decide +kernel
theorem dX10_sills_13 : decode cX10_sills 13 = .ok (.ifCond .ne 5, 3) := by decide +kernel
theorem dX10_sills_16 : decode cX10_sills 16 = .ok (.iconst (-1), 1) := by decide +kernel
theorem dX10_sills_17 : decode cX10_sills 17 = .ok (.ireturn, 1) := by decide +kernel
theorem dX10_sills_18 : decode cX10_sills 18 = .ok (.aload_n 0, 1) := by decide +kernel
theorem dX10_sills_19 : decode cX10_sills 19 = .ok (.getfield 105, 3) := by decide +kernel
theorem dX10_sills_22 : decode cX10_sills 22 = .ok (.iload_n 1, 1) := by decide +kernel
theorem dX10_sills_23 : decode cX10_sills 23 = .ok (.iaload, 1) := by decide +kernel
theorem dX10_sills_24 : decode cX10_sills 24 = .ok (.iconst (-1), 1) := by decide +kernel
theorem dX10_sills_25 : decode cX10_sills 25 = .ok (.if_icmp .eq 17, 3) := by decide +kernel
theorem dX10_sills_28 : decode cX10_sills 28 = .ok (.aload_n 0, 1) := by decide +kernel
theorem dX10_sills_29 : decode cX10_sills 29 = .ok (.getfield 105, 3) := by decide +kernel
theorem dX10_sills_32 : decode cX10_sills 32 = .ok (.iload_n 1, 1) := by decide +kernel
theorem dX10_sills_33 : decode cX10_sills 33 = .ok (.iaload, 1) := by decide +kernel
theorem dX10_sills_34 : decode cX10_sills 34 = .ok (.bipush (-2), 2) := by decide +kernel
theorem dX10_sills_36 : decode cX10_sills 36 = .ok (.if_icmp .eq 6, 3) := by decide +kernel
theorem dX10_sills_39 : decode cX10_sills 39 = .ok (.bipush (-12), 2) := by decide +kernel
theorem dX10_sills_41 : decode cX10_sills 41 = .ok (.ireturn, 1) := by decide +kernel
theorem dX10_sills_42 : decode cX10_sills 42 = .ok (.aload_n 0, 1) := by decide +kernel
theorem dX10_sills_43 : decode cX10_sills 43 = .ok (.getfield 105, 3) := by decide +kernel
theorem dX10_sills_46 : decode cX10_sills 46 = .ok (.iload_n 1, 1) := by decide +kernel
theorem dX10_sills_47 : decode cX10_sills 47 = .ok (.iaload, 1) := by decide +kernel
theorem dX10_sills_48 : decode cX10_sills 48 = .ok (.iconst (-1), 1) := by decide +kernel
theorem dX10_sills_49 : decode cX10_sills 49 = .ok (.if_icmp .ne 5, 3) := by decide +kernel
theorem dX10_sills_52 : decode cX10_sills 52 = .ok (.iconst 0, 1) := by decide +kernel
theorem dX10_sills_53 : decode cX10_sills 53 = .ok (.ireturn, 1) := by decide +kernel
theorem dX10_sills_54 : decode cX10_sills 54 = .ok (.iconst 0, 1) := by decide +kernel
theorem dX10_sills_55 : decode cX10_sills 55 = .ok (.istore 4, 2) := by decide +kernel
theorem dX10_sills_57 : decode cX10_sills 57 = .ok (.iload 4, 2) := by decide +kernel
theorem dX10_sills_59 : decode cX10_sills 59 = .ok (.iload_n 3, 1) := by decide +kernel
theorem dX10_sills_60 : decode cX10_sills 60 = .ok (.if_icmp .ge 124, 3) := by decide +kernel
theorem dX10_sills_63 : decode cX10_sills 63 = .ok (.iload_n 2, 1) := by decide +kernel
theorem dX10_sills_64 : decode cX10_sills 64 = .ok (.i2l, 1) := by decide +kernel
theorem dX10_sills_65 : decode cX10_sills 65 = .ok (.iconst 2, 1) := by decide +kernel
theorem dX10_sills_66 : decode cX10_sills 66 = .ok (.iload 4, 2) := by decide +kernel
theorem dX10_sills_68 : decode cX10_sills 68 = .ok (.imul, 1) := by decide +kernel
theorem dX10_sills_69 : decode cX10_sills 69 = .ok (.i2l, 1) := by decide +kernel
theorem dX10_sills_70 : decode cX10_sills 70 = .ok (.ladd, 1) := by decide +kernel
theorem dX10_sills_71 : decode cX10_sills 71 = .ok (.lstore 5, 2) := by decide +kernel
theorem dX10_sills_73 : decode cX10_sills 73 = .ok (.lload 5, 2) := by decide +kernel
theorem dX10_sills_75 : decode cX10_sills 75 = .ok (.lconst 0, 1) := by decide +kernel
theorem dX10_sills_76 : decode cX10_sills 76 = .ok (.lcmp, 1) := by decide +kernel
theorem dX10_sills_77 : decode cX10_sills 77 = .ok (.ifCond .lt 26, 3) := by decide +kernel
theorem dX10_sills_80 : decode cX10_sills 80 = .ok (.lload 5, 2) := by decide +kernel
theorem dX10_sills_82 : decode cX10_sills 82 = .ok (.lconst 1, 1) := by decide +kernel
theorem dX10_sills_83 : decode cX10_sills 83 = .ok (.ladd, 1) := by decide +kernel
theorem dX10_sills_84 : decode cX10_sills 84 = .ok (.aload_n 0, 1) := by decide +kernel
theorem dX10_sills_85 : decode cX10_sills 85 = .ok (.getfield 108, 3) := by decide +kernel
theorem dX10_sills_88 : decode cX10_sills 88 = .ok (.iload_n 1, 1) := by decide +kernel
theorem dX10_sills_89 : decode cX10_sills 89 = .ok (.iaload, 1) := by decide +kernel
theorem dX10_sills_90 : decode cX10_sills 90 = .ok (.i2l, 1) := by decide +kernel
theorem dX10_sills_91 : decode cX10_sills 91 = .ok (.lcmp, 1) := by decide +kernel
theorem dX10_sills_92 : decode cX10_sills 92 = .ok (.ifCond .ge 11, 3) := by decide +kernel
theorem dX10_sills_95 : decode cX10_sills 95 = .ok (.aload_n 0, 1) := by decide +kernel
theorem dX10_sills_96 : decode cX10_sills 96 = .ok (.getfield 121, 3) := by decide +kernel
theorem dX10_sills_99 : decode cX10_sills 99 = .ok (.iconst 5, 1) := by decide +kernel
theorem dX10_sills_100 : decode cX10_sills 100 = .ok (.if_icmp .ne 6, 3) := by decide +kernel
theorem dX10_sills_103 : decode cX10_sills 103 = .ok (.iload 4, 2) := by decide +kernel
theorem dX10_sills_105 : decode cX10_sills 105 = .ok (.ireturn, 1) := by decide +kernel
theorem dX10_sills_106 : decode cX10_sills 106 = .ok (.bipush 60, 2) := by decide +kernel
theorem dX10_sills_108 : decode cX10_sills 108 = .ok (.iload_n 1, 1) := by decide +kernel
theorem dX10_sills_109 : decode cX10_sills 109 = .ok (.imul, 1) := by decide +kernel
theorem dX10_sills_110 : decode cX10_sills 110 = .ok (.lload 5, 2) := by decide +kernel
theorem dX10_sills_112 : decode cX10_sills 112 = .ok (.l2i, 1) := by decide +kernel
theorem dX10_sills_113 : decode cX10_sills 113 = .ok (.iadd, 1) := by decide +kernel
theorem dX10_sills_114 : decode cX10_sills 114 = .ok (.istore 7, 2) := by decide +kernel
theorem dX10_sills_116 : decode cX10_sills 116 = .ok (.aload_n 0, 1) := by decide +kernel
theorem dX10_sills_117 : decode cX10_sills 117 = .ok (.getfield 111, 3) := by decide +kernel
theorem dX10_sills_120 : decode cX10_sills 120 = .ok (.iload 7, 2) := by decide +kernel
theorem dX10_sills_122 : decode cX10_sills 122 = .ok (.laload, 1) := by decide +kernel
theorem dX10_sills_123 : decode cX10_sills 123 = .ok (.l2i, 1) := by decide +kernel
theorem dX10_sills_124 : decode cX10_sills 124 = .ok (.iconst 0, 1) := by decide +kernel
theorem dX10_sills_125 : decode cX10_sills 125 = .ok (.bipush 9, 2) := by decide +kernel
theorem dX10_sills_127 : decode cX10_sills 127 = .ok (.invokestatic 124, 3) := by decide +kernel
theorem dX10_sills_130 : decode cX10_sills 130 = .ok (.ifCond .eq 22, 3) := by decide +kernel
theorem dX10_sills_133 : decode cX10_sills 133 = .ok (.aload_n 0, 1) := by decide +kernel
theorem dX10_sills_134 : decode cX10_sills 134 = .ok (.getfield 111, 3) := by decide +kernel
theorem dX10_sills_137 : decode cX10_sills 137 = .ok (.iload 7, 2) := by decide +kernel
theorem dX10_sills_139 : decode cX10_sills 139 = .ok (.iconst 1, 1) := by decide +kernel
theorem dX10_sills_140 : decode cX10_sills 140 = .ok (.iadd, 1) := by decide +kernel
theorem dX10_sills_141 : decode cX10_sills 141 = .ok (.laload, 1) := by decide +kernel
theorem dX10_sills_142 : decode cX10_sills 142 = .ok (.l2i, 1) := by decide +kernel
theorem dX10_sills_143 : decode cX10_sills 143 = .ok (.iconst 0, 1) := by decide +kernel
theorem dX10_sills_144 : decode cX10_sills 144 = .ok (.bipush 9, 2) := by decide +kernel
theorem dX10_sills_146 : decode cX10_sills 146 = .ok (.invokestatic 124, 3) := by decide +kernel
theorem dX10_sills_149 : decode cX10_sills 149 = .ok (.ifCond .ne 6, 3) := by decide +kernel
theorem dX10_sills_152 : decode cX10_sills 152 = .ok (.iload 4, 2) := by decide +kernel
theorem dX10_sills_154 : decode cX10_sills 154 = .ok (.ireturn, 1) := by decide +kernel
theorem dX10_sills_155 : decode cX10_sills 155 = .ok (.aload_n 0, 1) := by decide +kernel
theorem dX10_sills_156 : decode cX10_sills 156 = .ok (.aload_n 0, 1) := by decide +kernel
theorem dX10_sills_157 : decode cX10_sills 157 = .ok (.getfield 111, 3) := by decide +kernel
theorem dX10_sills_160 : decode cX10_sills 160 = .ok (.iload 7, 2) := by decide +kernel
theorem dX10_sills_162 : decode cX10_sills 162 = .ok (.laload, 1) := by decide +kernel
theorem dX10_sills_163 : decode cX10_sills 163 = .ok (.l2i, 1) := by decide +kernel
theorem dX10_sills_164 : decode cX10_sills 164 = .ok (.aload_n 0, 1) := by decide +kernel
theorem dX10_sills_165 : decode cX10_sills 165 = .ok (.getfield 111, 3) := by decide +kernel
theorem dX10_sills_168 : decode cX10_sills 168 = .ok (.iload 7, 2) := by decide +kernel
theorem dX10_sills_170 : decode cX10_sills 170 = .ok (.iconst 1, 1) := by decide +kernel
theorem dX10_sills_171 : decode cX10_sills 171 = .ok (.iadd, 1) := by decide +kernel
theorem dX10_sills_172 : decode cX10_sills 172 = .ok (.laload, 1) := by decide +kernel
theorem dX10_sills_173 : decode cX10_sills 173 = .ok (.l2i, 1) := by decide +kernel
theorem dX10_sills_174 : decode cX10_sills 174 = .ok (.invokevirtual 128, 3) := by decide +kernel
theorem dX10_sills_177 : decode cX10_sills 177 = .ok (.pop, 1) := by decide +kernel
theorem dX10_sills_178 : decode cX10_sills 178 = .ok (.iinc 4 1, 3) := by decide +kernel
theorem dX10_sills_181 : decode cX10_sills 181 = .ok (.goto (-124), 3) := by decide +kernel
theorem dX10_sills_184 : decode cX10_sills 184 = .ok (.iload_n 3, 1) := by decide +kernel
theorem dX10_sills_185 : decode cX10_sills 185 = .ok (.ireturn, 1) := by decide +kernel
theorem dX10_valueAt_0 : decode cX10_valueAt 0 = .ok (.iload_n 1, 1) := by decide +kernel
theorem dX10_valueAt_1 : decode cX10_valueAt 1 = .ok (.ifCond .ne 12, 3) := by decide +kernel
theorem dX10_valueAt_4 : decode cX10_valueAt 4 = .ok (.aload_n 0, 1) := by decide +kernel
theorem dX10_valueAt_5 : decode cX10_valueAt 5 = .ok (.getfield 9, 3) := by decide +kernel
theorem dX10_valueAt_8 : decode cX10_valueAt 8 = .ok (.iload_n 2, 1) := by decide +kernel
theorem dX10_valueAt_9 : decode cX10_valueAt 9 = .ok (.iaload, 1) := by decide +kernel
theorem dX10_valueAt_10 : decode cX10_valueAt 10 = .ok (.goto 35, 3) := by decide +kernel
theorem dX10_valueAt_13 : decode cX10_valueAt 13 = .ok (.iload_n 1, 1) := by decide +kernel
theorem dX10_valueAt_14 : decode cX10_valueAt 14 = .ok (.iconst 1, 1) := by decide +kernel
theorem dX10_valueAt_15 : decode cX10_valueAt 15 = .ok (.if_icmp .ne 12, 3) := by decide +kernel
theorem dX10_valueAt_18 : decode cX10_valueAt 18 = .ok (.aload_n 0, 1) := by decide +kernel
theorem dX10_valueAt_19 : decode cX10_valueAt 19 = .ok (.getfield 15, 3) := by decide +kernel
theorem dX10_valueAt_22 : decode cX10_valueAt 22 = .ok (.iload_n 2, 1) := by decide +kernel
theorem dX10_valueAt_23 : decode cX10_valueAt 23 = .ok (.iaload, 1) := by decide +kernel
theorem dX10_valueAt_24 : decode cX10_valueAt 24 = .ok (.goto 21, 3) := by decide +kernel
theorem dX10_valueAt_27 : decode cX10_valueAt 27 = .ok (.iload_n 1, 1) := by decide +kernel
theorem dX10_valueAt_28 : decode cX10_valueAt 28 = .ok (.iconst 2, 1) := by decide +kernel
theorem dX10_valueAt_29 : decode cX10_valueAt 29 = .ok (.if_icmp .ne 12, 3) := by decide +kernel
theorem dX10_valueAt_32 : decode cX10_valueAt 32 = .ok (.aload_n 0, 1) := by decide +kernel
theorem dX10_valueAt_33 : decode cX10_valueAt 33 = .ok (.getfield 18, 3) := by decide +kernel
theorem dX10_valueAt_36 : decode cX10_valueAt 36 = .ok (.iload_n 2, 1) := by decide +kernel
theorem dX10_valueAt_37 : decode cX10_valueAt 37 = .ok (.iaload, 1) := by decide +kernel
theorem dX10_valueAt_38 : decode cX10_valueAt 38 = .ok (.goto 7, 3) := by decide +kernel
theorem dX10_valueAt_41 : decode cX10_valueAt 41 = .ok (.aload_n 0, 1) := by decide +kernel
theorem dX10_valueAt_42 : decode cX10_valueAt 42 = .ok (.getfield 136, 3) := by decide +kernel
theorem dX10_valueAt_45 : decode cX10_valueAt 45 = .ok (.ireturn, 1) := by decide +kernel
theorem dX10_lays1_0 : decode cX10_lays1 0 = .ok (.iload_n 1, 1) := by decide +kernel
theorem dX10_lays1_1 : decode cX10_lays1 1 = .ok (.ifCond .ne 13, 3) := by decide +kernel
theorem dX10_lays1_4 : decode cX10_lays1 4 = .ok (.aload_n 0, 1) := by decide +kernel
theorem dX10_lays1_5 : decode cX10_lays1 5 = .ok (.getfield 9, 3) := by decide +kernel
theorem dX10_lays1_8 : decode cX10_lays1 8 = .ok (.iload_n 2, 1) := by decide +kernel
theorem dX10_lays1_9 : decode cX10_lays1 9 = .ok (.iload_n 3, 1) := by decide +kernel
theorem dX10_lays1_10 : decode cX10_lays1 10 = .ok (.iastore, 1) := by decide +kernel
theorem dX10_lays1_11 : decode cX10_lays1 11 = .ok (.goto 38, 3) := by decide +kernel
theorem dX10_lays1_14 : decode cX10_lays1 14 = .ok (.iload_n 1, 1) := by decide +kernel
theorem dX10_lays1_15 : decode cX10_lays1 15 = .ok (.iconst 1, 1) := by decide +kernel
theorem dX10_lays1_16 : decode cX10_lays1 16 = .ok (.if_icmp .ne 13, 3) := by decide +kernel
theorem dX10_lays1_19 : decode cX10_lays1 19 = .ok (.aload_n 0, 1) := by decide +kernel
theorem dX10_lays1_20 : decode cX10_lays1 20 = .ok (.getfield 15, 3) := by decide +kernel
theorem dX10_lays1_23 : decode cX10_lays1 23 = .ok (.iload_n 2, 1) := by decide +kernel
theorem dX10_lays1_24 : decode cX10_lays1 24 = .ok (.iload_n 3, 1) := by decide +kernel
theorem dX10_lays1_25 : decode cX10_lays1 25 = .ok (.iastore, 1) := by decide +kernel
theorem dX10_lays1_26 : decode cX10_lays1 26 = .ok (.goto 23, 3) := by decide +kernel
theorem dX10_lays1_29 : decode cX10_lays1 29 = .ok (.iload_n 1, 1) := by decide +kernel
theorem dX10_lays1_30 : decode cX10_lays1 30 = .ok (.iconst 2, 1) := by decide +kernel
theorem dX10_lays1_31 : decode cX10_lays1 31 = .ok (.if_icmp .ne 13, 3) := by decide +kernel
theorem dX10_lays1_34 : decode cX10_lays1 34 = .ok (.aload_n 0, 1) := by decide +kernel
theorem dX10_lays1_35 : decode cX10_lays1 35 = .ok (.getfield 18, 3) := by decide +kernel
theorem dX10_lays1_38 : decode cX10_lays1 38 = .ok (.iload_n 2, 1) := by decide +kernel
theorem dX10_lays1_39 : decode cX10_lays1 39 = .ok (.iload_n 3, 1) := by decide +kernel
theorem dX10_lays1_40 : decode cX10_lays1 40 = .ok (.iastore, 1) := by decide +kernel
theorem dX10_lays1_41 : decode cX10_lays1 41 = .ok (.goto 8, 3) := by decide +kernel
theorem dX10_lays1_44 : decode cX10_lays1 44 = .ok (.aload_n 0, 1) := by decide +kernel
theorem dX10_lays1_45 : decode cX10_lays1 45 = .ok (.iload_n 3, 1) := by decide +kernel
theorem dX10_lays1_46 : decode cX10_lays1 46 = .ok (.putfield 136, 3) := by decide +kernel
theorem dX10_lays1_49 : decode cX10_lays1 49 = .ok (.return_, 1) := by decide +kernel
theorem dX10_changes_0 : decode cX10_changes 0 = .ok (.aload_n 0, 1) := by decide +kernel
theorem dX10_changes_1 : decode cX10_changes 1 = .ok (.iload_n 1, 1) := by decide +kernel
theorem dX10_changes_2 : decode cX10_changes 2 = .ok (.iload_n 2, 1) := by decide +kernel
theorem dX10_changes_3 : decode cX10_changes 3 = .ok (.invokevirtual 139, 3) := by decide +kernel
theorem dX10_changes_6 : decode cX10_changes 6 = .ok (.istore 4, 2) := by decide +kernel
theorem dX10_changes_8 : decode cX10_changes 8 = .ok (.iload 4, 2) := by decide +kernel
theorem dX10_changes_10 : decode cX10_changes 10 = .ok (.iload_n 3, 1) := by decide +kernel
theorem dX10_changes_11 : decode cX10_changes 11 = .ok (.if_icmp .ne 6, 3) := by decide +kernel
theorem dX10_changes_14 : decode cX10_changes 14 = .ok (.iload 4, 2) := by decide +kernel
theorem dX10_changes_16 : decode cX10_changes 16 = .ok (.ireturn, 1) := by decide +kernel
theorem dX10_changes_17 : decode cX10_changes 17 = .ok (.aload_n 0, 1) := by decide +kernel
theorem dX10_changes_18 : decode cX10_changes 18 = .ok (.iconst 0, 1) := by decide +kernel
theorem dX10_changes_19 : decode cX10_changes 19 = .ok (.putfield 142, 3) := by decide +kernel
theorem dX10_changes_22 : decode cX10_changes 22 = .ok (.aload_n 0, 1) := by decide +kernel
theorem dX10_changes_23 : decode cX10_changes 23 = .ok (.getfield 145, 3) := by decide +kernel
theorem dX10_changes_26 : decode cX10_changes 26 = .ok (.bipush 40, 2) := by decide +kernel
theorem dX10_changes_28 : decode cX10_changes 28 = .ok (.if_icmp .ne 93, 3) := by decide +kernel
theorem dX10_changes_31 : decode cX10_changes 31 = .ok (.iconst 1, 1) := by decide +kernel
theorem dX10_changes_32 : decode cX10_changes 32 = .ok (.istore 5, 2) := by decide +kernel
theorem dX10_changes_34 : decode cX10_changes 34 = .ok (.iload 5, 2) := by decide +kernel
theorem dX10_changes_36 : decode cX10_changes 36 = .ok (.bipush 40, 2) := by decide +kernel
theorem dX10_changes_38 : decode cX10_changes 38 = .ok (.if_icmp .ge 73, 3) := by decide +kernel
theorem dX10_changes_41 : decode cX10_changes 41 = .ok (.aload_n 0, 1) := by decide +kernel
theorem dX10_changes_42 : decode cX10_changes 42 = .ok (.getfield 30, 3) := by decide +kernel
theorem dX10_changes_45 : decode cX10_changes 45 = .ok (.iload 5, 2) := by decide +kernel
theorem dX10_changes_47 : decode cX10_changes 47 = .ok (.iconst 1, 1) := by decide +kernel
theorem dX10_changes_48 : decode cX10_changes 48 = .ok (.isub, 1) := by decide +kernel
theorem dX10_changes_49 : decode cX10_changes 49 = .ok (.aload_n 0, 1) := by decide +kernel
theorem dX10_changes_50 : decode cX10_changes 50 = .ok (.getfield 30, 3) := by decide +kernel
theorem dX10_changes_53 : decode cX10_changes 53 = .ok (.iload 5, 2) := by decide +kernel
theorem dX10_changes_55 : decode cX10_changes 55 = .ok (.iaload, 1) := by decide +kernel
theorem dX10_changes_56 : decode cX10_changes 56 = .ok (.iastore, 1) := by decide +kernel
theorem dX10_changes_57 : decode cX10_changes 57 = .ok (.aload_n 0, 1) := by decide +kernel
theorem dX10_changes_58 : decode cX10_changes 58 = .ok (.getfield 33, 3) := by decide +kernel
theorem dX10_changes_61 : decode cX10_changes 61 = .ok (.iload 5, 2) := by decide +kernel
theorem dX10_changes_63 : decode cX10_changes 63 = .ok (.iconst 1, 1) := by decide +kernel
theorem dX10_changes_64 : decode cX10_changes 64 = .ok (.isub, 1) := by decide +kernel
theorem dX10_changes_65 : decode cX10_changes 65 = .ok (.aload_n 0, 1) := by decide +kernel
theorem dX10_changes_66 : decode cX10_changes 66 = .ok (.getfield 33, 3) := by decide +kernel
theorem dX10_changes_69 : decode cX10_changes 69 = .ok (.iload 5, 2) := by decide +kernel
theorem dX10_changes_71 : decode cX10_changes 71 = .ok (.iaload, 1) := by decide +kernel
theorem dX10_changes_72 : decode cX10_changes 72 = .ok (.iastore, 1) := by decide +kernel
theorem dX10_changes_73 : decode cX10_changes 73 = .ok (.aload_n 0, 1) := by decide +kernel
theorem dX10_changes_74 : decode cX10_changes 74 = .ok (.getfield 36, 3) := by decide +kernel
theorem dX10_changes_77 : decode cX10_changes 77 = .ok (.iload 5, 2) := by decide +kernel
theorem dX10_changes_79 : decode cX10_changes 79 = .ok (.iconst 1, 1) := by decide +kernel
theorem dX10_changes_80 : decode cX10_changes 80 = .ok (.isub, 1) := by decide +kernel
theorem dX10_changes_81 : decode cX10_changes 81 = .ok (.aload_n 0, 1) := by decide +kernel
theorem dX10_changes_82 : decode cX10_changes 82 = .ok (.getfield 36, 3) := by decide +kernel
theorem dX10_changes_85 : decode cX10_changes 85 = .ok (.iload 5, 2) := by decide +kernel
theorem dX10_changes_87 : decode cX10_changes 87 = .ok (.iaload, 1) := by decide +kernel
theorem dX10_changes_88 : decode cX10_changes 88 = .ok (.iastore, 1) := by decide +kernel
theorem dX10_changes_89 : decode cX10_changes 89 = .ok (.aload_n 0, 1) := by decide +kernel
theorem dX10_changes_90 : decode cX10_changes 90 = .ok (.getfield 39, 3) := by decide +kernel
theorem dX10_changes_93 : decode cX10_changes 93 = .ok (.iload 5, 2) := by decide +kernel
theorem dX10_changes_95 : decode cX10_changes 95 = .ok (.iconst 1, 1) := by decide +kernel
theorem dX10_changes_96 : decode cX10_changes 96 = .ok (.isub, 1) := by decide +kernel
theorem dX10_changes_97 : decode cX10_changes 97 = .ok (.aload_n 0, 1) := by decide +kernel
theorem dX10_changes_98 : decode cX10_changes 98 = .ok (.getfield 39, 3) := by decide +kernel
theorem dX10_changes_101 : decode cX10_changes 101 = .ok (.iload 5, 2) := by decide +kernel
theorem dX10_changes_103 : decode cX10_changes 103 = .ok (.iaload, 1) := by decide +kernel
theorem dX10_changes_104 : decode cX10_changes 104 = .ok (.iastore, 1) := by decide +kernel
theorem dX10_changes_105 : decode cX10_changes 105 = .ok (.iinc 5 1, 3) := by decide +kernel
theorem dX10_changes_108 : decode cX10_changes 108 = .ok (.goto (-74), 3) := by decide +kernel
theorem dX10_changes_111 : decode cX10_changes 111 = .ok (.aload_n 0, 1) := by decide +kernel
theorem dX10_changes_112 : decode cX10_changes 112 = .ok (.dup, 1) := by decide +kernel
theorem dX10_changes_113 : decode cX10_changes 113 = .ok (.getfield 145, 3) := by decide +kernel
theorem dX10_changes_116 : decode cX10_changes 116 = .ok (.iconst 1, 1) := by decide +kernel
theorem dX10_changes_117 : decode cX10_changes 117 = .ok (.isub, 1) := by decide +kernel
theorem dX10_changes_118 : decode cX10_changes 118 = .ok (.putfield 145, 3) := by decide +kernel
theorem dX10_changes_121 : decode cX10_changes 121 = .ok (.aload_n 0, 1) := by decide +kernel
theorem dX10_changes_122 : decode cX10_changes 122 = .ok (.getfield 30, 3) := by decide +kernel
theorem dX10_changes_125 : decode cX10_changes 125 = .ok (.aload_n 0, 1) := by decide +kernel
theorem dX10_changes_126 : decode cX10_changes 126 = .ok (.getfield 145, 3) := by decide +kernel
theorem dX10_changes_129 : decode cX10_changes 129 = .ok (.iload_n 1, 1) := by decide +kernel
theorem dX10_changes_130 : decode cX10_changes 130 = .ok (.iastore, 1) := by decide +kernel
theorem dX10_changes_131 : decode cX10_changes 131 = .ok (.aload_n 0, 1) := by decide +kernel
theorem dX10_changes_132 : decode cX10_changes 132 = .ok (.getfield 33, 3) := by decide +kernel
theorem dX10_changes_135 : decode cX10_changes 135 = .ok (.aload_n 0, 1) := by decide +kernel
theorem dX10_changes_136 : decode cX10_changes 136 = .ok (.getfield 145, 3) := by decide +kernel
theorem dX10_changes_139 : decode cX10_changes 139 = .ok (.iload_n 2, 1) := by decide +kernel
theorem dX10_changes_140 : decode cX10_changes 140 = .ok (.iastore, 1) := by decide +kernel
theorem dX10_changes_141 : decode cX10_changes 141 = .ok (.aload_n 0, 1) := by decide +kernel
theorem dX10_changes_142 : decode cX10_changes 142 = .ok (.getfield 36, 3) := by decide +kernel
theorem dX10_changes_145 : decode cX10_changes 145 = .ok (.aload_n 0, 1) := by decide +kernel
theorem dX10_changes_146 : decode cX10_changes 146 = .ok (.getfield 145, 3) := by decide +kernel
theorem dX10_changes_149 : decode cX10_changes 149 = .ok (.iload 4, 2) := by decide +kernel
theorem dX10_changes_151 : decode cX10_changes 151 = .ok (.iastore, 1) := by decide +kernel
theorem dX10_changes_152 : decode cX10_changes 152 = .ok (.aload_n 0, 1) := by decide +kernel
theorem dX10_changes_153 : decode cX10_changes 153 = .ok (.getfield 39, 3) := by decide +kernel
theorem dX10_changes_156 : decode cX10_changes 156 = .ok (.aload_n 0, 1) := by decide +kernel
theorem dX10_changes_157 : decode cX10_changes 157 = .ok (.getfield 145, 3) := by decide +kernel
theorem dX10_changes_160 : decode cX10_changes 160 = .ok (.iload_n 3, 1) := by decide +kernel
theorem dX10_changes_161 : decode cX10_changes 161 = .ok (.iastore, 1) := by decide +kernel
theorem dX10_changes_162 : decode cX10_changes 162 = .ok (.aload_n 0, 1) := by decide +kernel
theorem dX10_changes_163 : decode cX10_changes 163 = .ok (.dup, 1) := by decide +kernel
theorem dX10_changes_164 : decode cX10_changes 164 = .ok (.getfield 145, 3) := by decide +kernel
theorem dX10_changes_167 : decode cX10_changes 167 = .ok (.iconst 1, 1) := by decide +kernel
theorem dX10_changes_168 : decode cX10_changes 168 = .ok (.iadd, 1) := by decide +kernel
theorem dX10_changes_169 : decode cX10_changes 169 = .ok (.putfield 145, 3) := by decide +kernel
theorem dX10_changes_172 : decode cX10_changes 172 = .ok (.aload_n 0, 1) := by decide +kernel
theorem dX10_changes_173 : decode cX10_changes 173 = .ok (.iload_n 1, 1) := by decide +kernel
theorem dX10_changes_174 : decode cX10_changes 174 = .ok (.iload_n 2, 1) := by decide +kernel
theorem dX10_changes_175 : decode cX10_changes 175 = .ok (.iload_n 3, 1) := by decide +kernel
theorem dX10_changes_176 : decode cX10_changes 176 = .ok (.invokevirtual 148, 3) := by decide +kernel
theorem dX10_changes_179 : decode cX10_changes 179 = .ok (.iload 4, 2) := by decide +kernel
theorem dX10_changes_181 : decode cX10_changes 181 = .ok (.ireturn, 1) := by decide +kernel
theorem dX10_undo_0 : decode cX10_undo 0 = .ok (.aload_n 0, 1) := by decide +kernel
theorem dX10_undo_1 : decode cX10_undo 1 = .ok (.getfield 145, 3) := by decide +kernel
theorem dX10_undo_4 : decode cX10_undo 4 = .ok (.ifCond .ne 6, 3) := by decide +kernel
theorem dX10_undo_7 : decode cX10_undo 7 = .ok (.bipush (-5), 2) := by decide +kernel
theorem dX10_undo_9 : decode cX10_undo 9 = .ok (.ireturn, 1) := by decide +kernel
theorem dX10_undo_10 : decode cX10_undo 10 = .ok (.aload_n 0, 1) := by decide +kernel
theorem dX10_undo_11 : decode cX10_undo 11 = .ok (.dup, 1) := by decide +kernel
theorem dX10_undo_12 : decode cX10_undo 12 = .ok (.getfield 145, 3) := by decide +kernel
theorem dX10_undo_15 : decode cX10_undo 15 = .ok (.iconst 1, 1) := by decide +kernel
theorem dX10_undo_16 : decode cX10_undo 16 = .ok (.isub, 1) := by decide +kernel
theorem dX10_undo_17 : decode cX10_undo 17 = .ok (.putfield 145, 3) := by decide +kernel
theorem dX10_undo_20 : decode cX10_undo 20 = .ok (.aload_n 0, 1) := by decide +kernel
theorem dX10_undo_21 : decode cX10_undo 21 = .ok (.dup, 1) := by decide +kernel
theorem dX10_undo_22 : decode cX10_undo 22 = .ok (.getfield 142, 3) := by decide +kernel
theorem dX10_undo_25 : decode cX10_undo 25 = .ok (.iconst 1, 1) := by decide +kernel
theorem dX10_undo_26 : decode cX10_undo 26 = .ok (.iadd, 1) := by decide +kernel
theorem dX10_undo_27 : decode cX10_undo 27 = .ok (.putfield 142, 3) := by decide +kernel
theorem dX10_undo_30 : decode cX10_undo 30 = .ok (.aload_n 0, 1) := by decide +kernel
theorem dX10_undo_31 : decode cX10_undo 31 = .ok (.aload_n 0, 1) := by decide +kernel
theorem dX10_undo_32 : decode cX10_undo 32 = .ok (.getfield 30, 3) := by decide +kernel
theorem dX10_undo_35 : decode cX10_undo 35 = .ok (.aload_n 0, 1) := by decide +kernel
theorem dX10_undo_36 : decode cX10_undo 36 = .ok (.getfield 145, 3) := by decide +kernel
theorem dX10_undo_39 : decode cX10_undo 39 = .ok (.iaload, 1) := by decide +kernel
theorem dX10_undo_40 : decode cX10_undo 40 = .ok (.aload_n 0, 1) := by decide +kernel
theorem dX10_undo_41 : decode cX10_undo 41 = .ok (.getfield 33, 3) := by decide +kernel
theorem dX10_undo_44 : decode cX10_undo 44 = .ok (.aload_n 0, 1) := by decide +kernel
theorem dX10_undo_45 : decode cX10_undo 45 = .ok (.getfield 145, 3) := by decide +kernel
theorem dX10_undo_48 : decode cX10_undo 48 = .ok (.iaload, 1) := by decide +kernel
theorem dX10_undo_49 : decode cX10_undo 49 = .ok (.aload_n 0, 1) := by decide +kernel
theorem dX10_undo_50 : decode cX10_undo 50 = .ok (.getfield 36, 3) := by decide +kernel
theorem dX10_undo_53 : decode cX10_undo 53 = .ok (.aload_n 0, 1) := by decide +kernel
theorem dX10_undo_54 : decode cX10_undo 54 = .ok (.getfield 145, 3) := by decide +kernel
theorem dX10_undo_57 : decode cX10_undo 57 = .ok (.iaload, 1) := by decide +kernel
theorem dX10_undo_58 : decode cX10_undo 58 = .ok (.invokevirtual 148, 3) := by decide +kernel
theorem dX10_undo_61 : decode cX10_undo 61 = .ok (.aload_n 0, 1) := by decide +kernel
theorem dX10_undo_62 : decode cX10_undo 62 = .ok (.getfield 145, 3) := by decide +kernel
theorem dX10_undo_65 : decode cX10_undo 65 = .ok (.ireturn, 1) := by decide +kernel
theorem dX10_redo_0 : decode cX10_redo 0 = .ok (.aload_n 0, 1) := by decide +kernel
theorem dX10_redo_1 : decode cX10_redo 1 = .ok (.getfield 142, 3) := by decide +kernel
theorem dX10_redo_4 : decode cX10_redo 4 = .ok (.ifCond .ne 6, 3) := by decide +kernel
theorem dX10_redo_7 : decode cX10_redo 7 = .ok (.bipush (-5), 2) := by decide +kernel
theorem dX10_redo_9 : decode cX10_redo 9 = .ok (.ireturn, 1) := by decide +kernel
theorem dX10_redo_10 : decode cX10_redo 10 = .ok (.aload_n 0, 1) := by decide +kernel
theorem dX10_redo_11 : decode cX10_redo 11 = .ok (.aload_n 0, 1) := by decide +kernel
theorem dX10_redo_12 : decode cX10_redo 12 = .ok (.getfield 30, 3) := by decide +kernel
theorem dX10_redo_15 : decode cX10_redo 15 = .ok (.aload_n 0, 1) := by decide +kernel
theorem dX10_redo_16 : decode cX10_redo 16 = .ok (.getfield 145, 3) := by decide +kernel
theorem dX10_redo_19 : decode cX10_redo 19 = .ok (.iaload, 1) := by decide +kernel
theorem dX10_redo_20 : decode cX10_redo 20 = .ok (.aload_n 0, 1) := by decide +kernel
theorem dX10_redo_21 : decode cX10_redo 21 = .ok (.getfield 33, 3) := by decide +kernel
theorem dX10_redo_24 : decode cX10_redo 24 = .ok (.aload_n 0, 1) := by decide +kernel
theorem dX10_redo_25 : decode cX10_redo 25 = .ok (.getfield 145, 3) := by decide +kernel
theorem dX10_redo_28 : decode cX10_redo 28 = .ok (.iaload, 1) := by decide +kernel
theorem dX10_redo_29 : decode cX10_redo 29 = .ok (.aload_n 0, 1) := by decide +kernel
theorem dX10_redo_30 : decode cX10_redo 30 = .ok (.getfield 39, 3) := by decide +kernel
theorem dX10_redo_33 : decode cX10_redo 33 = .ok (.aload_n 0, 1) := by decide +kernel
theorem dX10_redo_34 : decode cX10_redo 34 = .ok (.getfield 145, 3) := by decide +kernel
theorem dX10_redo_37 : decode cX10_redo 37 = .ok (.iaload, 1) := by decide +kernel
theorem dX10_redo_38 : decode cX10_redo 38 = .ok (.invokevirtual 148, 3) := by decide +kernel
theorem dX10_redo_41 : decode cX10_redo 41 = .ok (.aload_n 0, 1) := by decide +kernel
theorem dX10_redo_42 : decode cX10_redo 42 = .ok (.dup, 1) := by decide +kernel
theorem dX10_redo_43 : decode cX10_redo 43 = .ok (.getfield 145, 3) := by decide +kernel
theorem dX10_redo_46 : decode cX10_redo 46 = .ok (.iconst 1, 1) := by decide +kernel
theorem dX10_redo_47 : decode cX10_redo 47 = .ok (.iadd, 1) := by decide +kernel
theorem dX10_redo_48 : decode cX10_redo 48 = .ok (.putfield 145, 3) := by decide +kernel
theorem dX10_redo_51 : decode cX10_redo 51 = .ok (.aload_n 0, 1) := by decide +kernel
theorem dX10_redo_52 : decode cX10_redo 52 = .ok (.dup, 1) := by decide +kernel
theorem dX10_redo_53 : decode cX10_redo 53 = .ok (.getfield 142, 3) := by decide +kernel
theorem dX10_redo_56 : decode cX10_redo 56 = .ok (.iconst 1, 1) := by decide +kernel
theorem dX10_redo_57 : decode cX10_redo 57 = .ok (.isub, 1) := by decide +kernel
theorem dX10_redo_58 : decode cX10_redo 58 = .ok (.putfield 142, 3) := by decide +kernel
theorem dX10_redo_61 : decode cX10_redo 61 = .ok (.aload_n 0, 1) := by decide +kernel
theorem dX10_redo_62 : decode cX10_redo 62 = .ok (.getfield 142, 3) := by decide +kernel
theorem dX10_redo_65 : decode cX10_redo 65 = .ok (.ireturn, 1) := by decide +kernel
theorem dX10_isOne_0 : decode cX10_isOne 0 = .ok (.iload_n 2, 1) := by decide +kernel
theorem dX10_isOne_1 : decode cX10_isOne 1 = .ok (.iconst 0, 1) := by decide +kernel
theorem dX10_isOne_2 : decode cX10_isOne 2 = .ok (.iconst 1, 1) := by decide +kernel
theorem dX10_isOne_3 : decode cX10_isOne 3 = .ok (.invokestatic 124, 3) := by decide +kernel
theorem dX10_isOne_6 : decode cX10_isOne 6 = .ok (.ifCond .eq 11, 3) := by decide +kernel
theorem dX10_isOne_9 : decode cX10_isOne 9 = .ok (.aload_n 0, 1) := by decide +kernel
theorem dX10_isOne_10 : decode cX10_isOne 10 = .ok (.iload_n 1, 1) := by decide +kernel
theorem dX10_isOne_11 : decode cX10_isOne 11 = .ok (.invokevirtual 152, 3) := by decide +kernel
theorem dX10_isOne_14 : decode cX10_isOne 14 = .ok (.goto 29, 3) := by decide +kernel
theorem dX10_isOne_17 : decode cX10_isOne 17 = .ok (.iload_n 2, 1) := by decide +kernel
theorem dX10_isOne_18 : decode cX10_isOne 18 = .ok (.iconst 2, 1) := by decide +kernel
theorem dX10_isOne_19 : decode cX10_isOne 19 = .ok (.if_icmp .ne 10, 3) := by decide +kernel
theorem dX10_isOne_22 : decode cX10_isOne 22 = .ok (.iload_n 1, 1) := by decide +kernel
theorem dX10_isOne_23 : decode cX10_isOne 23 = .ok (.invokestatic 155, 3) := by decide +kernel
theorem dX10_isOne_26 : decode cX10_isOne 26 = .ok (.goto 17, 3) := by decide +kernel
theorem dX10_isOne_29 : decode cX10_isOne 29 = .ok (.iload_n 2, 1) := by decide +kernel
theorem dX10_isOne_30 : decode cX10_isOne 30 = .ok (.iconst 3, 1) := by decide +kernel
theorem dX10_isOne_31 : decode cX10_isOne 31 = .ok (.if_icmp .ne 11, 3) := by decide +kernel
theorem dX10_isOne_34 : decode cX10_isOne 34 = .ok (.iload_n 1, 1) := by decide +kernel
theorem dX10_isOne_35 : decode cX10_isOne 35 = .ok (.ifCond .ne 7, 3) := by decide +kernel
theorem dX10_isOne_38 : decode cX10_isOne 38 = .ok (.iconst 1, 1) := by decide +kernel
theorem dX10_isOne_39 : decode cX10_isOne 39 = .ok (.goto 4, 3) := by decide +kernel
theorem dX10_isOne_42 : decode cX10_isOne 42 = .ok (.iconst 0, 1) := by decide +kernel
theorem dX10_isOne_43 : decode cX10_isOne 43 = .ok (.ireturn, 1) := by decide +kernel
theorem dX10_mayHave_0 : decode cX10_mayHave 0 = .ok (.iload_n 0, 1) := by decide +kernel
theorem dX10_mayHave_1 : decode cX10_mayHave 1 = .ok (.iconst 3, 1) := by decide +kernel
theorem dX10_mayHave_2 : decode cX10_mayHave 2 = .ok (.if_icmp .ne 12, 3) := by decide +kernel
theorem dX10_mayHave_5 : decode cX10_mayHave 5 = .ok (.iload_n 1, 1) := by decide +kernel
theorem dX10_mayHave_6 : decode cX10_mayHave 6 = .ok (.iconst 0, 1) := by decide +kernel
theorem dX10_mayHave_7 : decode cX10_mayHave 7 = .ok (.iconst 3, 1) := by decide +kernel
theorem dX10_mayHave_8 : decode cX10_mayHave 8 = .ok (.invokestatic 124, 3) := by decide +kernel
theorem dX10_mayHave_11 : decode cX10_mayHave 11 = .ok (.goto 10, 3) := by decide +kernel
theorem dX10_mayHave_14 : decode cX10_mayHave 14 = .ok (.iload_n 1, 1) := by decide +kernel
theorem dX10_mayHave_15 : decode cX10_mayHave 15 = .ok (.iconst 0, 1) := by decide +kernel
theorem dX10_mayHave_16 : decode cX10_mayHave 16 = .ok (.bipush 9, 2) := by decide +kernel
theorem dX10_mayHave_18 : decode cX10_mayHave 18 = .ok (.invokestatic 124, 3) := by decide +kernel
theorem dX10_mayHave_21 : decode cX10_mayHave 21 = .ok (.ireturn, 1) := by decide +kernel
theorem dX10_mend_0 : decode cX10_mend 0 = .ok (.aload_n 0, 1) := by decide +kernel
theorem dX10_mend_1 : decode cX10_mend 1 = .ok (.iload_n 1, 1) := by decide +kernel
theorem dX10_mend_2 : decode cX10_mend 2 = .ok (.iload_n 2, 1) := by decide +kernel
theorem dX10_mend_3 : decode cX10_mend 3 = .ok (.invokevirtual 158, 3) := by decide +kernel
theorem dX10_mend_6 : decode cX10_mend 6 = .ok (.ifCond .eq 21, 3) := by decide +kernel
theorem dX10_mend_9 : decode cX10_mend 9 = .ok (.iload_n 2, 1) := by decide +kernel
theorem dX10_mend_10 : decode cX10_mend 10 = .ok (.iload_n 3, 1) := by decide +kernel
theorem dX10_mend_11 : decode cX10_mend 11 = .ok (.invokestatic 162, 3) := by decide +kernel
theorem dX10_mend_14 : decode cX10_mend 14 = .ok (.ifCond .eq 13, 3) := by decide +kernel
theorem dX10_mend_17 : decode cX10_mend 17 = .ok (.aload_n 0, 1) := by decide +kernel
theorem dX10_mend_18 : decode cX10_mend 18 = .ok (.iload_n 2, 1) := by decide +kernel
theorem dX10_mend_19 : decode cX10_mend 19 = .ok (.iload_n 1, 1) := by decide +kernel
theorem dX10_mend_20 : decode cX10_mend 20 = .ok (.iload_n 3, 1) := by decide +kernel
theorem dX10_mend_21 : decode cX10_mend 21 = .ok (.invokevirtual 165, 3) := by decide +kernel
theorem dX10_mend_24 : decode cX10_mend 24 = .ok (.goto 4, 3) := by decide +kernel
theorem dX10_mend_27 : decode cX10_mend 27 = .ok (.iconst (-1), 1) := by decide +kernel
theorem dX10_mend_28 : decode cX10_mend 28 = .ok (.ireturn, 1) := by decide +kernel
theorem dX10_of_0 : decode cX10_of 0 = .ok (.iload_n 2, 1) := by decide +kernel
theorem dX10_of_1 : decode cX10_of 1 = .ok (.iconst 4, 1) := by decide +kernel
theorem dX10_of_2 : decode cX10_of 2 = .ok (.iconst 5, 1) := by decide +kernel
theorem dX10_of_3 : decode cX10_of 3 = .ok (.invokestatic 124, 3) := by decide +kernel
theorem dX10_of_6 : decode cX10_of 6 = .ok (.ifCond .eq 35, 3) := by decide +kernel
theorem dX10_of_9 : decode cX10_of 9 = .ok (.aload_n 0, 1) := by decide +kernel
theorem dX10_of_10 : decode cX10_of 10 = .ok (.iload_n 1, 1) := by decide +kernel
theorem dX10_of_11 : decode cX10_of 11 = .ok (.invokevirtual 152, 3) := by decide +kernel
theorem dX10_of_14 : decode cX10_of 14 = .ok (.ifCond .ne 5, 3) := by decide +kernel
theorem dX10_of_17 : decode cX10_of 17 = .ok (.iconst (-1), 1) := by decide +kernel
theorem dX10_of_18 : decode cX10_of 18 = .ok (.ireturn, 1) := by decide +kernel
theorem dX10_of_19 : decode cX10_of 19 = .ok (.aload_n 0, 1) := by decide +kernel
theorem dX10_of_20 : decode cX10_of 20 = .ok (.iload_n 1, 1) := by decide +kernel
theorem dX10_of_21 : decode cX10_of 21 = .ok (.invokevirtual 169, 3) := by decide +kernel
theorem dX10_of_24 : decode cX10_of 24 = .ok (.iload_n 2, 1) := by decide +kernel
theorem dX10_of_25 : decode cX10_of 25 = .ok (.iconst 4, 1) := by decide +kernel
theorem dX10_of_26 : decode cX10_of 26 = .ok (.if_icmp .ne 10, 3) := by decide +kernel
theorem dX10_of_29 : decode cX10_of 29 = .ok (.aload_n 0, 1) := by decide +kernel
theorem dX10_of_30 : decode cX10_of 30 = .ok (.getfield 173, 3) := by decide +kernel
theorem dX10_of_33 : decode cX10_of 33 = .ok (.goto 7, 3) := by decide +kernel
theorem dX10_of_36 : decode cX10_of 36 = .ok (.aload_n 0, 1) := by decide +kernel
theorem dX10_of_37 : decode cX10_of 37 = .ok (.invokevirtual 176, 3) := by decide +kernel
theorem dX10_of_40 : decode cX10_of 40 = .ok (.ireturn, 1) := by decide +kernel
theorem dX10_of_41 : decode cX10_of 41 = .ok (.aload_n 0, 1) := by decide +kernel
theorem dX10_of_42 : decode cX10_of 42 = .ok (.iload_n 1, 1) := by decide +kernel
theorem dX10_of_43 : decode cX10_of 43 = .ok (.iload_n 2, 1) := by decide +kernel
theorem dX10_of_44 : decode cX10_of 44 = .ok (.invokevirtual 158, 3) := by decide +kernel
theorem dX10_of_47 : decode cX10_of 47 = .ok (.ifCond .eq 12, 3) := by decide +kernel
theorem dX10_of_50 : decode cX10_of 50 = .ok (.aload_n 0, 1) := by decide +kernel
theorem dX10_of_51 : decode cX10_of 51 = .ok (.iload_n 2, 1) := by decide +kernel
theorem dX10_of_52 : decode cX10_of 52 = .ok (.iload_n 1, 1) := by decide +kernel
theorem dX10_of_53 : decode cX10_of 53 = .ok (.invokevirtual 139, 3) := by decide +kernel
theorem dX10_of_56 : decode cX10_of 56 = .ok (.goto 4, 3) := by decide +kernel
theorem dX10_of_59 : decode cX10_of 59 = .ok (.iconst (-1), 1) := by decide +kernel
theorem dX10_of_60 : decode cX10_of 60 = .ok (.ireturn, 1) := by decide +kernel
theorem dX10_layer_0 : decode cX10_layer 0 = .ok (.aload_n 0, 1) := by decide +kernel
theorem dX10_layer_1 : decode cX10_layer 1 = .ok (.iload_n 1, 1) := by decide +kernel
theorem dX10_layer_2 : decode cX10_layer 2 = .ok (.invokevirtual 152, 3) := by decide +kernel
theorem dX10_layer_5 : decode cX10_layer 5 = .ok (.ifCond .eq 16, 3) := by decide +kernel
theorem dX10_layer_8 : decode cX10_layer 8 = .ok (.iload_n 2, 1) := by decide +kernel
theorem dX10_layer_9 : decode cX10_layer 9 = .ok (.ifCond .lt 12, 3) := by decide +kernel
theorem dX10_layer_12 : decode cX10_layer 12 = .ok (.iload_n 3, 1) := by decide +kernel
theorem dX10_layer_13 : decode cX10_layer 13 = .ok (.iconst 0, 1) := by decide +kernel
theorem dX10_layer_14 : decode cX10_layer 14 = .ok (.iconst 1, 1) := by decide +kernel
theorem dX10_layer_15 : decode cX10_layer 15 = .ok (.invokestatic 124, 3) := by decide +kernel
theorem dX10_layer_18 : decode cX10_layer 18 = .ok (.ifCond .ne 5, 3) := by decide +kernel
theorem dX10_layer_21 : decode cX10_layer 21 = .ok (.iconst (-1), 1) := by decide +kernel
theorem dX10_layer_22 : decode cX10_layer 22 = .ok (.ireturn, 1) := by decide +kernel
theorem dX10_layer_23 : decode cX10_layer 23 = .ok (.iload_n 2, 1) := by decide +kernel
theorem dX10_layer_24 : decode cX10_layer 24 = .ok (.aload_n 0, 1) := by decide +kernel
theorem dX10_layer_25 : decode cX10_layer 25 = .ok (.getfield 21, 3) := by decide +kernel
theorem dX10_layer_28 : decode cX10_layer 28 = .ok (.iload_n 1, 1) := by decide +kernel
theorem dX10_layer_29 : decode cX10_layer 29 = .ok (.iaload, 1) := by decide +kernel
theorem dX10_layer_30 : decode cX10_layer 30 = .ok (.if_icmp .lt 6, 3) := by decide +kernel
theorem dX10_layer_33 : decode cX10_layer 33 = .ok (.bipush (-2), 2) := by decide +kernel
theorem dX10_layer_35 : decode cX10_layer 35 = .ok (.ireturn, 1) := by decide +kernel
theorem dX10_layer_36 : decode cX10_layer 36 = .ok (.iload_n 3, 1) := by decide +kernel
theorem dX10_layer_37 : decode cX10_layer 37 = .ok (.ifCond .ne 17, 3) := by decide +kernel
theorem dX10_layer_40 : decode cX10_layer 40 = .ok (.aload_n 0, 1) := by decide +kernel
theorem dX10_layer_41 : decode cX10_layer 41 = .ok (.getfield 24, 3) := by decide +kernel
theorem dX10_layer_44 : decode cX10_layer 44 = .ok (.bipush 12, 2) := by decide +kernel
theorem dX10_layer_46 : decode cX10_layer 46 = .ok (.iload_n 1, 1) := by decide +kernel
theorem dX10_layer_47 : decode cX10_layer 47 = .ok (.imul, 1) := by decide +kernel
theorem dX10_layer_48 : decode cX10_layer 48 = .ok (.iload_n 2, 1) := by decide +kernel
theorem dX10_layer_49 : decode cX10_layer 49 = .ok (.iadd, 1) := by decide +kernel
theorem dX10_layer_50 : decode cX10_layer 50 = .ok (.iaload, 1) := by decide +kernel
theorem dX10_layer_51 : decode cX10_layer 51 = .ok (.goto 14, 3) := by decide +kernel
theorem dX10_layer_54 : decode cX10_layer 54 = .ok (.aload_n 0, 1) := by decide +kernel
theorem dX10_layer_55 : decode cX10_layer 55 = .ok (.getfield 27, 3) := by decide +kernel
theorem dX10_layer_58 : decode cX10_layer 58 = .ok (.bipush 12, 2) := by decide +kernel
theorem dX10_layer_60 : decode cX10_layer 60 = .ok (.iload_n 1, 1) := by decide +kernel
theorem dX10_layer_61 : decode cX10_layer 61 = .ok (.imul, 1) := by decide +kernel
theorem dX10_layer_62 : decode cX10_layer 62 = .ok (.iload_n 2, 1) := by decide +kernel
theorem dX10_layer_63 : decode cX10_layer 63 = .ok (.iadd, 1) := by decide +kernel
theorem dX10_layer_64 : decode cX10_layer 64 = .ok (.iaload, 1) := by decide +kernel
theorem dX10_layer_65 : decode cX10_layer 65 = .ok (.ireturn, 1) := by decide +kernel
theorem dX10_feed_0 : decode cX10_feed 0 = .ok (.iload_n 1, 1) := by decide +kernel
theorem dX10_feed_1 : decode cX10_feed 1 = .ok (.iconst 0, 1) := by decide +kernel
theorem dX10_feed_2 : decode cX10_feed 2 = .ok (.sipush 255, 3) := by decide +kernel
theorem dX10_feed_5 : decode cX10_feed 5 = .ok (.invokestatic 124, 3) := by decide +kernel
theorem dX10_feed_8 : decode cX10_feed 8 = .ok (.ifCond .ne 5, 3) := by decide +kernel
theorem dX10_feed_11 : decode cX10_feed 11 = .ok (.iconst (-1), 1) := by decide +kernel
theorem dX10_feed_12 : decode cX10_feed 12 = .ok (.ireturn, 1) := by decide +kernel
theorem dX10_feed_13 : decode cX10_feed 13 = .ok (.aload_n 0, 1) := by decide +kernel
theorem dX10_feed_14 : decode cX10_feed 14 = .ok (.getfield 180, 3) := by decide +kernel
theorem dX10_feed_17 : decode cX10_feed 17 = .ok (.bipush 120, 2) := by decide +kernel
theorem dX10_feed_19 : decode cX10_feed 19 = .ok (.if_icmp .ne 6, 3) := by decide +kernel
theorem dX10_feed_22 : decode cX10_feed 22 = .ok (.bipush (-3), 2) := by decide +kernel
theorem dX10_feed_24 : decode cX10_feed 24 = .ok (.ireturn, 1) := by decide +kernel
theorem dX10_feed_25 : decode cX10_feed 25 = .ok (.aload_n 0, 1) := by decide +kernel
theorem dX10_feed_26 : decode cX10_feed 26 = .ok (.getfield 42, 3) := by decide +kernel
theorem dX10_feed_29 : decode cX10_feed 29 = .ok (.aload_n 0, 1) := by decide +kernel
theorem dX10_feed_30 : decode cX10_feed 30 = .ok (.getfield 180, 3) := by decide +kernel
theorem dX10_feed_33 : decode cX10_feed 33 = .ok (.iload_n 1, 1) := by decide +kernel
theorem dX10_feed_34 : decode cX10_feed 34 = .ok (.i2b, 1) := by decide +kernel
theorem dX10_feed_35 : decode cX10_feed 35 = .ok (.bastore, 1) := by decide +kernel
theorem dX10_feed_36 : decode cX10_feed 36 = .ok (.aload_n 0, 1) := by decide +kernel
theorem dX10_feed_37 : decode cX10_feed 37 = .ok (.dup, 1) := by decide +kernel
theorem dX10_feed_38 : decode cX10_feed 38 = .ok (.getfield 180, 3) := by decide +kernel
theorem dX10_feed_41 : decode cX10_feed 41 = .ok (.iconst 1, 1) := by decide +kernel
theorem dX10_feed_42 : decode cX10_feed 42 = .ok (.iadd, 1) := by decide +kernel
theorem dX10_feed_43 : decode cX10_feed 43 = .ok (.putfield 180, 3) := by decide +kernel
theorem dX10_feed_46 : decode cX10_feed 46 = .ok (.aload_n 0, 1) := by decide +kernel
theorem dX10_feed_47 : decode cX10_feed 47 = .ok (.getfield 180, 3) := by decide +kernel
theorem dX10_feed_50 : decode cX10_feed 50 = .ok (.ireturn, 1) := by decide +kernel
theorem dX10_looksOn_0 : decode cX10_looksOn 0 = .ok (.aload_n 0, 1) := by decide +kernel
theorem dX10_looksOn_1 : decode cX10_looksOn 1 = .ok (.getfield 183, 3) := by decide +kernel
theorem dX10_looksOn_4 : decode cX10_looksOn 4 = .ok (.aload_n 0, 1) := by decide +kernel
theorem dX10_looksOn_5 : decode cX10_looksOn 5 = .ok (.getfield 180, 3) := by decide +kernel
theorem dX10_looksOn_8 : decode cX10_looksOn 8 = .ok (.if_icmp .ge 15, 3) := by decide +kernel
theorem dX10_looksOn_11 : decode cX10_looksOn 11 = .ok (.aload_n 0, 1) := by decide +kernel
theorem dX10_looksOn_12 : decode cX10_looksOn 12 = .ok (.getfield 42, 3) := by decide +kernel
theorem dX10_looksOn_15 : decode cX10_looksOn 15 = .ok (.aload_n 0, 1) := by decide +kernel
theorem dX10_looksOn_16 : decode cX10_looksOn 16 = .ok (.getfield 183, 3) := by decide +kernel
theorem dX10_looksOn_19 : decode cX10_looksOn 19 = .ok (.baload, 1) := by decide +kernel
theorem dX10_looksOn_20 : decode cX10_looksOn 20 = .ok (.goto 4, 3) := by decide +kernel
theorem dX10_looksOn_23 : decode cX10_looksOn 23 = .ok (.iconst (-1), 1) := by decide +kernel
theorem dX10_looksOn_24 : decode cX10_looksOn 24 = .ok (.ireturn, 1) := by decide +kernel
theorem dX10_wrong_0 : decode cX10_wrong 0 = .ok (.aload_n 0, 1) := by decide +kernel
theorem dX10_wrong_1 : decode cX10_wrong 1 = .ok (.getfield 186, 3) := by decide +kernel
theorem dX10_wrong_4 : decode cX10_wrong 4 = .ok (.ifCond .ge 11, 3) := by decide +kernel
theorem dX10_wrong_7 : decode cX10_wrong 7 = .ok (.aload_n 0, 1) := by decide +kernel
theorem dX10_wrong_8 : decode cX10_wrong 8 = .ok (.aload_n 0, 1) := by decide +kernel
theorem dX10_wrong_9 : decode cX10_wrong 9 = .ok (.getfield 183, 3) := by decide +kernel
theorem dX10_wrong_12 : decode cX10_wrong 12 = .ok (.putfield 186, 3) := by decide +kernel
theorem dX10_wrong_15 : decode cX10_wrong 15 = .ok (.return_, 1) := by decide +kernel
theorem dX10_addStep_0 : decode cX10_addStep 0 = .ok (.aload_n 0, 1) := by decide +kernel
theorem dX10_addStep_1 : decode cX10_addStep 1 = .ok (.getfield 46, 3) := by decide +kernel
theorem dX10_addStep_4 : decode cX10_addStep 4 = .ok (.sipush 130, 3) := by decide +kernel
theorem dX10_addStep_7 : decode cX10_addStep 7 = .ok (.aload_n 0, 1) := by decide +kernel
theorem dX10_addStep_8 : decode cX10_addStep 8 = .ok (.getfield 189, 3) := by decide +kernel
theorem dX10_addStep_11 : decode cX10_addStep 11 = .ok (.iadd, 1) := by decide +kernel
theorem dX10_addStep_12 : decode cX10_addStep 12 = .ok (.iload_n 1, 1) := by decide +kernel
theorem dX10_addStep_13 : decode cX10_addStep 13 = .ok (.i2b, 1) := by decide +kernel
theorem dX10_addStep_14 : decode cX10_addStep 14 = .ok (.bastore, 1) := by decide +kernel
theorem dX10_addStep_15 : decode cX10_addStep 15 = .ok (.aload_n 0, 1) := by decide +kernel
theorem dX10_addStep_16 : decode cX10_addStep 16 = .ok (.getfield 49, 3) := by decide +kernel
theorem dX10_addStep_19 : decode cX10_addStep 19 = .ok (.sipush 130, 3) := by decide +kernel
theorem dX10_addStep_22 : decode cX10_addStep 22 = .ok (.aload_n 0, 1) := by decide +kernel
theorem dX10_addStep_23 : decode cX10_addStep 23 = .ok (.getfield 189, 3) := by decide +kernel
theorem dX10_addStep_26 : decode cX10_addStep 26 = .ok (.iadd, 1) := by decide +kernel
theorem dX10_addStep_27 : decode cX10_addStep 27 = .ok (.iload_n 2, 1) := by decide +kernel
theorem dX10_addStep_28 : decode cX10_addStep 28 = .ok (.iastore, 1) := by decide +kernel
theorem dX10_addStep_29 : decode cX10_addStep 29 = .ok (.aload_n 0, 1) := by decide +kernel
theorem dX10_addStep_30 : decode cX10_addStep 30 = .ok (.dup, 1) := by decide +kernel
theorem dX10_addStep_31 : decode cX10_addStep 31 = .ok (.getfield 189, 3) := by decide +kernel
theorem dX10_addStep_34 : decode cX10_addStep 34 = .ok (.iconst 1, 1) := by decide +kernel
theorem dX10_addStep_35 : decode cX10_addStep 35 = .ok (.iadd, 1) := by decide +kernel
theorem dX10_addStep_36 : decode cX10_addStep 36 = .ok (.putfield 189, 3) := by decide +kernel
theorem dX10_addStep_39 : decode cX10_addStep 39 = .ok (.return_, 1) := by decide +kernel
theorem dX10_nameOf_0 : decode cX10_nameOf 0 = .ok (.iload_n 0, 1) := by decide +kernel
theorem dX10_nameOf_1 : decode cX10_nameOf 1 = .ok (.tableswitch 95 103 119 #[87, 85, 95, 95, 91, 95, 95, 83, 95, 95, 95, 95, 89, 95, 95, 95, 93], 83) := by decide +kernel
theorem dX10_nameOf_84 : decode cX10_nameOf 84 = .ok (.iconst 0, 1) := by decide +kernel
theorem dX10_nameOf_85 : decode cX10_nameOf 85 = .ok (.ireturn, 1) := by decide +kernel
theorem dX10_nameOf_86 : decode cX10_nameOf 86 = .ok (.iconst 1, 1) := by decide +kernel
theorem dX10_nameOf_87 : decode cX10_nameOf 87 = .ok (.ireturn, 1) := by decide +kernel
theorem dX10_nameOf_88 : decode cX10_nameOf 88 = .ok (.iconst 2, 1) := by decide +kernel
theorem dX10_nameOf_89 : decode cX10_nameOf 89 = .ok (.ireturn, 1) := by decide +kernel
theorem dX10_nameOf_90 : decode cX10_nameOf 90 = .ok (.iconst 3, 1) := by decide +kernel
theorem dX10_nameOf_91 : decode cX10_nameOf 91 = .ok (.ireturn, 1) := by decide +kernel
theorem dX10_nameOf_92 : decode cX10_nameOf 92 = .ok (.iconst 4, 1) := by decide +kernel
theorem dX10_nameOf_93 : decode cX10_nameOf 93 = .ok (.ireturn, 1) := by decide +kernel
theorem dX10_nameOf_94 : decode cX10_nameOf 94 = .ok (.iconst 5, 1) := by decide +kernel
theorem dX10_nameOf_95 : decode cX10_nameOf 95 = .ok (.ireturn, 1) := by decide +kernel
theorem dX10_nameOf_96 : decode cX10_nameOf 96 = .ok (.iconst (-1), 1) := by decide +kernel
theorem dX10_nameOf_97 : decode cX10_nameOf 97 = .ok (.ireturn, 1) := by decide +kernel
theorem dX10_opens_0 : decode cX10_opens 0 = .ok (.aload_n 0, 1) := by decide +kernel
theorem dX10_opens_1 : decode cX10_opens 1 = .ok (.getfield 192, 3) := by decide +kernel
theorem dX10_opens_4 : decode cX10_opens 4 = .ok (.bipush 6, 2) := by decide +kernel
theorem dX10_opens_6 : decode cX10_opens 6 = .ok (.if_icmp .ne 9, 3) := by decide +kernel
theorem dX10_opens_9 : decode cX10_opens 9 = .ok (.aload_n 0, 1) := by decide +kernel
theorem dX10_opens_10 : decode cX10_opens 10 = .ok (.invokevirtual 195, 3) := by decide +kernel
theorem dX10_opens_13 : decode cX10_opens 13 = .ok (.iconst 0, 1) := by decide +kernel
theorem dX10_opens_14 : decode cX10_opens 14 = .ok (.ireturn, 1) := by decide +kernel
theorem dX10_opens_15 : decode cX10_opens 15 = .ok (.aload_n 0, 1) := by decide +kernel
theorem dX10_opens_16 : decode cX10_opens 16 = .ok (.dup, 1) := by decide +kernel
theorem dX10_opens_17 : decode cX10_opens 17 = .ok (.getfield 192, 3) := by decide +kernel
theorem dX10_opens_20 : decode cX10_opens 20 = .ok (.iconst 1, 1) := by decide +kernel
theorem dX10_opens_21 : decode cX10_opens 21 = .ok (.iadd, 1) := by decide +kernel
theorem dX10_opens_22 : decode cX10_opens 22 = .ok (.putfield 192, 3) := by decide +kernel
theorem dX10_opens_25 : decode cX10_opens 25 = .ok (.aload_n 0, 1) := by decide +kernel
theorem dX10_opens_26 : decode cX10_opens 26 = .ok (.dup, 1) := by decide +kernel
theorem dX10_opens_27 : decode cX10_opens 27 = .ok (.getfield 183, 3) := by decide +kernel
theorem dX10_opens_30 : decode cX10_opens 30 = .ok (.iconst 1, 1) := by decide +kernel
theorem dX10_opens_31 : decode cX10_opens 31 = .ok (.iadd, 1) := by decide +kernel
theorem dX10_opens_32 : decode cX10_opens 32 = .ok (.putfield 183, 3) := by decide +kernel
theorem dX10_opens_35 : decode cX10_opens 35 = .ok (.iconst 1, 1) := by decide +kernel
theorem dX10_opens_36 : decode cX10_opens 36 = .ok (.ireturn, 1) := by decide +kernel
theorem dX10_figure_0 : decode cX10_figure 0 = .ok (.iconst 0, 1) := by decide +kernel
theorem dX10_figure_1 : decode cX10_figure 1 = .ok (.istore_n 1, 1) := by decide +kernel
theorem dX10_figure_2 : decode cX10_figure 2 = .ok (.iconst 0, 1) := by decide +kernel
theorem dX10_figure_3 : decode cX10_figure 3 = .ok (.istore_n 2, 1) := by decide +kernel
theorem dX10_figure_4 : decode cX10_figure 4 = .ok (.iload_n 2, 1) := by decide +kernel
theorem dX10_figure_5 : decode cX10_figure 5 = .ok (.iconst 4, 1) := by decide +kernel
theorem dX10_figure_6 : decode cX10_figure 6 = .ok (.if_icmp .ge 46, 3) := by decide +kernel
theorem dX10_figure_9 : decode cX10_figure 9 = .ok (.aload_n 0, 1) := by decide +kernel
theorem dX10_figure_10 : decode cX10_figure 10 = .ok (.invokevirtual 198, 3) := by decide +kernel
theorem dX10_figure_13 : decode cX10_figure 13 = .ok (.bipush 48, 2) := by decide +kernel
theorem dX10_figure_15 : decode cX10_figure 15 = .ok (.bipush 57, 2) := by decide +kernel
theorem dX10_figure_17 : decode cX10_figure 17 = .ok (.invokestatic 124, 3) := by decide +kernel
theorem dX10_figure_20 : decode cX10_figure 20 = .ok (.ifCond .eq 32, 3) := by decide +kernel
theorem dX10_figure_23 : decode cX10_figure 23 = .ok (.bipush 10, 2) := by decide +kernel
theorem dX10_figure_25 : decode cX10_figure 25 = .ok (.iload_n 1, 1) := by decide +kernel
theorem dX10_figure_26 : decode cX10_figure 26 = .ok (.imul, 1) := by decide +kernel
theorem dX10_figure_27 : decode cX10_figure 27 = .ok (.aload_n 0, 1) := by decide +kernel
theorem dX10_figure_28 : decode cX10_figure 28 = .ok (.invokevirtual 198, 3) := by decide +kernel
theorem dX10_figure_31 : decode cX10_figure 31 = .ok (.iadd, 1) := by decide +kernel
theorem dX10_figure_32 : decode cX10_figure 32 = .ok (.bipush 48, 2) := by decide +kernel
theorem dX10_figure_34 : decode cX10_figure 34 = .ok (.isub, 1) := by decide +kernel
theorem dX10_figure_35 : decode cX10_figure 35 = .ok (.istore_n 1, 1) := by decide +kernel
theorem dX10_figure_36 : decode cX10_figure 36 = .ok (.iinc 2 1, 3) := by decide +kernel
theorem dX10_figure_39 : decode cX10_figure 39 = .ok (.aload_n 0, 1) := by decide +kernel
theorem dX10_figure_40 : decode cX10_figure 40 = .ok (.dup, 1) := by decide +kernel
theorem dX10_figure_41 : decode cX10_figure 41 = .ok (.getfield 183, 3) := by decide +kernel
theorem dX10_figure_44 : decode cX10_figure 44 = .ok (.iconst 1, 1) := by decide +kernel
theorem dX10_figure_45 : decode cX10_figure 45 = .ok (.iadd, 1) := by decide +kernel
theorem dX10_figure_46 : decode cX10_figure 46 = .ok (.putfield 183, 3) := by decide +kernel
theorem dX10_figure_49 : decode cX10_figure 49 = .ok (.goto (-45), 3) := by decide +kernel
theorem dX10_figure_52 : decode cX10_figure 52 = .ok (.iload_n 2, 1) := by decide +kernel
theorem dX10_figure_53 : decode cX10_figure 53 = .ok (.ifCond .eq 17, 3) := by decide +kernel
theorem dX10_figure_56 : decode cX10_figure 56 = .ok (.aload_n 0, 1) := by decide +kernel
theorem dX10_figure_57 : decode cX10_figure 57 = .ok (.invokevirtual 198, 3) := by decide +kernel
theorem dX10_figure_60 : decode cX10_figure 60 = .ok (.bipush 48, 2) := by decide +kernel
theorem dX10_figure_62 : decode cX10_figure 62 = .ok (.bipush 57, 2) := by decide +kernel
theorem dX10_figure_64 : decode cX10_figure 64 = .ok (.invokestatic 124, 3) := by decide +kernel
theorem dX10_figure_67 : decode cX10_figure 67 = .ok (.ifCond .eq 7, 3) := by decide +kernel
theorem dX10_figure_70 : decode cX10_figure 70 = .ok (.aload_n 0, 1) := by decide +kernel
theorem dX10_figure_71 : decode cX10_figure 71 = .ok (.invokevirtual 195, 3) := by decide +kernel
theorem dX10_figure_74 : decode cX10_figure 74 = .ok (.aload_n 0, 1) := by decide +kernel
theorem dX10_figure_75 : decode cX10_figure 75 = .ok (.iconst 1, 1) := by decide +kernel
theorem dX10_figure_76 : decode cX10_figure 76 = .ok (.iload_n 1, 1) := by decide +kernel
theorem dX10_figure_77 : decode cX10_figure 77 = .ok (.invokevirtual 201, 3) := by decide +kernel
theorem dX10_figure_80 : decode cX10_figure 80 = .ok (.return_, 1) := by decide +kernel
theorem dX10_operand_0 : decode cX10_operand 0 = .ok (.aload_n 0, 1) := by decide +kernel
theorem dX10_operand_1 : decode cX10_operand 1 = .ok (.invokevirtual 198, 3) := by decide +kernel
theorem dX10_operand_4 : decode cX10_operand 4 = .ok (.istore_n 1, 1) := by decide +kernel
theorem dX10_operand_5 : decode cX10_operand 5 = .ok (.iload_n 1, 1) := by decide +kernel
theorem dX10_operand_6 : decode cX10_operand 6 = .ok (.invokestatic 205, 3) := by decide +kernel
theorem dX10_operand_9 : decode cX10_operand 9 = .ok (.ifCond .lt 25, 3) := by decide +kernel
theorem dX10_operand_12 : decode cX10_operand 12 = .ok (.aload_n 0, 1) := by decide +kernel
theorem dX10_operand_13 : decode cX10_operand 13 = .ok (.iconst 2, 1) := by decide +kernel
theorem dX10_operand_14 : decode cX10_operand 14 = .ok (.iload_n 1, 1) := by decide +kernel
theorem dX10_operand_15 : decode cX10_operand 15 = .ok (.invokestatic 205, 3) := by decide +kernel
theorem dX10_operand_18 : decode cX10_operand 18 = .ok (.invokevirtual 201, 3) := by decide +kernel
theorem dX10_operand_21 : decode cX10_operand 21 = .ok (.aload_n 0, 1) := by decide +kernel
theorem dX10_operand_22 : decode cX10_operand 22 = .ok (.dup, 1) := by decide +kernel
theorem dX10_operand_23 : decode cX10_operand 23 = .ok (.getfield 183, 3) := by decide +kernel
theorem dX10_operand_26 : decode cX10_operand 26 = .ok (.iconst 1, 1) := by decide +kernel
theorem dX10_operand_27 : decode cX10_operand 27 = .ok (.iadd, 1) := by decide +kernel
theorem dX10_operand_28 : decode cX10_operand 28 = .ok (.putfield 183, 3) := by decide +kernel
theorem dX10_operand_31 : decode cX10_operand 31 = .ok (.goto 123, 3) := by decide +kernel
theorem dX10_operand_34 : decode cX10_operand 34 = .ok (.iload_n 1, 1) := by decide +kernel
theorem dX10_operand_35 : decode cX10_operand 35 = .ok (.bipush 33, 2) := by decide +kernel
theorem dX10_operand_37 : decode cX10_operand 37 = .ok (.if_icmp .eq 9, 3) := by decide +kernel
theorem dX10_operand_40 : decode cX10_operand 40 = .ok (.iload_n 1, 1) := by decide +kernel
theorem dX10_operand_41 : decode cX10_operand 41 = .ok (.bipush 45, 2) := by decide +kernel
theorem dX10_operand_43 : decode cX10_operand 43 = .ok (.if_icmp .ne 44, 3) := by decide +kernel
theorem dX10_operand_46 : decode cX10_operand 46 = .ok (.aload_n 0, 1) := by decide +kernel
theorem dX10_operand_47 : decode cX10_operand 47 = .ok (.invokevirtual 209, 3) := by decide +kernel
theorem dX10_operand_50 : decode cX10_operand 50 = .ok (.ifCond .ne 4, 3) := by decide +kernel
theorem dX10_operand_53 : decode cX10_operand 53 = .ok (.return_, 1) := by decide +kernel
theorem dX10_operand_54 : decode cX10_operand 54 = .ok (.aload_n 0, 1) := by decide +kernel
theorem dX10_operand_55 : decode cX10_operand 55 = .ok (.invokevirtual 213, 3) := by decide +kernel
theorem dX10_operand_58 : decode cX10_operand 58 = .ok (.aload_n 0, 1) := by decide +kernel
theorem dX10_operand_59 : decode cX10_operand 59 = .ok (.dup, 1) := by decide +kernel
theorem dX10_operand_60 : decode cX10_operand 60 = .ok (.getfield 192, 3) := by decide +kernel
theorem dX10_operand_63 : decode cX10_operand 63 = .ok (.iconst 1, 1) := by decide +kernel
theorem dX10_operand_64 : decode cX10_operand 64 = .ok (.isub, 1) := by decide +kernel
theorem dX10_operand_65 : decode cX10_operand 65 = .ok (.putfield 192, 3) := by decide +kernel
theorem dX10_operand_68 : decode cX10_operand 68 = .ok (.aload_n 0, 1) := by decide +kernel
theorem dX10_operand_69 : decode cX10_operand 69 = .ok (.iload_n 1, 1) := by decide +kernel
theorem dX10_operand_70 : decode cX10_operand 70 = .ok (.bipush 33, 2) := by decide +kernel
theorem dX10_operand_72 : decode cX10_operand 72 = .ok (.if_icmp .ne 7, 3) := by decide +kernel
theorem dX10_operand_75 : decode cX10_operand 75 = .ok (.iconst 3, 1) := by decide +kernel
theorem dX10_operand_76 : decode cX10_operand 76 = .ok (.goto 4, 3) := by decide +kernel
theorem dX10_operand_79 : decode cX10_operand 79 = .ok (.iconst 4, 1) := by decide +kernel
theorem dX10_operand_80 : decode cX10_operand 80 = .ok (.iconst 0, 1) := by decide +kernel
theorem dX10_operand_81 : decode cX10_operand 81 = .ok (.invokevirtual 201, 3) := by decide +kernel
theorem dX10_operand_84 : decode cX10_operand 84 = .ok (.goto 70, 3) := by decide +kernel
theorem dX10_operand_87 : decode cX10_operand 87 = .ok (.iload_n 1, 1) := by decide +kernel
theorem dX10_operand_88 : decode cX10_operand 88 = .ok (.bipush 40, 2) := by decide +kernel
theorem dX10_operand_90 : decode cX10_operand 90 = .ok (.if_icmp .ne 60, 3) := by decide +kernel
theorem dX10_operand_93 : decode cX10_operand 93 = .ok (.aload_n 0, 1) := by decide +kernel
theorem dX10_operand_94 : decode cX10_operand 94 = .ok (.invokevirtual 209, 3) := by decide +kernel
theorem dX10_operand_97 : decode cX10_operand 97 = .ok (.ifCond .ne 4, 3) := by decide +kernel
theorem dX10_operand_100 : decode cX10_operand 100 = .ok (.return_, 1) := by decide +kernel
theorem dX10_operand_101 : decode cX10_operand 101 = .ok (.aload_n 0, 1) := by decide +kernel
theorem dX10_operand_102 : decode cX10_operand 102 = .ok (.invokevirtual 216, 3) := by decide +kernel
theorem dX10_operand_105 : decode cX10_operand 105 = .ok (.aload_n 0, 1) := by decide +kernel
theorem dX10_operand_106 : decode cX10_operand 106 = .ok (.getfield 186, 3) := by decide +kernel
theorem dX10_operand_109 : decode cX10_operand 109 = .ok (.ifCond .lt 4, 3) := by decide +kernel
theorem dX10_operand_112 : decode cX10_operand 112 = .ok (.return_, 1) := by decide +kernel
theorem dX10_operand_113 : decode cX10_operand 113 = .ok (.aload_n 0, 1) := by decide +kernel
theorem dX10_operand_114 : decode cX10_operand 114 = .ok (.invokevirtual 198, 3) := by decide +kernel
theorem dX10_operand_117 : decode cX10_operand 117 = .ok (.bipush 41, 2) := by decide +kernel
theorem dX10_operand_119 : decode cX10_operand 119 = .ok (.if_icmp .eq 8, 3) := by decide +kernel
theorem dX10_operand_122 : decode cX10_operand 122 = .ok (.aload_n 0, 1) := by decide +kernel
theorem dX10_operand_123 : decode cX10_operand 123 = .ok (.invokevirtual 195, 3) := by decide +kernel
theorem dX10_operand_126 : decode cX10_operand 126 = .ok (.return_, 1) := by decide +kernel
theorem dX10_operand_127 : decode cX10_operand 127 = .ok (.aload_n 0, 1) := by decide +kernel
theorem dX10_operand_128 : decode cX10_operand 128 = .ok (.dup, 1) := by decide +kernel
theorem dX10_operand_129 : decode cX10_operand 129 = .ok (.getfield 183, 3) := by decide +kernel
theorem dX10_operand_132 : decode cX10_operand 132 = .ok (.iconst 1, 1) := by decide +kernel
theorem dX10_operand_133 : decode cX10_operand 133 = .ok (.iadd, 1) := by decide +kernel
theorem dX10_operand_134 : decode cX10_operand 134 = .ok (.putfield 183, 3) := by decide +kernel
theorem dX10_operand_137 : decode cX10_operand 137 = .ok (.aload_n 0, 1) := by decide +kernel
theorem dX10_operand_138 : decode cX10_operand 138 = .ok (.dup, 1) := by decide +kernel
theorem dX10_operand_139 : decode cX10_operand 139 = .ok (.getfield 192, 3) := by decide +kernel
theorem dX10_operand_142 : decode cX10_operand 142 = .ok (.iconst 1, 1) := by decide +kernel
theorem dX10_operand_143 : decode cX10_operand 143 = .ok (.isub, 1) := by decide +kernel
theorem dX10_operand_144 : decode cX10_operand 144 = .ok (.putfield 192, 3) := by decide +kernel
theorem dX10_operand_147 : decode cX10_operand 147 = .ok (.goto 7, 3) := by decide +kernel
theorem dX10_operand_150 : decode cX10_operand 150 = .ok (.aload_n 0, 1) := by decide +kernel
theorem dX10_operand_151 : decode cX10_operand 151 = .ok (.invokevirtual 219, 3) := by decide +kernel
theorem dX10_operand_154 : decode cX10_operand 154 = .ok (.return_, 1) := by decide +kernel
theorem dX10_product_0 : decode cX10_product 0 = .ok (.aload_n 0, 1) := by decide +kernel
theorem dX10_product_1 : decode cX10_product 1 = .ok (.invokevirtual 213, 3) := by decide +kernel
theorem dX10_product_4 : decode cX10_product 4 = .ok (.aload_n 0, 1) := by decide +kernel
theorem dX10_product_5 : decode cX10_product 5 = .ok (.getfield 186, 3) := by decide +kernel
theorem dX10_product_8 : decode cX10_product 8 = .ok (.ifCond .ge 58, 3) := by decide +kernel
theorem dX10_product_11 : decode cX10_product 11 = .ok (.aload_n 0, 1) := by decide +kernel
theorem dX10_product_12 : decode cX10_product 12 = .ok (.invokevirtual 198, 3) := by decide +kernel
theorem dX10_product_15 : decode cX10_product 15 = .ok (.bipush 42, 2) := by decide +kernel
theorem dX10_product_17 : decode cX10_product 17 = .ok (.if_icmp .eq 21, 3) := by decide +kernel
theorem dX10_product_20 : decode cX10_product 20 = .ok (.aload_n 0, 1) := by decide +kernel
theorem dX10_product_21 : decode cX10_product 21 = .ok (.invokevirtual 198, 3) := by decide +kernel
theorem dX10_product_24 : decode cX10_product 24 = .ok (.bipush 47, 2) := by decide +kernel
theorem dX10_product_26 : decode cX10_product 26 = .ok (.if_icmp .eq 12, 3) := by decide +kernel
theorem dX10_product_29 : decode cX10_product 29 = .ok (.aload_n 0, 1) := by decide +kernel
theorem dX10_product_30 : decode cX10_product 30 = .ok (.invokevirtual 198, 3) := by decide +kernel
theorem dX10_product_33 : decode cX10_product 33 = .ok (.bipush 37, 2) := by decide +kernel
theorem dX10_product_35 : decode cX10_product 35 = .ok (.if_icmp .ne 31, 3) := by decide +kernel
theorem dX10_product_38 : decode cX10_product 38 = .ok (.aload_n 0, 1) := by decide +kernel
theorem dX10_product_39 : decode cX10_product 39 = .ok (.invokevirtual 198, 3) := by decide +kernel
theorem dX10_product_42 : decode cX10_product 42 = .ok (.istore_n 1, 1) := by decide +kernel
theorem dX10_product_43 : decode cX10_product 43 = .ok (.aload_n 0, 1) := by decide +kernel
theorem dX10_product_44 : decode cX10_product 44 = .ok (.dup, 1) := by decide +kernel
theorem dX10_product_45 : decode cX10_product 45 = .ok (.getfield 183, 3) := by decide +kernel
theorem dX10_product_48 : decode cX10_product 48 = .ok (.iconst 1, 1) := by decide +kernel
theorem dX10_product_49 : decode cX10_product 49 = .ok (.iadd, 1) := by decide +kernel
theorem dX10_product_50 : decode cX10_product 50 = .ok (.putfield 183, 3) := by decide +kernel
theorem dX10_product_53 : decode cX10_product 53 = .ok (.aload_n 0, 1) := by decide +kernel
theorem dX10_product_54 : decode cX10_product 54 = .ok (.invokevirtual 213, 3) := by decide +kernel
theorem dX10_product_57 : decode cX10_product 57 = .ok (.aload_n 0, 1) := by decide +kernel
theorem dX10_product_58 : decode cX10_product 58 = .ok (.iload_n 1, 1) := by decide +kernel
theorem dX10_product_59 : decode cX10_product 59 = .ok (.iconst 0, 1) := by decide +kernel
theorem dX10_product_60 : decode cX10_product 60 = .ok (.invokevirtual 201, 3) := by decide +kernel
theorem dX10_product_63 : decode cX10_product 63 = .ok (.goto (-59), 3) := by decide +kernel
theorem dX10_product_66 : decode cX10_product 66 = .ok (.return_, 1) := by decide +kernel
theorem dX10_sum_0 : decode cX10_sum 0 = .ok (.aload_n 0, 1) := by decide +kernel
theorem dX10_sum_1 : decode cX10_sum 1 = .ok (.invokevirtual 222, 3) := by decide +kernel
theorem dX10_sum_4 : decode cX10_sum 4 = .ok (.aload_n 0, 1) := by decide +kernel
theorem dX10_sum_5 : decode cX10_sum 5 = .ok (.getfield 186, 3) := by decide +kernel
theorem dX10_sum_8 : decode cX10_sum 8 = .ok (.ifCond .ge 49, 3) := by decide +kernel
theorem dX10_sum_11 : decode cX10_sum 11 = .ok (.aload_n 0, 1) := by decide +kernel
theorem dX10_sum_12 : decode cX10_sum 12 = .ok (.invokevirtual 198, 3) := by decide +kernel
theorem dX10_sum_15 : decode cX10_sum 15 = .ok (.bipush 43, 2) := by decide +kernel
theorem dX10_sum_17 : decode cX10_sum 17 = .ok (.if_icmp .eq 12, 3) := by decide +kernel
theorem dX10_sum_20 : decode cX10_sum 20 = .ok (.aload_n 0, 1) := by decide +kernel
theorem dX10_sum_21 : decode cX10_sum 21 = .ok (.invokevirtual 198, 3) := by decide +kernel
theorem dX10_sum_24 : decode cX10_sum 24 = .ok (.bipush 45, 2) := by decide +kernel
theorem dX10_sum_26 : decode cX10_sum 26 = .ok (.if_icmp .ne 31, 3) := by decide +kernel
theorem dX10_sum_29 : decode cX10_sum 29 = .ok (.aload_n 0, 1) := by decide +kernel
theorem dX10_sum_30 : decode cX10_sum 30 = .ok (.invokevirtual 198, 3) := by decide +kernel
theorem dX10_sum_33 : decode cX10_sum 33 = .ok (.istore_n 1, 1) := by decide +kernel
theorem dX10_sum_34 : decode cX10_sum 34 = .ok (.aload_n 0, 1) := by decide +kernel
theorem dX10_sum_35 : decode cX10_sum 35 = .ok (.dup, 1) := by decide +kernel
theorem dX10_sum_36 : decode cX10_sum 36 = .ok (.getfield 183, 3) := by decide +kernel
theorem dX10_sum_39 : decode cX10_sum 39 = .ok (.iconst 1, 1) := by decide +kernel
theorem dX10_sum_40 : decode cX10_sum 40 = .ok (.iadd, 1) := by decide +kernel
theorem dX10_sum_41 : decode cX10_sum 41 = .ok (.putfield 183, 3) := by decide +kernel
theorem dX10_sum_44 : decode cX10_sum 44 = .ok (.aload_n 0, 1) := by decide +kernel
theorem dX10_sum_45 : decode cX10_sum 45 = .ok (.invokevirtual 222, 3) := by decide +kernel
theorem dX10_sum_48 : decode cX10_sum 48 = .ok (.aload_n 0, 1) := by decide +kernel
theorem dX10_sum_49 : decode cX10_sum 49 = .ok (.iload_n 1, 1) := by decide +kernel
theorem dX10_sum_50 : decode cX10_sum 50 = .ok (.iconst 0, 1) := by decide +kernel
theorem dX10_sum_51 : decode cX10_sum 51 = .ok (.invokevirtual 201, 3) := by decide +kernel
theorem dX10_sum_54 : decode cX10_sum 54 = .ok (.goto (-50), 3) := by decide +kernel
theorem dX10_sum_57 : decode cX10_sum 57 = .ok (.return_, 1) := by decide +kernel
theorem dX10_compared_0 : decode cX10_compared 0 = .ok (.aload_n 0, 1) := by decide +kernel
theorem dX10_compared_1 : decode cX10_compared 1 = .ok (.invokevirtual 225, 3) := by decide +kernel
theorem dX10_compared_4 : decode cX10_compared 4 = .ok (.aload_n 0, 1) := by decide +kernel
theorem dX10_compared_5 : decode cX10_compared 5 = .ok (.invokevirtual 198, 3) := by decide +kernel
theorem dX10_compared_8 : decode cX10_compared 8 = .ok (.istore_n 1, 1) := by decide +kernel
theorem dX10_compared_9 : decode cX10_compared 9 = .ok (.aload_n 0, 1) := by decide +kernel
theorem dX10_compared_10 : decode cX10_compared 10 = .ok (.getfield 186, 3) := by decide +kernel
theorem dX10_compared_13 : decode cX10_compared 13 = .ok (.ifCond .ge 21, 3) := by decide +kernel
theorem dX10_compared_16 : decode cX10_compared 16 = .ok (.iload_n 1, 1) := by decide +kernel
theorem dX10_compared_17 : decode cX10_compared 17 = .ok (.bipush 60, 2) := by decide +kernel
theorem dX10_compared_19 : decode cX10_compared 19 = .ok (.if_icmp .eq 16, 3) := by decide +kernel
theorem dX10_compared_22 : decode cX10_compared 22 = .ok (.iload_n 1, 1) := by decide +kernel
theorem dX10_compared_23 : decode cX10_compared 23 = .ok (.bipush 61, 2) := by decide +kernel
theorem dX10_compared_25 : decode cX10_compared 25 = .ok (.if_icmp .eq 10, 3) := by decide +kernel
theorem dX10_compared_28 : decode cX10_compared 28 = .ok (.iload_n 1, 1) := by decide +kernel
theorem dX10_compared_29 : decode cX10_compared 29 = .ok (.bipush 62, 2) := by decide +kernel
theorem dX10_compared_31 : decode cX10_compared 31 = .ok (.if_icmp .eq 4, 3) := by decide +kernel
theorem dX10_compared_34 : decode cX10_compared 34 = .ok (.return_, 1) := by decide +kernel
theorem dX10_compared_35 : decode cX10_compared 35 = .ok (.aload_n 0, 1) := by decide +kernel
theorem dX10_compared_36 : decode cX10_compared 36 = .ok (.dup, 1) := by decide +kernel
theorem dX10_compared_37 : decode cX10_compared 37 = .ok (.getfield 183, 3) := by decide +kernel
theorem dX10_compared_40 : decode cX10_compared 40 = .ok (.iconst 1, 1) := by decide +kernel
theorem dX10_compared_41 : decode cX10_compared 41 = .ok (.iadd, 1) := by decide +kernel
theorem dX10_compared_42 : decode cX10_compared 42 = .ok (.putfield 183, 3) := by decide +kernel
theorem dX10_compared_45 : decode cX10_compared 45 = .ok (.aload_n 0, 1) := by decide +kernel
theorem dX10_compared_46 : decode cX10_compared 46 = .ok (.invokevirtual 225, 3) := by decide +kernel
theorem dX10_compared_49 : decode cX10_compared 49 = .ok (.aload_n 0, 1) := by decide +kernel
theorem dX10_compared_50 : decode cX10_compared 50 = .ok (.iload_n 1, 1) := by decide +kernel
theorem dX10_compared_51 : decode cX10_compared 51 = .ok (.iconst 0, 1) := by decide +kernel
theorem dX10_compared_52 : decode cX10_compared 52 = .ok (.invokevirtual 201, 3) := by decide +kernel
theorem dX10_compared_55 : decode cX10_compared 55 = .ok (.return_, 1) := by decide +kernel
theorem dX10_both_0 : decode cX10_both 0 = .ok (.aload_n 0, 1) := by decide +kernel
theorem dX10_both_1 : decode cX10_both 1 = .ok (.invokevirtual 228, 3) := by decide +kernel
theorem dX10_both_4 : decode cX10_both 4 = .ok (.aload_n 0, 1) := by decide +kernel
theorem dX10_both_5 : decode cX10_both 5 = .ok (.getfield 186, 3) := by decide +kernel
theorem dX10_both_8 : decode cX10_both 8 = .ok (.ifCond .ge 36, 3) := by decide +kernel
theorem dX10_both_11 : decode cX10_both 11 = .ok (.aload_n 0, 1) := by decide +kernel
theorem dX10_both_12 : decode cX10_both 12 = .ok (.invokevirtual 198, 3) := by decide +kernel
theorem dX10_both_15 : decode cX10_both 15 = .ok (.bipush 38, 2) := by decide +kernel
theorem dX10_both_17 : decode cX10_both 17 = .ok (.if_icmp .ne 27, 3) := by decide +kernel
theorem dX10_both_20 : decode cX10_both 20 = .ok (.aload_n 0, 1) := by decide +kernel
theorem dX10_both_21 : decode cX10_both 21 = .ok (.dup, 1) := by decide +kernel
theorem dX10_both_22 : decode cX10_both 22 = .ok (.getfield 183, 3) := by decide +kernel
theorem dX10_both_25 : decode cX10_both 25 = .ok (.iconst 1, 1) := by decide +kernel
theorem dX10_both_26 : decode cX10_both 26 = .ok (.iadd, 1) := by decide +kernel
theorem dX10_both_27 : decode cX10_both 27 = .ok (.putfield 183, 3) := by decide +kernel
theorem dX10_both_30 : decode cX10_both 30 = .ok (.aload_n 0, 1) := by decide +kernel
theorem dX10_both_31 : decode cX10_both 31 = .ok (.invokevirtual 228, 3) := by decide +kernel
theorem dX10_both_34 : decode cX10_both 34 = .ok (.aload_n 0, 1) := by decide +kernel
theorem dX10_both_35 : decode cX10_both 35 = .ok (.bipush 38, 2) := by decide +kernel
theorem dX10_both_37 : decode cX10_both 37 = .ok (.iconst 0, 1) := by decide +kernel
theorem dX10_both_38 : decode cX10_both 38 = .ok (.invokevirtual 201, 3) := by decide +kernel
theorem dX10_both_41 : decode cX10_both 41 = .ok (.goto (-37), 3) := by decide +kernel
theorem dX10_both_44 : decode cX10_both 44 = .ok (.return_, 1) := by decide +kernel
theorem dX10_either_0 : decode cX10_either 0 = .ok (.aload_n 0, 1) := by decide +kernel
theorem dX10_either_1 : decode cX10_either 1 = .ok (.invokevirtual 231, 3) := by decide +kernel
theorem dX10_either_4 : decode cX10_either 4 = .ok (.aload_n 0, 1) := by decide +kernel
theorem dX10_either_5 : decode cX10_either 5 = .ok (.getfield 186, 3) := by decide +kernel
theorem dX10_either_8 : decode cX10_either 8 = .ok (.ifCond .ge 36, 3) := by decide +kernel
theorem dX10_either_11 : decode cX10_either 11 = .ok (.aload_n 0, 1) := by decide +kernel
theorem dX10_either_12 : decode cX10_either 12 = .ok (.invokevirtual 198, 3) := by decide +kernel
theorem dX10_either_15 : decode cX10_either 15 = .ok (.bipush 124, 2) := by decide +kernel
theorem dX10_either_17 : decode cX10_either 17 = .ok (.if_icmp .ne 27, 3) := by decide +kernel
theorem dX10_either_20 : decode cX10_either 20 = .ok (.aload_n 0, 1) := by decide +kernel
theorem dX10_either_21 : decode cX10_either 21 = .ok (.dup, 1) := by decide +kernel
theorem dX10_either_22 : decode cX10_either 22 = .ok (.getfield 183, 3) := by decide +kernel
theorem dX10_either_25 : decode cX10_either 25 = .ok (.iconst 1, 1) := by decide +kernel
theorem dX10_either_26 : decode cX10_either 26 = .ok (.iadd, 1) := by decide +kernel
theorem dX10_either_27 : decode cX10_either 27 = .ok (.putfield 183, 3) := by decide +kernel
theorem dX10_either_30 : decode cX10_either 30 = .ok (.aload_n 0, 1) := by decide +kernel
theorem dX10_either_31 : decode cX10_either 31 = .ok (.invokevirtual 231, 3) := by decide +kernel
theorem dX10_either_34 : decode cX10_either 34 = .ok (.aload_n 0, 1) := by decide +kernel
theorem dX10_either_35 : decode cX10_either 35 = .ok (.bipush 124, 2) := by decide +kernel
theorem dX10_either_37 : decode cX10_either 37 = .ok (.iconst 0, 1) := by decide +kernel
theorem dX10_either_38 : decode cX10_either 38 = .ok (.invokevirtual 201, 3) := by decide +kernel
theorem dX10_either_41 : decode cX10_either 41 = .ok (.goto (-37), 3) := by decide +kernel
theorem dX10_either_44 : decode cX10_either 44 = .ok (.return_, 1) := by decide +kernel
theorem dX10_line_0 : decode cX10_line 0 = .ok (.bipush 61, 2) := by decide +kernel
theorem dX10_line_2 : decode cX10_line 2 = .ok (.aload_n 0, 1) := by decide +kernel
theorem dX10_line_3 : decode cX10_line 3 = .ok (.getfield 52, 3) := by decide +kernel
theorem dX10_line_6 : decode cX10_line 6 = .ok (.iconst 1, 1) := by decide +kernel
theorem dX10_line_7 : decode cX10_line 7 = .ok (.iaload, 1) := by decide +kernel
theorem dX10_line_8 : decode cX10_line 8 = .ok (.iadd, 1) := by decide +kernel
theorem dX10_line_9 : decode cX10_line 9 = .ok (.istore_n 1, 1) := by decide +kernel
theorem dX10_line_10 : decode cX10_line 10 = .ok (.aload_n 0, 1) := by decide +kernel
theorem dX10_line_11 : decode cX10_line 11 = .ok (.getfield 55, 3) := by decide +kernel
theorem dX10_line_14 : decode cX10_line 14 = .ok (.iload_n 1, 1) := by decide +kernel
theorem dX10_line_15 : decode cX10_line 15 = .ok (.aload_n 0, 1) := by decide +kernel
theorem dX10_line_16 : decode cX10_line 16 = .ok (.getfield 189, 3) := by decide +kernel
theorem dX10_line_19 : decode cX10_line 19 = .ok (.i2s, 1) := by decide +kernel
theorem dX10_line_20 : decode cX10_line 20 = .ok (.sastore, 1) := by decide +kernel
theorem dX10_line_21 : decode cX10_line 21 = .ok (.aload_n 0, 1) := by decide +kernel
theorem dX10_line_22 : decode cX10_line 22 = .ok (.invokevirtual 216, 3) := by decide +kernel
theorem dX10_line_25 : decode cX10_line 25 = .ok (.aload_n 0, 1) := by decide +kernel
theorem dX10_line_26 : decode cX10_line 26 = .ok (.getfield 186, 3) := by decide +kernel
theorem dX10_line_29 : decode cX10_line 29 = .ok (.ifCond .ge 37, 3) := by decide +kernel
theorem dX10_line_32 : decode cX10_line 32 = .ok (.aload_n 0, 1) := by decide +kernel
theorem dX10_line_33 : decode cX10_line 33 = .ok (.invokevirtual 198, 3) := by decide +kernel
theorem dX10_line_36 : decode cX10_line 36 = .ok (.bipush 63, 2) := by decide +kernel
theorem dX10_line_38 : decode cX10_line 38 = .ok (.if_icmp .ne 28, 3) := by decide +kernel
theorem dX10_line_41 : decode cX10_line 41 = .ok (.aload_n 0, 1) := by decide +kernel
theorem dX10_line_42 : decode cX10_line 42 = .ok (.dup, 1) := by decide +kernel
theorem dX10_line_43 : decode cX10_line 43 = .ok (.getfield 183, 3) := by decide +kernel
theorem dX10_line_46 : decode cX10_line 46 = .ok (.iconst 1, 1) := by decide +kernel
theorem dX10_line_47 : decode cX10_line 47 = .ok (.iadd, 1) := by decide +kernel
theorem dX10_line_48 : decode cX10_line 48 = .ok (.putfield 183, 3) := by decide +kernel
theorem dX10_line_51 : decode cX10_line 51 = .ok (.aload_n 0, 1) := by decide +kernel
theorem dX10_line_52 : decode cX10_line 52 = .ok (.getfield 55, 3) := by decide +kernel
theorem dX10_line_55 : decode cX10_line 55 = .ok (.iload_n 1, 1) := by decide +kernel
theorem dX10_line_56 : decode cX10_line 56 = .ok (.aload_n 0, 1) := by decide +kernel
theorem dX10_line_57 : decode cX10_line 57 = .ok (.getfield 189, 3) := by decide +kernel
theorem dX10_line_60 : decode cX10_line 60 = .ok (.i2s, 1) := by decide +kernel
theorem dX10_line_61 : decode cX10_line 61 = .ok (.sastore, 1) := by decide +kernel
theorem dX10_line_62 : decode cX10_line 62 = .ok (.aload_n 0, 1) := by decide +kernel
theorem dX10_line_63 : decode cX10_line 63 = .ok (.invokevirtual 216, 3) := by decide +kernel
theorem dX10_line_66 : decode cX10_line 66 = .ok (.aload_n 0, 1) := by decide +kernel
theorem dX10_line_67 : decode cX10_line 67 = .ok (.getfield 59, 3) := by decide +kernel
theorem dX10_line_70 : decode cX10_line 70 = .ok (.iload_n 1, 1) := by decide +kernel
theorem dX10_line_71 : decode cX10_line 71 = .ok (.aload_n 0, 1) := by decide +kernel
theorem dX10_line_72 : decode cX10_line 72 = .ok (.getfield 189, 3) := by decide +kernel
theorem dX10_line_75 : decode cX10_line 75 = .ok (.i2s, 1) := by decide +kernel
theorem dX10_line_76 : decode cX10_line 76 = .ok (.sastore, 1) := by decide +kernel
theorem dX10_line_77 : decode cX10_line 77 = .ok (.aload_n 0, 1) := by decide +kernel
theorem dX10_line_78 : decode cX10_line 78 = .ok (.getfield 52, 3) := by decide +kernel
theorem dX10_line_81 : decode cX10_line 81 = .ok (.iconst 1, 1) := by decide +kernel
theorem dX10_line_82 : decode cX10_line 82 = .ok (.dup2, 1) := by decide +kernel
theorem dX10_line_83 : decode cX10_line 83 = .ok (.iaload, 1) := by decide +kernel
theorem dX10_line_84 : decode cX10_line 84 = .ok (.iconst 1, 1) := by decide +kernel
theorem dX10_line_85 : decode cX10_line 85 = .ok (.iadd, 1) := by decide +kernel
theorem dX10_line_86 : decode cX10_line 86 = .ok (.iastore, 1) := by decide +kernel
theorem dX10_line_87 : decode cX10_line 87 = .ok (.return_, 1) := by decide +kernel
theorem dX10_readText_0 : decode cX10_readText 0 = .ok (.aload_n 0, 1) := by decide +kernel
theorem dX10_readText_1 : decode cX10_readText 1 = .ok (.iconst 0, 1) := by decide +kernel
theorem dX10_readText_2 : decode cX10_readText 2 = .ok (.putfield 183, 3) := by decide +kernel
theorem dX10_readText_5 : decode cX10_readText 5 = .ok (.aload_n 0, 1) := by decide +kernel
theorem dX10_readText_6 : decode cX10_readText 6 = .ok (.iconst (-1), 1) := by decide +kernel
theorem dX10_readText_7 : decode cX10_readText 7 = .ok (.putfield 186, 3) := by decide +kernel
theorem dX10_readText_10 : decode cX10_readText 10 = .ok (.aload_n 0, 1) := by decide +kernel
theorem dX10_readText_11 : decode cX10_readText 11 = .ok (.iconst 0, 1) := by decide +kernel
theorem dX10_readText_12 : decode cX10_readText 12 = .ok (.putfield 192, 3) := by decide +kernel
theorem dX10_readText_15 : decode cX10_readText 15 = .ok (.aload_n 0, 1) := by decide +kernel
theorem dX10_readText_16 : decode cX10_readText 16 = .ok (.iconst 0, 1) := by decide +kernel
theorem dX10_readText_17 : decode cX10_readText 17 = .ok (.putfield 189, 3) := by decide +kernel
theorem dX10_readText_20 : decode cX10_readText 20 = .ok (.aload_n 0, 1) := by decide +kernel
theorem dX10_readText_21 : decode cX10_readText 21 = .ok (.getfield 52, 3) := by decide +kernel
theorem dX10_readText_24 : decode cX10_readText 24 = .ok (.iconst 1, 1) := by decide +kernel
theorem dX10_readText_25 : decode cX10_readText 25 = .ok (.iconst 0, 1) := by decide +kernel
theorem dX10_readText_26 : decode cX10_readText 26 = .ok (.iastore, 1) := by decide +kernel
theorem dX10_readText_27 : decode cX10_readText 27 = .ok (.aload_n 0, 1) := by decide +kernel
theorem dX10_readText_28 : decode cX10_readText 28 = .ok (.invokevirtual 234, 3) := by decide +kernel
theorem dX10_readText_31 : decode cX10_readText 31 = .ok (.aload_n 0, 1) := by decide +kernel
theorem dX10_readText_32 : decode cX10_readText 32 = .ok (.getfield 186, 3) := by decide +kernel
theorem dX10_readText_35 : decode cX10_readText 35 = .ok (.ifCond .ge 29, 3) := by decide +kernel
theorem dX10_readText_38 : decode cX10_readText 38 = .ok (.aload_n 0, 1) := by decide +kernel
theorem dX10_readText_39 : decode cX10_readText 39 = .ok (.invokevirtual 198, 3) := by decide +kernel
theorem dX10_readText_42 : decode cX10_readText 42 = .ok (.bipush 59, 2) := by decide +kernel
theorem dX10_readText_44 : decode cX10_readText 44 = .ok (.if_icmp .ne 20, 3) := by decide +kernel
theorem dX10_readText_47 : decode cX10_readText 47 = .ok (.aload_n 0, 1) := by decide +kernel
theorem dX10_readText_48 : decode cX10_readText 48 = .ok (.dup, 1) := by decide +kernel
theorem dX10_readText_49 : decode cX10_readText 49 = .ok (.getfield 183, 3) := by decide +kernel
theorem dX10_readText_52 : decode cX10_readText 52 = .ok (.iconst 1, 1) := by decide +kernel
theorem dX10_readText_53 : decode cX10_readText 53 = .ok (.iadd, 1) := by decide +kernel
theorem dX10_readText_54 : decode cX10_readText 54 = .ok (.putfield 183, 3) := by decide +kernel
theorem dX10_readText_57 : decode cX10_readText 57 = .ok (.aload_n 0, 1) := by decide +kernel
theorem dX10_readText_58 : decode cX10_readText 58 = .ok (.invokevirtual 234, 3) := by decide +kernel
theorem dX10_readText_61 : decode cX10_readText 61 = .ok (.goto (-30), 3) := by decide +kernel
theorem dX10_readText_64 : decode cX10_readText 64 = .ok (.aload_n 0, 1) := by decide +kernel
theorem dX10_readText_65 : decode cX10_readText 65 = .ok (.getfield 186, 3) := by decide +kernel
theorem dX10_readText_68 : decode cX10_readText 68 = .ok (.ifCond .ge 18, 3) := by decide +kernel
theorem dX10_readText_71 : decode cX10_readText 71 = .ok (.aload_n 0, 1) := by decide +kernel
theorem dX10_readText_72 : decode cX10_readText 72 = .ok (.getfield 183, 3) := by decide +kernel
theorem dX10_readText_75 : decode cX10_readText 75 = .ok (.aload_n 0, 1) := by decide +kernel
theorem dX10_readText_76 : decode cX10_readText 76 = .ok (.getfield 180, 3) := by decide +kernel
theorem dX10_readText_79 : decode cX10_readText 79 = .ok (.if_icmp .ge 7, 3) := by decide +kernel
theorem dX10_readText_82 : decode cX10_readText 82 = .ok (.aload_n 0, 1) := by decide +kernel
theorem dX10_readText_83 : decode cX10_readText 83 = .ok (.invokevirtual 195, 3) := by decide +kernel
theorem dX10_readText_86 : decode cX10_readText 86 = .ok (.aload_n 0, 1) := by decide +kernel
theorem dX10_readText_87 : decode cX10_readText 87 = .ok (.iconst 0, 1) := by decide +kernel
theorem dX10_readText_88 : decode cX10_readText 88 = .ok (.putfield 180, 3) := by decide +kernel
theorem dX10_readText_91 : decode cX10_readText 91 = .ok (.aload_n 0, 1) := by decide +kernel
theorem dX10_readText_92 : decode cX10_readText 92 = .ok (.getfield 186, 3) := by decide +kernel
theorem dX10_readText_95 : decode cX10_readText 95 = .ok (.ifCond .lt 8, 3) := by decide +kernel
theorem dX10_readText_98 : decode cX10_readText 98 = .ok (.aload_n 0, 1) := by decide +kernel
theorem dX10_readText_99 : decode cX10_readText 99 = .ok (.getfield 186, 3) := by decide +kernel
theorem dX10_readText_102 : decode cX10_readText 102 = .ok (.ireturn, 1) := by decide +kernel
theorem dX10_readText_103 : decode cX10_readText 103 = .ok (.iconst 0, 1) := by decide +kernel
theorem dX10_readText_104 : decode cX10_readText 104 = .ok (.istore_n 2, 1) := by decide +kernel
theorem dX10_readText_105 : decode cX10_readText 105 = .ok (.iload_n 2, 1) := by decide +kernel
theorem dX10_readText_106 : decode cX10_readText 106 = .ok (.aload_n 0, 1) := by decide +kernel
theorem dX10_readText_107 : decode cX10_readText 107 = .ok (.getfield 189, 3) := by decide +kernel
theorem dX10_readText_110 : decode cX10_readText 110 = .ok (.if_icmp .ge 53, 3) := by decide +kernel
theorem dX10_readText_113 : decode cX10_readText 113 = .ok (.aload_n 0, 1) := by decide +kernel
theorem dX10_readText_114 : decode cX10_readText 114 = .ok (.getfield 46, 3) := by decide +kernel
theorem dX10_readText_117 : decode cX10_readText 117 = .ok (.sipush 130, 3) := by decide +kernel
theorem dX10_readText_120 : decode cX10_readText 120 = .ok (.iload_n 1, 1) := by decide +kernel
theorem dX10_readText_121 : decode cX10_readText 121 = .ok (.imul, 1) := by decide +kernel
theorem dX10_readText_122 : decode cX10_readText 122 = .ok (.iload_n 2, 1) := by decide +kernel
theorem dX10_readText_123 : decode cX10_readText 123 = .ok (.iadd, 1) := by decide +kernel
theorem dX10_readText_124 : decode cX10_readText 124 = .ok (.aload_n 0, 1) := by decide +kernel
theorem dX10_readText_125 : decode cX10_readText 125 = .ok (.getfield 46, 3) := by decide +kernel
theorem dX10_readText_128 : decode cX10_readText 128 = .ok (.sipush 130, 3) := by decide +kernel
theorem dX10_readText_131 : decode cX10_readText 131 = .ok (.iload_n 2, 1) := by decide +kernel
theorem dX10_readText_132 : decode cX10_readText 132 = .ok (.iadd, 1) := by decide +kernel
theorem dX10_readText_133 : decode cX10_readText 133 = .ok (.baload, 1) := by decide +kernel
theorem dX10_readText_134 : decode cX10_readText 134 = .ok (.bastore, 1) := by decide +kernel
theorem dX10_readText_135 : decode cX10_readText 135 = .ok (.aload_n 0, 1) := by decide +kernel
theorem dX10_readText_136 : decode cX10_readText 136 = .ok (.getfield 49, 3) := by decide +kernel
theorem dX10_readText_139 : decode cX10_readText 139 = .ok (.sipush 130, 3) := by decide +kernel
theorem dX10_readText_142 : decode cX10_readText 142 = .ok (.iload_n 1, 1) := by decide +kernel
theorem dX10_readText_143 : decode cX10_readText 143 = .ok (.imul, 1) := by decide +kernel
theorem dX10_readText_144 : decode cX10_readText 144 = .ok (.iload_n 2, 1) := by decide +kernel
theorem dX10_readText_145 : decode cX10_readText 145 = .ok (.iadd, 1) := by decide +kernel
theorem dX10_readText_146 : decode cX10_readText 146 = .ok (.aload_n 0, 1) := by decide +kernel
theorem dX10_readText_147 : decode cX10_readText 147 = .ok (.getfield 49, 3) := by decide +kernel
theorem dX10_readText_150 : decode cX10_readText 150 = .ok (.sipush 130, 3) := by decide +kernel
theorem dX10_readText_153 : decode cX10_readText 153 = .ok (.iload_n 2, 1) := by decide +kernel
theorem dX10_readText_154 : decode cX10_readText 154 = .ok (.iadd, 1) := by decide +kernel
theorem dX10_readText_155 : decode cX10_readText 155 = .ok (.iaload, 1) := by decide +kernel
theorem dX10_readText_156 : decode cX10_readText 156 = .ok (.iastore, 1) := by decide +kernel
theorem dX10_readText_157 : decode cX10_readText 157 = .ok (.iinc 2 1, 3) := by decide +kernel
theorem dX10_readText_160 : decode cX10_readText 160 = .ok (.goto (-55), 3) := by decide +kernel
theorem dX10_readText_163 : decode cX10_readText 163 = .ok (.aload_n 0, 1) := by decide +kernel
theorem dX10_readText_164 : decode cX10_readText 164 = .ok (.getfield 52, 3) := by decide +kernel
theorem dX10_readText_167 : decode cX10_readText 167 = .ok (.iload_n 1, 1) := by decide +kernel
theorem dX10_readText_168 : decode cX10_readText 168 = .ok (.aload_n 0, 1) := by decide +kernel
theorem dX10_readText_169 : decode cX10_readText 169 = .ok (.getfield 52, 3) := by decide +kernel
theorem dX10_readText_172 : decode cX10_readText 172 = .ok (.iconst 1, 1) := by decide +kernel
theorem dX10_readText_173 : decode cX10_readText 173 = .ok (.iaload, 1) := by decide +kernel
theorem dX10_readText_174 : decode cX10_readText 174 = .ok (.iastore, 1) := by decide +kernel
theorem dX10_readText_175 : decode cX10_readText 175 = .ok (.iconst 0, 1) := by decide +kernel
theorem dX10_readText_176 : decode cX10_readText 176 = .ok (.istore_n 2, 1) := by decide +kernel
theorem dX10_readText_177 : decode cX10_readText 177 = .ok (.iload_n 2, 1) := by decide +kernel
theorem dX10_readText_178 : decode cX10_readText 178 = .ok (.aload_n 0, 1) := by decide +kernel
theorem dX10_readText_179 : decode cX10_readText 179 = .ok (.getfield 52, 3) := by decide +kernel
theorem dX10_readText_182 : decode cX10_readText 182 = .ok (.iload_n 1, 1) := by decide +kernel
theorem dX10_readText_183 : decode cX10_readText 183 = .ok (.iaload, 1) := by decide +kernel
theorem dX10_readText_184 : decode cX10_readText 184 = .ok (.if_icmp .ge 49, 3) := by decide +kernel
theorem dX10_readText_187 : decode cX10_readText 187 = .ok (.aload_n 0, 1) := by decide +kernel
theorem dX10_readText_188 : decode cX10_readText 188 = .ok (.getfield 55, 3) := by decide +kernel
theorem dX10_readText_191 : decode cX10_readText 191 = .ok (.bipush 61, 2) := by decide +kernel
theorem dX10_readText_193 : decode cX10_readText 193 = .ok (.iload_n 1, 1) := by decide +kernel
theorem dX10_readText_194 : decode cX10_readText 194 = .ok (.imul, 1) := by decide +kernel
theorem dX10_readText_195 : decode cX10_readText 195 = .ok (.iload_n 2, 1) := by decide +kernel
theorem dX10_readText_196 : decode cX10_readText 196 = .ok (.iadd, 1) := by decide +kernel
theorem dX10_readText_197 : decode cX10_readText 197 = .ok (.aload_n 0, 1) := by decide +kernel
theorem dX10_readText_198 : decode cX10_readText 198 = .ok (.getfield 55, 3) := by decide +kernel
theorem dX10_readText_201 : decode cX10_readText 201 = .ok (.bipush 61, 2) := by decide +kernel
theorem dX10_readText_203 : decode cX10_readText 203 = .ok (.iload_n 2, 1) := by decide +kernel
theorem dX10_readText_204 : decode cX10_readText 204 = .ok (.iadd, 1) := by decide +kernel
theorem dX10_readText_205 : decode cX10_readText 205 = .ok (.saload, 1) := by decide +kernel
theorem dX10_readText_206 : decode cX10_readText 206 = .ok (.sastore, 1) := by decide +kernel
theorem dX10_readText_207 : decode cX10_readText 207 = .ok (.aload_n 0, 1) := by decide +kernel
theorem dX10_readText_208 : decode cX10_readText 208 = .ok (.getfield 59, 3) := by decide +kernel
theorem dX10_readText_211 : decode cX10_readText 211 = .ok (.bipush 61, 2) := by decide +kernel
theorem dX10_readText_213 : decode cX10_readText 213 = .ok (.iload_n 1, 1) := by decide +kernel
theorem dX10_readText_214 : decode cX10_readText 214 = .ok (.imul, 1) := by decide +kernel
theorem dX10_readText_215 : decode cX10_readText 215 = .ok (.iload_n 2, 1) := by decide +kernel
theorem dX10_readText_216 : decode cX10_readText 216 = .ok (.iadd, 1) := by decide +kernel
theorem dX10_readText_217 : decode cX10_readText 217 = .ok (.aload_n 0, 1) := by decide +kernel
theorem dX10_readText_218 : decode cX10_readText 218 = .ok (.getfield 59, 3) := by decide +kernel
theorem dX10_readText_221 : decode cX10_readText 221 = .ok (.bipush 61, 2) := by decide +kernel
theorem dX10_readText_223 : decode cX10_readText 223 = .ok (.iload_n 2, 1) := by decide +kernel
theorem dX10_readText_224 : decode cX10_readText 224 = .ok (.iadd, 1) := by decide +kernel
theorem dX10_readText_225 : decode cX10_readText 225 = .ok (.saload, 1) := by decide +kernel
theorem dX10_readText_226 : decode cX10_readText 226 = .ok (.sastore, 1) := by decide +kernel
theorem dX10_readText_227 : decode cX10_readText 227 = .ok (.iinc 2 1, 3) := by decide +kernel
theorem dX10_readText_230 : decode cX10_readText 230 = .ok (.goto (-53), 3) := by decide +kernel
theorem dX10_readText_233 : decode cX10_readText 233 = .ok (.iconst (-1), 1) := by decide +kernel
theorem dX10_readText_234 : decode cX10_readText 234 = .ok (.ireturn, 1) := by decide +kernel
theorem dX10_twoOf_0 : decode cX10_twoOf 0 = .ok (.iload_n 0, 1) := by decide +kernel
theorem dX10_twoOf_1 : decode cX10_twoOf 1 = .ok (.tableswitch 217 37 62 #[153, 203, 217, 217, 217, 127, 119, 217, 123, 217, 131, 217, 217, 217, 217, 217, 217, 217, 217, 217, 217, 217, 217, 170, 181, 192], 119) := by decide +kernel
theorem dX10_twoOf_120 : decode cX10_twoOf 120 = .ok (.iload_n 1, 1) := by decide +kernel
theorem dX10_twoOf_121 : decode cX10_twoOf 121 = .ok (.iload_n 2, 1) := by decide +kernel
theorem dX10_twoOf_122 : decode cX10_twoOf 122 = .ok (.iadd, 1) := by decide +kernel
theorem dX10_twoOf_123 : decode cX10_twoOf 123 = .ok (.ireturn, 1) := by decide +kernel
theorem dX10_twoOf_124 : decode cX10_twoOf 124 = .ok (.iload_n 1, 1) := by decide +kernel
theorem dX10_twoOf_125 : decode cX10_twoOf 125 = .ok (.iload_n 2, 1) := by decide +kernel
theorem dX10_twoOf_126 : decode cX10_twoOf 126 = .ok (.isub, 1) := by decide +kernel
theorem dX10_twoOf_127 : decode cX10_twoOf 127 = .ok (.ireturn, 1) := by decide +kernel
theorem dX10_twoOf_128 : decode cX10_twoOf 128 = .ok (.iload_n 1, 1) := by decide +kernel
theorem dX10_twoOf_129 : decode cX10_twoOf 129 = .ok (.iload_n 2, 1) := by decide +kernel
theorem dX10_twoOf_130 : decode cX10_twoOf 130 = .ok (.imul, 1) := by decide +kernel
theorem dX10_twoOf_131 : decode cX10_twoOf 131 = .ok (.ireturn, 1) := by decide +kernel
theorem dX10_twoOf_132 : decode cX10_twoOf 132 = .ok (.iload_n 2, 1) := by decide +kernel
theorem dX10_twoOf_133 : decode cX10_twoOf 133 = .ok (.ifCond .ne 7, 3) := by decide +kernel
theorem dX10_twoOf_136 : decode cX10_twoOf 136 = .ok (.iconst 0, 1) := by decide +kernel
theorem dX10_twoOf_137 : decode cX10_twoOf 137 = .ok (.goto 16, 3) := by decide +kernel
theorem dX10_twoOf_140 : decode cX10_twoOf 140 = .ok (.iload_n 2, 1) := by decide +kernel
theorem dX10_twoOf_141 : decode cX10_twoOf 141 = .ok (.iconst (-1), 1) := by decide +kernel
theorem dX10_twoOf_142 : decode cX10_twoOf 142 = .ok (.if_icmp .ne 8, 3) := by decide +kernel
theorem dX10_twoOf_145 : decode cX10_twoOf 145 = .ok (.iload_n 1, 1) := by decide +kernel
theorem dX10_twoOf_146 : decode cX10_twoOf 146 = .ok (.ineg, 1) := by decide +kernel
theorem dX10_twoOf_147 : decode cX10_twoOf 147 = .ok (.goto 6, 3) := by decide +kernel
theorem dX10_twoOf_150 : decode cX10_twoOf 150 = .ok (.iload_n 1, 1) := by decide +kernel
theorem dX10_twoOf_151 : decode cX10_twoOf 151 = .ok (.iload_n 2, 1) := by decide +kernel
theorem dX10_twoOf_152 : decode cX10_twoOf 152 = .ok (.idiv, 1) := by decide +kernel
theorem dX10_twoOf_153 : decode cX10_twoOf 153 = .ok (.ireturn, 1) := by decide +kernel
theorem dX10_twoOf_154 : decode cX10_twoOf 154 = .ok (.iload_n 2, 1) := by decide +kernel
theorem dX10_twoOf_155 : decode cX10_twoOf 155 = .ok (.ifCond .eq 8, 3) := by decide +kernel
theorem dX10_twoOf_158 : decode cX10_twoOf 158 = .ok (.iload_n 2, 1) := by decide +kernel
theorem dX10_twoOf_159 : decode cX10_twoOf 159 = .ok (.iconst (-1), 1) := by decide +kernel
theorem dX10_twoOf_160 : decode cX10_twoOf 160 = .ok (.if_icmp .ne 7, 3) := by decide +kernel
theorem dX10_twoOf_163 : decode cX10_twoOf 163 = .ok (.iconst 0, 1) := by decide +kernel
theorem dX10_twoOf_164 : decode cX10_twoOf 164 = .ok (.goto 6, 3) := by decide +kernel
theorem dX10_twoOf_167 : decode cX10_twoOf 167 = .ok (.iload_n 1, 1) := by decide +kernel
theorem dX10_twoOf_168 : decode cX10_twoOf 168 = .ok (.iload_n 2, 1) := by decide +kernel
theorem dX10_twoOf_169 : decode cX10_twoOf 169 = .ok (.irem, 1) := by decide +kernel
theorem dX10_twoOf_170 : decode cX10_twoOf 170 = .ok (.ireturn, 1) := by decide +kernel
theorem dX10_twoOf_171 : decode cX10_twoOf 171 = .ok (.iload_n 1, 1) := by decide +kernel
theorem dX10_twoOf_172 : decode cX10_twoOf 172 = .ok (.iload_n 2, 1) := by decide +kernel
theorem dX10_twoOf_173 : decode cX10_twoOf 173 = .ok (.if_icmp .ge 7, 3) := by decide +kernel
theorem dX10_twoOf_176 : decode cX10_twoOf 176 = .ok (.iconst 1, 1) := by decide +kernel
theorem dX10_twoOf_177 : decode cX10_twoOf 177 = .ok (.goto 4, 3) := by decide +kernel
theorem dX10_twoOf_180 : decode cX10_twoOf 180 = .ok (.iconst 0, 1) := by decide +kernel
theorem dX10_twoOf_181 : decode cX10_twoOf 181 = .ok (.ireturn, 1) := by decide +kernel
theorem dX10_twoOf_182 : decode cX10_twoOf 182 = .ok (.iload_n 1, 1) := by decide +kernel
theorem dX10_twoOf_183 : decode cX10_twoOf 183 = .ok (.iload_n 2, 1) := by decide +kernel
theorem dX10_twoOf_184 : decode cX10_twoOf 184 = .ok (.if_icmp .ne 7, 3) := by decide +kernel
theorem dX10_twoOf_187 : decode cX10_twoOf 187 = .ok (.iconst 1, 1) := by decide +kernel
theorem dX10_twoOf_188 : decode cX10_twoOf 188 = .ok (.goto 4, 3) := by decide +kernel
theorem dX10_twoOf_191 : decode cX10_twoOf 191 = .ok (.iconst 0, 1) := by decide +kernel
theorem dX10_twoOf_192 : decode cX10_twoOf 192 = .ok (.ireturn, 1) := by decide +kernel
theorem dX10_twoOf_193 : decode cX10_twoOf 193 = .ok (.iload_n 1, 1) := by decide +kernel
theorem dX10_twoOf_194 : decode cX10_twoOf 194 = .ok (.iload_n 2, 1) := by decide +kernel
theorem dX10_twoOf_195 : decode cX10_twoOf 195 = .ok (.if_icmp .le 7, 3) := by decide +kernel
theorem dX10_twoOf_198 : decode cX10_twoOf 198 = .ok (.iconst 1, 1) := by decide +kernel
theorem dX10_twoOf_199 : decode cX10_twoOf 199 = .ok (.goto 4, 3) := by decide +kernel
theorem dX10_twoOf_202 : decode cX10_twoOf 202 = .ok (.iconst 0, 1) := by decide +kernel
theorem dX10_twoOf_203 : decode cX10_twoOf 203 = .ok (.ireturn, 1) := by decide +kernel
theorem dX10_twoOf_204 : decode cX10_twoOf 204 = .ok (.iload_n 1, 1) := by decide +kernel
theorem dX10_twoOf_205 : decode cX10_twoOf 205 = .ok (.ifCond .eq 11, 3) := by decide +kernel
theorem dX10_twoOf_208 : decode cX10_twoOf 208 = .ok (.iload_n 2, 1) := by decide +kernel
theorem dX10_twoOf_209 : decode cX10_twoOf 209 = .ok (.ifCond .eq 7, 3) := by decide +kernel
theorem dX10_twoOf_212 : decode cX10_twoOf 212 = .ok (.iconst 1, 1) := by decide +kernel
theorem dX10_twoOf_213 : decode cX10_twoOf 213 = .ok (.goto 4, 3) := by decide +kernel
theorem dX10_twoOf_216 : decode cX10_twoOf 216 = .ok (.iconst 0, 1) := by decide +kernel
theorem dX10_twoOf_217 : decode cX10_twoOf 217 = .ok (.ireturn, 1) := by decide +kernel
theorem dX10_twoOf_218 : decode cX10_twoOf 218 = .ok (.iload_n 1, 1) := by decide +kernel
theorem dX10_twoOf_219 : decode cX10_twoOf 219 = .ok (.ifCond .ne 7, 3) := by decide +kernel
theorem dX10_twoOf_222 : decode cX10_twoOf 222 = .ok (.iload_n 2, 1) := by decide +kernel
theorem dX10_twoOf_223 : decode cX10_twoOf 223 = .ok (.ifCond .eq 7, 3) := by decide +kernel
theorem dX10_twoOf_226 : decode cX10_twoOf 226 = .ok (.iconst 1, 1) := by decide +kernel
theorem dX10_twoOf_227 : decode cX10_twoOf 227 = .ok (.goto 4, 3) := by decide +kernel
theorem dX10_twoOf_230 : decode cX10_twoOf 230 = .ok (.iconst 0, 1) := by decide +kernel
theorem dX10_twoOf_231 : decode cX10_twoOf 231 = .ok (.ireturn, 1) := by decide +kernel
theorem dX10_worked_0 : decode cX10_worked 0 = .ok (.iconst 0, 1) := by decide +kernel
theorem dX10_worked_1 : decode cX10_worked 1 = .ok (.istore 4, 2) := by decide +kernel
theorem dX10_worked_3 : decode cX10_worked 3 = .ok (.sipush 130, 3) := by decide +kernel
theorem dX10_worked_6 : decode cX10_worked 6 = .ok (.iload_n 1, 1) := by decide +kernel
theorem dX10_worked_7 : decode cX10_worked 7 = .ok (.imul, 1) := by decide +kernel
theorem dX10_worked_8 : decode cX10_worked 8 = .ok (.iload_n 2, 1) := by decide +kernel
theorem dX10_worked_9 : decode cX10_worked 9 = .ok (.iadd, 1) := by decide +kernel
theorem dX10_worked_10 : decode cX10_worked 10 = .ok (.istore 5, 2) := by decide +kernel
theorem dX10_worked_12 : decode cX10_worked 12 = .ok (.iload 5, 2) := by decide +kernel
theorem dX10_worked_14 : decode cX10_worked 14 = .ok (.sipush 130, 3) := by decide +kernel
theorem dX10_worked_17 : decode cX10_worked 17 = .ok (.iload_n 1, 1) := by decide +kernel
theorem dX10_worked_18 : decode cX10_worked 18 = .ok (.imul, 1) := by decide +kernel
theorem dX10_worked_19 : decode cX10_worked 19 = .ok (.iload_n 3, 1) := by decide +kernel
theorem dX10_worked_20 : decode cX10_worked 20 = .ok (.iadd, 1) := by decide +kernel
theorem dX10_worked_21 : decode cX10_worked 21 = .ok (.if_icmp .ge 167, 3) := by decide +kernel
theorem dX10_worked_24 : decode cX10_worked 24 = .ok (.aload_n 0, 1) := by decide +kernel
theorem dX10_worked_25 : decode cX10_worked 25 = .ok (.getfield 46, 3) := by decide +kernel
theorem dX10_worked_28 : decode cX10_worked 28 = .ok (.iload 5, 2) := by decide +kernel
theorem dX10_worked_30 : decode cX10_worked 30 = .ok (.baload, 1) := by decide +kernel
theorem dX10_worked_31 : decode cX10_worked 31 = .ok (.istore 6, 2) := by decide +kernel
theorem dX10_worked_33 : decode cX10_worked 33 = .ok (.iload 6, 2) := by decide +kernel
theorem dX10_worked_35 : decode cX10_worked 35 = .ok (.iconst 1, 1) := by decide +kernel
theorem dX10_worked_36 : decode cX10_worked 36 = .ok (.if_icmp .eq 9, 3) := by decide +kernel
theorem dX10_worked_39 : decode cX10_worked 39 = .ok (.iload 6, 2) := by decide +kernel
theorem dX10_worked_41 : decode cX10_worked 41 = .ok (.iconst 2, 1) := by decide +kernel
theorem dX10_worked_42 : decode cX10_worked 42 = .ok (.if_icmp .ne 44, 3) := by decide +kernel
theorem dX10_worked_45 : decode cX10_worked 45 = .ok (.aload_n 0, 1) := by decide +kernel
theorem dX10_worked_46 : decode cX10_worked 46 = .ok (.getfield 65, 3) := by decide +kernel
theorem dX10_worked_49 : decode cX10_worked 49 = .ok (.iload 4, 2) := by decide +kernel
theorem dX10_worked_51 : decode cX10_worked 51 = .ok (.iload 6, 2) := by decide +kernel
theorem dX10_worked_53 : decode cX10_worked 53 = .ok (.iconst 1, 1) := by decide +kernel
theorem dX10_worked_54 : decode cX10_worked 54 = .ok (.if_icmp .ne 13, 3) := by decide +kernel
theorem dX10_worked_57 : decode cX10_worked 57 = .ok (.aload_n 0, 1) := by decide +kernel
theorem dX10_worked_58 : decode cX10_worked 58 = .ok (.getfield 49, 3) := by decide +kernel
theorem dX10_worked_61 : decode cX10_worked 61 = .ok (.iload 5, 2) := by decide +kernel
theorem dX10_worked_63 : decode cX10_worked 63 = .ok (.iaload, 1) := by decide +kernel
theorem dX10_worked_64 : decode cX10_worked 64 = .ok (.goto 15, 3) := by decide +kernel
theorem dX10_worked_67 : decode cX10_worked 67 = .ok (.aload_n 0, 1) := by decide +kernel
theorem dX10_worked_68 : decode cX10_worked 68 = .ok (.getfield 62, 3) := by decide +kernel
theorem dX10_worked_71 : decode cX10_worked 71 = .ok (.aload_n 0, 1) := by decide +kernel
theorem dX10_worked_72 : decode cX10_worked 72 = .ok (.getfield 49, 3) := by decide +kernel
theorem dX10_worked_75 : decode cX10_worked 75 = .ok (.iload 5, 2) := by decide +kernel
theorem dX10_worked_77 : decode cX10_worked 77 = .ok (.iaload, 1) := by decide +kernel
theorem dX10_worked_78 : decode cX10_worked 78 = .ok (.iaload, 1) := by decide +kernel
theorem dX10_worked_79 : decode cX10_worked 79 = .ok (.iastore, 1) := by decide +kernel
theorem dX10_worked_80 : decode cX10_worked 80 = .ok (.iinc 4 1, 3) := by decide +kernel
theorem dX10_worked_83 : decode cX10_worked 83 = .ok (.goto 99, 3) := by decide +kernel
theorem dX10_worked_86 : decode cX10_worked 86 = .ok (.iload 6, 2) := by decide +kernel
theorem dX10_worked_88 : decode cX10_worked 88 = .ok (.iconst 3, 1) := by decide +kernel
theorem dX10_worked_89 : decode cX10_worked 89 = .ok (.if_icmp .ne 32, 3) := by decide +kernel
theorem dX10_worked_92 : decode cX10_worked 92 = .ok (.aload_n 0, 1) := by decide +kernel
theorem dX10_worked_93 : decode cX10_worked 93 = .ok (.getfield 65, 3) := by decide +kernel
theorem dX10_worked_96 : decode cX10_worked 96 = .ok (.iload 4, 2) := by decide +kernel
theorem dX10_worked_98 : decode cX10_worked 98 = .ok (.iconst 1, 1) := by decide +kernel
theorem dX10_worked_99 : decode cX10_worked 99 = .ok (.isub, 1) := by decide +kernel
theorem dX10_worked_100 : decode cX10_worked 100 = .ok (.aload_n 0, 1) := by decide +kernel
theorem dX10_worked_101 : decode cX10_worked 101 = .ok (.getfield 65, 3) := by decide +kernel
theorem dX10_worked_104 : decode cX10_worked 104 = .ok (.iload 4, 2) := by decide +kernel
theorem dX10_worked_106 : decode cX10_worked 106 = .ok (.iconst 1, 1) := by decide +kernel
theorem dX10_worked_107 : decode cX10_worked 107 = .ok (.isub, 1) := by decide +kernel
theorem dX10_worked_108 : decode cX10_worked 108 = .ok (.iaload, 1) := by decide +kernel
theorem dX10_worked_109 : decode cX10_worked 109 = .ok (.ifCond .ne 7, 3) := by decide +kernel
theorem dX10_worked_112 : decode cX10_worked 112 = .ok (.iconst 1, 1) := by decide +kernel
theorem dX10_worked_113 : decode cX10_worked 113 = .ok (.goto 4, 3) := by decide +kernel
theorem dX10_worked_116 : decode cX10_worked 116 = .ok (.iconst 0, 1) := by decide +kernel
theorem dX10_worked_117 : decode cX10_worked 117 = .ok (.iastore, 1) := by decide +kernel
theorem dX10_worked_118 : decode cX10_worked 118 = .ok (.goto 64, 3) := by decide +kernel
theorem dX10_worked_121 : decode cX10_worked 121 = .ok (.iload 6, 2) := by decide +kernel
theorem dX10_worked_123 : decode cX10_worked 123 = .ok (.iconst 4, 1) := by decide +kernel
theorem dX10_worked_124 : decode cX10_worked 124 = .ok (.if_icmp .ne 25, 3) := by decide +kernel
theorem dX10_worked_127 : decode cX10_worked 127 = .ok (.aload_n 0, 1) := by decide +kernel
theorem dX10_worked_128 : decode cX10_worked 128 = .ok (.getfield 65, 3) := by decide +kernel
theorem dX10_worked_131 : decode cX10_worked 131 = .ok (.iload 4, 2) := by decide +kernel
theorem dX10_worked_133 : decode cX10_worked 133 = .ok (.iconst 1, 1) := by decide +kernel
theorem dX10_worked_134 : decode cX10_worked 134 = .ok (.isub, 1) := by decide +kernel
theorem dX10_worked_135 : decode cX10_worked 135 = .ok (.aload_n 0, 1) := by decide +kernel
theorem dX10_worked_136 : decode cX10_worked 136 = .ok (.getfield 65, 3) := by decide +kernel
theorem dX10_worked_139 : decode cX10_worked 139 = .ok (.iload 4, 2) := by decide +kernel
theorem dX10_worked_141 : decode cX10_worked 141 = .ok (.iconst 1, 1) := by decide +kernel
theorem dX10_worked_142 : decode cX10_worked 142 = .ok (.isub, 1) := by decide +kernel
theorem dX10_worked_143 : decode cX10_worked 143 = .ok (.iaload, 1) := by decide +kernel
theorem dX10_worked_144 : decode cX10_worked 144 = .ok (.ineg, 1) := by decide +kernel
theorem dX10_worked_145 : decode cX10_worked 145 = .ok (.iastore, 1) := by decide +kernel
theorem dX10_worked_146 : decode cX10_worked 146 = .ok (.goto 36, 3) := by decide +kernel
theorem dX10_worked_149 : decode cX10_worked 149 = .ok (.iinc 4 (-1), 3) := by decide +kernel
theorem dX10_worked_152 : decode cX10_worked 152 = .ok (.aload_n 0, 1) := by decide +kernel
theorem dX10_worked_153 : decode cX10_worked 153 = .ok (.getfield 65, 3) := by decide +kernel
theorem dX10_worked_156 : decode cX10_worked 156 = .ok (.iload 4, 2) := by decide +kernel
theorem dX10_worked_158 : decode cX10_worked 158 = .ok (.iconst 1, 1) := by decide +kernel
theorem dX10_worked_159 : decode cX10_worked 159 = .ok (.isub, 1) := by decide +kernel
theorem dX10_worked_160 : decode cX10_worked 160 = .ok (.iload 6, 2) := by decide +kernel
theorem dX10_worked_162 : decode cX10_worked 162 = .ok (.aload_n 0, 1) := by decide +kernel
theorem dX10_worked_163 : decode cX10_worked 163 = .ok (.getfield 65, 3) := by decide +kernel
theorem dX10_worked_166 : decode cX10_worked 166 = .ok (.iload 4, 2) := by decide +kernel
theorem dX10_worked_168 : decode cX10_worked 168 = .ok (.iconst 1, 1) := by decide +kernel
theorem dX10_worked_169 : decode cX10_worked 169 = .ok (.isub, 1) := by decide +kernel
theorem dX10_worked_170 : decode cX10_worked 170 = .ok (.iaload, 1) := by decide +kernel
theorem dX10_worked_171 : decode cX10_worked 171 = .ok (.aload_n 0, 1) := by decide +kernel
theorem dX10_worked_172 : decode cX10_worked 172 = .ok (.getfield 65, 3) := by decide +kernel
theorem dX10_worked_175 : decode cX10_worked 175 = .ok (.iload 4, 2) := by decide +kernel
theorem dX10_worked_177 : decode cX10_worked 177 = .ok (.iaload, 1) := by decide +kernel
theorem dX10_worked_178 : decode cX10_worked 178 = .ok (.invokestatic 237, 3) := by decide +kernel
theorem dX10_worked_181 : decode cX10_worked 181 = .ok (.iastore, 1) := by decide +kernel
theorem dX10_worked_182 : decode cX10_worked 182 = .ok (.iinc 5 1, 3) := by decide +kernel
theorem dX10_worked_185 : decode cX10_worked 185 = .ok (.goto (-173), 3) := by decide +kernel
theorem dX10_worked_188 : decode cX10_worked 188 = .ok (.aload_n 0, 1) := by decide +kernel
theorem dX10_worked_189 : decode cX10_worked 189 = .ok (.getfield 65, 3) := by decide +kernel
theorem dX10_worked_192 : decode cX10_worked 192 = .ok (.iconst 0, 1) := by decide +kernel
theorem dX10_worked_193 : decode cX10_worked 193 = .ok (.iaload, 1) := by decide +kernel
theorem dX10_worked_194 : decode cX10_worked 194 = .ok (.ireturn, 1) := by decide +kernel
theorem dX10_gives_0 : decode cX10_gives 0 = .ok (.iconst 0, 1) := by decide +kernel
theorem dX10_gives_1 : decode cX10_gives 1 = .ok (.istore_n 2, 1) := by decide +kernel
theorem dX10_gives_2 : decode cX10_gives 2 = .ok (.bipush 61, 2) := by decide +kernel
theorem dX10_gives_4 : decode cX10_gives 4 = .ok (.iload_n 1, 1) := by decide +kernel
theorem dX10_gives_5 : decode cX10_gives 5 = .ok (.imul, 1) := by decide +kernel
theorem dX10_gives_6 : decode cX10_gives 6 = .ok (.istore_n 3, 1) := by decide +kernel
theorem dX10_gives_7 : decode cX10_gives 7 = .ok (.iload_n 3, 1) := by decide +kernel
theorem dX10_gives_8 : decode cX10_gives 8 = .ok (.bipush 61, 2) := by decide +kernel
theorem dX10_gives_10 : decode cX10_gives 10 = .ok (.iload_n 1, 1) := by decide +kernel
theorem dX10_gives_11 : decode cX10_gives 11 = .ok (.imul, 1) := by decide +kernel
theorem dX10_gives_12 : decode cX10_gives 12 = .ok (.aload_n 0, 1) := by decide +kernel
theorem dX10_gives_13 : decode cX10_gives 13 = .ok (.getfield 52, 3) := by decide +kernel
theorem dX10_gives_16 : decode cX10_gives 16 = .ok (.iload_n 1, 1) := by decide +kernel
theorem dX10_gives_17 : decode cX10_gives 17 = .ok (.iaload, 1) := by decide +kernel
theorem dX10_gives_18 : decode cX10_gives 18 = .ok (.iadd, 1) := by decide +kernel
theorem dX10_gives_19 : decode cX10_gives 19 = .ok (.if_icmp .ge 59, 3) := by decide +kernel
theorem dX10_gives_22 : decode cX10_gives 22 = .ok (.aload_n 0, 1) := by decide +kernel
theorem dX10_gives_23 : decode cX10_gives 23 = .ok (.getfield 55, 3) := by decide +kernel
theorem dX10_gives_26 : decode cX10_gives 26 = .ok (.iload_n 3, 1) := by decide +kernel
theorem dX10_gives_27 : decode cX10_gives 27 = .ok (.saload, 1) := by decide +kernel
theorem dX10_gives_28 : decode cX10_gives 28 = .ok (.iload_n 2, 1) := by decide +kernel
theorem dX10_gives_29 : decode cX10_gives 29 = .ok (.if_icmp .eq 18, 3) := by decide +kernel
theorem dX10_gives_32 : decode cX10_gives 32 = .ok (.aload_n 0, 1) := by decide +kernel
theorem dX10_gives_33 : decode cX10_gives 33 = .ok (.iload_n 1, 1) := by decide +kernel
theorem dX10_gives_34 : decode cX10_gives 34 = .ok (.iload_n 2, 1) := by decide +kernel
theorem dX10_gives_35 : decode cX10_gives 35 = .ok (.aload_n 0, 1) := by decide +kernel
theorem dX10_gives_36 : decode cX10_gives 36 = .ok (.getfield 55, 3) := by decide +kernel
theorem dX10_gives_39 : decode cX10_gives 39 = .ok (.iload_n 3, 1) := by decide +kernel
theorem dX10_gives_40 : decode cX10_gives 40 = .ok (.saload, 1) := by decide +kernel
theorem dX10_gives_41 : decode cX10_gives 41 = .ok (.invokevirtual 240, 3) := by decide +kernel
theorem dX10_gives_44 : decode cX10_gives 44 = .ok (.ifCond .eq 21, 3) := by decide +kernel
theorem dX10_gives_47 : decode cX10_gives 47 = .ok (.aload_n 0, 1) := by decide +kernel
theorem dX10_gives_48 : decode cX10_gives 48 = .ok (.iload_n 1, 1) := by decide +kernel
theorem dX10_gives_49 : decode cX10_gives 49 = .ok (.aload_n 0, 1) := by decide +kernel
theorem dX10_gives_50 : decode cX10_gives 50 = .ok (.getfield 55, 3) := by decide +kernel
theorem dX10_gives_53 : decode cX10_gives 53 = .ok (.iload_n 3, 1) := by decide +kernel
theorem dX10_gives_54 : decode cX10_gives 54 = .ok (.saload, 1) := by decide +kernel
theorem dX10_gives_55 : decode cX10_gives 55 = .ok (.aload_n 0, 1) := by decide +kernel
theorem dX10_gives_56 : decode cX10_gives 56 = .ok (.getfield 59, 3) := by decide +kernel
theorem dX10_gives_59 : decode cX10_gives 59 = .ok (.iload_n 3, 1) := by decide +kernel
theorem dX10_gives_60 : decode cX10_gives 60 = .ok (.saload, 1) := by decide +kernel
theorem dX10_gives_61 : decode cX10_gives 61 = .ok (.invokevirtual 240, 3) := by decide +kernel
theorem dX10_gives_64 : decode cX10_gives 64 = .ok (.ireturn, 1) := by decide +kernel
theorem dX10_gives_65 : decode cX10_gives 65 = .ok (.aload_n 0, 1) := by decide +kernel
theorem dX10_gives_66 : decode cX10_gives 66 = .ok (.getfield 59, 3) := by decide +kernel
theorem dX10_gives_69 : decode cX10_gives 69 = .ok (.iload_n 3, 1) := by decide +kernel
theorem dX10_gives_70 : decode cX10_gives 70 = .ok (.saload, 1) := by decide +kernel
theorem dX10_gives_71 : decode cX10_gives 71 = .ok (.istore_n 2, 1) := by decide +kernel
theorem dX10_gives_72 : decode cX10_gives 72 = .ok (.iinc 3 1, 3) := by decide +kernel
theorem dX10_gives_75 : decode cX10_gives 75 = .ok (.goto (-68), 3) := by decide +kernel
theorem dX10_gives_78 : decode cX10_gives 78 = .ok (.iconst 0, 1) := by decide +kernel
theorem dX10_gives_79 : decode cX10_gives 79 = .ok (.ireturn, 1) := by decide +kernel
theorem dX10_law_0 : decode cX10_law 0 = .ok (.aload_n 0, 1) := by decide +kernel
theorem dX10_law_1 : decode cX10_law 1 = .ok (.iconst 0, 1) := by decide +kernel
theorem dX10_law_2 : decode cX10_law 2 = .ok (.invokevirtual 243, 3) := by decide +kernel
theorem dX10_law_5 : decode cX10_law 5 = .ok (.istore_n 1, 1) := by decide +kernel
theorem dX10_law_6 : decode cX10_law 6 = .ok (.iload_n 1, 1) := by decide +kernel
theorem dX10_law_7 : decode cX10_law 7 = .ok (.ifCond .lt 8, 3) := by decide +kernel
theorem dX10_law_10 : decode cX10_law 10 = .ok (.bipush (-100), 2) := by decide +kernel
theorem dX10_law_12 : decode cX10_law 12 = .ok (.iload_n 1, 1) := by decide +kernel
theorem dX10_law_13 : decode cX10_law 13 = .ok (.isub, 1) := by decide +kernel
theorem dX10_law_14 : decode cX10_law 14 = .ok (.ireturn, 1) := by decide +kernel
theorem dX10_law_15 : decode cX10_law 15 = .ok (.aload_n 0, 1) := by decide +kernel
theorem dX10_law_16 : decode cX10_law 16 = .ok (.iconst 1, 1) := by decide +kernel
theorem dX10_law_17 : decode cX10_law 17 = .ok (.putfield 246, 3) := by decide +kernel
theorem dX10_law_20 : decode cX10_law 20 = .ok (.iconst 1, 1) := by decide +kernel
theorem dX10_law_21 : decode cX10_law 21 = .ok (.ireturn, 1) := by decide +kernel
theorem dX10_laysBy_0 : decode cX10_laysBy 0 = .ok (.iload_n 3, 1) := by decide +kernel
theorem dX10_laysBy_1 : decode cX10_laysBy 1 = .ok (.aload_n 0, 1) := by decide +kernel
theorem dX10_laysBy_2 : decode cX10_laysBy 2 = .ok (.getfield 15, 3) := by decide +kernel
theorem dX10_laysBy_5 : decode cX10_laysBy 5 = .ok (.iload_n 1, 1) := by decide +kernel
theorem dX10_laysBy_6 : decode cX10_laysBy 6 = .ok (.iaload, 1) := by decide +kernel
theorem dX10_laysBy_7 : decode cX10_laysBy 7 = .ok (.iconst 3, 1) := by decide +kernel
theorem dX10_laysBy_8 : decode cX10_laysBy 8 = .ok (.idiv, 1) := by decide +kernel
theorem dX10_laysBy_9 : decode cX10_laysBy 9 = .ok (.isub, 1) := by decide +kernel
theorem dX10_laysBy_10 : decode cX10_laysBy 10 = .ok (.istore 5, 2) := by decide +kernel
theorem dX10_laysBy_12 : decode cX10_laysBy 12 = .ok (.aload_n 0, 1) := by decide +kernel
theorem dX10_laysBy_13 : decode cX10_laysBy 13 = .ok (.getfield 246, 3) := by decide +kernel
theorem dX10_laysBy_16 : decode cX10_laysBy 16 = .ok (.ifCond .eq 66, 3) := by decide +kernel
theorem dX10_laysBy_19 : decode cX10_laysBy 19 = .ok (.aload_n 0, 1) := by decide +kernel
theorem dX10_laysBy_20 : decode cX10_laysBy 20 = .ok (.getfield 62, 3) := by decide +kernel
theorem dX10_laysBy_23 : decode cX10_laysBy 23 = .ok (.iconst 0, 1) := by decide +kernel
theorem dX10_laysBy_24 : decode cX10_laysBy 24 = .ok (.iload_n 3, 1) := by decide +kernel
theorem dX10_laysBy_25 : decode cX10_laysBy 25 = .ok (.iastore, 1) := by decide +kernel
theorem dX10_laysBy_26 : decode cX10_laysBy 26 = .ok (.aload_n 0, 1) := by decide +kernel
theorem dX10_laysBy_27 : decode cX10_laysBy 27 = .ok (.getfield 62, 3) := by decide +kernel
theorem dX10_laysBy_30 : decode cX10_laysBy 30 = .ok (.iconst 1, 1) := by decide +kernel
theorem dX10_laysBy_31 : decode cX10_laysBy 31 = .ok (.aload_n 0, 1) := by decide +kernel
theorem dX10_laysBy_32 : decode cX10_laysBy 32 = .ok (.getfield 9, 3) := by decide +kernel
theorem dX10_laysBy_35 : decode cX10_laysBy 35 = .ok (.iload_n 1, 1) := by decide +kernel
theorem dX10_laysBy_36 : decode cX10_laysBy 36 = .ok (.iaload, 1) := by decide +kernel
theorem dX10_laysBy_37 : decode cX10_laysBy 37 = .ok (.iastore, 1) := by decide +kernel
theorem dX10_laysBy_38 : decode cX10_laysBy 38 = .ok (.aload_n 0, 1) := by decide +kernel
theorem dX10_laysBy_39 : decode cX10_laysBy 39 = .ok (.getfield 62, 3) := by decide +kernel
theorem dX10_laysBy_42 : decode cX10_laysBy 42 = .ok (.iconst 2, 1) := by decide +kernel
theorem dX10_laysBy_43 : decode cX10_laysBy 43 = .ok (.aload_n 0, 1) := by decide +kernel
theorem dX10_laysBy_44 : decode cX10_laysBy 44 = .ok (.getfield 15, 3) := by decide +kernel
theorem dX10_laysBy_47 : decode cX10_laysBy 47 = .ok (.iload_n 1, 1) := by decide +kernel
theorem dX10_laysBy_48 : decode cX10_laysBy 48 = .ok (.iaload, 1) := by decide +kernel
theorem dX10_laysBy_49 : decode cX10_laysBy 49 = .ok (.iastore, 1) := by decide +kernel
theorem dX10_laysBy_50 : decode cX10_laysBy 50 = .ok (.aload_n 0, 1) := by decide +kernel
theorem dX10_laysBy_51 : decode cX10_laysBy 51 = .ok (.getfield 62, 3) := by decide +kernel
theorem dX10_laysBy_54 : decode cX10_laysBy 54 = .ok (.iconst 3, 1) := by decide +kernel
theorem dX10_laysBy_55 : decode cX10_laysBy 55 = .ok (.aload_n 0, 1) := by decide +kernel
theorem dX10_laysBy_56 : decode cX10_laysBy 56 = .ok (.getfield 136, 3) := by decide +kernel
theorem dX10_laysBy_59 : decode cX10_laysBy 59 = .ok (.iastore, 1) := by decide +kernel
theorem dX10_laysBy_60 : decode cX10_laysBy 60 = .ok (.aload_n 0, 1) := by decide +kernel
theorem dX10_laysBy_61 : decode cX10_laysBy 61 = .ok (.getfield 62, 3) := by decide +kernel
theorem dX10_laysBy_64 : decode cX10_laysBy 64 = .ok (.iconst 4, 1) := by decide +kernel
theorem dX10_laysBy_65 : decode cX10_laysBy 65 = .ok (.iload 4, 2) := by decide +kernel
theorem dX10_laysBy_67 : decode cX10_laysBy 67 = .ok (.iastore, 1) := by decide +kernel
theorem dX10_laysBy_68 : decode cX10_laysBy 68 = .ok (.aload_n 0, 1) := by decide +kernel
theorem dX10_laysBy_69 : decode cX10_laysBy 69 = .ok (.getfield 62, 3) := by decide +kernel
theorem dX10_laysBy_72 : decode cX10_laysBy 72 = .ok (.iconst 5, 1) := by decide +kernel
theorem dX10_laysBy_73 : decode cX10_laysBy 73 = .ok (.iload_n 2, 1) := by decide +kernel
theorem dX10_laysBy_74 : decode cX10_laysBy 74 = .ok (.iastore, 1) := by decide +kernel
theorem dX10_laysBy_75 : decode cX10_laysBy 75 = .ok (.aload_n 0, 1) := by decide +kernel
theorem dX10_laysBy_76 : decode cX10_laysBy 76 = .ok (.iconst 0, 1) := by decide +kernel
theorem dX10_laysBy_77 : decode cX10_laysBy 77 = .ok (.invokevirtual 250, 3) := by decide +kernel
theorem dX10_laysBy_80 : decode cX10_laysBy 80 = .ok (.istore 5, 2) := by decide +kernel
theorem dX10_laysBy_82 : decode cX10_laysBy 82 = .ok (.iload 5, 2) := by decide +kernel
theorem dX10_laysBy_84 : decode cX10_laysBy 84 = .ok (.ifCond .ge 7, 3) := by decide +kernel
theorem dX10_laysBy_87 : decode cX10_laysBy 87 = .ok (.iconst 0, 1) := by decide +kernel
theorem dX10_laysBy_88 : decode cX10_laysBy 88 = .ok (.goto 17, 3) := by decide +kernel
theorem dX10_laysBy_91 : decode cX10_laysBy 91 = .ok (.iload 5, 2) := by decide +kernel
theorem dX10_laysBy_93 : decode cX10_laysBy 93 = .ok (.bipush 9, 2) := by decide +kernel
theorem dX10_laysBy_95 : decode cX10_laysBy 95 = .ok (.if_icmp .le 8, 3) := by decide +kernel
theorem dX10_laysBy_98 : decode cX10_laysBy 98 = .ok (.bipush 9, 2) := by decide +kernel
theorem dX10_laysBy_100 : decode cX10_laysBy 100 = .ok (.goto 5, 3) := by decide +kernel
theorem dX10_laysBy_103 : decode cX10_laysBy 103 = .ok (.iload 5, 2) := by decide +kernel
theorem dX10_laysBy_105 : decode cX10_laysBy 105 = .ok (.ireturn, 1) := by decide +kernel
theorem dX10_whomIn_0 : decode cX10_whomIn 0 = .ok (.iload_n 1, 1) := by decide +kernel
theorem dX10_whomIn_1 : decode cX10_whomIn 1 = .ok (.bipush 60, 2) := by decide +kernel
theorem dX10_whomIn_3 : decode cX10_whomIn 3 = .ok (.if_icmp .ge 10, 3) := by decide +kernel
theorem dX10_whomIn_6 : decode cX10_whomIn 6 = .ok (.iload_n 1, 1) := by decide +kernel
theorem dX10_whomIn_7 : decode cX10_whomIn 7 = .ok (.bipush 10, 2) := by decide +kernel
theorem dX10_whomIn_9 : decode cX10_whomIn 9 = .ok (.idiv, 1) := by decide +kernel
theorem dX10_whomIn_10 : decode cX10_whomIn 10 = .ok (.goto 7, 3) := by decide +kernel
theorem dX10_whomIn_13 : decode cX10_whomIn 13 = .ok (.iload_n 1, 1) := by decide +kernel
theorem dX10_whomIn_14 : decode cX10_whomIn 14 = .ok (.bipush 60, 2) := by decide +kernel
theorem dX10_whomIn_16 : decode cX10_whomIn 16 = .ok (.isub, 1) := by decide +kernel
theorem dX10_whomIn_17 : decode cX10_whomIn 17 = .ok (.ireturn, 1) := by decide +kernel
theorem dX10_muchIn_0 : decode cX10_muchIn 0 = .ok (.iload_n 1, 1) := by decide +kernel
theorem dX10_muchIn_1 : decode cX10_muchIn 1 = .ok (.bipush 60, 2) := by decide +kernel
theorem dX10_muchIn_3 : decode cX10_muchIn 3 = .ok (.if_icmp .ge 10, 3) := by decide +kernel
theorem dX10_muchIn_6 : decode cX10_muchIn 6 = .ok (.iload_n 1, 1) := by decide +kernel
theorem dX10_muchIn_7 : decode cX10_muchIn 7 = .ok (.bipush 10, 2) := by decide +kernel
theorem dX10_muchIn_9 : decode cX10_muchIn 9 = .ok (.irem, 1) := by decide +kernel
theorem dX10_muchIn_10 : decode cX10_muchIn 10 = .ok (.goto 12, 3) := by decide +kernel
theorem dX10_muchIn_13 : decode cX10_muchIn 13 = .ok (.aload_n 0, 1) := by decide +kernel
theorem dX10_muchIn_14 : decode cX10_muchIn 14 = .ok (.getfield 18, 3) := by decide +kernel
theorem dX10_muchIn_17 : decode cX10_muchIn 17 = .ok (.iload_n 1, 1) := by decide +kernel
theorem dX10_muchIn_18 : decode cX10_muchIn 18 = .ok (.bipush 60, 2) := by decide +kernel
theorem dX10_muchIn_20 : decode cX10_muchIn 20 = .ok (.isub, 1) := by decide +kernel
theorem dX10_muchIn_21 : decode cX10_muchIn 21 = .ok (.iaload, 1) := by decide +kernel
theorem dX10_muchIn_22 : decode cX10_muchIn 22 = .ok (.ireturn, 1) := by decide +kernel
theorem dX10_lays_0 : decode cX10_lays 0 = .ok (.aload_n 0, 1) := by decide +kernel
theorem dX10_lays_1 : decode cX10_lays 1 = .ok (.iload_n 1, 1) := by decide +kernel
theorem dX10_lays_2 : decode cX10_lays 2 = .ok (.invokevirtual 152, 3) := by decide +kernel
theorem dX10_lays_5 : decode cX10_lays 5 = .ok (.ifCond .eq 37, 3) := by decide +kernel
theorem dX10_lays_8 : decode cX10_lays 8 = .ok (.iload_n 2, 1) := by decide +kernel
theorem dX10_lays_9 : decode cX10_lays 9 = .ok (.iconst 0, 1) := by decide +kernel
theorem dX10_lays_10 : decode cX10_lays 10 = .ok (.bipush 65, 2) := by decide +kernel
theorem dX10_lays_12 : decode cX10_lays 12 = .ok (.invokestatic 124, 3) := by decide +kernel
theorem dX10_lays_15 : decode cX10_lays 15 = .ok (.ifCond .eq 27, 3) := by decide +kernel
theorem dX10_lays_18 : decode cX10_lays 18 = .ok (.aload_n 0, 1) := by decide +kernel
theorem dX10_lays_19 : decode cX10_lays 19 = .ok (.iload_n 1, 1) := by decide +kernel
theorem dX10_lays_20 : decode cX10_lays 20 = .ok (.aload_n 0, 1) := by decide +kernel
theorem dX10_lays_21 : decode cX10_lays 21 = .ok (.iload_n 2, 1) := by decide +kernel
theorem dX10_lays_22 : decode cX10_lays 22 = .ok (.invokevirtual 253, 3) := by decide +kernel
theorem dX10_lays_25 : decode cX10_lays 25 = .ok (.aload_n 0, 1) := by decide +kernel
theorem dX10_lays_26 : decode cX10_lays 26 = .ok (.iload_n 2, 1) := by decide +kernel
theorem dX10_lays_27 : decode cX10_lays 27 = .ok (.invokevirtual 256, 3) := by decide +kernel
theorem dX10_lays_30 : decode cX10_lays 30 = .ok (.aload_n 0, 1) := by decide +kernel
theorem dX10_lays_31 : decode cX10_lays 31 = .ok (.getfield 21, 3) := by decide +kernel
theorem dX10_lays_34 : decode cX10_lays 34 = .ok (.iload_n 1, 1) := by decide +kernel
theorem dX10_lays_35 : decode cX10_lays 35 = .ok (.iaload, 1) := by decide +kernel
theorem dX10_lays_36 : decode cX10_lays 36 = .ok (.invokevirtual 259, 3) := by decide +kernel
theorem dX10_lays_39 : decode cX10_lays 39 = .ok (.goto 4, 3) := by decide +kernel
theorem dX10_lays_42 : decode cX10_lays 42 = .ok (.iconst (-1), 1) := by decide +kernel
theorem dX10_lays_43 : decode cX10_lays 43 = .ok (.ireturn, 1) := by decide +kernel
theorem dX10_layNow_0 : decode cX10_layNow 0 = .ok (.aload_n 0, 1) := by decide +kernel
theorem dX10_layNow_1 : decode cX10_layNow 1 = .ok (.iload_n 1, 1) := by decide +kernel
theorem dX10_layNow_2 : decode cX10_layNow 2 = .ok (.putfield 263, 3) := by decide +kernel
theorem dX10_layNow_5 : decode cX10_layNow 5 = .ok (.aload_n 0, 1) := by decide +kernel
theorem dX10_layNow_6 : decode cX10_layNow 6 = .ok (.aload_n 0, 1) := by decide +kernel
theorem dX10_layNow_7 : decode cX10_layNow 7 = .ok (.getfield 21, 3) := by decide +kernel
theorem dX10_layNow_10 : decode cX10_layNow 10 = .ok (.iload_n 1, 1) := by decide +kernel
theorem dX10_layNow_11 : decode cX10_layNow 11 = .ok (.iaload, 1) := by decide +kernel
theorem dX10_layNow_12 : decode cX10_layNow 12 = .ok (.putfield 173, 3) := by decide +kernel
theorem dX10_layNow_15 : decode cX10_layNow 15 = .ok (.iconst 0, 1) := by decide +kernel
theorem dX10_layNow_16 : decode cX10_layNow 16 = .ok (.istore_n 2, 1) := by decide +kernel
theorem dX10_layNow_17 : decode cX10_layNow 17 = .ok (.iload_n 2, 1) := by decide +kernel
theorem dX10_layNow_18 : decode cX10_layNow 18 = .ok (.aload_n 0, 1) := by decide +kernel
theorem dX10_layNow_19 : decode cX10_layNow 19 = .ok (.getfield 173, 3) := by decide +kernel
theorem dX10_layNow_22 : decode cX10_layNow 22 = .ok (.if_icmp .ge 43, 3) := by decide +kernel
theorem dX10_layNow_25 : decode cX10_layNow 25 = .ok (.aload_n 0, 1) := by decide +kernel
theorem dX10_layNow_26 : decode cX10_layNow 26 = .ok (.getfield 68, 3) := by decide +kernel
theorem dX10_layNow_29 : decode cX10_layNow 29 = .ok (.iload_n 2, 1) := by decide +kernel
theorem dX10_layNow_30 : decode cX10_layNow 30 = .ok (.aload_n 0, 1) := by decide +kernel
theorem dX10_layNow_31 : decode cX10_layNow 31 = .ok (.getfield 24, 3) := by decide +kernel
theorem dX10_layNow_34 : decode cX10_layNow 34 = .ok (.bipush 12, 2) := by decide +kernel
theorem dX10_layNow_36 : decode cX10_layNow 36 = .ok (.iload_n 1, 1) := by decide +kernel
theorem dX10_layNow_37 : decode cX10_layNow 37 = .ok (.imul, 1) := by decide +kernel
theorem dX10_layNow_38 : decode cX10_layNow 38 = .ok (.iload_n 2, 1) := by decide +kernel
theorem dX10_layNow_39 : decode cX10_layNow 39 = .ok (.iadd, 1) := by decide +kernel
theorem dX10_layNow_40 : decode cX10_layNow 40 = .ok (.iaload, 1) := by decide +kernel
theorem dX10_layNow_41 : decode cX10_layNow 41 = .ok (.iastore, 1) := by decide +kernel
theorem dX10_layNow_42 : decode cX10_layNow 42 = .ok (.aload_n 0, 1) := by decide +kernel
theorem dX10_layNow_43 : decode cX10_layNow 43 = .ok (.getfield 71, 3) := by decide +kernel
theorem dX10_layNow_46 : decode cX10_layNow 46 = .ok (.iload_n 2, 1) := by decide +kernel
theorem dX10_layNow_47 : decode cX10_layNow 47 = .ok (.aload_n 0, 1) := by decide +kernel
theorem dX10_layNow_48 : decode cX10_layNow 48 = .ok (.getfield 27, 3) := by decide +kernel
theorem dX10_layNow_51 : decode cX10_layNow 51 = .ok (.bipush 12, 2) := by decide +kernel
theorem dX10_layNow_53 : decode cX10_layNow 53 = .ok (.iload_n 1, 1) := by decide +kernel
theorem dX10_layNow_54 : decode cX10_layNow 54 = .ok (.imul, 1) := by decide +kernel
theorem dX10_layNow_55 : decode cX10_layNow 55 = .ok (.iload_n 2, 1) := by decide +kernel
theorem dX10_layNow_56 : decode cX10_layNow 56 = .ok (.iadd, 1) := by decide +kernel
theorem dX10_layNow_57 : decode cX10_layNow 57 = .ok (.iaload, 1) := by decide +kernel
theorem dX10_layNow_58 : decode cX10_layNow 58 = .ok (.iastore, 1) := by decide +kernel
theorem dX10_layNow_59 : decode cX10_layNow 59 = .ok (.iinc 2 1, 3) := by decide +kernel
theorem dX10_layNow_62 : decode cX10_layNow 62 = .ok (.goto (-45), 3) := by decide +kernel
theorem dX10_layNow_65 : decode cX10_layNow 65 = .ok (.return_, 1) := by decide +kernel
theorem dX10_heldTo_0 : decode cX10_heldTo 0 = .ok (.iload_n 0, 1) := by decide +kernel
theorem dX10_heldTo_1 : decode cX10_heldTo 1 = .ok (.bipush 99, 2) := by decide +kernel
theorem dX10_heldTo_3 : decode cX10_heldTo 3 = .ok (.if_icmp .le 8, 3) := by decide +kernel
theorem dX10_heldTo_6 : decode cX10_heldTo 6 = .ok (.bipush 99, 2) := by decide +kernel
theorem dX10_heldTo_8 : decode cX10_heldTo 8 = .ok (.goto 4, 3) := by decide +kernel
theorem dX10_heldTo_11 : decode cX10_heldTo 11 = .ok (.iload_n 0, 1) := by decide +kernel
theorem dX10_heldTo_12 : decode cX10_heldTo 12 = .ok (.ireturn, 1) := by decide +kernel
theorem dX10_pressLowest_0 : decode cX10_pressLowest 0 = .ok (.aload_n 0, 1) := by decide +kernel
theorem dX10_pressLowest_1 : decode cX10_pressLowest 1 = .ok (.getfield 71, 3) := by decide +kernel
theorem dX10_pressLowest_4 : decode cX10_pressLowest 4 = .ok (.iconst 0, 1) := by decide +kernel
theorem dX10_pressLowest_5 : decode cX10_pressLowest 5 = .ok (.aload_n 0, 1) := by decide +kernel
theorem dX10_pressLowest_6 : decode cX10_pressLowest 6 = .ok (.getfield 71, 3) := by decide +kernel
theorem dX10_pressLowest_9 : decode cX10_pressLowest 9 = .ok (.iconst 0, 1) := by decide +kernel
theorem dX10_pressLowest_10 : decode cX10_pressLowest 10 = .ok (.iaload, 1) := by decide +kernel
theorem dX10_pressLowest_11 : decode cX10_pressLowest 11 = .ok (.aload_n 0, 1) := by decide +kernel
theorem dX10_pressLowest_12 : decode cX10_pressLowest 12 = .ok (.getfield 71, 3) := by decide +kernel
theorem dX10_pressLowest_15 : decode cX10_pressLowest 15 = .ok (.iconst 1, 1) := by decide +kernel
theorem dX10_pressLowest_16 : decode cX10_pressLowest 16 = .ok (.iaload, 1) := by decide +kernel
theorem dX10_pressLowest_17 : decode cX10_pressLowest 17 = .ok (.iadd, 1) := by decide +kernel
theorem dX10_pressLowest_18 : decode cX10_pressLowest 18 = .ok (.invokestatic 266, 3) := by decide +kernel
theorem dX10_pressLowest_21 : decode cX10_pressLowest 21 = .ok (.iastore, 1) := by decide +kernel
theorem dX10_pressLowest_22 : decode cX10_pressLowest 22 = .ok (.iconst 1, 1) := by decide +kernel
theorem dX10_pressLowest_23 : decode cX10_pressLowest 23 = .ok (.istore_n 1, 1) := by decide +kernel
theorem dX10_pressLowest_24 : decode cX10_pressLowest 24 = .ok (.iload_n 1, 1) := by decide +kernel
theorem dX10_pressLowest_25 : decode cX10_pressLowest 25 = .ok (.aload_n 0, 1) := by decide +kernel
theorem dX10_pressLowest_26 : decode cX10_pressLowest 26 = .ok (.getfield 173, 3) := by decide +kernel
theorem dX10_pressLowest_29 : decode cX10_pressLowest 29 = .ok (.iconst 1, 1) := by decide +kernel
theorem dX10_pressLowest_30 : decode cX10_pressLowest 30 = .ok (.isub, 1) := by decide +kernel
theorem dX10_pressLowest_31 : decode cX10_pressLowest 31 = .ok (.if_icmp .ge 37, 3) := by decide +kernel
theorem dX10_pressLowest_34 : decode cX10_pressLowest 34 = .ok (.aload_n 0, 1) := by decide +kernel
theorem dX10_pressLowest_35 : decode cX10_pressLowest 35 = .ok (.getfield 68, 3) := by decide +kernel
theorem dX10_pressLowest_38 : decode cX10_pressLowest 38 = .ok (.iload_n 1, 1) := by decide +kernel
theorem dX10_pressLowest_39 : decode cX10_pressLowest 39 = .ok (.aload_n 0, 1) := by decide +kernel
theorem dX10_pressLowest_40 : decode cX10_pressLowest 40 = .ok (.getfield 68, 3) := by decide +kernel
theorem dX10_pressLowest_43 : decode cX10_pressLowest 43 = .ok (.iload_n 1, 1) := by decide +kernel
theorem dX10_pressLowest_44 : decode cX10_pressLowest 44 = .ok (.iconst 1, 1) := by decide +kernel
theorem dX10_pressLowest_45 : decode cX10_pressLowest 45 = .ok (.iadd, 1) := by decide +kernel
theorem dX10_pressLowest_46 : decode cX10_pressLowest 46 = .ok (.iaload, 1) := by decide +kernel
theorem dX10_pressLowest_47 : decode cX10_pressLowest 47 = .ok (.iastore, 1) := by decide +kernel
theorem dX10_pressLowest_48 : decode cX10_pressLowest 48 = .ok (.aload_n 0, 1) := by decide +kernel
theorem dX10_pressLowest_49 : decode cX10_pressLowest 49 = .ok (.getfield 71, 3) := by decide +kernel
theorem dX10_pressLowest_52 : decode cX10_pressLowest 52 = .ok (.iload_n 1, 1) := by decide +kernel
theorem dX10_pressLowest_53 : decode cX10_pressLowest 53 = .ok (.aload_n 0, 1) := by decide +kernel
theorem dX10_pressLowest_54 : decode cX10_pressLowest 54 = .ok (.getfield 71, 3) := by decide +kernel
theorem dX10_pressLowest_57 : decode cX10_pressLowest 57 = .ok (.iload_n 1, 1) := by decide +kernel
theorem dX10_pressLowest_58 : decode cX10_pressLowest 58 = .ok (.iconst 1, 1) := by decide +kernel
theorem dX10_pressLowest_59 : decode cX10_pressLowest 59 = .ok (.iadd, 1) := by decide +kernel
theorem dX10_pressLowest_60 : decode cX10_pressLowest 60 = .ok (.iaload, 1) := by decide +kernel
theorem dX10_pressLowest_61 : decode cX10_pressLowest 61 = .ok (.iastore, 1) := by decide +kernel
theorem dX10_pressLowest_62 : decode cX10_pressLowest 62 = .ok (.iinc 1 1, 3) := by decide +kernel
theorem dX10_pressLowest_65 : decode cX10_pressLowest 65 = .ok (.goto (-41), 3) := by decide +kernel
theorem dX10_pressLowest_68 : decode cX10_pressLowest 68 = .ok (.aload_n 0, 1) := by decide +kernel
theorem dX10_pressLowest_69 : decode cX10_pressLowest 69 = .ok (.dup, 1) := by decide +kernel
theorem dX10_pressLowest_70 : decode cX10_pressLowest 70 = .ok (.getfield 173, 3) := by decide +kernel
theorem dX10_pressLowest_73 : decode cX10_pressLowest 73 = .ok (.iconst 1, 1) := by decide +kernel
theorem dX10_pressLowest_74 : decode cX10_pressLowest 74 = .ok (.isub, 1) := by decide +kernel
theorem dX10_pressLowest_75 : decode cX10_pressLowest 75 = .ok (.putfield 173, 3) := by decide +kernel
theorem dX10_pressLowest_78 : decode cX10_pressLowest 78 = .ok (.return_, 1) := by decide +kernel
theorem dX10_goLook_0 : decode cX10_goLook 0 = .ok (.aload_n 0, 1) := by decide +kernel
theorem dX10_goLook_1 : decode cX10_goLook 1 = .ok (.aload_n 0, 1) := by decide +kernel
theorem dX10_goLook_2 : decode cX10_goLook 2 = .ok (.getfield 263, 3) := by decide +kernel
theorem dX10_goLook_5 : decode cX10_goLook 5 = .ok (.iload_n 1, 1) := by decide +kernel
theorem dX10_goLook_6 : decode cX10_goLook 6 = .ok (.iload_n 2, 1) := by decide +kernel
theorem dX10_goLook_7 : decode cX10_goLook 7 = .ok (.aload_n 0, 1) := by decide +kernel
theorem dX10_goLook_8 : decode cX10_goLook 8 = .ok (.getfield 173, 3) := by decide +kernel
theorem dX10_goLook_11 : decode cX10_goLook 11 = .ok (.invokevirtual 259, 3) := by decide +kernel
theorem dX10_goLook_14 : decode cX10_goLook 14 = .ok (.istore_n 3, 1) := by decide +kernel
theorem dX10_goLook_15 : decode cX10_goLook 15 = .ok (.iload_n 3, 1) := by decide +kernel
theorem dX10_goLook_16 : decode cX10_goLook 16 = .ok (.ifCond .ne 5, 3) := by decide +kernel
theorem dX10_goLook_19 : decode cX10_goLook 19 = .ok (.iconst 0, 1) := by decide +kernel
theorem dX10_goLook_20 : decode cX10_goLook 20 = .ok (.ireturn, 1) := by decide +kernel
theorem dX10_goLook_21 : decode cX10_goLook 21 = .ok (.aload_n 0, 1) := by decide +kernel
theorem dX10_goLook_22 : decode cX10_goLook 22 = .ok (.getfield 173, 3) := by decide +kernel
theorem dX10_goLook_25 : decode cX10_goLook 25 = .ok (.ifCond .le 47, 3) := by decide +kernel
theorem dX10_goLook_28 : decode cX10_goLook 28 = .ok (.aload_n 0, 1) := by decide +kernel
theorem dX10_goLook_29 : decode cX10_goLook 29 = .ok (.getfield 68, 3) := by decide +kernel
theorem dX10_goLook_32 : decode cX10_goLook 32 = .ok (.aload_n 0, 1) := by decide +kernel
theorem dX10_goLook_33 : decode cX10_goLook 33 = .ok (.getfield 173, 3) := by decide +kernel
theorem dX10_goLook_36 : decode cX10_goLook 36 = .ok (.iconst 1, 1) := by decide +kernel
theorem dX10_goLook_37 : decode cX10_goLook 37 = .ok (.isub, 1) := by decide +kernel
theorem dX10_goLook_38 : decode cX10_goLook 38 = .ok (.iaload, 1) := by decide +kernel
theorem dX10_goLook_39 : decode cX10_goLook 39 = .ok (.iload_n 1, 1) := by decide +kernel
theorem dX10_goLook_40 : decode cX10_goLook 40 = .ok (.if_icmp .ne 32, 3) := by decide +kernel
theorem dX10_goLook_43 : decode cX10_goLook 43 = .ok (.aload_n 0, 1) := by decide +kernel
theorem dX10_goLook_44 : decode cX10_goLook 44 = .ok (.getfield 71, 3) := by decide +kernel
theorem dX10_goLook_47 : decode cX10_goLook 47 = .ok (.aload_n 0, 1) := by decide +kernel
theorem dX10_goLook_48 : decode cX10_goLook 48 = .ok (.getfield 173, 3) := by decide +kernel
theorem dX10_goLook_51 : decode cX10_goLook 51 = .ok (.iconst 1, 1) := by decide +kernel
theorem dX10_goLook_52 : decode cX10_goLook 52 = .ok (.isub, 1) := by decide +kernel
theorem dX10_goLook_53 : decode cX10_goLook 53 = .ok (.aload_n 0, 1) := by decide +kernel
theorem dX10_goLook_54 : decode cX10_goLook 54 = .ok (.getfield 71, 3) := by decide +kernel
theorem dX10_goLook_57 : decode cX10_goLook 57 = .ok (.aload_n 0, 1) := by decide +kernel
theorem dX10_goLook_58 : decode cX10_goLook 58 = .ok (.getfield 173, 3) := by decide +kernel
theorem dX10_goLook_61 : decode cX10_goLook 61 = .ok (.iconst 1, 1) := by decide +kernel
theorem dX10_goLook_62 : decode cX10_goLook 62 = .ok (.isub, 1) := by decide +kernel
theorem dX10_goLook_63 : decode cX10_goLook 63 = .ok (.iaload, 1) := by decide +kernel
theorem dX10_goLook_64 : decode cX10_goLook 64 = .ok (.iload_n 3, 1) := by decide +kernel
theorem dX10_goLook_65 : decode cX10_goLook 65 = .ok (.iadd, 1) := by decide +kernel
theorem dX10_goLook_66 : decode cX10_goLook 66 = .ok (.invokestatic 266, 3) := by decide +kernel
theorem dX10_goLook_69 : decode cX10_goLook 69 = .ok (.iastore, 1) := by decide +kernel
theorem dX10_goLook_70 : decode cX10_goLook 70 = .ok (.iload_n 3, 1) := by decide +kernel
theorem dX10_goLook_71 : decode cX10_goLook 71 = .ok (.ireturn, 1) := by decide +kernel
theorem dX10_goLook_72 : decode cX10_goLook 72 = .ok (.aload_n 0, 1) := by decide +kernel
theorem dX10_goLook_73 : decode cX10_goLook 73 = .ok (.getfield 173, 3) := by decide +kernel
theorem dX10_goLook_76 : decode cX10_goLook 76 = .ok (.bipush 12, 2) := by decide +kernel
theorem dX10_goLook_78 : decode cX10_goLook 78 = .ok (.if_icmp .ne 7, 3) := by decide +kernel
theorem dX10_goLook_81 : decode cX10_goLook 81 = .ok (.aload_n 0, 1) := by decide +kernel
theorem dX10_goLook_82 : decode cX10_goLook 82 = .ok (.invokevirtual 269, 3) := by decide +kernel
theorem dX10_goLook_85 : decode cX10_goLook 85 = .ok (.aload_n 0, 1) := by decide +kernel
theorem dX10_goLook_86 : decode cX10_goLook 86 = .ok (.getfield 68, 3) := by decide +kernel
theorem dX10_goLook_89 : decode cX10_goLook 89 = .ok (.aload_n 0, 1) := by decide +kernel
theorem dX10_goLook_90 : decode cX10_goLook 90 = .ok (.getfield 173, 3) := by decide +kernel
theorem dX10_goLook_93 : decode cX10_goLook 93 = .ok (.iload_n 1, 1) := by decide +kernel
theorem dX10_goLook_94 : decode cX10_goLook 94 = .ok (.iastore, 1) := by decide +kernel
theorem dX10_goLook_95 : decode cX10_goLook 95 = .ok (.aload_n 0, 1) := by decide +kernel
theorem dX10_goLook_96 : decode cX10_goLook 96 = .ok (.getfield 71, 3) := by decide +kernel
theorem dX10_goLook_99 : decode cX10_goLook 99 = .ok (.aload_n 0, 1) := by decide +kernel
theorem dX10_goLook_100 : decode cX10_goLook 100 = .ok (.getfield 173, 3) := by decide +kernel
theorem dX10_goLook_103 : decode cX10_goLook 103 = .ok (.iload_n 3, 1) := by decide +kernel
theorem dX10_goLook_104 : decode cX10_goLook 104 = .ok (.iastore, 1) := by decide +kernel
theorem dX10_goLook_105 : decode cX10_goLook 105 = .ok (.aload_n 0, 1) := by decide +kernel
theorem dX10_goLook_106 : decode cX10_goLook 106 = .ok (.dup, 1) := by decide +kernel
theorem dX10_goLook_107 : decode cX10_goLook 107 = .ok (.getfield 173, 3) := by decide +kernel
theorem dX10_goLook_110 : decode cX10_goLook 110 = .ok (.iconst 1, 1) := by decide +kernel
theorem dX10_goLook_111 : decode cX10_goLook 111 = .ok (.iadd, 1) := by decide +kernel
theorem dX10_goLook_112 : decode cX10_goLook 112 = .ok (.putfield 173, 3) := by decide +kernel
theorem dX10_goLook_115 : decode cX10_goLook 115 = .ok (.iload_n 3, 1) := by decide +kernel
theorem dX10_goLook_116 : decode cX10_goLook 116 = .ok (.ireturn, 1) := by decide +kernel
theorem dX10_thickerBy_0 : decode cX10_thickerBy 0 = .ok (.aload_n 0, 1) := by decide +kernel
theorem dX10_thickerBy_1 : decode cX10_thickerBy 1 = .ok (.getfield 173, 3) := by decide +kernel
theorem dX10_thickerBy_4 : decode cX10_thickerBy 4 = .ok (.ifCond .le 32, 3) := by decide +kernel
theorem dX10_thickerBy_7 : decode cX10_thickerBy 7 = .ok (.aload_n 0, 1) := by decide +kernel
theorem dX10_thickerBy_8 : decode cX10_thickerBy 8 = .ok (.getfield 68, 3) := by decide +kernel
theorem dX10_thickerBy_11 : decode cX10_thickerBy 11 = .ok (.aload_n 0, 1) := by decide +kernel
theorem dX10_thickerBy_12 : decode cX10_thickerBy 12 = .ok (.getfield 173, 3) := by decide +kernel
theorem dX10_thickerBy_15 : decode cX10_thickerBy 15 = .ok (.iconst 1, 1) := by decide +kernel
theorem dX10_thickerBy_16 : decode cX10_thickerBy 16 = .ok (.isub, 1) := by decide +kernel
theorem dX10_thickerBy_17 : decode cX10_thickerBy 17 = .ok (.iaload, 1) := by decide +kernel
theorem dX10_thickerBy_18 : decode cX10_thickerBy 18 = .ok (.iload_n 1, 1) := by decide +kernel
theorem dX10_thickerBy_19 : decode cX10_thickerBy 19 = .ok (.if_icmp .ne 17, 3) := by decide +kernel
theorem dX10_thickerBy_22 : decode cX10_thickerBy 22 = .ok (.aload_n 0, 1) := by decide +kernel
theorem dX10_thickerBy_23 : decode cX10_thickerBy 23 = .ok (.getfield 71, 3) := by decide +kernel
theorem dX10_thickerBy_26 : decode cX10_thickerBy 26 = .ok (.aload_n 0, 1) := by decide +kernel
theorem dX10_thickerBy_27 : decode cX10_thickerBy 27 = .ok (.getfield 173, 3) := by decide +kernel
theorem dX10_thickerBy_30 : decode cX10_thickerBy 30 = .ok (.iconst 1, 1) := by decide +kernel
theorem dX10_thickerBy_31 : decode cX10_thickerBy 31 = .ok (.isub, 1) := by decide +kernel
theorem dX10_thickerBy_32 : decode cX10_thickerBy 32 = .ok (.iaload, 1) := by decide +kernel
theorem dX10_thickerBy_33 : decode cX10_thickerBy 33 = .ok (.goto 4, 3) := by decide +kernel
theorem dX10_thickerBy_36 : decode cX10_thickerBy 36 = .ok (.iconst 0, 1) := by decide +kernel
theorem dX10_thickerBy_37 : decode cX10_thickerBy 37 = .ok (.istore_n 3, 1) := by decide +kernel
theorem dX10_thickerBy_38 : decode cX10_thickerBy 38 = .ok (.aload_n 0, 1) := by decide +kernel
theorem dX10_thickerBy_39 : decode cX10_thickerBy 39 = .ok (.iload_n 1, 1) := by decide +kernel
theorem dX10_thickerBy_40 : decode cX10_thickerBy 40 = .ok (.iload_n 2, 1) := by decide +kernel
theorem dX10_thickerBy_41 : decode cX10_thickerBy 41 = .ok (.invokevirtual 272, 3) := by decide +kernel
theorem dX10_thickerBy_44 : decode cX10_thickerBy 44 = .ok (.ifCond .ne 7, 3) := by decide +kernel
theorem dX10_thickerBy_47 : decode cX10_thickerBy 47 = .ok (.iconst 0, 1) := by decide +kernel
theorem dX10_thickerBy_48 : decode cX10_thickerBy 48 = .ok (.goto 16, 3) := by decide +kernel
theorem dX10_thickerBy_51 : decode cX10_thickerBy 51 = .ok (.aload_n 0, 1) := by decide +kernel
theorem dX10_thickerBy_52 : decode cX10_thickerBy 52 = .ok (.getfield 71, 3) := by decide +kernel
theorem dX10_thickerBy_55 : decode cX10_thickerBy 55 = .ok (.aload_n 0, 1) := by decide +kernel
theorem dX10_thickerBy_56 : decode cX10_thickerBy 56 = .ok (.getfield 173, 3) := by decide +kernel
theorem dX10_thickerBy_59 : decode cX10_thickerBy 59 = .ok (.iconst 1, 1) := by decide +kernel
theorem dX10_thickerBy_60 : decode cX10_thickerBy 60 = .ok (.isub, 1) := by decide +kernel
theorem dX10_thickerBy_61 : decode cX10_thickerBy 61 = .ok (.iaload, 1) := by decide +kernel
theorem dX10_thickerBy_62 : decode cX10_thickerBy 62 = .ok (.iload_n 3, 1) := by decide +kernel
theorem dX10_thickerBy_63 : decode cX10_thickerBy 63 = .ok (.isub, 1) := by decide +kernel
theorem dX10_thickerBy_64 : decode cX10_thickerBy 64 = .ok (.ireturn, 1) := by decide +kernel
theorem dX10_allThick_0 : decode cX10_allThick 0 = .ok (.iconst 0, 1) := by decide +kernel
theorem dX10_allThick_1 : decode cX10_allThick 1 = .ok (.istore_n 1, 1) := by decide +kernel
theorem dX10_allThick_2 : decode cX10_allThick 2 = .ok (.iconst 0, 1) := by decide +kernel
theorem dX10_allThick_3 : decode cX10_allThick 3 = .ok (.istore_n 2, 1) := by decide +kernel
theorem dX10_allThick_4 : decode cX10_allThick 4 = .ok (.iload_n 2, 1) := by decide +kernel
theorem dX10_allThick_5 : decode cX10_allThick 5 = .ok (.aload_n 0, 1) := by decide +kernel
theorem dX10_allThick_6 : decode cX10_allThick 6 = .ok (.getfield 173, 3) := by decide +kernel
theorem dX10_allThick_9 : decode cX10_allThick 9 = .ok (.if_icmp .ge 18, 3) := by decide +kernel
theorem dX10_allThick_12 : decode cX10_allThick 12 = .ok (.iload_n 1, 1) := by decide +kernel
theorem dX10_allThick_13 : decode cX10_allThick 13 = .ok (.aload_n 0, 1) := by decide +kernel
theorem dX10_allThick_14 : decode cX10_allThick 14 = .ok (.getfield 71, 3) := by decide +kernel
theorem dX10_allThick_17 : decode cX10_allThick 17 = .ok (.iload_n 2, 1) := by decide +kernel
theorem dX10_allThick_18 : decode cX10_allThick 18 = .ok (.iaload, 1) := by decide +kernel
theorem dX10_allThick_19 : decode cX10_allThick 19 = .ok (.iadd, 1) := by decide +kernel
theorem dX10_allThick_20 : decode cX10_allThick 20 = .ok (.istore_n 1, 1) := by decide +kernel
theorem dX10_allThick_21 : decode cX10_allThick 21 = .ok (.iinc 2 1, 3) := by decide +kernel
theorem dX10_allThick_24 : decode cX10_allThick 24 = .ok (.goto (-20), 3) := by decide +kernel
theorem dX10_allThick_27 : decode cX10_allThick 27 = .ok (.iload_n 1, 1) := by decide +kernel
theorem dX10_allThick_28 : decode cX10_allThick 28 = .ok (.ireturn, 1) := by decide +kernel
theorem dX10_thickBy_0 : decode cX10_thickBy 0 = .ok (.iconst 0, 1) := by decide +kernel
theorem dX10_thickBy_1 : decode cX10_thickBy 1 = .ok (.istore_n 2, 1) := by decide +kernel
theorem dX10_thickBy_2 : decode cX10_thickBy 2 = .ok (.iconst 0, 1) := by decide +kernel
theorem dX10_thickBy_3 : decode cX10_thickBy 3 = .ok (.istore_n 3, 1) := by decide +kernel
theorem dX10_thickBy_4 : decode cX10_thickBy 4 = .ok (.iload_n 3, 1) := by decide +kernel
theorem dX10_thickBy_5 : decode cX10_thickBy 5 = .ok (.aload_n 0, 1) := by decide +kernel
theorem dX10_thickBy_6 : decode cX10_thickBy 6 = .ok (.getfield 173, 3) := by decide +kernel
theorem dX10_thickBy_9 : decode cX10_thickBy 9 = .ok (.if_icmp .ge 28, 3) := by decide +kernel
theorem dX10_thickBy_12 : decode cX10_thickBy 12 = .ok (.aload_n 0, 1) := by decide +kernel
theorem dX10_thickBy_13 : decode cX10_thickBy 13 = .ok (.getfield 68, 3) := by decide +kernel
theorem dX10_thickBy_16 : decode cX10_thickBy 16 = .ok (.iload_n 3, 1) := by decide +kernel
theorem dX10_thickBy_17 : decode cX10_thickBy 17 = .ok (.iaload, 1) := by decide +kernel
theorem dX10_thickBy_18 : decode cX10_thickBy 18 = .ok (.iload_n 1, 1) := by decide +kernel
theorem dX10_thickBy_19 : decode cX10_thickBy 19 = .ok (.if_icmp .ne 12, 3) := by decide +kernel
theorem dX10_thickBy_22 : decode cX10_thickBy 22 = .ok (.iload_n 2, 1) := by decide +kernel
theorem dX10_thickBy_23 : decode cX10_thickBy 23 = .ok (.aload_n 0, 1) := by decide +kernel
theorem dX10_thickBy_24 : decode cX10_thickBy 24 = .ok (.getfield 71, 3) := by decide +kernel
theorem dX10_thickBy_27 : decode cX10_thickBy 27 = .ok (.iload_n 3, 1) := by decide +kernel
theorem dX10_thickBy_28 : decode cX10_thickBy 28 = .ok (.iaload, 1) := by decide +kernel
theorem dX10_thickBy_29 : decode cX10_thickBy 29 = .ok (.iadd, 1) := by decide +kernel
theorem dX10_thickBy_30 : decode cX10_thickBy 30 = .ok (.istore_n 2, 1) := by decide +kernel
theorem dX10_thickBy_31 : decode cX10_thickBy 31 = .ok (.iinc 3 1, 3) := by decide +kernel
theorem dX10_thickBy_34 : decode cX10_thickBy 34 = .ok (.goto (-30), 3) := by decide +kernel
theorem dX10_thickBy_37 : decode cX10_thickBy 37 = .ok (.iload_n 2, 1) := by decide +kernel
theorem dX10_thickBy_38 : decode cX10_thickBy 38 = .ok (.ireturn, 1) := by decide +kernel
theorem dX10_readNow_0 : decode cX10_readNow 0 = .ok (.iconst 0, 1) := by decide +kernel
theorem dX10_readNow_1 : decode cX10_readNow 1 = .ok (.istore_n 1, 1) := by decide +kernel
theorem dX10_readNow_2 : decode cX10_readNow 2 = .ok (.iconst 0, 1) := by decide +kernel
theorem dX10_readNow_3 : decode cX10_readNow 3 = .ok (.istore_n 2, 1) := by decide +kernel
theorem dX10_readNow_4 : decode cX10_readNow 4 = .ok (.iload_n 2, 1) := by decide +kernel
theorem dX10_readNow_5 : decode cX10_readNow 5 = .ok (.aload_n 0, 1) := by decide +kernel
theorem dX10_readNow_6 : decode cX10_readNow 6 = .ok (.getfield 173, 3) := by decide +kernel
theorem dX10_readNow_9 : decode cX10_readNow 9 = .ok (.if_icmp .ge 20, 3) := by decide +kernel
theorem dX10_readNow_12 : decode cX10_readNow 12 = .ok (.iload_n 1, 1) := by decide +kernel
theorem dX10_readNow_13 : decode cX10_readNow 13 = .ok (.iconst 1, 1) := by decide +kernel
theorem dX10_readNow_14 : decode cX10_readNow 14 = .ok (.aload_n 0, 1) := by decide +kernel
theorem dX10_readNow_15 : decode cX10_readNow 15 = .ok (.getfield 68, 3) := by decide +kernel
theorem dX10_readNow_18 : decode cX10_readNow 18 = .ok (.iload_n 2, 1) := by decide +kernel
theorem dX10_readNow_19 : decode cX10_readNow 19 = .ok (.iaload, 1) := by decide +kernel
theorem dX10_readNow_20 : decode cX10_readNow 20 = .ok (.ishl, 1) := by decide +kernel
theorem dX10_readNow_21 : decode cX10_readNow 21 = .ok (.ior, 1) := by decide +kernel
theorem dX10_readNow_22 : decode cX10_readNow 22 = .ok (.istore_n 1, 1) := by decide +kernel
theorem dX10_readNow_23 : decode cX10_readNow 23 = .ok (.iinc 2 1, 3) := by decide +kernel
theorem dX10_readNow_26 : decode cX10_readNow 26 = .ok (.goto (-22), 3) := by decide +kernel
theorem dX10_readNow_29 : decode cX10_readNow 29 = .ok (.iload_n 1, 1) := by decide +kernel
theorem dX10_readNow_30 : decode cX10_readNow 30 = .ok (.ireturn, 1) := by decide +kernel
theorem dX10_mostNow_0 : decode cX10_mostNow 0 = .ok (.bipush (-2), 2) := by decide +kernel
theorem dX10_mostNow_2 : decode cX10_mostNow 2 = .ok (.istore_n 1, 1) := by decide +kernel
theorem dX10_mostNow_3 : decode cX10_mostNow 3 = .ok (.iconst 0, 1) := by decide +kernel
theorem dX10_mostNow_4 : decode cX10_mostNow 4 = .ok (.istore_n 2, 1) := by decide +kernel
theorem dX10_mostNow_5 : decode cX10_mostNow 5 = .ok (.iload_n 2, 1) := by decide +kernel
theorem dX10_mostNow_6 : decode cX10_mostNow 6 = .ok (.bipush 6, 2) := by decide +kernel
theorem dX10_mostNow_8 : decode cX10_mostNow 8 = .ok (.if_icmp .ge 36, 3) := by decide +kernel
theorem dX10_mostNow_11 : decode cX10_mostNow 11 = .ok (.aload_n 0, 1) := by decide +kernel
theorem dX10_mostNow_12 : decode cX10_mostNow 12 = .ok (.iload_n 2, 1) := by decide +kernel
theorem dX10_mostNow_13 : decode cX10_mostNow 13 = .ok (.invokevirtual 275, 3) := by decide +kernel
theorem dX10_mostNow_16 : decode cX10_mostNow 16 = .ok (.ifCond .le 22, 3) := by decide +kernel
theorem dX10_mostNow_19 : decode cX10_mostNow 19 = .ok (.iload_n 1, 1) := by decide +kernel
theorem dX10_mostNow_20 : decode cX10_mostNow 20 = .ok (.ifCond .lt 16, 3) := by decide +kernel
theorem dX10_mostNow_23 : decode cX10_mostNow 23 = .ok (.aload_n 0, 1) := by decide +kernel
theorem dX10_mostNow_24 : decode cX10_mostNow 24 = .ok (.iload_n 2, 1) := by decide +kernel
theorem dX10_mostNow_25 : decode cX10_mostNow 25 = .ok (.invokevirtual 275, 3) := by decide +kernel
theorem dX10_mostNow_28 : decode cX10_mostNow 28 = .ok (.aload_n 0, 1) := by decide +kernel
theorem dX10_mostNow_29 : decode cX10_mostNow 29 = .ok (.iload_n 1, 1) := by decide +kernel
theorem dX10_mostNow_30 : decode cX10_mostNow 30 = .ok (.invokevirtual 275, 3) := by decide +kernel
theorem dX10_mostNow_33 : decode cX10_mostNow 33 = .ok (.if_icmp .le 5, 3) := by decide +kernel
theorem dX10_mostNow_36 : decode cX10_mostNow 36 = .ok (.iload_n 2, 1) := by decide +kernel
theorem dX10_mostNow_37 : decode cX10_mostNow 37 = .ok (.istore_n 1, 1) := by decide +kernel
theorem dX10_mostNow_38 : decode cX10_mostNow 38 = .ok (.iinc 2 1, 3) := by decide +kernel
theorem dX10_mostNow_41 : decode cX10_mostNow 41 = .ok (.goto (-36), 3) := by decide +kernel
theorem dX10_mostNow_44 : decode cX10_mostNow 44 = .ok (.iload_n 1, 1) := by decide +kernel
theorem dX10_mostNow_45 : decode cX10_mostNow 45 = .ok (.ireturn, 1) := by decide +kernel
theorem dX10_rowFault_0 : decode cX10_rowFault 0 = .ok (.aload_n 0, 1) := by decide +kernel
theorem dX10_rowFault_1 : decode cX10_rowFault 1 = .ok (.getfield 105, 3) := by decide +kernel
theorem dX10_rowFault_4 : decode cX10_rowFault 4 = .ok (.iload_n 1, 1) := by decide +kernel
theorem dX10_rowFault_5 : decode cX10_rowFault 5 = .ok (.iaload, 1) := by decide +kernel
theorem dX10_rowFault_6 : decode cX10_rowFault 6 = .ok (.iconst (-1), 1) := by decide +kernel
theorem dX10_rowFault_7 : decode cX10_rowFault 7 = .ok (.if_icmp .ne 8, 3) := by decide +kernel
theorem dX10_rowFault_10 : decode cX10_rowFault 10 = .ok (.bipush (-11), 2) := by decide +kernel
theorem dX10_rowFault_12 : decode cX10_rowFault 12 = .ok (.goto 20, 3) := by decide +kernel
theorem dX10_rowFault_15 : decode cX10_rowFault 15 = .ok (.aload_n 0, 1) := by decide +kernel
theorem dX10_rowFault_16 : decode cX10_rowFault 16 = .ok (.getfield 105, 3) := by decide +kernel
theorem dX10_rowFault_19 : decode cX10_rowFault 19 = .ok (.iload_n 1, 1) := by decide +kernel
theorem dX10_rowFault_20 : decode cX10_rowFault 20 = .ok (.iaload, 1) := by decide +kernel
theorem dX10_rowFault_21 : decode cX10_rowFault 21 = .ok (.bipush (-2), 2) := by decide +kernel
theorem dX10_rowFault_23 : decode cX10_rowFault 23 = .ok (.if_icmp .ne 7, 3) := by decide +kernel
theorem dX10_rowFault_26 : decode cX10_rowFault 26 = .ok (.iconst 0, 1) := by decide +kernel
theorem dX10_rowFault_27 : decode cX10_rowFault 27 = .ok (.goto 5, 3) := by decide +kernel
theorem dX10_rowFault_30 : decode cX10_rowFault 30 = .ok (.bipush (-12), 2) := by decide +kernel
theorem dX10_rowFault_32 : decode cX10_rowFault 32 = .ok (.ireturn, 1) := by decide +kernel
theorem dX10_at_0 : decode cX10_at 0 = .ok (.aload_n 0, 1) := by decide +kernel
theorem dX10_at_1 : decode cX10_at 1 = .ok (.getfield 111, 3) := by decide +kernel
theorem dX10_at_4 : decode cX10_at 4 = .ok (.bipush 60, 2) := by decide +kernel
theorem dX10_at_6 : decode cX10_at 6 = .ok (.iload_n 1, 1) := by decide +kernel
theorem dX10_at_7 : decode cX10_at 7 = .ok (.imul, 1) := by decide +kernel
theorem dX10_at_8 : decode cX10_at 8 = .ok (.iload_n 2, 1) := by decide +kernel
theorem dX10_at_9 : decode cX10_at 9 = .ok (.iadd, 1) := by decide +kernel
theorem dX10_at_10 : decode cX10_at 10 = .ok (.laload, 1) := by decide +kernel
theorem dX10_at_11 : decode cX10_at 11 = .ok (.l2i, 1) := by decide +kernel
theorem dX10_at_12 : decode cX10_at 12 = .ok (.ireturn, 1) := by decide +kernel
theorem dX10_goBook_0 : decode cX10_goBook 0 = .ok (.aload_n 0, 1) := by decide +kernel
theorem dX10_goBook_1 : decode cX10_goBook 1 = .ok (.iload_n 3, 1) := by decide +kernel
theorem dX10_goBook_2 : decode cX10_goBook 2 = .ok (.invokevirtual 169, 3) := by decide +kernel
theorem dX10_goBook_5 : decode cX10_goBook 5 = .ok (.aload_n 0, 1) := by decide +kernel
theorem dX10_goBook_6 : decode cX10_goBook 6 = .ok (.iconst 0, 1) := by decide +kernel
theorem dX10_goBook_7 : decode cX10_goBook 7 = .ok (.putfield 278, 3) := by decide +kernel
theorem dX10_goBook_10 : decode cX10_goBook 10 = .ok (.iconst 0, 1) := by decide +kernel
theorem dX10_goBook_11 : decode cX10_goBook 11 = .ok (.istore 4, 2) := by decide +kernel
theorem dX10_goBook_13 : decode cX10_goBook 13 = .ok (.iload 4, 2) := by decide +kernel
theorem dX10_goBook_15 : decode cX10_goBook 15 = .ok (.iload_n 2, 1) := by decide +kernel
theorem dX10_goBook_16 : decode cX10_goBook 16 = .ok (.if_icmp .ge 75, 3) := by decide +kernel
theorem dX10_goBook_19 : decode cX10_goBook 19 = .ok (.iload 4, 2) := by decide +kernel
theorem dX10_goBook_21 : decode cX10_goBook 21 = .ok (.aload_n 0, 1) := by decide +kernel
theorem dX10_goBook_22 : decode cX10_goBook 22 = .ok (.getfield 108, 3) := by decide +kernel
theorem dX10_goBook_25 : decode cX10_goBook 25 = .ok (.iload_n 1, 1) := by decide +kernel
theorem dX10_goBook_26 : decode cX10_goBook 26 = .ok (.iaload, 1) := by decide +kernel
theorem dX10_goBook_27 : decode cX10_goBook 27 = .ok (.if_icmp .ge 64, 3) := by decide +kernel
theorem dX10_goBook_30 : decode cX10_goBook 30 = .ok (.aload_n 0, 1) := by decide +kernel
theorem dX10_goBook_31 : decode cX10_goBook 31 = .ok (.iload_n 1, 1) := by decide +kernel
theorem dX10_goBook_32 : decode cX10_goBook 32 = .ok (.iload 4, 2) := by decide +kernel
theorem dX10_goBook_34 : decode cX10_goBook 34 = .ok (.invokevirtual 281, 3) := by decide +kernel
theorem dX10_goBook_37 : decode cX10_goBook 37 = .ok (.iconst 0, 1) := by decide +kernel
theorem dX10_goBook_38 : decode cX10_goBook 38 = .ok (.bipush 65, 2) := by decide +kernel
theorem dX10_goBook_40 : decode cX10_goBook 40 = .ok (.invokestatic 124, 3) := by decide +kernel
theorem dX10_goBook_43 : decode cX10_goBook 43 = .ok (.ifCond .eq 48, 3) := by decide +kernel
theorem dX10_goBook_46 : decode cX10_goBook 46 = .ok (.aload_n 0, 1) := by decide +kernel
theorem dX10_goBook_47 : decode cX10_goBook 47 = .ok (.aload_n 0, 1) := by decide +kernel
theorem dX10_goBook_48 : decode cX10_goBook 48 = .ok (.aload_n 0, 1) := by decide +kernel
theorem dX10_goBook_49 : decode cX10_goBook 49 = .ok (.iload_n 1, 1) := by decide +kernel
theorem dX10_goBook_50 : decode cX10_goBook 50 = .ok (.iload 4, 2) := by decide +kernel
theorem dX10_goBook_52 : decode cX10_goBook 52 = .ok (.invokevirtual 281, 3) := by decide +kernel
theorem dX10_goBook_55 : decode cX10_goBook 55 = .ok (.invokevirtual 253, 3) := by decide +kernel
theorem dX10_goBook_58 : decode cX10_goBook 58 = .ok (.aload_n 0, 1) := by decide +kernel
theorem dX10_goBook_59 : decode cX10_goBook 59 = .ok (.aload_n 0, 1) := by decide +kernel
theorem dX10_goBook_60 : decode cX10_goBook 60 = .ok (.iload_n 1, 1) := by decide +kernel
theorem dX10_goBook_61 : decode cX10_goBook 61 = .ok (.iload 4, 2) := by decide +kernel
theorem dX10_goBook_63 : decode cX10_goBook 63 = .ok (.invokevirtual 281, 3) := by decide +kernel
theorem dX10_goBook_66 : decode cX10_goBook 66 = .ok (.invokevirtual 256, 3) := by decide +kernel
theorem dX10_goBook_69 : decode cX10_goBook 69 = .ok (.invokevirtual 272, 3) := by decide +kernel
theorem dX10_goBook_72 : decode cX10_goBook 72 = .ok (.ifCond .ne 13, 3) := by decide +kernel
theorem dX10_goBook_75 : decode cX10_goBook 75 = .ok (.aload_n 0, 1) := by decide +kernel
theorem dX10_goBook_76 : decode cX10_goBook 76 = .ok (.dup, 1) := by decide +kernel
theorem dX10_goBook_77 : decode cX10_goBook 77 = .ok (.getfield 278, 3) := by decide +kernel
theorem dX10_goBook_80 : decode cX10_goBook 80 = .ok (.iconst 1, 1) := by decide +kernel
theorem dX10_goBook_81 : decode cX10_goBook 81 = .ok (.iadd, 1) := by decide +kernel
theorem dX10_goBook_82 : decode cX10_goBook 82 = .ok (.putfield 278, 3) := by decide +kernel
theorem dX10_goBook_85 : decode cX10_goBook 85 = .ok (.iinc 4 1, 3) := by decide +kernel
theorem dX10_goBook_88 : decode cX10_goBook 88 = .ok (.goto (-75), 3) := by decide +kernel
theorem dX10_goBook_91 : decode cX10_goBook 91 = .ok (.return_, 1) := by decide +kernel
theorem dX10_areMany_0 : decode cX10_areMany 0 = .ok (.iload_n 0, 1) := by decide +kernel
theorem dX10_areMany_1 : decode cX10_areMany 1 = .ok (.iconst 0, 1) := by decide +kernel
theorem dX10_areMany_2 : decode cX10_areMany 2 = .ok (.bipush 40, 2) := by decide +kernel
theorem dX10_areMany_4 : decode cX10_areMany 4 = .ok (.invokestatic 124, 3) := by decide +kernel
theorem dX10_areMany_7 : decode cX10_areMany 7 = .ok (.ireturn, 1) := by decide +kernel
theorem dX10_later_0 : decode cX10_later 0 = .ok (.iload_n 1, 1) := by decide +kernel
theorem dX10_later_1 : decode cX10_later 1 = .ok (.invokestatic 132, 3) := by decide +kernel
theorem dX10_later_4 : decode cX10_later 4 = .ok (.ifCond .eq 28, 3) := by decide +kernel
theorem dX10_later_7 : decode cX10_later 7 = .ok (.iload_n 2, 1) := by decide +kernel
theorem dX10_later_8 : decode cX10_later 8 = .ok (.invokestatic 284, 3) := by decide +kernel
theorem dX10_later_11 : decode cX10_later 11 = .ok (.ifCond .eq 21, 3) := by decide +kernel
theorem dX10_later_14 : decode cX10_later 14 = .ok (.aload_n 0, 1) := by decide +kernel
theorem dX10_later_15 : decode cX10_later 15 = .ok (.iload_n 3, 1) := by decide +kernel
theorem dX10_later_16 : decode cX10_later 16 = .ok (.invokevirtual 152, 3) := by decide +kernel
theorem dX10_later_19 : decode cX10_later 19 = .ok (.ifCond .eq 13, 3) := by decide +kernel
theorem dX10_later_22 : decode cX10_later 22 = .ok (.iload 4, 2) := by decide +kernel
theorem dX10_later_24 : decode cX10_later 24 = .ok (.iconst 0, 1) := by decide +kernel
theorem dX10_later_25 : decode cX10_later 25 = .ok (.iconst 4, 1) := by decide +kernel
theorem dX10_later_26 : decode cX10_later 26 = .ok (.invokestatic 124, 3) := by decide +kernel
theorem dX10_later_29 : decode cX10_later 29 = .ok (.ifCond .ne 5, 3) := by decide +kernel
theorem dX10_later_32 : decode cX10_later 32 = .ok (.iconst (-1), 1) := by decide +kernel
theorem dX10_later_33 : decode cX10_later 33 = .ok (.ireturn, 1) := by decide +kernel
theorem dX10_later_34 : decode cX10_later 34 = .ok (.aload_n 0, 1) := by decide +kernel
theorem dX10_later_35 : decode cX10_later 35 = .ok (.iload_n 1, 1) := by decide +kernel
theorem dX10_later_36 : decode cX10_later 36 = .ok (.invokevirtual 287, 3) := by decide +kernel
theorem dX10_later_39 : decode cX10_later 39 = .ok (.ifCond .ge 9, 3) := by decide +kernel
theorem dX10_later_42 : decode cX10_later 42 = .ok (.aload_n 0, 1) := by decide +kernel
theorem dX10_later_43 : decode cX10_later 43 = .ok (.iload_n 1, 1) := by decide +kernel
theorem dX10_later_44 : decode cX10_later 44 = .ok (.invokevirtual 287, 3) := by decide +kernel
theorem dX10_later_47 : decode cX10_later 47 = .ok (.ireturn, 1) := by decide +kernel
theorem dX10_later_48 : decode cX10_later 48 = .ok (.aload_n 0, 1) := by decide +kernel
theorem dX10_later_49 : decode cX10_later 49 = .ok (.iload_n 1, 1) := by decide +kernel
theorem dX10_later_50 : decode cX10_later 50 = .ok (.iload_n 2, 1) := by decide +kernel
theorem dX10_later_51 : decode cX10_later 51 = .ok (.iload_n 3, 1) := by decide +kernel
theorem dX10_later_52 : decode cX10_later 52 = .ok (.invokevirtual 290, 3) := by decide +kernel
theorem dX10_later_55 : decode cX10_later 55 = .ok (.iload 4, 2) := by decide +kernel
theorem dX10_later_57 : decode cX10_later 57 = .ok (.tableswitch 51 0 3 #[31, 36, 41, 46], 31) := by decide +kernel
theorem dX10_later_88 : decode cX10_later 88 = .ok (.aload_n 0, 1) := by decide +kernel
theorem dX10_later_89 : decode cX10_later 89 = .ok (.getfield 173, 3) := by decide +kernel
theorem dX10_later_92 : decode cX10_later 92 = .ok (.ireturn, 1) := by decide +kernel
theorem dX10_later_93 : decode cX10_later 93 = .ok (.aload_n 0, 1) := by decide +kernel
theorem dX10_later_94 : decode cX10_later 94 = .ok (.invokevirtual 176, 3) := by decide +kernel
theorem dX10_later_97 : decode cX10_later 97 = .ok (.ireturn, 1) := by decide +kernel
theorem dX10_later_98 : decode cX10_later 98 = .ok (.aload_n 0, 1) := by decide +kernel
theorem dX10_later_99 : decode cX10_later 99 = .ok (.invokevirtual 293, 3) := by decide +kernel
theorem dX10_later_102 : decode cX10_later 102 = .ok (.ireturn, 1) := by decide +kernel
theorem dX10_later_103 : decode cX10_later 103 = .ok (.aload_n 0, 1) := by decide +kernel
theorem dX10_later_104 : decode cX10_later 104 = .ok (.invokevirtual 296, 3) := by decide +kernel
theorem dX10_later_107 : decode cX10_later 107 = .ok (.ireturn, 1) := by decide +kernel
theorem dX10_later_108 : decode cX10_later 108 = .ok (.aload_n 0, 1) := by decide +kernel
theorem dX10_later_109 : decode cX10_later 109 = .ok (.getfield 278, 3) := by decide +kernel
theorem dX10_later_112 : decode cX10_later 112 = .ok (.ireturn, 1) := by decide +kernel
theorem dX10_fromAbove_0 : decode cX10_fromAbove 0 = .ok (.iconst 0, 1) := by decide +kernel
theorem dX10_fromAbove_1 : decode cX10_fromAbove 1 = .ok (.istore_n 2, 1) := by decide +kernel
theorem dX10_fromAbove_2 : decode cX10_fromAbove 2 = .ok (.aload_n 0, 1) := by decide +kernel
theorem dX10_fromAbove_3 : decode cX10_fromAbove 3 = .ok (.getfield 173, 3) := by decide +kernel
theorem dX10_fromAbove_6 : decode cX10_fromAbove 6 = .ok (.iconst 1, 1) := by decide +kernel
theorem dX10_fromAbove_7 : decode cX10_fromAbove 7 = .ok (.isub, 1) := by decide +kernel
theorem dX10_fromAbove_8 : decode cX10_fromAbove 8 = .ok (.istore_n 3, 1) := by decide +kernel
theorem dX10_fromAbove_9 : decode cX10_fromAbove 9 = .ok (.iload_n 3, 1) := by decide +kernel
theorem dX10_fromAbove_10 : decode cX10_fromAbove 10 = .ok (.ifCond .lt 52, 3) := by decide +kernel
theorem dX10_fromAbove_13 : decode cX10_fromAbove 13 = .ok (.iload_n 2, 1) := by decide +kernel
theorem dX10_fromAbove_14 : decode cX10_fromAbove 14 = .ok (.aload_n 0, 1) := by decide +kernel
theorem dX10_fromAbove_15 : decode cX10_fromAbove 15 = .ok (.getfield 68, 3) := by decide +kernel
theorem dX10_fromAbove_18 : decode cX10_fromAbove 18 = .ok (.iload_n 3, 1) := by decide +kernel
theorem dX10_fromAbove_19 : decode cX10_fromAbove 19 = .ok (.iaload, 1) := by decide +kernel
theorem dX10_fromAbove_20 : decode cX10_fromAbove 20 = .ok (.ishr, 1) := by decide +kernel
theorem dX10_fromAbove_21 : decode cX10_fromAbove 21 = .ok (.iconst 1, 1) := by decide +kernel
theorem dX10_fromAbove_22 : decode cX10_fromAbove 22 = .ok (.iand, 1) := by decide +kernel
theorem dX10_fromAbove_23 : decode cX10_fromAbove 23 = .ok (.iconst 1, 1) := by decide +kernel
theorem dX10_fromAbove_24 : decode cX10_fromAbove 24 = .ok (.if_icmp .ne 6, 3) := by decide +kernel
theorem dX10_fromAbove_27 : decode cX10_fromAbove 27 = .ok (.goto 29, 3) := by decide +kernel
theorem dX10_fromAbove_30 : decode cX10_fromAbove 30 = .ok (.iload_n 2, 1) := by decide +kernel
theorem dX10_fromAbove_31 : decode cX10_fromAbove 31 = .ok (.invokestatic 299, 3) := by decide +kernel
theorem dX10_fromAbove_34 : decode cX10_fromAbove 34 = .ok (.iload_n 1, 1) := by decide +kernel
theorem dX10_fromAbove_35 : decode cX10_fromAbove 35 = .ok (.if_icmp .ne 10, 3) := by decide +kernel
theorem dX10_fromAbove_38 : decode cX10_fromAbove 38 = .ok (.aload_n 0, 1) := by decide +kernel
theorem dX10_fromAbove_39 : decode cX10_fromAbove 39 = .ok (.getfield 68, 3) := by decide +kernel
theorem dX10_fromAbove_42 : decode cX10_fromAbove 42 = .ok (.iload_n 3, 1) := by decide +kernel
theorem dX10_fromAbove_43 : decode cX10_fromAbove 43 = .ok (.iaload, 1) := by decide +kernel
theorem dX10_fromAbove_44 : decode cX10_fromAbove 44 = .ok (.ireturn, 1) := by decide +kernel
theorem dX10_fromAbove_45 : decode cX10_fromAbove 45 = .ok (.iload_n 2, 1) := by decide +kernel
theorem dX10_fromAbove_46 : decode cX10_fromAbove 46 = .ok (.iconst 1, 1) := by decide +kernel
theorem dX10_fromAbove_47 : decode cX10_fromAbove 47 = .ok (.aload_n 0, 1) := by decide +kernel
theorem dX10_fromAbove_48 : decode cX10_fromAbove 48 = .ok (.getfield 68, 3) := by decide +kernel
theorem dX10_fromAbove_51 : decode cX10_fromAbove 51 = .ok (.iload_n 3, 1) := by decide +kernel
theorem dX10_fromAbove_52 : decode cX10_fromAbove 52 = .ok (.iaload, 1) := by decide +kernel
theorem dX10_fromAbove_53 : decode cX10_fromAbove 53 = .ok (.ishl, 1) := by decide +kernel
theorem dX10_fromAbove_54 : decode cX10_fromAbove 54 = .ok (.ior, 1) := by decide +kernel
theorem dX10_fromAbove_55 : decode cX10_fromAbove 55 = .ok (.istore_n 2, 1) := by decide +kernel
theorem dX10_fromAbove_56 : decode cX10_fromAbove 56 = .ok (.iinc 3 (-1), 3) := by decide +kernel
theorem dX10_fromAbove_59 : decode cX10_fromAbove 59 = .ok (.goto (-50), 3) := by decide +kernel
theorem dX10_fromAbove_62 : decode cX10_fromAbove 62 = .ok (.bipush (-2), 2) := by decide +kernel
theorem dX10_fromAbove_64 : decode cX10_fromAbove 64 = .ok (.ireturn, 1) := by decide +kernel
theorem dX10_laid_0 : decode cX10_laid 0 = .ok (.iload_n 1, 1) := by decide +kernel
theorem dX10_laid_1 : decode cX10_laid 1 = .ok (.invokestatic 132, 3) := by decide +kernel
theorem dX10_laid_4 : decode cX10_laid 4 = .ok (.ifCond .eq 32, 3) := by decide +kernel
theorem dX10_laid_7 : decode cX10_laid 7 = .ok (.iload_n 2, 1) := by decide +kernel
theorem dX10_laid_8 : decode cX10_laid 8 = .ok (.invokestatic 284, 3) := by decide +kernel
theorem dX10_laid_11 : decode cX10_laid 11 = .ok (.ifCond .eq 25, 3) := by decide +kernel
theorem dX10_laid_14 : decode cX10_laid 14 = .ok (.aload_n 0, 1) := by decide +kernel
theorem dX10_laid_15 : decode cX10_laid 15 = .ok (.iload_n 3, 1) := by decide +kernel
theorem dX10_laid_16 : decode cX10_laid 16 = .ok (.invokevirtual 152, 3) := by decide +kernel
theorem dX10_laid_19 : decode cX10_laid 19 = .ok (.ifCond .eq 17, 3) := by decide +kernel
theorem dX10_laid_22 : decode cX10_laid 22 = .ok (.iload 4, 2) := by decide +kernel
theorem dX10_laid_24 : decode cX10_laid 24 = .ok (.ifCond .lt 12, 3) := by decide +kernel
theorem dX10_laid_27 : decode cX10_laid 27 = .ok (.iload 4, 2) := by decide +kernel
theorem dX10_laid_29 : decode cX10_laid 29 = .ok (.bipush 10, 2) := by decide +kernel
theorem dX10_laid_31 : decode cX10_laid 31 = .ok (.irem, 1) := by decide +kernel
theorem dX10_laid_32 : decode cX10_laid 32 = .ok (.iconst 2, 1) := by decide +kernel
theorem dX10_laid_33 : decode cX10_laid 33 = .ok (.if_icmp .le 5, 3) := by decide +kernel
theorem dX10_laid_36 : decode cX10_laid 36 = .ok (.iconst (-1), 1) := by decide +kernel
theorem dX10_laid_37 : decode cX10_laid 37 = .ok (.ireturn, 1) := by decide +kernel
theorem dX10_laid_38 : decode cX10_laid 38 = .ok (.aload_n 0, 1) := by decide +kernel
theorem dX10_laid_39 : decode cX10_laid 39 = .ok (.iload_n 1, 1) := by decide +kernel
theorem dX10_laid_40 : decode cX10_laid 40 = .ok (.invokevirtual 287, 3) := by decide +kernel
theorem dX10_laid_43 : decode cX10_laid 43 = .ok (.ifCond .ge 9, 3) := by decide +kernel
theorem dX10_laid_46 : decode cX10_laid 46 = .ok (.aload_n 0, 1) := by decide +kernel
theorem dX10_laid_47 : decode cX10_laid 47 = .ok (.iload_n 1, 1) := by decide +kernel
theorem dX10_laid_48 : decode cX10_laid 48 = .ok (.invokevirtual 287, 3) := by decide +kernel
theorem dX10_laid_51 : decode cX10_laid 51 = .ok (.ireturn, 1) := by decide +kernel
theorem dX10_laid_52 : decode cX10_laid 52 = .ok (.aload_n 0, 1) := by decide +kernel
theorem dX10_laid_53 : decode cX10_laid 53 = .ok (.iload_n 1, 1) := by decide +kernel
theorem dX10_laid_54 : decode cX10_laid 54 = .ok (.iload_n 2, 1) := by decide +kernel
theorem dX10_laid_55 : decode cX10_laid 55 = .ok (.iload_n 3, 1) := by decide +kernel
theorem dX10_laid_56 : decode cX10_laid 56 = .ok (.invokevirtual 290, 3) := by decide +kernel
theorem dX10_laid_59 : decode cX10_laid 59 = .ok (.iload 4, 2) := by decide +kernel
theorem dX10_laid_61 : decode cX10_laid 61 = .ok (.bipush 10, 2) := by decide +kernel
theorem dX10_laid_63 : decode cX10_laid 63 = .ok (.irem, 1) := by decide +kernel
theorem dX10_laid_64 : decode cX10_laid 64 = .ok (.iconst 2, 1) := by decide +kernel
theorem dX10_laid_65 : decode cX10_laid 65 = .ok (.if_icmp .ne 13, 3) := by decide +kernel
theorem dX10_laid_68 : decode cX10_laid 68 = .ok (.aload_n 0, 1) := by decide +kernel
theorem dX10_laid_69 : decode cX10_laid 69 = .ok (.iload 4, 2) := by decide +kernel
theorem dX10_laid_71 : decode cX10_laid 71 = .ok (.bipush 10, 2) := by decide +kernel
theorem dX10_laid_73 : decode cX10_laid 73 = .ok (.idiv, 1) := by decide +kernel
theorem dX10_laid_74 : decode cX10_laid 74 = .ok (.invokevirtual 302, 3) := by decide +kernel
theorem dX10_laid_77 : decode cX10_laid 77 = .ok (.ireturn, 1) := by decide +kernel
theorem dX10_laid_78 : decode cX10_laid 78 = .ok (.iload 4, 2) := by decide +kernel
theorem dX10_laid_80 : decode cX10_laid 80 = .ok (.bipush 10, 2) := by decide +kernel
theorem dX10_laid_82 : decode cX10_laid 82 = .ok (.idiv, 1) := by decide +kernel
theorem dX10_laid_83 : decode cX10_laid 83 = .ok (.aload_n 0, 1) := by decide +kernel
theorem dX10_laid_84 : decode cX10_laid 84 = .ok (.getfield 173, 3) := by decide +kernel
theorem dX10_laid_87 : decode cX10_laid 87 = .ok (.if_icmp .lt 6, 3) := by decide +kernel
theorem dX10_laid_90 : decode cX10_laid 90 = .ok (.bipush (-2), 2) := by decide +kernel
theorem dX10_laid_92 : decode cX10_laid 92 = .ok (.ireturn, 1) := by decide +kernel
theorem dX10_laid_93 : decode cX10_laid 93 = .ok (.iload 4, 2) := by decide +kernel
theorem dX10_laid_95 : decode cX10_laid 95 = .ok (.bipush 10, 2) := by decide +kernel
theorem dX10_laid_97 : decode cX10_laid 97 = .ok (.irem, 1) := by decide +kernel
theorem dX10_laid_98 : decode cX10_laid 98 = .ok (.ifCond .ne 16, 3) := by decide +kernel
theorem dX10_laid_101 : decode cX10_laid 101 = .ok (.aload_n 0, 1) := by decide +kernel
theorem dX10_laid_102 : decode cX10_laid 102 = .ok (.getfield 68, 3) := by decide +kernel
theorem dX10_laid_105 : decode cX10_laid 105 = .ok (.iload 4, 2) := by decide +kernel
theorem dX10_laid_107 : decode cX10_laid 107 = .ok (.bipush 10, 2) := by decide +kernel
theorem dX10_laid_109 : decode cX10_laid 109 = .ok (.idiv, 1) := by decide +kernel
theorem dX10_laid_110 : decode cX10_laid 110 = .ok (.iaload, 1) := by decide +kernel
theorem dX10_laid_111 : decode cX10_laid 111 = .ok (.goto 13, 3) := by decide +kernel
theorem dX10_laid_114 : decode cX10_laid 114 = .ok (.aload_n 0, 1) := by decide +kernel
theorem dX10_laid_115 : decode cX10_laid 115 = .ok (.getfield 71, 3) := by decide +kernel
theorem dX10_laid_118 : decode cX10_laid 118 = .ok (.iload 4, 2) := by decide +kernel
theorem dX10_laid_120 : decode cX10_laid 120 = .ok (.bipush 10, 2) := by decide +kernel
theorem dX10_laid_122 : decode cX10_laid 122 = .ok (.idiv, 1) := by decide +kernel
theorem dX10_laid_123 : decode cX10_laid 123 = .ok (.iaload, 1) := by decide +kernel
theorem dX10_laid_124 : decode cX10_laid 124 = .ok (.ireturn, 1) := by decide +kernel
theorem dX10_goBreath_0 : decode cX10_goBreath 0 = .ok (.iload_n 1, 1) := by decide +kernel
theorem dX10_goBreath_1 : decode cX10_goBreath 1 = .ok (.istore_n 2, 1) := by decide +kernel
theorem dX10_goBreath_2 : decode cX10_goBreath 2 = .ok (.aload_n 0, 1) := by decide +kernel
theorem dX10_goBreath_3 : decode cX10_goBreath 3 = .ok (.getfield 173, 3) := by decide +kernel
theorem dX10_goBreath_6 : decode cX10_goBreath 6 = .ok (.ifCond .le 45, 3) := by decide +kernel
theorem dX10_goBreath_9 : decode cX10_goBreath 9 = .ok (.aload_n 0, 1) := by decide +kernel
theorem dX10_goBreath_10 : decode cX10_goBreath 10 = .ok (.getfield 71, 3) := by decide +kernel
theorem dX10_goBreath_13 : decode cX10_goBreath 13 = .ok (.aload_n 0, 1) := by decide +kernel
theorem dX10_goBreath_14 : decode cX10_goBreath 14 = .ok (.getfield 173, 3) := by decide +kernel
theorem dX10_goBreath_17 : decode cX10_goBreath 17 = .ok (.iconst 1, 1) := by decide +kernel
theorem dX10_goBreath_18 : decode cX10_goBreath 18 = .ok (.isub, 1) := by decide +kernel
theorem dX10_goBreath_19 : decode cX10_goBreath 19 = .ok (.iaload, 1) := by decide +kernel
theorem dX10_goBreath_20 : decode cX10_goBreath 20 = .ok (.iload_n 2, 1) := by decide +kernel
theorem dX10_goBreath_21 : decode cX10_goBreath 21 = .ok (.if_icmp .gt 30, 3) := by decide +kernel
theorem dX10_goBreath_24 : decode cX10_goBreath 24 = .ok (.iload_n 2, 1) := by decide +kernel
theorem dX10_goBreath_25 : decode cX10_goBreath 25 = .ok (.aload_n 0, 1) := by decide +kernel
theorem dX10_goBreath_26 : decode cX10_goBreath 26 = .ok (.getfield 71, 3) := by decide +kernel
theorem dX10_goBreath_29 : decode cX10_goBreath 29 = .ok (.aload_n 0, 1) := by decide +kernel
theorem dX10_goBreath_30 : decode cX10_goBreath 30 = .ok (.getfield 173, 3) := by decide +kernel
theorem dX10_goBreath_33 : decode cX10_goBreath 33 = .ok (.iconst 1, 1) := by decide +kernel
theorem dX10_goBreath_34 : decode cX10_goBreath 34 = .ok (.isub, 1) := by decide +kernel
theorem dX10_goBreath_35 : decode cX10_goBreath 35 = .ok (.iaload, 1) := by decide +kernel
theorem dX10_goBreath_36 : decode cX10_goBreath 36 = .ok (.isub, 1) := by decide +kernel
theorem dX10_goBreath_37 : decode cX10_goBreath 37 = .ok (.istore_n 2, 1) := by decide +kernel
theorem dX10_goBreath_38 : decode cX10_goBreath 38 = .ok (.aload_n 0, 1) := by decide +kernel
theorem dX10_goBreath_39 : decode cX10_goBreath 39 = .ok (.dup, 1) := by decide +kernel
theorem dX10_goBreath_40 : decode cX10_goBreath 40 = .ok (.getfield 173, 3) := by decide +kernel
theorem dX10_goBreath_43 : decode cX10_goBreath 43 = .ok (.iconst 1, 1) := by decide +kernel
theorem dX10_goBreath_44 : decode cX10_goBreath 44 = .ok (.isub, 1) := by decide +kernel
theorem dX10_goBreath_45 : decode cX10_goBreath 45 = .ok (.putfield 173, 3) := by decide +kernel
theorem dX10_goBreath_48 : decode cX10_goBreath 48 = .ok (.goto (-46), 3) := by decide +kernel
theorem dX10_goBreath_51 : decode cX10_goBreath 51 = .ok (.aload_n 0, 1) := by decide +kernel
theorem dX10_goBreath_52 : decode cX10_goBreath 52 = .ok (.getfield 173, 3) := by decide +kernel
theorem dX10_goBreath_55 : decode cX10_goBreath 55 = .ok (.ifCond .ne 7, 3) := by decide +kernel
theorem dX10_goBreath_58 : decode cX10_goBreath 58 = .ok (.iload_n 1, 1) := by decide +kernel
theorem dX10_goBreath_59 : decode cX10_goBreath 59 = .ok (.iload_n 2, 1) := by decide +kernel
theorem dX10_goBreath_60 : decode cX10_goBreath 60 = .ok (.isub, 1) := by decide +kernel
theorem dX10_goBreath_61 : decode cX10_goBreath 61 = .ok (.ireturn, 1) := by decide +kernel
theorem dX10_goBreath_62 : decode cX10_goBreath 62 = .ok (.aload_n 0, 1) := by decide +kernel
theorem dX10_goBreath_63 : decode cX10_goBreath 63 = .ok (.getfield 71, 3) := by decide +kernel
theorem dX10_goBreath_66 : decode cX10_goBreath 66 = .ok (.aload_n 0, 1) := by decide +kernel
theorem dX10_goBreath_67 : decode cX10_goBreath 67 = .ok (.getfield 173, 3) := by decide +kernel
theorem dX10_goBreath_70 : decode cX10_goBreath 70 = .ok (.iconst 1, 1) := by decide +kernel
theorem dX10_goBreath_71 : decode cX10_goBreath 71 = .ok (.isub, 1) := by decide +kernel
theorem dX10_goBreath_72 : decode cX10_goBreath 72 = .ok (.dup2, 1) := by decide +kernel
theorem dX10_goBreath_73 : decode cX10_goBreath 73 = .ok (.iaload, 1) := by decide +kernel
theorem dX10_goBreath_74 : decode cX10_goBreath 74 = .ok (.iload_n 2, 1) := by decide +kernel
theorem dX10_goBreath_75 : decode cX10_goBreath 75 = .ok (.isub, 1) := by decide +kernel
theorem dX10_goBreath_76 : decode cX10_goBreath 76 = .ok (.iastore, 1) := by decide +kernel
theorem dX10_goBreath_77 : decode cX10_goBreath 77 = .ok (.iload_n 1, 1) := by decide +kernel
theorem dX10_goBreath_78 : decode cX10_goBreath 78 = .ok (.ireturn, 1) := by decide +kernel
theorem dX10_breath_0 : decode cX10_breath 0 = .ok (.aload_n 0, 1) := by decide +kernel
theorem dX10_breath_1 : decode cX10_breath 1 = .ok (.iload_n 1, 1) := by decide +kernel
theorem dX10_breath_2 : decode cX10_breath 2 = .ok (.invokevirtual 152, 3) := by decide +kernel
theorem dX10_breath_5 : decode cX10_breath 5 = .ok (.ifCond .eq 22, 3) := by decide +kernel
theorem dX10_breath_8 : decode cX10_breath 8 = .ok (.iload_n 2, 1) := by decide +kernel
theorem dX10_breath_9 : decode cX10_breath 9 = .ok (.iconst 0, 1) := by decide +kernel
theorem dX10_breath_10 : decode cX10_breath 10 = .ok (.bipush 99, 2) := by decide +kernel
theorem dX10_breath_12 : decode cX10_breath 12 = .ok (.invokestatic 124, 3) := by decide +kernel
theorem dX10_breath_15 : decode cX10_breath 15 = .ok (.ifCond .eq 12, 3) := by decide +kernel
theorem dX10_breath_18 : decode cX10_breath 18 = .ok (.iload_n 3, 1) := by decide +kernel
theorem dX10_breath_19 : decode cX10_breath 19 = .ok (.iconst 0, 1) := by decide +kernel
theorem dX10_breath_20 : decode cX10_breath 20 = .ok (.iconst 1, 1) := by decide +kernel
theorem dX10_breath_21 : decode cX10_breath 21 = .ok (.invokestatic 124, 3) := by decide +kernel
theorem dX10_breath_24 : decode cX10_breath 24 = .ok (.ifCond .ne 5, 3) := by decide +kernel
theorem dX10_breath_27 : decode cX10_breath 27 = .ok (.iconst (-1), 1) := by decide +kernel
theorem dX10_breath_28 : decode cX10_breath 28 = .ok (.ireturn, 1) := by decide +kernel
theorem dX10_breath_29 : decode cX10_breath 29 = .ok (.aload_n 0, 1) := by decide +kernel
theorem dX10_breath_30 : decode cX10_breath 30 = .ok (.iload_n 1, 1) := by decide +kernel
theorem dX10_breath_31 : decode cX10_breath 31 = .ok (.invokevirtual 169, 3) := by decide +kernel
theorem dX10_breath_34 : decode cX10_breath 34 = .ok (.aload_n 0, 1) := by decide +kernel
theorem dX10_breath_35 : decode cX10_breath 35 = .ok (.iload_n 2, 1) := by decide +kernel
theorem dX10_breath_36 : decode cX10_breath 36 = .ok (.invokevirtual 305, 3) := by decide +kernel
theorem dX10_breath_39 : decode cX10_breath 39 = .ok (.pop, 1) := by decide +kernel
theorem dX10_breath_40 : decode cX10_breath 40 = .ok (.iload_n 3, 1) := by decide +kernel
theorem dX10_breath_41 : decode cX10_breath 41 = .ok (.iconst 1, 1) := by decide +kernel
theorem dX10_breath_42 : decode cX10_breath 42 = .ok (.if_icmp .ne 10, 3) := by decide +kernel
theorem dX10_breath_45 : decode cX10_breath 45 = .ok (.aload_n 0, 1) := by decide +kernel
theorem dX10_breath_46 : decode cX10_breath 46 = .ok (.getfield 173, 3) := by decide +kernel
theorem dX10_breath_49 : decode cX10_breath 49 = .ok (.goto 26, 3) := by decide +kernel
theorem dX10_breath_52 : decode cX10_breath 52 = .ok (.aload_n 0, 1) := by decide +kernel
theorem dX10_breath_53 : decode cX10_breath 53 = .ok (.getfield 173, 3) := by decide +kernel
theorem dX10_breath_56 : decode cX10_breath 56 = .ok (.ifCond .ne 8, 3) := by decide +kernel
theorem dX10_breath_59 : decode cX10_breath 59 = .ok (.bipush (-2), 2) := by decide +kernel
theorem dX10_breath_61 : decode cX10_breath 61 = .ok (.goto 14, 3) := by decide +kernel
theorem dX10_breath_64 : decode cX10_breath 64 = .ok (.aload_n 0, 1) := by decide +kernel
theorem dX10_breath_65 : decode cX10_breath 65 = .ok (.getfield 68, 3) := by decide +kernel
theorem dX10_breath_68 : decode cX10_breath 68 = .ok (.aload_n 0, 1) := by decide +kernel
theorem dX10_breath_69 : decode cX10_breath 69 = .ok (.getfield 173, 3) := by decide +kernel
theorem dX10_breath_72 : decode cX10_breath 72 = .ok (.iconst 1, 1) := by decide +kernel
theorem dX10_breath_73 : decode cX10_breath 73 = .ok (.isub, 1) := by decide +kernel
theorem dX10_breath_74 : decode cX10_breath 74 = .ok (.iaload, 1) := by decide +kernel
theorem dX10_breath_75 : decode cX10_breath 75 = .ok (.ireturn, 1) := by decide +kernel
theorem dX10_clear_0 : decode cX10_clear 0 = .ok (.aload_n 0, 1) := by decide +kernel
theorem dX10_clear_1 : decode cX10_clear 1 = .ok (.iload_n 1, 1) := by decide +kernel
theorem dX10_clear_2 : decode cX10_clear 2 = .ok (.invokevirtual 152, 3) := by decide +kernel
theorem dX10_clear_5 : decode cX10_clear 5 = .ok (.ifCond .eq 10, 3) := by decide +kernel
theorem dX10_clear_8 : decode cX10_clear 8 = .ok (.iload_n 2, 1) := by decide +kernel
theorem dX10_clear_9 : decode cX10_clear 9 = .ok (.invokestatic 155, 3) := by decide +kernel
theorem dX10_clear_12 : decode cX10_clear 12 = .ok (.ifCond .ne 5, 3) := by decide +kernel
theorem dX10_clear_15 : decode cX10_clear 15 = .ok (.iconst (-1), 1) := by decide +kernel
theorem dX10_clear_16 : decode cX10_clear 16 = .ok (.ireturn, 1) := by decide +kernel
theorem dX10_clear_17 : decode cX10_clear 17 = .ok (.aload_n 0, 1) := by decide +kernel
theorem dX10_clear_18 : decode cX10_clear 18 = .ok (.iload_n 1, 1) := by decide +kernel
theorem dX10_clear_19 : decode cX10_clear 19 = .ok (.invokevirtual 169, 3) := by decide +kernel
theorem dX10_clear_22 : decode cX10_clear 22 = .ok (.iconst 0, 1) := by decide +kernel
theorem dX10_clear_23 : decode cX10_clear 23 = .ok (.istore_n 3, 1) := by decide +kernel
theorem dX10_clear_24 : decode cX10_clear 24 = .ok (.iconst 0, 1) := by decide +kernel
theorem dX10_clear_25 : decode cX10_clear 25 = .ok (.istore 4, 2) := by decide +kernel
theorem dX10_clear_27 : decode cX10_clear 27 = .ok (.aload_n 0, 1) := by decide +kernel
theorem dX10_clear_28 : decode cX10_clear 28 = .ok (.getfield 173, 3) := by decide +kernel
theorem dX10_clear_31 : decode cX10_clear 31 = .ok (.iconst 1, 1) := by decide +kernel
theorem dX10_clear_32 : decode cX10_clear 32 = .ok (.isub, 1) := by decide +kernel
theorem dX10_clear_33 : decode cX10_clear 33 = .ok (.istore 5, 2) := by decide +kernel
theorem dX10_clear_35 : decode cX10_clear 35 = .ok (.iload 5, 2) := by decide +kernel
theorem dX10_clear_37 : decode cX10_clear 37 = .ok (.ifCond .lt 33, 3) := by decide +kernel
theorem dX10_clear_40 : decode cX10_clear 40 = .ok (.iload_n 3, 1) := by decide +kernel
theorem dX10_clear_41 : decode cX10_clear 41 = .ok (.aload_n 0, 1) := by decide +kernel
theorem dX10_clear_42 : decode cX10_clear 42 = .ok (.getfield 71, 3) := by decide +kernel
theorem dX10_clear_45 : decode cX10_clear 45 = .ok (.iload 5, 2) := by decide +kernel
theorem dX10_clear_47 : decode cX10_clear 47 = .ok (.iaload, 1) := by decide +kernel
theorem dX10_clear_48 : decode cX10_clear 48 = .ok (.iadd, 1) := by decide +kernel
theorem dX10_clear_49 : decode cX10_clear 49 = .ok (.istore_n 3, 1) := by decide +kernel
theorem dX10_clear_50 : decode cX10_clear 50 = .ok (.aload_n 0, 1) := by decide +kernel
theorem dX10_clear_51 : decode cX10_clear 51 = .ok (.getfield 68, 3) := by decide +kernel
theorem dX10_clear_54 : decode cX10_clear 54 = .ok (.iload 5, 2) := by decide +kernel
theorem dX10_clear_56 : decode cX10_clear 56 = .ok (.iaload, 1) := by decide +kernel
theorem dX10_clear_57 : decode cX10_clear 57 = .ok (.iload_n 2, 1) := by decide +kernel
theorem dX10_clear_58 : decode cX10_clear 58 = .ok (.if_icmp .ne 6, 3) := by decide +kernel
theorem dX10_clear_61 : decode cX10_clear 61 = .ok (.iload_n 3, 1) := by decide +kernel
theorem dX10_clear_62 : decode cX10_clear 62 = .ok (.istore 4, 2) := by decide +kernel
theorem dX10_clear_64 : decode cX10_clear 64 = .ok (.iinc 5 (-1), 3) := by decide +kernel
theorem dX10_clear_67 : decode cX10_clear 67 = .ok (.goto (-32), 3) := by decide +kernel
theorem dX10_clear_70 : decode cX10_clear 70 = .ok (.iload 4, 2) := by decide +kernel
theorem dX10_clear_72 : decode cX10_clear 72 = .ok (.ireturn, 1) := by decide +kernel
theorem dX10_touch_0 : decode cX10_touch 0 = .ok (.aload_n 0, 1) := by decide +kernel
theorem dX10_touch_1 : decode cX10_touch 1 = .ok (.iload_n 1, 1) := by decide +kernel
theorem dX10_touch_2 : decode cX10_touch 2 = .ok (.invokevirtual 152, 3) := by decide +kernel
theorem dX10_touch_5 : decode cX10_touch 5 = .ok (.ifCond .eq 20, 3) := by decide +kernel
theorem dX10_touch_8 : decode cX10_touch 8 = .ok (.iload_n 2, 1) := by decide +kernel
theorem dX10_touch_9 : decode cX10_touch 9 = .ok (.invokestatic 155, 3) := by decide +kernel
theorem dX10_touch_12 : decode cX10_touch 12 = .ok (.ifCond .eq 13, 3) := by decide +kernel
theorem dX10_touch_15 : decode cX10_touch 15 = .ok (.iload_n 3, 1) := by decide +kernel
theorem dX10_touch_16 : decode cX10_touch 16 = .ok (.iconst 0, 1) := by decide +kernel
theorem dX10_touch_17 : decode cX10_touch 17 = .ok (.bipush 9, 2) := by decide +kernel
theorem dX10_touch_19 : decode cX10_touch 19 = .ok (.invokestatic 124, 3) := by decide +kernel
theorem dX10_touch_22 : decode cX10_touch 22 = .ok (.ifCond .ne 5, 3) := by decide +kernel
theorem dX10_touch_25 : decode cX10_touch 25 = .ok (.iconst (-1), 1) := by decide +kernel
theorem dX10_touch_26 : decode cX10_touch 26 = .ok (.ireturn, 1) := by decide +kernel
theorem dX10_touch_27 : decode cX10_touch 27 = .ok (.aload_n 0, 1) := by decide +kernel
theorem dX10_touch_28 : decode cX10_touch 28 = .ok (.iload_n 1, 1) := by decide +kernel
theorem dX10_touch_29 : decode cX10_touch 29 = .ok (.invokevirtual 169, 3) := by decide +kernel
theorem dX10_touch_32 : decode cX10_touch 32 = .ok (.iconst 0, 1) := by decide +kernel
theorem dX10_touch_33 : decode cX10_touch 33 = .ok (.istore 4, 2) := by decide +kernel
theorem dX10_touch_35 : decode cX10_touch 35 = .ok (.iload 4, 2) := by decide +kernel
theorem dX10_touch_37 : decode cX10_touch 37 = .ok (.bipush 60, 2) := by decide +kernel
theorem dX10_touch_39 : decode cX10_touch 39 = .ok (.if_icmp .gt 27, 3) := by decide +kernel
theorem dX10_touch_42 : decode cX10_touch 42 = .ok (.aload_n 0, 1) := by decide +kernel
theorem dX10_touch_43 : decode cX10_touch 43 = .ok (.invokevirtual 296, 3) := by decide +kernel
theorem dX10_touch_46 : decode cX10_touch 46 = .ok (.iload_n 2, 1) := by decide +kernel
theorem dX10_touch_47 : decode cX10_touch 47 = .ok (.if_icmp .ne 6, 3) := by decide +kernel
theorem dX10_touch_50 : decode cX10_touch 50 = .ok (.iload 4, 2) := by decide +kernel
theorem dX10_touch_52 : decode cX10_touch 52 = .ok (.ireturn, 1) := by decide +kernel
