theorem dX12_init_0 : decode cX12_init 0 = .ok (.aload_n 0, 1) := by decide +kernel
theorem dX12_init_1 : decode cX12_init 1 = .ok (.invokespecial 1, 3) := by decide +kernel
theorem dX12_init_4 : decode cX12_init 4 = .ok (.aload_n 0, 1) := by decide +kernel
theorem dX12_init_5 : decode cX12_init 5 = .ok (.sipush 440, 3) := by decide +kernel
theorem dX12_init_8 : decode cX12_init 8 = .ok (.newarray .int, 2) := by decide +kernel
theorem dX12_init_10 : decode cX12_init 10 = .ok (.putfield 7, 3) := by decide +kernel
theorem dX12_init_13 : decode cX12_init 13 = .ok (.aload_n 0, 1) := by decide +kernel
theorem dX12_init_14 : decode cX12_init 14 = .ok (.bipush 8, 2) := by decide +kernel
theorem dX12_init_16 : decode cX12_init 16 = .ok (.putfield 13, 3) := by decide +kernel
theorem dX12_init_19 : decode cX12_init 19 = .ok (.aload_n 0, 1) := by decide +kernel
theorem dX12_init_20 : decode cX12_init 20 = .ok (.iconst 4, 1) := by decide +kernel
theorem dX12_init_21 : decode cX12_init 21 = .ok (.newarray .int, 2) := by decide +kernel
theorem dX12_init_23 : decode cX12_init 23 = .ok (.putfield 17, 3) := by decide +kernel
theorem dX12_init_26 : decode cX12_init 26 = .ok (.aload_n 0, 1) := by decide +kernel
theorem dX12_init_27 : decode cX12_init 27 = .ok (.bipush 80, 2) := by decide +kernel
theorem dX12_init_29 : decode cX12_init 29 = .ok (.newarray .int, 2) := by decide +kernel
theorem dX12_init_31 : decode cX12_init 31 = .ok (.putfield 20, 3) := by decide +kernel
theorem dX12_init_34 : decode cX12_init 34 = .ok (.aload_n 0, 1) := by decide +kernel
theorem dX12_init_35 : decode cX12_init 35 = .ok (.bipush 80, 2) := by decide +kernel
theorem dX12_init_37 : decode cX12_init 37 = .ok (.newarray .int, 2) := by decide +kernel
theorem dX12_init_39 : decode cX12_init 39 = .ok (.putfield 23, 3) := by decide +kernel
theorem dX12_init_42 : decode cX12_init 42 = .ok (.aload_n 0, 1) := by decide +kernel
theorem dX12_init_43 : decode cX12_init 43 = .ok (.sipush 160, 3) := by decide +kernel
theorem dX12_init_46 : decode cX12_init 46 = .ok (.newarray .int, 2) := by decide +kernel
theorem dX12_init_48 : decode cX12_init 48 = .ok (.putfield 26, 3) := by decide +kernel
theorem dX12_init_51 : decode cX12_init 51 = .ok (.aload_n 0, 1) := by decide +kernel
theorem dX12_init_52 : decode cX12_init 52 = .ok (.sipush 160, 3) := by decide +kernel
theorem dX12_init_55 : decode cX12_init 55 = .ok (.newarray .int, 2) := by decide +kernel
theorem dX12_init_57 : decode cX12_init 57 = .ok (.putfield 29, 3) := by decide +kernel
theorem dX12_init_60 : decode cX12_init 60 = .ok (.aload_n 0, 1) := by decide +kernel
theorem dX12_init_61 : decode cX12_init 61 = .ok (.sipush 160, 3) := by decide +kernel
theorem dX12_init_64 : decode cX12_init 64 = .ok (.newarray .int, 2) := by decide +kernel
theorem dX12_init_66 : decode cX12_init 66 = .ok (.putfield 32, 3) := by decide +kernel
theorem dX12_init_69 : decode cX12_init 69 = .ok (.aload_n 0, 1) := by decide +kernel
theorem dX12_init_70 : decode cX12_init 70 = .ok (.sipush 160, 3) := by decide +kernel
theorem dX12_init_73 : decode cX12_init 73 = .ok (.newarray .int, 2) := by decide +kernel
theorem dX12_init_75 : decode cX12_init 75 = .ok (.putfield 35, 3) := by decide +kernel
theorem dX12_init_78 : decode cX12_init 78 = .ok (.aload_n 0, 1) := by decide +kernel
theorem dX12_init_79 : decode cX12_init 79 = .ok (.sipush 160, 3) := by decide +kernel
theorem dX12_init_82 : decode cX12_init 82 = .ok (.newarray .int, 2) := by decide +kernel
theorem dX12_init_84 : decode cX12_init 84 = .ok (.putfield 38, 3) := by decide +kernel
theorem dX12_init_87 : decode cX12_init 87 = .ok (.aload_n 0, 1) := by decide +kernel
theorem dX12_init_88 : decode cX12_init 88 = .ok (.sipush 160, 3) := by decide +kernel
theorem dX12_init_91 : decode cX12_init 91 = .ok (.newarray .int, 2) := by decide +kernel
theorem dX12_init_93 : decode cX12_init 93 = .ok (.putfield 41, 3) := by decide +kernel
theorem dX12_init_96 : decode cX12_init 96 = .ok (.aload_n 0, 1) := by decide +kernel
theorem dX12_init_97 : decode cX12_init 97 = .ok (.bipush 60, 2) := by decide +kernel
theorem dX12_init_99 : decode cX12_init 99 = .ok (.newarray .int, 2) := by decide +kernel
theorem dX12_init_101 : decode cX12_init 101 = .ok (.putfield 44, 3) := by decide +kernel
theorem dX12_init_104 : decode cX12_init 104 = .ok (.aload_n 0, 1) := by decide +kernel
theorem dX12_init_105 : decode cX12_init 105 = .ok (.bipush 60, 2) := by decide +kernel
theorem dX12_init_107 : decode cX12_init 107 = .ok (.newarray .int, 2) := by decide +kernel
theorem dX12_init_109 : decode cX12_init 109 = .ok (.putfield 47, 3) := by decide +kernel
theorem dX12_init_112 : decode cX12_init 112 = .ok (.aload_n 0, 1) := by decide +kernel
theorem dX12_init_113 : decode cX12_init 113 = .ok (.bipush 60, 2) := by decide +kernel
theorem dX12_init_115 : decode cX12_init 115 = .ok (.newarray .int, 2) := by decide +kernel
theorem dX12_init_117 : decode cX12_init 117 = .ok (.putfield 50, 3) := by decide +kernel
theorem dX12_init_120 : decode cX12_init 120 = .ok (.aload_n 0, 1) := by decide +kernel
theorem dX12_init_121 : decode cX12_init 121 = .ok (.bipush 60, 2) := by decide +kernel
theorem dX12_init_123 : decode cX12_init 123 = .ok (.newarray .int, 2) := by decide +kernel
theorem dX12_init_125 : decode cX12_init 125 = .ok (.putfield 53, 3) := by decide +kernel
theorem dX12_init_128 : decode cX12_init 128 = .ok (.aload_n 0, 1) := by decide +kernel
theorem dX12_init_129 : decode cX12_init 129 = .ok (.bipush 16, 2) := by decide +kernel
theorem dX12_init_131 : decode cX12_init 131 = .ok (.newarray .int, 2) := by decide +kernel
theorem dX12_init_133 : decode cX12_init 133 = .ok (.putfield 56, 3) := by decide +kernel
theorem dX12_init_136 : decode cX12_init 136 = .ok (.aload_n 0, 1) := by decide +kernel
theorem dX12_init_137 : decode cX12_init 137 = .ok (.bipush 16, 2) := by decide +kernel
theorem dX12_init_139 : decode cX12_init 139 = .ok (.newarray .int, 2) := by decide +kernel
theorem dX12_init_141 : decode cX12_init 141 = .ok (.putfield 59, 3) := by decide +kernel
theorem dX12_init_144 : decode cX12_init 144 = .ok (.aload_n 0, 1) := by decide +kernel
theorem dX12_init_145 : decode cX12_init 145 = .ok (.bipush 64, 2) := by decide +kernel
theorem dX12_init_147 : decode cX12_init 147 = .ok (.newarray .int, 2) := by decide +kernel
theorem dX12_init_149 : decode cX12_init 149 = .ok (.putfield 62, 3) := by decide +kernel
theorem dX12_init_152 : decode cX12_init 152 = .ok (.aload_n 0, 1) := by decide +kernel
theorem dX12_init_153 : decode cX12_init 153 = .ok (.bipush 16, 2) := by decide +kernel
theorem dX12_init_155 : decode cX12_init 155 = .ok (.newarray .int, 2) := by decide +kernel
theorem dX12_init_157 : decode cX12_init 157 = .ok (.putfield 65, 3) := by decide +kernel
theorem dX12_init_160 : decode cX12_init 160 = .ok (.aload_n 0, 1) := by decide +kernel
theorem dX12_init_161 : decode cX12_init 161 = .ok (.bipush 100, 2) := by decide +kernel
theorem dX12_init_163 : decode cX12_init 163 = .ok (.newarray .int, 2) := by decide +kernel
theorem dX12_init_165 : decode cX12_init 165 = .ok (.putfield 68, 3) := by decide +kernel
theorem dX12_init_168 : decode cX12_init 168 = .ok (.aload_n 0, 1) := by decide +kernel
theorem dX12_init_169 : decode cX12_init 169 = .ok (.bipush 64, 2) := by decide +kernel
theorem dX12_init_171 : decode cX12_init 171 = .ok (.newarray .int, 2) := by decide +kernel
theorem dX12_init_173 : decode cX12_init 173 = .ok (.putfield 71, 3) := by decide +kernel
theorem dX12_init_176 : decode cX12_init 176 = .ok (.aload_n 0, 1) := by decide +kernel
theorem dX12_init_177 : decode cX12_init 177 = .ok (.sipush 8016, 3) := by decide +kernel
theorem dX12_init_180 : decode cX12_init 180 = .ok (.newarray .byte, 2) := by decide +kernel
theorem dX12_init_182 : decode cX12_init 182 = .ok (.putfield 74, 3) := by decide +kernel
theorem dX12_init_185 : decode cX12_init 185 = .ok (.aload_n 0, 1) := by decide +kernel
theorem dX12_init_186 : decode cX12_init 186 = .ok (.bipush 64, 2) := by decide +kernel
theorem dX12_init_188 : decode cX12_init 188 = .ok (.newarray .int, 2) := by decide +kernel
theorem dX12_init_190 : decode cX12_init 190 = .ok (.putfield 78, 3) := by decide +kernel
theorem dX12_init_193 : decode cX12_init 193 = .ok (.aload_n 0, 1) := by decide +kernel
theorem dX12_init_194 : decode cX12_init 194 = .ok (.bipush 16, 2) := by decide +kernel
theorem dX12_init_196 : decode cX12_init 196 = .ok (.newarray .int, 2) := by decide +kernel
theorem dX12_init_198 : decode cX12_init 198 = .ok (.putfield 81, 3) := by decide +kernel
theorem dX12_init_201 : decode cX12_init 201 = .ok (.aload_n 0, 1) := by decide +kernel
theorem dX12_init_202 : decode cX12_init 202 = .ok (.bipush 100, 2) := by decide +kernel
theorem dX12_init_204 : decode cX12_init 204 = .ok (.newarray .int, 2) := by decide +kernel
theorem dX12_init_206 : decode cX12_init 206 = .ok (.putfield 84, 3) := by decide +kernel
theorem dX12_init_209 : decode cX12_init 209 = .ok (.aload_n 0, 1) := by decide +kernel
theorem dX12_init_210 : decode cX12_init 210 = .ok (.iconst (-1), 1) := by decide +kernel
theorem dX12_init_211 : decode cX12_init 211 = .ok (.putfield 87, 3) := by decide +kernel
theorem dX12_init_214 : decode cX12_init 214 = .ok (.aload_n 0, 1) := by decide +kernel
theorem dX12_init_215 : decode cX12_init 215 = .ok (.iconst 2, 1) := by decide +kernel
theorem dX12_init_216 : decode cX12_init 216 = .ok (.newarray .int, 2) := by decide +kernel
theorem dX12_init_218 : decode cX12_init 218 = .ok (.putfield 90, 3) := by decide +kernel
theorem dX12_init_221 : decode cX12_init 221 = .ok (.aload_n 0, 1) := by decide +kernel
theorem dX12_init_222 : decode cX12_init 222 = .ok (.iconst 2, 1) := by decide +kernel
theorem dX12_init_223 : decode cX12_init 223 = .ok (.newarray .int, 2) := by decide +kernel
theorem dX12_init_225 : decode cX12_init 225 = .ok (.putfield 93, 3) := by decide +kernel
theorem dX12_init_228 : decode cX12_init 228 = .ok (.aload_n 0, 1) := by decide +kernel
theorem dX12_init_229 : decode cX12_init 229 = .ok (.sipush 144, 3) := by decide +kernel
theorem dX12_init_232 : decode cX12_init 232 = .ok (.newarray .int, 2) := by decide +kernel
theorem dX12_init_234 : decode cX12_init 234 = .ok (.putfield 96, 3) := by decide +kernel
theorem dX12_init_237 : decode cX12_init 237 = .ok (.aload_n 0, 1) := by decide +kernel
theorem dX12_init_238 : decode cX12_init 238 = .ok (.bipush 12, 2) := by decide +kernel
theorem dX12_init_240 : decode cX12_init 240 = .ok (.newarray .int, 2) := by decide +kernel
theorem dX12_init_242 : decode cX12_init 242 = .ok (.putfield 99, 3) := by decide +kernel
theorem dX12_init_245 : decode cX12_init 245 = .ok (.aload_n 0, 1) := by decide +kernel
theorem dX12_init_246 : decode cX12_init 246 = .ok (.sipush 480, 3) := by decide +kernel
theorem dX12_init_249 : decode cX12_init 249 = .ok (.newarray .int, 2) := by decide +kernel
theorem dX12_init_251 : decode cX12_init 251 = .ok (.putfield 102, 3) := by decide +kernel
theorem dX12_init_254 : decode cX12_init 254 = .ok (.aload_n 0, 1) := by decide +kernel
theorem dX12_init_255 : decode cX12_init 255 = .ok (.bipush 8, 2) := by decide +kernel
theorem dX12_init_257 : decode cX12_init 257 = .ok (.newarray .int, 2) := by decide +kernel
theorem dX12_init_259 : decode cX12_init 259 = .ok (.putfield 105, 3) := by decide +kernel
theorem dX12_init_262 : decode cX12_init 262 = .ok (.aload_n 0, 1) := by decide +kernel
theorem dX12_init_263 : decode cX12_init 263 = .ok (.bipush 60, 2) := by decide +kernel
theorem dX12_init_265 : decode cX12_init 265 = .ok (.newarray .int, 2) := by decide +kernel
theorem dX12_init_267 : decode cX12_init 267 = .ok (.putfield 108, 3) := by decide +kernel
theorem dX12_init_270 : decode cX12_init 270 = .ok (.aload_n 0, 1) := by decide +kernel
theorem dX12_init_271 : decode cX12_init 271 = .ok (.bipush 61, 2) := by decide +kernel
theorem dX12_init_273 : decode cX12_init 273 = .ok (.newarray .int, 2) := by decide +kernel
theorem dX12_init_275 : decode cX12_init 275 = .ok (.putfield 111, 3) := by decide +kernel
theorem dX12_init_278 : decode cX12_init 278 = .ok (.aload_n 0, 1) := by decide +kernel
theorem dX12_init_279 : decode cX12_init 279 = .ok (.bipush 60, 2) := by decide +kernel
theorem dX12_init_281 : decode cX12_init 281 = .ok (.newarray .int, 2) := by decide +kernel
theorem dX12_init_283 : decode cX12_init 283 = .ok (.putfield 114, 3) := by decide +kernel
theorem dX12_init_286 : decode cX12_init 286 = .ok (.aload_n 0, 1) := by decide +kernel
theorem dX12_init_287 : decode cX12_init 287 = .ok (.iconst (-1), 1) := by decide +kernel
theorem dX12_init_288 : decode cX12_init 288 = .ok (.putfield 117, 3) := by decide +kernel
theorem dX12_init_291 : decode cX12_init 291 = .ok (.aload_n 0, 1) := by decide +kernel
theorem dX12_init_292 : decode cX12_init 292 = .ok (.bipush 60, 2) := by decide +kernel
theorem dX12_init_294 : decode cX12_init 294 = .ok (.newarray .int, 2) := by decide +kernel
theorem dX12_init_296 : decode cX12_init 296 = .ok (.putfield 120, 3) := by decide +kernel
theorem dX12_init_299 : decode cX12_init 299 = .ok (.aload_n 0, 1) := by decide +kernel
theorem dX12_init_300 : decode cX12_init 300 = .ok (.bipush 60, 2) := by decide +kernel
theorem dX12_init_302 : decode cX12_init 302 = .ok (.newarray .int, 2) := by decide +kernel
theorem dX12_init_304 : decode cX12_init 304 = .ok (.putfield 123, 3) := by decide +kernel
theorem dX12_init_307 : decode cX12_init 307 = .ok (.aload_n 0, 1) := by decide +kernel
theorem dX12_init_308 : decode cX12_init 308 = .ok (.bipush 60, 2) := by decide +kernel
theorem dX12_init_310 : decode cX12_init 310 = .ok (.newarray .int, 2) := by decide +kernel
theorem dX12_init_312 : decode cX12_init 312 = .ok (.putfield 126, 3) := by decide +kernel
theorem dX12_init_315 : decode cX12_init 315 = .ok (.aload_n 0, 1) := by decide +kernel
theorem dX12_init_316 : decode cX12_init 316 = .ok (.bipush 60, 2) := by decide +kernel
theorem dX12_init_318 : decode cX12_init 318 = .ok (.newarray .int, 2) := by decide +kernel
theorem dX12_init_320 : decode cX12_init 320 = .ok (.putfield 129, 3) := by decide +kernel
theorem dX12_init_323 : decode cX12_init 323 = .ok (.aload_n 0, 1) := by decide +kernel
theorem dX12_init_324 : decode cX12_init 324 = .ok (.sipush 289, 3) := by decide +kernel
theorem dX12_init_327 : decode cX12_init 327 = .ok (.newarray .int, 2) := by decide +kernel
theorem dX12_init_329 : decode cX12_init 329 = .ok (.putfield 132, 3) := by decide +kernel
theorem dX12_init_332 : decode cX12_init 332 = .ok (.aload_n 0, 1) := by decide +kernel
theorem dX12_init_333 : decode cX12_init 333 = .ok (.bipush 112, 2) := by decide +kernel
theorem dX12_init_335 : decode cX12_init 335 = .ok (.newarray .int, 2) := by decide +kernel
theorem dX12_init_337 : decode cX12_init 337 = .ok (.putfield 135, 3) := by decide +kernel
theorem dX12_init_340 : decode cX12_init 340 = .ok (.return_, 1) := by decide +kernel
theorem dX12_thrown_0 : decode cX12_thrown 0 = .ok (.aload_n 0, 1) := by decide +kernel
theorem dX12_thrown_1 : decode cX12_thrown 1 = .ok (.getfield 138, 3) := by decide +kernel
theorem dX12_thrown_4 : decode cX12_thrown 4 = .ok (.ireturn, 1) := by decide +kernel
theorem dX12_come_0 : decode cX12_come 0 = .ok (.bipush 24, 2) := by decide +kernel
theorem dX12_come_2 : decode cX12_come 2 = .ok (.istore_n 2, 1) := by decide +kernel
theorem dX12_come_3 : decode cX12_come 3 = .ok (.iload_n 2, 1) := by decide +kernel
theorem dX12_come_4 : decode cX12_come 4 = .ok (.ifCond .lt 35, 3) := by decide +kernel
theorem dX12_come_7 : decode cX12_come 7 = .ok (.aload_n 0, 1) := by decide +kernel
theorem dX12_come_8 : decode cX12_come 8 = .ok (.getfield 7, 3) := by decide +kernel
theorem dX12_come_11 : decode cX12_come 11 = .ok (.aload_n 0, 1) := by decide +kernel
theorem dX12_come_12 : decode cX12_come 12 = .ok (.getfield 141, 3) := by decide +kernel
theorem dX12_come_15 : decode cX12_come 15 = .ok (.iload_n 1, 1) := by decide +kernel
theorem dX12_come_16 : decode cX12_come 16 = .ok (.iload_n 2, 1) := by decide +kernel
theorem dX12_come_17 : decode cX12_come 17 = .ok (.iushr, 1) := by decide +kernel
theorem dX12_come_18 : decode cX12_come 18 = .ok (.sipush 255, 3) := by decide +kernel
theorem dX12_come_21 : decode cX12_come 21 = .ok (.iand, 1) := by decide +kernel
theorem dX12_come_22 : decode cX12_come 22 = .ok (.iastore, 1) := by decide +kernel
theorem dX12_come_23 : decode cX12_come 23 = .ok (.aload_n 0, 1) := by decide +kernel
theorem dX12_come_24 : decode cX12_come 24 = .ok (.dup, 1) := by decide +kernel
theorem dX12_come_25 : decode cX12_come 25 = .ok (.getfield 141, 3) := by decide +kernel
theorem dX12_come_28 : decode cX12_come 28 = .ok (.iconst 1, 1) := by decide +kernel
theorem dX12_come_29 : decode cX12_come 29 = .ok (.iadd, 1) := by decide +kernel
theorem dX12_come_30 : decode cX12_come 30 = .ok (.putfield 141, 3) := by decide +kernel
theorem dX12_come_33 : decode cX12_come 33 = .ok (.iinc 2 (-8), 3) := by decide +kernel
theorem dX12_come_36 : decode cX12_come 36 = .ok (.goto (-33), 3) := by decide +kernel
theorem dX12_come_39 : decode cX12_come 39 = .ok (.return_, 1) := by decide +kernel
set_option maxRecDepth 20000 in
theorem ggX12_feed_X12_come : GoodIn wsX12_feed wsX12_come := goodIn_r _ [7, 8, 2, 9, 10, 11, 12, 13, 14, 15, 16, 17, 18, 19, 20, 21, 22, 23, 24, 25, 26, 27, 28, 29, 30, 31, 32, 33, 34, 35, 36, 37, 38, 39, 40, 41, 42, 43, 44, 45, 46, 47, 48, 49, 50, 51, 52, 53, 54, 55, 56, 57, 58, 59, 60, 61, 62, 63, 64, 65, 66, 67, 68, 69, 70, 71, 72, 73, 74, 75, 76, 77, 78, 79, 80, 81, 82, 83, 84, 85, 86, 87, 88, 89, 90, 91] rfl (by decide +kernel)
set_option maxRecDepth 20000 in
theorem gX12_feed_X12_come : GoodIn wsX12_feed (wsV RX12 144 RX12 yX12_come wsX12_come) := goodIn_app (goodIn_r _ [3, 4, 5, 6] rfl (by decide +kernel)) ggX12_feed_X12_come
theorem dX12_feed_0 : decode cX12_feed 0 = .ok (.aload_n 0, 1) := by decide +kernel
theorem dX12_feed_1 : decode cX12_feed 1 = .ok (.iconst 0, 1) := by decide +kernel
theorem dX12_feed_2 : decode cX12_feed 2 = .ok (.putfield 138, 3) := by decide +kernel
theorem dX12_feed_5 : decode cX12_feed 5 = .ok (.aload_n 0, 1) := by decide +kernel
theorem dX12_feed_6 : decode cX12_feed 6 = .ok (.getfield 141, 3) := by decide +kernel
theorem dX12_feed_9 : decode cX12_feed 9 = .ok (.bipush 20, 2) := by decide +kernel
theorem dX12_feed_11 : decode cX12_feed 11 = .ok (.iadd, 1) := by decide +kernel
theorem dX12_feed_12 : decode cX12_feed 12 = .ok (.sipush 440, 3) := by decide +kernel
theorem dX12_feed_15 : decode cX12_feed 15 = .ok (.if_icmp .le 5, 3) := by decide +kernel
theorem dX12_feed_18 : decode cX12_feed 18 = .ok (.iconst (-1), 1) := by decide +kernel
theorem dX12_feed_19 : decode cX12_feed 19 = .ok (.ireturn, 1) := by decide +kernel
theorem dX12_feed_20 : decode cX12_feed 20 = .ok (.aload_n 0, 1) := by decide +kernel
theorem dX12_feed_21 : decode cX12_feed 21 = .ok (.iload_n 1, 1) := by decide +kernel
theorem dX12_feed_22 : decode cX12_feed 22 = .ok (.invokevirtual 144, 3) := by decide +kernel
theorem dX12_feed_25 : decode cX12_feed 25 = .ok (.aload_n 0, 1) := by decide +kernel
theorem dX12_feed_26 : decode cX12_feed 26 = .ok (.iload_n 2, 1) := by decide +kernel
theorem dX12_feed_27 : decode cX12_feed 27 = .ok (.invokevirtual 144, 3) := by decide +kernel
theorem dX12_feed_30 : decode cX12_feed 30 = .ok (.aload_n 0, 1) := by decide +kernel
theorem dX12_feed_31 : decode cX12_feed 31 = .ok (.iload_n 3, 1) := by decide +kernel
theorem dX12_feed_32 : decode cX12_feed 32 = .ok (.invokevirtual 144, 3) := by decide +kernel
theorem dX12_feed_35 : decode cX12_feed 35 = .ok (.aload_n 0, 1) := by decide +kernel
theorem dX12_feed_36 : decode cX12_feed 36 = .ok (.iload 4, 2) := by decide +kernel
theorem dX12_feed_38 : decode cX12_feed 38 = .ok (.invokevirtual 144, 3) := by decide +kernel
theorem dX12_feed_41 : decode cX12_feed 41 = .ok (.aload_n 0, 1) := by decide +kernel
theorem dX12_feed_42 : decode cX12_feed 42 = .ok (.iload 5, 2) := by decide +kernel
theorem dX12_feed_44 : decode cX12_feed 44 = .ok (.invokevirtual 144, 3) := by decide +kernel
theorem dX12_feed_47 : decode cX12_feed 47 = .ok (.aload_n 0, 1) := by decide +kernel
theorem dX12_feed_48 : decode cX12_feed 48 = .ok (.getfield 141, 3) := by decide +kernel
theorem dX12_feed_51 : decode cX12_feed 51 = .ok (.ireturn, 1) := by decide +kernel
theorem dX12_end_0 : decode cX12_end 0 = .ok (.aload_n 0, 1) := by decide +kernel
theorem dX12_end_1 : decode cX12_end 1 = .ok (.iconst 0, 1) := by decide +kernel
theorem dX12_end_2 : decode cX12_end 2 = .ok (.putfield 138, 3) := by decide +kernel
theorem dX12_end_5 : decode cX12_end 5 = .ok (.iload_n 1, 1) := by decide +kernel
theorem dX12_end_6 : decode cX12_end 6 = .ok (.ifCond .lt 11, 3) := by decide +kernel
theorem dX12_end_9 : decode cX12_end 9 = .ok (.iload_n 1, 1) := by decide +kernel
theorem dX12_end_10 : decode cX12_end 10 = .ok (.aload_n 0, 1) := by decide +kernel
theorem dX12_end_11 : decode cX12_end 11 = .ok (.getfield 141, 3) := by decide +kernel
theorem dX12_end_14 : decode cX12_end 14 = .ok (.if_icmp .le 5, 3) := by decide +kernel
theorem dX12_end_17 : decode cX12_end 17 = .ok (.iconst 0, 1) := by decide +kernel
theorem dX12_end_18 : decode cX12_end 18 = .ok (.ireturn, 1) := by decide +kernel
theorem dX12_end_19 : decode cX12_end 19 = .ok (.aload_n 0, 1) := by decide +kernel
theorem dX12_end_20 : decode cX12_end 20 = .ok (.iload_n 1, 1) := by decide +kernel
theorem dX12_end_21 : decode cX12_end 21 = .ok (.putfield 141, 3) := by decide +kernel
theorem dX12_end_24 : decode cX12_end 24 = .ok (.iconst 1, 1) := by decide +kernel
theorem dX12_end_25 : decode cX12_end 25 = .ok (.ireturn, 1) := by decide +kernel
theorem dX12_take_0 : decode cX12_take 0 = .ok (.aload_n 0, 1) := by decide +kernel
theorem dX12_take_1 : decode cX12_take 1 = .ok (.getfield 141, 3) := by decide +kernel
theorem dX12_take_4 : decode cX12_take 4 = .ok (.istore_n 1, 1) := by decide +kernel
theorem dX12_take_5 : decode cX12_take 5 = .ok (.aload_n 0, 1) := by decide +kernel
theorem dX12_take_6 : decode cX12_take 6 = .ok (.iconst 0, 1) := by decide +kernel
theorem dX12_take_7 : decode cX12_take 7 = .ok (.putfield 141, 3) := by decide +kernel
theorem dX12_take_10 : decode cX12_take 10 = .ok (.iload_n 1, 1) := by decide +kernel
theorem dX12_take_11 : decode cX12_take 11 = .ok (.ireturn, 1) := by decide +kernel
theorem dX12_isIn_0 : decode cX12_isIn 0 = .ok (.iload_n 0, 1) := by decide +kernel
theorem dX12_isIn_1 : decode cX12_isIn 1 = .ok (.iload_n 1, 1) := by decide +kernel
theorem dX12_isIn_2 : decode cX12_isIn 2 = .ok (.if_icmp .lt 12, 3) := by decide +kernel
theorem dX12_isIn_5 : decode cX12_isIn 5 = .ok (.iload_n 0, 1) := by decide +kernel
theorem dX12_isIn_6 : decode cX12_isIn 6 = .ok (.iload_n 2, 1) := by decide +kernel
theorem dX12_isIn_7 : decode cX12_isIn 7 = .ok (.if_icmp .gt 7, 3) := by decide +kernel
theorem dX12_isIn_10 : decode cX12_isIn 10 = .ok (.iconst 1, 1) := by decide +kernel
theorem dX12_isIn_11 : decode cX12_isIn 11 = .ok (.goto 4, 3) := by decide +kernel
theorem dX12_isIn_14 : decode cX12_isIn 14 = .ok (.iconst 0, 1) := by decide +kernel
theorem dX12_isIn_15 : decode cX12_isIn 15 = .ok (.ireturn, 1) := by decide +kernel
set_option maxRecDepth 20000 in
theorem ggX12_next_X12_isIn : GoodIn wsX12_next wsX12_isIn := goodIn_r _ [6] rfl (by decide +kernel)
set_option maxRecDepth 20000 in
theorem gX12_next_X12_isIn : GoodIn wsX12_next (va_wsS RX12 148 yX12_isIn wsX12_isIn) := goodIn_app (goodIn_r _ [3, 4, 5] rfl (by decide +kernel)) ggX12_next_X12_isIn
theorem dX12_next_0 : decode cX12_next 0 = .ok (.aload_n 0, 1) := by decide +kernel
theorem dX12_next_1 : decode cX12_next 1 = .ok (.iconst 0, 1) := by decide +kernel
theorem dX12_next_2 : decode cX12_next 2 = .ok (.putfield 138, 3) := by decide +kernel
theorem dX12_next_5 : decode cX12_next 5 = .ok (.iload_n 1, 1) := by decide +kernel
theorem dX12_next_6 : decode cX12_next 6 = .ok (.iconst 0, 1) := by decide +kernel
theorem dX12_next_7 : decode cX12_next 7 = .ok (.sipush 999, 3) := by decide +kernel
theorem dX12_next_10 : decode cX12_next 10 = .ok (.invokestatic 148, 3) := by decide +kernel
theorem dX12_next_13 : decode cX12_next 13 = .ok (.ifCond .eq 15, 3) := by decide +kernel
theorem dX12_next_16 : decode cX12_next 16 = .ok (.aload_n 0, 1) := by decide +kernel
theorem dX12_next_17 : decode cX12_next 17 = .ok (.getfield 152, 3) := by decide +kernel
theorem dX12_next_20 : decode cX12_next 20 = .ok (.iload_n 1, 1) := by decide +kernel
theorem dX12_next_21 : decode cX12_next 21 = .ok (.iadd, 1) := by decide +kernel
theorem dX12_next_22 : decode cX12_next 22 = .ok (.sipush 999, 3) := by decide +kernel
theorem dX12_next_25 : decode cX12_next 25 = .ok (.if_icmp .le 5, 3) := by decide +kernel
theorem dX12_next_28 : decode cX12_next 28 = .ok (.iconst (-1), 1) := by decide +kernel
theorem dX12_next_29 : decode cX12_next 29 = .ok (.ireturn, 1) := by decide +kernel
theorem dX12_next_30 : decode cX12_next 30 = .ok (.aload_n 0, 1) := by decide +kernel
theorem dX12_next_31 : decode cX12_next 31 = .ok (.dup, 1) := by decide +kernel
theorem dX12_next_32 : decode cX12_next 32 = .ok (.getfield 152, 3) := by decide +kernel
theorem dX12_next_35 : decode cX12_next 35 = .ok (.iload_n 1, 1) := by decide +kernel
theorem dX12_next_36 : decode cX12_next 36 = .ok (.iadd, 1) := by decide +kernel
theorem dX12_next_37 : decode cX12_next 37 = .ok (.putfield 152, 3) := by decide +kernel
theorem dX12_next_40 : decode cX12_next 40 = .ok (.aload_n 0, 1) := by decide +kernel
theorem dX12_next_41 : decode cX12_next 41 = .ok (.getfield 152, 3) := by decide +kernel
theorem dX12_next_44 : decode cX12_next 44 = .ok (.ireturn, 1) := by decide +kernel
set_option maxRecDepth 20000 in
theorem ggX12_towers_X12_isIn : GoodIn wsX12_towers wsX12_isIn := goodIn_r _ [8] rfl (by decide +kernel)
set_option maxRecDepth 20000 in
theorem gX12_towers_X12_isIn : GoodIn wsX12_towers (va_wsS RX12 148 yX12_isIn wsX12_isIn) := goodIn_app (goodIn_r _ [5, 6, 7] rfl (by decide +kernel)) ggX12_towers_X12_isIn
theorem dX12_towers_0 : decode cX12_towers 0 = .ok (.aload_n 0, 1) := by decide +kernel
theorem dX12_towers_1 : decode cX12_towers 1 = .ok (.iconst 0, 1) := by decide +kernel
theorem dX12_towers_2 : decode cX12_towers 2 = .ok (.putfield 138, 3) := by decide +kernel
theorem dX12_towers_5 : decode cX12_towers 5 = .ok (.iload_n 1, 1) := by decide +kernel
theorem dX12_towers_6 : decode cX12_towers 6 = .ok (.iconst 3, 1) := by decide +kernel
theorem dX12_towers_7 : decode cX12_towers 7 = .ok (.bipush 16, 2) := by decide +kernel
theorem dX12_towers_9 : decode cX12_towers 9 = .ok (.invokestatic 148, 3) := by decide +kernel
theorem dX12_towers_12 : decode cX12_towers 12 = .ok (.ifCond .eq 17, 3) := by decide +kernel
theorem dX12_towers_15 : decode cX12_towers 15 = .ok (.aload_n 0, 1) := by decide +kernel
theorem dX12_towers_16 : decode cX12_towers 16 = .ok (.getfield 155, 3) := by decide +kernel
theorem dX12_towers_19 : decode cX12_towers 19 = .ok (.ifCond .gt 10, 3) := by decide +kernel
theorem dX12_towers_22 : decode cX12_towers 22 = .ok (.aload_n 0, 1) := by decide +kernel
theorem dX12_towers_23 : decode cX12_towers 23 = .ok (.getfield 158, 3) := by decide +kernel
theorem dX12_towers_26 : decode cX12_towers 26 = .ok (.ifCond .le 5, 3) := by decide +kernel
theorem dX12_towers_29 : decode cX12_towers 29 = .ok (.iconst 0, 1) := by decide +kernel
theorem dX12_towers_30 : decode cX12_towers 30 = .ok (.ireturn, 1) := by decide +kernel
theorem dX12_towers_31 : decode cX12_towers 31 = .ok (.aload_n 0, 1) := by decide +kernel
theorem dX12_towers_32 : decode cX12_towers 32 = .ok (.iload_n 1, 1) := by decide +kernel
theorem dX12_towers_33 : decode cX12_towers 33 = .ok (.putfield 13, 3) := by decide +kernel
theorem dX12_towers_36 : decode cX12_towers 36 = .ok (.iconst 1, 1) := by decide +kernel
theorem dX12_towers_37 : decode cX12_towers 37 = .ok (.ireturn, 1) := by decide +kernel
theorem dX12_byteAt_0 : decode cX12_byteAt 0 = .ok (.iload_n 1, 1) := by decide +kernel
theorem dX12_byteAt_1 : decode cX12_byteAt 1 = .ok (.aload_n 0, 1) := by decide +kernel
theorem dX12_byteAt_2 : decode cX12_byteAt 2 = .ok (.getfield 161, 3) := by decide +kernel
theorem dX12_byteAt_5 : decode cX12_byteAt 5 = .ok (.if_icmp .ge 12, 3) := by decide +kernel
theorem dX12_byteAt_8 : decode cX12_byteAt 8 = .ok (.aload_n 0, 1) := by decide +kernel
theorem dX12_byteAt_9 : decode cX12_byteAt 9 = .ok (.getfield 7, 3) := by decide +kernel
theorem dX12_byteAt_12 : decode cX12_byteAt 12 = .ok (.iload_n 1, 1) := by decide +kernel
theorem dX12_byteAt_13 : decode cX12_byteAt 13 = .ok (.iaload, 1) := by decide +kernel
theorem dX12_byteAt_14 : decode cX12_byteAt 14 = .ok (.goto 4, 3) := by decide +kernel
theorem dX12_byteAt_17 : decode cX12_byteAt 17 = .ok (.iconst 0, 1) := by decide +kernel
theorem dX12_byteAt_18 : decode cX12_byteAt 18 = .ok (.ireturn, 1) := by decide +kernel
theorem dX12_isDigit_0 : decode cX12_isDigit 0 = .ok (.iload_n 0, 1) := by decide +kernel
theorem dX12_isDigit_1 : decode cX12_isDigit 1 = .ok (.bipush 48, 2) := by decide +kernel
theorem dX12_isDigit_3 : decode cX12_isDigit 3 = .ok (.if_icmp .lt 13, 3) := by decide +kernel
theorem dX12_isDigit_6 : decode cX12_isDigit 6 = .ok (.iload_n 0, 1) := by decide +kernel
theorem dX12_isDigit_7 : decode cX12_isDigit 7 = .ok (.bipush 57, 2) := by decide +kernel
theorem dX12_isDigit_9 : decode cX12_isDigit 9 = .ok (.if_icmp .gt 7, 3) := by decide +kernel
theorem dX12_isDigit_12 : decode cX12_isDigit 12 = .ok (.iconst 1, 1) := by decide +kernel
theorem dX12_isDigit_13 : decode cX12_isDigit 13 = .ok (.goto 4, 3) := by decide +kernel
theorem dX12_isDigit_16 : decode cX12_isDigit 16 = .ok (.iconst 0, 1) := by decide +kernel
theorem dX12_isDigit_17 : decode cX12_isDigit 17 = .ok (.ireturn, 1) := by decide +kernel
theorem dX12_isLetter_0 : decode cX12_isLetter 0 = .ok (.iload_n 0, 1) := by decide +kernel
theorem dX12_isLetter_1 : decode cX12_isLetter 1 = .ok (.bipush 97, 2) := by decide +kernel
theorem dX12_isLetter_3 : decode cX12_isLetter 3 = .ok (.if_icmp .lt 13, 3) := by decide +kernel
theorem dX12_isLetter_6 : decode cX12_isLetter 6 = .ok (.iload_n 0, 1) := by decide +kernel
theorem dX12_isLetter_7 : decode cX12_isLetter 7 = .ok (.bipush 122, 2) := by decide +kernel
theorem dX12_isLetter_9 : decode cX12_isLetter 9 = .ok (.if_icmp .gt 7, 3) := by decide +kernel
theorem dX12_isLetter_12 : decode cX12_isLetter 12 = .ok (.iconst 1, 1) := by decide +kernel
theorem dX12_isLetter_13 : decode cX12_isLetter 13 = .ok (.goto 4, 3) := by decide +kernel
theorem dX12_isLetter_16 : decode cX12_isLetter 16 = .ok (.iconst 0, 1) := by decide +kernel
theorem dX12_isLetter_17 : decode cX12_isLetter 17 = .ok (.ireturn, 1) := by decide +kernel
theorem dX12_isMark_0 : decode cX12_isMark 0 = .ok (.iload_n 0, 1) := by decide +kernel
theorem dX12_isMark_1 : decode cX12_isMark 1 = .ok (.bipush 59, 2) := by decide +kernel
theorem dX12_isMark_3 : decode cX12_isMark 3 = .ok (.if_icmp .eq 39, 3) := by decide +kernel
theorem dX12_isMark_6 : decode cX12_isMark 6 = .ok (.iload_n 0, 1) := by decide +kernel
theorem dX12_isMark_7 : decode cX12_isMark 7 = .ok (.bipush 44, 2) := by decide +kernel
theorem dX12_isMark_9 : decode cX12_isMark 9 = .ok (.if_icmp .eq 33, 3) := by decide +kernel
theorem dX12_isMark_12 : decode cX12_isMark 12 = .ok (.iload_n 0, 1) := by decide +kernel
theorem dX12_isMark_13 : decode cX12_isMark 13 = .ok (.bipush 43, 2) := by decide +kernel
theorem dX12_isMark_15 : decode cX12_isMark 15 = .ok (.if_icmp .eq 27, 3) := by decide +kernel
theorem dX12_isMark_18 : decode cX12_isMark 18 = .ok (.iload_n 0, 1) := by decide +kernel
theorem dX12_isMark_19 : decode cX12_isMark 19 = .ok (.bipush 60, 2) := by decide +kernel
theorem dX12_isMark_21 : decode cX12_isMark 21 = .ok (.if_icmp .eq 21, 3) := by decide +kernel
theorem dX12_isMark_24 : decode cX12_isMark 24 = .ok (.iload_n 0, 1) := by decide +kernel
theorem dX12_isMark_25 : decode cX12_isMark 25 = .ok (.bipush 61, 2) := by decide +kernel
theorem dX12_isMark_27 : decode cX12_isMark 27 = .ok (.if_icmp .eq 15, 3) := by decide +kernel
theorem dX12_isMark_30 : decode cX12_isMark 30 = .ok (.iload_n 0, 1) := by decide +kernel
theorem dX12_isMark_31 : decode cX12_isMark 31 = .ok (.bipush 62, 2) := by decide +kernel
theorem dX12_isMark_33 : decode cX12_isMark 33 = .ok (.if_icmp .eq 9, 3) := by decide +kernel
theorem dX12_isMark_36 : decode cX12_isMark 36 = .ok (.iload_n 0, 1) := by decide +kernel
theorem dX12_isMark_37 : decode cX12_isMark 37 = .ok (.bipush 35, 2) := by decide +kernel
theorem dX12_isMark_39 : decode cX12_isMark 39 = .ok (.if_icmp .ne 7, 3) := by decide +kernel
theorem dX12_isMark_42 : decode cX12_isMark 42 = .ok (.iconst 1, 1) := by decide +kernel
theorem dX12_isMark_43 : decode cX12_isMark 43 = .ok (.goto 4, 3) := by decide +kernel
theorem dX12_isMark_46 : decode cX12_isMark 46 = .ok (.iconst 0, 1) := by decide +kernel
theorem dX12_isMark_47 : decode cX12_isMark 47 = .ok (.ireturn, 1) := by decide +kernel
set_option maxRecDepth 20000 in
theorem ggX12_go_X12_isLetter : GoodIn wsX12_go wsX12_isLetter := goodIn_r _ [14] rfl (by decide +kernel)
set_option maxRecDepth 20000 in
theorem gX12_go_X12_isLetter : GoodIn wsX12_go (va_wsS RX12 173 yX12_isLetter wsX12_isLetter) := goodIn_app (goodIn_r _ [11, 12, 13] rfl (by decide +kernel)) ggX12_go_X12_isLetter
set_option maxRecDepth 20000 in
theorem ggX12_go_X12_isDigit : GoodIn wsX12_go wsX12_isDigit := goodIn_r _ [17] rfl (by decide +kernel)
set_option maxRecDepth 20000 in
theorem gX12_go_X12_isDigit : GoodIn wsX12_go (va_wsS RX12 177 yX12_isDigit wsX12_isDigit) := goodIn_app (goodIn_r _ [15, 16, 13] rfl (by decide +kernel)) ggX12_go_X12_isDigit
set_option maxRecDepth 20000 in
theorem ggX12_go_X12_isMark : GoodIn wsX12_go wsX12_isMark := goodIn_r _ [20] rfl (by decide +kernel)
set_option maxRecDepth 20000 in
theorem gX12_go_X12_isMark : GoodIn wsX12_go (va_wsS RX12 180 yX12_isMark wsX12_isMark) := goodIn_app (goodIn_r _ [18, 19, 13] rfl (by decide +kernel)) ggX12_go_X12_isMark
set_option maxRecDepth 20000 in
theorem ggX12_go_X12_byteAt : GoodIn wsX12_go wsX12_byteAt := goodIn_r _ [24, 2, 3, 25, 26, 27, 28, 29, 30, 31, 32, 33, 34, 35, 36, 37, 38, 39, 40, 41, 42, 43, 44, 45, 46, 47, 48, 49, 50, 51, 52, 53, 54, 55, 56, 57, 58, 59, 60, 61, 62, 63, 64, 65, 66, 67, 68, 69, 70, 71, 72, 73, 74, 75, 76, 77, 78, 79, 80, 81, 82, 83, 84, 85, 86, 87, 88, 89, 90, 91, 92, 93, 94, 95, 96, 97, 98, 99, 100, 101, 102, 103, 104, 105, 106, 107] rfl (by decide +kernel)
set_option maxRecDepth 20000 in
theorem gX12_go_X12_byteAt : GoodIn wsX12_go (wsV RX12 193 RX12 yX12_byteAt wsX12_byteAt) := goodIn_app (goodIn_r _ [21, 22, 23, 13] rfl (by decide +kernel)) ggX12_go_X12_byteAt
theorem dX12_go_0 : decode cX12_go 0 = .ok (.aload_n 0, 1) := by decide +kernel
theorem dX12_go_1 : decode cX12_go 1 = .ok (.getfield 164, 3) := by decide +kernel
theorem dX12_go_4 : decode cX12_go 4 = .ok (.aload_n 0, 1) := by decide +kernel
theorem dX12_go_5 : decode cX12_go 5 = .ok (.getfield 161, 3) := by decide +kernel
theorem dX12_go_8 : decode cX12_go 8 = .ok (.if_icmp .ge 44, 3) := by decide +kernel
theorem dX12_go_11 : decode cX12_go 11 = .ok (.aload_n 0, 1) := by decide +kernel
theorem dX12_go_12 : decode cX12_go 12 = .ok (.getfield 7, 3) := by decide +kernel
theorem dX12_go_15 : decode cX12_go 15 = .ok (.aload_n 0, 1) := by decide +kernel
theorem dX12_go_16 : decode cX12_go 16 = .ok (.getfield 164, 3) := by decide +kernel
theorem dX12_go_19 : decode cX12_go 19 = .ok (.iaload, 1) := by decide +kernel
theorem dX12_go_20 : decode cX12_go 20 = .ok (.bipush 32, 2) := by decide +kernel
theorem dX12_go_22 : decode cX12_go 22 = .ok (.if_icmp .eq 17, 3) := by decide +kernel
theorem dX12_go_25 : decode cX12_go 25 = .ok (.aload_n 0, 1) := by decide +kernel
theorem dX12_go_26 : decode cX12_go 26 = .ok (.getfield 7, 3) := by decide +kernel
theorem dX12_go_29 : decode cX12_go 29 = .ok (.aload_n 0, 1) := by decide +kernel
theorem dX12_go_30 : decode cX12_go 30 = .ok (.getfield 164, 3) := by decide +kernel
theorem dX12_go_33 : decode cX12_go 33 = .ok (.iaload, 1) := by decide +kernel
theorem dX12_go_34 : decode cX12_go 34 = .ok (.bipush 10, 2) := by decide +kernel
theorem dX12_go_36 : decode cX12_go 36 = .ok (.if_icmp .ne 16, 3) := by decide +kernel
theorem dX12_go_39 : decode cX12_go 39 = .ok (.aload_n 0, 1) := by decide +kernel
theorem dX12_go_40 : decode cX12_go 40 = .ok (.dup, 1) := by decide +kernel
theorem dX12_go_41 : decode cX12_go 41 = .ok (.getfield 164, 3) := by decide +kernel
theorem dX12_go_44 : decode cX12_go 44 = .ok (.iconst 1, 1) := by decide +kernel
theorem dX12_go_45 : decode cX12_go 45 = .ok (.iadd, 1) := by decide +kernel
theorem dX12_go_46 : decode cX12_go 46 = .ok (.putfield 164, 3) := by decide +kernel
theorem dX12_go_49 : decode cX12_go 49 = .ok (.goto (-49), 3) := by decide +kernel
theorem dX12_go_52 : decode cX12_go 52 = .ok (.aload_n 0, 1) := by decide +kernel
theorem dX12_go_53 : decode cX12_go 53 = .ok (.aload_n 0, 1) := by decide +kernel
theorem dX12_go_54 : decode cX12_go 54 = .ok (.getfield 164, 3) := by decide +kernel
theorem dX12_go_57 : decode cX12_go 57 = .ok (.putfield 167, 3) := by decide +kernel
theorem dX12_go_60 : decode cX12_go 60 = .ok (.aload_n 0, 1) := by decide +kernel
theorem dX12_go_61 : decode cX12_go 61 = .ok (.getfield 161, 3) := by decide +kernel
theorem dX12_go_64 : decode cX12_go 64 = .ok (.sipush 400, 3) := by decide +kernel
theorem dX12_go_67 : decode cX12_go 67 = .ok (.if_icmp .le 26, 3) := by decide +kernel
theorem dX12_go_70 : decode cX12_go 70 = .ok (.aload_n 0, 1) := by decide +kernel
theorem dX12_go_71 : decode cX12_go 71 = .ok (.getfield 167, 3) := by decide +kernel
theorem dX12_go_74 : decode cX12_go 74 = .ok (.sipush 400, 3) := by decide +kernel
theorem dX12_go_77 : decode cX12_go 77 = .ok (.if_icmp .lt 16, 3) := by decide +kernel
theorem dX12_go_80 : decode cX12_go 80 = .ok (.aload_n 0, 1) := by decide +kernel
theorem dX12_go_81 : decode cX12_go 81 = .ok (.sipush 400, 3) := by decide +kernel
theorem dX12_go_84 : decode cX12_go 84 = .ok (.putfield 167, 3) := by decide +kernel
theorem dX12_go_87 : decode cX12_go 87 = .ok (.aload_n 0, 1) := by decide +kernel
theorem dX12_go_88 : decode cX12_go 88 = .ok (.iconst 1, 1) := by decide +kernel
theorem dX12_go_89 : decode cX12_go 89 = .ok (.putfield 170, 3) := by decide +kernel
theorem dX12_go_92 : decode cX12_go 92 = .ok (.return_, 1) := by decide +kernel
theorem dX12_go_93 : decode cX12_go 93 = .ok (.aload_n 0, 1) := by decide +kernel
theorem dX12_go_94 : decode cX12_go 94 = .ok (.getfield 164, 3) := by decide +kernel
theorem dX12_go_97 : decode cX12_go 97 = .ok (.aload_n 0, 1) := by decide +kernel
theorem dX12_go_98 : decode cX12_go 98 = .ok (.getfield 161, 3) := by decide +kernel
theorem dX12_go_101 : decode cX12_go 101 = .ok (.if_icmp .lt 9, 3) := by decide +kernel
theorem dX12_go_104 : decode cX12_go 104 = .ok (.aload_n 0, 1) := by decide +kernel
theorem dX12_go_105 : decode cX12_go 105 = .ok (.iconst 0, 1) := by decide +kernel
theorem dX12_go_106 : decode cX12_go 106 = .ok (.putfield 170, 3) := by decide +kernel
theorem dX12_go_109 : decode cX12_go 109 = .ok (.return_, 1) := by decide +kernel
theorem dX12_go_110 : decode cX12_go 110 = .ok (.aload_n 0, 1) := by decide +kernel
theorem dX12_go_111 : decode cX12_go 111 = .ok (.getfield 7, 3) := by decide +kernel
theorem dX12_go_114 : decode cX12_go 114 = .ok (.aload_n 0, 1) := by decide +kernel
theorem dX12_go_115 : decode cX12_go 115 = .ok (.getfield 164, 3) := by decide +kernel
theorem dX12_go_118 : decode cX12_go 118 = .ok (.iaload, 1) := by decide +kernel
theorem dX12_go_119 : decode cX12_go 119 = .ok (.istore_n 1, 1) := by decide +kernel
theorem dX12_go_120 : decode cX12_go 120 = .ok (.iload_n 1, 1) := by decide +kernel
theorem dX12_go_121 : decode cX12_go 121 = .ok (.invokestatic 173, 3) := by decide +kernel
theorem dX12_go_124 : decode cX12_go 124 = .ok (.ifCond .ne 42, 3) := by decide +kernel
theorem dX12_go_127 : decode cX12_go 127 = .ok (.iload_n 1, 1) := by decide +kernel
theorem dX12_go_128 : decode cX12_go 128 = .ok (.invokestatic 177, 3) := by decide +kernel
theorem dX12_go_131 : decode cX12_go 131 = .ok (.ifCond .ne 35, 3) := by decide +kernel
theorem dX12_go_134 : decode cX12_go 134 = .ok (.aload_n 0, 1) := by decide +kernel
theorem dX12_go_135 : decode cX12_go 135 = .ok (.iload_n 1, 1) := by decide +kernel
theorem dX12_go_136 : decode cX12_go 136 = .ok (.invokestatic 180, 3) := by decide +kernel
theorem dX12_go_139 : decode cX12_go 139 = .ok (.ifCond .eq 7, 3) := by decide +kernel
theorem dX12_go_142 : decode cX12_go 142 = .ok (.iconst 4, 1) := by decide +kernel
theorem dX12_go_143 : decode cX12_go 143 = .ok (.goto 4, 3) := by decide +kernel
theorem dX12_go_146 : decode cX12_go 146 = .ok (.iconst 1, 1) := by decide +kernel
theorem dX12_go_147 : decode cX12_go 147 = .ok (.putfield 170, 3) := by decide +kernel
theorem dX12_go_150 : decode cX12_go 150 = .ok (.aload_n 0, 1) := by decide +kernel
theorem dX12_go_151 : decode cX12_go 151 = .ok (.iload_n 1, 1) := by decide +kernel
theorem dX12_go_152 : decode cX12_go 152 = .ok (.putfield 183, 3) := by decide +kernel
theorem dX12_go_155 : decode cX12_go 155 = .ok (.aload_n 0, 1) := by decide +kernel
theorem dX12_go_156 : decode cX12_go 156 = .ok (.dup, 1) := by decide +kernel
theorem dX12_go_157 : decode cX12_go 157 = .ok (.getfield 164, 3) := by decide +kernel
theorem dX12_go_160 : decode cX12_go 160 = .ok (.iconst 1, 1) := by decide +kernel
theorem dX12_go_161 : decode cX12_go 161 = .ok (.iadd, 1) := by decide +kernel
theorem dX12_go_162 : decode cX12_go 162 = .ok (.putfield 164, 3) := by decide +kernel
theorem dX12_go_165 : decode cX12_go 165 = .ok (.return_, 1) := by decide +kernel
theorem dX12_go_166 : decode cX12_go 166 = .ok (.iload_n 1, 1) := by decide +kernel
theorem dX12_go_167 : decode cX12_go 167 = .ok (.invokestatic 173, 3) := by decide +kernel
theorem dX12_go_170 : decode cX12_go 170 = .ok (.istore_n 2, 1) := by decide +kernel
theorem dX12_go_171 : decode cX12_go 171 = .ok (.iconst 1, 1) := by decide +kernel
theorem dX12_go_172 : decode cX12_go 172 = .ok (.istore_n 3, 1) := by decide +kernel
theorem dX12_go_173 : decode cX12_go 173 = .ok (.aload_n 0, 1) := by decide +kernel
theorem dX12_go_174 : decode cX12_go 174 = .ok (.lconst 0, 1) := by decide +kernel
theorem dX12_go_175 : decode cX12_go 175 = .ok (.putfield 186, 3) := by decide +kernel
theorem dX12_go_178 : decode cX12_go 178 = .ok (.aload_n 0, 1) := by decide +kernel
theorem dX12_go_179 : decode cX12_go 179 = .ok (.iconst 0, 1) := by decide +kernel
theorem dX12_go_180 : decode cX12_go 180 = .ok (.putfield 190, 3) := by decide +kernel
theorem dX12_go_183 : decode cX12_go 183 = .ok (.aload_n 0, 1) := by decide +kernel
theorem dX12_go_184 : decode cX12_go 184 = .ok (.aload_n 0, 1) := by decide +kernel
theorem dX12_go_185 : decode cX12_go 185 = .ok (.getfield 164, 3) := by decide +kernel
theorem dX12_go_188 : decode cX12_go 188 = .ok (.invokevirtual 193, 3) := by decide +kernel
theorem dX12_go_191 : decode cX12_go 191 = .ok (.invokestatic 173, 3) := by decide +kernel
theorem dX12_go_194 : decode cX12_go 194 = .ok (.ifCond .ne 17, 3) := by decide +kernel
theorem dX12_go_197 : decode cX12_go 197 = .ok (.aload_n 0, 1) := by decide +kernel
theorem dX12_go_198 : decode cX12_go 198 = .ok (.aload_n 0, 1) := by decide +kernel
theorem dX12_go_199 : decode cX12_go 199 = .ok (.getfield 164, 3) := by decide +kernel
theorem dX12_go_202 : decode cX12_go 202 = .ok (.invokevirtual 193, 3) := by decide +kernel
theorem dX12_go_205 : decode cX12_go 205 = .ok (.invokestatic 177, 3) := by decide +kernel
theorem dX12_go_208 : decode cX12_go 208 = .ok (.ifCond .eq 109, 3) := by decide +kernel
theorem dX12_go_211 : decode cX12_go 211 = .ok (.aload_n 0, 1) := by decide +kernel
theorem dX12_go_212 : decode cX12_go 212 = .ok (.getfield 7, 3) := by decide +kernel
theorem dX12_go_215 : decode cX12_go 215 = .ok (.aload_n 0, 1) := by decide +kernel
theorem dX12_go_216 : decode cX12_go 216 = .ok (.getfield 164, 3) := by decide +kernel
theorem dX12_go_219 : decode cX12_go 219 = .ok (.iaload, 1) := by decide +kernel
theorem dX12_go_220 : decode cX12_go 220 = .ok (.istore 4, 2) := by decide +kernel
theorem dX12_go_222 : decode cX12_go 222 = .ok (.iload_n 3, 1) := by decide +kernel
theorem dX12_go_223 : decode cX12_go 223 = .ok (.ifCond .eq 16, 3) := by decide +kernel
theorem dX12_go_226 : decode cX12_go 226 = .ok (.iload 4, 2) := by decide +kernel
theorem dX12_go_228 : decode cX12_go 228 = .ok (.invokestatic 173, 3) := by decide +kernel
theorem dX12_go_231 : decode cX12_go 231 = .ok (.iload_n 2, 1) := by decide +kernel
theorem dX12_go_232 : decode cX12_go 232 = .ok (.if_icmp .ne 7, 3) := by decide +kernel
theorem dX12_go_235 : decode cX12_go 235 = .ok (.iconst 1, 1) := by decide +kernel
theorem dX12_go_236 : decode cX12_go 236 = .ok (.goto 4, 3) := by decide +kernel
theorem dX12_go_239 : decode cX12_go 239 = .ok (.iconst 0, 1) := by decide +kernel
theorem dX12_go_240 : decode cX12_go 240 = .ok (.istore_n 3, 1) := by decide +kernel
theorem dX12_go_241 : decode cX12_go 241 = .ok (.aload_n 0, 1) := by decide +kernel
theorem dX12_go_242 : decode cX12_go 242 = .ok (.getfield 164, 3) := by decide +kernel
theorem dX12_go_245 : decode cX12_go 245 = .ok (.aload_n 0, 1) := by decide +kernel
theorem dX12_go_246 : decode cX12_go 246 = .ok (.getfield 167, 3) := by decide +kernel
theorem dX12_go_249 : decode cX12_go 249 = .ok (.isub, 1) := by decide +kernel
theorem dX12_go_250 : decode cX12_go 250 = .ok (.iconst 5, 1) := by decide +kernel
theorem dX12_go_251 : decode cX12_go 251 = .ok (.if_icmp .ge 23, 3) := by decide +kernel
theorem dX12_go_254 : decode cX12_go 254 = .ok (.aload_n 0, 1) := by decide +kernel
theorem dX12_go_255 : decode cX12_go 255 = .ok (.ldc2_w 197, 3) := by decide +kernel
theorem dX12_go_258 : decode cX12_go 258 = .ok (.aload_n 0, 1) := by decide +kernel
theorem dX12_go_259 : decode cX12_go 259 = .ok (.getfield 186, 3) := by decide +kernel
theorem dX12_go_262 : decode cX12_go 262 = .ok (.lmul, 1) := by decide +kernel
theorem dX12_go_263 : decode cX12_go 263 = .ok (.iload 4, 2) := by decide +kernel
theorem dX12_go_265 : decode cX12_go 265 = .ok (.i2l, 1) := by decide +kernel
theorem dX12_go_266 : decode cX12_go 266 = .ok (.ladd, 1) := by decide +kernel
theorem dX12_go_267 : decode cX12_go 267 = .ok (.ldc2_w 199, 3) := by decide +kernel
theorem dX12_go_270 : decode cX12_go 270 = .ok (.lsub, 1) := by decide +kernel
theorem dX12_go_271 : decode cX12_go 271 = .ok (.putfield 186, 3) := by decide +kernel
theorem dX12_go_274 : decode cX12_go 274 = .ok (.aload_n 0, 1) := by decide +kernel
theorem dX12_go_275 : decode cX12_go 275 = .ok (.getfield 164, 3) := by decide +kernel
theorem dX12_go_278 : decode cX12_go 278 = .ok (.aload_n 0, 1) := by decide +kernel
theorem dX12_go_279 : decode cX12_go 279 = .ok (.getfield 167, 3) := by decide +kernel
theorem dX12_go_282 : decode cX12_go 282 = .ok (.isub, 1) := by decide +kernel
theorem dX12_go_283 : decode cX12_go 283 = .ok (.iconst 2, 1) := by decide +kernel
theorem dX12_go_284 : decode cX12_go 284 = .ok (.if_icmp .ge 20, 3) := by decide +kernel
theorem dX12_go_287 : decode cX12_go 287 = .ok (.aload_n 0, 1) := by decide +kernel
theorem dX12_go_288 : decode cX12_go 288 = .ok (.bipush 10, 2) := by decide +kernel
theorem dX12_go_290 : decode cX12_go 290 = .ok (.aload_n 0, 1) := by decide +kernel
theorem dX12_go_291 : decode cX12_go 291 = .ok (.getfield 190, 3) := by decide +kernel
theorem dX12_go_294 : decode cX12_go 294 = .ok (.imul, 1) := by decide +kernel
theorem dX12_go_295 : decode cX12_go 295 = .ok (.iload 4, 2) := by decide +kernel
theorem dX12_go_297 : decode cX12_go 297 = .ok (.iadd, 1) := by decide +kernel
theorem dX12_go_298 : decode cX12_go 298 = .ok (.bipush 48, 2) := by decide +kernel
theorem dX12_go_300 : decode cX12_go 300 = .ok (.isub, 1) := by decide +kernel
theorem dX12_go_301 : decode cX12_go 301 = .ok (.putfield 190, 3) := by decide +kernel
theorem dX12_go_304 : decode cX12_go 304 = .ok (.aload_n 0, 1) := by decide +kernel
theorem dX12_go_305 : decode cX12_go 305 = .ok (.dup, 1) := by decide +kernel
theorem dX12_go_306 : decode cX12_go 306 = .ok (.getfield 164, 3) := by decide +kernel
theorem dX12_go_309 : decode cX12_go 309 = .ok (.iconst 1, 1) := by decide +kernel
theorem dX12_go_310 : decode cX12_go 310 = .ok (.iadd, 1) := by decide +kernel
theorem dX12_go_311 : decode cX12_go 311 = .ok (.putfield 164, 3) := by decide +kernel
theorem dX12_go_314 : decode cX12_go 314 = .ok (.goto (-131), 3) := by decide +kernel
theorem dX12_go_317 : decode cX12_go 317 = .ok (.aload_n 0, 1) := by decide +kernel
theorem dX12_go_318 : decode cX12_go 318 = .ok (.iload_n 3, 1) := by decide +kernel
theorem dX12_go_319 : decode cX12_go 319 = .ok (.ifCond .eq 24, 3) := by decide +kernel
theorem dX12_go_322 : decode cX12_go 322 = .ok (.aload_n 0, 1) := by decide +kernel
theorem dX12_go_323 : decode cX12_go 323 = .ok (.getfield 164, 3) := by decide +kernel
theorem dX12_go_326 : decode cX12_go 326 = .ok (.aload_n 0, 1) := by decide +kernel
theorem dX12_go_327 : decode cX12_go 327 = .ok (.getfield 167, 3) := by decide +kernel
theorem dX12_go_330 : decode cX12_go 330 = .ok (.isub, 1) := by decide +kernel
theorem dX12_go_331 : decode cX12_go 331 = .ok (.iload_n 2, 1) := by decide +kernel
theorem dX12_go_332 : decode cX12_go 332 = .ok (.ifCond .eq 7, 3) := by decide +kernel
theorem dX12_go_335 : decode cX12_go 335 = .ok (.iconst 5, 1) := by decide +kernel
theorem dX12_go_336 : decode cX12_go 336 = .ok (.goto 4, 3) := by decide +kernel
theorem dX12_go_339 : decode cX12_go 339 = .ok (.iconst 2, 1) := by decide +kernel
theorem dX12_go_340 : decode cX12_go 340 = .ok (.if_icmp .le 7, 3) := by decide +kernel
theorem dX12_go_343 : decode cX12_go 343 = .ok (.iconst 1, 1) := by decide +kernel
theorem dX12_go_344 : decode cX12_go 344 = .ok (.goto 12, 3) := by decide +kernel
theorem dX12_go_347 : decode cX12_go 347 = .ok (.iload_n 2, 1) := by decide +kernel
theorem dX12_go_348 : decode cX12_go 348 = .ok (.ifCond .eq 7, 3) := by decide +kernel
theorem dX12_go_351 : decode cX12_go 351 = .ok (.iconst 2, 1) := by decide +kernel
theorem dX12_go_352 : decode cX12_go 352 = .ok (.goto 4, 3) := by decide +kernel
theorem dX12_go_355 : decode cX12_go 355 = .ok (.iconst 3, 1) := by decide +kernel
theorem dX12_go_356 : decode cX12_go 356 = .ok (.putfield 170, 3) := by decide +kernel
theorem dX12_go_359 : decode cX12_go 359 = .ok (.return_, 1) := by decide +kernel
theorem dX12_spelt_0 : decode cX12_spelt 0 = .ok (.ldc2_w 197, 3) := by decide +kernel
theorem dX12_spelt_3 : decode cX12_spelt 3 = .ok (.iload_n 0, 1) := by decide +kernel
theorem dX12_spelt_4 : decode cX12_spelt 4 = .ok (.i2l, 1) := by decide +kernel
theorem dX12_spelt_5 : decode cX12_spelt 5 = .ok (.ldc2_w 199, 3) := by decide +kernel
theorem dX12_spelt_8 : decode cX12_spelt 8 = .ok (.lsub, 1) := by decide +kernel
theorem dX12_spelt_9 : decode cX12_spelt 9 = .ok (.lmul, 1) := by decide +kernel
theorem dX12_spelt_10 : decode cX12_spelt 10 = .ok (.iload_n 1, 1) := by decide +kernel
theorem dX12_spelt_11 : decode cX12_spelt 11 = .ok (.i2l, 1) := by decide +kernel
theorem dX12_spelt_12 : decode cX12_spelt 12 = .ok (.ladd, 1) := by decide +kernel
theorem dX12_spelt_13 : decode cX12_spelt 13 = .ok (.ldc2_w 199, 3) := by decide +kernel
theorem dX12_spelt_16 : decode cX12_spelt 16 = .ok (.lsub, 1) := by decide +kernel
theorem dX12_spelt_17 : decode cX12_spelt 17 = .ok (.lstore 5, 2) := by decide +kernel
theorem dX12_spelt_19 : decode cX12_spelt 19 = .ok (.iload_n 2, 1) := by decide +kernel
theorem dX12_spelt_20 : decode cX12_spelt 20 = .ok (.ifCond .le 18, 3) := by decide +kernel
theorem dX12_spelt_23 : decode cX12_spelt 23 = .ok (.ldc2_w 197, 3) := by decide +kernel
theorem dX12_spelt_26 : decode cX12_spelt 26 = .ok (.lload 5, 2) := by decide +kernel
theorem dX12_spelt_28 : decode cX12_spelt 28 = .ok (.lmul, 1) := by decide +kernel
theorem dX12_spelt_29 : decode cX12_spelt 29 = .ok (.iload_n 2, 1) := by decide +kernel
theorem dX12_spelt_30 : decode cX12_spelt 30 = .ok (.i2l, 1) := by decide +kernel
theorem dX12_spelt_31 : decode cX12_spelt 31 = .ok (.ladd, 1) := by decide +kernel
theorem dX12_spelt_32 : decode cX12_spelt 32 = .ok (.ldc2_w 199, 3) := by decide +kernel
theorem dX12_spelt_35 : decode cX12_spelt 35 = .ok (.lsub, 1) := by decide +kernel
theorem dX12_spelt_36 : decode cX12_spelt 36 = .ok (.lstore 5, 2) := by decide +kernel
theorem dX12_spelt_38 : decode cX12_spelt 38 = .ok (.iload_n 3, 1) := by decide +kernel
theorem dX12_spelt_39 : decode cX12_spelt 39 = .ok (.ifCond .le 18, 3) := by decide +kernel
theorem dX12_spelt_42 : decode cX12_spelt 42 = .ok (.ldc2_w 197, 3) := by decide +kernel
theorem dX12_spelt_45 : decode cX12_spelt 45 = .ok (.lload 5, 2) := by decide +kernel
theorem dX12_spelt_47 : decode cX12_spelt 47 = .ok (.lmul, 1) := by decide +kernel
theorem dX12_spelt_48 : decode cX12_spelt 48 = .ok (.iload_n 3, 1) := by decide +kernel
theorem dX12_spelt_49 : decode cX12_spelt 49 = .ok (.i2l, 1) := by decide +kernel
theorem dX12_spelt_50 : decode cX12_spelt 50 = .ok (.ladd, 1) := by decide +kernel
theorem dX12_spelt_51 : decode cX12_spelt 51 = .ok (.ldc2_w 199, 3) := by decide +kernel
theorem dX12_spelt_54 : decode cX12_spelt 54 = .ok (.lsub, 1) := by decide +kernel
theorem dX12_spelt_55 : decode cX12_spelt 55 = .ok (.lstore 5, 2) := by decide +kernel
theorem dX12_spelt_57 : decode cX12_spelt 57 = .ok (.iload 4, 2) := by decide +kernel
theorem dX12_spelt_59 : decode cX12_spelt 59 = .ok (.ifCond .le 20, 3) := by decide +kernel
theorem dX12_spelt_62 : decode cX12_spelt 62 = .ok (.ldc2_w 197, 3) := by decide +kernel
theorem dX12_spelt_65 : decode cX12_spelt 65 = .ok (.lload 5, 2) := by decide +kernel
theorem dX12_spelt_67 : decode cX12_spelt 67 = .ok (.lmul, 1) := by decide +kernel
theorem dX12_spelt_68 : decode cX12_spelt 68 = .ok (.iload 4, 2) := by decide +kernel
theorem dX12_spelt_70 : decode cX12_spelt 70 = .ok (.i2l, 1) := by decide +kernel
theorem dX12_spelt_71 : decode cX12_spelt 71 = .ok (.ladd, 1) := by decide +kernel
theorem dX12_spelt_72 : decode cX12_spelt 72 = .ok (.ldc2_w 199, 3) := by decide +kernel
theorem dX12_spelt_75 : decode cX12_spelt 75 = .ok (.lsub, 1) := by decide +kernel
theorem dX12_spelt_76 : decode cX12_spelt 76 = .ok (.goto 5, 3) := by decide +kernel
theorem dX12_spelt_79 : decode cX12_spelt 79 = .ok (.lload 5, 2) := by decide +kernel
theorem dX12_spelt_81 : decode cX12_spelt 81 = .ok (.lreturn, 1) := by decide +kernel
theorem dX12_isKey_0 : decode cX12_isKey 0 = .ok (.aload_n 0, 1) := by decide +kernel
theorem dX12_isKey_1 : decode cX12_isKey 1 = .ok (.getfield 170, 3) := by decide +kernel
theorem dX12_isKey_4 : decode cX12_isKey 4 = .ok (.iconst 2, 1) := by decide +kernel
theorem dX12_isKey_5 : decode cX12_isKey 5 = .ok (.if_icmp .ne 16, 3) := by decide +kernel
theorem dX12_isKey_8 : decode cX12_isKey 8 = .ok (.aload_n 0, 1) := by decide +kernel
theorem dX12_isKey_9 : decode cX12_isKey 9 = .ok (.getfield 186, 3) := by decide +kernel
theorem dX12_isKey_12 : decode cX12_isKey 12 = .ok (.lload_n 1, 1) := by decide +kernel
theorem dX12_isKey_13 : decode cX12_isKey 13 = .ok (.lcmp, 1) := by decide +kernel
theorem dX12_isKey_14 : decode cX12_isKey 14 = .ok (.ifCond .ne 7, 3) := by decide +kernel
theorem dX12_isKey_17 : decode cX12_isKey 17 = .ok (.iconst 1, 1) := by decide +kernel
theorem dX12_isKey_18 : decode cX12_isKey 18 = .ok (.goto 4, 3) := by decide +kernel
theorem dX12_isKey_21 : decode cX12_isKey 21 = .ok (.iconst 0, 1) := by decide +kernel
theorem dX12_isKey_22 : decode cX12_isKey 22 = .ok (.ireturn, 1) := by decide +kernel
theorem dX12_bad_0 : decode cX12_bad 0 = .ok (.aload_n 0, 1) := by decide +kernel
theorem dX12_bad_1 : decode cX12_bad 1 = .ok (.aload_n 0, 1) := by decide +kernel
theorem dX12_bad_2 : decode cX12_bad 2 = .ok (.getfield 170, 3) := by decide +kernel
theorem dX12_bad_5 : decode cX12_bad 5 = .ok (.iconst 1, 1) := by decide +kernel
theorem dX12_bad_6 : decode cX12_bad 6 = .ok (.if_icmp .ne 7, 3) := by decide +kernel
theorem dX12_bad_9 : decode cX12_bad 9 = .ok (.iconst 1, 1) := by decide +kernel
theorem dX12_bad_10 : decode cX12_bad 10 = .ok (.goto 4, 3) := by decide +kernel
theorem dX12_bad_13 : decode cX12_bad 13 = .ok (.iload_n 1, 1) := by decide +kernel
theorem dX12_bad_14 : decode cX12_bad 14 = .ok (.putfield 201, 3) := by decide +kernel
theorem dX12_bad_17 : decode cX12_bad 17 = .ok (.aload_n 0, 1) := by decide +kernel
theorem dX12_bad_18 : decode cX12_bad 18 = .ok (.aload_n 0, 1) := by decide +kernel
theorem dX12_bad_19 : decode cX12_bad 19 = .ok (.getfield 167, 3) := by decide +kernel
theorem dX12_bad_22 : decode cX12_bad 22 = .ok (.putfield 204, 3) := by decide +kernel
theorem dX12_bad_25 : decode cX12_bad 25 = .ok (.iconst 0, 1) := by decide +kernel
theorem dX12_bad_26 : decode cX12_bad 26 = .ok (.ireturn, 1) := by decide +kernel
theorem dX12_isSign_0 : decode cX12_isSign 0 = .ok (.aload_n 0, 1) := by decide +kernel
theorem dX12_isSign_1 : decode cX12_isSign 1 = .ok (.getfield 170, 3) := by decide +kernel
theorem dX12_isSign_4 : decode cX12_isSign 4 = .ok (.iconst 4, 1) := by decide +kernel
theorem dX12_isSign_5 : decode cX12_isSign 5 = .ok (.if_icmp .ne 15, 3) := by decide +kernel
theorem dX12_isSign_8 : decode cX12_isSign 8 = .ok (.aload_n 0, 1) := by decide +kernel
theorem dX12_isSign_9 : decode cX12_isSign 9 = .ok (.getfield 183, 3) := by decide +kernel
theorem dX12_isSign_12 : decode cX12_isSign 12 = .ok (.iload_n 1, 1) := by decide +kernel
theorem dX12_isSign_13 : decode cX12_isSign 13 = .ok (.if_icmp .ne 7, 3) := by decide +kernel
theorem dX12_isSign_16 : decode cX12_isSign 16 = .ok (.iconst 1, 1) := by decide +kernel
theorem dX12_isSign_17 : decode cX12_isSign 17 = .ok (.goto 4, 3) := by decide +kernel
theorem dX12_isSign_20 : decode cX12_isSign 20 = .ok (.iconst 0, 1) := by decide +kernel
theorem dX12_isSign_21 : decode cX12_isSign 21 = .ok (.ireturn, 1) := by decide +kernel
set_option maxRecDepth 20000 in
theorem ggX12_readKey_X12_isKey : GoodIn wsX12_readKey wsX12_isKey := goodIn_r _ [5, 6, 7, 39, 40, 41, 42, 43, 44, 45, 46, 47, 48, 49, 50, 51, 52, 53, 54, 55, 56, 57, 58, 59, 60, 61, 62, 63, 64, 65, 66, 67, 68, 69, 70, 71, 72, 73, 74, 75, 76, 77, 78, 79, 80, 81, 82, 83, 84, 85, 86, 87, 88, 89, 90, 91, 92, 93, 94, 95, 96, 97, 98, 99, 100, 101, 102, 103, 104, 105, 106, 107, 108, 109, 110, 111, 112, 113, 114, 115, 116, 117, 118, 119, 120, 121] rfl (by decide +kernel)
set_option maxRecDepth 20000 in
theorem gX12_readKey_X12_isKey : GoodIn wsX12_readKey (wsV RX12 207 RX12 yX12_isKey wsX12_isKey) := goodIn_app (goodIn_r _ [1, 2, 3, 4] rfl (by decide +kernel)) ggX12_readKey_X12_isKey
set_option maxRecDepth 20000 in
theorem ggX12_readKey_X12_bad : GoodIn wsX12_readKey wsX12_bad := goodIn_r _ [11, 6, 12, 13, 14, 39, 40, 41, 42, 43, 44, 45, 46, 47, 48, 49, 50, 51, 52, 53, 54, 55, 56, 57, 58, 59, 60, 61, 62, 63, 64, 65, 66, 67, 68, 69, 70, 71, 72, 73, 74, 75, 76, 77, 78, 79, 80, 81, 82, 83, 84, 85, 86, 87, 88, 89, 90, 91, 92, 93, 94, 95, 96, 97, 98, 99, 100, 101, 102, 103, 104, 105, 106, 107, 108, 109, 110, 111, 112, 113, 114, 115, 116, 117, 118, 119, 120, 121] rfl (by decide +kernel)
set_option maxRecDepth 20000 in
theorem gX12_readKey_X12_bad : GoodIn wsX12_readKey (wsV RX12 211 RX12 yX12_bad wsX12_bad) := goodIn_app (goodIn_r _ [8, 9, 10, 4] rfl (by decide +kernel)) ggX12_readKey_X12_bad
set_option maxRecDepth 20000 in
theorem ggX12_readKey_X12_go : GoodIn wsX12_readKey wsX12_go := goodIn_r _ [18, 19, 20, 21, 13, 6, 22, 7, 23, 24, 25, 26, 27, 4, 28, 29, 30, 31, 32, 33, 34, 35, 36, 37, 38, 39, 40, 41, 42, 43, 44, 45, 46, 47, 48, 49, 50, 51, 52, 53, 54, 55, 56, 57, 58, 59, 60, 61, 62, 63, 64, 65, 66, 67, 68, 69, 70, 71, 72, 73, 74, 75, 76, 77, 78, 79, 80, 81, 82, 83, 84, 85, 86, 87, 88, 89, 90, 91, 92, 93, 94, 95, 96, 97, 98, 99, 100, 101, 102, 103, 104, 105, 106, 107, 108, 109, 110, 111, 112, 113, 114, 115, 116, 117, 118, 119, 120, 121] rfl (by decide +kernel)
set_option maxRecDepth 20000 in
theorem gX12_readKey_X12_go : GoodIn wsX12_readKey (wsV RX12 214 RX12 yX12_go wsX12_go) := goodIn_app (goodIn_r _ [15, 16, 17, 4] rfl (by decide +kernel)) ggX12_readKey_X12_go
theorem dX12_readKey_0 : decode cX12_readKey 0 = .ok (.aload_n 0, 1) := by decide +kernel
theorem dX12_readKey_1 : decode cX12_readKey 1 = .ok (.lload_n 1, 1) := by decide +kernel
theorem dX12_readKey_2 : decode cX12_readKey 2 = .ok (.invokevirtual 207, 3) := by decide +kernel
theorem dX12_readKey_5 : decode cX12_readKey 5 = .ok (.ifCond .ne 9, 3) := by decide +kernel
theorem dX12_readKey_8 : decode cX12_readKey 8 = .ok (.aload_n 0, 1) := by decide +kernel
theorem dX12_readKey_9 : decode cX12_readKey 9 = .ok (.iconst 1, 1) := by decide +kernel
theorem dX12_readKey_10 : decode cX12_readKey 10 = .ok (.invokevirtual 211, 3) := by decide +kernel
theorem dX12_readKey_13 : decode cX12_readKey 13 = .ok (.ireturn, 1) := by decide +kernel
theorem dX12_readKey_14 : decode cX12_readKey 14 = .ok (.aload_n 0, 1) := by decide +kernel
theorem dX12_readKey_15 : decode cX12_readKey 15 = .ok (.invokevirtual 214, 3) := by decide +kernel
theorem dX12_readKey_18 : decode cX12_readKey 18 = .ok (.iconst 1, 1) := by decide +kernel
theorem dX12_readKey_19 : decode cX12_readKey 19 = .ok (.ireturn, 1) := by decide +kernel
theorem dX12_isCell_0 : decode cX12_isCell 0 = .ok (.aload_n 0, 1) := by decide +kernel
theorem dX12_isCell_1 : decode cX12_isCell 1 = .ok (.getfield 170, 3) := by decide +kernel
theorem dX12_isCell_4 : decode cX12_isCell 4 = .ok (.iconst 2, 1) := by decide +kernel
theorem dX12_isCell_5 : decode cX12_isCell 5 = .ok (.if_icmp .ne 27, 3) := by decide +kernel
theorem dX12_isCell_8 : decode cX12_isCell 8 = .ok (.aload_n 0, 1) := by decide +kernel
theorem dX12_isCell_9 : decode cX12_isCell 9 = .ok (.getfield 186, 3) := by decide +kernel
theorem dX12_isCell_12 : decode cX12_isCell 12 = .ok (.lconst 1, 1) := by decide +kernel
theorem dX12_isCell_13 : decode cX12_isCell 13 = .ok (.lcmp, 1) := by decide +kernel
theorem dX12_isCell_14 : decode cX12_isCell 14 = .ok (.ifCond .lt 18, 3) := by decide +kernel
theorem dX12_isCell_17 : decode cX12_isCell 17 = .ok (.aload_n 0, 1) := by decide +kernel
theorem dX12_isCell_18 : decode cX12_isCell 18 = .ok (.getfield 186, 3) := by decide +kernel
theorem dX12_isCell_21 : decode cX12_isCell 21 = .ok (.ldc2_w 217, 3) := by decide +kernel
theorem dX12_isCell_24 : decode cX12_isCell 24 = .ok (.lcmp, 1) := by decide +kernel
theorem dX12_isCell_25 : decode cX12_isCell 25 = .ok (.ifCond .gt 7, 3) := by decide +kernel
theorem dX12_isCell_28 : decode cX12_isCell 28 = .ok (.iconst 1, 1) := by decide +kernel
theorem dX12_isCell_29 : decode cX12_isCell 29 = .ok (.goto 4, 3) := by decide +kernel
theorem dX12_isCell_32 : decode cX12_isCell 32 = .ok (.iconst 0, 1) := by decide +kernel
theorem dX12_isCell_33 : decode cX12_isCell 33 = .ok (.ireturn, 1) := by decide +kernel
set_option maxRecDepth 20000 in
theorem ggX12_readValue_X12_isCell : GoodIn wsX12_readValue wsX12_isCell := goodIn_r _ [9, 1, 4, 10, 48, 49, 50, 51, 52, 53, 54, 55, 56, 57, 58, 59, 60, 61, 62, 63, 64, 65, 66, 67, 68, 69, 70, 71, 72, 73, 74, 75, 76, 77, 78, 79, 80, 81, 82, 83, 84, 85, 86, 87, 88, 89, 90, 91, 92, 93, 94, 95, 96, 97, 98, 99, 100, 101, 102, 103, 104, 105, 106, 107, 108, 109, 110, 111, 112, 113, 114, 115, 116, 117, 118, 119, 120, 121, 122, 123, 124, 125, 126, 127, 128, 129, 130] rfl (by decide +kernel)
set_option maxRecDepth 20000 in
theorem gX12_readValue_X12_isCell : GoodIn wsX12_readValue (wsV RX12 222 RX12 yX12_isCell wsX12_isCell) := goodIn_app (goodIn_r _ [5, 6, 7, 8] rfl (by decide +kernel)) ggX12_readValue_X12_isCell
set_option maxRecDepth 20000 in
theorem ggX12_readValue_X12_spelt : GoodIn wsX12_readValue wsX12_spelt := goodIn_r _ [13, 14, 15] rfl (by decide +kernel)
set_option maxRecDepth 20000 in
theorem gX12_readValue_X12_spelt : GoodIn wsX12_readValue (va_wsS RX12 226 yX12_spelt wsX12_spelt) := goodIn_app (goodIn_r _ [11, 12, 8] rfl (by decide +kernel)) ggX12_readValue_X12_spelt
set_option maxRecDepth 20000 in
theorem ggX12_readValue_X12_isKey : GoodIn wsX12_readValue wsX12_isKey := goodIn_r _ [19, 1, 4, 48, 49, 50, 51, 52, 53, 54, 55, 56, 57, 58, 59, 60, 61, 62, 63, 64, 65, 66, 67, 68, 69, 70, 71, 72, 73, 74, 75, 76, 77, 78, 79, 80, 81, 82, 83, 84, 85, 86, 87, 88, 89, 90, 91, 92, 93, 94, 95, 96, 97, 98, 99, 100, 101, 102, 103, 104, 105, 106, 107, 108, 109, 110, 111, 112, 113, 114, 115, 116, 117, 118, 119, 120, 121, 122, 123, 124, 125, 126, 127, 128, 129, 130] rfl (by decide +kernel)
set_option maxRecDepth 20000 in
theorem gX12_readValue_X12_isKey : GoodIn wsX12_readValue (wsV RX12 207 RX12 yX12_isKey wsX12_isKey) := goodIn_app (goodIn_r _ [16, 17, 18, 8] rfl (by decide +kernel)) ggX12_readValue_X12_isKey
set_option maxRecDepth 20000 in
theorem ggX12_readValue_X12_bad : GoodIn wsX12_readValue wsX12_bad := goodIn_r _ [23, 1, 24, 25, 26, 48, 49, 50, 51, 52, 53, 54, 55, 56, 57, 58, 59, 60, 61, 62, 63, 64, 65, 66, 67, 68, 69, 70, 71, 72, 73, 74, 75, 76, 77, 78, 79, 80, 81, 82, 83, 84, 85, 86, 87, 88, 89, 90, 91, 92, 93, 94, 95, 96, 97, 98, 99, 100, 101, 102, 103, 104, 105, 106, 107, 108, 109, 110, 111, 112, 113, 114, 115, 116, 117, 118, 119, 120, 121, 122, 123, 124, 125, 126, 127, 128, 129, 130] rfl (by decide +kernel)
set_option maxRecDepth 20000 in
theorem gX12_readValue_X12_bad : GoodIn wsX12_readValue (wsV RX12 211 RX12 yX12_bad wsX12_bad) := goodIn_app (goodIn_r _ [20, 21, 22, 8] rfl (by decide +kernel)) ggX12_readValue_X12_bad
set_option maxRecDepth 20000 in
theorem ggX12_readValue_X12_go : GoodIn wsX12_readValue wsX12_go := goodIn_r _ [30, 31, 32, 33, 25, 1, 34, 4, 2, 14, 15, 35, 36, 8, 37, 38, 39, 40, 41, 42, 43, 44, 45, 46, 47, 48, 49, 50, 51, 52, 53, 54, 55, 56, 57, 58, 59, 60, 61, 62, 63, 64, 65, 66, 67, 68, 69, 70, 71, 72, 73, 74, 75, 76, 77, 78, 79, 80, 81, 82, 83, 84, 85, 86, 87, 88, 89, 90, 91, 92, 93, 94, 95, 96, 97, 98, 99, 100, 101, 102, 103, 104, 105, 106, 107, 108, 109, 110, 111, 112, 113, 114, 115, 116, 117, 118, 119, 120, 121, 122, 123, 124, 125, 126, 127, 128, 129, 130] rfl (by decide +kernel)
set_option maxRecDepth 20000 in
theorem gX12_readValue_X12_go : GoodIn wsX12_readValue (wsV RX12 214 RX12 yX12_go wsX12_go) := goodIn_app (goodIn_r _ [27, 28, 29, 8] rfl (by decide +kernel)) ggX12_readValue_X12_go
theorem dX12_readValue_0 : decode cX12_readValue 0 = .ok (.aload_n 0, 1) := by decide +kernel
theorem dX12_readValue_1 : decode cX12_readValue 1 = .ok (.getfield 170, 3) := by decide +kernel
theorem dX12_readValue_4 : decode cX12_readValue 4 = .ok (.iconst 3, 1) := by decide +kernel
theorem dX12_readValue_5 : decode cX12_readValue 5 = .ok (.if_icmp .ne 14, 3) := by decide +kernel
theorem dX12_readValue_8 : decode cX12_readValue 8 = .ok (.aload_n 0, 1) := by decide +kernel
theorem dX12_readValue_9 : decode cX12_readValue 9 = .ok (.aload_n 0, 1) := by decide +kernel
theorem dX12_readValue_10 : decode cX12_readValue 10 = .ok (.getfield 190, 3) := by decide +kernel
theorem dX12_readValue_13 : decode cX12_readValue 13 = .ok (.putfield 219, 3) := by decide +kernel
theorem dX12_readValue_16 : decode cX12_readValue 16 = .ok (.goto 202, 3) := by decide +kernel
theorem dX12_readValue_19 : decode cX12_readValue 19 = .ok (.aload_n 0, 1) := by decide +kernel
theorem dX12_readValue_20 : decode cX12_readValue 20 = .ok (.invokevirtual 222, 3) := by decide +kernel
theorem dX12_readValue_23 : decode cX12_readValue 23 = .ok (.ifCond .eq 20, 3) := by decide +kernel
theorem dX12_readValue_26 : decode cX12_readValue 26 = .ok (.aload_n 0, 1) := by decide +kernel
theorem dX12_readValue_27 : decode cX12_readValue 27 = .ok (.bipush 106, 2) := by decide +kernel
theorem dX12_readValue_29 : decode cX12_readValue 29 = .ok (.aload_n 0, 1) := by decide +kernel
theorem dX12_readValue_30 : decode cX12_readValue 30 = .ok (.getfield 186, 3) := by decide +kernel
theorem dX12_readValue_33 : decode cX12_readValue 33 = .ok (.l2i, 1) := by decide +kernel
theorem dX12_readValue_34 : decode cX12_readValue 34 = .ok (.iadd, 1) := by decide +kernel
theorem dX12_readValue_35 : decode cX12_readValue 35 = .ok (.iconst 1, 1) := by decide +kernel
theorem dX12_readValue_36 : decode cX12_readValue 36 = .ok (.isub, 1) := by decide +kernel
theorem dX12_readValue_37 : decode cX12_readValue 37 = .ok (.putfield 219, 3) := by decide +kernel
theorem dX12_readValue_40 : decode cX12_readValue 40 = .ok (.goto 178, 3) := by decide +kernel
theorem dX12_readValue_43 : decode cX12_readValue 43 = .ok (.aload_n 0, 1) := by decide +kernel
theorem dX12_readValue_44 : decode cX12_readValue 44 = .ok (.bipush 108, 2) := by decide +kernel
theorem dX12_readValue_46 : decode cX12_readValue 46 = .ok (.bipush 101, 2) := by decide +kernel
theorem dX12_readValue_48 : decode cX12_readValue 48 = .ok (.bipush 102, 2) := by decide +kernel
theorem dX12_readValue_50 : decode cX12_readValue 50 = .ok (.bipush 116, 2) := by decide +kernel
theorem dX12_readValue_52 : decode cX12_readValue 52 = .ok (.iconst 0, 1) := by decide +kernel
theorem dX12_readValue_53 : decode cX12_readValue 53 = .ok (.invokestatic 226, 3) := by decide +kernel
theorem dX12_readValue_56 : decode cX12_readValue 56 = .ok (.invokevirtual 207, 3) := by decide +kernel
theorem dX12_readValue_59 : decode cX12_readValue 59 = .ok (.ifCond .eq 12, 3) := by decide +kernel
theorem dX12_readValue_62 : decode cX12_readValue 62 = .ok (.aload_n 0, 1) := by decide +kernel
theorem dX12_readValue_63 : decode cX12_readValue 63 = .ok (.bipush 100, 2) := by decide +kernel
theorem dX12_readValue_65 : decode cX12_readValue 65 = .ok (.putfield 219, 3) := by decide +kernel
theorem dX12_readValue_68 : decode cX12_readValue 68 = .ok (.goto 150, 3) := by decide +kernel
theorem dX12_readValue_71 : decode cX12_readValue 71 = .ok (.aload_n 0, 1) := by decide +kernel
theorem dX12_readValue_72 : decode cX12_readValue 72 = .ok (.bipush 114, 2) := by decide +kernel
theorem dX12_readValue_74 : decode cX12_readValue 74 = .ok (.bipush 105, 2) := by decide +kernel
theorem dX12_readValue_76 : decode cX12_readValue 76 = .ok (.bipush 103, 2) := by decide +kernel
theorem dX12_readValue_78 : decode cX12_readValue 78 = .ok (.bipush 104, 2) := by decide +kernel
theorem dX12_readValue_80 : decode cX12_readValue 80 = .ok (.bipush 116, 2) := by decide +kernel
theorem dX12_readValue_82 : decode cX12_readValue 82 = .ok (.invokestatic 226, 3) := by decide +kernel
theorem dX12_readValue_85 : decode cX12_readValue 85 = .ok (.invokevirtual 207, 3) := by decide +kernel
theorem dX12_readValue_88 : decode cX12_readValue 88 = .ok (.ifCond .eq 12, 3) := by decide +kernel
theorem dX12_readValue_91 : decode cX12_readValue 91 = .ok (.aload_n 0, 1) := by decide +kernel
theorem dX12_readValue_92 : decode cX12_readValue 92 = .ok (.bipush 101, 2) := by decide +kernel
theorem dX12_readValue_94 : decode cX12_readValue 94 = .ok (.putfield 219, 3) := by decide +kernel
theorem dX12_readValue_97 : decode cX12_readValue 97 = .ok (.goto 121, 3) := by decide +kernel
theorem dX12_readValue_100 : decode cX12_readValue 100 = .ok (.aload_n 0, 1) := by decide +kernel
theorem dX12_readValue_101 : decode cX12_readValue 101 = .ok (.bipush 111, 2) := by decide +kernel
theorem dX12_readValue_103 : decode cX12_readValue 103 = .ok (.bipush 119, 2) := by decide +kernel
theorem dX12_readValue_105 : decode cX12_readValue 105 = .ok (.bipush 110, 2) := by decide +kernel
theorem dX12_readValue_107 : decode cX12_readValue 107 = .ok (.iconst 0, 1) := by decide +kernel
theorem dX12_readValue_108 : decode cX12_readValue 108 = .ok (.iconst 0, 1) := by decide +kernel
theorem dX12_readValue_109 : decode cX12_readValue 109 = .ok (.invokestatic 226, 3) := by decide +kernel
theorem dX12_readValue_112 : decode cX12_readValue 112 = .ok (.invokevirtual 207, 3) := by decide +kernel
theorem dX12_readValue_115 : decode cX12_readValue 115 = .ok (.ifCond .eq 12, 3) := by decide +kernel
theorem dX12_readValue_118 : decode cX12_readValue 118 = .ok (.aload_n 0, 1) := by decide +kernel
theorem dX12_readValue_119 : decode cX12_readValue 119 = .ok (.bipush 102, 2) := by decide +kernel
theorem dX12_readValue_121 : decode cX12_readValue 121 = .ok (.putfield 219, 3) := by decide +kernel
theorem dX12_readValue_124 : decode cX12_readValue 124 = .ok (.goto 94, 3) := by decide +kernel
theorem dX12_readValue_127 : decode cX12_readValue 127 = .ok (.aload_n 0, 1) := by decide +kernel
theorem dX12_readValue_128 : decode cX12_readValue 128 = .ok (.bipush 116, 2) := by decide +kernel
theorem dX12_readValue_130 : decode cX12_readValue 130 = .ok (.bipush 105, 2) := by decide +kernel
theorem dX12_readValue_132 : decode cX12_readValue 132 = .ok (.bipush 109, 2) := by decide +kernel
theorem dX12_readValue_134 : decode cX12_readValue 134 = .ok (.bipush 101, 2) := by decide +kernel
theorem dX12_readValue_136 : decode cX12_readValue 136 = .ok (.iconst 0, 1) := by decide +kernel
theorem dX12_readValue_137 : decode cX12_readValue 137 = .ok (.invokestatic 226, 3) := by decide +kernel
theorem dX12_readValue_140 : decode cX12_readValue 140 = .ok (.invokevirtual 207, 3) := by decide +kernel
theorem dX12_readValue_143 : decode cX12_readValue 143 = .ok (.ifCond .eq 12, 3) := by decide +kernel
theorem dX12_readValue_146 : decode cX12_readValue 146 = .ok (.aload_n 0, 1) := by decide +kernel
theorem dX12_readValue_147 : decode cX12_readValue 147 = .ok (.bipush 103, 2) := by decide +kernel
theorem dX12_readValue_149 : decode cX12_readValue 149 = .ok (.putfield 219, 3) := by decide +kernel
theorem dX12_readValue_152 : decode cX12_readValue 152 = .ok (.goto 66, 3) := by decide +kernel
theorem dX12_readValue_155 : decode cX12_readValue 155 = .ok (.aload_n 0, 1) := by decide +kernel
theorem dX12_readValue_156 : decode cX12_readValue 156 = .ok (.bipush 119, 2) := by decide +kernel
theorem dX12_readValue_158 : decode cX12_readValue 158 = .ok (.bipush 111, 2) := by decide +kernel
theorem dX12_readValue_160 : decode cX12_readValue 160 = .ok (.bipush 114, 2) := by decide +kernel
theorem dX12_readValue_162 : decode cX12_readValue 162 = .ok (.bipush 100, 2) := by decide +kernel
theorem dX12_readValue_164 : decode cX12_readValue 164 = .ok (.iconst 0, 1) := by decide +kernel
theorem dX12_readValue_165 : decode cX12_readValue 165 = .ok (.invokestatic 226, 3) := by decide +kernel
theorem dX12_readValue_168 : decode cX12_readValue 168 = .ok (.invokevirtual 207, 3) := by decide +kernel
theorem dX12_readValue_171 : decode cX12_readValue 171 = .ok (.ifCond .eq 12, 3) := by decide +kernel
theorem dX12_readValue_174 : decode cX12_readValue 174 = .ok (.aload_n 0, 1) := by decide +kernel
theorem dX12_readValue_175 : decode cX12_readValue 175 = .ok (.bipush 104, 2) := by decide +kernel
theorem dX12_readValue_177 : decode cX12_readValue 177 = .ok (.putfield 219, 3) := by decide +kernel
theorem dX12_readValue_180 : decode cX12_readValue 180 = .ok (.goto 38, 3) := by decide +kernel
theorem dX12_readValue_183 : decode cX12_readValue 183 = .ok (.aload_n 0, 1) := by decide +kernel
theorem dX12_readValue_184 : decode cX12_readValue 184 = .ok (.bipush 98, 2) := by decide +kernel
theorem dX12_readValue_186 : decode cX12_readValue 186 = .ok (.bipush 108, 2) := by decide +kernel
theorem dX12_readValue_188 : decode cX12_readValue 188 = .ok (.bipush 105, 2) := by decide +kernel
theorem dX12_readValue_190 : decode cX12_readValue 190 = .ok (.bipush 110, 2) := by decide +kernel
theorem dX12_readValue_192 : decode cX12_readValue 192 = .ok (.bipush 100, 2) := by decide +kernel
theorem dX12_readValue_194 : decode cX12_readValue 194 = .ok (.invokestatic 226, 3) := by decide +kernel
theorem dX12_readValue_197 : decode cX12_readValue 197 = .ok (.invokevirtual 207, 3) := by decide +kernel
theorem dX12_readValue_200 : decode cX12_readValue 200 = .ok (.ifCond .eq 12, 3) := by decide +kernel
theorem dX12_readValue_203 : decode cX12_readValue 203 = .ok (.aload_n 0, 1) := by decide +kernel
theorem dX12_readValue_204 : decode cX12_readValue 204 = .ok (.bipush 105, 2) := by decide +kernel
theorem dX12_readValue_206 : decode cX12_readValue 206 = .ok (.putfield 219, 3) := by decide +kernel
theorem dX12_readValue_209 : decode cX12_readValue 209 = .ok (.goto 9, 3) := by decide +kernel
theorem dX12_readValue_212 : decode cX12_readValue 212 = .ok (.aload_n 0, 1) := by decide +kernel
theorem dX12_readValue_213 : decode cX12_readValue 213 = .ok (.iconst 1, 1) := by decide +kernel
theorem dX12_readValue_214 : decode cX12_readValue 214 = .ok (.invokevirtual 211, 3) := by decide +kernel
theorem dX12_readValue_217 : decode cX12_readValue 217 = .ok (.ireturn, 1) := by decide +kernel
theorem dX12_readValue_218 : decode cX12_readValue 218 = .ok (.aload_n 0, 1) := by decide +kernel
theorem dX12_readValue_219 : decode cX12_readValue 219 = .ok (.invokevirtual 214, 3) := by decide +kernel
theorem dX12_readValue_222 : decode cX12_readValue 222 = .ok (.iconst 1, 1) := by decide +kernel
theorem dX12_readValue_223 : decode cX12_readValue 223 = .ok (.ireturn, 1) := by decide +kernel
set_option maxRecDepth 20000 in
theorem ggX12_isValue_X12_spelt : GoodIn wsX12_isValue wsX12_spelt := goodIn_r _ [5, 6, 7] rfl (by decide +kernel)
set_option maxRecDepth 20000 in
theorem gX12_isValue_X12_spelt : GoodIn wsX12_isValue (va_wsS RX12 226 yX12_spelt wsX12_spelt) := goodIn_app (goodIn_r _ [2, 3, 4] rfl (by decide +kernel)) ggX12_isValue_X12_spelt
set_option maxRecDepth 20000 in
theorem ggX12_isValue_X12_isKey : GoodIn wsX12_isValue wsX12_isKey := goodIn_r _ [11, 1, 12, 18, 19, 20, 21, 22, 23, 24, 25, 26, 27, 28, 29, 30, 31, 32, 33, 34, 35, 36, 37, 38, 39, 40, 41, 42, 43, 44, 45, 46, 47, 48, 49, 50, 51, 52, 53, 54, 55, 56, 57, 58, 59, 60, 61, 62, 63, 64, 65, 66, 67, 68, 69, 70, 71, 72, 73, 74, 75, 76, 77, 78, 79, 80, 81, 82, 83, 84, 85, 86, 87, 88, 89, 90, 91, 92, 93, 94, 95, 96, 97, 98, 99, 100] rfl (by decide +kernel)
set_option maxRecDepth 20000 in
theorem gX12_isValue_X12_isKey : GoodIn wsX12_isValue (wsV RX12 207 RX12 yX12_isKey wsX12_isKey) := goodIn_app (goodIn_r _ [8, 9, 10, 4] rfl (by decide +kernel)) ggX12_isValue_X12_isKey
set_option maxRecDepth 20000 in
theorem ggX12_isValue_X12_isCell : GoodIn wsX12_isValue wsX12_isCell := goodIn_r _ [16, 1, 12, 17, 18, 19, 20, 21, 22, 23, 24, 25, 26, 27, 28, 29, 30, 31, 32, 33, 34, 35, 36, 37, 38, 39, 40, 41, 42, 43, 44, 45, 46, 47, 48, 49, 50, 51, 52, 53, 54, 55, 56, 57, 58, 59, 60, 61, 62, 63, 64, 65, 66, 67, 68, 69, 70, 71, 72, 73, 74, 75, 76, 77, 78, 79, 80, 81, 82, 83, 84, 85, 86, 87, 88, 89, 90, 91, 92, 93, 94, 95, 96, 97, 98, 99, 100] rfl (by decide +kernel)
set_option maxRecDepth 20000 in
theorem gX12_isValue_X12_isCell : GoodIn wsX12_isValue (wsV RX12 222 RX12 yX12_isCell wsX12_isCell) := goodIn_app (goodIn_r _ [13, 14, 15, 4] rfl (by decide +kernel)) ggX12_isValue_X12_isCell
theorem dX12_isValue_0 : decode cX12_isValue 0 = .ok (.aload_n 0, 1) := by decide +kernel
theorem dX12_isValue_1 : decode cX12_isValue 1 = .ok (.bipush 108, 2) := by decide +kernel
theorem dX12_isValue_3 : decode cX12_isValue 3 = .ok (.bipush 101, 2) := by decide +kernel
theorem dX12_isValue_5 : decode cX12_isValue 5 = .ok (.bipush 102, 2) := by decide +kernel
theorem dX12_isValue_7 : decode cX12_isValue 7 = .ok (.bipush 116, 2) := by decide +kernel
theorem dX12_isValue_9 : decode cX12_isValue 9 = .ok (.iconst 0, 1) := by decide +kernel
theorem dX12_isValue_10 : decode cX12_isValue 10 = .ok (.invokestatic 226, 3) := by decide +kernel
theorem dX12_isValue_13 : decode cX12_isValue 13 = .ok (.invokevirtual 207, 3) := by decide +kernel
theorem dX12_isValue_16 : decode cX12_isValue 16 = .ok (.ifCond .ne 99, 3) := by decide +kernel
theorem dX12_isValue_19 : decode cX12_isValue 19 = .ok (.aload_n 0, 1) := by decide +kernel
theorem dX12_isValue_20 : decode cX12_isValue 20 = .ok (.bipush 114, 2) := by decide +kernel
theorem dX12_isValue_22 : decode cX12_isValue 22 = .ok (.bipush 105, 2) := by decide +kernel
theorem dX12_isValue_24 : decode cX12_isValue 24 = .ok (.bipush 103, 2) := by decide +kernel
theorem dX12_isValue_26 : decode cX12_isValue 26 = .ok (.bipush 104, 2) := by decide +kernel
theorem dX12_isValue_28 : decode cX12_isValue 28 = .ok (.bipush 116, 2) := by decide +kernel
theorem dX12_isValue_30 : decode cX12_isValue 30 = .ok (.invokestatic 226, 3) := by decide +kernel
theorem dX12_isValue_33 : decode cX12_isValue 33 = .ok (.invokevirtual 207, 3) := by decide +kernel
theorem dX12_isValue_36 : decode cX12_isValue 36 = .ok (.ifCond .ne 79, 3) := by decide +kernel
theorem dX12_isValue_39 : decode cX12_isValue 39 = .ok (.aload_n 0, 1) := by decide +kernel
theorem dX12_isValue_40 : decode cX12_isValue 40 = .ok (.bipush 111, 2) := by decide +kernel
theorem dX12_isValue_42 : decode cX12_isValue 42 = .ok (.bipush 119, 2) := by decide +kernel
theorem dX12_isValue_44 : decode cX12_isValue 44 = .ok (.bipush 110, 2) := by decide +kernel
theorem dX12_isValue_46 : decode cX12_isValue 46 = .ok (.iconst 0, 1) := by decide +kernel
theorem dX12_isValue_47 : decode cX12_isValue 47 = .ok (.iconst 0, 1) := by decide +kernel
theorem dX12_isValue_48 : decode cX12_isValue 48 = .ok (.invokestatic 226, 3) := by decide +kernel
theorem dX12_isValue_51 : decode cX12_isValue 51 = .ok (.invokevirtual 207, 3) := by decide +kernel
theorem dX12_isValue_54 : decode cX12_isValue 54 = .ok (.ifCond .ne 61, 3) := by decide +kernel
theorem dX12_isValue_57 : decode cX12_isValue 57 = .ok (.aload_n 0, 1) := by decide +kernel
theorem dX12_isValue_58 : decode cX12_isValue 58 = .ok (.bipush 116, 2) := by decide +kernel
theorem dX12_isValue_60 : decode cX12_isValue 60 = .ok (.bipush 105, 2) := by decide +kernel
theorem dX12_isValue_62 : decode cX12_isValue 62 = .ok (.bipush 109, 2) := by decide +kernel
theorem dX12_isValue_64 : decode cX12_isValue 64 = .ok (.bipush 101, 2) := by decide +kernel
theorem dX12_isValue_66 : decode cX12_isValue 66 = .ok (.iconst 0, 1) := by decide +kernel
theorem dX12_isValue_67 : decode cX12_isValue 67 = .ok (.invokestatic 226, 3) := by decide +kernel
theorem dX12_isValue_70 : decode cX12_isValue 70 = .ok (.invokevirtual 207, 3) := by decide +kernel
theorem dX12_isValue_73 : decode cX12_isValue 73 = .ok (.ifCond .ne 42, 3) := by decide +kernel
theorem dX12_isValue_76 : decode cX12_isValue 76 = .ok (.aload_n 0, 1) := by decide +kernel
theorem dX12_isValue_77 : decode cX12_isValue 77 = .ok (.bipush 119, 2) := by decide +kernel
theorem dX12_isValue_79 : decode cX12_isValue 79 = .ok (.bipush 111, 2) := by decide +kernel
theorem dX12_isValue_81 : decode cX12_isValue 81 = .ok (.bipush 114, 2) := by decide +kernel
theorem dX12_isValue_83 : decode cX12_isValue 83 = .ok (.bipush 100, 2) := by decide +kernel
theorem dX12_isValue_85 : decode cX12_isValue 85 = .ok (.iconst 0, 1) := by decide +kernel
theorem dX12_isValue_86 : decode cX12_isValue 86 = .ok (.invokestatic 226, 3) := by decide +kernel
theorem dX12_isValue_89 : decode cX12_isValue 89 = .ok (.invokevirtual 207, 3) := by decide +kernel
theorem dX12_isValue_92 : decode cX12_isValue 92 = .ok (.ifCond .ne 23, 3) := by decide +kernel
theorem dX12_isValue_95 : decode cX12_isValue 95 = .ok (.aload_n 0, 1) := by decide +kernel
theorem dX12_isValue_96 : decode cX12_isValue 96 = .ok (.bipush 98, 2) := by decide +kernel
theorem dX12_isValue_98 : decode cX12_isValue 98 = .ok (.bipush 108, 2) := by decide +kernel
theorem dX12_isValue_100 : decode cX12_isValue 100 = .ok (.bipush 105, 2) := by decide +kernel
theorem dX12_isValue_102 : decode cX12_isValue 102 = .ok (.bipush 110, 2) := by decide +kernel
theorem dX12_isValue_104 : decode cX12_isValue 104 = .ok (.bipush 100, 2) := by decide +kernel
theorem dX12_isValue_106 : decode cX12_isValue 106 = .ok (.invokestatic 226, 3) := by decide +kernel
theorem dX12_isValue_109 : decode cX12_isValue 109 = .ok (.invokevirtual 207, 3) := by decide +kernel
theorem dX12_isValue_112 : decode cX12_isValue 112 = .ok (.ifCond .eq 7, 3) := by decide +kernel
theorem dX12_isValue_115 : decode cX12_isValue 115 = .ok (.iconst 1, 1) := by decide +kernel
theorem dX12_isValue_116 : decode cX12_isValue 116 = .ok (.goto 4, 3) := by decide +kernel
theorem dX12_isValue_119 : decode cX12_isValue 119 = .ok (.iconst 0, 1) := by decide +kernel
theorem dX12_isValue_120 : decode cX12_isValue 120 = .ok (.istore_n 1, 1) := by decide +kernel
theorem dX12_isValue_121 : decode cX12_isValue 121 = .ok (.aload_n 0, 1) := by decide +kernel
theorem dX12_isValue_122 : decode cX12_isValue 122 = .ok (.getfield 170, 3) := by decide +kernel
theorem dX12_isValue_125 : decode cX12_isValue 125 = .ok (.iconst 3, 1) := by decide +kernel
theorem dX12_isValue_126 : decode cX12_isValue 126 = .ok (.if_icmp .eq 14, 3) := by decide +kernel
theorem dX12_isValue_129 : decode cX12_isValue 129 = .ok (.aload_n 0, 1) := by decide +kernel
theorem dX12_isValue_130 : decode cX12_isValue 130 = .ok (.invokevirtual 222, 3) := by decide +kernel
theorem dX12_isValue_133 : decode cX12_isValue 133 = .ok (.ifCond .ne 7, 3) := by decide +kernel
theorem dX12_isValue_136 : decode cX12_isValue 136 = .ok (.iload_n 1, 1) := by decide +kernel
theorem dX12_isValue_137 : decode cX12_isValue 137 = .ok (.ifCond .eq 7, 3) := by decide +kernel
theorem dX12_isValue_140 : decode cX12_isValue 140 = .ok (.iconst 1, 1) := by decide +kernel
theorem dX12_isValue_141 : decode cX12_isValue 141 = .ok (.goto 4, 3) := by decide +kernel
theorem dX12_isValue_144 : decode cX12_isValue 144 = .ok (.iconst 0, 1) := by decide +kernel
theorem dX12_isValue_145 : decode cX12_isValue 145 = .ok (.ireturn, 1) := by decide +kernel
set_option maxRecDepth 20000 in
theorem ggX12_readOne_X12_isValue : GoodIn wsX12_readOne wsX12_isValue := goodIn_r _ [11, 12, 13, 14, 10, 15, 16, 17, 18, 19, 20, 21, 22, 23, 24, 25, 26, 27, 64, 65, 66, 67, 68, 69, 70, 71, 72, 73, 74, 75, 76, 77, 78, 79, 80, 81, 82, 83, 84, 85, 86, 87, 88, 89, 90, 91, 92, 93, 94, 95, 96, 97, 98, 99, 100, 101, 102, 103, 104, 105, 106, 107, 108, 109, 110, 111, 112, 113, 114, 115, 116, 117, 118, 119, 120, 121, 122, 123, 124, 125, 126, 127, 128, 129, 130, 131, 132, 133, 134, 135, 136, 137, 138, 139, 140, 141, 142, 143, 144, 145, 146] rfl (by decide +kernel)
set_option maxRecDepth 20000 in
theorem gX12_readOne_X12_isValue : GoodIn wsX12_readOne (wsV RX12 230 RX12 yX12_isValue wsX12_isValue) := goodIn_app (goodIn_r _ [7, 8, 9, 10] rfl (by decide +kernel)) ggX12_readOne_X12_isValue
set_option maxRecDepth 20000 in
theorem ggX12_readOne_X12_bad : GoodIn wsX12_readOne wsX12_bad := goodIn_r _ [31, 12, 32, 33, 34, 64, 65, 66, 67, 68, 69, 70, 71, 72, 73, 74, 75, 76, 77, 78, 79, 80, 81, 82, 83, 84, 85, 86, 87, 88, 89, 90, 91, 92, 93, 94, 95, 96, 97, 98, 99, 100, 101, 102, 103, 104, 105, 106, 107, 108, 109, 110, 111, 112, 113, 114, 115, 116, 117, 118, 119, 120, 121, 122, 123, 124, 125, 126, 127, 128, 129, 130, 131, 132, 133, 134, 135, 136, 137, 138, 139, 140, 141, 142, 143, 144, 145, 146] rfl (by decide +kernel)
set_option maxRecDepth 20000 in
theorem gX12_readOne_X12_bad : GoodIn wsX12_readOne (wsV RX12 211 RX12 yX12_bad wsX12_bad) := goodIn_app (goodIn_r _ [28, 29, 30, 10] rfl (by decide +kernel)) ggX12_readOne_X12_bad
set_option maxRecDepth 20000 in
theorem ggX12_readOne_X12_readValue : GoodIn wsX12_readOne wsX12_readValue := goodIn_r _ [38, 12, 39, 3, 22, 23, 24, 25, 10, 26, 27, 13, 14, 15, 16, 17, 18, 19, 20, 21, 28, 29, 30, 31, 32, 33, 34, 40, 41, 42, 43, 44, 45, 46, 5, 47, 48, 49, 50, 51, 52, 53, 54, 55, 56, 57, 58, 59, 64, 65, 66, 67, 68, 69, 70, 71, 72, 73, 74, 75, 76, 77, 78, 79, 80, 81, 82, 83, 84, 85, 86, 87, 88, 89, 90, 91, 92, 93, 94, 95, 96, 97, 98, 99, 100, 101, 102, 103, 104, 105, 106, 107, 108, 109, 110, 111, 112, 113, 114, 115, 116, 117, 118, 119, 120, 121, 122, 123, 124, 125, 126, 127, 128, 129, 130, 131, 132, 133, 134, 135, 136, 137, 138, 139, 140, 141, 142, 143, 144, 145, 146] rfl (by decide +kernel)
set_option maxRecDepth 20000 in
theorem gX12_readOne_X12_readValue : GoodIn wsX12_readOne (wsV RX12 236 RX12 yX12_readValue wsX12_readValue) := goodIn_app (goodIn_r _ [35, 36, 37, 10] rfl (by decide +kernel)) ggX12_readOne_X12_readValue
set_option maxRecDepth 20000 in
theorem ggX12_readOne_X12_isSign : GoodIn wsX12_readOne wsX12_isSign := goodIn_r _ [63, 12, 5, 64, 65, 66, 67, 68, 69, 70, 71, 72, 73, 74, 75, 76, 77, 78, 79, 80, 81, 82, 83, 84, 85, 86, 87, 88, 89, 90, 91, 92, 93, 94, 95, 96, 97, 98, 99, 100, 101, 102, 103, 104, 105, 106, 107, 108, 109, 110, 111, 112, 113, 114, 115, 116, 117, 118, 119, 120, 121, 122, 123, 124, 125, 126, 127, 128, 129, 130, 131, 132, 133, 134, 135, 136, 137, 138, 139, 140, 141, 142, 143, 144, 145, 146] rfl (by decide +kernel)
set_option maxRecDepth 20000 in
theorem gX12_readOne_X12_isSign : GoodIn wsX12_readOne (wsV RX12 239 RX12 yX12_isSign wsX12_isSign) := goodIn_app (goodIn_r _ [60, 61, 62, 10] rfl (by decide +kernel)) ggX12_readOne_X12_isSign
set_option maxRecDepth 20000 in
theorem ggX12_readOne_X12_go : GoodIn wsX12_readOne wsX12_go := goodIn_r _ [43, 44, 45, 46, 33, 12, 5, 22, 39, 16, 17, 47, 48, 10, 49, 50, 51, 52, 53, 54, 55, 56, 57, 58, 59, 64, 65, 66, 67, 68, 69, 70, 71, 72, 73, 74, 75, 76, 77, 78, 79, 80, 81, 82, 83, 84, 85, 86, 87, 88, 89, 90, 91, 92, 93, 94, 95, 96, 97, 98, 99, 100, 101, 102, 103, 104, 105, 106, 107, 108, 109, 110, 111, 112, 113, 114, 115, 116, 117, 118, 119, 120, 121, 122, 123, 124, 125, 126, 127, 128, 129, 130, 131, 132, 133, 134, 135, 136, 137, 138, 139, 140, 141, 142, 143, 144, 145, 146] rfl (by decide +kernel)
set_option maxRecDepth 20000 in
theorem gX12_readOne_X12_go : GoodIn wsX12_readOne (wsV RX12 214 RX12 yX12_go wsX12_go) := goodIn_app (goodIn_r _ [40, 41, 42, 10] rfl (by decide +kernel)) ggX12_readOne_X12_go
theorem dX12_readOne_0 : decode cX12_readOne 0 = .ok (.aload_n 0, 1) := by decide +kernel
theorem dX12_readOne_1 : decode cX12_readOne 1 = .ok (.invokevirtual 230, 3) := by decide +kernel
theorem dX12_readOne_4 : decode cX12_readOne 4 = .ok (.ifCond .ne 9, 3) := by decide +kernel
theorem dX12_readOne_7 : decode cX12_readOne 7 = .ok (.aload_n 0, 1) := by decide +kernel
theorem dX12_readOne_8 : decode cX12_readOne 8 = .ok (.iconst 1, 1) := by decide +kernel
theorem dX12_readOne_9 : decode cX12_readOne 9 = .ok (.invokevirtual 211, 3) := by decide +kernel
theorem dX12_readOne_12 : decode cX12_readOne 12 = .ok (.ireturn, 1) := by decide +kernel
theorem dX12_readOne_13 : decode cX12_readOne 13 = .ok (.aload_n 0, 1) := by decide +kernel
theorem dX12_readOne_14 : decode cX12_readOne 14 = .ok (.getfield 233, 3) := by decide +kernel
theorem dX12_readOne_17 : decode cX12_readOne 17 = .ok (.bipush 40, 2) := by decide +kernel
theorem dX12_readOne_19 : decode cX12_readOne 19 = .ok (.if_icmp .ne 9, 3) := by decide +kernel
theorem dX12_readOne_22 : decode cX12_readOne 22 = .ok (.aload_n 0, 1) := by decide +kernel
theorem dX12_readOne_23 : decode cX12_readOne 23 = .ok (.iconst 2, 1) := by decide +kernel
theorem dX12_readOne_24 : decode cX12_readOne 24 = .ok (.invokevirtual 211, 3) := by decide +kernel
theorem dX12_readOne_27 : decode cX12_readOne 27 = .ok (.ireturn, 1) := by decide +kernel
theorem dX12_readOne_28 : decode cX12_readOne 28 = .ok (.bipush 120, 2) := by decide +kernel
theorem dX12_readOne_30 : decode cX12_readOne 30 = .ok (.aload_n 0, 1) := by decide +kernel
theorem dX12_readOne_31 : decode cX12_readOne 31 = .ok (.getfield 233, 3) := by decide +kernel
theorem dX12_readOne_34 : decode cX12_readOne 34 = .ok (.iadd, 1) := by decide +kernel
theorem dX12_readOne_35 : decode cX12_readOne 35 = .ok (.istore_n 1, 1) := by decide +kernel
theorem dX12_readOne_36 : decode cX12_readOne 36 = .ok (.aload_n 0, 1) := by decide +kernel
theorem dX12_readOne_37 : decode cX12_readOne 37 = .ok (.invokevirtual 236, 3) := by decide +kernel
theorem dX12_readOne_40 : decode cX12_readOne 40 = .ok (.pop, 1) := by decide +kernel
theorem dX12_readOne_41 : decode cX12_readOne 41 = .ok (.aload_n 0, 1) := by decide +kernel
theorem dX12_readOne_42 : decode cX12_readOne 42 = .ok (.getfield 26, 3) := by decide +kernel
theorem dX12_readOne_45 : decode cX12_readOne 45 = .ok (.iload_n 1, 1) := by decide +kernel
theorem dX12_readOne_46 : decode cX12_readOne 46 = .ok (.aload_n 0, 1) := by decide +kernel
theorem dX12_readOne_47 : decode cX12_readOne 47 = .ok (.getfield 219, 3) := by decide +kernel
theorem dX12_readOne_50 : decode cX12_readOne 50 = .ok (.iastore, 1) := by decide +kernel
theorem dX12_readOne_51 : decode cX12_readOne 51 = .ok (.aload_n 0, 1) := by decide +kernel
theorem dX12_readOne_52 : decode cX12_readOne 52 = .ok (.bipush 60, 2) := by decide +kernel
theorem dX12_readOne_54 : decode cX12_readOne 54 = .ok (.invokevirtual 239, 3) := by decide +kernel
theorem dX12_readOne_57 : decode cX12_readOne 57 = .ok (.ifCond .ne 36, 3) := by decide +kernel
theorem dX12_readOne_60 : decode cX12_readOne 60 = .ok (.aload_n 0, 1) := by decide +kernel
theorem dX12_readOne_61 : decode cX12_readOne 61 = .ok (.bipush 61, 2) := by decide +kernel
theorem dX12_readOne_63 : decode cX12_readOne 63 = .ok (.invokevirtual 239, 3) := by decide +kernel
theorem dX12_readOne_66 : decode cX12_readOne 66 = .ok (.ifCond .ne 27, 3) := by decide +kernel
theorem dX12_readOne_69 : decode cX12_readOne 69 = .ok (.aload_n 0, 1) := by decide +kernel
theorem dX12_readOne_70 : decode cX12_readOne 70 = .ok (.bipush 62, 2) := by decide +kernel
theorem dX12_readOne_72 : decode cX12_readOne 72 = .ok (.invokevirtual 239, 3) := by decide +kernel
theorem dX12_readOne_75 : decode cX12_readOne 75 = .ok (.ifCond .ne 18, 3) := by decide +kernel
theorem dX12_readOne_78 : decode cX12_readOne 78 = .ok (.aload_n 0, 1) := by decide +kernel
theorem dX12_readOne_79 : decode cX12_readOne 79 = .ok (.bipush 35, 2) := by decide +kernel
theorem dX12_readOne_81 : decode cX12_readOne 81 = .ok (.invokevirtual 239, 3) := by decide +kernel
theorem dX12_readOne_84 : decode cX12_readOne 84 = .ok (.ifCond .ne 9, 3) := by decide +kernel
theorem dX12_readOne_87 : decode cX12_readOne 87 = .ok (.aload_n 0, 1) := by decide +kernel
theorem dX12_readOne_88 : decode cX12_readOne 88 = .ok (.iconst 1, 1) := by decide +kernel
theorem dX12_readOne_89 : decode cX12_readOne 89 = .ok (.invokevirtual 211, 3) := by decide +kernel
theorem dX12_readOne_92 : decode cX12_readOne 92 = .ok (.ireturn, 1) := by decide +kernel
theorem dX12_readOne_93 : decode cX12_readOne 93 = .ok (.aload_n 0, 1) := by decide +kernel
theorem dX12_readOne_94 : decode cX12_readOne 94 = .ok (.getfield 29, 3) := by decide +kernel
theorem dX12_readOne_97 : decode cX12_readOne 97 = .ok (.iload_n 1, 1) := by decide +kernel
theorem dX12_readOne_98 : decode cX12_readOne 98 = .ok (.aload_n 0, 1) := by decide +kernel
theorem dX12_readOne_99 : decode cX12_readOne 99 = .ok (.getfield 183, 3) := by decide +kernel
theorem dX12_readOne_102 : decode cX12_readOne 102 = .ok (.iastore, 1) := by decide +kernel
theorem dX12_readOne_103 : decode cX12_readOne 103 = .ok (.aload_n 0, 1) := by decide +kernel
theorem dX12_readOne_104 : decode cX12_readOne 104 = .ok (.invokevirtual 214, 3) := by decide +kernel
theorem dX12_readOne_107 : decode cX12_readOne 107 = .ok (.aload_n 0, 1) := by decide +kernel
theorem dX12_readOne_108 : decode cX12_readOne 108 = .ok (.invokevirtual 236, 3) := by decide +kernel
theorem dX12_readOne_111 : decode cX12_readOne 111 = .ok (.ifCond .ne 5, 3) := by decide +kernel
theorem dX12_readOne_114 : decode cX12_readOne 114 = .ok (.iconst 0, 1) := by decide +kernel
theorem dX12_readOne_115 : decode cX12_readOne 115 = .ok (.ireturn, 1) := by decide +kernel
theorem dX12_readOne_116 : decode cX12_readOne 116 = .ok (.aload_n 0, 1) := by decide +kernel
theorem dX12_readOne_117 : decode cX12_readOne 117 = .ok (.getfield 32, 3) := by decide +kernel
theorem dX12_readOne_120 : decode cX12_readOne 120 = .ok (.iload_n 1, 1) := by decide +kernel
theorem dX12_readOne_121 : decode cX12_readOne 121 = .ok (.aload_n 0, 1) := by decide +kernel
theorem dX12_readOne_122 : decode cX12_readOne 122 = .ok (.getfield 219, 3) := by decide +kernel
theorem dX12_readOne_125 : decode cX12_readOne 125 = .ok (.iastore, 1) := by decide +kernel
theorem dX12_readOne_126 : decode cX12_readOne 126 = .ok (.aload_n 0, 1) := by decide +kernel
theorem dX12_readOne_127 : decode cX12_readOne 127 = .ok (.dup, 1) := by decide +kernel
theorem dX12_readOne_128 : decode cX12_readOne 128 = .ok (.getfield 233, 3) := by decide +kernel
theorem dX12_readOne_131 : decode cX12_readOne 131 = .ok (.iconst 1, 1) := by decide +kernel
theorem dX12_readOne_132 : decode cX12_readOne 132 = .ok (.iadd, 1) := by decide +kernel
theorem dX12_readOne_133 : decode cX12_readOne 133 = .ok (.putfield 233, 3) := by decide +kernel
theorem dX12_readOne_136 : decode cX12_readOne 136 = .ok (.iconst 1, 1) := by decide +kernel
theorem dX12_readOne_137 : decode cX12_readOne 137 = .ok (.ireturn, 1) := by decide +kernel
set_option maxRecDepth 20000 in
theorem ggX12_readSum_X12_readValue : GoodIn wsX12_readSum wsX12_readValue := goodIn_r _ [8, 9, 10, 2, 11, 12, 13, 14, 7, 15, 16, 17, 18, 19, 20, 21, 22, 23, 24, 25, 26, 27, 28, 29, 30, 31, 32, 33, 34, 35, 36, 37, 38, 39, 40, 41, 42, 43, 44, 45, 46, 47, 48, 49, 50, 51, 52, 53, 58, 59, 60, 61, 62, 63, 64, 65, 66, 67, 68, 69, 70, 71, 72, 73, 74, 75, 76, 77, 78, 79, 80, 81, 82, 83, 84, 85, 86, 87, 88, 89, 90, 91, 92, 93, 94, 95, 96, 97, 98, 99, 100, 101, 102, 103, 104, 105, 106, 107, 108, 109, 110, 111, 112, 113, 114, 115, 116, 117, 118, 119, 120, 121, 122, 123, 124, 125, 126, 127, 128, 129, 130, 131, 132, 133, 134, 135, 136, 137, 138, 139, 140] rfl (by decide +kernel)
set_option maxRecDepth 20000 in
theorem gX12_readSum_X12_readValue : GoodIn wsX12_readSum (wsV RX12 236 RX12 yX12_readValue wsX12_readValue) := goodIn_app (goodIn_r _ [4, 5, 6, 7] rfl (by decide +kernel)) ggX12_readSum_X12_readValue
set_option maxRecDepth 20000 in
theorem ggX12_readSum_X12_isSign : GoodIn wsX12_readSum wsX12_isSign := goodIn_r _ [57, 9, 40, 58, 59, 60, 61, 62, 63, 64, 65, 66, 67, 68, 69, 70, 71, 72, 73, 74, 75, 76, 77, 78, 79, 80, 81, 82, 83, 84, 85, 86, 87, 88, 89, 90, 91, 92, 93, 94, 95, 96, 97, 98, 99, 100, 101, 102, 103, 104, 105, 106, 107, 108, 109, 110, 111, 112, 113, 114, 115, 116, 117, 118, 119, 120, 121, 122, 123, 124, 125, 126, 127, 128, 129, 130, 131, 132, 133, 134, 135, 136, 137, 138, 139, 140] rfl (by decide +kernel)
set_option maxRecDepth 20000 in
theorem gX12_readSum_X12_isSign : GoodIn wsX12_readSum (wsV RX12 239 RX12 yX12_isSign wsX12_isSign) := goodIn_app (goodIn_r _ [54, 55, 56, 7] rfl (by decide +kernel)) ggX12_readSum_X12_isSign
set_option maxRecDepth 20000 in
theorem ggX12_readSum_X12_go : GoodIn wsX12_readSum wsX12_go := goodIn_r _ [36, 37, 38, 39, 31, 9, 40, 11, 10, 20, 21, 41, 42, 7, 43, 44, 45, 46, 47, 48, 49, 50, 51, 52, 53, 58, 59, 60, 61, 62, 63, 64, 65, 66, 67, 68, 69, 70, 71, 72, 73, 74, 75, 76, 77, 78, 79, 80, 81, 82, 83, 84, 85, 86, 87, 88, 89, 90, 91, 92, 93, 94, 95, 96, 97, 98, 99, 100, 101, 102, 103, 104, 105, 106, 107, 108, 109, 110, 111, 112, 113, 114, 115, 116, 117, 118, 119, 120, 121, 122, 123, 124, 125, 126, 127, 128, 129, 130, 131, 132, 133, 134, 135, 136, 137, 138, 139, 140] rfl (by decide +kernel)
set_option maxRecDepth 20000 in
theorem gX12_readSum_X12_go : GoodIn wsX12_readSum (wsV RX12 214 RX12 yX12_go wsX12_go) := goodIn_app (goodIn_r _ [33, 34, 35, 7] rfl (by decide +kernel)) ggX12_readSum_X12_go
theorem dX12_readSum_0 : decode cX12_readSum 0 = .ok (.aload_n 0, 1) := by decide +kernel
theorem dX12_readSum_1 : decode cX12_readSum 1 = .ok (.invokevirtual 236, 3) := by decide +kernel
theorem dX12_readSum_4 : decode cX12_readSum 4 = .ok (.ifCond .ne 5, 3) := by decide +kernel
theorem dX12_readSum_7 : decode cX12_readSum 7 = .ok (.iconst 0, 1) := by decide +kernel
theorem dX12_readSum_8 : decode cX12_readSum 8 = .ok (.ireturn, 1) := by decide +kernel
theorem dX12_readSum_9 : decode cX12_readSum 9 = .ok (.aload_n 0, 1) := by decide +kernel
theorem dX12_readSum_10 : decode cX12_readSum 10 = .ok (.getfield 38, 3) := by decide +kernel
theorem dX12_readSum_13 : decode cX12_readSum 13 = .ok (.iload_n 1, 1) := by decide +kernel
theorem dX12_readSum_14 : decode cX12_readSum 14 = .ok (.aload_n 0, 1) := by decide +kernel
theorem dX12_readSum_15 : decode cX12_readSum 15 = .ok (.getfield 219, 3) := by decide +kernel
theorem dX12_readSum_18 : decode cX12_readSum 18 = .ok (.iastore, 1) := by decide +kernel
theorem dX12_readSum_19 : decode cX12_readSum 19 = .ok (.aload_n 0, 1) := by decide +kernel
theorem dX12_readSum_20 : decode cX12_readSum 20 = .ok (.getfield 41, 3) := by decide +kernel
theorem dX12_readSum_23 : decode cX12_readSum 23 = .ok (.iload_n 1, 1) := by decide +kernel
theorem dX12_readSum_24 : decode cX12_readSum 24 = .ok (.iconst (-1), 1) := by decide +kernel
theorem dX12_readSum_25 : decode cX12_readSum 25 = .ok (.iastore, 1) := by decide +kernel
theorem dX12_readSum_26 : decode cX12_readSum 26 = .ok (.aload_n 0, 1) := by decide +kernel
theorem dX12_readSum_27 : decode cX12_readSum 27 = .ok (.bipush 43, 2) := by decide +kernel
theorem dX12_readSum_29 : decode cX12_readSum 29 = .ok (.invokevirtual 239, 3) := by decide +kernel
theorem dX12_readSum_32 : decode cX12_readSum 32 = .ok (.ifCond .ne 5, 3) := by decide +kernel
theorem dX12_readSum_35 : decode cX12_readSum 35 = .ok (.iconst 1, 1) := by decide +kernel
theorem dX12_readSum_36 : decode cX12_readSum 36 = .ok (.ireturn, 1) := by decide +kernel
theorem dX12_readSum_37 : decode cX12_readSum 37 = .ok (.aload_n 0, 1) := by decide +kernel
theorem dX12_readSum_38 : decode cX12_readSum 38 = .ok (.invokevirtual 214, 3) := by decide +kernel
theorem dX12_readSum_41 : decode cX12_readSum 41 = .ok (.aload_n 0, 1) := by decide +kernel
theorem dX12_readSum_42 : decode cX12_readSum 42 = .ok (.invokevirtual 236, 3) := by decide +kernel
theorem dX12_readSum_45 : decode cX12_readSum 45 = .ok (.ifCond .ne 5, 3) := by decide +kernel
theorem dX12_readSum_48 : decode cX12_readSum 48 = .ok (.iconst 0, 1) := by decide +kernel
theorem dX12_readSum_49 : decode cX12_readSum 49 = .ok (.ireturn, 1) := by decide +kernel
theorem dX12_readSum_50 : decode cX12_readSum 50 = .ok (.aload_n 0, 1) := by decide +kernel
theorem dX12_readSum_51 : decode cX12_readSum 51 = .ok (.getfield 41, 3) := by decide +kernel
theorem dX12_readSum_54 : decode cX12_readSum 54 = .ok (.iload_n 1, 1) := by decide +kernel
theorem dX12_readSum_55 : decode cX12_readSum 55 = .ok (.aload_n 0, 1) := by decide +kernel
theorem dX12_readSum_56 : decode cX12_readSum 56 = .ok (.getfield 219, 3) := by decide +kernel
theorem dX12_readSum_59 : decode cX12_readSum 59 = .ok (.iastore, 1) := by decide +kernel
theorem dX12_readSum_60 : decode cX12_readSum 60 = .ok (.iconst 1, 1) := by decide +kernel
theorem dX12_readSum_61 : decode cX12_readSum 61 = .ok (.ireturn, 1) := by decide +kernel
set_option maxRecDepth 20000 in
theorem ggX12_readAct_X12_spelt : GoodIn wsX12_readAct wsX12_spelt := goodIn_r _ [7, 8, 9] rfl (by decide +kernel)
set_option maxRecDepth 20000 in
theorem gX12_readAct_X12_spelt : GoodIn wsX12_readAct (va_wsS RX12 226 yX12_spelt wsX12_spelt) := goodIn_app (goodIn_r _ [4, 5, 6] rfl (by decide +kernel)) ggX12_readAct_X12_spelt
set_option maxRecDepth 20000 in
theorem ggX12_readAct_X12_isKey : GoodIn wsX12_readAct wsX12_isKey := goodIn_r _ [13, 14, 3, 68, 69, 70, 71, 72, 73, 74, 75, 76, 77, 78, 79, 80, 81, 82, 83, 84, 85, 86, 87, 88, 89, 90, 91, 92, 93, 94, 95, 96, 97, 98, 99, 100, 101, 102, 103, 104, 105, 106, 107, 108, 109, 110, 111, 112, 113, 114, 115, 116, 117, 118, 119, 120, 121, 122, 123, 124, 125, 126, 127, 128, 129, 130, 131, 132, 133, 134, 135, 136, 137, 138, 139, 140, 141, 142, 143, 144, 145, 146, 147, 148, 149, 150] rfl (by decide +kernel)
set_option maxRecDepth 20000 in
theorem gX12_readAct_X12_isKey : GoodIn wsX12_readAct (wsV RX12 207 RX12 yX12_isKey wsX12_isKey) := goodIn_app (goodIn_r _ [10, 11, 12, 6] rfl (by decide +kernel)) ggX12_readAct_X12_isKey
set_option maxRecDepth 20000 in
theorem ggX12_readAct_X12_isCell : GoodIn wsX12_readAct wsX12_isCell := goodIn_r _ [18, 14, 3, 19, 68, 69, 70, 71, 72, 73, 74, 75, 76, 77, 78, 79, 80, 81, 82, 83, 84, 85, 86, 87, 88, 89, 90, 91, 92, 93, 94, 95, 96, 97, 98, 99, 100, 101, 102, 103, 104, 105, 106, 107, 108, 109, 110, 111, 112, 113, 114, 115, 116, 117, 118, 119, 120, 121, 122, 123, 124, 125, 126, 127, 128, 129, 130, 131, 132, 133, 134, 135, 136, 137, 138, 139, 140, 141, 142, 143, 144, 145, 146, 147, 148, 149, 150] rfl (by decide +kernel)
set_option maxRecDepth 20000 in
theorem gX12_readAct_X12_isCell : GoodIn wsX12_readAct (wsV RX12 222 RX12 yX12_isCell wsX12_isCell) := goodIn_app (goodIn_r _ [15, 16, 17, 6] rfl (by decide +kernel)) ggX12_readAct_X12_isCell
set_option maxRecDepth 20000 in
theorem ggX12_readAct_X12_bad : GoodIn wsX12_readAct wsX12_bad := goodIn_r _ [23, 14, 24, 25, 26, 68, 69, 70, 71, 72, 73, 74, 75, 76, 77, 78, 79, 80, 81, 82, 83, 84, 85, 86, 87, 88, 89, 90, 91, 92, 93, 94, 95, 96, 97, 98, 99, 100, 101, 102, 103, 104, 105, 106, 107, 108, 109, 110, 111, 112, 113, 114, 115, 116, 117, 118, 119, 120, 121, 122, 123, 124, 125, 126, 127, 128, 129, 130, 131, 132, 133, 134, 135, 136, 137, 138, 139, 140, 141, 142, 143, 144, 145, 146, 147, 148, 149, 150] rfl (by decide +kernel)
set_option maxRecDepth 20000 in
theorem gX12_readAct_X12_bad : GoodIn wsX12_readAct (wsV RX12 211 RX12 yX12_bad wsX12_bad) := goodIn_app (goodIn_r _ [20, 21, 22, 6] rfl (by decide +kernel)) ggX12_readAct_X12_bad
set_option maxRecDepth 20000 in
theorem ggX12_readAct_X12_go : GoodIn wsX12_readAct wsX12_go := goodIn_r _ [30, 31, 32, 33, 25, 14, 34, 3, 35, 8, 9, 36, 37, 6, 38, 39, 40, 41, 42, 43, 44, 45, 46, 47, 48, 68, 69, 70, 71, 72, 73, 74, 75, 76, 77, 78, 79, 80, 81, 82, 83, 84, 85, 86, 87, 88, 89, 90, 91, 92, 93, 94, 95, 96, 97, 98, 99, 100, 101, 102, 103, 104, 105, 106, 107, 108, 109, 110, 111, 112, 113, 114, 115, 116, 117, 118, 119, 120, 121, 122, 123, 124, 125, 126, 127, 128, 129, 130, 131, 132, 133, 134, 135, 136, 137, 138, 139, 140, 141, 142, 143, 144, 145, 146, 147, 148, 149, 150] rfl (by decide +kernel)
set_option maxRecDepth 20000 in
theorem gX12_readAct_X12_go : GoodIn wsX12_readAct (wsV RX12 214 RX12 yX12_go wsX12_go) := goodIn_app (goodIn_r _ [27, 28, 29, 6] rfl (by decide +kernel)) ggX12_readAct_X12_go
set_option maxRecDepth 20000 in
theorem ggX12_readAct_X12_readKey : GoodIn wsX12_readAct wsX12_readKey := goodIn_r _ [52, 10, 11, 12, 6, 13, 14, 3, 20, 21, 22, 23, 24, 25, 26, 27, 28, 29, 30, 31, 32, 33, 34, 35, 8, 9, 36, 37, 38, 39, 40, 41, 42, 43, 44, 45, 46, 47, 48, 68, 69, 70, 71, 72, 73, 74, 75, 76, 77, 78, 79, 80, 81, 82, 83, 84, 85, 86, 87, 88, 89, 90, 91, 92, 93, 94, 95, 96, 97, 98, 99, 100, 101, 102, 103, 104, 105, 106, 107, 108, 109, 110, 111, 112, 113, 114, 115, 116, 117, 118, 119, 120, 121, 122, 123, 124, 125, 126, 127, 128, 129, 130, 131, 132, 133, 134, 135, 136, 137, 138, 139, 140, 141, 142, 143, 144, 145, 146, 147, 148, 149, 150] rfl (by decide +kernel)
set_option maxRecDepth 20000 in
theorem gX12_readAct_X12_readKey : GoodIn wsX12_readAct (wsV RX12 245 RX12 yX12_readKey wsX12_readKey) := goodIn_app (goodIn_r _ [49, 50, 51, 6] rfl (by decide +kernel)) ggX12_readAct_X12_readKey
set_option maxRecDepth 20000 in
theorem ggX12_readAct_X12_readSum : GoodIn wsX12_readAct wsX12_readSum := goodIn_r _ [56, 57, 58, 59, 60, 61, 62, 6, 63, 14, 35, 3, 15, 16, 17, 18, 19, 4, 5, 7, 8, 9, 10, 11, 12, 13, 20, 21, 22, 23, 24, 25, 26, 27, 28, 29, 30, 31, 32, 33, 34, 36, 37, 38, 39, 40, 41, 42, 43, 44, 45, 46, 47, 48, 64, 65, 66, 67, 68, 69, 70, 71, 72, 73, 74, 75, 76, 77, 78, 79, 80, 81, 82, 83, 84, 85, 86, 87, 88, 89, 90, 91, 92, 93, 94, 95, 96, 97, 98, 99, 100, 101, 102, 103, 104, 105, 106, 107, 108, 109, 110, 111, 112, 113, 114, 115, 116, 117, 118, 119, 120, 121, 122, 123, 124, 125, 126, 127, 128, 129, 130, 131, 132, 133, 134, 135, 136, 137, 138, 139, 140, 141, 142, 143, 144, 145, 146, 147, 148, 149, 150] rfl (by decide +kernel)
set_option maxRecDepth 20000 in
theorem gX12_readAct_X12_readSum : GoodIn wsX12_readAct (wsV RX12 248 RX12 yX12_readSum wsX12_readSum) := goodIn_app (goodIn_r _ [53, 54, 55, 6] rfl (by decide +kernel)) ggX12_readAct_X12_readSum
theorem dX12_readAct_0 : decode cX12_readAct 0 = .ok (.aload_n 0, 1) := by decide +kernel
theorem dX12_readAct_1 : decode cX12_readAct 1 = .ok (.bipush 115, 2) := by decide +kernel
theorem dX12_readAct_3 : decode cX12_readAct 3 = .ok (.bipush 104, 2) := by decide +kernel
theorem dX12_readAct_5 : decode cX12_readAct 5 = .ok (.bipush 111, 2) := by decide +kernel
theorem dX12_readAct_7 : decode cX12_readAct 7 = .ok (.bipush 119, 2) := by decide +kernel
theorem dX12_readAct_9 : decode cX12_readAct 9 = .ok (.iconst 0, 1) := by decide +kernel
theorem dX12_readAct_10 : decode cX12_readAct 10 = .ok (.invokestatic 226, 3) := by decide +kernel
theorem dX12_readAct_13 : decode cX12_readAct 13 = .ok (.invokevirtual 207, 3) := by decide +kernel
theorem dX12_readAct_16 : decode cX12_readAct 16 = .ok (.istore_n 1, 1) := by decide +kernel
theorem dX12_readAct_17 : decode cX12_readAct 17 = .ok (.aload_n 0, 1) := by decide +kernel
theorem dX12_readAct_18 : decode cX12_readAct 18 = .ok (.bipush 119, 2) := by decide +kernel
theorem dX12_readAct_20 : decode cX12_readAct 20 = .ok (.bipush 114, 2) := by decide +kernel
theorem dX12_readAct_22 : decode cX12_readAct 22 = .ok (.bipush 105, 2) := by decide +kernel
theorem dX12_readAct_24 : decode cX12_readAct 24 = .ok (.bipush 116, 2) := by decide +kernel
theorem dX12_readAct_26 : decode cX12_readAct 26 = .ok (.bipush 101, 2) := by decide +kernel
theorem dX12_readAct_28 : decode cX12_readAct 28 = .ok (.invokestatic 226, 3) := by decide +kernel
theorem dX12_readAct_31 : decode cX12_readAct 31 = .ok (.invokevirtual 207, 3) := by decide +kernel
theorem dX12_readAct_34 : decode cX12_readAct 34 = .ok (.istore_n 2, 1) := by decide +kernel
theorem dX12_readAct_35 : decode cX12_readAct 35 = .ok (.aload_n 0, 1) := by decide +kernel
theorem dX12_readAct_36 : decode cX12_readAct 36 = .ok (.bipush 115, 2) := by decide +kernel
theorem dX12_readAct_38 : decode cX12_readAct 38 = .ok (.bipush 101, 2) := by decide +kernel
theorem dX12_readAct_40 : decode cX12_readAct 40 = .ok (.bipush 110, 2) := by decide +kernel
theorem dX12_readAct_42 : decode cX12_readAct 42 = .ok (.bipush 116, 2) := by decide +kernel
theorem dX12_readAct_44 : decode cX12_readAct 44 = .ok (.iconst 0, 1) := by decide +kernel
theorem dX12_readAct_45 : decode cX12_readAct 45 = .ok (.invokestatic 226, 3) := by decide +kernel
theorem dX12_readAct_48 : decode cX12_readAct 48 = .ok (.invokevirtual 207, 3) := by decide +kernel
theorem dX12_readAct_51 : decode cX12_readAct 51 = .ok (.istore_n 3, 1) := by decide +kernel
theorem dX12_readAct_52 : decode cX12_readAct 52 = .ok (.aload_n 0, 1) := by decide +kernel
theorem dX12_readAct_53 : decode cX12_readAct 53 = .ok (.invokevirtual 222, 3) := by decide +kernel
theorem dX12_readAct_56 : decode cX12_readAct 56 = .ok (.istore 4, 2) := by decide +kernel
theorem dX12_readAct_58 : decode cX12_readAct 58 = .ok (.iload_n 1, 1) := by decide +kernel
theorem dX12_readAct_59 : decode cX12_readAct 59 = .ok (.ifCond .ne 22, 3) := by decide +kernel
theorem dX12_readAct_62 : decode cX12_readAct 62 = .ok (.iload_n 2, 1) := by decide +kernel
theorem dX12_readAct_63 : decode cX12_readAct 63 = .ok (.ifCond .ne 18, 3) := by decide +kernel
theorem dX12_readAct_66 : decode cX12_readAct 66 = .ok (.iload_n 3, 1) := by decide +kernel
theorem dX12_readAct_67 : decode cX12_readAct 67 = .ok (.ifCond .ne 14, 3) := by decide +kernel
theorem dX12_readAct_70 : decode cX12_readAct 70 = .ok (.iload 4, 2) := by decide +kernel
theorem dX12_readAct_72 : decode cX12_readAct 72 = .ok (.ifCond .ne 9, 3) := by decide +kernel
theorem dX12_readAct_75 : decode cX12_readAct 75 = .ok (.aload_n 0, 1) := by decide +kernel
theorem dX12_readAct_76 : decode cX12_readAct 76 = .ok (.iconst 1, 1) := by decide +kernel
theorem dX12_readAct_77 : decode cX12_readAct 77 = .ok (.invokevirtual 211, 3) := by decide +kernel
theorem dX12_readAct_80 : decode cX12_readAct 80 = .ok (.ireturn, 1) := by decide +kernel
theorem dX12_readAct_81 : decode cX12_readAct 81 = .ok (.aload_n 0, 1) := by decide +kernel
theorem dX12_readAct_82 : decode cX12_readAct 82 = .ok (.getfield 242, 3) := by decide +kernel
theorem dX12_readAct_85 : decode cX12_readAct 85 = .ok (.bipush 40, 2) := by decide +kernel
theorem dX12_readAct_87 : decode cX12_readAct 87 = .ok (.if_icmp .ne 9, 3) := by decide +kernel
theorem dX12_readAct_90 : decode cX12_readAct 90 = .ok (.aload_n 0, 1) := by decide +kernel
theorem dX12_readAct_91 : decode cX12_readAct 91 = .ok (.iconst 2, 1) := by decide +kernel
theorem dX12_readAct_92 : decode cX12_readAct 92 = .ok (.invokevirtual 211, 3) := by decide +kernel
theorem dX12_readAct_95 : decode cX12_readAct 95 = .ok (.ireturn, 1) := by decide +kernel
theorem dX12_readAct_96 : decode cX12_readAct 96 = .ok (.bipush 120, 2) := by decide +kernel
theorem dX12_readAct_98 : decode cX12_readAct 98 = .ok (.aload_n 0, 1) := by decide +kernel
theorem dX12_readAct_99 : decode cX12_readAct 99 = .ok (.getfield 242, 3) := by decide +kernel
theorem dX12_readAct_102 : decode cX12_readAct 102 = .ok (.iadd, 1) := by decide +kernel
theorem dX12_readAct_103 : decode cX12_readAct 103 = .ok (.istore 5, 2) := by decide +kernel
theorem dX12_readAct_105 : decode cX12_readAct 105 = .ok (.aload_n 0, 1) := by decide +kernel
theorem dX12_readAct_106 : decode cX12_readAct 106 = .ok (.getfield 35, 3) := by decide +kernel
theorem dX12_readAct_109 : decode cX12_readAct 109 = .ok (.iload 5, 2) := by decide +kernel
theorem dX12_readAct_111 : decode cX12_readAct 111 = .ok (.iload_n 1, 1) := by decide +kernel
theorem dX12_readAct_112 : decode cX12_readAct 112 = .ok (.ifCond .eq 7, 3) := by decide +kernel
theorem dX12_readAct_115 : decode cX12_readAct 115 = .ok (.iconst 4, 1) := by decide +kernel
theorem dX12_readAct_116 : decode cX12_readAct 116 = .ok (.goto 27, 3) := by decide +kernel
theorem dX12_readAct_119 : decode cX12_readAct 119 = .ok (.iload_n 2, 1) := by decide +kernel
theorem dX12_readAct_120 : decode cX12_readAct 120 = .ok (.ifCond .eq 7, 3) := by decide +kernel
theorem dX12_readAct_123 : decode cX12_readAct 123 = .ok (.iconst 5, 1) := by decide +kernel
theorem dX12_readAct_124 : decode cX12_readAct 124 = .ok (.goto 19, 3) := by decide +kernel
theorem dX12_readAct_127 : decode cX12_readAct 127 = .ok (.iload_n 3, 1) := by decide +kernel
theorem dX12_readAct_128 : decode cX12_readAct 128 = .ok (.ifCond .eq 8, 3) := by decide +kernel
theorem dX12_readAct_131 : decode cX12_readAct 131 = .ok (.bipush 6, 2) := by decide +kernel
theorem dX12_readAct_133 : decode cX12_readAct 133 = .ok (.goto 10, 3) := by decide +kernel
theorem dX12_readAct_136 : decode cX12_readAct 136 = .ok (.aload_n 0, 1) := by decide +kernel
theorem dX12_readAct_137 : decode cX12_readAct 137 = .ok (.getfield 186, 3) := by decide +kernel
theorem dX12_readAct_140 : decode cX12_readAct 140 = .ok (.l2i, 1) := by decide +kernel
theorem dX12_readAct_141 : decode cX12_readAct 141 = .ok (.iconst 1, 1) := by decide +kernel
theorem dX12_readAct_142 : decode cX12_readAct 142 = .ok (.isub, 1) := by decide +kernel
theorem dX12_readAct_143 : decode cX12_readAct 143 = .ok (.iastore, 1) := by decide +kernel
theorem dX12_readAct_144 : decode cX12_readAct 144 = .ok (.aload_n 0, 1) := by decide +kernel
theorem dX12_readAct_145 : decode cX12_readAct 145 = .ok (.invokevirtual 214, 3) := by decide +kernel
theorem dX12_readAct_148 : decode cX12_readAct 148 = .ok (.iload 4, 2) := by decide +kernel
theorem dX12_readAct_150 : decode cX12_readAct 150 = .ok (.ifCond .eq 22, 3) := by decide +kernel
theorem dX12_readAct_153 : decode cX12_readAct 153 = .ok (.aload_n 0, 1) := by decide +kernel
theorem dX12_readAct_154 : decode cX12_readAct 154 = .ok (.bipush 105, 2) := by decide +kernel
theorem dX12_readAct_156 : decode cX12_readAct 156 = .ok (.bipush 115, 2) := by decide +kernel
theorem dX12_readAct_158 : decode cX12_readAct 158 = .ok (.iconst 0, 1) := by decide +kernel
theorem dX12_readAct_159 : decode cX12_readAct 159 = .ok (.iconst 0, 1) := by decide +kernel
theorem dX12_readAct_160 : decode cX12_readAct 160 = .ok (.iconst 0, 1) := by decide +kernel
theorem dX12_readAct_161 : decode cX12_readAct 161 = .ok (.invokestatic 226, 3) := by decide +kernel
theorem dX12_readAct_164 : decode cX12_readAct 164 = .ok (.invokevirtual 245, 3) := by decide +kernel
theorem dX12_readAct_167 : decode cX12_readAct 167 = .ok (.ifCond .ne 5, 3) := by decide +kernel
theorem dX12_readAct_170 : decode cX12_readAct 170 = .ok (.iconst 0, 1) := by decide +kernel
theorem dX12_readAct_171 : decode cX12_readAct 171 = .ok (.ireturn, 1) := by decide +kernel
theorem dX12_readAct_172 : decode cX12_readAct 172 = .ok (.iload_n 3, 1) := by decide +kernel
theorem dX12_readAct_173 : decode cX12_readAct 173 = .ok (.ifCond .ne 14, 3) := by decide +kernel
theorem dX12_readAct_176 : decode cX12_readAct 176 = .ok (.aload_n 0, 1) := by decide +kernel
theorem dX12_readAct_177 : decode cX12_readAct 177 = .ok (.iload 5, 2) := by decide +kernel
theorem dX12_readAct_179 : decode cX12_readAct 179 = .ok (.invokevirtual 248, 3) := by decide +kernel
theorem dX12_readAct_182 : decode cX12_readAct 182 = .ok (.ifCond .ne 5, 3) := by decide +kernel
theorem dX12_readAct_185 : decode cX12_readAct 185 = .ok (.iconst 0, 1) := by decide +kernel
theorem dX12_readAct_186 : decode cX12_readAct 186 = .ok (.ireturn, 1) := by decide +kernel
theorem dX12_readAct_187 : decode cX12_readAct 187 = .ok (.aload_n 0, 1) := by decide +kernel
theorem dX12_readAct_188 : decode cX12_readAct 188 = .ok (.dup, 1) := by decide +kernel
theorem dX12_readAct_189 : decode cX12_readAct 189 = .ok (.getfield 242, 3) := by decide +kernel
theorem dX12_readAct_192 : decode cX12_readAct 192 = .ok (.iconst 1, 1) := by decide +kernel
theorem dX12_readAct_193 : decode cX12_readAct 193 = .ok (.iadd, 1) := by decide +kernel
theorem dX12_readAct_194 : decode cX12_readAct 194 = .ok (.putfield 242, 3) := by decide +kernel
theorem dX12_readAct_197 : decode cX12_readAct 197 = .ok (.iconst 1, 1) := by decide +kernel
theorem dX12_readAct_198 : decode cX12_readAct 198 = .ok (.ireturn, 1) := by decide +kernel
set_option maxRecDepth 20000 in
theorem ggX12_readRule_X12_spelt : GoodIn wsX12_readRule wsX12_spelt := goodIn_r _ [9, 10, 11] rfl (by decide +kernel)
set_option maxRecDepth 20000 in
theorem gX12_readRule_X12_spelt : GoodIn wsX12_readRule (va_wsS RX12 226 yX12_spelt wsX12_spelt) := goodIn_app (goodIn_r _ [6, 7, 8] rfl (by decide +kernel)) ggX12_readRule_X12_spelt
set_option maxRecDepth 20000 in
theorem ggX12_readRule_X12_isKey : GoodIn wsX12_readRule wsX12_isKey := goodIn_r _ [15, 16, 17, 87, 88, 89, 90, 91, 92, 93, 94, 95, 96, 97, 98, 99, 100, 101, 102, 103, 104, 105, 106, 107, 108, 109, 110, 111, 112, 113, 114, 115, 116, 117, 118, 119, 120, 121, 122, 123, 124, 125, 126, 127, 128, 129, 130, 131, 132, 133, 134, 135, 136, 137, 138, 139, 140, 141, 142, 143, 144, 145, 146, 147, 148, 149, 150, 151, 152, 153, 154, 155, 156, 157, 158, 159, 160, 161, 162, 163, 164, 165, 166, 167, 168, 169] rfl (by decide +kernel)
set_option maxRecDepth 20000 in
theorem gX12_readRule_X12_isKey : GoodIn wsX12_readRule (wsV RX12 207 RX12 yX12_isKey wsX12_isKey) := goodIn_app (goodIn_r _ [12, 13, 14, 8] rfl (by decide +kernel)) ggX12_readRule_X12_isKey
set_option maxRecDepth 20000 in
theorem ggX12_readRule_X12_bad : GoodIn wsX12_readRule wsX12_bad := goodIn_r _ [21, 16, 22, 23, 24, 87, 88, 89, 90, 91, 92, 93, 94, 95, 96, 97, 98, 99, 100, 101, 102, 103, 104, 105, 106, 107, 108, 109, 110, 111, 112, 113, 114, 115, 116, 117, 118, 119, 120, 121, 122, 123, 124, 125, 126, 127, 128, 129, 130, 131, 132, 133, 134, 135, 136, 137, 138, 139, 140, 141, 142, 143, 144, 145, 146, 147, 148, 149, 150, 151, 152, 153, 154, 155, 156, 157, 158, 159, 160, 161, 162, 163, 164, 165, 166, 167, 168, 169] rfl (by decide +kernel)
set_option maxRecDepth 20000 in
theorem gX12_readRule_X12_bad : GoodIn wsX12_readRule (wsV RX12 211 RX12 yX12_bad wsX12_bad) := goodIn_app (goodIn_r _ [18, 19, 20, 8] rfl (by decide +kernel)) ggX12_readRule_X12_bad
set_option maxRecDepth 20000 in
theorem ggX12_readRule_X12_go : GoodIn wsX12_readRule wsX12_go := goodIn_r _ [28, 29, 30, 31, 23, 16, 32, 17, 33, 10, 11, 34, 35, 8, 36, 37, 38, 39, 40, 41, 42, 43, 44, 45, 46, 87, 88, 89, 90, 91, 92, 93, 94, 95, 96, 97, 98, 99, 100, 101, 102, 103, 104, 105, 106, 107, 108, 109, 110, 111, 112, 113, 114, 115, 116, 117, 118, 119, 120, 121, 122, 123, 124, 125, 126, 127, 128, 129, 130, 131, 132, 133, 134, 135, 136, 137, 138, 139, 140, 141, 142, 143, 144, 145, 146, 147, 148, 149, 150, 151, 152, 153, 154, 155, 156, 157, 158, 159, 160, 161, 162, 163, 164, 165, 166, 167, 168, 169] rfl (by decide +kernel)
set_option maxRecDepth 20000 in
theorem gX12_readRule_X12_go : GoodIn wsX12_readRule (wsV RX12 214 RX12 yX12_go wsX12_go) := goodIn_app (goodIn_r _ [25, 26, 27, 8] rfl (by decide +kernel)) ggX12_readRule_X12_go
set_option maxRecDepth 20000 in
theorem ggX12_readRule_X12_readOne : GoodIn wsX12_readRule wsX12_readOne := goodIn_r _ [50, 3, 51, 52, 53, 32, 54, 55, 56, 57, 8, 58, 16, 6, 7, 9, 10, 11, 12, 13, 14, 15, 17, 59, 60, 61, 62, 63, 18, 19, 20, 21, 22, 23, 24, 64, 65, 66, 67, 33, 25, 26, 27, 28, 29, 30, 31, 34, 35, 36, 37, 38, 39, 40, 41, 42, 43, 44, 45, 46, 68, 69, 70, 71, 87, 88, 89, 90, 91, 92, 93, 94, 95, 96, 97, 98, 99, 100, 101, 102, 103, 104, 105, 106, 107, 108, 109, 110, 111, 112, 113, 114, 115, 116, 117, 118, 119, 120, 121, 122, 123, 124, 125, 126, 127, 128, 129, 130, 131, 132, 133, 134, 135, 136, 137, 138, 139, 140, 141, 142, 143, 144, 145, 146, 147, 148, 149, 150, 151, 152, 153, 154, 155, 156, 157, 158, 159, 160, 161, 162, 163, 164, 165, 166, 167, 168, 169] rfl (by decide +kernel)
set_option maxRecDepth 20000 in
theorem gX12_readRule_X12_readOne : GoodIn wsX12_readRule (wsV RX12 251 RX12 yX12_readOne wsX12_readOne) := goodIn_app (goodIn_r _ [47, 48, 49, 8] rfl (by decide +kernel)) ggX12_readRule_X12_readOne
set_option maxRecDepth 20000 in
theorem ggX12_readRule_X12_readAct : GoodIn wsX12_readRule wsX12_readAct := goodIn_r _ [75, 5, 76, 17, 6, 7, 8, 9, 10, 11, 12, 13, 14, 15, 16, 59, 60, 61, 62, 63, 18, 19, 20, 21, 22, 23, 24, 25, 26, 27, 28, 29, 30, 31, 32, 33, 34, 35, 36, 37, 38, 39, 40, 41, 42, 43, 44, 45, 46, 77, 78, 79, 80, 81, 82, 83, 84, 85, 52, 86, 64, 65, 66, 67, 68, 69, 70, 71, 87, 88, 89, 90, 91, 92, 93, 94, 95, 96, 97, 98, 99, 100, 101, 102, 103, 104, 105, 106, 107, 108, 109, 110, 111, 112, 113, 114, 115, 116, 117, 118, 119, 120, 121, 122, 123, 124, 125, 126, 127, 128, 129, 130, 131, 132, 133, 134, 135, 136, 137, 138, 139, 140, 141, 142, 143, 144, 145, 146, 147, 148, 149, 150, 151, 152, 153, 154, 155, 156, 157, 158, 159, 160, 161, 162, 163, 164, 165, 166, 167, 168, 169] rfl (by decide +kernel)
set_option maxRecDepth 20000 in
theorem gX12_readRule_X12_readAct : GoodIn wsX12_readRule (wsV RX12 254 RX12 yX12_readAct wsX12_readAct) := goodIn_app (goodIn_r _ [72, 73, 74, 8] rfl (by decide +kernel)) ggX12_readRule_X12_readAct
set_option maxRecDepth 20000 in
theorem ggX12_readRule_X12_isSign : GoodIn wsX12_readRule wsX12_isSign := goodIn_r _ [71, 16, 32, 87, 88, 89, 90, 91, 92, 93, 94, 95, 96, 97, 98, 99, 100, 101, 102, 103, 104, 105, 106, 107, 108, 109, 110, 111, 112, 113, 114, 115, 116, 117, 118, 119, 120, 121, 122, 123, 124, 125, 126, 127, 128, 129, 130, 131, 132, 133, 134, 135, 136, 137, 138, 139, 140, 141, 142, 143, 144, 145, 146, 147, 148, 149, 150, 151, 152, 153, 154, 155, 156, 157, 158, 159, 160, 161, 162, 163, 164, 165, 166, 167, 168, 169] rfl (by decide +kernel)
set_option maxRecDepth 20000 in
theorem gX12_readRule_X12_isSign : GoodIn wsX12_readRule (wsV RX12 239 RX12 yX12_isSign wsX12_isSign) := goodIn_app (goodIn_r _ [68, 69, 70, 8] rfl (by decide +kernel)) ggX12_readRule_X12_isSign
theorem dX12_readRule_0 : decode cX12_readRule 0 = .ok (.aload_n 0, 1) := by decide +kernel
theorem dX12_readRule_1 : decode cX12_readRule 1 = .ok (.bipush 119, 2) := by decide +kernel
theorem dX12_readRule_3 : decode cX12_readRule 3 = .ok (.bipush 104, 2) := by decide +kernel
theorem dX12_readRule_5 : decode cX12_readRule 5 = .ok (.bipush 101, 2) := by decide +kernel
theorem dX12_readRule_7 : decode cX12_readRule 7 = .ok (.bipush 110, 2) := by decide +kernel
theorem dX12_readRule_9 : decode cX12_readRule 9 = .ok (.iconst 0, 1) := by decide +kernel
theorem dX12_readRule_10 : decode cX12_readRule 10 = .ok (.invokestatic 226, 3) := by decide +kernel
theorem dX12_readRule_13 : decode cX12_readRule 13 = .ok (.invokevirtual 207, 3) := by decide +kernel
theorem dX12_readRule_16 : decode cX12_readRule 16 = .ok (.ifCond .ne 9, 3) := by decide +kernel
theorem dX12_readRule_19 : decode cX12_readRule 19 = .ok (.aload_n 0, 1) := by decide +kernel
theorem dX12_readRule_20 : decode cX12_readRule 20 = .ok (.iconst 1, 1) := by decide +kernel
theorem dX12_readRule_21 : decode cX12_readRule 21 = .ok (.invokevirtual 211, 3) := by decide +kernel
theorem dX12_readRule_24 : decode cX12_readRule 24 = .ok (.ireturn, 1) := by decide +kernel
theorem dX12_readRule_25 : decode cX12_readRule 25 = .ok (.aload_n 0, 1) := by decide +kernel
theorem dX12_readRule_26 : decode cX12_readRule 26 = .ok (.getfield 17, 3) := by decide +kernel
theorem dX12_readRule_29 : decode cX12_readRule 29 = .ok (.iconst 3, 1) := by decide +kernel
theorem dX12_readRule_30 : decode cX12_readRule 30 = .ok (.iaload, 1) := by decide +kernel
theorem dX12_readRule_31 : decode cX12_readRule 31 = .ok (.istore_n 1, 1) := by decide +kernel
theorem dX12_readRule_32 : decode cX12_readRule 32 = .ok (.iload_n 1, 1) := by decide +kernel
theorem dX12_readRule_33 : decode cX12_readRule 33 = .ok (.bipush 20, 2) := by decide +kernel
theorem dX12_readRule_35 : decode cX12_readRule 35 = .ok (.if_icmp .ne 9, 3) := by decide +kernel
theorem dX12_readRule_38 : decode cX12_readRule 38 = .ok (.aload_n 0, 1) := by decide +kernel
theorem dX12_readRule_39 : decode cX12_readRule 39 = .ok (.iconst 2, 1) := by decide +kernel
theorem dX12_readRule_40 : decode cX12_readRule 40 = .ok (.invokevirtual 211, 3) := by decide +kernel
theorem dX12_readRule_43 : decode cX12_readRule 43 = .ok (.ireturn, 1) := by decide +kernel
theorem dX12_readRule_44 : decode cX12_readRule 44 = .ok (.aload_n 0, 1) := by decide +kernel
theorem dX12_readRule_45 : decode cX12_readRule 45 = .ok (.invokevirtual 214, 3) := by decide +kernel
theorem dX12_readRule_48 : decode cX12_readRule 48 = .ok (.aload_n 0, 1) := by decide +kernel
theorem dX12_readRule_49 : decode cX12_readRule 49 = .ok (.invokevirtual 251, 3) := by decide +kernel
theorem dX12_readRule_52 : decode cX12_readRule 52 = .ok (.ifCond .ne 5, 3) := by decide +kernel
theorem dX12_readRule_55 : decode cX12_readRule 55 = .ok (.iconst 0, 1) := by decide +kernel
theorem dX12_readRule_56 : decode cX12_readRule 56 = .ok (.ireturn, 1) := by decide +kernel
theorem dX12_readRule_57 : decode cX12_readRule 57 = .ok (.aload_n 0, 1) := by decide +kernel
theorem dX12_readRule_58 : decode cX12_readRule 58 = .ok (.bipush 97, 2) := by decide +kernel
theorem dX12_readRule_60 : decode cX12_readRule 60 = .ok (.bipush 110, 2) := by decide +kernel
theorem dX12_readRule_62 : decode cX12_readRule 62 = .ok (.bipush 100, 2) := by decide +kernel
theorem dX12_readRule_64 : decode cX12_readRule 64 = .ok (.iconst 0, 1) := by decide +kernel
theorem dX12_readRule_65 : decode cX12_readRule 65 = .ok (.iconst 0, 1) := by decide +kernel
theorem dX12_readRule_66 : decode cX12_readRule 66 = .ok (.invokestatic 226, 3) := by decide +kernel
theorem dX12_readRule_69 : decode cX12_readRule 69 = .ok (.invokevirtual 207, 3) := by decide +kernel
theorem dX12_readRule_72 : decode cX12_readRule 72 = .ok (.ifCond .ne (-28), 3) := by decide +kernel
theorem dX12_readRule_75 : decode cX12_readRule 75 = .ok (.aload_n 0, 1) := by decide +kernel
theorem dX12_readRule_76 : decode cX12_readRule 76 = .ok (.bipush 100, 2) := by decide +kernel
theorem dX12_readRule_78 : decode cX12_readRule 78 = .ok (.bipush 111, 2) := by decide +kernel
theorem dX12_readRule_80 : decode cX12_readRule 80 = .ok (.iconst 0, 1) := by decide +kernel
theorem dX12_readRule_81 : decode cX12_readRule 81 = .ok (.iconst 0, 1) := by decide +kernel
theorem dX12_readRule_82 : decode cX12_readRule 82 = .ok (.iconst 0, 1) := by decide +kernel
theorem dX12_readRule_83 : decode cX12_readRule 83 = .ok (.invokestatic 226, 3) := by decide +kernel
theorem dX12_readRule_86 : decode cX12_readRule 86 = .ok (.invokevirtual 207, 3) := by decide +kernel
theorem dX12_readRule_89 : decode cX12_readRule 89 = .ok (.ifCond .ne 9, 3) := by decide +kernel
theorem dX12_readRule_92 : decode cX12_readRule 92 = .ok (.aload_n 0, 1) := by decide +kernel
theorem dX12_readRule_93 : decode cX12_readRule 93 = .ok (.iconst 1, 1) := by decide +kernel
theorem dX12_readRule_94 : decode cX12_readRule 94 = .ok (.invokevirtual 211, 3) := by decide +kernel
theorem dX12_readRule_97 : decode cX12_readRule 97 = .ok (.ireturn, 1) := by decide +kernel
theorem dX12_readRule_98 : decode cX12_readRule 98 = .ok (.aload_n 0, 1) := by decide +kernel
theorem dX12_readRule_99 : decode cX12_readRule 99 = .ok (.invokevirtual 214, 3) := by decide +kernel
theorem dX12_readRule_102 : decode cX12_readRule 102 = .ok (.aload_n 0, 1) := by decide +kernel
theorem dX12_readRule_103 : decode cX12_readRule 103 = .ok (.invokevirtual 254, 3) := by decide +kernel
theorem dX12_readRule_106 : decode cX12_readRule 106 = .ok (.ifCond .ne 5, 3) := by decide +kernel
theorem dX12_readRule_109 : decode cX12_readRule 109 = .ok (.iconst 0, 1) := by decide +kernel
theorem dX12_readRule_110 : decode cX12_readRule 110 = .ok (.ireturn, 1) := by decide +kernel
theorem dX12_readRule_111 : decode cX12_readRule 111 = .ok (.aload_n 0, 1) := by decide +kernel
theorem dX12_readRule_112 : decode cX12_readRule 112 = .ok (.bipush 44, 2) := by decide +kernel
theorem dX12_readRule_114 : decode cX12_readRule 114 = .ok (.invokevirtual 239, 3) := by decide +kernel
theorem dX12_readRule_117 : decode cX12_readRule 117 = .ok (.ifCond .ne (-19), 3) := by decide +kernel
theorem dX12_readRule_120 : decode cX12_readRule 120 = .ok (.aload_n 0, 1) := by decide +kernel
theorem dX12_readRule_121 : decode cX12_readRule 121 = .ok (.bipush 59, 2) := by decide +kernel
theorem dX12_readRule_123 : decode cX12_readRule 123 = .ok (.invokevirtual 239, 3) := by decide +kernel
theorem dX12_readRule_126 : decode cX12_readRule 126 = .ok (.ifCond .ne 9, 3) := by decide +kernel
theorem dX12_readRule_129 : decode cX12_readRule 129 = .ok (.aload_n 0, 1) := by decide +kernel
theorem dX12_readRule_130 : decode cX12_readRule 130 = .ok (.iconst 1, 1) := by decide +kernel
theorem dX12_readRule_131 : decode cX12_readRule 131 = .ok (.invokevirtual 211, 3) := by decide +kernel
theorem dX12_readRule_134 : decode cX12_readRule 134 = .ok (.ireturn, 1) := by decide +kernel
theorem dX12_readRule_135 : decode cX12_readRule 135 = .ok (.aload_n 0, 1) := by decide +kernel
theorem dX12_readRule_136 : decode cX12_readRule 136 = .ok (.invokevirtual 214, 3) := by decide +kernel
theorem dX12_readRule_139 : decode cX12_readRule 139 = .ok (.aload_n 0, 1) := by decide +kernel
theorem dX12_readRule_140 : decode cX12_readRule 140 = .ok (.getfield 20, 3) := by decide +kernel
theorem dX12_readRule_143 : decode cX12_readRule 143 = .ok (.bipush 60, 2) := by decide +kernel
theorem dX12_readRule_145 : decode cX12_readRule 145 = .ok (.iload_n 1, 1) := by decide +kernel
theorem dX12_readRule_146 : decode cX12_readRule 146 = .ok (.iadd, 1) := by decide +kernel
theorem dX12_readRule_147 : decode cX12_readRule 147 = .ok (.aload_n 0, 1) := by decide +kernel
theorem dX12_readRule_148 : decode cX12_readRule 148 = .ok (.getfield 233, 3) := by decide +kernel
theorem dX12_readRule_151 : decode cX12_readRule 151 = .ok (.iastore, 1) := by decide +kernel
theorem dX12_readRule_152 : decode cX12_readRule 152 = .ok (.aload_n 0, 1) := by decide +kernel
theorem dX12_readRule_153 : decode cX12_readRule 153 = .ok (.getfield 23, 3) := by decide +kernel
theorem dX12_readRule_156 : decode cX12_readRule 156 = .ok (.bipush 60, 2) := by decide +kernel
theorem dX12_readRule_158 : decode cX12_readRule 158 = .ok (.iload_n 1, 1) := by decide +kernel
theorem dX12_readRule_159 : decode cX12_readRule 159 = .ok (.iadd, 1) := by decide +kernel
theorem dX12_readRule_160 : decode cX12_readRule 160 = .ok (.aload_n 0, 1) := by decide +kernel
theorem dX12_readRule_161 : decode cX12_readRule 161 = .ok (.getfield 242, 3) := by decide +kernel
theorem dX12_readRule_164 : decode cX12_readRule 164 = .ok (.iastore, 1) := by decide +kernel
theorem dX12_readRule_165 : decode cX12_readRule 165 = .ok (.aload_n 0, 1) := by decide +kernel
theorem dX12_readRule_166 : decode cX12_readRule 166 = .ok (.getfield 17, 3) := by decide +kernel
theorem dX12_readRule_169 : decode cX12_readRule 169 = .ok (.iconst 3, 1) := by decide +kernel
theorem dX12_readRule_170 : decode cX12_readRule 170 = .ok (.dup2, 1) := by decide +kernel
theorem dX12_readRule_171 : decode cX12_readRule 171 = .ok (.iaload, 1) := by decide +kernel
theorem dX12_readRule_172 : decode cX12_readRule 172 = .ok (.iconst 1, 1) := by decide +kernel
theorem dX12_readRule_173 : decode cX12_readRule 173 = .ok (.iadd, 1) := by decide +kernel
theorem dX12_readRule_174 : decode cX12_readRule 174 = .ok (.iastore, 1) := by decide +kernel
theorem dX12_readRule_175 : decode cX12_readRule 175 = .ok (.iconst 1, 1) := by decide +kernel
theorem dX12_readRule_176 : decode cX12_readRule 176 = .ok (.ireturn, 1) := by decide +kernel
set_option maxRecDepth 20000 in
theorem ggX12_program_X12_take : GoodIn wsX12_program wsX12_take := goodIn_r _ [22, 23, 100, 101, 102, 103, 104, 105, 106, 107, 108, 109, 110, 111, 112, 113, 114, 115, 116, 117, 118, 119, 120, 121, 122, 123, 124, 125, 126, 127, 128, 129, 130, 131, 132, 133, 134, 135, 136, 137, 138, 139, 140, 141, 142, 143, 144, 145, 146, 147, 148, 149, 150, 151, 152, 153, 154, 155, 156, 157, 158, 159, 160, 161, 162, 163, 164, 165, 166, 167, 168, 169, 170, 171, 172, 173, 174, 175, 176, 177, 178, 179, 180, 181, 182] rfl (by decide +kernel)
set_option maxRecDepth 20000 in
theorem gX12_program_X12_take : GoodIn wsX12_program (wsV RX12 257 RX12 yX12_take wsX12_take) := goodIn_app (goodIn_r _ [18, 19, 20, 21] rfl (by decide +kernel)) ggX12_program_X12_take
set_option maxRecDepth 20000 in
theorem ggX12_program_X12_isIn : GoodIn wsX12_program wsX12_isIn := goodIn_r _ [26] rfl (by decide +kernel)
set_option maxRecDepth 20000 in
theorem gX12_program_X12_isIn : GoodIn wsX12_program (va_wsS RX12 148 yX12_isIn wsX12_isIn) := goodIn_app (goodIn_r _ [24, 25, 21] rfl (by decide +kernel)) ggX12_program_X12_isIn
set_option maxRecDepth 20000 in
theorem ggX12_program_X12_go : GoodIn wsX12_program wsX12_go := goodIn_r _ [30, 7, 2, 31, 32, 8, 33, 34, 35, 36, 37, 38, 39, 21, 40, 41, 42, 43, 44, 45, 46, 47, 48, 49, 50, 100, 101, 102, 103, 104, 105, 106, 107, 108, 109, 110, 111, 112, 113, 114, 115, 116, 117, 118, 119, 120, 121, 122, 123, 124, 125, 126, 127, 128, 129, 130, 131, 132, 133, 134, 135, 136, 137, 138, 139, 140, 141, 142, 143, 144, 145, 146, 147, 148, 149, 150, 151, 152, 153, 154, 155, 156, 157, 158, 159, 160, 161, 162, 163, 164, 165, 166, 167, 168, 169, 170, 171, 172, 173, 174, 175, 176, 177, 178, 179, 180, 181, 182] rfl (by decide +kernel)
set_option maxRecDepth 20000 in
theorem gX12_program_X12_go : GoodIn wsX12_program (wsV RX12 214 RX12 yX12_go wsX12_go) := goodIn_app (goodIn_r _ [27, 28, 29, 21] rfl (by decide +kernel)) ggX12_program_X12_go
set_option maxRecDepth 20000 in
theorem ggX12_program_X12_readRule : GoodIn wsX12_program wsX12_readRule := goodIn_r _ [54, 4, 10, 5, 11, 6, 55, 56, 21, 57, 36, 37, 58, 59, 60, 61, 8, 34, 62, 63, 64, 65, 3, 32, 9, 27, 28, 29, 30, 7, 2, 31, 33, 35, 38, 39, 40, 41, 42, 43, 44, 45, 46, 47, 48, 49, 50, 66, 67, 68, 69, 12, 70, 13, 14, 71, 72, 73, 74, 75, 76, 77, 78, 79, 80, 81, 82, 83, 84, 85, 86, 87, 88, 89, 90, 91, 15, 92, 93, 94, 95, 96, 97, 98, 99, 16, 17, 100, 101, 102, 103, 104, 105, 106, 107, 108, 109, 110, 111, 112, 113, 114, 115, 116, 117, 118, 119, 120, 121, 122, 123, 124, 125, 126, 127, 128, 129, 130, 131, 132, 133, 134, 135, 136, 137, 138, 139, 140, 141, 142, 143, 144, 145, 146, 147, 148, 149, 150, 151, 152, 153, 154, 155, 156, 157, 158, 159, 160, 161, 162, 163, 164, 165, 166, 167, 168, 169, 170, 171, 172, 173, 174, 175, 176, 177, 178, 179, 180, 181, 182] rfl (by decide +kernel)
set_option maxRecDepth 20000 in
theorem gX12_program_X12_readRule : GoodIn wsX12_program (wsV RX12 261 RX12 yX12_readRule wsX12_readRule) := goodIn_app (goodIn_r _ [51, 52, 53, 21] rfl (by decide +kernel)) ggX12_program_X12_readRule
theorem dX12_program_0 : decode cX12_program 0 = .ok (.aload_n 0, 1) := by decide +kernel
theorem dX12_program_1 : decode cX12_program 1 = .ok (.iconst 0, 1) := by decide +kernel
theorem dX12_program_2 : decode cX12_program 2 = .ok (.putfield 138, 3) := by decide +kernel
theorem dX12_program_5 : decode cX12_program 5 = .ok (.aload_n 0, 1) := by decide +kernel
theorem dX12_program_6 : decode cX12_program 6 = .ok (.aload_n 0, 1) := by decide +kernel
theorem dX12_program_7 : decode cX12_program 7 = .ok (.invokevirtual 257, 3) := by decide +kernel
theorem dX12_program_10 : decode cX12_program 10 = .ok (.putfield 161, 3) := by decide +kernel
theorem dX12_program_13 : decode cX12_program 13 = .ok (.iload_n 1, 1) := by decide +kernel
theorem dX12_program_14 : decode cX12_program 14 = .ok (.iconst 0, 1) := by decide +kernel
theorem dX12_program_15 : decode cX12_program 15 = .ok (.iconst 2, 1) := by decide +kernel
theorem dX12_program_16 : decode cX12_program 16 = .ok (.invokestatic 148, 3) := by decide +kernel
theorem dX12_program_19 : decode cX12_program 19 = .ok (.ifCond .ne 7, 3) := by decide +kernel
theorem dX12_program_22 : decode cX12_program 22 = .ok (.sipush (-1000), 3) := by decide +kernel
theorem dX12_program_25 : decode cX12_program 25 = .ok (.ireturn, 1) := by decide +kernel
theorem dX12_program_26 : decode cX12_program 26 = .ok (.aload_n 0, 1) := by decide +kernel
theorem dX12_program_27 : decode cX12_program 27 = .ok (.iconst 0, 1) := by decide +kernel
theorem dX12_program_28 : decode cX12_program 28 = .ok (.putfield 201, 3) := by decide +kernel
theorem dX12_program_31 : decode cX12_program 31 = .ok (.aload_n 0, 1) := by decide +kernel
theorem dX12_program_32 : decode cX12_program 32 = .ok (.getfield 17, 3) := by decide +kernel
theorem dX12_program_35 : decode cX12_program 35 = .ok (.iconst 3, 1) := by decide +kernel
theorem dX12_program_36 : decode cX12_program 36 = .ok (.iconst 0, 1) := by decide +kernel
theorem dX12_program_37 : decode cX12_program 37 = .ok (.iastore, 1) := by decide +kernel
theorem dX12_program_38 : decode cX12_program 38 = .ok (.aload_n 0, 1) := by decide +kernel
theorem dX12_program_39 : decode cX12_program 39 = .ok (.iconst 0, 1) := by decide +kernel
theorem dX12_program_40 : decode cX12_program 40 = .ok (.putfield 233, 3) := by decide +kernel
theorem dX12_program_43 : decode cX12_program 43 = .ok (.aload_n 0, 1) := by decide +kernel
theorem dX12_program_44 : decode cX12_program 44 = .ok (.iconst 0, 1) := by decide +kernel
theorem dX12_program_45 : decode cX12_program 45 = .ok (.putfield 242, 3) := by decide +kernel
theorem dX12_program_48 : decode cX12_program 48 = .ok (.aload_n 0, 1) := by decide +kernel
theorem dX12_program_49 : decode cX12_program 49 = .ok (.iconst 0, 1) := by decide +kernel
theorem dX12_program_50 : decode cX12_program 50 = .ok (.putfield 164, 3) := by decide +kernel
theorem dX12_program_53 : decode cX12_program 53 = .ok (.aload_n 0, 1) := by decide +kernel
theorem dX12_program_54 : decode cX12_program 54 = .ok (.invokevirtual 214, 3) := by decide +kernel
theorem dX12_program_57 : decode cX12_program 57 = .ok (.aload_n 0, 1) := by decide +kernel
theorem dX12_program_58 : decode cX12_program 58 = .ok (.getfield 170, 3) := by decide +kernel
theorem dX12_program_61 : decode cX12_program 61 = .ok (.ifCond .eq 17, 3) := by decide +kernel
theorem dX12_program_64 : decode cX12_program 64 = .ok (.aload_n 0, 1) := by decide +kernel
theorem dX12_program_65 : decode cX12_program 65 = .ok (.invokevirtual 261, 3) := by decide +kernel
theorem dX12_program_68 : decode cX12_program 68 = .ok (.ifCond .ne (-11), 3) := by decide +kernel
theorem dX12_program_71 : decode cX12_program 71 = .ok (.iconst (-1), 1) := by decide +kernel
theorem dX12_program_72 : decode cX12_program 72 = .ok (.aload_n 0, 1) := by decide +kernel
theorem dX12_program_73 : decode cX12_program 73 = .ok (.getfield 204, 3) := by decide +kernel
theorem dX12_program_76 : decode cX12_program 76 = .ok (.isub, 1) := by decide +kernel
theorem dX12_program_77 : decode cX12_program 77 = .ok (.ireturn, 1) := by decide +kernel
theorem dX12_program_78 : decode cX12_program 78 = .ok (.aload_n 0, 1) := by decide +kernel
theorem dX12_program_79 : decode cX12_program 79 = .ok (.getfield 17, 3) := by decide +kernel
theorem dX12_program_82 : decode cX12_program 82 = .ok (.iload_n 1, 1) := by decide +kernel
theorem dX12_program_83 : decode cX12_program 83 = .ok (.aload_n 0, 1) := by decide +kernel
theorem dX12_program_84 : decode cX12_program 84 = .ok (.getfield 17, 3) := by decide +kernel
theorem dX12_program_87 : decode cX12_program 87 = .ok (.iconst 3, 1) := by decide +kernel
theorem dX12_program_88 : decode cX12_program 88 = .ok (.iaload, 1) := by decide +kernel
theorem dX12_program_89 : decode cX12_program 89 = .ok (.iastore, 1) := by decide +kernel
theorem dX12_program_90 : decode cX12_program 90 = .ok (.iconst 0, 1) := by decide +kernel
theorem dX12_program_91 : decode cX12_program 91 = .ok (.istore_n 2, 1) := by decide +kernel
theorem dX12_program_92 : decode cX12_program 92 = .ok (.iload_n 2, 1) := by decide +kernel
theorem dX12_program_93 : decode cX12_program 93 = .ok (.bipush 20, 2) := by decide +kernel
theorem dX12_program_95 : decode cX12_program 95 = .ok (.if_icmp .ge 49, 3) := by decide +kernel
theorem dX12_program_98 : decode cX12_program 98 = .ok (.aload_n 0, 1) := by decide +kernel
theorem dX12_program_99 : decode cX12_program 99 = .ok (.getfield 20, 3) := by decide +kernel
theorem dX12_program_102 : decode cX12_program 102 = .ok (.bipush 20, 2) := by decide +kernel
theorem dX12_program_104 : decode cX12_program 104 = .ok (.iload_n 1, 1) := by decide +kernel
theorem dX12_program_105 : decode cX12_program 105 = .ok (.imul, 1) := by decide +kernel
theorem dX12_program_106 : decode cX12_program 106 = .ok (.iload_n 2, 1) := by decide +kernel
theorem dX12_program_107 : decode cX12_program 107 = .ok (.iadd, 1) := by decide +kernel
theorem dX12_program_108 : decode cX12_program 108 = .ok (.aload_n 0, 1) := by decide +kernel
theorem dX12_program_109 : decode cX12_program 109 = .ok (.getfield 20, 3) := by decide +kernel
theorem dX12_program_112 : decode cX12_program 112 = .ok (.bipush 60, 2) := by decide +kernel
theorem dX12_program_114 : decode cX12_program 114 = .ok (.iload_n 2, 1) := by decide +kernel
theorem dX12_program_115 : decode cX12_program 115 = .ok (.iadd, 1) := by decide +kernel
theorem dX12_program_116 : decode cX12_program 116 = .ok (.iaload, 1) := by decide +kernel
theorem dX12_program_117 : decode cX12_program 117 = .ok (.iastore, 1) := by decide +kernel
theorem dX12_program_118 : decode cX12_program 118 = .ok (.aload_n 0, 1) := by decide +kernel
theorem dX12_program_119 : decode cX12_program 119 = .ok (.getfield 23, 3) := by decide +kernel
theorem dX12_program_122 : decode cX12_program 122 = .ok (.bipush 20, 2) := by decide +kernel
theorem dX12_program_124 : decode cX12_program 124 = .ok (.iload_n 1, 1) := by decide +kernel
theorem dX12_program_125 : decode cX12_program 125 = .ok (.imul, 1) := by decide +kernel
theorem dX12_program_126 : decode cX12_program 126 = .ok (.iload_n 2, 1) := by decide +kernel
theorem dX12_program_127 : decode cX12_program 127 = .ok (.iadd, 1) := by decide +kernel
theorem dX12_program_128 : decode cX12_program 128 = .ok (.aload_n 0, 1) := by decide +kernel
theorem dX12_program_129 : decode cX12_program 129 = .ok (.getfield 23, 3) := by decide +kernel
theorem dX12_program_132 : decode cX12_program 132 = .ok (.bipush 60, 2) := by decide +kernel
theorem dX12_program_134 : decode cX12_program 134 = .ok (.iload_n 2, 1) := by decide +kernel
theorem dX12_program_135 : decode cX12_program 135 = .ok (.iadd, 1) := by decide +kernel
theorem dX12_program_136 : decode cX12_program 136 = .ok (.iaload, 1) := by decide +kernel
theorem dX12_program_137 : decode cX12_program 137 = .ok (.iastore, 1) := by decide +kernel
theorem dX12_program_138 : decode cX12_program 138 = .ok (.iinc 2 1, 3) := by decide +kernel
theorem dX12_program_141 : decode cX12_program 141 = .ok (.goto (-49), 3) := by decide +kernel
theorem dX12_program_144 : decode cX12_program 144 = .ok (.iconst 0, 1) := by decide +kernel
theorem dX12_program_145 : decode cX12_program 145 = .ok (.istore_n 2, 1) := by decide +kernel
theorem dX12_program_146 : decode cX12_program 146 = .ok (.iload_n 2, 1) := by decide +kernel
theorem dX12_program_147 : decode cX12_program 147 = .ok (.bipush 40, 2) := by decide +kernel
theorem dX12_program_149 : decode cX12_program 149 = .ok (.if_icmp .ge 129, 3) := by decide +kernel
theorem dX12_program_152 : decode cX12_program 152 = .ok (.aload_n 0, 1) := by decide +kernel
theorem dX12_program_153 : decode cX12_program 153 = .ok (.getfield 26, 3) := by decide +kernel
theorem dX12_program_156 : decode cX12_program 156 = .ok (.bipush 40, 2) := by decide +kernel
theorem dX12_program_158 : decode cX12_program 158 = .ok (.iload_n 1, 1) := by decide +kernel
theorem dX12_program_159 : decode cX12_program 159 = .ok (.imul, 1) := by decide +kernel
theorem dX12_program_160 : decode cX12_program 160 = .ok (.iload_n 2, 1) := by decide +kernel
theorem dX12_program_161 : decode cX12_program 161 = .ok (.iadd, 1) := by decide +kernel
theorem dX12_program_162 : decode cX12_program 162 = .ok (.aload_n 0, 1) := by decide +kernel
theorem dX12_program_163 : decode cX12_program 163 = .ok (.getfield 26, 3) := by decide +kernel
theorem dX12_program_166 : decode cX12_program 166 = .ok (.bipush 120, 2) := by decide +kernel
theorem dX12_program_168 : decode cX12_program 168 = .ok (.iload_n 2, 1) := by decide +kernel
theorem dX12_program_169 : decode cX12_program 169 = .ok (.iadd, 1) := by decide +kernel
theorem dX12_program_170 : decode cX12_program 170 = .ok (.iaload, 1) := by decide +kernel
theorem dX12_program_171 : decode cX12_program 171 = .ok (.iastore, 1) := by decide +kernel
theorem dX12_program_172 : decode cX12_program 172 = .ok (.aload_n 0, 1) := by decide +kernel
theorem dX12_program_173 : decode cX12_program 173 = .ok (.getfield 29, 3) := by decide +kernel
theorem dX12_program_176 : decode cX12_program 176 = .ok (.bipush 40, 2) := by decide +kernel
theorem dX12_program_178 : decode cX12_program 178 = .ok (.iload_n 1, 1) := by decide +kernel
theorem dX12_program_179 : decode cX12_program 179 = .ok (.imul, 1) := by decide +kernel
theorem dX12_program_180 : decode cX12_program 180 = .ok (.iload_n 2, 1) := by decide +kernel
theorem dX12_program_181 : decode cX12_program 181 = .ok (.iadd, 1) := by decide +kernel
theorem dX12_program_182 : decode cX12_program 182 = .ok (.aload_n 0, 1) := by decide +kernel
theorem dX12_program_183 : decode cX12_program 183 = .ok (.getfield 29, 3) := by decide +kernel
theorem dX12_program_186 : decode cX12_program 186 = .ok (.bipush 120, 2) := by decide +kernel
theorem dX12_program_188 : decode cX12_program 188 = .ok (.iload_n 2, 1) := by decide +kernel
theorem dX12_program_189 : decode cX12_program 189 = .ok (.iadd, 1) := by decide +kernel
theorem dX12_program_190 : decode cX12_program 190 = .ok (.iaload, 1) := by decide +kernel
theorem dX12_program_191 : decode cX12_program 191 = .ok (.iastore, 1) := by decide +kernel
theorem dX12_program_192 : decode cX12_program 192 = .ok (.aload_n 0, 1) := by decide +kernel
theorem dX12_program_193 : decode cX12_program 193 = .ok (.getfield 32, 3) := by decide +kernel
theorem dX12_program_196 : decode cX12_program 196 = .ok (.bipush 40, 2) := by decide +kernel
theorem dX12_program_198 : decode cX12_program 198 = .ok (.iload_n 1, 1) := by decide +kernel
theorem dX12_program_199 : decode cX12_program 199 = .ok (.imul, 1) := by decide +kernel
theorem dX12_program_200 : decode cX12_program 200 = .ok (.iload_n 2, 1) := by decide +kernel
theorem dX12_program_201 : decode cX12_program 201 = .ok (.iadd, 1) := by decide +kernel
theorem dX12_program_202 : decode cX12_program 202 = .ok (.aload_n 0, 1) := by decide +kernel
theorem dX12_program_203 : decode cX12_program 203 = .ok (.getfield 32, 3) := by decide +kernel
theorem dX12_program_206 : decode cX12_program 206 = .ok (.bipush 120, 2) := by decide +kernel
theorem dX12_program_208 : decode cX12_program 208 = .ok (.iload_n 2, 1) := by decide +kernel
theorem dX12_program_209 : decode cX12_program 209 = .ok (.iadd, 1) := by decide +kernel
theorem dX12_program_210 : decode cX12_program 210 = .ok (.iaload, 1) := by decide +kernel
theorem dX12_program_211 : decode cX12_program 211 = .ok (.iastore, 1) := by decide +kernel
theorem dX12_program_212 : decode cX12_program 212 = .ok (.aload_n 0, 1) := by decide +kernel
theorem dX12_program_213 : decode cX12_program 213 = .ok (.getfield 35, 3) := by decide +kernel
theorem dX12_program_216 : decode cX12_program 216 = .ok (.bipush 40, 2) := by decide +kernel
theorem dX12_program_218 : decode cX12_program 218 = .ok (.iload_n 1, 1) := by decide +kernel
theorem dX12_program_219 : decode cX12_program 219 = .ok (.imul, 1) := by decide +kernel
theorem dX12_program_220 : decode cX12_program 220 = .ok (.iload_n 2, 1) := by decide +kernel
theorem dX12_program_221 : decode cX12_program 221 = .ok (.iadd, 1) := by decide +kernel
theorem dX12_program_222 : decode cX12_program 222 = .ok (.aload_n 0, 1) := by decide +kernel
theorem dX12_program_223 : decode cX12_program 223 = .ok (.getfield 35, 3) := by decide +kernel
theorem dX12_program_226 : decode cX12_program 226 = .ok (.bipush 120, 2) := by decide +kernel
theorem dX12_program_228 : decode cX12_program 228 = .ok (.iload_n 2, 1) := by decide +kernel
theorem dX12_program_229 : decode cX12_program 229 = .ok (.iadd, 1) := by decide +kernel
theorem dX12_program_230 : decode cX12_program 230 = .ok (.iaload, 1) := by decide +kernel
theorem dX12_program_231 : decode cX12_program 231 = .ok (.iastore, 1) := by decide +kernel
theorem dX12_program_232 : decode cX12_program 232 = .ok (.aload_n 0, 1) := by decide +kernel
theorem dX12_program_233 : decode cX12_program 233 = .ok (.getfield 38, 3) := by decide +kernel
theorem dX12_program_236 : decode cX12_program 236 = .ok (.bipush 40, 2) := by decide +kernel
theorem dX12_program_238 : decode cX12_program 238 = .ok (.iload_n 1, 1) := by decide +kernel
theorem dX12_program_239 : decode cX12_program 239 = .ok (.imul, 1) := by decide +kernel
theorem dX12_program_240 : decode cX12_program 240 = .ok (.iload_n 2, 1) := by decide +kernel
theorem dX12_program_241 : decode cX12_program 241 = .ok (.iadd, 1) := by decide +kernel
theorem dX12_program_242 : decode cX12_program 242 = .ok (.aload_n 0, 1) := by decide +kernel
theorem dX12_program_243 : decode cX12_program 243 = .ok (.getfield 38, 3) := by decide +kernel
theorem dX12_program_246 : decode cX12_program 246 = .ok (.bipush 120, 2) := by decide +kernel
theorem dX12_program_248 : decode cX12_program 248 = .ok (.iload_n 2, 1) := by decide +kernel
theorem dX12_program_249 : decode cX12_program 249 = .ok (.iadd, 1) := by decide +kernel
theorem dX12_program_250 : decode cX12_program 250 = .ok (.iaload, 1) := by decide +kernel
theorem dX12_program_251 : decode cX12_program 251 = .ok (.iastore, 1) := by decide +kernel
theorem dX12_program_252 : decode cX12_program 252 = .ok (.aload_n 0, 1) := by decide +kernel
theorem dX12_program_253 : decode cX12_program 253 = .ok (.getfield 41, 3) := by decide +kernel
theorem dX12_program_256 : decode cX12_program 256 = .ok (.bipush 40, 2) := by decide +kernel
theorem dX12_program_258 : decode cX12_program 258 = .ok (.iload_n 1, 1) := by decide +kernel
theorem dX12_program_259 : decode cX12_program 259 = .ok (.imul, 1) := by decide +kernel
theorem dX12_program_260 : decode cX12_program 260 = .ok (.iload_n 2, 1) := by decide +kernel
theorem dX12_program_261 : decode cX12_program 261 = .ok (.iadd, 1) := by decide +kernel
theorem dX12_program_262 : decode cX12_program 262 = .ok (.aload_n 0, 1) := by decide +kernel
theorem dX12_program_263 : decode cX12_program 263 = .ok (.getfield 41, 3) := by decide +kernel
theorem dX12_program_266 : decode cX12_program 266 = .ok (.bipush 120, 2) := by decide +kernel
theorem dX12_program_268 : decode cX12_program 268 = .ok (.iload_n 2, 1) := by decide +kernel
theorem dX12_program_269 : decode cX12_program 269 = .ok (.iadd, 1) := by decide +kernel
theorem dX12_program_270 : decode cX12_program 270 = .ok (.iaload, 1) := by decide +kernel
theorem dX12_program_271 : decode cX12_program 271 = .ok (.iastore, 1) := by decide +kernel
theorem dX12_program_272 : decode cX12_program 272 = .ok (.iinc 2 1, 3) := by decide +kernel
theorem dX12_program_275 : decode cX12_program 275 = .ok (.goto (-129), 3) := by decide +kernel
theorem dX12_program_278 : decode cX12_program 278 = .ok (.aload_n 0, 1) := by decide +kernel
theorem dX12_program_279 : decode cX12_program 279 = .ok (.getfield 17, 3) := by decide +kernel
theorem dX12_program_282 : decode cX12_program 282 = .ok (.iload_n 1, 1) := by decide +kernel
theorem dX12_program_283 : decode cX12_program 283 = .ok (.iaload, 1) := by decide +kernel
theorem dX12_program_284 : decode cX12_program 284 = .ok (.ireturn, 1) := by decide +kernel
theorem dX12_fault_0 : decode cX12_fault 0 = .ok (.aload_n 0, 1) := by decide +kernel
theorem dX12_fault_1 : decode cX12_fault 1 = .ok (.iconst 0, 1) := by decide +kernel
theorem dX12_fault_2 : decode cX12_fault 2 = .ok (.putfield 138, 3) := by decide +kernel
theorem dX12_fault_5 : decode cX12_fault 5 = .ok (.aload_n 0, 1) := by decide +kernel
theorem dX12_fault_6 : decode cX12_fault 6 = .ok (.getfield 201, 3) := by decide +kernel
theorem dX12_fault_9 : decode cX12_fault 9 = .ok (.ireturn, 1) := by decide +kernel
set_option maxRecDepth 20000 in
theorem ggX12_message_X12_take : GoodIn wsX12_message wsX12_take := goodIn_r _ [9, 10, 14, 15, 16, 17, 18, 19, 20, 21, 22, 23, 24, 25, 26, 27, 28, 29, 30, 31, 32, 33, 34, 35, 36, 37, 38, 39, 40, 41, 42, 43, 44, 45, 46, 47, 48, 49, 50, 51, 52, 53, 54, 55, 56, 57, 58, 59, 60, 61, 62, 63, 64, 65, 66, 67, 68, 69, 70, 71, 72, 73, 74, 75, 76, 77, 78, 79, 80, 81, 82, 83, 84, 85, 86, 87, 88, 89, 90, 91, 92, 93, 94, 95, 96] rfl (by decide +kernel)
set_option maxRecDepth 20000 in
theorem gX12_message_X12_take : GoodIn wsX12_message (wsV RX12 257 RX12 yX12_take wsX12_take) := goodIn_app (goodIn_r _ [5, 6, 7, 8] rfl (by decide +kernel)) ggX12_message_X12_take
set_option maxRecDepth 20000 in
theorem ggX12_message_X12_isIn : GoodIn wsX12_message wsX12_isIn := goodIn_r _ [13] rfl (by decide +kernel)
set_option maxRecDepth 20000 in
theorem gX12_message_X12_isIn : GoodIn wsX12_message (va_wsS RX12 148 yX12_isIn wsX12_isIn) := goodIn_app (goodIn_r _ [11, 12, 8] rfl (by decide +kernel)) ggX12_message_X12_isIn
theorem dX12_message_0 : decode cX12_message 0 = .ok (.aload_n 0, 1) := by decide +kernel
theorem dX12_message_1 : decode cX12_message 1 = .ok (.iconst 0, 1) := by decide +kernel
theorem dX12_message_2 : decode cX12_message 2 = .ok (.putfield 138, 3) := by decide +kernel
theorem dX12_message_5 : decode cX12_message 5 = .ok (.aload_n 0, 1) := by decide +kernel
theorem dX12_message_6 : decode cX12_message 6 = .ok (.invokevirtual 257, 3) := by decide +kernel
theorem dX12_message_9 : decode cX12_message 9 = .ok (.istore_n 1, 1) := by decide +kernel
theorem dX12_message_10 : decode cX12_message 10 = .ok (.iload_n 1, 1) := by decide +kernel
theorem dX12_message_11 : decode cX12_message 11 = .ok (.bipush 60, 2) := by decide +kernel
theorem dX12_message_13 : decode cX12_message 13 = .ok (.if_icmp .le 5, 3) := by decide +kernel
theorem dX12_message_16 : decode cX12_message 16 = .ok (.iconst 0, 1) := by decide +kernel
theorem dX12_message_17 : decode cX12_message 17 = .ok (.ireturn, 1) := by decide +kernel
theorem dX12_message_18 : decode cX12_message 18 = .ok (.iconst 0, 1) := by decide +kernel
theorem dX12_message_19 : decode cX12_message 19 = .ok (.istore_n 2, 1) := by decide +kernel
theorem dX12_message_20 : decode cX12_message 20 = .ok (.iload_n 2, 1) := by decide +kernel
theorem dX12_message_21 : decode cX12_message 21 = .ok (.iload_n 1, 1) := by decide +kernel
theorem dX12_message_22 : decode cX12_message 22 = .ok (.if_icmp .ge 26, 3) := by decide +kernel
theorem dX12_message_25 : decode cX12_message 25 = .ok (.aload_n 0, 1) := by decide +kernel
theorem dX12_message_26 : decode cX12_message 26 = .ok (.getfield 7, 3) := by decide +kernel
theorem dX12_message_29 : decode cX12_message 29 = .ok (.iload_n 2, 1) := by decide +kernel
theorem dX12_message_30 : decode cX12_message 30 = .ok (.iaload, 1) := by decide +kernel
theorem dX12_message_31 : decode cX12_message 31 = .ok (.iconst 1, 1) := by decide +kernel
theorem dX12_message_32 : decode cX12_message 32 = .ok (.bipush 63, 2) := by decide +kernel
theorem dX12_message_34 : decode cX12_message 34 = .ok (.invokestatic 148, 3) := by decide +kernel
theorem dX12_message_37 : decode cX12_message 37 = .ok (.ifCond .ne 5, 3) := by decide +kernel
theorem dX12_message_40 : decode cX12_message 40 = .ok (.iconst 0, 1) := by decide +kernel
theorem dX12_message_41 : decode cX12_message 41 = .ok (.ireturn, 1) := by decide +kernel
theorem dX12_message_42 : decode cX12_message 42 = .ok (.iinc 2 1, 3) := by decide +kernel
theorem dX12_message_45 : decode cX12_message 45 = .ok (.goto (-25), 3) := by decide +kernel
theorem dX12_message_48 : decode cX12_message 48 = .ok (.iconst 0, 1) := by decide +kernel
theorem dX12_message_49 : decode cX12_message 49 = .ok (.istore_n 2, 1) := by decide +kernel
theorem dX12_message_50 : decode cX12_message 50 = .ok (.iload_n 2, 1) := by decide +kernel
theorem dX12_message_51 : decode cX12_message 51 = .ok (.iload_n 1, 1) := by decide +kernel
theorem dX12_message_52 : decode cX12_message 52 = .ok (.if_icmp .ge 21, 3) := by decide +kernel
theorem dX12_message_55 : decode cX12_message 55 = .ok (.aload_n 0, 1) := by decide +kernel
theorem dX12_message_56 : decode cX12_message 56 = .ok (.getfield 44, 3) := by decide +kernel
theorem dX12_message_59 : decode cX12_message 59 = .ok (.iload_n 2, 1) := by decide +kernel
theorem dX12_message_60 : decode cX12_message 60 = .ok (.aload_n 0, 1) := by decide +kernel
theorem dX12_message_61 : decode cX12_message 61 = .ok (.getfield 7, 3) := by decide +kernel
theorem dX12_message_64 : decode cX12_message 64 = .ok (.iload_n 2, 1) := by decide +kernel
theorem dX12_message_65 : decode cX12_message 65 = .ok (.iaload, 1) := by decide +kernel
theorem dX12_message_66 : decode cX12_message 66 = .ok (.iastore, 1) := by decide +kernel
theorem dX12_message_67 : decode cX12_message 67 = .ok (.iinc 2 1, 3) := by decide +kernel
theorem dX12_message_70 : decode cX12_message 70 = .ok (.goto (-20), 3) := by decide +kernel
theorem dX12_message_73 : decode cX12_message 73 = .ok (.aload_n 0, 1) := by decide +kernel
theorem dX12_message_74 : decode cX12_message 74 = .ok (.iload_n 1, 1) := by decide +kernel
theorem dX12_message_75 : decode cX12_message 75 = .ok (.putfield 264, 3) := by decide +kernel
theorem dX12_message_78 : decode cX12_message 78 = .ok (.iconst 1, 1) := by decide +kernel
theorem dX12_message_79 : decode cX12_message 79 = .ok (.ireturn, 1) := by decide +kernel
set_option maxRecDepth 20000 in
theorem ggX12_fog_X12_isIn : GoodIn wsX12_fog wsX12_isIn := goodIn_r _ [10] rfl (by decide +kernel)
set_option maxRecDepth 20000 in
theorem gX12_fog_X12_isIn : GoodIn wsX12_fog (va_wsS RX12 148 yX12_isIn wsX12_isIn) := goodIn_app (goodIn_r _ [7, 8, 9] rfl (by decide +kernel)) ggX12_fog_X12_isIn
theorem dX12_fog_0 : decode cX12_fog 0 = .ok (.aload_n 0, 1) := by decide +kernel
theorem dX12_fog_1 : decode cX12_fog 1 = .ok (.iconst 0, 1) := by decide +kernel
theorem dX12_fog_2 : decode cX12_fog 2 = .ok (.putfield 138, 3) := by decide +kernel
theorem dX12_fog_5 : decode cX12_fog 5 = .ok (.aload_n 0, 1) := by decide +kernel
theorem dX12_fog_6 : decode cX12_fog 6 = .ok (.getfield 155, 3) := by decide +kernel
theorem dX12_fog_9 : decode cX12_fog 9 = .ok (.bipush 60, 2) := by decide +kernel
theorem dX12_fog_11 : decode cX12_fog 11 = .ok (.if_icmp .eq 39, 3) := by decide +kernel
theorem dX12_fog_14 : decode cX12_fog 14 = .ok (.iload_n 1, 1) := by decide +kernel
theorem dX12_fog_15 : decode cX12_fog 15 = .ok (.iconst 0, 1) := by decide +kernel
theorem dX12_fog_16 : decode cX12_fog 16 = .ok (.aload_n 0, 1) := by decide +kernel
theorem dX12_fog_17 : decode cX12_fog 17 = .ok (.getfield 13, 3) := by decide +kernel
theorem dX12_fog_20 : decode cX12_fog 20 = .ok (.iconst 2, 1) := by decide +kernel
theorem dX12_fog_21 : decode cX12_fog 21 = .ok (.isub, 1) := by decide +kernel
theorem dX12_fog_22 : decode cX12_fog 22 = .ok (.invokestatic 148, 3) := by decide +kernel
theorem dX12_fog_25 : decode cX12_fog 25 = .ok (.ifCond .eq 25, 3) := by decide +kernel
theorem dX12_fog_28 : decode cX12_fog 28 = .ok (.iload_n 2, 1) := by decide +kernel
theorem dX12_fog_29 : decode cX12_fog 29 = .ok (.iconst 1, 1) := by decide +kernel
theorem dX12_fog_30 : decode cX12_fog 30 = .ok (.sipush 500, 3) := by decide +kernel
theorem dX12_fog_33 : decode cX12_fog 33 = .ok (.invokestatic 148, 3) := by decide +kernel
theorem dX12_fog_36 : decode cX12_fog 36 = .ok (.ifCond .eq 14, 3) := by decide +kernel
theorem dX12_fog_39 : decode cX12_fog 39 = .ok (.iload_n 3, 1) := by decide +kernel
theorem dX12_fog_40 : decode cX12_fog 40 = .ok (.iload_n 2, 1) := by decide +kernel
theorem dX12_fog_41 : decode cX12_fog 41 = .ok (.sipush 500, 3) := by decide +kernel
theorem dX12_fog_44 : decode cX12_fog 44 = .ok (.invokestatic 148, 3) := by decide +kernel
theorem dX12_fog_47 : decode cX12_fog 47 = .ok (.ifCond .ne 5, 3) := by decide +kernel
theorem dX12_fog_50 : decode cX12_fog 50 = .ok (.iconst (-1), 1) := by decide +kernel
theorem dX12_fog_51 : decode cX12_fog 51 = .ok (.ireturn, 1) := by decide +kernel
theorem dX12_fog_52 : decode cX12_fog 52 = .ok (.aload_n 0, 1) := by decide +kernel
theorem dX12_fog_53 : decode cX12_fog 53 = .ok (.getfield 47, 3) := by decide +kernel
theorem dX12_fog_56 : decode cX12_fog 56 = .ok (.aload_n 0, 1) := by decide +kernel
theorem dX12_fog_57 : decode cX12_fog 57 = .ok (.getfield 155, 3) := by decide +kernel
theorem dX12_fog_60 : decode cX12_fog 60 = .ok (.iload_n 1, 1) := by decide +kernel
theorem dX12_fog_61 : decode cX12_fog 61 = .ok (.iastore, 1) := by decide +kernel
theorem dX12_fog_62 : decode cX12_fog 62 = .ok (.aload_n 0, 1) := by decide +kernel
theorem dX12_fog_63 : decode cX12_fog 63 = .ok (.getfield 50, 3) := by decide +kernel
theorem dX12_fog_66 : decode cX12_fog 66 = .ok (.aload_n 0, 1) := by decide +kernel
theorem dX12_fog_67 : decode cX12_fog 67 = .ok (.getfield 155, 3) := by decide +kernel
theorem dX12_fog_70 : decode cX12_fog 70 = .ok (.iload_n 2, 1) := by decide +kernel
theorem dX12_fog_71 : decode cX12_fog 71 = .ok (.iastore, 1) := by decide +kernel
theorem dX12_fog_72 : decode cX12_fog 72 = .ok (.aload_n 0, 1) := by decide +kernel
theorem dX12_fog_73 : decode cX12_fog 73 = .ok (.getfield 53, 3) := by decide +kernel
theorem dX12_fog_76 : decode cX12_fog 76 = .ok (.aload_n 0, 1) := by decide +kernel
theorem dX12_fog_77 : decode cX12_fog 77 = .ok (.getfield 155, 3) := by decide +kernel
theorem dX12_fog_80 : decode cX12_fog 80 = .ok (.iload_n 3, 1) := by decide +kernel
theorem dX12_fog_81 : decode cX12_fog 81 = .ok (.iastore, 1) := by decide +kernel
theorem dX12_fog_82 : decode cX12_fog 82 = .ok (.aload_n 0, 1) := by decide +kernel
theorem dX12_fog_83 : decode cX12_fog 83 = .ok (.dup, 1) := by decide +kernel
theorem dX12_fog_84 : decode cX12_fog 84 = .ok (.getfield 155, 3) := by decide +kernel
theorem dX12_fog_87 : decode cX12_fog 87 = .ok (.iconst 1, 1) := by decide +kernel
theorem dX12_fog_88 : decode cX12_fog 88 = .ok (.iadd, 1) := by decide +kernel
theorem dX12_fog_89 : decode cX12_fog 89 = .ok (.putfield 155, 3) := by decide +kernel
theorem dX12_fog_92 : decode cX12_fog 92 = .ok (.aload_n 0, 1) := by decide +kernel
theorem dX12_fog_93 : decode cX12_fog 93 = .ok (.getfield 155, 3) := by decide +kernel
theorem dX12_fog_96 : decode cX12_fog 96 = .ok (.iconst 1, 1) := by decide +kernel
theorem dX12_fog_97 : decode cX12_fog 97 = .ok (.isub, 1) := by decide +kernel
theorem dX12_fog_98 : decode cX12_fog 98 = .ok (.ireturn, 1) := by decide +kernel
set_option maxRecDepth 20000 in
theorem ggX12_isFoggy_X12_isIn : GoodIn wsX12_isFoggy wsX12_isIn := goodIn_r _ [12] rfl (by decide +kernel)
set_option maxRecDepth 20000 in
theorem gX12_isFoggy_X12_isIn : GoodIn wsX12_isFoggy (va_wsS RX12 148 yX12_isIn wsX12_isIn) := goodIn_app (goodIn_r _ [9, 10, 11] rfl (by decide +kernel)) ggX12_isFoggy_X12_isIn
theorem dX12_isFoggy_0 : decode cX12_isFoggy 0 = .ok (.aload_n 0, 1) := by decide +kernel
theorem dX12_isFoggy_1 : decode cX12_isFoggy 1 = .ok (.getfield 267, 3) := by decide +kernel
theorem dX12_isFoggy_4 : decode cX12_isFoggy 4 = .ok (.iload_n 2, 1) := by decide +kernel
theorem dX12_isFoggy_5 : decode cX12_isFoggy 5 = .ok (.if_icmp .ne 11, 3) := by decide +kernel
theorem dX12_isFoggy_8 : decode cX12_isFoggy 8 = .ok (.aload_n 0, 1) := by decide +kernel
theorem dX12_isFoggy_9 : decode cX12_isFoggy 9 = .ok (.getfield 270, 3) := by decide +kernel
theorem dX12_isFoggy_12 : decode cX12_isFoggy 12 = .ok (.iload_n 1, 1) := by decide +kernel
theorem dX12_isFoggy_13 : decode cX12_isFoggy 13 = .ok (.if_icmp .eq 19, 3) := by decide +kernel
theorem dX12_isFoggy_16 : decode cX12_isFoggy 16 = .ok (.aload_n 0, 1) := by decide +kernel
theorem dX12_isFoggy_17 : decode cX12_isFoggy 17 = .ok (.getfield 273, 3) := by decide +kernel
theorem dX12_isFoggy_20 : decode cX12_isFoggy 20 = .ok (.iload_n 2, 1) := by decide +kernel
theorem dX12_isFoggy_21 : decode cX12_isFoggy 21 = .ok (.if_icmp .ne 13, 3) := by decide +kernel
theorem dX12_isFoggy_24 : decode cX12_isFoggy 24 = .ok (.aload_n 0, 1) := by decide +kernel
theorem dX12_isFoggy_25 : decode cX12_isFoggy 25 = .ok (.getfield 276, 3) := by decide +kernel
theorem dX12_isFoggy_28 : decode cX12_isFoggy 28 = .ok (.iload_n 1, 1) := by decide +kernel
theorem dX12_isFoggy_29 : decode cX12_isFoggy 29 = .ok (.if_icmp .ne 5, 3) := by decide +kernel
theorem dX12_isFoggy_32 : decode cX12_isFoggy 32 = .ok (.iconst 1, 1) := by decide +kernel
theorem dX12_isFoggy_33 : decode cX12_isFoggy 33 = .ok (.ireturn, 1) := by decide +kernel
theorem dX12_isFoggy_34 : decode cX12_isFoggy 34 = .ok (.iconst 0, 1) := by decide +kernel
theorem dX12_isFoggy_35 : decode cX12_isFoggy 35 = .ok (.istore_n 3, 1) := by decide +kernel
theorem dX12_isFoggy_36 : decode cX12_isFoggy 36 = .ok (.iload_n 3, 1) := by decide +kernel
theorem dX12_isFoggy_37 : decode cX12_isFoggy 37 = .ok (.aload_n 0, 1) := by decide +kernel
theorem dX12_isFoggy_38 : decode cX12_isFoggy 38 = .ok (.getfield 155, 3) := by decide +kernel
theorem dX12_isFoggy_41 : decode cX12_isFoggy 41 = .ok (.if_icmp .ge 40, 3) := by decide +kernel
theorem dX12_isFoggy_44 : decode cX12_isFoggy 44 = .ok (.aload_n 0, 1) := by decide +kernel
theorem dX12_isFoggy_45 : decode cX12_isFoggy 45 = .ok (.getfield 47, 3) := by decide +kernel
theorem dX12_isFoggy_48 : decode cX12_isFoggy 48 = .ok (.iload_n 3, 1) := by decide +kernel
theorem dX12_isFoggy_49 : decode cX12_isFoggy 49 = .ok (.iaload, 1) := by decide +kernel
theorem dX12_isFoggy_50 : decode cX12_isFoggy 50 = .ok (.iload_n 1, 1) := by decide +kernel
theorem dX12_isFoggy_51 : decode cX12_isFoggy 51 = .ok (.if_icmp .ne 24, 3) := by decide +kernel
theorem dX12_isFoggy_54 : decode cX12_isFoggy 54 = .ok (.iload_n 2, 1) := by decide +kernel
theorem dX12_isFoggy_55 : decode cX12_isFoggy 55 = .ok (.aload_n 0, 1) := by decide +kernel
theorem dX12_isFoggy_56 : decode cX12_isFoggy 56 = .ok (.getfield 50, 3) := by decide +kernel
theorem dX12_isFoggy_59 : decode cX12_isFoggy 59 = .ok (.iload_n 3, 1) := by decide +kernel
theorem dX12_isFoggy_60 : decode cX12_isFoggy 60 = .ok (.iaload, 1) := by decide +kernel
theorem dX12_isFoggy_61 : decode cX12_isFoggy 61 = .ok (.aload_n 0, 1) := by decide +kernel
theorem dX12_isFoggy_62 : decode cX12_isFoggy 62 = .ok (.getfield 53, 3) := by decide +kernel
theorem dX12_isFoggy_65 : decode cX12_isFoggy 65 = .ok (.iload_n 3, 1) := by decide +kernel
theorem dX12_isFoggy_66 : decode cX12_isFoggy 66 = .ok (.iaload, 1) := by decide +kernel
theorem dX12_isFoggy_67 : decode cX12_isFoggy 67 = .ok (.invokestatic 148, 3) := by decide +kernel
theorem dX12_isFoggy_70 : decode cX12_isFoggy 70 = .ok (.ifCond .eq 5, 3) := by decide +kernel
theorem dX12_isFoggy_73 : decode cX12_isFoggy 73 = .ok (.iconst 1, 1) := by decide +kernel
theorem dX12_isFoggy_74 : decode cX12_isFoggy 74 = .ok (.ireturn, 1) := by decide +kernel
theorem dX12_isFoggy_75 : decode cX12_isFoggy 75 = .ok (.iinc 3 1, 3) := by decide +kernel
theorem dX12_isFoggy_78 : decode cX12_isFoggy 78 = .ok (.goto (-42), 3) := by decide +kernel
theorem dX12_isFoggy_81 : decode cX12_isFoggy 81 = .ok (.iconst 0, 1) := by decide +kernel
theorem dX12_isFoggy_82 : decode cX12_isFoggy 82 = .ok (.ireturn, 1) := by decide +kernel
theorem dX12_valueOf_0 : decode cX12_valueOf 0 = .ok (.iload_n 1, 1) := by decide +kernel
theorem dX12_valueOf_1 : decode cX12_valueOf 1 = .ok (.bipush 100, 2) := by decide +kernel
theorem dX12_valueOf_3 : decode cX12_valueOf 3 = .ok (.if_icmp .ge 5, 3) := by decide +kernel
theorem dX12_valueOf_6 : decode cX12_valueOf 6 = .ok (.iload_n 1, 1) := by decide +kernel
theorem dX12_valueOf_7 : decode cX12_valueOf 7 = .ok (.ireturn, 1) := by decide +kernel
theorem dX12_valueOf_8 : decode cX12_valueOf 8 = .ok (.iload_n 1, 1) := by decide +kernel
theorem dX12_valueOf_9 : decode cX12_valueOf 9 = .ok (.bipush 106, 2) := by decide +kernel
theorem dX12_valueOf_11 : decode cX12_valueOf 11 = .ok (.if_icmp .lt 17, 3) := by decide +kernel
theorem dX12_valueOf_14 : decode cX12_valueOf 14 = .ok (.aload_n 0, 1) := by decide +kernel
theorem dX12_valueOf_15 : decode cX12_valueOf 15 = .ok (.getfield 62, 3) := by decide +kernel
theorem dX12_valueOf_18 : decode cX12_valueOf 18 = .ok (.iconst 4, 1) := by decide +kernel
theorem dX12_valueOf_19 : decode cX12_valueOf 19 = .ok (.iload_n 2, 1) := by decide +kernel
theorem dX12_valueOf_20 : decode cX12_valueOf 20 = .ok (.imul, 1) := by decide +kernel
theorem dX12_valueOf_21 : decode cX12_valueOf 21 = .ok (.iload_n 1, 1) := by decide +kernel
theorem dX12_valueOf_22 : decode cX12_valueOf 22 = .ok (.iadd, 1) := by decide +kernel
theorem dX12_valueOf_23 : decode cX12_valueOf 23 = .ok (.bipush 106, 2) := by decide +kernel
theorem dX12_valueOf_25 : decode cX12_valueOf 25 = .ok (.isub, 1) := by decide +kernel
theorem dX12_valueOf_26 : decode cX12_valueOf 26 = .ok (.iaload, 1) := by decide +kernel
theorem dX12_valueOf_27 : decode cX12_valueOf 27 = .ok (.ireturn, 1) := by decide +kernel
theorem dX12_valueOf_28 : decode cX12_valueOf 28 = .ok (.iload_n 1, 1) := by decide +kernel
theorem dX12_valueOf_29 : decode cX12_valueOf 29 = .ok (.tableswitch 88 100 104 #[35, 40, 45, 52, 59], 35) := by decide +kernel
theorem dX12_valueOf_64 : decode cX12_valueOf 64 = .ok (.aload_n 0, 1) := by decide +kernel
theorem dX12_valueOf_65 : decode cX12_valueOf 65 = .ok (.getfield 279, 3) := by decide +kernel
theorem dX12_valueOf_68 : decode cX12_valueOf 68 = .ok (.ireturn, 1) := by decide +kernel
theorem dX12_valueOf_69 : decode cX12_valueOf 69 = .ok (.aload_n 0, 1) := by decide +kernel
theorem dX12_valueOf_70 : decode cX12_valueOf 70 = .ok (.getfield 282, 3) := by decide +kernel
theorem dX12_valueOf_73 : decode cX12_valueOf 73 = .ok (.ireturn, 1) := by decide +kernel
theorem dX12_valueOf_74 : decode cX12_valueOf 74 = .ok (.aload_n 0, 1) := by decide +kernel
theorem dX12_valueOf_75 : decode cX12_valueOf 75 = .ok (.getfield 56, 3) := by decide +kernel
theorem dX12_valueOf_78 : decode cX12_valueOf 78 = .ok (.iload_n 2, 1) := by decide +kernel
theorem dX12_valueOf_79 : decode cX12_valueOf 79 = .ok (.iaload, 1) := by decide +kernel
theorem dX12_valueOf_80 : decode cX12_valueOf 80 = .ok (.ireturn, 1) := by decide +kernel
theorem dX12_valueOf_81 : decode cX12_valueOf 81 = .ok (.aload_n 0, 1) := by decide +kernel
theorem dX12_valueOf_82 : decode cX12_valueOf 82 = .ok (.getfield 65, 3) := by decide +kernel
theorem dX12_valueOf_85 : decode cX12_valueOf 85 = .ok (.iload_n 2, 1) := by decide +kernel
theorem dX12_valueOf_86 : decode cX12_valueOf 86 = .ok (.iaload, 1) := by decide +kernel
theorem dX12_valueOf_87 : decode cX12_valueOf 87 = .ok (.ireturn, 1) := by decide +kernel
theorem dX12_valueOf_88 : decode cX12_valueOf 88 = .ok (.iload_n 2, 1) := by decide +kernel
theorem dX12_valueOf_89 : decode cX12_valueOf 89 = .ok (.ifCond .ne 26, 3) := by decide +kernel
theorem dX12_valueOf_92 : decode cX12_valueOf 92 = .ok (.aload_n 0, 1) := by decide +kernel
theorem dX12_valueOf_93 : decode cX12_valueOf 93 = .ok (.getfield 285, 3) := by decide +kernel
theorem dX12_valueOf_96 : decode cX12_valueOf 96 = .ok (.aload_n 0, 1) := by decide +kernel
theorem dX12_valueOf_97 : decode cX12_valueOf 97 = .ok (.getfield 264, 3) := by decide +kernel
theorem dX12_valueOf_100 : decode cX12_valueOf 100 = .ok (.if_icmp .ge 15, 3) := by decide +kernel
theorem dX12_valueOf_103 : decode cX12_valueOf 103 = .ok (.aload_n 0, 1) := by decide +kernel
theorem dX12_valueOf_104 : decode cX12_valueOf 104 = .ok (.getfield 44, 3) := by decide +kernel
theorem dX12_valueOf_107 : decode cX12_valueOf 107 = .ok (.aload_n 0, 1) := by decide +kernel
theorem dX12_valueOf_108 : decode cX12_valueOf 108 = .ok (.getfield 285, 3) := by decide +kernel
theorem dX12_valueOf_111 : decode cX12_valueOf 111 = .ok (.iaload, 1) := by decide +kernel
theorem dX12_valueOf_112 : decode cX12_valueOf 112 = .ok (.goto 4, 3) := by decide +kernel
theorem dX12_valueOf_115 : decode cX12_valueOf 115 = .ok (.iconst (-1), 1) := by decide +kernel
theorem dX12_valueOf_116 : decode cX12_valueOf 116 = .ok (.ireturn, 1) := by decide +kernel
theorem dX12_valueOf_117 : decode cX12_valueOf 117 = .ok (.iconst (-1), 1) := by decide +kernel
theorem dX12_valueOf_118 : decode cX12_valueOf 118 = .ok (.ireturn, 1) := by decide +kernel
set_option maxRecDepth 20000 in
theorem ggX12_holds_X12_valueOf : GoodIn wsX12_holds wsX12_valueOf := goodIn_r _ [8, 9, 10, 11, 12, 13, 14, 15, 16, 17, 18, 19, 20, 21, 22, 23, 24, 25, 26, 27, 28, 29, 30, 31, 32, 33, 34, 35, 36, 37, 38, 39, 40, 41, 42, 43, 44, 45, 46, 47, 48, 49, 50, 51, 52, 53, 54, 55, 56, 57, 58, 59, 60, 61, 62, 63, 64, 65, 66, 67, 68, 69, 70, 71, 72, 73, 74, 75, 76, 77, 78, 79, 80, 81, 82, 83, 84, 85, 86, 87, 88, 89, 90, 91, 92, 93, 94, 95, 96, 97, 98, 99] rfl (by decide +kernel)
set_option maxRecDepth 20000 in
theorem gX12_holds_X12_valueOf : GoodIn wsX12_holds (wsV RX12 288 RX12 yX12_valueOf wsX12_valueOf) := goodIn_app (goodIn_r _ [4, 5, 6, 7] rfl (by decide +kernel)) ggX12_holds_X12_valueOf
theorem dX12_holds_0 : decode cX12_holds 0 = .ok (.aload_n 0, 1) := by decide +kernel
theorem dX12_holds_1 : decode cX12_holds 1 = .ok (.aload_n 0, 1) := by decide +kernel
theorem dX12_holds_2 : decode cX12_holds 2 = .ok (.getfield 26, 3) := by decide +kernel
theorem dX12_holds_5 : decode cX12_holds 5 = .ok (.iload_n 1, 1) := by decide +kernel
theorem dX12_holds_6 : decode cX12_holds 6 = .ok (.iaload, 1) := by decide +kernel
theorem dX12_holds_7 : decode cX12_holds 7 = .ok (.iload_n 2, 1) := by decide +kernel
theorem dX12_holds_8 : decode cX12_holds 8 = .ok (.invokevirtual 288, 3) := by decide +kernel
theorem dX12_holds_11 : decode cX12_holds 11 = .ok (.istore_n 3, 1) := by decide +kernel
theorem dX12_holds_12 : decode cX12_holds 12 = .ok (.aload_n 0, 1) := by decide +kernel
theorem dX12_holds_13 : decode cX12_holds 13 = .ok (.aload_n 0, 1) := by decide +kernel
theorem dX12_holds_14 : decode cX12_holds 14 = .ok (.getfield 32, 3) := by decide +kernel
theorem dX12_holds_17 : decode cX12_holds 17 = .ok (.iload_n 1, 1) := by decide +kernel
theorem dX12_holds_18 : decode cX12_holds 18 = .ok (.iaload, 1) := by decide +kernel
theorem dX12_holds_19 : decode cX12_holds 19 = .ok (.iload_n 2, 1) := by decide +kernel
theorem dX12_holds_20 : decode cX12_holds 20 = .ok (.invokevirtual 288, 3) := by decide +kernel
theorem dX12_holds_23 : decode cX12_holds 23 = .ok (.istore 4, 2) := by decide +kernel
theorem dX12_holds_25 : decode cX12_holds 25 = .ok (.aload_n 0, 1) := by decide +kernel
theorem dX12_holds_26 : decode cX12_holds 26 = .ok (.getfield 29, 3) := by decide +kernel
theorem dX12_holds_29 : decode cX12_holds 29 = .ok (.iload_n 1, 1) := by decide +kernel
theorem dX12_holds_30 : decode cX12_holds 30 = .ok (.iaload, 1) := by decide +kernel
theorem dX12_holds_31 : decode cX12_holds 31 = .ok (.tableswitch 61 60 62 #[25, 37, 49], 25) := by decide +kernel
theorem dX12_holds_56 : decode cX12_holds 56 = .ok (.iload_n 3, 1) := by decide +kernel
theorem dX12_holds_57 : decode cX12_holds 57 = .ok (.iload 4, 2) := by decide +kernel
theorem dX12_holds_59 : decode cX12_holds 59 = .ok (.if_icmp .ge 7, 3) := by decide +kernel
theorem dX12_holds_62 : decode cX12_holds 62 = .ok (.iconst 1, 1) := by decide +kernel
theorem dX12_holds_63 : decode cX12_holds 63 = .ok (.goto 4, 3) := by decide +kernel
theorem dX12_holds_66 : decode cX12_holds 66 = .ok (.iconst 0, 1) := by decide +kernel
theorem dX12_holds_67 : decode cX12_holds 67 = .ok (.ireturn, 1) := by decide +kernel
theorem dX12_holds_68 : decode cX12_holds 68 = .ok (.iload_n 3, 1) := by decide +kernel
theorem dX12_holds_69 : decode cX12_holds 69 = .ok (.iload 4, 2) := by decide +kernel
theorem dX12_holds_71 : decode cX12_holds 71 = .ok (.if_icmp .ne 7, 3) := by decide +kernel
theorem dX12_holds_74 : decode cX12_holds 74 = .ok (.iconst 1, 1) := by decide +kernel
theorem dX12_holds_75 : decode cX12_holds 75 = .ok (.goto 4, 3) := by decide +kernel
theorem dX12_holds_78 : decode cX12_holds 78 = .ok (.iconst 0, 1) := by decide +kernel
theorem dX12_holds_79 : decode cX12_holds 79 = .ok (.ireturn, 1) := by decide +kernel
theorem dX12_holds_80 : decode cX12_holds 80 = .ok (.iload_n 3, 1) := by decide +kernel
theorem dX12_holds_81 : decode cX12_holds 81 = .ok (.iload 4, 2) := by decide +kernel
theorem dX12_holds_83 : decode cX12_holds 83 = .ok (.if_icmp .le 7, 3) := by decide +kernel
theorem dX12_holds_86 : decode cX12_holds 86 = .ok (.iconst 1, 1) := by decide +kernel
theorem dX12_holds_87 : decode cX12_holds 87 = .ok (.goto 4, 3) := by decide +kernel
theorem dX12_holds_90 : decode cX12_holds 90 = .ok (.iconst 0, 1) := by decide +kernel
theorem dX12_holds_91 : decode cX12_holds 91 = .ok (.ireturn, 1) := by decide +kernel
theorem dX12_holds_92 : decode cX12_holds 92 = .ok (.iload_n 3, 1) := by decide +kernel
theorem dX12_holds_93 : decode cX12_holds 93 = .ok (.iload 4, 2) := by decide +kernel
theorem dX12_holds_95 : decode cX12_holds 95 = .ok (.if_icmp .eq 7, 3) := by decide +kernel
theorem dX12_holds_98 : decode cX12_holds 98 = .ok (.iconst 1, 1) := by decide +kernel
theorem dX12_holds_99 : decode cX12_holds 99 = .ok (.goto 4, 3) := by decide +kernel
theorem dX12_holds_102 : decode cX12_holds 102 = .ok (.iconst 0, 1) := by decide +kernel
theorem dX12_holds_103 : decode cX12_holds 103 = .ok (.ireturn, 1) := by decide +kernel
set_option maxRecDepth 20000 in
theorem ggX12_act_X12_valueOf : GoodIn wsX12_act wsX12_valueOf := goodIn_r _ [16, 8, 17, 18, 7, 19, 2, 3, 20, 21, 22, 23, 24, 25, 26, 27, 28, 29, 30, 31, 32, 33, 34, 35, 36, 37, 38, 39, 40, 41, 42, 43, 44, 45, 46, 47, 48, 49, 50, 51, 52, 53, 54, 55, 56, 57, 58, 59, 60, 61, 62, 63, 64, 65, 66, 67, 68, 69, 70, 71, 72, 73, 74, 75, 76, 77, 78, 79, 80, 81, 82, 83, 84, 85, 86, 87, 88, 89, 90, 91, 92, 93, 94, 95, 96, 97, 98, 99, 100, 101, 102, 103] rfl (by decide +kernel)
set_option maxRecDepth 20000 in
theorem gX12_act_X12_valueOf : GoodIn wsX12_act (wsV RX12 288 RX12 yX12_valueOf wsX12_valueOf) := goodIn_app (goodIn_r _ [12, 13, 14, 15] rfl (by decide +kernel)) ggX12_act_X12_valueOf
theorem dX12_act_0 : decode cX12_act 0 = .ok (.aload_n 0, 1) := by decide +kernel
theorem dX12_act_1 : decode cX12_act 1 = .ok (.getfield 35, 3) := by decide +kernel
theorem dX12_act_4 : decode cX12_act 4 = .ok (.iload_n 1, 1) := by decide +kernel
theorem dX12_act_5 : decode cX12_act 5 = .ok (.iaload, 1) := by decide +kernel
theorem dX12_act_6 : decode cX12_act 6 = .ok (.istore_n 3, 1) := by decide +kernel
theorem dX12_act_7 : decode cX12_act 7 = .ok (.iload_n 3, 1) := by decide +kernel
theorem dX12_act_8 : decode cX12_act 8 = .ok (.bipush 6, 2) := by decide +kernel
theorem dX12_act_10 : decode cX12_act 10 = .ok (.if_icmp .ne 35, 3) := by decide +kernel
theorem dX12_act_13 : decode cX12_act 13 = .ok (.iload_n 2, 1) := by decide +kernel
theorem dX12_act_14 : decode cX12_act 14 = .ok (.ifCond .gt 14, 3) := by decide +kernel
theorem dX12_act_17 : decode cX12_act 17 = .ok (.aload_n 0, 1) := by decide +kernel
theorem dX12_act_18 : decode cX12_act 18 = .ok (.getfield 285, 3) := by decide +kernel
theorem dX12_act_21 : decode cX12_act 21 = .ok (.aload_n 0, 1) := by decide +kernel
theorem dX12_act_22 : decode cX12_act 22 = .ok (.getfield 264, 3) := by decide +kernel
theorem dX12_act_25 : decode cX12_act 25 = .ok (.if_icmp .ne 4, 3) := by decide +kernel
theorem dX12_act_28 : decode cX12_act 28 = .ok (.return_, 1) := by decide +kernel
theorem dX12_act_29 : decode cX12_act 29 = .ok (.aload_n 0, 1) := by decide +kernel
theorem dX12_act_30 : decode cX12_act 30 = .ok (.dup, 1) := by decide +kernel
theorem dX12_act_31 : decode cX12_act 31 = .ok (.getfield 285, 3) := by decide +kernel
theorem dX12_act_34 : decode cX12_act 34 = .ok (.iconst 1, 1) := by decide +kernel
theorem dX12_act_35 : decode cX12_act 35 = .ok (.iadd, 1) := by decide +kernel
theorem dX12_act_36 : decode cX12_act 36 = .ok (.putfield 285, 3) := by decide +kernel
theorem dX12_act_39 : decode cX12_act 39 = .ok (.aload_n 0, 1) := by decide +kernel
theorem dX12_act_40 : decode cX12_act 40 = .ok (.iconst 1, 1) := by decide +kernel
theorem dX12_act_41 : decode cX12_act 41 = .ok (.putfield 292, 3) := by decide +kernel
theorem dX12_act_44 : decode cX12_act 44 = .ok (.return_, 1) := by decide +kernel
theorem dX12_act_45 : decode cX12_act 45 = .ok (.aload_n 0, 1) := by decide +kernel
theorem dX12_act_46 : decode cX12_act 46 = .ok (.aload_n 0, 1) := by decide +kernel
theorem dX12_act_47 : decode cX12_act 47 = .ok (.getfield 38, 3) := by decide +kernel
theorem dX12_act_50 : decode cX12_act 50 = .ok (.iload_n 1, 1) := by decide +kernel
theorem dX12_act_51 : decode cX12_act 51 = .ok (.iaload, 1) := by decide +kernel
theorem dX12_act_52 : decode cX12_act 52 = .ok (.iload_n 2, 1) := by decide +kernel
theorem dX12_act_53 : decode cX12_act 53 = .ok (.invokevirtual 288, 3) := by decide +kernel
theorem dX12_act_56 : decode cX12_act 56 = .ok (.aload_n 0, 1) := by decide +kernel
theorem dX12_act_57 : decode cX12_act 57 = .ok (.getfield 41, 3) := by decide +kernel
theorem dX12_act_60 : decode cX12_act 60 = .ok (.iload_n 1, 1) := by decide +kernel
theorem dX12_act_61 : decode cX12_act 61 = .ok (.iaload, 1) := by decide +kernel
theorem dX12_act_62 : decode cX12_act 62 = .ok (.iconst (-1), 1) := by decide +kernel
theorem dX12_act_63 : decode cX12_act 63 = .ok (.if_icmp .ne 7, 3) := by decide +kernel
theorem dX12_act_66 : decode cX12_act 66 = .ok (.iconst 0, 1) := by decide +kernel
theorem dX12_act_67 : decode cX12_act 67 = .ok (.goto 14, 3) := by decide +kernel
theorem dX12_act_70 : decode cX12_act 70 = .ok (.aload_n 0, 1) := by decide +kernel
theorem dX12_act_71 : decode cX12_act 71 = .ok (.aload_n 0, 1) := by decide +kernel
theorem dX12_act_72 : decode cX12_act 72 = .ok (.getfield 41, 3) := by decide +kernel
theorem dX12_act_75 : decode cX12_act 75 = .ok (.iload_n 1, 1) := by decide +kernel
theorem dX12_act_76 : decode cX12_act 76 = .ok (.iaload, 1) := by decide +kernel
theorem dX12_act_77 : decode cX12_act 77 = .ok (.iload_n 2, 1) := by decide +kernel
theorem dX12_act_78 : decode cX12_act 78 = .ok (.invokevirtual 288, 3) := by decide +kernel
theorem dX12_act_81 : decode cX12_act 81 = .ok (.iadd, 1) := by decide +kernel
theorem dX12_act_82 : decode cX12_act 82 = .ok (.bipush 63, 2) := by decide +kernel
theorem dX12_act_84 : decode cX12_act 84 = .ok (.iand, 1) := by decide +kernel
theorem dX12_act_85 : decode cX12_act 85 = .ok (.istore 4, 2) := by decide +kernel
theorem dX12_act_87 : decode cX12_act 87 = .ok (.iload_n 3, 1) := by decide +kernel
theorem dX12_act_88 : decode cX12_act 88 = .ok (.iconst 4, 1) := by decide +kernel
theorem dX12_act_89 : decode cX12_act 89 = .ok (.if_icmp .ne 14, 3) := by decide +kernel
theorem dX12_act_92 : decode cX12_act 92 = .ok (.aload_n 0, 1) := by decide +kernel
theorem dX12_act_93 : decode cX12_act 93 = .ok (.getfield 56, 3) := by decide +kernel
theorem dX12_act_96 : decode cX12_act 96 = .ok (.iload_n 2, 1) := by decide +kernel
theorem dX12_act_97 : decode cX12_act 97 = .ok (.iload 4, 2) := by decide +kernel
theorem dX12_act_99 : decode cX12_act 99 = .ok (.iastore, 1) := by decide +kernel
theorem dX12_act_100 : decode cX12_act 100 = .ok (.goto 68, 3) := by decide +kernel
theorem dX12_act_103 : decode cX12_act 103 = .ok (.iload_n 3, 1) := by decide +kernel
theorem dX12_act_104 : decode cX12_act 104 = .ok (.iconst 4, 1) := by decide +kernel
theorem dX12_act_105 : decode cX12_act 105 = .ok (.if_icmp .ge 18, 3) := by decide +kernel
theorem dX12_act_108 : decode cX12_act 108 = .ok (.aload_n 0, 1) := by decide +kernel
theorem dX12_act_109 : decode cX12_act 109 = .ok (.getfield 62, 3) := by decide +kernel
theorem dX12_act_112 : decode cX12_act 112 = .ok (.iconst 4, 1) := by decide +kernel
theorem dX12_act_113 : decode cX12_act 113 = .ok (.iload_n 2, 1) := by decide +kernel
theorem dX12_act_114 : decode cX12_act 114 = .ok (.imul, 1) := by decide +kernel
theorem dX12_act_115 : decode cX12_act 115 = .ok (.iload_n 3, 1) := by decide +kernel
theorem dX12_act_116 : decode cX12_act 116 = .ok (.iadd, 1) := by decide +kernel
theorem dX12_act_117 : decode cX12_act 117 = .ok (.iload 4, 2) := by decide +kernel
theorem dX12_act_119 : decode cX12_act 119 = .ok (.iastore, 1) := by decide +kernel
theorem dX12_act_120 : decode cX12_act 120 = .ok (.goto 48, 3) := by decide +kernel
theorem dX12_act_123 : decode cX12_act 123 = .ok (.iload_n 2, 1) := by decide +kernel
theorem dX12_act_124 : decode cX12_act 124 = .ok (.aload_n 0, 1) := by decide +kernel
theorem dX12_act_125 : decode cX12_act 125 = .ok (.getfield 13, 3) := by decide +kernel
theorem dX12_act_128 : decode cX12_act 128 = .ok (.iconst 1, 1) := by decide +kernel
theorem dX12_act_129 : decode cX12_act 129 = .ok (.isub, 1) := by decide +kernel
theorem dX12_act_130 : decode cX12_act 130 = .ok (.if_icmp .ne 38, 3) := by decide +kernel
theorem dX12_act_133 : decode cX12_act 133 = .ok (.aload_n 0, 1) := by decide +kernel
theorem dX12_act_134 : decode cX12_act 134 = .ok (.getfield 296, 3) := by decide +kernel
theorem dX12_act_137 : decode cX12_act 137 = .ok (.bipush 100, 2) := by decide +kernel
theorem dX12_act_139 : decode cX12_act 139 = .ok (.if_icmp .ge 29, 3) := by decide +kernel
theorem dX12_act_142 : decode cX12_act 142 = .ok (.aload_n 0, 1) := by decide +kernel
theorem dX12_act_143 : decode cX12_act 143 = .ok (.getfield 68, 3) := by decide +kernel
theorem dX12_act_146 : decode cX12_act 146 = .ok (.aload_n 0, 1) := by decide +kernel
theorem dX12_act_147 : decode cX12_act 147 = .ok (.getfield 296, 3) := by decide +kernel
theorem dX12_act_150 : decode cX12_act 150 = .ok (.iload 4, 2) := by decide +kernel
theorem dX12_act_152 : decode cX12_act 152 = .ok (.iastore, 1) := by decide +kernel
theorem dX12_act_153 : decode cX12_act 153 = .ok (.aload_n 0, 1) := by decide +kernel
theorem dX12_act_154 : decode cX12_act 154 = .ok (.dup, 1) := by decide +kernel
theorem dX12_act_155 : decode cX12_act 155 = .ok (.getfield 296, 3) := by decide +kernel
theorem dX12_act_158 : decode cX12_act 158 = .ok (.iconst 1, 1) := by decide +kernel
theorem dX12_act_159 : decode cX12_act 159 = .ok (.iadd, 1) := by decide +kernel
theorem dX12_act_160 : decode cX12_act 160 = .ok (.putfield 296, 3) := by decide +kernel
theorem dX12_act_163 : decode cX12_act 163 = .ok (.aload_n 0, 1) := by decide +kernel
theorem dX12_act_164 : decode cX12_act 164 = .ok (.iconst 1, 1) := by decide +kernel
theorem dX12_act_165 : decode cX12_act 165 = .ok (.putfield 292, 3) := by decide +kernel
theorem dX12_act_168 : decode cX12_act 168 = .ok (.return_, 1) := by decide +kernel
set_option maxRecDepth 20000 in
theorem ggX12_doRule_X12_isFoggy : GoodIn wsX12_doRule wsX12_isFoggy := goodIn_r _ [12, 13, 14, 15, 16, 17, 18, 19, 20, 21, 22, 11, 23, 51, 52, 53, 54, 55, 56, 57, 58, 59, 60, 61, 62, 63, 64, 65, 66, 67, 68, 69, 70, 71, 72, 73, 74, 75, 76, 77, 78, 79, 80, 81, 82, 83, 84, 85, 86, 87, 88, 89, 90, 91, 92, 93, 94, 95, 96, 97, 98, 99, 100, 101, 102, 103, 104, 105, 106, 107, 108, 109, 110, 111, 112, 113, 114, 115, 116, 117, 118, 119, 120, 121, 122, 123, 124, 125, 126, 127, 128, 129, 130, 131, 132, 133] rfl (by decide +kernel)
set_option maxRecDepth 20000 in
theorem gX12_doRule_X12_isFoggy : GoodIn wsX12_doRule (wsV RX12 299 RX12 yX12_isFoggy wsX12_isFoggy) := goodIn_app (goodIn_r _ [8, 9, 10, 11] rfl (by decide +kernel)) ggX12_doRule_X12_isFoggy
set_option maxRecDepth 20000 in
theorem ggX12_doRule_X12_holds : GoodIn wsX12_doRule wsX12_holds := goodIn_r _ [27, 28, 29, 30, 31, 32, 33, 11, 34, 35, 2, 4, 36, 37, 38, 39, 40, 51, 52, 53, 54, 55, 56, 57, 58, 59, 60, 61, 62, 63, 64, 65, 66, 67, 68, 69, 70, 71, 72, 73, 74, 75, 76, 77, 78, 79, 80, 81, 82, 83, 84, 85, 86, 87, 88, 89, 90, 91, 92, 93, 94, 95, 96, 97, 98, 99, 100, 101, 102, 103, 104, 105, 106, 107, 108, 109, 110, 111, 112, 113, 114, 115, 116, 117, 118, 119, 120, 121, 122, 123, 124, 125, 126, 127, 128, 129, 130, 131, 132, 133] rfl (by decide +kernel)
set_option maxRecDepth 20000 in
theorem gX12_doRule_X12_holds : GoodIn wsX12_doRule (wsV RX12 303 RX12 yX12_holds wsX12_holds) := goodIn_app (goodIn_r _ [24, 25, 26, 11] rfl (by decide +kernel)) ggX12_doRule_X12_holds
set_option maxRecDepth 20000 in
theorem ggX12_doRule_X12_act : GoodIn wsX12_doRule wsX12_act := goodIn_r _ [44, 45, 38, 39, 46, 47, 48, 36, 35, 3, 49, 50, 31, 32, 33, 11, 34, 2, 4, 37, 40, 51, 52, 53, 54, 55, 56, 57, 58, 59, 60, 61, 62, 63, 64, 65, 66, 67, 68, 69, 70, 71, 72, 73, 74, 75, 76, 77, 78, 79, 80, 81, 82, 83, 84, 85, 86, 87, 88, 89, 90, 91, 92, 93, 94, 95, 96, 97, 98, 99, 100, 101, 102, 103, 104, 105, 106, 107, 108, 109, 110, 111, 112, 113, 114, 115, 116, 117, 118, 119, 120, 121, 122, 123, 124, 125, 126, 127, 128, 129, 130, 131, 132, 133] rfl (by decide +kernel)
set_option maxRecDepth 20000 in
theorem gX12_doRule_X12_act : GoodIn wsX12_doRule (wsV RX12 306 RX12 yX12_act wsX12_act) := goodIn_app (goodIn_r _ [41, 42, 43, 11] rfl (by decide +kernel)) ggX12_doRule_X12_act
theorem dX12_doRule_0 : decode cX12_doRule 0 = .ok (.aload_n 0, 1) := by decide +kernel
theorem dX12_doRule_1 : decode cX12_doRule 1 = .ok (.iload_n 1, 1) := by decide +kernel
theorem dX12_doRule_2 : decode cX12_doRule 2 = .ok (.ifCond .eq 14, 3) := by decide +kernel
theorem dX12_doRule_5 : decode cX12_doRule 5 = .ok (.aload_n 0, 1) := by decide +kernel
theorem dX12_doRule_6 : decode cX12_doRule 6 = .ok (.iload_n 1, 1) := by decide +kernel
theorem dX12_doRule_7 : decode cX12_doRule 7 = .ok (.iconst 1, 1) := by decide +kernel
theorem dX12_doRule_8 : decode cX12_doRule 8 = .ok (.isub, 1) := by decide +kernel
theorem dX12_doRule_9 : decode cX12_doRule 9 = .ok (.iload_n 2, 1) := by decide +kernel
theorem dX12_doRule_10 : decode cX12_doRule 10 = .ok (.invokevirtual 299, 3) := by decide +kernel
theorem dX12_doRule_13 : decode cX12_doRule 13 = .ok (.ifCond .eq 7, 3) := by decide +kernel
theorem dX12_doRule_16 : decode cX12_doRule 16 = .ok (.iconst (-1), 1) := by decide +kernel
theorem dX12_doRule_17 : decode cX12_doRule 17 = .ok (.goto 11, 3) := by decide +kernel
theorem dX12_doRule_20 : decode cX12_doRule 20 = .ok (.aload_n 0, 1) := by decide +kernel
theorem dX12_doRule_21 : decode cX12_doRule 21 = .ok (.getfield 59, 3) := by decide +kernel
theorem dX12_doRule_24 : decode cX12_doRule 24 = .ok (.iload_n 1, 1) := by decide +kernel
theorem dX12_doRule_25 : decode cX12_doRule 25 = .ok (.iconst 1, 1) := by decide +kernel
theorem dX12_doRule_26 : decode cX12_doRule 26 = .ok (.isub, 1) := by decide +kernel
theorem dX12_doRule_27 : decode cX12_doRule 27 = .ok (.iaload, 1) := by decide +kernel
theorem dX12_doRule_28 : decode cX12_doRule 28 = .ok (.putfield 279, 3) := by decide +kernel
theorem dX12_doRule_31 : decode cX12_doRule 31 = .ok (.aload_n 0, 1) := by decide +kernel
theorem dX12_doRule_32 : decode cX12_doRule 32 = .ok (.iload_n 1, 1) := by decide +kernel
theorem dX12_doRule_33 : decode cX12_doRule 33 = .ok (.aload_n 0, 1) := by decide +kernel
theorem dX12_doRule_34 : decode cX12_doRule 34 = .ok (.getfield 13, 3) := by decide +kernel
theorem dX12_doRule_37 : decode cX12_doRule 37 = .ok (.iconst 1, 1) := by decide +kernel
theorem dX12_doRule_38 : decode cX12_doRule 38 = .ok (.isub, 1) := by decide +kernel
theorem dX12_doRule_39 : decode cX12_doRule 39 = .ok (.if_icmp .eq 12, 3) := by decide +kernel
theorem dX12_doRule_42 : decode cX12_doRule 42 = .ok (.aload_n 0, 1) := by decide +kernel
theorem dX12_doRule_43 : decode cX12_doRule 43 = .ok (.iload_n 1, 1) := by decide +kernel
theorem dX12_doRule_44 : decode cX12_doRule 44 = .ok (.iload_n 2, 1) := by decide +kernel
theorem dX12_doRule_45 : decode cX12_doRule 45 = .ok (.invokevirtual 299, 3) := by decide +kernel
theorem dX12_doRule_48 : decode cX12_doRule 48 = .ok (.ifCond .eq 7, 3) := by decide +kernel
theorem dX12_doRule_51 : decode cX12_doRule 51 = .ok (.iconst (-1), 1) := by decide +kernel
theorem dX12_doRule_52 : decode cX12_doRule 52 = .ok (.goto 11, 3) := by decide +kernel
theorem dX12_doRule_55 : decode cX12_doRule 55 = .ok (.aload_n 0, 1) := by decide +kernel
theorem dX12_doRule_56 : decode cX12_doRule 56 = .ok (.getfield 59, 3) := by decide +kernel
theorem dX12_doRule_59 : decode cX12_doRule 59 = .ok (.iload_n 1, 1) := by decide +kernel
theorem dX12_doRule_60 : decode cX12_doRule 60 = .ok (.iconst 1, 1) := by decide +kernel
theorem dX12_doRule_61 : decode cX12_doRule 61 = .ok (.iadd, 1) := by decide +kernel
theorem dX12_doRule_62 : decode cX12_doRule 62 = .ok (.iaload, 1) := by decide +kernel
theorem dX12_doRule_63 : decode cX12_doRule 63 = .ok (.putfield 282, 3) := by decide +kernel
theorem dX12_doRule_66 : decode cX12_doRule 66 = .ok (.iconst 0, 1) := by decide +kernel
theorem dX12_doRule_67 : decode cX12_doRule 67 = .ok (.istore 4, 2) := by decide +kernel
theorem dX12_doRule_69 : decode cX12_doRule 69 = .ok (.iload 4, 2) := by decide +kernel
theorem dX12_doRule_71 : decode cX12_doRule 71 = .ok (.aload_n 0, 1) := by decide +kernel
theorem dX12_doRule_72 : decode cX12_doRule 72 = .ok (.getfield 17, 3) := by decide +kernel
theorem dX12_doRule_75 : decode cX12_doRule 75 = .ok (.iload_n 3, 1) := by decide +kernel
theorem dX12_doRule_76 : decode cX12_doRule 76 = .ok (.iaload, 1) := by decide +kernel
theorem dX12_doRule_77 : decode cX12_doRule 77 = .ok (.if_icmp .ge 152, 3) := by decide +kernel
theorem dX12_doRule_80 : decode cX12_doRule 80 = .ok (.iload 4, 2) := by decide +kernel
theorem dX12_doRule_82 : decode cX12_doRule 82 = .ok (.ifCond .ne 7, 3) := by decide +kernel
theorem dX12_doRule_85 : decode cX12_doRule 85 = .ok (.iconst 0, 1) := by decide +kernel
theorem dX12_doRule_86 : decode cX12_doRule 86 = .ok (.goto 17, 3) := by decide +kernel
theorem dX12_doRule_89 : decode cX12_doRule 89 = .ok (.aload_n 0, 1) := by decide +kernel
theorem dX12_doRule_90 : decode cX12_doRule 90 = .ok (.getfield 20, 3) := by decide +kernel
theorem dX12_doRule_93 : decode cX12_doRule 93 = .ok (.bipush 20, 2) := by decide +kernel
theorem dX12_doRule_95 : decode cX12_doRule 95 = .ok (.iload_n 3, 1) := by decide +kernel
theorem dX12_doRule_96 : decode cX12_doRule 96 = .ok (.imul, 1) := by decide +kernel
theorem dX12_doRule_97 : decode cX12_doRule 97 = .ok (.iload 4, 2) := by decide +kernel
theorem dX12_doRule_99 : decode cX12_doRule 99 = .ok (.iadd, 1) := by decide +kernel
theorem dX12_doRule_100 : decode cX12_doRule 100 = .ok (.iconst 1, 1) := by decide +kernel
theorem dX12_doRule_101 : decode cX12_doRule 101 = .ok (.isub, 1) := by decide +kernel
theorem dX12_doRule_102 : decode cX12_doRule 102 = .ok (.iaload, 1) := by decide +kernel
theorem dX12_doRule_103 : decode cX12_doRule 103 = .ok (.istore 5, 2) := by decide +kernel
theorem dX12_doRule_105 : decode cX12_doRule 105 = .ok (.iconst 1, 1) := by decide +kernel
theorem dX12_doRule_106 : decode cX12_doRule 106 = .ok (.istore 6, 2) := by decide +kernel
theorem dX12_doRule_108 : decode cX12_doRule 108 = .ok (.iload 5, 2) := by decide +kernel
theorem dX12_doRule_110 : decode cX12_doRule 110 = .ok (.istore 7, 2) := by decide +kernel
theorem dX12_doRule_112 : decode cX12_doRule 112 = .ok (.iload 7, 2) := by decide +kernel
theorem dX12_doRule_114 : decode cX12_doRule 114 = .ok (.aload_n 0, 1) := by decide +kernel
theorem dX12_doRule_115 : decode cX12_doRule 115 = .ok (.getfield 20, 3) := by decide +kernel
theorem dX12_doRule_118 : decode cX12_doRule 118 = .ok (.bipush 20, 2) := by decide +kernel
theorem dX12_doRule_120 : decode cX12_doRule 120 = .ok (.iload_n 3, 1) := by decide +kernel
theorem dX12_doRule_121 : decode cX12_doRule 121 = .ok (.imul, 1) := by decide +kernel
theorem dX12_doRule_122 : decode cX12_doRule 122 = .ok (.iload 4, 2) := by decide +kernel
theorem dX12_doRule_124 : decode cX12_doRule 124 = .ok (.iadd, 1) := by decide +kernel
theorem dX12_doRule_125 : decode cX12_doRule 125 = .ok (.iaload, 1) := by decide +kernel
theorem dX12_doRule_126 : decode cX12_doRule 126 = .ok (.if_icmp .ge 28, 3) := by decide +kernel
theorem dX12_doRule_129 : decode cX12_doRule 129 = .ok (.iload 6, 2) := by decide +kernel
theorem dX12_doRule_131 : decode cX12_doRule 131 = .ok (.ifCond .eq 23, 3) := by decide +kernel
theorem dX12_doRule_134 : decode cX12_doRule 134 = .ok (.aload_n 0, 1) := by decide +kernel
theorem dX12_doRule_135 : decode cX12_doRule 135 = .ok (.bipush 40, 2) := by decide +kernel
theorem dX12_doRule_137 : decode cX12_doRule 137 = .ok (.iload_n 3, 1) := by decide +kernel
theorem dX12_doRule_138 : decode cX12_doRule 138 = .ok (.imul, 1) := by decide +kernel
theorem dX12_doRule_139 : decode cX12_doRule 139 = .ok (.iload 7, 2) := by decide +kernel
theorem dX12_doRule_141 : decode cX12_doRule 141 = .ok (.iadd, 1) := by decide +kernel
theorem dX12_doRule_142 : decode cX12_doRule 142 = .ok (.iload_n 1, 1) := by decide +kernel
theorem dX12_doRule_143 : decode cX12_doRule 143 = .ok (.invokevirtual 303, 3) := by decide +kernel
theorem dX12_doRule_146 : decode cX12_doRule 146 = .ok (.istore 6, 2) := by decide +kernel
theorem dX12_doRule_148 : decode cX12_doRule 148 = .ok (.iinc 7 1, 3) := by decide +kernel
theorem dX12_doRule_151 : decode cX12_doRule 151 = .ok (.goto (-39), 3) := by decide +kernel
theorem dX12_doRule_154 : decode cX12_doRule 154 = .ok (.iload 6, 2) := by decide +kernel
theorem dX12_doRule_156 : decode cX12_doRule 156 = .ok (.ifCond .ne 6, 3) := by decide +kernel
theorem dX12_doRule_159 : decode cX12_doRule 159 = .ok (.goto 64, 3) := by decide +kernel
theorem dX12_doRule_162 : decode cX12_doRule 162 = .ok (.iload 4, 2) := by decide +kernel
theorem dX12_doRule_164 : decode cX12_doRule 164 = .ok (.ifCond .ne 7, 3) := by decide +kernel
theorem dX12_doRule_167 : decode cX12_doRule 167 = .ok (.iconst 0, 1) := by decide +kernel
theorem dX12_doRule_168 : decode cX12_doRule 168 = .ok (.goto 17, 3) := by decide +kernel
theorem dX12_doRule_171 : decode cX12_doRule 171 = .ok (.aload_n 0, 1) := by decide +kernel
theorem dX12_doRule_172 : decode cX12_doRule 172 = .ok (.getfield 23, 3) := by decide +kernel
theorem dX12_doRule_175 : decode cX12_doRule 175 = .ok (.bipush 20, 2) := by decide +kernel
theorem dX12_doRule_177 : decode cX12_doRule 177 = .ok (.iload_n 3, 1) := by decide +kernel
theorem dX12_doRule_178 : decode cX12_doRule 178 = .ok (.imul, 1) := by decide +kernel
theorem dX12_doRule_179 : decode cX12_doRule 179 = .ok (.iload 4, 2) := by decide +kernel
theorem dX12_doRule_181 : decode cX12_doRule 181 = .ok (.iadd, 1) := by decide +kernel
theorem dX12_doRule_182 : decode cX12_doRule 182 = .ok (.iconst 1, 1) := by decide +kernel
theorem dX12_doRule_183 : decode cX12_doRule 183 = .ok (.isub, 1) := by decide +kernel
theorem dX12_doRule_184 : decode cX12_doRule 184 = .ok (.iaload, 1) := by decide +kernel
theorem dX12_doRule_185 : decode cX12_doRule 185 = .ok (.istore 7, 2) := by decide +kernel
theorem dX12_doRule_187 : decode cX12_doRule 187 = .ok (.iload 7, 2) := by decide +kernel
theorem dX12_doRule_189 : decode cX12_doRule 189 = .ok (.aload_n 0, 1) := by decide +kernel
theorem dX12_doRule_190 : decode cX12_doRule 190 = .ok (.getfield 23, 3) := by decide +kernel
theorem dX12_doRule_193 : decode cX12_doRule 193 = .ok (.bipush 20, 2) := by decide +kernel
theorem dX12_doRule_195 : decode cX12_doRule 195 = .ok (.iload_n 3, 1) := by decide +kernel
theorem dX12_doRule_196 : decode cX12_doRule 196 = .ok (.imul, 1) := by decide +kernel
theorem dX12_doRule_197 : decode cX12_doRule 197 = .ok (.iload 4, 2) := by decide +kernel
theorem dX12_doRule_199 : decode cX12_doRule 199 = .ok (.iadd, 1) := by decide +kernel
theorem dX12_doRule_200 : decode cX12_doRule 200 = .ok (.iaload, 1) := by decide +kernel
theorem dX12_doRule_201 : decode cX12_doRule 201 = .ok (.if_icmp .ge 21, 3) := by decide +kernel
theorem dX12_doRule_204 : decode cX12_doRule 204 = .ok (.aload_n 0, 1) := by decide +kernel
theorem dX12_doRule_205 : decode cX12_doRule 205 = .ok (.bipush 40, 2) := by decide +kernel
theorem dX12_doRule_207 : decode cX12_doRule 207 = .ok (.iload_n 3, 1) := by decide +kernel
theorem dX12_doRule_208 : decode cX12_doRule 208 = .ok (.imul, 1) := by decide +kernel
theorem dX12_doRule_209 : decode cX12_doRule 209 = .ok (.iload 7, 2) := by decide +kernel
theorem dX12_doRule_211 : decode cX12_doRule 211 = .ok (.iadd, 1) := by decide +kernel
theorem dX12_doRule_212 : decode cX12_doRule 212 = .ok (.iload_n 1, 1) := by decide +kernel
theorem dX12_doRule_213 : decode cX12_doRule 213 = .ok (.invokevirtual 306, 3) := by decide +kernel
theorem dX12_doRule_216 : decode cX12_doRule 216 = .ok (.iinc 7 1, 3) := by decide +kernel
theorem dX12_doRule_219 : decode cX12_doRule 219 = .ok (.goto (-32), 3) := by decide +kernel
theorem dX12_doRule_222 : decode cX12_doRule 222 = .ok (.return_, 1) := by decide +kernel
theorem dX12_doRule_223 : decode cX12_doRule 223 = .ok (.iinc 4 1, 3) := by decide +kernel
theorem dX12_doRule_226 : decode cX12_doRule 226 = .ok (.goto (-157), 3) := by decide +kernel
theorem dX12_doRule_229 : decode cX12_doRule 229 = .ok (.return_, 1) := by decide +kernel
set_option maxRecDepth 20000 in
theorem ggX12_step_X12_doRule : GoodIn wsX12_step wsX12_doRule := goodIn_r _ [13, 3, 14, 2, 15, 16, 17, 18, 19, 20, 21, 12, 22, 23, 24, 25, 26, 27, 28, 29, 30, 31, 32, 33, 34, 35, 36, 37, 38, 39, 40, 41, 42, 43, 44, 6, 4, 7, 45, 46, 47, 48, 49, 50, 51, 52, 1, 53, 54, 55, 56, 57, 58, 59, 60, 61, 62, 63, 64, 65, 66, 67, 68, 69, 70, 71, 72, 73, 74, 75, 76, 77, 78, 79, 80, 81, 82, 83, 84, 85, 86, 87, 88, 89, 90, 91, 92, 93, 94, 95, 96, 97, 98, 99, 100, 101, 102, 103, 104, 105, 106, 107, 108, 109, 110, 111, 112, 113, 114, 115, 116, 117, 118, 119, 120, 121, 122, 123, 124, 125, 126, 127, 128, 129, 130, 131, 132, 133, 134, 135, 136, 137, 138, 139] rfl (by decide +kernel)
set_option maxRecDepth 20000 in
theorem gX12_step_X12_doRule : GoodIn wsX12_step (wsV RX12 310 RX12 yX12_doRule wsX12_doRule) := goodIn_app (goodIn_r _ [9, 10, 11, 12] rfl (by decide +kernel)) ggX12_step_X12_doRule
theorem dX12_step_0 : decode cX12_step 0 = .ok (.aload_n 0, 1) := by decide +kernel
theorem dX12_step_1 : decode cX12_step 1 = .ok (.iconst 0, 1) := by decide +kernel
theorem dX12_step_2 : decode cX12_step 2 = .ok (.putfield 292, 3) := by decide +kernel
theorem dX12_step_5 : decode cX12_step 5 = .ok (.iconst 0, 1) := by decide +kernel
theorem dX12_step_6 : decode cX12_step 6 = .ok (.istore_n 2, 1) := by decide +kernel
theorem dX12_step_7 : decode cX12_step 7 = .ok (.iload_n 2, 1) := by decide +kernel
theorem dX12_step_8 : decode cX12_step 8 = .ok (.aload_n 0, 1) := by decide +kernel
theorem dX12_step_9 : decode cX12_step 9 = .ok (.getfield 13, 3) := by decide +kernel
theorem dX12_step_12 : decode cX12_step 12 = .ok (.if_icmp .ge 21, 3) := by decide +kernel
theorem dX12_step_15 : decode cX12_step 15 = .ok (.aload_n 0, 1) := by decide +kernel
theorem dX12_step_16 : decode cX12_step 16 = .ok (.getfield 59, 3) := by decide +kernel
theorem dX12_step_19 : decode cX12_step 19 = .ok (.iload_n 2, 1) := by decide +kernel
theorem dX12_step_20 : decode cX12_step 20 = .ok (.aload_n 0, 1) := by decide +kernel
theorem dX12_step_21 : decode cX12_step 21 = .ok (.getfield 56, 3) := by decide +kernel
theorem dX12_step_24 : decode cX12_step 24 = .ok (.iload_n 2, 1) := by decide +kernel
theorem dX12_step_25 : decode cX12_step 25 = .ok (.iaload, 1) := by decide +kernel
theorem dX12_step_26 : decode cX12_step 26 = .ok (.iastore, 1) := by decide +kernel
theorem dX12_step_27 : decode cX12_step 27 = .ok (.iinc 2 1, 3) := by decide +kernel
theorem dX12_step_30 : decode cX12_step 30 = .ok (.goto (-23), 3) := by decide +kernel
theorem dX12_step_33 : decode cX12_step 33 = .ok (.iconst 0, 1) := by decide +kernel
theorem dX12_step_34 : decode cX12_step 34 = .ok (.istore_n 2, 1) := by decide +kernel
theorem dX12_step_35 : decode cX12_step 35 = .ok (.iload_n 2, 1) := by decide +kernel
theorem dX12_step_36 : decode cX12_step 36 = .ok (.iconst 4, 1) := by decide +kernel
theorem dX12_step_37 : decode cX12_step 37 = .ok (.aload_n 0, 1) := by decide +kernel
