theorem dX11_init_0 : decode cX11_init 0 = .ok (.aload_n 0, 1) := by decide +kernel
theorem dX11_init_1 : decode cX11_init 1 = .ok (.invokespecial 1, 3) := by decide +kernel
theorem dX11_init_4 : decode cX11_init 4 = .ok (.aload_n 0, 1) := by decide +kernel
theorem dX11_init_5 : decode cX11_init 5 = .ok (.sipush 700, 3) := by decide +kernel
theorem dX11_init_8 : decode cX11_init 8 = .ok (.newarray .int, 2) := by decide +kernel
theorem dX11_init_10 : decode cX11_init 10 = .ok (.putfield 7, 3) := by decide +kernel
theorem dX11_init_13 : decode cX11_init 13 = .ok (.aload_n 0, 1) := by decide +kernel
theorem dX11_init_14 : decode cX11_init 14 = .ok (.iconst (-1), 1) := by decide +kernel
theorem dX11_init_15 : decode cX11_init 15 = .ok (.putfield 13, 3) := by decide +kernel
theorem dX11_init_18 : decode cX11_init 18 = .ok (.aload_n 0, 1) := by decide +kernel
theorem dX11_init_19 : decode cX11_init 19 = .ok (.sipush 200, 3) := by decide +kernel
theorem dX11_init_22 : decode cX11_init 22 = .ok (.newarray .int, 2) := by decide +kernel
theorem dX11_init_24 : decode cX11_init 24 = .ok (.putfield 17, 3) := by decide +kernel
theorem dX11_init_27 : decode cX11_init 27 = .ok (.aload_n 0, 1) := by decide +kernel
theorem dX11_init_28 : decode cX11_init 28 = .ok (.sipush 400, 3) := by decide +kernel
theorem dX11_init_31 : decode cX11_init 31 = .ok (.newarray .int, 2) := by decide +kernel
theorem dX11_init_33 : decode cX11_init 33 = .ok (.putfield 20, 3) := by decide +kernel
theorem dX11_init_36 : decode cX11_init 36 = .ok (.aload_n 0, 1) := by decide +kernel
theorem dX11_init_37 : decode cX11_init 37 = .ok (.sipush 400, 3) := by decide +kernel
theorem dX11_init_40 : decode cX11_init 40 = .ok (.newarray .int, 2) := by decide +kernel
theorem dX11_init_42 : decode cX11_init 42 = .ok (.putfield 23, 3) := by decide +kernel
theorem dX11_init_45 : decode cX11_init 45 = .ok (.aload_n 0, 1) := by decide +kernel
theorem dX11_init_46 : decode cX11_init 46 = .ok (.sipush 200, 3) := by decide +kernel
theorem dX11_init_49 : decode cX11_init 49 = .ok (.newarray .int, 2) := by decide +kernel
theorem dX11_init_51 : decode cX11_init 51 = .ok (.putfield 26, 3) := by decide +kernel
theorem dX11_init_54 : decode cX11_init 54 = .ok (.aload_n 0, 1) := by decide +kernel
theorem dX11_init_55 : decode cX11_init 55 = .ok (.sipush 200, 3) := by decide +kernel
theorem dX11_init_58 : decode cX11_init 58 = .ok (.newarray .int, 2) := by decide +kernel
theorem dX11_init_60 : decode cX11_init 60 = .ok (.putfield 29, 3) := by decide +kernel
theorem dX11_init_63 : decode cX11_init 63 = .ok (.aload_n 0, 1) := by decide +kernel
theorem dX11_init_64 : decode cX11_init 64 = .ok (.sipush 800, 3) := by decide +kernel
theorem dX11_init_67 : decode cX11_init 67 = .ok (.newarray .int, 2) := by decide +kernel
theorem dX11_init_69 : decode cX11_init 69 = .ok (.putfield 32, 3) := by decide +kernel
theorem dX11_init_72 : decode cX11_init 72 = .ok (.aload_n 0, 1) := by decide +kernel
theorem dX11_init_73 : decode cX11_init 73 = .ok (.sipush 800, 3) := by decide +kernel
theorem dX11_init_76 : decode cX11_init 76 = .ok (.newarray .int, 2) := by decide +kernel
theorem dX11_init_78 : decode cX11_init 78 = .ok (.putfield 35, 3) := by decide +kernel
theorem dX11_init_81 : decode cX11_init 81 = .ok (.aload_n 0, 1) := by decide +kernel
theorem dX11_init_82 : decode cX11_init 82 = .ok (.sipush 800, 3) := by decide +kernel
theorem dX11_init_85 : decode cX11_init 85 = .ok (.newarray .int, 2) := by decide +kernel
theorem dX11_init_87 : decode cX11_init 87 = .ok (.putfield 38, 3) := by decide +kernel
theorem dX11_init_90 : decode cX11_init 90 = .ok (.aload_n 0, 1) := by decide +kernel
theorem dX11_init_91 : decode cX11_init 91 = .ok (.sipush 800, 3) := by decide +kernel
theorem dX11_init_94 : decode cX11_init 94 = .ok (.newarray .int, 2) := by decide +kernel
theorem dX11_init_96 : decode cX11_init 96 = .ok (.putfield 41, 3) := by decide +kernel
theorem dX11_init_99 : decode cX11_init 99 = .ok (.aload_n 0, 1) := by decide +kernel
theorem dX11_init_100 : decode cX11_init 100 = .ok (.sipush 800, 3) := by decide +kernel
theorem dX11_init_103 : decode cX11_init 103 = .ok (.newarray .boolean, 2) := by decide +kernel
theorem dX11_init_105 : decode cX11_init 105 = .ok (.putfield 44, 3) := by decide +kernel
theorem dX11_init_108 : decode cX11_init 108 = .ok (.aload_n 0, 1) := by decide +kernel
theorem dX11_init_109 : decode cX11_init 109 = .ok (.sipush 1600, 3) := by decide +kernel
theorem dX11_init_112 : decode cX11_init 112 = .ok (.newarray .int, 2) := by decide +kernel
theorem dX11_init_114 : decode cX11_init 114 = .ok (.putfield 48, 3) := by decide +kernel
theorem dX11_init_117 : decode cX11_init 117 = .ok (.aload_n 0, 1) := by decide +kernel
theorem dX11_init_118 : decode cX11_init 118 = .ok (.sipush 200, 3) := by decide +kernel
theorem dX11_init_121 : decode cX11_init 121 = .ok (.newarray .int, 2) := by decide +kernel
theorem dX11_init_123 : decode cX11_init 123 = .ok (.putfield 51, 3) := by decide +kernel
theorem dX11_init_126 : decode cX11_init 126 = .ok (.aload_n 0, 1) := by decide +kernel
theorem dX11_init_127 : decode cX11_init 127 = .ok (.sipush 400, 3) := by decide +kernel
theorem dX11_init_130 : decode cX11_init 130 = .ok (.newarray .int, 2) := by decide +kernel
theorem dX11_init_132 : decode cX11_init 132 = .ok (.putfield 54, 3) := by decide +kernel
theorem dX11_init_135 : decode cX11_init 135 = .ok (.aload_n 0, 1) := by decide +kernel
theorem dX11_init_136 : decode cX11_init 136 = .ok (.sipush 400, 3) := by decide +kernel
theorem dX11_init_139 : decode cX11_init 139 = .ok (.newarray .int, 2) := by decide +kernel
theorem dX11_init_141 : decode cX11_init 141 = .ok (.putfield 57, 3) := by decide +kernel
theorem dX11_init_144 : decode cX11_init 144 = .ok (.aload_n 0, 1) := by decide +kernel
theorem dX11_init_145 : decode cX11_init 145 = .ok (.sipush 200, 3) := by decide +kernel
theorem dX11_init_148 : decode cX11_init 148 = .ok (.newarray .int, 2) := by decide +kernel
theorem dX11_init_150 : decode cX11_init 150 = .ok (.putfield 60, 3) := by decide +kernel
theorem dX11_init_153 : decode cX11_init 153 = .ok (.aload_n 0, 1) := by decide +kernel
theorem dX11_init_154 : decode cX11_init 154 = .ok (.sipush 200, 3) := by decide +kernel
theorem dX11_init_157 : decode cX11_init 157 = .ok (.newarray .int, 2) := by decide +kernel
theorem dX11_init_159 : decode cX11_init 159 = .ok (.putfield 63, 3) := by decide +kernel
theorem dX11_init_162 : decode cX11_init 162 = .ok (.aload_n 0, 1) := by decide +kernel
theorem dX11_init_163 : decode cX11_init 163 = .ok (.sipush 800, 3) := by decide +kernel
theorem dX11_init_166 : decode cX11_init 166 = .ok (.newarray .int, 2) := by decide +kernel
theorem dX11_init_168 : decode cX11_init 168 = .ok (.putfield 66, 3) := by decide +kernel
theorem dX11_init_171 : decode cX11_init 171 = .ok (.aload_n 0, 1) := by decide +kernel
theorem dX11_init_172 : decode cX11_init 172 = .ok (.sipush 800, 3) := by decide +kernel
theorem dX11_init_175 : decode cX11_init 175 = .ok (.newarray .int, 2) := by decide +kernel
theorem dX11_init_177 : decode cX11_init 177 = .ok (.putfield 69, 3) := by decide +kernel
theorem dX11_init_180 : decode cX11_init 180 = .ok (.aload_n 0, 1) := by decide +kernel
theorem dX11_init_181 : decode cX11_init 181 = .ok (.sipush 800, 3) := by decide +kernel
theorem dX11_init_184 : decode cX11_init 184 = .ok (.newarray .int, 2) := by decide +kernel
theorem dX11_init_186 : decode cX11_init 186 = .ok (.putfield 72, 3) := by decide +kernel
theorem dX11_init_189 : decode cX11_init 189 = .ok (.aload_n 0, 1) := by decide +kernel
theorem dX11_init_190 : decode cX11_init 190 = .ok (.sipush 800, 3) := by decide +kernel
theorem dX11_init_193 : decode cX11_init 193 = .ok (.newarray .int, 2) := by decide +kernel
theorem dX11_init_195 : decode cX11_init 195 = .ok (.putfield 75, 3) := by decide +kernel
theorem dX11_init_198 : decode cX11_init 198 = .ok (.aload_n 0, 1) := by decide +kernel
theorem dX11_init_199 : decode cX11_init 199 = .ok (.sipush 800, 3) := by decide +kernel
theorem dX11_init_202 : decode cX11_init 202 = .ok (.newarray .boolean, 2) := by decide +kernel
theorem dX11_init_204 : decode cX11_init 204 = .ok (.putfield 78, 3) := by decide +kernel
theorem dX11_init_207 : decode cX11_init 207 = .ok (.aload_n 0, 1) := by decide +kernel
theorem dX11_init_208 : decode cX11_init 208 = .ok (.iconst 3, 1) := by decide +kernel
theorem dX11_init_209 : decode cX11_init 209 = .ok (.newarray .int, 2) := by decide +kernel
theorem dX11_init_211 : decode cX11_init 211 = .ok (.dup, 1) := by decide +kernel
theorem dX11_init_212 : decode cX11_init 212 = .ok (.iconst 0, 1) := by decide +kernel
theorem dX11_init_213 : decode cX11_init 213 = .ok (.iconst 1, 1) := by decide +kernel
theorem dX11_init_214 : decode cX11_init 214 = .ok (.iastore, 1) := by decide +kernel
theorem dX11_init_215 : decode cX11_init 215 = .ok (.dup, 1) := by decide +kernel
theorem dX11_init_216 : decode cX11_init 216 = .ok (.iconst 1, 1) := by decide +kernel
theorem dX11_init_217 : decode cX11_init 217 = .ok (.iconst 1, 1) := by decide +kernel
theorem dX11_init_218 : decode cX11_init 218 = .ok (.iastore, 1) := by decide +kernel
theorem dX11_init_219 : decode cX11_init 219 = .ok (.dup, 1) := by decide +kernel
theorem dX11_init_220 : decode cX11_init 220 = .ok (.iconst 2, 1) := by decide +kernel
theorem dX11_init_221 : decode cX11_init 221 = .ok (.iconst 1, 1) := by decide +kernel
theorem dX11_init_222 : decode cX11_init 222 = .ok (.iastore, 1) := by decide +kernel
theorem dX11_init_223 : decode cX11_init 223 = .ok (.putfield 81, 3) := by decide +kernel
theorem dX11_init_226 : decode cX11_init 226 = .ok (.aload_n 0, 1) := by decide +kernel
theorem dX11_init_227 : decode cX11_init 227 = .ok (.iconst 4, 1) := by decide +kernel
theorem dX11_init_228 : decode cX11_init 228 = .ok (.newarray .int, 2) := by decide +kernel
theorem dX11_init_230 : decode cX11_init 230 = .ok (.dup, 1) := by decide +kernel
theorem dX11_init_231 : decode cX11_init 231 = .ok (.iconst 0, 1) := by decide +kernel
theorem dX11_init_232 : decode cX11_init 232 = .ok (.iconst 1, 1) := by decide +kernel
theorem dX11_init_233 : decode cX11_init 233 = .ok (.iastore, 1) := by decide +kernel
theorem dX11_init_234 : decode cX11_init 234 = .ok (.dup, 1) := by decide +kernel
theorem dX11_init_235 : decode cX11_init 235 = .ok (.iconst 1, 1) := by decide +kernel
theorem dX11_init_236 : decode cX11_init 236 = .ok (.iconst 1, 1) := by decide +kernel
theorem dX11_init_237 : decode cX11_init 237 = .ok (.iastore, 1) := by decide +kernel
theorem dX11_init_238 : decode cX11_init 238 = .ok (.dup, 1) := by decide +kernel
theorem dX11_init_239 : decode cX11_init 239 = .ok (.iconst 2, 1) := by decide +kernel
theorem dX11_init_240 : decode cX11_init 240 = .ok (.iconst 1, 1) := by decide +kernel
theorem dX11_init_241 : decode cX11_init 241 = .ok (.iastore, 1) := by decide +kernel
theorem dX11_init_242 : decode cX11_init 242 = .ok (.dup, 1) := by decide +kernel
theorem dX11_init_243 : decode cX11_init 243 = .ok (.iconst 3, 1) := by decide +kernel
theorem dX11_init_244 : decode cX11_init 244 = .ok (.iconst 1, 1) := by decide +kernel
theorem dX11_init_245 : decode cX11_init 245 = .ok (.iastore, 1) := by decide +kernel
theorem dX11_init_246 : decode cX11_init 246 = .ok (.putfield 84, 3) := by decide +kernel
theorem dX11_init_249 : decode cX11_init 249 = .ok (.aload_n 0, 1) := by decide +kernel
theorem dX11_init_250 : decode cX11_init 250 = .ok (.sipush 200, 3) := by decide +kernel
theorem dX11_init_253 : decode cX11_init 253 = .ok (.newarray .int, 2) := by decide +kernel
theorem dX11_init_255 : decode cX11_init 255 = .ok (.putfield 87, 3) := by decide +kernel
theorem dX11_init_258 : decode cX11_init 258 = .ok (.aload_n 0, 1) := by decide +kernel
theorem dX11_init_259 : decode cX11_init 259 = .ok (.sipush 200, 3) := by decide +kernel
theorem dX11_init_262 : decode cX11_init 262 = .ok (.newarray .int, 2) := by decide +kernel
theorem dX11_init_264 : decode cX11_init 264 = .ok (.putfield 90, 3) := by decide +kernel
theorem dX11_init_267 : decode cX11_init 267 = .ok (.aload_n 0, 1) := by decide +kernel
theorem dX11_init_268 : decode cX11_init 268 = .ok (.sipush 200, 3) := by decide +kernel
theorem dX11_init_271 : decode cX11_init 271 = .ok (.newarray .int, 2) := by decide +kernel
theorem dX11_init_273 : decode cX11_init 273 = .ok (.putfield 93, 3) := by decide +kernel
theorem dX11_init_276 : decode cX11_init 276 = .ok (.aload_n 0, 1) := by decide +kernel
theorem dX11_init_277 : decode cX11_init 277 = .ok (.sipush 200, 3) := by decide +kernel
theorem dX11_init_280 : decode cX11_init 280 = .ok (.newarray .int, 2) := by decide +kernel
theorem dX11_init_282 : decode cX11_init 282 = .ok (.putfield 96, 3) := by decide +kernel
theorem dX11_init_285 : decode cX11_init 285 = .ok (.aload_n 0, 1) := by decide +kernel
theorem dX11_init_286 : decode cX11_init 286 = .ok (.sipush 800, 3) := by decide +kernel
theorem dX11_init_289 : decode cX11_init 289 = .ok (.newarray .int, 2) := by decide +kernel
theorem dX11_init_291 : decode cX11_init 291 = .ok (.putfield 99, 3) := by decide +kernel
theorem dX11_init_294 : decode cX11_init 294 = .ok (.aload_n 0, 1) := by decide +kernel
theorem dX11_init_295 : decode cX11_init 295 = .ok (.bipush 8, 2) := by decide +kernel
theorem dX11_init_297 : decode cX11_init 297 = .ok (.newarray .int, 2) := by decide +kernel
theorem dX11_init_299 : decode cX11_init 299 = .ok (.putfield 102, 3) := by decide +kernel
theorem dX11_init_302 : decode cX11_init 302 = .ok (.aload_n 0, 1) := by decide +kernel
theorem dX11_init_303 : decode cX11_init 303 = .ok (.bipush 16, 2) := by decide +kernel
theorem dX11_init_305 : decode cX11_init 305 = .ok (.newarray .int, 2) := by decide +kernel
theorem dX11_init_307 : decode cX11_init 307 = .ok (.putfield 105, 3) := by decide +kernel
theorem dX11_init_310 : decode cX11_init 310 = .ok (.aload_n 0, 1) := by decide +kernel
theorem dX11_init_311 : decode cX11_init 311 = .ok (.sipush 200, 3) := by decide +kernel
theorem dX11_init_314 : decode cX11_init 314 = .ok (.newarray .int, 2) := by decide +kernel
theorem dX11_init_316 : decode cX11_init 316 = .ok (.putfield 108, 3) := by decide +kernel
theorem dX11_init_319 : decode cX11_init 319 = .ok (.aload_n 0, 1) := by decide +kernel
theorem dX11_init_320 : decode cX11_init 320 = .ok (.sipush 200, 3) := by decide +kernel
theorem dX11_init_323 : decode cX11_init 323 = .ok (.newarray .int, 2) := by decide +kernel
theorem dX11_init_325 : decode cX11_init 325 = .ok (.putfield 111, 3) := by decide +kernel
theorem dX11_init_328 : decode cX11_init 328 = .ok (.aload_n 0, 1) := by decide +kernel
theorem dX11_init_329 : decode cX11_init 329 = .ok (.invokevirtual 114, 3) := by decide +kernel
theorem dX11_init_332 : decode cX11_init 332 = .ok (.return_, 1) := by decide +kernel
theorem dX11_thrown_0 : decode cX11_thrown 0 = .ok (.aload_n 0, 1) := by decide +kernel
theorem dX11_thrown_1 : decode cX11_thrown 1 = .ok (.getfield 117, 3) := by decide +kernel
theorem dX11_thrown_4 : decode cX11_thrown 4 = .ok (.ireturn, 1) := by decide +kernel
theorem dX11_feed_0 : decode cX11_feed 0 = .ok (.aload_n 0, 1) := by decide +kernel
theorem dX11_feed_1 : decode cX11_feed 1 = .ok (.iload_n 1, 1) := by decide +kernel
theorem dX11_feed_2 : decode cX11_feed 2 = .ok (.iconst 1, 1) := by decide +kernel
theorem dX11_feed_3 : decode cX11_feed 3 = .ok (.if_icmp .lt 9, 3) := by decide +kernel
theorem dX11_feed_6 : decode cX11_feed 6 = .ok (.iload_n 1, 1) := by decide +kernel
theorem dX11_feed_7 : decode cX11_feed 7 = .ok (.bipush 8, 2) := by decide +kernel
theorem dX11_feed_9 : decode cX11_feed 9 = .ok (.if_icmp .le 7, 3) := by decide +kernel
theorem dX11_feed_12 : decode cX11_feed 12 = .ok (.iconst 1, 1) := by decide +kernel
theorem dX11_feed_13 : decode cX11_feed 13 = .ok (.goto 4, 3) := by decide +kernel
theorem dX11_feed_16 : decode cX11_feed 16 = .ok (.iconst 0, 1) := by decide +kernel
theorem dX11_feed_17 : decode cX11_feed 17 = .ok (.putfield 117, 3) := by decide +kernel
theorem dX11_feed_20 : decode cX11_feed 20 = .ok (.aload_n 0, 1) := by decide +kernel
theorem dX11_feed_21 : decode cX11_feed 21 = .ok (.getfield 117, 3) := by decide +kernel
theorem dX11_feed_24 : decode cX11_feed 24 = .ok (.ifCond .le 5, 3) := by decide +kernel
theorem dX11_feed_27 : decode cX11_feed 27 = .ok (.iconst 0, 1) := by decide +kernel
theorem dX11_feed_28 : decode cX11_feed 28 = .ok (.ireturn, 1) := by decide +kernel
theorem dX11_feed_29 : decode cX11_feed 29 = .ok (.aload_n 0, 1) := by decide +kernel
theorem dX11_feed_30 : decode cX11_feed 30 = .ok (.getfield 120, 3) := by decide +kernel
theorem dX11_feed_33 : decode cX11_feed 33 = .ok (.iload_n 1, 1) := by decide +kernel
theorem dX11_feed_34 : decode cX11_feed 34 = .ok (.iadd, 1) := by decide +kernel
theorem dX11_feed_35 : decode cX11_feed 35 = .ok (.sipush 700, 3) := by decide +kernel
theorem dX11_feed_38 : decode cX11_feed 38 = .ok (.if_icmp .le 5, 3) := by decide +kernel
theorem dX11_feed_41 : decode cX11_feed 41 = .ok (.iconst (-1), 1) := by decide +kernel
theorem dX11_feed_42 : decode cX11_feed 42 = .ok (.ireturn, 1) := by decide +kernel
theorem dX11_feed_43 : decode cX11_feed 43 = .ok (.iconst 0, 1) := by decide +kernel
theorem dX11_feed_44 : decode cX11_feed 44 = .ok (.istore 4, 2) := by decide +kernel
theorem dX11_feed_46 : decode cX11_feed 46 = .ok (.iload 4, 2) := by decide +kernel
theorem dX11_feed_48 : decode cX11_feed 48 = .ok (.iload_n 1, 1) := by decide +kernel
theorem dX11_feed_49 : decode cX11_feed 49 = .ok (.if_icmp .ge 40, 3) := by decide +kernel
theorem dX11_feed_52 : decode cX11_feed 52 = .ok (.aload_n 0, 1) := by decide +kernel
theorem dX11_feed_53 : decode cX11_feed 53 = .ok (.getfield 7, 3) := by decide +kernel
theorem dX11_feed_56 : decode cX11_feed 56 = .ok (.aload_n 0, 1) := by decide +kernel
theorem dX11_feed_57 : decode cX11_feed 57 = .ok (.getfield 120, 3) := by decide +kernel
theorem dX11_feed_60 : decode cX11_feed 60 = .ok (.lload_n 2, 1) := by decide +kernel
theorem dX11_feed_61 : decode cX11_feed 61 = .ok (.bipush 8, 2) := by decide +kernel
theorem dX11_feed_63 : decode cX11_feed 63 = .ok (.iload 4, 2) := by decide +kernel
theorem dX11_feed_65 : decode cX11_feed 65 = .ok (.imul, 1) := by decide +kernel
theorem dX11_feed_66 : decode cX11_feed 66 = .ok (.lshr, 1) := by decide +kernel
theorem dX11_feed_67 : decode cX11_feed 67 = .ok (.ldc2_w 123, 3) := by decide +kernel
theorem dX11_feed_70 : decode cX11_feed 70 = .ok (.land, 1) := by decide +kernel
theorem dX11_feed_71 : decode cX11_feed 71 = .ok (.l2i, 1) := by decide +kernel
theorem dX11_feed_72 : decode cX11_feed 72 = .ok (.iastore, 1) := by decide +kernel
theorem dX11_feed_73 : decode cX11_feed 73 = .ok (.aload_n 0, 1) := by decide +kernel
theorem dX11_feed_74 : decode cX11_feed 74 = .ok (.dup, 1) := by decide +kernel
theorem dX11_feed_75 : decode cX11_feed 75 = .ok (.getfield 120, 3) := by decide +kernel
theorem dX11_feed_78 : decode cX11_feed 78 = .ok (.iconst 1, 1) := by decide +kernel
theorem dX11_feed_79 : decode cX11_feed 79 = .ok (.iadd, 1) := by decide +kernel
theorem dX11_feed_80 : decode cX11_feed 80 = .ok (.putfield 120, 3) := by decide +kernel
theorem dX11_feed_83 : decode cX11_feed 83 = .ok (.iinc 4 1, 3) := by decide +kernel
theorem dX11_feed_86 : decode cX11_feed 86 = .ok (.goto (-40), 3) := by decide +kernel
theorem dX11_feed_89 : decode cX11_feed 89 = .ok (.aload_n 0, 1) := by decide +kernel
theorem dX11_feed_90 : decode cX11_feed 90 = .ok (.getfield 120, 3) := by decide +kernel
theorem dX11_feed_93 : decode cX11_feed 93 = .ok (.ireturn, 1) := by decide +kernel
theorem dX11_wipe_0 : decode cX11_wipe 0 = .ok (.aload_n 0, 1) := by decide +kernel
theorem dX11_wipe_1 : decode cX11_wipe 1 = .ok (.iconst 0, 1) := by decide +kernel
theorem dX11_wipe_2 : decode cX11_wipe 2 = .ok (.putfield 117, 3) := by decide +kernel
theorem dX11_wipe_5 : decode cX11_wipe 5 = .ok (.aload_n 0, 1) := by decide +kernel
theorem dX11_wipe_6 : decode cX11_wipe 6 = .ok (.getfield 120, 3) := by decide +kernel
theorem dX11_wipe_9 : decode cX11_wipe 9 = .ok (.istore_n 1, 1) := by decide +kernel
theorem dX11_wipe_10 : decode cX11_wipe 10 = .ok (.aload_n 0, 1) := by decide +kernel
theorem dX11_wipe_11 : decode cX11_wipe 11 = .ok (.iconst 0, 1) := by decide +kernel
theorem dX11_wipe_12 : decode cX11_wipe 12 = .ok (.putfield 120, 3) := by decide +kernel
theorem dX11_wipe_15 : decode cX11_wipe 15 = .ok (.iload_n 1, 1) := by decide +kernel
theorem dX11_wipe_16 : decode cX11_wipe 16 = .ok (.ireturn, 1) := by decide +kernel
theorem dX11_fail_0 : decode cX11_fail 0 = .ok (.aload_n 0, 1) := by decide +kernel
theorem dX11_fail_1 : decode cX11_fail 1 = .ok (.getfield 125, 3) := by decide +kernel
theorem dX11_fail_4 : decode cX11_fail 4 = .ok (.ifCond .ne 13, 3) := by decide +kernel
theorem dX11_fail_7 : decode cX11_fail 7 = .ok (.aload_n 0, 1) := by decide +kernel
theorem dX11_fail_8 : decode cX11_fail 8 = .ok (.iload_n 1, 1) := by decide +kernel
theorem dX11_fail_9 : decode cX11_fail 9 = .ok (.putfield 125, 3) := by decide +kernel
theorem dX11_fail_12 : decode cX11_fail 12 = .ok (.aload_n 0, 1) := by decide +kernel
theorem dX11_fail_13 : decode cX11_fail 13 = .ok (.iload_n 2, 1) := by decide +kernel
theorem dX11_fail_14 : decode cX11_fail 14 = .ok (.putfield 13, 3) := by decide +kernel
theorem dX11_fail_17 : decode cX11_fail 17 = .ok (.return_, 1) := by decide +kernel
theorem dX11_byteAt_0 : decode cX11_byteAt 0 = .ok (.iload_n 1, 1) := by decide +kernel
theorem dX11_byteAt_1 : decode cX11_byteAt 1 = .ok (.aload_n 0, 1) := by decide +kernel
theorem dX11_byteAt_2 : decode cX11_byteAt 2 = .ok (.getfield 120, 3) := by decide +kernel
theorem dX11_byteAt_5 : decode cX11_byteAt 5 = .ok (.if_icmp .ge 12, 3) := by decide +kernel
theorem dX11_byteAt_8 : decode cX11_byteAt 8 = .ok (.aload_n 0, 1) := by decide +kernel
theorem dX11_byteAt_9 : decode cX11_byteAt 9 = .ok (.getfield 7, 3) := by decide +kernel
theorem dX11_byteAt_12 : decode cX11_byteAt 12 = .ok (.iload_n 1, 1) := by decide +kernel
theorem dX11_byteAt_13 : decode cX11_byteAt 13 = .ok (.iaload, 1) := by decide +kernel
theorem dX11_byteAt_14 : decode cX11_byteAt 14 = .ok (.goto 4, 3) := by decide +kernel
theorem dX11_byteAt_17 : decode cX11_byteAt 17 = .ok (.iconst (-1), 1) := by decide +kernel
theorem dX11_byteAt_18 : decode cX11_byteAt 18 = .ok (.ireturn, 1) := by decide +kernel
theorem dX11_isLetter_0 : decode cX11_isLetter 0 = .ok (.iload_n 0, 1) := by decide +kernel
theorem dX11_isLetter_1 : decode cX11_isLetter 1 = .ok (.bipush 97, 2) := by decide +kernel
theorem dX11_isLetter_3 : decode cX11_isLetter 3 = .ok (.if_icmp .lt 13, 3) := by decide +kernel
theorem dX11_isLetter_6 : decode cX11_isLetter 6 = .ok (.iload_n 0, 1) := by decide +kernel
theorem dX11_isLetter_7 : decode cX11_isLetter 7 = .ok (.bipush 122, 2) := by decide +kernel
theorem dX11_isLetter_9 : decode cX11_isLetter 9 = .ok (.if_icmp .gt 7, 3) := by decide +kernel
theorem dX11_isLetter_12 : decode cX11_isLetter 12 = .ok (.iconst 1, 1) := by decide +kernel
theorem dX11_isLetter_13 : decode cX11_isLetter 13 = .ok (.goto 4, 3) := by decide +kernel
theorem dX11_isLetter_16 : decode cX11_isLetter 16 = .ok (.iconst 0, 1) := by decide +kernel
theorem dX11_isLetter_17 : decode cX11_isLetter 17 = .ok (.ireturn, 1) := by decide +kernel
theorem dX11_isFigure_0 : decode cX11_isFigure 0 = .ok (.iload_n 0, 1) := by decide +kernel
theorem dX11_isFigure_1 : decode cX11_isFigure 1 = .ok (.bipush 48, 2) := by decide +kernel
theorem dX11_isFigure_3 : decode cX11_isFigure 3 = .ok (.if_icmp .lt 13, 3) := by decide +kernel
theorem dX11_isFigure_6 : decode cX11_isFigure 6 = .ok (.iload_n 0, 1) := by decide +kernel
theorem dX11_isFigure_7 : decode cX11_isFigure 7 = .ok (.bipush 57, 2) := by decide +kernel
theorem dX11_isFigure_9 : decode cX11_isFigure 9 = .ok (.if_icmp .gt 7, 3) := by decide +kernel
theorem dX11_isFigure_12 : decode cX11_isFigure 12 = .ok (.iconst 1, 1) := by decide +kernel
theorem dX11_isFigure_13 : decode cX11_isFigure 13 = .ok (.goto 4, 3) := by decide +kernel
theorem dX11_isFigure_16 : decode cX11_isFigure 16 = .ok (.iconst 0, 1) := by decide +kernel
theorem dX11_isFigure_17 : decode cX11_isFigure 17 = .ok (.ireturn, 1) := by decide +kernel
theorem dX11_next_0 : decode cX11_next 0 = .ok (.aload_n 0, 1) := by decide +kernel
theorem dX11_next_1 : decode cX11_next 1 = .ok (.getfield 128, 3) := by decide +kernel
theorem dX11_next_4 : decode cX11_next 4 = .ok (.aload_n 0, 1) := by decide +kernel
theorem dX11_next_5 : decode cX11_next 5 = .ok (.getfield 120, 3) := by decide +kernel
theorem dX11_next_8 : decode cX11_next 8 = .ok (.if_icmp .ge 30, 3) := by decide +kernel
theorem dX11_next_11 : decode cX11_next 11 = .ok (.aload_n 0, 1) := by decide +kernel
theorem dX11_next_12 : decode cX11_next 12 = .ok (.getfield 7, 3) := by decide +kernel
theorem dX11_next_15 : decode cX11_next 15 = .ok (.aload_n 0, 1) := by decide +kernel
theorem dX11_next_16 : decode cX11_next 16 = .ok (.getfield 128, 3) := by decide +kernel
theorem dX11_next_19 : decode cX11_next 19 = .ok (.iaload, 1) := by decide +kernel
theorem dX11_next_20 : decode cX11_next 20 = .ok (.bipush 32, 2) := by decide +kernel
theorem dX11_next_22 : decode cX11_next 22 = .ok (.if_icmp .gt 16, 3) := by decide +kernel
theorem dX11_next_25 : decode cX11_next 25 = .ok (.aload_n 0, 1) := by decide +kernel
theorem dX11_next_26 : decode cX11_next 26 = .ok (.dup, 1) := by decide +kernel
theorem dX11_next_27 : decode cX11_next 27 = .ok (.getfield 128, 3) := by decide +kernel
theorem dX11_next_30 : decode cX11_next 30 = .ok (.iconst 1, 1) := by decide +kernel
theorem dX11_next_31 : decode cX11_next 31 = .ok (.iadd, 1) := by decide +kernel
theorem dX11_next_32 : decode cX11_next 32 = .ok (.putfield 128, 3) := by decide +kernel
theorem dX11_next_35 : decode cX11_next 35 = .ok (.goto (-35), 3) := by decide +kernel
theorem dX11_next_38 : decode cX11_next 38 = .ok (.aload_n 0, 1) := by decide +kernel
theorem dX11_next_39 : decode cX11_next 39 = .ok (.aload_n 0, 1) := by decide +kernel
theorem dX11_next_40 : decode cX11_next 40 = .ok (.getfield 128, 3) := by decide +kernel
theorem dX11_next_43 : decode cX11_next 43 = .ok (.invokevirtual 131, 3) := by decide +kernel
theorem dX11_next_46 : decode cX11_next 46 = .ok (.ireturn, 1) := by decide +kernel
theorem dX11_want_0 : decode cX11_want 0 = .ok (.aload_n 0, 1) := by decide +kernel
theorem dX11_want_1 : decode cX11_want 1 = .ok (.getfield 125, 3) := by decide +kernel
theorem dX11_want_4 : decode cX11_want 4 = .ok (.ifCond .ne 33, 3) := by decide +kernel
theorem dX11_want_7 : decode cX11_want 7 = .ok (.aload_n 0, 1) := by decide +kernel
theorem dX11_want_8 : decode cX11_want 8 = .ok (.invokevirtual 135, 3) := by decide +kernel
theorem dX11_want_11 : decode cX11_want 11 = .ok (.iload_n 1, 1) := by decide +kernel
theorem dX11_want_12 : decode cX11_want 12 = .ok (.if_icmp .ne 16, 3) := by decide +kernel
theorem dX11_want_15 : decode cX11_want 15 = .ok (.aload_n 0, 1) := by decide +kernel
theorem dX11_want_16 : decode cX11_want 16 = .ok (.dup, 1) := by decide +kernel
theorem dX11_want_17 : decode cX11_want 17 = .ok (.getfield 128, 3) := by decide +kernel
theorem dX11_want_20 : decode cX11_want 20 = .ok (.iconst 1, 1) := by decide +kernel
theorem dX11_want_21 : decode cX11_want 21 = .ok (.iadd, 1) := by decide +kernel
theorem dX11_want_22 : decode cX11_want 22 = .ok (.putfield 128, 3) := by decide +kernel
theorem dX11_want_25 : decode cX11_want 25 = .ok (.goto 12, 3) := by decide +kernel
theorem dX11_want_28 : decode cX11_want 28 = .ok (.aload_n 0, 1) := by decide +kernel
theorem dX11_want_29 : decode cX11_want 29 = .ok (.iconst 1, 1) := by decide +kernel
theorem dX11_want_30 : decode cX11_want 30 = .ok (.aload_n 0, 1) := by decide +kernel
theorem dX11_want_31 : decode cX11_want 31 = .ok (.getfield 128, 3) := by decide +kernel
theorem dX11_want_34 : decode cX11_want 34 = .ok (.invokevirtual 139, 3) := by decide +kernel
theorem dX11_want_37 : decode cX11_want 37 = .ok (.return_, 1) := by decide +kernel
theorem dX11_wordSize_0 : decode cX11_wordSize 0 = .ok (.iconst 0, 1) := by decide +kernel
theorem dX11_wordSize_1 : decode cX11_wordSize 1 = .ok (.istore_n 2, 1) := by decide +kernel
theorem dX11_wordSize_2 : decode cX11_wordSize 2 = .ok (.aload_n 0, 1) := by decide +kernel
theorem dX11_wordSize_3 : decode cX11_wordSize 3 = .ok (.iload_n 1, 1) := by decide +kernel
theorem dX11_wordSize_4 : decode cX11_wordSize 4 = .ok (.iload_n 2, 1) := by decide +kernel
theorem dX11_wordSize_5 : decode cX11_wordSize 5 = .ok (.iadd, 1) := by decide +kernel
theorem dX11_wordSize_6 : decode cX11_wordSize 6 = .ok (.invokevirtual 131, 3) := by decide +kernel
theorem dX11_wordSize_9 : decode cX11_wordSize 9 = .ok (.invokestatic 143, 3) := by decide +kernel
theorem dX11_wordSize_12 : decode cX11_wordSize 12 = .ok (.ifCond .eq 9, 3) := by decide +kernel
theorem dX11_wordSize_15 : decode cX11_wordSize 15 = .ok (.iinc 2 1, 3) := by decide +kernel
theorem dX11_wordSize_18 : decode cX11_wordSize 18 = .ok (.goto (-16), 3) := by decide +kernel
theorem dX11_wordSize_21 : decode cX11_wordSize 21 = .ok (.iload_n 2, 1) := by decide +kernel
theorem dX11_wordSize_22 : decode cX11_wordSize 22 = .ok (.ireturn, 1) := by decide +kernel
theorem dX11_word_0 : decode cX11_word 0 = .ok (.aload_n 0, 1) := by decide +kernel
theorem dX11_word_1 : decode cX11_word 1 = .ok (.invokevirtual 135, 3) := by decide +kernel
theorem dX11_word_4 : decode cX11_word 4 = .ok (.istore_n 1, 1) := by decide +kernel
theorem dX11_word_5 : decode cX11_word 5 = .ok (.aload_n 0, 1) := by decide +kernel
theorem dX11_word_6 : decode cX11_word 6 = .ok (.aload_n 0, 1) := by decide +kernel
theorem dX11_word_7 : decode cX11_word 7 = .ok (.getfield 128, 3) := by decide +kernel
theorem dX11_word_10 : decode cX11_word 10 = .ok (.invokevirtual 147, 3) := by decide +kernel
theorem dX11_word_13 : decode cX11_word 13 = .ok (.istore_n 2, 1) := by decide +kernel
theorem dX11_word_14 : decode cX11_word 14 = .ok (.lconst 0, 1) := by decide +kernel
theorem dX11_word_15 : decode cX11_word 15 = .ok (.lstore_n 3, 1) := by decide +kernel
theorem dX11_word_16 : decode cX11_word 16 = .ok (.iconst 0, 1) := by decide +kernel
theorem dX11_word_17 : decode cX11_word 17 = .ok (.istore 5, 2) := by decide +kernel
theorem dX11_word_19 : decode cX11_word 19 = .ok (.iload 5, 2) := by decide +kernel
theorem dX11_word_21 : decode cX11_word 21 = .ok (.iload_n 2, 1) := by decide +kernel
theorem dX11_word_22 : decode cX11_word 22 = .ok (.if_icmp .ge 34, 3) := by decide +kernel
theorem dX11_word_25 : decode cX11_word 25 = .ok (.iload 5, 2) := by decide +kernel
theorem dX11_word_27 : decode cX11_word 27 = .ok (.bipush 6, 2) := by decide +kernel
theorem dX11_word_29 : decode cX11_word 29 = .ok (.if_icmp .ge 27, 3) := by decide +kernel
theorem dX11_word_32 : decode cX11_word 32 = .ok (.lload_n 3, 1) := by decide +kernel
theorem dX11_word_33 : decode cX11_word 33 = .ok (.bipush 8, 2) := by decide +kernel
theorem dX11_word_35 : decode cX11_word 35 = .ok (.lshl, 1) := by decide +kernel
theorem dX11_word_36 : decode cX11_word 36 = .ok (.aload_n 0, 1) := by decide +kernel
theorem dX11_word_37 : decode cX11_word 37 = .ok (.aload_n 0, 1) := by decide +kernel
theorem dX11_word_38 : decode cX11_word 38 = .ok (.getfield 128, 3) := by decide +kernel
theorem dX11_word_41 : decode cX11_word 41 = .ok (.iload 5, 2) := by decide +kernel
theorem dX11_word_43 : decode cX11_word 43 = .ok (.iadd, 1) := by decide +kernel
theorem dX11_word_44 : decode cX11_word 44 = .ok (.invokevirtual 131, 3) := by decide +kernel
theorem dX11_word_47 : decode cX11_word 47 = .ok (.i2l, 1) := by decide +kernel
theorem dX11_word_48 : decode cX11_word 48 = .ok (.lor, 1) := by decide +kernel
theorem dX11_word_49 : decode cX11_word 49 = .ok (.lstore_n 3, 1) := by decide +kernel
theorem dX11_word_50 : decode cX11_word 50 = .ok (.iinc 5 1, 3) := by decide +kernel
theorem dX11_word_53 : decode cX11_word 53 = .ok (.goto (-34), 3) := by decide +kernel
theorem dX11_word_56 : decode cX11_word 56 = .ok (.iload_n 2, 1) := by decide +kernel
theorem dX11_word_57 : decode cX11_word 57 = .ok (.iconst 1, 1) := by decide +kernel
theorem dX11_word_58 : decode cX11_word 58 = .ok (.if_icmp .ne 25, 3) := by decide +kernel
theorem dX11_word_61 : decode cX11_word 61 = .ok (.iload_n 1, 1) := by decide +kernel
theorem dX11_word_62 : decode cX11_word 62 = .ok (.bipush 104, 2) := by decide +kernel
theorem dX11_word_64 : decode cX11_word 64 = .ok (.if_icmp .gt 7, 3) := by decide +kernel
theorem dX11_word_67 : decode cX11_word 67 = .ok (.iconst 4, 1) := by decide +kernel
theorem dX11_word_68 : decode cX11_word 68 = .ok (.goto 14, 3) := by decide +kernel
theorem dX11_word_71 : decode cX11_word 71 = .ok (.iload_n 1, 1) := by decide +kernel
theorem dX11_word_72 : decode cX11_word 72 = .ok (.bipush 109, 2) := by decide +kernel
theorem dX11_word_74 : decode cX11_word 74 = .ok (.if_icmp .ne 7, 3) := by decide +kernel
theorem dX11_word_77 : decode cX11_word 77 = .ok (.iconst 5, 1) := by decide +kernel
theorem dX11_word_78 : decode cX11_word 78 = .ok (.goto 4, 3) := by decide +kernel
theorem dX11_word_81 : decode cX11_word 81 = .ok (.iconst 0, 1) := by decide +kernel
theorem dX11_word_82 : decode cX11_word 82 = .ok (.ireturn, 1) := by decide +kernel
theorem dX11_word_83 : decode cX11_word 83 = .ok (.iload_n 2, 1) := by decide +kernel
theorem dX11_word_84 : decode cX11_word 84 = .ok (.iconst 2, 1) := by decide +kernel
theorem dX11_word_85 : decode cX11_word 85 = .ok (.if_icmp .ne 15, 3) := by decide +kernel
theorem dX11_word_88 : decode cX11_word 88 = .ok (.lload_n 3, 1) := by decide +kernel
theorem dX11_word_89 : decode cX11_word 89 = .ok (.ldc2_w 150, 3) := by decide +kernel
theorem dX11_word_92 : decode cX11_word 92 = .ok (.lcmp, 1) := by decide +kernel
theorem dX11_word_93 : decode cX11_word 93 = .ok (.ifCond .ne 7, 3) := by decide +kernel
theorem dX11_word_96 : decode cX11_word 96 = .ok (.iconst 1, 1) := by decide +kernel
theorem dX11_word_97 : decode cX11_word 97 = .ok (.goto 4, 3) := by decide +kernel
theorem dX11_word_100 : decode cX11_word 100 = .ok (.iconst 0, 1) := by decide +kernel
theorem dX11_word_101 : decode cX11_word 101 = .ok (.istore 5, 2) := by decide +kernel
theorem dX11_word_103 : decode cX11_word 103 = .ok (.iload_n 2, 1) := by decide +kernel
theorem dX11_word_104 : decode cX11_word 104 = .ok (.iconst 4, 1) := by decide +kernel
theorem dX11_word_105 : decode cX11_word 105 = .ok (.if_icmp .ne 15, 3) := by decide +kernel
theorem dX11_word_108 : decode cX11_word 108 = .ok (.lload_n 3, 1) := by decide +kernel
theorem dX11_word_109 : decode cX11_word 109 = .ok (.ldc2_w 152, 3) := by decide +kernel
theorem dX11_word_112 : decode cX11_word 112 = .ok (.lcmp, 1) := by decide +kernel
theorem dX11_word_113 : decode cX11_word 113 = .ok (.ifCond .ne 7, 3) := by decide +kernel
theorem dX11_word_116 : decode cX11_word 116 = .ok (.iconst 1, 1) := by decide +kernel
theorem dX11_word_117 : decode cX11_word 117 = .ok (.goto 4, 3) := by decide +kernel
theorem dX11_word_120 : decode cX11_word 120 = .ok (.iconst 0, 1) := by decide +kernel
theorem dX11_word_121 : decode cX11_word 121 = .ok (.istore 6, 2) := by decide +kernel
theorem dX11_word_123 : decode cX11_word 123 = .ok (.iload_n 2, 1) := by decide +kernel
theorem dX11_word_124 : decode cX11_word 124 = .ok (.iconst 5, 1) := by decide +kernel
theorem dX11_word_125 : decode cX11_word 125 = .ok (.if_icmp .ne 15, 3) := by decide +kernel
theorem dX11_word_128 : decode cX11_word 128 = .ok (.lload_n 3, 1) := by decide +kernel
theorem dX11_word_129 : decode cX11_word 129 = .ok (.ldc2_w 154, 3) := by decide +kernel
theorem dX11_word_132 : decode cX11_word 132 = .ok (.lcmp, 1) := by decide +kernel
theorem dX11_word_133 : decode cX11_word 133 = .ok (.ifCond .ne 7, 3) := by decide +kernel
theorem dX11_word_136 : decode cX11_word 136 = .ok (.iconst 1, 1) := by decide +kernel
theorem dX11_word_137 : decode cX11_word 137 = .ok (.goto 4, 3) := by decide +kernel
theorem dX11_word_140 : decode cX11_word 140 = .ok (.iconst 0, 1) := by decide +kernel
theorem dX11_word_141 : decode cX11_word 141 = .ok (.istore 7, 2) := by decide +kernel
theorem dX11_word_143 : decode cX11_word 143 = .ok (.iload 5, 2) := by decide +kernel
theorem dX11_word_145 : decode cX11_word 145 = .ok (.ifCond .eq 7, 3) := by decide +kernel
theorem dX11_word_148 : decode cX11_word 148 = .ok (.iconst 1, 1) := by decide +kernel
theorem dX11_word_149 : decode cX11_word 149 = .ok (.goto 22, 3) := by decide +kernel
theorem dX11_word_152 : decode cX11_word 152 = .ok (.iload 6, 2) := by decide +kernel
theorem dX11_word_154 : decode cX11_word 154 = .ok (.ifCond .eq 7, 3) := by decide +kernel
theorem dX11_word_157 : decode cX11_word 157 = .ok (.iconst 2, 1) := by decide +kernel
theorem dX11_word_158 : decode cX11_word 158 = .ok (.goto 13, 3) := by decide +kernel
theorem dX11_word_161 : decode cX11_word 161 = .ok (.iload 7, 2) := by decide +kernel
theorem dX11_word_163 : decode cX11_word 163 = .ok (.ifCond .eq 7, 3) := by decide +kernel
theorem dX11_word_166 : decode cX11_word 166 = .ok (.iconst 3, 1) := by decide +kernel
theorem dX11_word_167 : decode cX11_word 167 = .ok (.goto 4, 3) := by decide +kernel
theorem dX11_word_170 : decode cX11_word 170 = .ok (.iconst 0, 1) := by decide +kernel
theorem dX11_word_171 : decode cX11_word 171 = .ok (.ireturn, 1) := by decide +kernel
theorem dX11_way_0 : decode cX11_way 0 = .ok (.aload_n 0, 1) := by decide +kernel
theorem dX11_way_1 : decode cX11_way 1 = .ok (.getfield 48, 3) := by decide +kernel
theorem dX11_way_4 : decode cX11_way 4 = .ok (.aload_n 0, 1) := by decide +kernel
theorem dX11_way_5 : decode cX11_way 5 = .ok (.getfield 156, 3) := by decide +kernel
theorem dX11_way_8 : decode cX11_way 8 = .ok (.iconst 2, 1) := by decide +kernel
theorem dX11_way_9 : decode cX11_way 9 = .ok (.iload_n 1, 1) := by decide +kernel
theorem dX11_way_10 : decode cX11_way 10 = .ok (.imul, 1) := by decide +kernel
theorem dX11_way_11 : decode cX11_way 11 = .ok (.iload_n 2, 1) := by decide +kernel
theorem dX11_way_12 : decode cX11_way 12 = .ok (.ifCond .eq 7, 3) := by decide +kernel
theorem dX11_way_15 : decode cX11_way 15 = .ok (.iconst 1, 1) := by decide +kernel
theorem dX11_way_16 : decode cX11_way 16 = .ok (.goto 4, 3) := by decide +kernel
theorem dX11_way_19 : decode cX11_way 19 = .ok (.iconst 0, 1) := by decide +kernel
theorem dX11_way_20 : decode cX11_way 20 = .ok (.iadd, 1) := by decide +kernel
theorem dX11_way_21 : decode cX11_way 21 = .ok (.iastore, 1) := by decide +kernel
theorem dX11_way_22 : decode cX11_way 22 = .ok (.aload_n 0, 1) := by decide +kernel
theorem dX11_way_23 : decode cX11_way 23 = .ok (.dup, 1) := by decide +kernel
theorem dX11_way_24 : decode cX11_way 24 = .ok (.getfield 156, 3) := by decide +kernel
theorem dX11_way_27 : decode cX11_way 27 = .ok (.iconst 1, 1) := by decide +kernel
theorem dX11_way_28 : decode cX11_way 28 = .ok (.iadd, 1) := by decide +kernel
theorem dX11_way_29 : decode cX11_way 29 = .ok (.putfield 156, 3) := by decide +kernel
theorem dX11_way_32 : decode cX11_way 32 = .ok (.return_, 1) := by decide +kernel
theorem dX11_lead_0 : decode cX11_lead 0 = .ok (.iload_n 1, 1) := by decide +kernel
theorem dX11_lead_1 : decode cX11_lead 1 = .ok (.istore_n 3, 1) := by decide +kernel
theorem dX11_lead_2 : decode cX11_lead 2 = .ok (.iload_n 3, 1) := by decide +kernel
theorem dX11_lead_3 : decode cX11_lead 3 = .ok (.aload_n 0, 1) := by decide +kernel
theorem dX11_lead_4 : decode cX11_lead 4 = .ok (.getfield 156, 3) := by decide +kernel
theorem dX11_lead_7 : decode cX11_lead 7 = .ok (.if_icmp .ge 49, 3) := by decide +kernel
theorem dX11_lead_10 : decode cX11_lead 10 = .ok (.aload_n 0, 1) := by decide +kernel
theorem dX11_lead_11 : decode cX11_lead 11 = .ok (.getfield 48, 3) := by decide +kernel
theorem dX11_lead_14 : decode cX11_lead 14 = .ok (.iload_n 3, 1) := by decide +kernel
theorem dX11_lead_15 : decode cX11_lead 15 = .ok (.iaload, 1) := by decide +kernel
theorem dX11_lead_16 : decode cX11_lead 16 = .ok (.iconst 2, 1) := by decide +kernel
theorem dX11_lead_17 : decode cX11_lead 17 = .ok (.idiv, 1) := by decide +kernel
theorem dX11_lead_18 : decode cX11_lead 18 = .ok (.istore 4, 2) := by decide +kernel
theorem dX11_lead_20 : decode cX11_lead 20 = .ok (.aload_n 0, 1) := by decide +kernel
theorem dX11_lead_21 : decode cX11_lead 21 = .ok (.getfield 48, 3) := by decide +kernel
theorem dX11_lead_24 : decode cX11_lead 24 = .ok (.iload_n 3, 1) := by decide +kernel
theorem dX11_lead_25 : decode cX11_lead 25 = .ok (.iaload, 1) := by decide +kernel
theorem dX11_lead_26 : decode cX11_lead 26 = .ok (.iconst 2, 1) := by decide +kernel
theorem dX11_lead_27 : decode cX11_lead 27 = .ok (.irem, 1) := by decide +kernel
theorem dX11_lead_28 : decode cX11_lead 28 = .ok (.ifCond .ne 14, 3) := by decide +kernel
theorem dX11_lead_31 : decode cX11_lead 31 = .ok (.aload_n 0, 1) := by decide +kernel
theorem dX11_lead_32 : decode cX11_lead 32 = .ok (.getfield 38, 3) := by decide +kernel
theorem dX11_lead_35 : decode cX11_lead 35 = .ok (.iload 4, 2) := by decide +kernel
theorem dX11_lead_37 : decode cX11_lead 37 = .ok (.iload_n 2, 1) := by decide +kernel
theorem dX11_lead_38 : decode cX11_lead 38 = .ok (.iastore, 1) := by decide +kernel
theorem dX11_lead_39 : decode cX11_lead 39 = .ok (.goto 11, 3) := by decide +kernel
theorem dX11_lead_42 : decode cX11_lead 42 = .ok (.aload_n 0, 1) := by decide +kernel
theorem dX11_lead_43 : decode cX11_lead 43 = .ok (.getfield 41, 3) := by decide +kernel
theorem dX11_lead_46 : decode cX11_lead 46 = .ok (.iload 4, 2) := by decide +kernel
theorem dX11_lead_48 : decode cX11_lead 48 = .ok (.iload_n 2, 1) := by decide +kernel
theorem dX11_lead_49 : decode cX11_lead 49 = .ok (.iastore, 1) := by decide +kernel
theorem dX11_lead_50 : decode cX11_lead 50 = .ok (.iinc 3 1, 3) := by decide +kernel
theorem dX11_lead_53 : decode cX11_lead 53 = .ok (.goto (-51), 3) := by decide +kernel
theorem dX11_lead_56 : decode cX11_lead 56 = .ok (.aload_n 0, 1) := by decide +kernel
theorem dX11_lead_57 : decode cX11_lead 57 = .ok (.iload_n 1, 1) := by decide +kernel
theorem dX11_lead_58 : decode cX11_lead 58 = .ok (.putfield 156, 3) := by decide +kernel
theorem dX11_lead_61 : decode cX11_lead 61 = .ok (.return_, 1) := by decide +kernel
theorem dX11_needBlock_0 : decode cX11_needBlock 0 = .ok (.aload_n 0, 1) := by decide +kernel
theorem dX11_needBlock_1 : decode cX11_needBlock 1 = .ok (.getfield 159, 3) := by decide +kernel
theorem dX11_needBlock_4 : decode cX11_needBlock 4 = .ok (.iconst (-1), 1) := by decide +kernel
theorem dX11_needBlock_5 : decode cX11_needBlock 5 = .ok (.if_icmp .ne 63, 3) := by decide +kernel
theorem dX11_needBlock_8 : decode cX11_needBlock 8 = .ok (.aload_n 0, 1) := by decide +kernel
theorem dX11_needBlock_9 : decode cX11_needBlock 9 = .ok (.aload_n 0, 1) := by decide +kernel
theorem dX11_needBlock_10 : decode cX11_needBlock 10 = .ok (.getfield 162, 3) := by decide +kernel
theorem dX11_needBlock_13 : decode cX11_needBlock 13 = .ok (.putfield 159, 3) := by decide +kernel
theorem dX11_needBlock_16 : decode cX11_needBlock 16 = .ok (.aload_n 0, 1) := by decide +kernel
theorem dX11_needBlock_17 : decode cX11_needBlock 17 = .ok (.dup, 1) := by decide +kernel
theorem dX11_needBlock_18 : decode cX11_needBlock 18 = .ok (.getfield 162, 3) := by decide +kernel
theorem dX11_needBlock_21 : decode cX11_needBlock 21 = .ok (.iconst 1, 1) := by decide +kernel
theorem dX11_needBlock_22 : decode cX11_needBlock 22 = .ok (.iadd, 1) := by decide +kernel
theorem dX11_needBlock_23 : decode cX11_needBlock 23 = .ok (.putfield 162, 3) := by decide +kernel
theorem dX11_needBlock_26 : decode cX11_needBlock 26 = .ok (.aload_n 0, 1) := by decide +kernel
theorem dX11_needBlock_27 : decode cX11_needBlock 27 = .ok (.getfield 38, 3) := by decide +kernel
theorem dX11_needBlock_30 : decode cX11_needBlock 30 = .ok (.aload_n 0, 1) := by decide +kernel
theorem dX11_needBlock_31 : decode cX11_needBlock 31 = .ok (.getfield 159, 3) := by decide +kernel
theorem dX11_needBlock_34 : decode cX11_needBlock 34 = .ok (.iconst (-1), 1) := by decide +kernel
theorem dX11_needBlock_35 : decode cX11_needBlock 35 = .ok (.iastore, 1) := by decide +kernel
theorem dX11_needBlock_36 : decode cX11_needBlock 36 = .ok (.aload_n 0, 1) := by decide +kernel
theorem dX11_needBlock_37 : decode cX11_needBlock 37 = .ok (.getfield 41, 3) := by decide +kernel
theorem dX11_needBlock_40 : decode cX11_needBlock 40 = .ok (.aload_n 0, 1) := by decide +kernel
theorem dX11_needBlock_41 : decode cX11_needBlock 41 = .ok (.getfield 159, 3) := by decide +kernel
theorem dX11_needBlock_44 : decode cX11_needBlock 44 = .ok (.iconst (-1), 1) := by decide +kernel
theorem dX11_needBlock_45 : decode cX11_needBlock 45 = .ok (.iastore, 1) := by decide +kernel
theorem dX11_needBlock_46 : decode cX11_needBlock 46 = .ok (.aload_n 0, 1) := by decide +kernel
theorem dX11_needBlock_47 : decode cX11_needBlock 47 = .ok (.getfield 44, 3) := by decide +kernel
theorem dX11_needBlock_50 : decode cX11_needBlock 50 = .ok (.aload_n 0, 1) := by decide +kernel
theorem dX11_needBlock_51 : decode cX11_needBlock 51 = .ok (.getfield 159, 3) := by decide +kernel
theorem dX11_needBlock_54 : decode cX11_needBlock 54 = .ok (.iconst 0, 1) := by decide +kernel
theorem dX11_needBlock_55 : decode cX11_needBlock 55 = .ok (.bastore, 1) := by decide +kernel
theorem dX11_needBlock_56 : decode cX11_needBlock 56 = .ok (.aload_n 0, 1) := by decide +kernel
theorem dX11_needBlock_57 : decode cX11_needBlock 57 = .ok (.aload_n 0, 1) := by decide +kernel
theorem dX11_needBlock_58 : decode cX11_needBlock 58 = .ok (.getfield 165, 3) := by decide +kernel
theorem dX11_needBlock_61 : decode cX11_needBlock 61 = .ok (.aload_n 0, 1) := by decide +kernel
theorem dX11_needBlock_62 : decode cX11_needBlock 62 = .ok (.getfield 159, 3) := by decide +kernel
theorem dX11_needBlock_65 : decode cX11_needBlock 65 = .ok (.invokevirtual 168, 3) := by decide +kernel
theorem dX11_needBlock_68 : decode cX11_needBlock 68 = .ok (.return_, 1) := by decide +kernel
theorem dX11_emit_0 : decode cX11_emit 0 = .ok (.aload_n 0, 1) := by decide +kernel
theorem dX11_emit_1 : decode cX11_emit 1 = .ok (.getfield 125, 3) := by decide +kernel
theorem dX11_emit_4 : decode cX11_emit 4 = .ok (.ifCond .ne 19, 3) := by decide +kernel
theorem dX11_emit_7 : decode cX11_emit 7 = .ok (.aload_n 0, 1) := by decide +kernel
theorem dX11_emit_8 : decode cX11_emit 8 = .ok (.getfield 171, 3) := by decide +kernel
theorem dX11_emit_11 : decode cX11_emit 11 = .ok (.sipush 200, 3) := by decide +kernel
theorem dX11_emit_14 : decode cX11_emit 14 = .ok (.if_icmp .ne 9, 3) := by decide +kernel
theorem dX11_emit_17 : decode cX11_emit 17 = .ok (.aload_n 0, 1) := by decide +kernel
theorem dX11_emit_18 : decode cX11_emit 18 = .ok (.iconst 3, 1) := by decide +kernel
theorem dX11_emit_19 : decode cX11_emit 19 = .ok (.iload_n 2, 1) := by decide +kernel
theorem dX11_emit_20 : decode cX11_emit 20 = .ok (.invokevirtual 139, 3) := by decide +kernel
theorem dX11_emit_23 : decode cX11_emit 23 = .ok (.aload_n 0, 1) := by decide +kernel
theorem dX11_emit_24 : decode cX11_emit 24 = .ok (.getfield 125, 3) := by decide +kernel
theorem dX11_emit_27 : decode cX11_emit 27 = .ok (.ifCond .le 5, 3) := by decide +kernel
theorem dX11_emit_30 : decode cX11_emit 30 = .ok (.iconst 0, 1) := by decide +kernel
theorem dX11_emit_31 : decode cX11_emit 31 = .ok (.ireturn, 1) := by decide +kernel
theorem dX11_emit_32 : decode cX11_emit 32 = .ok (.aload_n 0, 1) := by decide +kernel
theorem dX11_emit_33 : decode cX11_emit 33 = .ok (.invokevirtual 174, 3) := by decide +kernel
theorem dX11_emit_36 : decode cX11_emit 36 = .ok (.aload_n 0, 1) := by decide +kernel
theorem dX11_emit_37 : decode cX11_emit 37 = .ok (.getfield 171, 3) := by decide +kernel
theorem dX11_emit_40 : decode cX11_emit 40 = .ok (.istore 5, 2) := by decide +kernel
theorem dX11_emit_42 : decode cX11_emit 42 = .ok (.aload_n 0, 1) := by decide +kernel
theorem dX11_emit_43 : decode cX11_emit 43 = .ok (.dup, 1) := by decide +kernel
theorem dX11_emit_44 : decode cX11_emit 44 = .ok (.getfield 171, 3) := by decide +kernel
theorem dX11_emit_47 : decode cX11_emit 47 = .ok (.iconst 1, 1) := by decide +kernel
theorem dX11_emit_48 : decode cX11_emit 48 = .ok (.iadd, 1) := by decide +kernel
theorem dX11_emit_49 : decode cX11_emit 49 = .ok (.putfield 171, 3) := by decide +kernel
theorem dX11_emit_52 : decode cX11_emit 52 = .ok (.aload_n 0, 1) := by decide +kernel
theorem dX11_emit_53 : decode cX11_emit 53 = .ok (.getfield 17, 3) := by decide +kernel
theorem dX11_emit_56 : decode cX11_emit 56 = .ok (.iload 5, 2) := by decide +kernel
theorem dX11_emit_58 : decode cX11_emit 58 = .ok (.iload_n 1, 1) := by decide +kernel
theorem dX11_emit_59 : decode cX11_emit 59 = .ok (.iastore, 1) := by decide +kernel
theorem dX11_emit_60 : decode cX11_emit 60 = .ok (.aload_n 0, 1) := by decide +kernel
theorem dX11_emit_61 : decode cX11_emit 61 = .ok (.getfield 20, 3) := by decide +kernel
theorem dX11_emit_64 : decode cX11_emit 64 = .ok (.iconst 2, 1) := by decide +kernel
theorem dX11_emit_65 : decode cX11_emit 65 = .ok (.iload 5, 2) := by decide +kernel
theorem dX11_emit_67 : decode cX11_emit 67 = .ok (.imul, 1) := by decide +kernel
theorem dX11_emit_68 : decode cX11_emit 68 = .ok (.iload_n 3, 1) := by decide +kernel
theorem dX11_emit_69 : decode cX11_emit 69 = .ok (.iastore, 1) := by decide +kernel
theorem dX11_emit_70 : decode cX11_emit 70 = .ok (.aload_n 0, 1) := by decide +kernel
theorem dX11_emit_71 : decode cX11_emit 71 = .ok (.getfield 23, 3) := by decide +kernel
theorem dX11_emit_74 : decode cX11_emit 74 = .ok (.iconst 2, 1) := by decide +kernel
theorem dX11_emit_75 : decode cX11_emit 75 = .ok (.iload 5, 2) := by decide +kernel
theorem dX11_emit_77 : decode cX11_emit 77 = .ok (.imul, 1) := by decide +kernel
theorem dX11_emit_78 : decode cX11_emit 78 = .ok (.iload 4, 2) := by decide +kernel
theorem dX11_emit_80 : decode cX11_emit 80 = .ok (.iastore, 1) := by decide +kernel
theorem dX11_emit_81 : decode cX11_emit 81 = .ok (.aload_n 0, 1) := by decide +kernel
theorem dX11_emit_82 : decode cX11_emit 82 = .ok (.getfield 20, 3) := by decide +kernel
theorem dX11_emit_85 : decode cX11_emit 85 = .ok (.iconst 2, 1) := by decide +kernel
theorem dX11_emit_86 : decode cX11_emit 86 = .ok (.iload 5, 2) := by decide +kernel
theorem dX11_emit_88 : decode cX11_emit 88 = .ok (.imul, 1) := by decide +kernel
theorem dX11_emit_89 : decode cX11_emit 89 = .ok (.iconst 1, 1) := by decide +kernel
theorem dX11_emit_90 : decode cX11_emit 90 = .ok (.iadd, 1) := by decide +kernel
theorem dX11_emit_91 : decode cX11_emit 91 = .ok (.aload_n 0, 1) := by decide +kernel
theorem dX11_emit_92 : decode cX11_emit 92 = .ok (.getfield 177, 3) := by decide +kernel
theorem dX11_emit_95 : decode cX11_emit 95 = .ok (.iastore, 1) := by decide +kernel
theorem dX11_emit_96 : decode cX11_emit 96 = .ok (.aload_n 0, 1) := by decide +kernel
theorem dX11_emit_97 : decode cX11_emit 97 = .ok (.getfield 23, 3) := by decide +kernel
theorem dX11_emit_100 : decode cX11_emit 100 = .ok (.iconst 2, 1) := by decide +kernel
theorem dX11_emit_101 : decode cX11_emit 101 = .ok (.iload 5, 2) := by decide +kernel
theorem dX11_emit_103 : decode cX11_emit 103 = .ok (.imul, 1) := by decide +kernel
theorem dX11_emit_104 : decode cX11_emit 104 = .ok (.iconst 1, 1) := by decide +kernel
theorem dX11_emit_105 : decode cX11_emit 105 = .ok (.iadd, 1) := by decide +kernel
theorem dX11_emit_106 : decode cX11_emit 106 = .ok (.aload_n 0, 1) := by decide +kernel
theorem dX11_emit_107 : decode cX11_emit 107 = .ok (.getfield 180, 3) := by decide +kernel
theorem dX11_emit_110 : decode cX11_emit 110 = .ok (.iastore, 1) := by decide +kernel
theorem dX11_emit_111 : decode cX11_emit 111 = .ok (.aload_n 0, 1) := by decide +kernel
theorem dX11_emit_112 : decode cX11_emit 112 = .ok (.getfield 26, 3) := by decide +kernel
theorem dX11_emit_115 : decode cX11_emit 115 = .ok (.iload 5, 2) := by decide +kernel
theorem dX11_emit_117 : decode cX11_emit 117 = .ok (.iconst (-1), 1) := by decide +kernel
theorem dX11_emit_118 : decode cX11_emit 118 = .ok (.iastore, 1) := by decide +kernel
theorem dX11_emit_119 : decode cX11_emit 119 = .ok (.aload_n 0, 1) := by decide +kernel
theorem dX11_emit_120 : decode cX11_emit 120 = .ok (.getfield 29, 3) := by decide +kernel
theorem dX11_emit_123 : decode cX11_emit 123 = .ok (.iload 5, 2) := by decide +kernel
theorem dX11_emit_125 : decode cX11_emit 125 = .ok (.aload_n 0, 1) := by decide +kernel
theorem dX11_emit_126 : decode cX11_emit 126 = .ok (.getfield 159, 3) := by decide +kernel
theorem dX11_emit_129 : decode cX11_emit 129 = .ok (.iastore, 1) := by decide +kernel
theorem dX11_emit_130 : decode cX11_emit 130 = .ok (.aload_n 0, 1) := by decide +kernel
theorem dX11_emit_131 : decode cX11_emit 131 = .ok (.iconst 3, 1) := by decide +kernel
theorem dX11_emit_132 : decode cX11_emit 132 = .ok (.putfield 177, 3) := by decide +kernel
theorem dX11_emit_135 : decode cX11_emit 135 = .ok (.aload_n 0, 1) := by decide +kernel
theorem dX11_emit_136 : decode cX11_emit 136 = .ok (.iload 5, 2) := by decide +kernel
theorem dX11_emit_138 : decode cX11_emit 138 = .ok (.putfield 180, 3) := by decide +kernel
theorem dX11_emit_141 : decode cX11_emit 141 = .ok (.iload 5, 2) := by decide +kernel
theorem dX11_emit_143 : decode cX11_emit 143 = .ok (.ireturn, 1) := by decide +kernel
theorem dX11_open_0 : decode cX11_open 0 = .ok (.aload_n 0, 1) := by decide +kernel
theorem dX11_open_1 : decode cX11_open 1 = .ok (.getfield 183, 3) := by decide +kernel
theorem dX11_open_4 : decode cX11_open 4 = .ok (.bipush 20, 2) := by decide +kernel
theorem dX11_open_6 : decode cX11_open 6 = .ok (.if_icmp .ne 12, 3) := by decide +kernel
theorem dX11_open_9 : decode cX11_open 9 = .ok (.aload_n 0, 1) := by decide +kernel
theorem dX11_open_10 : decode cX11_open 10 = .ok (.iconst 3, 1) := by decide +kernel
theorem dX11_open_11 : decode cX11_open 11 = .ok (.aload_n 0, 1) := by decide +kernel
theorem dX11_open_12 : decode cX11_open 12 = .ok (.getfield 128, 3) := by decide +kernel
theorem dX11_open_15 : decode cX11_open 15 = .ok (.invokevirtual 139, 3) := by decide +kernel
theorem dX11_open_18 : decode cX11_open 18 = .ok (.aload_n 0, 1) := by decide +kernel
theorem dX11_open_19 : decode cX11_open 19 = .ok (.dup, 1) := by decide +kernel
theorem dX11_open_20 : decode cX11_open 20 = .ok (.getfield 183, 3) := by decide +kernel
theorem dX11_open_23 : decode cX11_open 23 = .ok (.iconst 1, 1) := by decide +kernel
theorem dX11_open_24 : decode cX11_open 24 = .ok (.iadd, 1) := by decide +kernel
theorem dX11_open_25 : decode cX11_open 25 = .ok (.putfield 183, 3) := by decide +kernel
theorem dX11_open_28 : decode cX11_open 28 = .ok (.aload_n 0, 1) := by decide +kernel
theorem dX11_open_29 : decode cX11_open 29 = .ok (.dup, 1) := by decide +kernel
theorem dX11_open_30 : decode cX11_open 30 = .ok (.getfield 128, 3) := by decide +kernel
theorem dX11_open_33 : decode cX11_open 33 = .ok (.iconst 1, 1) := by decide +kernel
theorem dX11_open_34 : decode cX11_open 34 = .ok (.iadd, 1) := by decide +kernel
theorem dX11_open_35 : decode cX11_open 35 = .ok (.putfield 128, 3) := by decide +kernel
theorem dX11_open_38 : decode cX11_open 38 = .ok (.return_, 1) := by decide +kernel
theorem dX11_number_0 : decode cX11_number 0 = .ok (.aload_n 0, 1) := by decide +kernel
theorem dX11_number_1 : decode cX11_number 1 = .ok (.getfield 128, 3) := by decide +kernel
theorem dX11_number_4 : decode cX11_number 4 = .ok (.istore_n 1, 1) := by decide +kernel
theorem dX11_number_5 : decode cX11_number 5 = .ok (.lconst 0, 1) := by decide +kernel
theorem dX11_number_6 : decode cX11_number 6 = .ok (.lstore_n 2, 1) := by decide +kernel
theorem dX11_number_7 : decode cX11_number 7 = .ok (.aload_n 0, 1) := by decide +kernel
theorem dX11_number_8 : decode cX11_number 8 = .ok (.aload_n 0, 1) := by decide +kernel
theorem dX11_number_9 : decode cX11_number 9 = .ok (.getfield 128, 3) := by decide +kernel
theorem dX11_number_12 : decode cX11_number 12 = .ok (.invokevirtual 131, 3) := by decide +kernel
theorem dX11_number_15 : decode cX11_number 15 = .ok (.invokestatic 186, 3) := by decide +kernel
theorem dX11_number_18 : decode cX11_number 18 = .ok (.ifCond .eq 52, 3) := by decide +kernel
theorem dX11_number_21 : decode cX11_number 21 = .ok (.lload_n 2, 1) := by decide +kernel
theorem dX11_number_22 : decode cX11_number 22 = .ok (.ldc2_w 189, 3) := by decide +kernel
theorem dX11_number_25 : decode cX11_number 25 = .ok (.lmul, 1) := by decide +kernel
theorem dX11_number_26 : decode cX11_number 26 = .ok (.aload_n 0, 1) := by decide +kernel
theorem dX11_number_27 : decode cX11_number 27 = .ok (.aload_n 0, 1) := by decide +kernel
theorem dX11_number_28 : decode cX11_number 28 = .ok (.getfield 128, 3) := by decide +kernel
theorem dX11_number_31 : decode cX11_number 31 = .ok (.invokevirtual 131, 3) := by decide +kernel
theorem dX11_number_34 : decode cX11_number 34 = .ok (.i2l, 1) := by decide +kernel
theorem dX11_number_35 : decode cX11_number 35 = .ok (.ladd, 1) := by decide +kernel
theorem dX11_number_36 : decode cX11_number 36 = .ok (.ldc2_w 191, 3) := by decide +kernel
theorem dX11_number_39 : decode cX11_number 39 = .ok (.lsub, 1) := by decide +kernel
theorem dX11_number_40 : decode cX11_number 40 = .ok (.lstore_n 2, 1) := by decide +kernel
theorem dX11_number_41 : decode cX11_number 41 = .ok (.lload_n 2, 1) := by decide +kernel
theorem dX11_number_42 : decode cX11_number 42 = .ok (.ldc2_w 193, 3) := by decide +kernel
theorem dX11_number_45 : decode cX11_number 45 = .ok (.lcmp, 1) := by decide +kernel
theorem dX11_number_46 : decode cX11_number 46 = .ok (.ifCond .le 9, 3) := by decide +kernel
theorem dX11_number_49 : decode cX11_number 49 = .ok (.ldc2_w 193, 3) := by decide +kernel
theorem dX11_number_52 : decode cX11_number 52 = .ok (.goto 4, 3) := by decide +kernel
theorem dX11_number_55 : decode cX11_number 55 = .ok (.lload_n 2, 1) := by decide +kernel
theorem dX11_number_56 : decode cX11_number 56 = .ok (.lstore_n 2, 1) := by decide +kernel
theorem dX11_number_57 : decode cX11_number 57 = .ok (.aload_n 0, 1) := by decide +kernel
theorem dX11_number_58 : decode cX11_number 58 = .ok (.dup, 1) := by decide +kernel
theorem dX11_number_59 : decode cX11_number 59 = .ok (.getfield 128, 3) := by decide +kernel
theorem dX11_number_62 : decode cX11_number 62 = .ok (.iconst 1, 1) := by decide +kernel
theorem dX11_number_63 : decode cX11_number 63 = .ok (.iadd, 1) := by decide +kernel
theorem dX11_number_64 : decode cX11_number 64 = .ok (.putfield 128, 3) := by decide +kernel
theorem dX11_number_67 : decode cX11_number 67 = .ok (.goto (-60), 3) := by decide +kernel
theorem dX11_number_70 : decode cX11_number 70 = .ok (.lload_n 2, 1) := by decide +kernel
theorem dX11_number_71 : decode cX11_number 71 = .ok (.ldc2_w 195, 3) := by decide +kernel
theorem dX11_number_74 : decode cX11_number 74 = .ok (.lcmp, 1) := by decide +kernel
theorem dX11_number_75 : decode cX11_number 75 = .ok (.ifCond .le 9, 3) := by decide +kernel
theorem dX11_number_78 : decode cX11_number 78 = .ok (.aload_n 0, 1) := by decide +kernel
theorem dX11_number_79 : decode cX11_number 79 = .ok (.iconst 2, 1) := by decide +kernel
theorem dX11_number_80 : decode cX11_number 80 = .ok (.iload_n 1, 1) := by decide +kernel
theorem dX11_number_81 : decode cX11_number 81 = .ok (.invokevirtual 139, 3) := by decide +kernel
theorem dX11_number_84 : decode cX11_number 84 = .ok (.aload_n 0, 1) := by decide +kernel
theorem dX11_number_85 : decode cX11_number 85 = .ok (.iconst 1, 1) := by decide +kernel
theorem dX11_number_86 : decode cX11_number 86 = .ok (.putfield 177, 3) := by decide +kernel
theorem dX11_number_89 : decode cX11_number 89 = .ok (.aload_n 0, 1) := by decide +kernel
theorem dX11_number_90 : decode cX11_number 90 = .ok (.lload_n 2, 1) := by decide +kernel
theorem dX11_number_91 : decode cX11_number 91 = .ok (.l2i, 1) := by decide +kernel
theorem dX11_number_92 : decode cX11_number 92 = .ok (.putfield 180, 3) := by decide +kernel
theorem dX11_number_95 : decode cX11_number 95 = .ok (.return_, 1) := by decide +kernel
theorem dX11_factor_0 : decode cX11_factor 0 = .ok (.aload_n 0, 1) := by decide +kernel
theorem dX11_factor_1 : decode cX11_factor 1 = .ok (.invokevirtual 135, 3) := by decide +kernel
theorem dX11_factor_4 : decode cX11_factor 4 = .ok (.istore_n 1, 1) := by decide +kernel
theorem dX11_factor_5 : decode cX11_factor 5 = .ok (.aload_n 0, 1) := by decide +kernel
theorem dX11_factor_6 : decode cX11_factor 6 = .ok (.getfield 128, 3) := by decide +kernel
theorem dX11_factor_9 : decode cX11_factor 9 = .ok (.istore_n 2, 1) := by decide +kernel
theorem dX11_factor_10 : decode cX11_factor 10 = .ok (.aload_n 0, 1) := by decide +kernel
theorem dX11_factor_11 : decode cX11_factor 11 = .ok (.getfield 125, 3) := by decide +kernel
theorem dX11_factor_14 : decode cX11_factor 14 = .ok (.ifCond .le 4, 3) := by decide +kernel
theorem dX11_factor_17 : decode cX11_factor 17 = .ok (.return_, 1) := by decide +kernel
theorem dX11_factor_18 : decode cX11_factor 18 = .ok (.iload_n 1, 1) := by decide +kernel
theorem dX11_factor_19 : decode cX11_factor 19 = .ok (.invokestatic 186, 3) := by decide +kernel
theorem dX11_factor_22 : decode cX11_factor 22 = .ok (.ifCond .eq 10, 3) := by decide +kernel
theorem dX11_factor_25 : decode cX11_factor 25 = .ok (.aload_n 0, 1) := by decide +kernel
theorem dX11_factor_26 : decode cX11_factor 26 = .ok (.invokevirtual 197, 3) := by decide +kernel
theorem dX11_factor_29 : decode cX11_factor 29 = .ok (.goto 184, 3) := by decide +kernel
theorem dX11_factor_32 : decode cX11_factor 32 = .ok (.iload_n 1, 1) := by decide +kernel
theorem dX11_factor_33 : decode cX11_factor 33 = .ok (.bipush 40, 2) := by decide +kernel
theorem dX11_factor_35 : decode cX11_factor 35 = .ok (.if_icmp .ne 30, 3) := by decide +kernel
theorem dX11_factor_38 : decode cX11_factor 38 = .ok (.aload_n 0, 1) := by decide +kernel
theorem dX11_factor_39 : decode cX11_factor 39 = .ok (.invokevirtual 200, 3) := by decide +kernel
theorem dX11_factor_42 : decode cX11_factor 42 = .ok (.aload_n 0, 1) := by decide +kernel
theorem dX11_factor_43 : decode cX11_factor 43 = .ok (.invokevirtual 203, 3) := by decide +kernel
theorem dX11_factor_46 : decode cX11_factor 46 = .ok (.aload_n 0, 1) := by decide +kernel
theorem dX11_factor_47 : decode cX11_factor 47 = .ok (.bipush 41, 2) := by decide +kernel
theorem dX11_factor_49 : decode cX11_factor 49 = .ok (.invokevirtual 206, 3) := by decide +kernel
theorem dX11_factor_52 : decode cX11_factor 52 = .ok (.aload_n 0, 1) := by decide +kernel
theorem dX11_factor_53 : decode cX11_factor 53 = .ok (.dup, 1) := by decide +kernel
theorem dX11_factor_54 : decode cX11_factor 54 = .ok (.getfield 183, 3) := by decide +kernel
theorem dX11_factor_57 : decode cX11_factor 57 = .ok (.iconst 1, 1) := by decide +kernel
theorem dX11_factor_58 : decode cX11_factor 58 = .ok (.isub, 1) := by decide +kernel
theorem dX11_factor_59 : decode cX11_factor 59 = .ok (.putfield 183, 3) := by decide +kernel
theorem dX11_factor_62 : decode cX11_factor 62 = .ok (.goto 151, 3) := by decide +kernel
theorem dX11_factor_65 : decode cX11_factor 65 = .ok (.iload_n 1, 1) := by decide +kernel
theorem dX11_factor_66 : decode cX11_factor 66 = .ok (.invokestatic 143, 3) := by decide +kernel
theorem dX11_factor_69 : decode cX11_factor 69 = .ok (.ifCond .eq 37, 3) := by decide +kernel
theorem dX11_factor_72 : decode cX11_factor 72 = .ok (.aload_n 0, 1) := by decide +kernel
theorem dX11_factor_73 : decode cX11_factor 73 = .ok (.invokevirtual 210, 3) := by decide +kernel
theorem dX11_factor_76 : decode cX11_factor 76 = .ok (.iconst 4, 1) := by decide +kernel
theorem dX11_factor_77 : decode cX11_factor 77 = .ok (.if_icmp .ne 29, 3) := by decide +kernel
theorem dX11_factor_80 : decode cX11_factor 80 = .ok (.aload_n 0, 1) := by decide +kernel
theorem dX11_factor_81 : decode cX11_factor 81 = .ok (.iconst 2, 1) := by decide +kernel
theorem dX11_factor_82 : decode cX11_factor 82 = .ok (.putfield 177, 3) := by decide +kernel
theorem dX11_factor_85 : decode cX11_factor 85 = .ok (.aload_n 0, 1) := by decide +kernel
theorem dX11_factor_86 : decode cX11_factor 86 = .ok (.iload_n 1, 1) := by decide +kernel
theorem dX11_factor_87 : decode cX11_factor 87 = .ok (.bipush 97, 2) := by decide +kernel
theorem dX11_factor_89 : decode cX11_factor 89 = .ok (.isub, 1) := by decide +kernel
theorem dX11_factor_90 : decode cX11_factor 90 = .ok (.putfield 180, 3) := by decide +kernel
theorem dX11_factor_93 : decode cX11_factor 93 = .ok (.aload_n 0, 1) := by decide +kernel
theorem dX11_factor_94 : decode cX11_factor 94 = .ok (.dup, 1) := by decide +kernel
theorem dX11_factor_95 : decode cX11_factor 95 = .ok (.getfield 128, 3) := by decide +kernel
theorem dX11_factor_98 : decode cX11_factor 98 = .ok (.iconst 1, 1) := by decide +kernel
theorem dX11_factor_99 : decode cX11_factor 99 = .ok (.iadd, 1) := by decide +kernel
theorem dX11_factor_100 : decode cX11_factor 100 = .ok (.putfield 128, 3) := by decide +kernel
theorem dX11_factor_103 : decode cX11_factor 103 = .ok (.goto 110, 3) := by decide +kernel
theorem dX11_factor_106 : decode cX11_factor 106 = .ok (.iload_n 1, 1) := by decide +kernel
theorem dX11_factor_107 : decode cX11_factor 107 = .ok (.invokestatic 143, 3) := by decide +kernel
theorem dX11_factor_110 : decode cX11_factor 110 = .ok (.ifCond .eq 94, 3) := by decide +kernel
theorem dX11_factor_113 : decode cX11_factor 113 = .ok (.aload_n 0, 1) := by decide +kernel
theorem dX11_factor_114 : decode cX11_factor 114 = .ok (.invokevirtual 210, 3) := by decide +kernel
theorem dX11_factor_117 : decode cX11_factor 117 = .ok (.iconst 5, 1) := by decide +kernel
theorem dX11_factor_118 : decode cX11_factor 118 = .ok (.if_icmp .ne 86, 3) := by decide +kernel
theorem dX11_factor_121 : decode cX11_factor 121 = .ok (.aload_n 0, 1) := by decide +kernel
theorem dX11_factor_122 : decode cX11_factor 122 = .ok (.dup, 1) := by decide +kernel
theorem dX11_factor_123 : decode cX11_factor 123 = .ok (.getfield 128, 3) := by decide +kernel
theorem dX11_factor_126 : decode cX11_factor 126 = .ok (.iconst 1, 1) := by decide +kernel
theorem dX11_factor_127 : decode cX11_factor 127 = .ok (.iadd, 1) := by decide +kernel
theorem dX11_factor_128 : decode cX11_factor 128 = .ok (.putfield 128, 3) := by decide +kernel
theorem dX11_factor_131 : decode cX11_factor 131 = .ok (.aload_n 0, 1) := by decide +kernel
theorem dX11_factor_132 : decode cX11_factor 132 = .ok (.invokevirtual 135, 3) := by decide +kernel
theorem dX11_factor_135 : decode cX11_factor 135 = .ok (.bipush 91, 2) := by decide +kernel
theorem dX11_factor_137 : decode cX11_factor 137 = .ok (.if_icmp .eq 13, 3) := by decide +kernel
theorem dX11_factor_140 : decode cX11_factor 140 = .ok (.aload_n 0, 1) := by decide +kernel
theorem dX11_factor_141 : decode cX11_factor 141 = .ok (.iconst 1, 1) := by decide +kernel
theorem dX11_factor_142 : decode cX11_factor 142 = .ok (.aload_n 0, 1) := by decide +kernel
theorem dX11_factor_143 : decode cX11_factor 143 = .ok (.getfield 128, 3) := by decide +kernel
theorem dX11_factor_146 : decode cX11_factor 146 = .ok (.invokevirtual 139, 3) := by decide +kernel
theorem dX11_factor_149 : decode cX11_factor 149 = .ok (.return_, 1) := by decide +kernel
theorem dX11_factor_150 : decode cX11_factor 150 = .ok (.aload_n 0, 1) := by decide +kernel
theorem dX11_factor_151 : decode cX11_factor 151 = .ok (.invokevirtual 200, 3) := by decide +kernel
theorem dX11_factor_154 : decode cX11_factor 154 = .ok (.aload_n 0, 1) := by decide +kernel
theorem dX11_factor_155 : decode cX11_factor 155 = .ok (.invokevirtual 203, 3) := by decide +kernel
theorem dX11_factor_158 : decode cX11_factor 158 = .ok (.aload_n 0, 1) := by decide +kernel
theorem dX11_factor_159 : decode cX11_factor 159 = .ok (.bipush 93, 2) := by decide +kernel
theorem dX11_factor_161 : decode cX11_factor 161 = .ok (.invokevirtual 206, 3) := by decide +kernel
theorem dX11_factor_164 : decode cX11_factor 164 = .ok (.aload_n 0, 1) := by decide +kernel
theorem dX11_factor_165 : decode cX11_factor 165 = .ok (.dup, 1) := by decide +kernel
theorem dX11_factor_166 : decode cX11_factor 166 = .ok (.getfield 183, 3) := by decide +kernel
theorem dX11_factor_169 : decode cX11_factor 169 = .ok (.iconst 1, 1) := by decide +kernel
theorem dX11_factor_170 : decode cX11_factor 170 = .ok (.isub, 1) := by decide +kernel
theorem dX11_factor_171 : decode cX11_factor 171 = .ok (.putfield 183, 3) := by decide +kernel
theorem dX11_factor_174 : decode cX11_factor 174 = .ok (.aload_n 0, 1) := by decide +kernel
theorem dX11_factor_175 : decode cX11_factor 175 = .ok (.getfield 177, 3) := by decide +kernel
theorem dX11_factor_178 : decode cX11_factor 178 = .ok (.istore_n 3, 1) := by decide +kernel
theorem dX11_factor_179 : decode cX11_factor 179 = .ok (.aload_n 0, 1) := by decide +kernel
theorem dX11_factor_180 : decode cX11_factor 180 = .ok (.getfield 180, 3) := by decide +kernel
theorem dX11_factor_183 : decode cX11_factor 183 = .ok (.istore 4, 2) := by decide +kernel
theorem dX11_factor_185 : decode cX11_factor 185 = .ok (.aload_n 0, 1) := by decide +kernel
theorem dX11_factor_186 : decode cX11_factor 186 = .ok (.iconst 0, 1) := by decide +kernel
theorem dX11_factor_187 : decode cX11_factor 187 = .ok (.putfield 177, 3) := by decide +kernel
theorem dX11_factor_190 : decode cX11_factor 190 = .ok (.aload_n 0, 1) := by decide +kernel
theorem dX11_factor_191 : decode cX11_factor 191 = .ok (.iconst 5, 1) := by decide +kernel
theorem dX11_factor_192 : decode cX11_factor 192 = .ok (.iload_n 2, 1) := by decide +kernel
theorem dX11_factor_193 : decode cX11_factor 193 = .ok (.iload_n 3, 1) := by decide +kernel
theorem dX11_factor_194 : decode cX11_factor 194 = .ok (.iload 4, 2) := by decide +kernel
theorem dX11_factor_196 : decode cX11_factor 196 = .ok (.invokevirtual 213, 3) := by decide +kernel
theorem dX11_factor_199 : decode cX11_factor 199 = .ok (.istore 5, 2) := by decide +kernel
theorem dX11_factor_201 : decode cX11_factor 201 = .ok (.goto 12, 3) := by decide +kernel
theorem dX11_factor_204 : decode cX11_factor 204 = .ok (.aload_n 0, 1) := by decide +kernel
theorem dX11_factor_205 : decode cX11_factor 205 = .ok (.iconst 1, 1) := by decide +kernel
theorem dX11_factor_206 : decode cX11_factor 206 = .ok (.aload_n 0, 1) := by decide +kernel
theorem dX11_factor_207 : decode cX11_factor 207 = .ok (.getfield 128, 3) := by decide +kernel
theorem dX11_factor_210 : decode cX11_factor 210 = .ok (.invokevirtual 139, 3) := by decide +kernel
theorem dX11_factor_213 : decode cX11_factor 213 = .ok (.return_, 1) := by decide +kernel
theorem dX11_join_0 : decode cX11_join 0 = .ok (.aload_n 0, 1) := by decide +kernel
theorem dX11_join_1 : decode cX11_join 1 = .ok (.getfield 125, 3) := by decide +kernel
theorem dX11_join_4 : decode cX11_join 4 = .ok (.ifCond .ne 14, 3) := by decide +kernel
theorem dX11_join_7 : decode cX11_join 7 = .ok (.aload_n 0, 1) := by decide +kernel
theorem dX11_join_8 : decode cX11_join 8 = .ok (.iload_n 1, 1) := by decide +kernel
theorem dX11_join_9 : decode cX11_join 9 = .ok (.iload_n 2, 1) := by decide +kernel
theorem dX11_join_10 : decode cX11_join 10 = .ok (.iload_n 3, 1) := by decide +kernel
theorem dX11_join_11 : decode cX11_join 11 = .ok (.iload 4, 2) := by decide +kernel
theorem dX11_join_13 : decode cX11_join 13 = .ok (.invokevirtual 213, 3) := by decide +kernel
theorem dX11_join_16 : decode cX11_join 16 = .ok (.istore 5, 2) := by decide +kernel
theorem dX11_join_18 : decode cX11_join 18 = .ok (.return_, 1) := by decide +kernel
theorem dX11_term_0 : decode cX11_term 0 = .ok (.aload_n 0, 1) := by decide +kernel
theorem dX11_term_1 : decode cX11_term 1 = .ok (.invokevirtual 217, 3) := by decide +kernel
theorem dX11_term_4 : decode cX11_term 4 = .ok (.aload_n 0, 1) := by decide +kernel
theorem dX11_term_5 : decode cX11_term 5 = .ok (.getfield 125, 3) := by decide +kernel
theorem dX11_term_8 : decode cX11_term 8 = .ok (.ifCond .ne 52, 3) := by decide +kernel
theorem dX11_term_11 : decode cX11_term 11 = .ok (.aload_n 0, 1) := by decide +kernel
theorem dX11_term_12 : decode cX11_term 12 = .ok (.invokevirtual 135, 3) := by decide +kernel
theorem dX11_term_15 : decode cX11_term 15 = .ok (.bipush 42, 2) := by decide +kernel
theorem dX11_term_17 : decode cX11_term 17 = .ok (.if_icmp .ne 43, 3) := by decide +kernel
theorem dX11_term_20 : decode cX11_term 20 = .ok (.aload_n 0, 1) := by decide +kernel
theorem dX11_term_21 : decode cX11_term 21 = .ok (.getfield 128, 3) := by decide +kernel
theorem dX11_term_24 : decode cX11_term 24 = .ok (.istore_n 1, 1) := by decide +kernel
theorem dX11_term_25 : decode cX11_term 25 = .ok (.aload_n 0, 1) := by decide +kernel
theorem dX11_term_26 : decode cX11_term 26 = .ok (.getfield 177, 3) := by decide +kernel
theorem dX11_term_29 : decode cX11_term 29 = .ok (.istore_n 2, 1) := by decide +kernel
theorem dX11_term_30 : decode cX11_term 30 = .ok (.aload_n 0, 1) := by decide +kernel
theorem dX11_term_31 : decode cX11_term 31 = .ok (.getfield 180, 3) := by decide +kernel
theorem dX11_term_34 : decode cX11_term 34 = .ok (.istore_n 3, 1) := by decide +kernel
theorem dX11_term_35 : decode cX11_term 35 = .ok (.aload_n 0, 1) := by decide +kernel
theorem dX11_term_36 : decode cX11_term 36 = .ok (.dup, 1) := by decide +kernel
theorem dX11_term_37 : decode cX11_term 37 = .ok (.getfield 128, 3) := by decide +kernel
theorem dX11_term_40 : decode cX11_term 40 = .ok (.iconst 1, 1) := by decide +kernel
theorem dX11_term_41 : decode cX11_term 41 = .ok (.iadd, 1) := by decide +kernel
theorem dX11_term_42 : decode cX11_term 42 = .ok (.putfield 128, 3) := by decide +kernel
theorem dX11_term_45 : decode cX11_term 45 = .ok (.aload_n 0, 1) := by decide +kernel
theorem dX11_term_46 : decode cX11_term 46 = .ok (.invokevirtual 217, 3) := by decide +kernel
theorem dX11_term_49 : decode cX11_term 49 = .ok (.aload_n 0, 1) := by decide +kernel
theorem dX11_term_50 : decode cX11_term 50 = .ok (.iconst 2, 1) := by decide +kernel
theorem dX11_term_51 : decode cX11_term 51 = .ok (.iload_n 1, 1) := by decide +kernel
theorem dX11_term_52 : decode cX11_term 52 = .ok (.iload_n 2, 1) := by decide +kernel
theorem dX11_term_53 : decode cX11_term 53 = .ok (.iload_n 3, 1) := by decide +kernel
theorem dX11_term_54 : decode cX11_term 54 = .ok (.invokevirtual 220, 3) := by decide +kernel
theorem dX11_term_57 : decode cX11_term 57 = .ok (.goto (-53), 3) := by decide +kernel
theorem dX11_term_60 : decode cX11_term 60 = .ok (.return_, 1) := by decide +kernel
theorem dX11_sum_0 : decode cX11_sum 0 = .ok (.aload_n 0, 1) := by decide +kernel
theorem dX11_sum_1 : decode cX11_sum 1 = .ok (.invokevirtual 224, 3) := by decide +kernel
theorem dX11_sum_4 : decode cX11_sum 4 = .ok (.aload_n 0, 1) := by decide +kernel
theorem dX11_sum_5 : decode cX11_sum 5 = .ok (.getfield 125, 3) := by decide +kernel
theorem dX11_sum_8 : decode cX11_sum 8 = .ok (.ifCond .ne 82, 3) := by decide +kernel
theorem dX11_sum_11 : decode cX11_sum 11 = .ok (.aload_n 0, 1) := by decide +kernel
theorem dX11_sum_12 : decode cX11_sum 12 = .ok (.invokevirtual 135, 3) := by decide +kernel
theorem dX11_sum_15 : decode cX11_sum 15 = .ok (.bipush 43, 2) := by decide +kernel
theorem dX11_sum_17 : decode cX11_sum 17 = .ok (.if_icmp .eq 12, 3) := by decide +kernel
theorem dX11_sum_20 : decode cX11_sum 20 = .ok (.aload_n 0, 1) := by decide +kernel
theorem dX11_sum_21 : decode cX11_sum 21 = .ok (.invokevirtual 135, 3) := by decide +kernel
theorem dX11_sum_24 : decode cX11_sum 24 = .ok (.bipush 45, 2) := by decide +kernel
theorem dX11_sum_26 : decode cX11_sum 26 = .ok (.if_icmp .ne 64, 3) := by decide +kernel
theorem dX11_sum_29 : decode cX11_sum 29 = .ok (.aload_n 0, 1) := by decide +kernel
theorem dX11_sum_30 : decode cX11_sum 30 = .ok (.getfield 128, 3) := by decide +kernel
theorem dX11_sum_33 : decode cX11_sum 33 = .ok (.istore_n 1, 1) := by decide +kernel
theorem dX11_sum_34 : decode cX11_sum 34 = .ok (.aload_n 0, 1) := by decide +kernel
theorem dX11_sum_35 : decode cX11_sum 35 = .ok (.aload_n 0, 1) := by decide +kernel
theorem dX11_sum_36 : decode cX11_sum 36 = .ok (.getfield 128, 3) := by decide +kernel
theorem dX11_sum_39 : decode cX11_sum 39 = .ok (.invokevirtual 131, 3) := by decide +kernel
theorem dX11_sum_42 : decode cX11_sum 42 = .ok (.bipush 43, 2) := by decide +kernel
theorem dX11_sum_44 : decode cX11_sum 44 = .ok (.if_icmp .ne 7, 3) := by decide +kernel
theorem dX11_sum_47 : decode cX11_sum 47 = .ok (.iconst 0, 1) := by decide +kernel
theorem dX11_sum_48 : decode cX11_sum 48 = .ok (.goto 4, 3) := by decide +kernel
theorem dX11_sum_51 : decode cX11_sum 51 = .ok (.iconst 1, 1) := by decide +kernel
theorem dX11_sum_52 : decode cX11_sum 52 = .ok (.istore_n 2, 1) := by decide +kernel
theorem dX11_sum_53 : decode cX11_sum 53 = .ok (.aload_n 0, 1) := by decide +kernel
theorem dX11_sum_54 : decode cX11_sum 54 = .ok (.getfield 177, 3) := by decide +kernel
theorem dX11_sum_57 : decode cX11_sum 57 = .ok (.istore_n 3, 1) := by decide +kernel
theorem dX11_sum_58 : decode cX11_sum 58 = .ok (.aload_n 0, 1) := by decide +kernel
theorem dX11_sum_59 : decode cX11_sum 59 = .ok (.getfield 180, 3) := by decide +kernel
theorem dX11_sum_62 : decode cX11_sum 62 = .ok (.istore 4, 2) := by decide +kernel
theorem dX11_sum_64 : decode cX11_sum 64 = .ok (.aload_n 0, 1) := by decide +kernel
theorem dX11_sum_65 : decode cX11_sum 65 = .ok (.dup, 1) := by decide +kernel
theorem dX11_sum_66 : decode cX11_sum 66 = .ok (.getfield 128, 3) := by decide +kernel
theorem dX11_sum_69 : decode cX11_sum 69 = .ok (.iconst 1, 1) := by decide +kernel
theorem dX11_sum_70 : decode cX11_sum 70 = .ok (.iadd, 1) := by decide +kernel
theorem dX11_sum_71 : decode cX11_sum 71 = .ok (.putfield 128, 3) := by decide +kernel
theorem dX11_sum_74 : decode cX11_sum 74 = .ok (.aload_n 0, 1) := by decide +kernel
theorem dX11_sum_75 : decode cX11_sum 75 = .ok (.invokevirtual 224, 3) := by decide +kernel
theorem dX11_sum_78 : decode cX11_sum 78 = .ok (.aload_n 0, 1) := by decide +kernel
theorem dX11_sum_79 : decode cX11_sum 79 = .ok (.iload_n 2, 1) := by decide +kernel
theorem dX11_sum_80 : decode cX11_sum 80 = .ok (.iload_n 1, 1) := by decide +kernel
theorem dX11_sum_81 : decode cX11_sum 81 = .ok (.iload_n 3, 1) := by decide +kernel
theorem dX11_sum_82 : decode cX11_sum 82 = .ok (.iload 4, 2) := by decide +kernel
theorem dX11_sum_84 : decode cX11_sum 84 = .ok (.invokevirtual 220, 3) := by decide +kernel
theorem dX11_sum_87 : decode cX11_sum 87 = .ok (.goto (-83), 3) := by decide +kernel
theorem dX11_sum_90 : decode cX11_sum 90 = .ok (.return_, 1) := by decide +kernel
theorem dX11_expression_0 : decode cX11_expression 0 = .ok (.aload_n 0, 1) := by decide +kernel
theorem dX11_expression_1 : decode cX11_expression 1 = .ok (.invokevirtual 227, 3) := by decide +kernel
theorem dX11_expression_4 : decode cX11_expression 4 = .ok (.aload_n 0, 1) := by decide +kernel
theorem dX11_expression_5 : decode cX11_expression 5 = .ok (.getfield 125, 3) := by decide +kernel
theorem dX11_expression_8 : decode cX11_expression 8 = .ok (.ifCond .ne 79, 3) := by decide +kernel
theorem dX11_expression_11 : decode cX11_expression 11 = .ok (.aload_n 0, 1) := by decide +kernel
theorem dX11_expression_12 : decode cX11_expression 12 = .ok (.invokevirtual 135, 3) := by decide +kernel
theorem dX11_expression_15 : decode cX11_expression 15 = .ok (.bipush 60, 2) := by decide +kernel
theorem dX11_expression_17 : decode cX11_expression 17 = .ok (.if_icmp .eq 12, 3) := by decide +kernel
theorem dX11_expression_20 : decode cX11_expression 20 = .ok (.aload_n 0, 1) := by decide +kernel
theorem dX11_expression_21 : decode cX11_expression 21 = .ok (.invokevirtual 135, 3) := by decide +kernel
theorem dX11_expression_24 : decode cX11_expression 24 = .ok (.bipush 61, 2) := by decide +kernel
theorem dX11_expression_26 : decode cX11_expression 26 = .ok (.if_icmp .ne 61, 3) := by decide +kernel
theorem dX11_expression_29 : decode cX11_expression 29 = .ok (.aload_n 0, 1) := by decide +kernel
theorem dX11_expression_30 : decode cX11_expression 30 = .ok (.getfield 128, 3) := by decide +kernel
theorem dX11_expression_33 : decode cX11_expression 33 = .ok (.istore_n 1, 1) := by decide +kernel
theorem dX11_expression_34 : decode cX11_expression 34 = .ok (.aload_n 0, 1) := by decide +kernel
theorem dX11_expression_35 : decode cX11_expression 35 = .ok (.aload_n 0, 1) := by decide +kernel
theorem dX11_expression_36 : decode cX11_expression 36 = .ok (.getfield 128, 3) := by decide +kernel
theorem dX11_expression_39 : decode cX11_expression 39 = .ok (.invokevirtual 131, 3) := by decide +kernel
theorem dX11_expression_42 : decode cX11_expression 42 = .ok (.bipush 60, 2) := by decide +kernel
theorem dX11_expression_44 : decode cX11_expression 44 = .ok (.if_icmp .ne 7, 3) := by decide +kernel
theorem dX11_expression_47 : decode cX11_expression 47 = .ok (.iconst 3, 1) := by decide +kernel
theorem dX11_expression_48 : decode cX11_expression 48 = .ok (.goto 4, 3) := by decide +kernel
theorem dX11_expression_51 : decode cX11_expression 51 = .ok (.iconst 4, 1) := by decide +kernel
theorem dX11_expression_52 : decode cX11_expression 52 = .ok (.istore_n 2, 1) := by decide +kernel
theorem dX11_expression_53 : decode cX11_expression 53 = .ok (.aload_n 0, 1) := by decide +kernel
theorem dX11_expression_54 : decode cX11_expression 54 = .ok (.getfield 177, 3) := by decide +kernel
theorem dX11_expression_57 : decode cX11_expression 57 = .ok (.istore_n 3, 1) := by decide +kernel
theorem dX11_expression_58 : decode cX11_expression 58 = .ok (.aload_n 0, 1) := by decide +kernel
theorem dX11_expression_59 : decode cX11_expression 59 = .ok (.getfield 180, 3) := by decide +kernel
theorem dX11_expression_62 : decode cX11_expression 62 = .ok (.istore 4, 2) := by decide +kernel
theorem dX11_expression_64 : decode cX11_expression 64 = .ok (.aload_n 0, 1) := by decide +kernel
theorem dX11_expression_65 : decode cX11_expression 65 = .ok (.dup, 1) := by decide +kernel
theorem dX11_expression_66 : decode cX11_expression 66 = .ok (.getfield 128, 3) := by decide +kernel
theorem dX11_expression_69 : decode cX11_expression 69 = .ok (.iconst 1, 1) := by decide +kernel
theorem dX11_expression_70 : decode cX11_expression 70 = .ok (.iadd, 1) := by decide +kernel
theorem dX11_expression_71 : decode cX11_expression 71 = .ok (.putfield 128, 3) := by decide +kernel
theorem dX11_expression_74 : decode cX11_expression 74 = .ok (.aload_n 0, 1) := by decide +kernel
theorem dX11_expression_75 : decode cX11_expression 75 = .ok (.invokevirtual 227, 3) := by decide +kernel
theorem dX11_expression_78 : decode cX11_expression 78 = .ok (.aload_n 0, 1) := by decide +kernel
theorem dX11_expression_79 : decode cX11_expression 79 = .ok (.iload_n 2, 1) := by decide +kernel
theorem dX11_expression_80 : decode cX11_expression 80 = .ok (.iload_n 1, 1) := by decide +kernel
theorem dX11_expression_81 : decode cX11_expression 81 = .ok (.iload_n 3, 1) := by decide +kernel
theorem dX11_expression_82 : decode cX11_expression 82 = .ok (.iload 4, 2) := by decide +kernel
theorem dX11_expression_84 : decode cX11_expression 84 = .ok (.invokevirtual 220, 3) := by decide +kernel
theorem dX11_expression_87 : decode cX11_expression 87 = .ok (.return_, 1) := by decide +kernel
theorem dX11_assignment_0 : decode cX11_assignment 0 = .ok (.aload_n 0, 1) := by decide +kernel
theorem dX11_assignment_1 : decode cX11_assignment 1 = .ok (.getfield 128, 3) := by decide +kernel
theorem dX11_assignment_4 : decode cX11_assignment 4 = .ok (.istore_n 1, 1) := by decide +kernel
theorem dX11_assignment_5 : decode cX11_assignment 5 = .ok (.aload_n 0, 1) := by decide +kernel
theorem dX11_assignment_6 : decode cX11_assignment 6 = .ok (.invokevirtual 135, 3) := by decide +kernel
theorem dX11_assignment_9 : decode cX11_assignment 9 = .ok (.bipush 97, 2) := by decide +kernel
theorem dX11_assignment_11 : decode cX11_assignment 11 = .ok (.isub, 1) := by decide +kernel
theorem dX11_assignment_12 : decode cX11_assignment 12 = .ok (.istore_n 2, 1) := by decide +kernel
theorem dX11_assignment_13 : decode cX11_assignment 13 = .ok (.aload_n 0, 1) := by decide +kernel
theorem dX11_assignment_14 : decode cX11_assignment 14 = .ok (.dup, 1) := by decide +kernel
theorem dX11_assignment_15 : decode cX11_assignment 15 = .ok (.getfield 128, 3) := by decide +kernel
theorem dX11_assignment_18 : decode cX11_assignment 18 = .ok (.iconst 1, 1) := by decide +kernel
theorem dX11_assignment_19 : decode cX11_assignment 19 = .ok (.iadd, 1) := by decide +kernel
theorem dX11_assignment_20 : decode cX11_assignment 20 = .ok (.putfield 128, 3) := by decide +kernel
theorem dX11_assignment_23 : decode cX11_assignment 23 = .ok (.aload_n 0, 1) := by decide +kernel
theorem dX11_assignment_24 : decode cX11_assignment 24 = .ok (.bipush 61, 2) := by decide +kernel
theorem dX11_assignment_26 : decode cX11_assignment 26 = .ok (.invokevirtual 206, 3) := by decide +kernel
theorem dX11_assignment_29 : decode cX11_assignment 29 = .ok (.aload_n 0, 1) := by decide +kernel
theorem dX11_assignment_30 : decode cX11_assignment 30 = .ok (.getfield 171, 3) := by decide +kernel
theorem dX11_assignment_33 : decode cX11_assignment 33 = .ok (.istore_n 3, 1) := by decide +kernel
theorem dX11_assignment_34 : decode cX11_assignment 34 = .ok (.aload_n 0, 1) := by decide +kernel
theorem dX11_assignment_35 : decode cX11_assignment 35 = .ok (.invokevirtual 203, 3) := by decide +kernel
theorem dX11_assignment_38 : decode cX11_assignment 38 = .ok (.aload_n 0, 1) := by decide +kernel
theorem dX11_assignment_39 : decode cX11_assignment 39 = .ok (.bipush 59, 2) := by decide +kernel
theorem dX11_assignment_41 : decode cX11_assignment 41 = .ok (.invokevirtual 206, 3) := by decide +kernel
theorem dX11_assignment_44 : decode cX11_assignment 44 = .ok (.aload_n 0, 1) := by decide +kernel
theorem dX11_assignment_45 : decode cX11_assignment 45 = .ok (.getfield 125, 3) := by decide +kernel
theorem dX11_assignment_48 : decode cX11_assignment 48 = .ok (.ifCond .le 4, 3) := by decide +kernel
theorem dX11_assignment_51 : decode cX11_assignment 51 = .ok (.return_, 1) := by decide +kernel
theorem dX11_assignment_52 : decode cX11_assignment 52 = .ok (.aload_n 0, 1) := by decide +kernel
theorem dX11_assignment_53 : decode cX11_assignment 53 = .ok (.getfield 171, 3) := by decide +kernel
theorem dX11_assignment_56 : decode cX11_assignment 56 = .ok (.iload_n 3, 1) := by decide +kernel
theorem dX11_assignment_57 : decode cX11_assignment 57 = .ok (.if_icmp .ne 33, 3) := by decide +kernel
theorem dX11_assignment_60 : decode cX11_assignment 60 = .ok (.aload_n 0, 1) := by decide +kernel
theorem dX11_assignment_61 : decode cX11_assignment 61 = .ok (.getfield 177, 3) := by decide +kernel
theorem dX11_assignment_64 : decode cX11_assignment 64 = .ok (.istore 4, 2) := by decide +kernel
theorem dX11_assignment_66 : decode cX11_assignment 66 = .ok (.aload_n 0, 1) := by decide +kernel
theorem dX11_assignment_67 : decode cX11_assignment 67 = .ok (.getfield 180, 3) := by decide +kernel
theorem dX11_assignment_70 : decode cX11_assignment 70 = .ok (.istore 5, 2) := by decide +kernel
theorem dX11_assignment_72 : decode cX11_assignment 72 = .ok (.aload_n 0, 1) := by decide +kernel
theorem dX11_assignment_73 : decode cX11_assignment 73 = .ok (.iconst 0, 1) := by decide +kernel
theorem dX11_assignment_74 : decode cX11_assignment 74 = .ok (.putfield 177, 3) := by decide +kernel
theorem dX11_assignment_77 : decode cX11_assignment 77 = .ok (.aload_n 0, 1) := by decide +kernel
theorem dX11_assignment_78 : decode cX11_assignment 78 = .ok (.bipush 7, 2) := by decide +kernel
theorem dX11_assignment_80 : decode cX11_assignment 80 = .ok (.iload_n 1, 1) := by decide +kernel
theorem dX11_assignment_81 : decode cX11_assignment 81 = .ok (.iload 4, 2) := by decide +kernel
theorem dX11_assignment_83 : decode cX11_assignment 83 = .ok (.iload 5, 2) := by decide +kernel
theorem dX11_assignment_85 : decode cX11_assignment 85 = .ok (.invokevirtual 213, 3) := by decide +kernel
theorem dX11_assignment_88 : decode cX11_assignment 88 = .ok (.istore 6, 2) := by decide +kernel
theorem dX11_assignment_90 : decode cX11_assignment 90 = .ok (.aload_n 0, 1) := by decide +kernel
theorem dX11_assignment_91 : decode cX11_assignment 91 = .ok (.getfield 125, 3) := by decide +kernel
theorem dX11_assignment_94 : decode cX11_assignment 94 = .ok (.ifCond .ne 15, 3) := by decide +kernel
theorem dX11_assignment_97 : decode cX11_assignment 97 = .ok (.aload_n 0, 1) := by decide +kernel
theorem dX11_assignment_98 : decode cX11_assignment 98 = .ok (.getfield 26, 3) := by decide +kernel
theorem dX11_assignment_101 : decode cX11_assignment 101 = .ok (.aload_n 0, 1) := by decide +kernel
theorem dX11_assignment_102 : decode cX11_assignment 102 = .ok (.getfield 171, 3) := by decide +kernel
theorem dX11_assignment_105 : decode cX11_assignment 105 = .ok (.iconst 1, 1) := by decide +kernel
theorem dX11_assignment_106 : decode cX11_assignment 106 = .ok (.isub, 1) := by decide +kernel
theorem dX11_assignment_107 : decode cX11_assignment 107 = .ok (.iload_n 2, 1) := by decide +kernel
theorem dX11_assignment_108 : decode cX11_assignment 108 = .ok (.iastore, 1) := by decide +kernel
theorem dX11_assignment_109 : decode cX11_assignment 109 = .ok (.return_, 1) := by decide +kernel
theorem dX11_writing_0 : decode cX11_writing 0 = .ok (.aload_n 0, 1) := by decide +kernel
theorem dX11_writing_1 : decode cX11_writing 1 = .ok (.getfield 128, 3) := by decide +kernel
theorem dX11_writing_4 : decode cX11_writing 4 = .ok (.istore_n 1, 1) := by decide +kernel
theorem dX11_writing_5 : decode cX11_writing 5 = .ok (.aload_n 0, 1) := by decide +kernel
theorem dX11_writing_6 : decode cX11_writing 6 = .ok (.dup, 1) := by decide +kernel
theorem dX11_writing_7 : decode cX11_writing 7 = .ok (.getfield 128, 3) := by decide +kernel
theorem dX11_writing_10 : decode cX11_writing 10 = .ok (.iconst 1, 1) := by decide +kernel
theorem dX11_writing_11 : decode cX11_writing 11 = .ok (.iadd, 1) := by decide +kernel
theorem dX11_writing_12 : decode cX11_writing 12 = .ok (.putfield 128, 3) := by decide +kernel
theorem dX11_writing_15 : decode cX11_writing 15 = .ok (.aload_n 0, 1) := by decide +kernel
theorem dX11_writing_16 : decode cX11_writing 16 = .ok (.invokevirtual 135, 3) := by decide +kernel
theorem dX11_writing_19 : decode cX11_writing 19 = .ok (.bipush 91, 2) := by decide +kernel
theorem dX11_writing_21 : decode cX11_writing 21 = .ok (.if_icmp .eq 13, 3) := by decide +kernel
theorem dX11_writing_24 : decode cX11_writing 24 = .ok (.aload_n 0, 1) := by decide +kernel
theorem dX11_writing_25 : decode cX11_writing 25 = .ok (.iconst 1, 1) := by decide +kernel
theorem dX11_writing_26 : decode cX11_writing 26 = .ok (.aload_n 0, 1) := by decide +kernel
theorem dX11_writing_27 : decode cX11_writing 27 = .ok (.getfield 128, 3) := by decide +kernel
theorem dX11_writing_30 : decode cX11_writing 30 = .ok (.invokevirtual 139, 3) := by decide +kernel
theorem dX11_writing_33 : decode cX11_writing 33 = .ok (.return_, 1) := by decide +kernel
theorem dX11_writing_34 : decode cX11_writing 34 = .ok (.aload_n 0, 1) := by decide +kernel
theorem dX11_writing_35 : decode cX11_writing 35 = .ok (.invokevirtual 200, 3) := by decide +kernel
theorem dX11_writing_38 : decode cX11_writing 38 = .ok (.aload_n 0, 1) := by decide +kernel
theorem dX11_writing_39 : decode cX11_writing 39 = .ok (.invokevirtual 203, 3) := by decide +kernel
theorem dX11_writing_42 : decode cX11_writing 42 = .ok (.aload_n 0, 1) := by decide +kernel
theorem dX11_writing_43 : decode cX11_writing 43 = .ok (.bipush 93, 2) := by decide +kernel
theorem dX11_writing_45 : decode cX11_writing 45 = .ok (.invokevirtual 206, 3) := by decide +kernel
theorem dX11_writing_48 : decode cX11_writing 48 = .ok (.aload_n 0, 1) := by decide +kernel
theorem dX11_writing_49 : decode cX11_writing 49 = .ok (.dup, 1) := by decide +kernel
theorem dX11_writing_50 : decode cX11_writing 50 = .ok (.getfield 183, 3) := by decide +kernel
theorem dX11_writing_53 : decode cX11_writing 53 = .ok (.iconst 1, 1) := by decide +kernel
theorem dX11_writing_54 : decode cX11_writing 54 = .ok (.isub, 1) := by decide +kernel
theorem dX11_writing_55 : decode cX11_writing 55 = .ok (.putfield 183, 3) := by decide +kernel
theorem dX11_writing_58 : decode cX11_writing 58 = .ok (.aload_n 0, 1) := by decide +kernel
theorem dX11_writing_59 : decode cX11_writing 59 = .ok (.getfield 177, 3) := by decide +kernel
theorem dX11_writing_62 : decode cX11_writing 62 = .ok (.istore_n 2, 1) := by decide +kernel
theorem dX11_writing_63 : decode cX11_writing 63 = .ok (.aload_n 0, 1) := by decide +kernel
theorem dX11_writing_64 : decode cX11_writing 64 = .ok (.getfield 180, 3) := by decide +kernel
theorem dX11_writing_67 : decode cX11_writing 67 = .ok (.istore_n 3, 1) := by decide +kernel
theorem dX11_writing_68 : decode cX11_writing 68 = .ok (.aload_n 0, 1) := by decide +kernel
theorem dX11_writing_69 : decode cX11_writing 69 = .ok (.bipush 61, 2) := by decide +kernel
theorem dX11_writing_71 : decode cX11_writing 71 = .ok (.invokevirtual 206, 3) := by decide +kernel
theorem dX11_writing_74 : decode cX11_writing 74 = .ok (.aload_n 0, 1) := by decide +kernel
theorem dX11_writing_75 : decode cX11_writing 75 = .ok (.getfield 125, 3) := by decide +kernel
theorem dX11_writing_78 : decode cX11_writing 78 = .ok (.ifCond .ne 7, 3) := by decide +kernel
theorem dX11_writing_81 : decode cX11_writing 81 = .ok (.aload_n 0, 1) := by decide +kernel
theorem dX11_writing_82 : decode cX11_writing 82 = .ok (.invokevirtual 203, 3) := by decide +kernel
theorem dX11_writing_85 : decode cX11_writing 85 = .ok (.aload_n 0, 1) := by decide +kernel
theorem dX11_writing_86 : decode cX11_writing 86 = .ok (.bipush 59, 2) := by decide +kernel
theorem dX11_writing_88 : decode cX11_writing 88 = .ok (.invokevirtual 206, 3) := by decide +kernel
theorem dX11_writing_91 : decode cX11_writing 91 = .ok (.aload_n 0, 1) := by decide +kernel
theorem dX11_writing_92 : decode cX11_writing 92 = .ok (.getfield 125, 3) := by decide +kernel
theorem dX11_writing_95 : decode cX11_writing 95 = .ok (.ifCond .ne 14, 3) := by decide +kernel
theorem dX11_writing_98 : decode cX11_writing 98 = .ok (.aload_n 0, 1) := by decide +kernel
theorem dX11_writing_99 : decode cX11_writing 99 = .ok (.bipush 6, 2) := by decide +kernel
theorem dX11_writing_101 : decode cX11_writing 101 = .ok (.iload_n 1, 1) := by decide +kernel
theorem dX11_writing_102 : decode cX11_writing 102 = .ok (.iload_n 2, 1) := by decide +kernel
theorem dX11_writing_103 : decode cX11_writing 103 = .ok (.iload_n 3, 1) := by decide +kernel
theorem dX11_writing_104 : decode cX11_writing 104 = .ok (.invokevirtual 213, 3) := by decide +kernel
theorem dX11_writing_107 : decode cX11_writing 107 = .ok (.istore 4, 2) := by decide +kernel
theorem dX11_writing_109 : decode cX11_writing 109 = .ok (.return_, 1) := by decide +kernel
theorem dX11_inBraces_0 : decode cX11_inBraces 0 = .ok (.aload_n 0, 1) := by decide +kernel
theorem dX11_inBraces_1 : decode cX11_inBraces 1 = .ok (.getfield 125, 3) := by decide +kernel
theorem dX11_inBraces_4 : decode cX11_inBraces 4 = .ok (.ifCond .ne 30, 3) := by decide +kernel
theorem dX11_inBraces_7 : decode cX11_inBraces 7 = .ok (.aload_n 0, 1) := by decide +kernel
theorem dX11_inBraces_8 : decode cX11_inBraces 8 = .ok (.invokevirtual 135, 3) := by decide +kernel
theorem dX11_inBraces_11 : decode cX11_inBraces 11 = .ok (.bipush 123, 2) := by decide +kernel
theorem dX11_inBraces_13 : decode cX11_inBraces 13 = .ok (.if_icmp .ne 21, 3) := by decide +kernel
theorem dX11_inBraces_16 : decode cX11_inBraces 16 = .ok (.aload_n 0, 1) := by decide +kernel
theorem dX11_inBraces_17 : decode cX11_inBraces 17 = .ok (.getfield 230, 3) := by decide +kernel
theorem dX11_inBraces_20 : decode cX11_inBraces 20 = .ok (.bipush 10, 2) := by decide +kernel
theorem dX11_inBraces_22 : decode cX11_inBraces 22 = .ok (.if_icmp .ne 12, 3) := by decide +kernel
theorem dX11_inBraces_25 : decode cX11_inBraces 25 = .ok (.aload_n 0, 1) := by decide +kernel
theorem dX11_inBraces_26 : decode cX11_inBraces 26 = .ok (.iconst 3, 1) := by decide +kernel
theorem dX11_inBraces_27 : decode cX11_inBraces 27 = .ok (.aload_n 0, 1) := by decide +kernel
theorem dX11_inBraces_28 : decode cX11_inBraces 28 = .ok (.getfield 128, 3) := by decide +kernel
theorem dX11_inBraces_31 : decode cX11_inBraces 31 = .ok (.invokevirtual 139, 3) := by decide +kernel
theorem dX11_inBraces_34 : decode cX11_inBraces 34 = .ok (.aload_n 0, 1) := by decide +kernel
theorem dX11_inBraces_35 : decode cX11_inBraces 35 = .ok (.bipush 123, 2) := by decide +kernel
theorem dX11_inBraces_37 : decode cX11_inBraces 37 = .ok (.invokevirtual 206, 3) := by decide +kernel
theorem dX11_inBraces_40 : decode cX11_inBraces 40 = .ok (.aload_n 0, 1) := by decide +kernel
theorem dX11_inBraces_41 : decode cX11_inBraces 41 = .ok (.dup, 1) := by decide +kernel
theorem dX11_inBraces_42 : decode cX11_inBraces 42 = .ok (.getfield 230, 3) := by decide +kernel
theorem dX11_inBraces_45 : decode cX11_inBraces 45 = .ok (.iconst 1, 1) := by decide +kernel
theorem dX11_inBraces_46 : decode cX11_inBraces 46 = .ok (.iadd, 1) := by decide +kernel
theorem dX11_inBraces_47 : decode cX11_inBraces 47 = .ok (.putfield 230, 3) := by decide +kernel
theorem dX11_inBraces_50 : decode cX11_inBraces 50 = .ok (.aload_n 0, 1) := by decide +kernel
theorem dX11_inBraces_51 : decode cX11_inBraces 51 = .ok (.invokevirtual 233, 3) := by decide +kernel
theorem dX11_inBraces_54 : decode cX11_inBraces 54 = .ok (.aload_n 0, 1) := by decide +kernel
theorem dX11_inBraces_55 : decode cX11_inBraces 55 = .ok (.bipush 125, 2) := by decide +kernel
theorem dX11_inBraces_57 : decode cX11_inBraces 57 = .ok (.invokevirtual 206, 3) := by decide +kernel
theorem dX11_inBraces_60 : decode cX11_inBraces 60 = .ok (.aload_n 0, 1) := by decide +kernel
theorem dX11_inBraces_61 : decode cX11_inBraces 61 = .ok (.dup, 1) := by decide +kernel
theorem dX11_inBraces_62 : decode cX11_inBraces 62 = .ok (.getfield 230, 3) := by decide +kernel
theorem dX11_inBraces_65 : decode cX11_inBraces 65 = .ok (.iconst 1, 1) := by decide +kernel
theorem dX11_inBraces_66 : decode cX11_inBraces 66 = .ok (.isub, 1) := by decide +kernel
theorem dX11_inBraces_67 : decode cX11_inBraces 67 = .ok (.putfield 230, 3) := by decide +kernel
theorem dX11_inBraces_70 : decode cX11_inBraces 70 = .ok (.return_, 1) := by decide +kernel
theorem dX11_endBlock_0 : decode cX11_endBlock 0 = .ok (.aload_n 0, 1) := by decide +kernel
theorem dX11_endBlock_1 : decode cX11_endBlock 1 = .ok (.invokevirtual 174, 3) := by decide +kernel
theorem dX11_endBlock_4 : decode cX11_endBlock 4 = .ok (.aload_n 0, 1) := by decide +kernel
theorem dX11_endBlock_5 : decode cX11_endBlock 5 = .ok (.getfield 159, 3) := by decide +kernel
theorem dX11_endBlock_8 : decode cX11_endBlock 8 = .ok (.istore_n 1, 1) := by decide +kernel
theorem dX11_endBlock_9 : decode cX11_endBlock 9 = .ok (.aload_n 0, 1) := by decide +kernel
theorem dX11_endBlock_10 : decode cX11_endBlock 10 = .ok (.getfield 44, 3) := by decide +kernel
theorem dX11_endBlock_13 : decode cX11_endBlock 13 = .ok (.iload_n 1, 1) := by decide +kernel
theorem dX11_endBlock_14 : decode cX11_endBlock 14 = .ok (.iconst 1, 1) := by decide +kernel
theorem dX11_endBlock_15 : decode cX11_endBlock 15 = .ok (.bastore, 1) := by decide +kernel
theorem dX11_endBlock_16 : decode cX11_endBlock 16 = .ok (.aload_n 0, 1) := by decide +kernel
theorem dX11_endBlock_17 : decode cX11_endBlock 17 = .ok (.getfield 32, 3) := by decide +kernel
theorem dX11_endBlock_20 : decode cX11_endBlock 20 = .ok (.iload_n 1, 1) := by decide +kernel
theorem dX11_endBlock_21 : decode cX11_endBlock 21 = .ok (.aload_n 0, 1) := by decide +kernel
theorem dX11_endBlock_22 : decode cX11_endBlock 22 = .ok (.getfield 177, 3) := by decide +kernel
theorem dX11_endBlock_25 : decode cX11_endBlock 25 = .ok (.iastore, 1) := by decide +kernel
theorem dX11_endBlock_26 : decode cX11_endBlock 26 = .ok (.aload_n 0, 1) := by decide +kernel
theorem dX11_endBlock_27 : decode cX11_endBlock 27 = .ok (.getfield 35, 3) := by decide +kernel
theorem dX11_endBlock_30 : decode cX11_endBlock 30 = .ok (.iload_n 1, 1) := by decide +kernel
theorem dX11_endBlock_31 : decode cX11_endBlock 31 = .ok (.aload_n 0, 1) := by decide +kernel
theorem dX11_endBlock_32 : decode cX11_endBlock 32 = .ok (.getfield 180, 3) := by decide +kernel
theorem dX11_endBlock_35 : decode cX11_endBlock 35 = .ok (.iastore, 1) := by decide +kernel
theorem dX11_endBlock_36 : decode cX11_endBlock 36 = .ok (.aload_n 0, 1) := by decide +kernel
theorem dX11_endBlock_37 : decode cX11_endBlock 37 = .ok (.iconst (-1), 1) := by decide +kernel
theorem dX11_endBlock_38 : decode cX11_endBlock 38 = .ok (.putfield 159, 3) := by decide +kernel
theorem dX11_endBlock_41 : decode cX11_endBlock 41 = .ok (.iload_n 1, 1) := by decide +kernel
theorem dX11_endBlock_42 : decode cX11_endBlock 42 = .ok (.ireturn, 1) := by decide +kernel
theorem dX11_leaveOpen_0 : decode cX11_leaveOpen 0 = .ok (.aload_n 0, 1) := by decide +kernel
theorem dX11_leaveOpen_1 : decode cX11_leaveOpen 1 = .ok (.getfield 159, 3) := by decide +kernel
theorem dX11_leaveOpen_4 : decode cX11_leaveOpen 4 = .ok (.iconst (-1), 1) := by decide +kernel
theorem dX11_leaveOpen_5 : decode cX11_leaveOpen 5 = .ok (.if_icmp .eq 17, 3) := by decide +kernel
theorem dX11_leaveOpen_8 : decode cX11_leaveOpen 8 = .ok (.aload_n 0, 1) := by decide +kernel
theorem dX11_leaveOpen_9 : decode cX11_leaveOpen 9 = .ok (.aload_n 0, 1) := by decide +kernel
theorem dX11_leaveOpen_10 : decode cX11_leaveOpen 10 = .ok (.getfield 159, 3) := by decide +kernel
theorem dX11_leaveOpen_13 : decode cX11_leaveOpen 13 = .ok (.iconst 0, 1) := by decide +kernel
theorem dX11_leaveOpen_14 : decode cX11_leaveOpen 14 = .ok (.invokevirtual 236, 3) := by decide +kernel
theorem dX11_leaveOpen_17 : decode cX11_leaveOpen 17 = .ok (.aload_n 0, 1) := by decide +kernel
theorem dX11_leaveOpen_18 : decode cX11_leaveOpen 18 = .ok (.iconst (-1), 1) := by decide +kernel
theorem dX11_leaveOpen_19 : decode cX11_leaveOpen 19 = .ok (.putfield 159, 3) := by decide +kernel
theorem dX11_leaveOpen_22 : decode cX11_leaveOpen 22 = .ok (.return_, 1) := by decide +kernel
theorem dX11_choice_0 : decode cX11_choice 0 = .ok (.aload_n 0, 1) := by decide +kernel
theorem dX11_choice_1 : decode cX11_choice 1 = .ok (.dup, 1) := by decide +kernel
theorem dX11_choice_2 : decode cX11_choice 2 = .ok (.getfield 128, 3) := by decide +kernel
theorem dX11_choice_5 : decode cX11_choice 5 = .ok (.iconst 2, 1) := by decide +kernel
theorem dX11_choice_6 : decode cX11_choice 6 = .ok (.iadd, 1) := by decide +kernel
theorem dX11_choice_7 : decode cX11_choice 7 = .ok (.putfield 128, 3) := by decide +kernel
theorem dX11_choice_10 : decode cX11_choice 10 = .ok (.aload_n 0, 1) := by decide +kernel
theorem dX11_choice_11 : decode cX11_choice 11 = .ok (.invokevirtual 203, 3) := by decide +kernel
theorem dX11_choice_14 : decode cX11_choice 14 = .ok (.aload_n 0, 1) := by decide +kernel
theorem dX11_choice_15 : decode cX11_choice 15 = .ok (.getfield 125, 3) := by decide +kernel
theorem dX11_choice_18 : decode cX11_choice 18 = .ok (.ifCond .le 4, 3) := by decide +kernel
theorem dX11_choice_21 : decode cX11_choice 21 = .ok (.return_, 1) := by decide +kernel
theorem dX11_choice_22 : decode cX11_choice 22 = .ok (.aload_n 0, 1) := by decide +kernel
theorem dX11_choice_23 : decode cX11_choice 23 = .ok (.invokevirtual 240, 3) := by decide +kernel
theorem dX11_choice_26 : decode cX11_choice 26 = .ok (.istore_n 1, 1) := by decide +kernel
theorem dX11_choice_27 : decode cX11_choice 27 = .ok (.aload_n 0, 1) := by decide +kernel
theorem dX11_choice_28 : decode cX11_choice 28 = .ok (.getfield 165, 3) := by decide +kernel
theorem dX11_choice_31 : decode cX11_choice 31 = .ok (.istore_n 2, 1) := by decide +kernel
theorem dX11_choice_32 : decode cX11_choice 32 = .ok (.aload_n 0, 1) := by decide +kernel
theorem dX11_choice_33 : decode cX11_choice 33 = .ok (.iload_n 1, 1) := by decide +kernel
theorem dX11_choice_34 : decode cX11_choice 34 = .ok (.iconst 0, 1) := by decide +kernel
theorem dX11_choice_35 : decode cX11_choice 35 = .ok (.invokevirtual 236, 3) := by decide +kernel
theorem dX11_choice_38 : decode cX11_choice 38 = .ok (.aload_n 0, 1) := by decide +kernel
theorem dX11_choice_39 : decode cX11_choice 39 = .ok (.invokevirtual 243, 3) := by decide +kernel
theorem dX11_choice_42 : decode cX11_choice 42 = .ok (.aload_n 0, 1) := by decide +kernel
theorem dX11_choice_43 : decode cX11_choice 43 = .ok (.invokevirtual 246, 3) := by decide +kernel
theorem dX11_choice_46 : decode cX11_choice 46 = .ok (.aload_n 0, 1) := by decide +kernel
theorem dX11_choice_47 : decode cX11_choice 47 = .ok (.getfield 125, 3) := by decide +kernel
theorem dX11_choice_50 : decode cX11_choice 50 = .ok (.ifCond .ne 51, 3) := by decide +kernel
theorem dX11_choice_53 : decode cX11_choice 53 = .ok (.aload_n 0, 1) := by decide +kernel
theorem dX11_choice_54 : decode cX11_choice 54 = .ok (.invokevirtual 210, 3) := by decide +kernel
theorem dX11_choice_57 : decode cX11_choice 57 = .ok (.iconst 2, 1) := by decide +kernel
theorem dX11_choice_58 : decode cX11_choice 58 = .ok (.if_icmp .ne 43, 3) := by decide +kernel
theorem dX11_choice_61 : decode cX11_choice 61 = .ok (.aload_n 0, 1) := by decide +kernel
theorem dX11_choice_62 : decode cX11_choice 62 = .ok (.dup, 1) := by decide +kernel
theorem dX11_choice_63 : decode cX11_choice 63 = .ok (.getfield 128, 3) := by decide +kernel
theorem dX11_choice_66 : decode cX11_choice 66 = .ok (.iconst 4, 1) := by decide +kernel
theorem dX11_choice_67 : decode cX11_choice 67 = .ok (.iadd, 1) := by decide +kernel
theorem dX11_choice_68 : decode cX11_choice 68 = .ok (.putfield 128, 3) := by decide +kernel
theorem dX11_choice_71 : decode cX11_choice 71 = .ok (.aload_n 0, 1) := by decide +kernel
theorem dX11_choice_72 : decode cX11_choice 72 = .ok (.aload_n 0, 1) := by decide +kernel
theorem dX11_choice_73 : decode cX11_choice 73 = .ok (.getfield 156, 3) := by decide +kernel
theorem dX11_choice_76 : decode cX11_choice 76 = .ok (.putfield 165, 3) := by decide +kernel
theorem dX11_choice_79 : decode cX11_choice 79 = .ok (.aload_n 0, 1) := by decide +kernel
theorem dX11_choice_80 : decode cX11_choice 80 = .ok (.iload_n 1, 1) := by decide +kernel
theorem dX11_choice_81 : decode cX11_choice 81 = .ok (.iconst 1, 1) := by decide +kernel
theorem dX11_choice_82 : decode cX11_choice 82 = .ok (.invokevirtual 236, 3) := by decide +kernel
theorem dX11_choice_85 : decode cX11_choice 85 = .ok (.aload_n 0, 1) := by decide +kernel
theorem dX11_choice_86 : decode cX11_choice 86 = .ok (.invokevirtual 243, 3) := by decide +kernel
theorem dX11_choice_89 : decode cX11_choice 89 = .ok (.aload_n 0, 1) := by decide +kernel
theorem dX11_choice_90 : decode cX11_choice 90 = .ok (.invokevirtual 246, 3) := by decide +kernel
theorem dX11_choice_93 : decode cX11_choice 93 = .ok (.aload_n 0, 1) := by decide +kernel
theorem dX11_choice_94 : decode cX11_choice 94 = .ok (.iload_n 2, 1) := by decide +kernel
theorem dX11_choice_95 : decode cX11_choice 95 = .ok (.putfield 165, 3) := by decide +kernel
theorem dX11_choice_98 : decode cX11_choice 98 = .ok (.goto 9, 3) := by decide +kernel
theorem dX11_choice_101 : decode cX11_choice 101 = .ok (.aload_n 0, 1) := by decide +kernel
theorem dX11_choice_102 : decode cX11_choice 102 = .ok (.iload_n 1, 1) := by decide +kernel
theorem dX11_choice_103 : decode cX11_choice 103 = .ok (.iconst 1, 1) := by decide +kernel
theorem dX11_choice_104 : decode cX11_choice 104 = .ok (.invokevirtual 236, 3) := by decide +kernel
theorem dX11_choice_107 : decode cX11_choice 107 = .ok (.return_, 1) := by decide +kernel
theorem dX11_loop_0 : decode cX11_loop 0 = .ok (.aload_n 0, 1) := by decide +kernel
theorem dX11_loop_1 : decode cX11_loop 1 = .ok (.dup, 1) := by decide +kernel
theorem dX11_loop_2 : decode cX11_loop 2 = .ok (.getfield 128, 3) := by decide +kernel
theorem dX11_loop_5 : decode cX11_loop 5 = .ok (.iconst 5, 1) := by decide +kernel
theorem dX11_loop_6 : decode cX11_loop 6 = .ok (.iadd, 1) := by decide +kernel
theorem dX11_loop_7 : decode cX11_loop 7 = .ok (.putfield 128, 3) := by decide +kernel
theorem dX11_loop_10 : decode cX11_loop 10 = .ok (.aload_n 0, 1) := by decide +kernel
theorem dX11_loop_11 : decode cX11_loop 11 = .ok (.invokevirtual 246, 3) := by decide +kernel
theorem dX11_loop_14 : decode cX11_loop 14 = .ok (.aload_n 0, 1) := by decide +kernel
theorem dX11_loop_15 : decode cX11_loop 15 = .ok (.invokevirtual 174, 3) := by decide +kernel
theorem dX11_loop_18 : decode cX11_loop 18 = .ok (.aload_n 0, 1) := by decide +kernel
theorem dX11_loop_19 : decode cX11_loop 19 = .ok (.invokevirtual 203, 3) := by decide +kernel
theorem dX11_loop_22 : decode cX11_loop 22 = .ok (.aload_n 0, 1) := by decide +kernel
theorem dX11_loop_23 : decode cX11_loop 23 = .ok (.getfield 125, 3) := by decide +kernel
theorem dX11_loop_26 : decode cX11_loop 26 = .ok (.ifCond .le 4, 3) := by decide +kernel
theorem dX11_loop_29 : decode cX11_loop 29 = .ok (.return_, 1) := by decide +kernel
theorem dX11_loop_30 : decode cX11_loop 30 = .ok (.aload_n 0, 1) := by decide +kernel
theorem dX11_loop_31 : decode cX11_loop 31 = .ok (.invokevirtual 240, 3) := by decide +kernel
theorem dX11_loop_34 : decode cX11_loop 34 = .ok (.istore_n 1, 1) := by decide +kernel
theorem dX11_loop_35 : decode cX11_loop 35 = .ok (.aload_n 0, 1) := by decide +kernel
theorem dX11_loop_36 : decode cX11_loop 36 = .ok (.iload_n 1, 1) := by decide +kernel
theorem dX11_loop_37 : decode cX11_loop 37 = .ok (.iconst 0, 1) := by decide +kernel
theorem dX11_loop_38 : decode cX11_loop 38 = .ok (.invokevirtual 236, 3) := by decide +kernel
theorem dX11_loop_41 : decode cX11_loop 41 = .ok (.aload_n 0, 1) := by decide +kernel
theorem dX11_loop_42 : decode cX11_loop 42 = .ok (.invokevirtual 243, 3) := by decide +kernel
theorem dX11_loop_45 : decode cX11_loop 45 = .ok (.aload_n 0, 1) := by decide +kernel
theorem dX11_loop_46 : decode cX11_loop 46 = .ok (.invokevirtual 246, 3) := by decide +kernel
theorem dX11_loop_49 : decode cX11_loop 49 = .ok (.aload_n 0, 1) := by decide +kernel
theorem dX11_loop_50 : decode cX11_loop 50 = .ok (.aload_n 0, 1) := by decide +kernel
theorem dX11_loop_51 : decode cX11_loop 51 = .ok (.getfield 165, 3) := by decide +kernel
theorem dX11_loop_54 : decode cX11_loop 54 = .ok (.iload_n 1, 1) := by decide +kernel
theorem dX11_loop_55 : decode cX11_loop 55 = .ok (.invokevirtual 168, 3) := by decide +kernel
theorem dX11_loop_58 : decode cX11_loop 58 = .ok (.aload_n 0, 1) := by decide +kernel
theorem dX11_loop_59 : decode cX11_loop 59 = .ok (.iload_n 1, 1) := by decide +kernel
theorem dX11_loop_60 : decode cX11_loop 60 = .ok (.iconst 1, 1) := by decide +kernel
theorem dX11_loop_61 : decode cX11_loop 61 = .ok (.invokevirtual 236, 3) := by decide +kernel
theorem dX11_loop_64 : decode cX11_loop 64 = .ok (.return_, 1) := by decide +kernel
theorem dX11_statements_0 : decode cX11_statements 0 = .ok (.aload_n 0, 1) := by decide +kernel
theorem dX11_statements_1 : decode cX11_statements 1 = .ok (.getfield 125, 3) := by decide +kernel
theorem dX11_statements_4 : decode cX11_statements 4 = .ok (.ifCond .ne 78, 3) := by decide +kernel
theorem dX11_statements_7 : decode cX11_statements 7 = .ok (.aload_n 0, 1) := by decide +kernel
theorem dX11_statements_8 : decode cX11_statements 8 = .ok (.invokevirtual 135, 3) := by decide +kernel
theorem dX11_statements_11 : decode cX11_statements 11 = .ok (.invokestatic 143, 3) := by decide +kernel
theorem dX11_statements_14 : decode cX11_statements 14 = .ok (.ifCond .eq 68, 3) := by decide +kernel
theorem dX11_statements_17 : decode cX11_statements 17 = .ok (.aload_n 0, 1) := by decide +kernel
theorem dX11_statements_18 : decode cX11_statements 18 = .ok (.invokevirtual 210, 3) := by decide +kernel
theorem dX11_statements_21 : decode cX11_statements 21 = .ok (.istore_n 1, 1) := by decide +kernel
theorem dX11_statements_22 : decode cX11_statements 22 = .ok (.iload_n 1, 1) := by decide +kernel
theorem dX11_statements_23 : decode cX11_statements 23 = .ok (.iconst 4, 1) := by decide +kernel
theorem dX11_statements_24 : decode cX11_statements 24 = .ok (.if_icmp .ne 10, 3) := by decide +kernel
theorem dX11_statements_27 : decode cX11_statements 27 = .ok (.aload_n 0, 1) := by decide +kernel
theorem dX11_statements_28 : decode cX11_statements 28 = .ok (.invokevirtual 249, 3) := by decide +kernel
theorem dX11_statements_31 : decode cX11_statements 31 = .ok (.goto 48, 3) := by decide +kernel
theorem dX11_statements_34 : decode cX11_statements 34 = .ok (.iload_n 1, 1) := by decide +kernel
theorem dX11_statements_35 : decode cX11_statements 35 = .ok (.iconst 5, 1) := by decide +kernel
theorem dX11_statements_36 : decode cX11_statements 36 = .ok (.if_icmp .ne 10, 3) := by decide +kernel
theorem dX11_statements_39 : decode cX11_statements 39 = .ok (.aload_n 0, 1) := by decide +kernel
theorem dX11_statements_40 : decode cX11_statements 40 = .ok (.invokevirtual 252, 3) := by decide +kernel
theorem dX11_statements_43 : decode cX11_statements 43 = .ok (.goto 36, 3) := by decide +kernel
theorem dX11_statements_46 : decode cX11_statements 46 = .ok (.iload_n 1, 1) := by decide +kernel
theorem dX11_statements_47 : decode cX11_statements 47 = .ok (.iconst 1, 1) := by decide +kernel
theorem dX11_statements_48 : decode cX11_statements 48 = .ok (.if_icmp .ne 10, 3) := by decide +kernel
theorem dX11_statements_51 : decode cX11_statements 51 = .ok (.aload_n 0, 1) := by decide +kernel
theorem dX11_statements_52 : decode cX11_statements 52 = .ok (.invokevirtual 255, 3) := by decide +kernel
theorem dX11_statements_55 : decode cX11_statements 55 = .ok (.goto 24, 3) := by decide +kernel
theorem dX11_statements_58 : decode cX11_statements 58 = .ok (.iload_n 1, 1) := by decide +kernel
theorem dX11_statements_59 : decode cX11_statements 59 = .ok (.iconst 3, 1) := by decide +kernel
theorem dX11_statements_60 : decode cX11_statements 60 = .ok (.if_icmp .ne 10, 3) := by decide +kernel
theorem dX11_statements_63 : decode cX11_statements 63 = .ok (.aload_n 0, 1) := by decide +kernel
theorem dX11_statements_64 : decode cX11_statements 64 = .ok (.invokevirtual 258, 3) := by decide +kernel
theorem dX11_statements_67 : decode cX11_statements 67 = .ok (.goto 12, 3) := by decide +kernel
theorem dX11_statements_70 : decode cX11_statements 70 = .ok (.aload_n 0, 1) := by decide +kernel
theorem dX11_statements_71 : decode cX11_statements 71 = .ok (.iconst 1, 1) := by decide +kernel
theorem dX11_statements_72 : decode cX11_statements 72 = .ok (.aload_n 0, 1) := by decide +kernel
theorem dX11_statements_73 : decode cX11_statements 73 = .ok (.getfield 128, 3) := by decide +kernel
theorem dX11_statements_76 : decode cX11_statements 76 = .ok (.invokevirtual 139, 3) := by decide +kernel
theorem dX11_statements_79 : decode cX11_statements 79 = .ok (.goto (-79), 3) := by decide +kernel
theorem dX11_statements_82 : decode cX11_statements 82 = .ok (.return_, 1) := by decide +kernel
theorem dX11_compile_0 : decode cX11_compile 0 = .ok (.aload_n 0, 1) := by decide +kernel
theorem dX11_compile_1 : decode cX11_compile 1 = .ok (.iconst 0, 1) := by decide +kernel
theorem dX11_compile_2 : decode cX11_compile 2 = .ok (.putfield 117, 3) := by decide +kernel
theorem dX11_compile_5 : decode cX11_compile 5 = .ok (.aload_n 0, 1) := by decide +kernel
theorem dX11_compile_6 : decode cX11_compile 6 = .ok (.iconst 0, 1) := by decide +kernel
theorem dX11_compile_7 : decode cX11_compile 7 = .ok (.putfield 125, 3) := by decide +kernel
theorem dX11_compile_10 : decode cX11_compile 10 = .ok (.aload_n 0, 1) := by decide +kernel
theorem dX11_compile_11 : decode cX11_compile 11 = .ok (.iconst (-1), 1) := by decide +kernel
theorem dX11_compile_12 : decode cX11_compile 12 = .ok (.putfield 13, 3) := by decide +kernel
theorem dX11_compile_15 : decode cX11_compile 15 = .ok (.aload_n 0, 1) := by decide +kernel
theorem dX11_compile_16 : decode cX11_compile 16 = .ok (.iconst 0, 1) := by decide +kernel
theorem dX11_compile_17 : decode cX11_compile 17 = .ok (.putfield 128, 3) := by decide +kernel
theorem dX11_compile_20 : decode cX11_compile 20 = .ok (.aload_n 0, 1) := by decide +kernel
theorem dX11_compile_21 : decode cX11_compile 21 = .ok (.iconst 0, 1) := by decide +kernel
theorem dX11_compile_22 : decode cX11_compile 22 = .ok (.putfield 183, 3) := by decide +kernel
theorem dX11_compile_25 : decode cX11_compile 25 = .ok (.aload_n 0, 1) := by decide +kernel
theorem dX11_compile_26 : decode cX11_compile 26 = .ok (.iconst 0, 1) := by decide +kernel
theorem dX11_compile_27 : decode cX11_compile 27 = .ok (.putfield 230, 3) := by decide +kernel
theorem dX11_compile_30 : decode cX11_compile 30 = .ok (.aload_n 0, 1) := by decide +kernel
theorem dX11_compile_31 : decode cX11_compile 31 = .ok (.iconst 0, 1) := by decide +kernel
theorem dX11_compile_32 : decode cX11_compile 32 = .ok (.putfield 171, 3) := by decide +kernel
theorem dX11_compile_35 : decode cX11_compile 35 = .ok (.aload_n 0, 1) := by decide +kernel
theorem dX11_compile_36 : decode cX11_compile 36 = .ok (.iconst 0, 1) := by decide +kernel
theorem dX11_compile_37 : decode cX11_compile 37 = .ok (.putfield 162, 3) := by decide +kernel
theorem dX11_compile_40 : decode cX11_compile 40 = .ok (.aload_n 0, 1) := by decide +kernel
theorem dX11_compile_41 : decode cX11_compile 41 = .ok (.iconst (-1), 1) := by decide +kernel
theorem dX11_compile_42 : decode cX11_compile 42 = .ok (.putfield 159, 3) := by decide +kernel
theorem dX11_compile_45 : decode cX11_compile 45 = .ok (.aload_n 0, 1) := by decide +kernel
theorem dX11_compile_46 : decode cX11_compile 46 = .ok (.iconst 0, 1) := by decide +kernel
theorem dX11_compile_47 : decode cX11_compile 47 = .ok (.putfield 156, 3) := by decide +kernel
theorem dX11_compile_50 : decode cX11_compile 50 = .ok (.aload_n 0, 1) := by decide +kernel
theorem dX11_compile_51 : decode cX11_compile 51 = .ok (.iconst 0, 1) := by decide +kernel
theorem dX11_compile_52 : decode cX11_compile 52 = .ok (.putfield 165, 3) := by decide +kernel
theorem dX11_compile_55 : decode cX11_compile 55 = .ok (.aload_n 0, 1) := by decide +kernel
theorem dX11_compile_56 : decode cX11_compile 56 = .ok (.invokevirtual 233, 3) := by decide +kernel
theorem dX11_compile_59 : decode cX11_compile 59 = .ok (.aload_n 0, 1) := by decide +kernel
theorem dX11_compile_60 : decode cX11_compile 60 = .ok (.getfield 125, 3) := by decide +kernel
theorem dX11_compile_63 : decode cX11_compile 63 = .ok (.ifCond .ne 19, 3) := by decide +kernel
theorem dX11_compile_66 : decode cX11_compile 66 = .ok (.aload_n 0, 1) := by decide +kernel
theorem dX11_compile_67 : decode cX11_compile 67 = .ok (.invokevirtual 135, 3) := by decide +kernel
theorem dX11_compile_70 : decode cX11_compile 70 = .ok (.ifCond .lt 12, 3) := by decide +kernel
theorem dX11_compile_73 : decode cX11_compile 73 = .ok (.aload_n 0, 1) := by decide +kernel
theorem dX11_compile_74 : decode cX11_compile 74 = .ok (.iconst 1, 1) := by decide +kernel
theorem dX11_compile_75 : decode cX11_compile 75 = .ok (.aload_n 0, 1) := by decide +kernel
theorem dX11_compile_76 : decode cX11_compile 76 = .ok (.getfield 128, 3) := by decide +kernel
theorem dX11_compile_79 : decode cX11_compile 79 = .ok (.invokevirtual 139, 3) := by decide +kernel
theorem dX11_compile_82 : decode cX11_compile 82 = .ok (.aload_n 0, 1) := by decide +kernel
theorem dX11_compile_83 : decode cX11_compile 83 = .ok (.getfield 125, 3) := by decide +kernel
theorem dX11_compile_86 : decode cX11_compile 86 = .ok (.ifCond .le 5, 3) := by decide +kernel
theorem dX11_compile_89 : decode cX11_compile 89 = .ok (.iconst (-1), 1) := by decide +kernel
theorem dX11_compile_90 : decode cX11_compile 90 = .ok (.ireturn, 1) := by decide +kernel
theorem dX11_compile_91 : decode cX11_compile 91 = .ok (.aload_n 0, 1) := by decide +kernel
theorem dX11_compile_92 : decode cX11_compile 92 = .ok (.invokevirtual 246, 3) := by decide +kernel
theorem dX11_compile_95 : decode cX11_compile 95 = .ok (.aload_n 0, 1) := by decide +kernel
theorem dX11_compile_96 : decode cX11_compile 96 = .ok (.iconst 0, 1) := by decide +kernel
theorem dX11_compile_97 : decode cX11_compile 97 = .ok (.iconst (-1), 1) := by decide +kernel
theorem dX11_compile_98 : decode cX11_compile 98 = .ok (.invokevirtual 168, 3) := by decide +kernel
theorem dX11_compile_101 : decode cX11_compile 101 = .ok (.aload_n 0, 1) := by decide +kernel
theorem dX11_compile_102 : decode cX11_compile 102 = .ok (.invokevirtual 114, 3) := by decide +kernel
theorem dX11_compile_105 : decode cX11_compile 105 = .ok (.aload_n 0, 1) := by decide +kernel
theorem dX11_compile_106 : decode cX11_compile 106 = .ok (.getfield 261, 3) := by decide +kernel
theorem dX11_compile_109 : decode cX11_compile 109 = .ok (.ireturn, 1) := by decide +kernel
theorem dX11_keepProgram_0 : decode cX11_keepProgram 0 = .ok (.aload_n 0, 1) := by decide +kernel
theorem dX11_keepProgram_1 : decode cX11_keepProgram 1 = .ok (.aload_n 0, 1) := by decide +kernel
theorem dX11_keepProgram_2 : decode cX11_keepProgram 2 = .ok (.getfield 171, 3) := by decide +kernel
theorem dX11_keepProgram_5 : decode cX11_keepProgram 5 = .ok (.putfield 261, 3) := by decide +kernel
theorem dX11_keepProgram_8 : decode cX11_keepProgram 8 = .ok (.aload_n 0, 1) := by decide +kernel
theorem dX11_keepProgram_9 : decode cX11_keepProgram 9 = .ok (.aload_n 0, 1) := by decide +kernel
theorem dX11_keepProgram_10 : decode cX11_keepProgram 10 = .ok (.getfield 162, 3) := by decide +kernel
theorem dX11_keepProgram_13 : decode cX11_keepProgram 13 = .ok (.putfield 264, 3) := by decide +kernel
theorem dX11_keepProgram_16 : decode cX11_keepProgram 16 = .ok (.iconst 0, 1) := by decide +kernel
theorem dX11_keepProgram_17 : decode cX11_keepProgram 17 = .ok (.istore_n 1, 1) := by decide +kernel
theorem dX11_keepProgram_18 : decode cX11_keepProgram 18 = .ok (.iload_n 1, 1) := by decide +kernel
theorem dX11_keepProgram_19 : decode cX11_keepProgram 19 = .ok (.aload_n 0, 1) := by decide +kernel
theorem dX11_keepProgram_20 : decode cX11_keepProgram 20 = .ok (.getfield 261, 3) := by decide +kernel
theorem dX11_keepProgram_23 : decode cX11_keepProgram 23 = .ok (.if_icmp .ge 45, 3) := by decide +kernel
theorem dX11_keepProgram_26 : decode cX11_keepProgram 26 = .ok (.aload_n 0, 1) := by decide +kernel
theorem dX11_keepProgram_27 : decode cX11_keepProgram 27 = .ok (.getfield 51, 3) := by decide +kernel
theorem dX11_keepProgram_30 : decode cX11_keepProgram 30 = .ok (.iload_n 1, 1) := by decide +kernel
theorem dX11_keepProgram_31 : decode cX11_keepProgram 31 = .ok (.aload_n 0, 1) := by decide +kernel
theorem dX11_keepProgram_32 : decode cX11_keepProgram 32 = .ok (.getfield 17, 3) := by decide +kernel
theorem dX11_keepProgram_35 : decode cX11_keepProgram 35 = .ok (.iload_n 1, 1) := by decide +kernel
theorem dX11_keepProgram_36 : decode cX11_keepProgram 36 = .ok (.iaload, 1) := by decide +kernel
theorem dX11_keepProgram_37 : decode cX11_keepProgram 37 = .ok (.iastore, 1) := by decide +kernel
theorem dX11_keepProgram_38 : decode cX11_keepProgram 38 = .ok (.aload_n 0, 1) := by decide +kernel
theorem dX11_keepProgram_39 : decode cX11_keepProgram 39 = .ok (.getfield 60, 3) := by decide +kernel
theorem dX11_keepProgram_42 : decode cX11_keepProgram 42 = .ok (.iload_n 1, 1) := by decide +kernel
theorem dX11_keepProgram_43 : decode cX11_keepProgram 43 = .ok (.aload_n 0, 1) := by decide +kernel
theorem dX11_keepProgram_44 : decode cX11_keepProgram 44 = .ok (.getfield 26, 3) := by decide +kernel
theorem dX11_keepProgram_47 : decode cX11_keepProgram 47 = .ok (.iload_n 1, 1) := by decide +kernel
theorem dX11_keepProgram_48 : decode cX11_keepProgram 48 = .ok (.iaload, 1) := by decide +kernel
theorem dX11_keepProgram_49 : decode cX11_keepProgram 49 = .ok (.iastore, 1) := by decide +kernel
theorem dX11_keepProgram_50 : decode cX11_keepProgram 50 = .ok (.aload_n 0, 1) := by decide +kernel
theorem dX11_keepProgram_51 : decode cX11_keepProgram 51 = .ok (.getfield 63, 3) := by decide +kernel
theorem dX11_keepProgram_54 : decode cX11_keepProgram 54 = .ok (.iload_n 1, 1) := by decide +kernel
theorem dX11_keepProgram_55 : decode cX11_keepProgram 55 = .ok (.aload_n 0, 1) := by decide +kernel
theorem dX11_keepProgram_56 : decode cX11_keepProgram 56 = .ok (.getfield 29, 3) := by decide +kernel
theorem dX11_keepProgram_59 : decode cX11_keepProgram 59 = .ok (.iload_n 1, 1) := by decide +kernel
theorem dX11_keepProgram_60 : decode cX11_keepProgram 60 = .ok (.iaload, 1) := by decide +kernel
theorem dX11_keepProgram_61 : decode cX11_keepProgram 61 = .ok (.iastore, 1) := by decide +kernel
theorem dX11_keepProgram_62 : decode cX11_keepProgram 62 = .ok (.iinc 1 1, 3) := by decide +kernel
theorem dX11_keepProgram_65 : decode cX11_keepProgram 65 = .ok (.goto (-47), 3) := by decide +kernel
theorem dX11_keepProgram_68 : decode cX11_keepProgram 68 = .ok (.iconst 0, 1) := by decide +kernel
theorem dX11_keepProgram_69 : decode cX11_keepProgram 69 = .ok (.istore_n 1, 1) := by decide +kernel
theorem dX11_keepProgram_70 : decode cX11_keepProgram 70 = .ok (.iload_n 1, 1) := by decide +kernel
theorem dX11_keepProgram_71 : decode cX11_keepProgram 71 = .ok (.iconst 2, 1) := by decide +kernel
theorem dX11_keepProgram_72 : decode cX11_keepProgram 72 = .ok (.aload_n 0, 1) := by decide +kernel
theorem dX11_keepProgram_73 : decode cX11_keepProgram 73 = .ok (.getfield 261, 3) := by decide +kernel
theorem dX11_keepProgram_76 : decode cX11_keepProgram 76 = .ok (.imul, 1) := by decide +kernel
theorem dX11_keepProgram_77 : decode cX11_keepProgram 77 = .ok (.if_icmp .ge 33, 3) := by decide +kernel
theorem dX11_keepProgram_80 : decode cX11_keepProgram 80 = .ok (.aload_n 0, 1) := by decide +kernel
theorem dX11_keepProgram_81 : decode cX11_keepProgram 81 = .ok (.getfield 54, 3) := by decide +kernel
theorem dX11_keepProgram_84 : decode cX11_keepProgram 84 = .ok (.iload_n 1, 1) := by decide +kernel
theorem dX11_keepProgram_85 : decode cX11_keepProgram 85 = .ok (.aload_n 0, 1) := by decide +kernel
theorem dX11_keepProgram_86 : decode cX11_keepProgram 86 = .ok (.getfield 20, 3) := by decide +kernel
theorem dX11_keepProgram_89 : decode cX11_keepProgram 89 = .ok (.iload_n 1, 1) := by decide +kernel
theorem dX11_keepProgram_90 : decode cX11_keepProgram 90 = .ok (.iaload, 1) := by decide +kernel
theorem dX11_keepProgram_91 : decode cX11_keepProgram 91 = .ok (.iastore, 1) := by decide +kernel
theorem dX11_keepProgram_92 : decode cX11_keepProgram 92 = .ok (.aload_n 0, 1) := by decide +kernel
theorem dX11_keepProgram_93 : decode cX11_keepProgram 93 = .ok (.getfield 57, 3) := by decide +kernel
theorem dX11_keepProgram_96 : decode cX11_keepProgram 96 = .ok (.iload_n 1, 1) := by decide +kernel
theorem dX11_keepProgram_97 : decode cX11_keepProgram 97 = .ok (.aload_n 0, 1) := by decide +kernel
theorem dX11_keepProgram_98 : decode cX11_keepProgram 98 = .ok (.getfield 23, 3) := by decide +kernel
theorem dX11_keepProgram_101 : decode cX11_keepProgram 101 = .ok (.iload_n 1, 1) := by decide +kernel
theorem dX11_keepProgram_102 : decode cX11_keepProgram 102 = .ok (.iaload, 1) := by decide +kernel
theorem dX11_keepProgram_103 : decode cX11_keepProgram 103 = .ok (.iastore, 1) := by decide +kernel
theorem dX11_keepProgram_104 : decode cX11_keepProgram 104 = .ok (.iinc 1 1, 3) := by decide +kernel
theorem dX11_keepProgram_107 : decode cX11_keepProgram 107 = .ok (.goto (-37), 3) := by decide +kernel
theorem dX11_keepProgram_110 : decode cX11_keepProgram 110 = .ok (.iconst 0, 1) := by decide +kernel
theorem dX11_keepProgram_111 : decode cX11_keepProgram 111 = .ok (.istore_n 1, 1) := by decide +kernel
theorem dX11_keepProgram_112 : decode cX11_keepProgram 112 = .ok (.iload_n 1, 1) := by decide +kernel
theorem dX11_keepProgram_113 : decode cX11_keepProgram 113 = .ok (.aload_n 0, 1) := by decide +kernel
theorem dX11_keepProgram_114 : decode cX11_keepProgram 114 = .ok (.getfield 264, 3) := by decide +kernel
theorem dX11_keepProgram_117 : decode cX11_keepProgram 117 = .ok (.if_icmp .ge 69, 3) := by decide +kernel
theorem dX11_keepProgram_120 : decode cX11_keepProgram 120 = .ok (.aload_n 0, 1) := by decide +kernel
theorem dX11_keepProgram_121 : decode cX11_keepProgram 121 = .ok (.getfield 78, 3) := by decide +kernel
theorem dX11_keepProgram_124 : decode cX11_keepProgram 124 = .ok (.iload_n 1, 1) := by decide +kernel
theorem dX11_keepProgram_125 : decode cX11_keepProgram 125 = .ok (.aload_n 0, 1) := by decide +kernel
theorem dX11_keepProgram_126 : decode cX11_keepProgram 126 = .ok (.getfield 44, 3) := by decide +kernel
theorem dX11_keepProgram_129 : decode cX11_keepProgram 129 = .ok (.iload_n 1, 1) := by decide +kernel
theorem dX11_keepProgram_130 : decode cX11_keepProgram 130 = .ok (.baload, 1) := by decide +kernel
theorem dX11_keepProgram_131 : decode cX11_keepProgram 131 = .ok (.bastore, 1) := by decide +kernel
theorem dX11_keepProgram_132 : decode cX11_keepProgram 132 = .ok (.aload_n 0, 1) := by decide +kernel
theorem dX11_keepProgram_133 : decode cX11_keepProgram 133 = .ok (.getfield 66, 3) := by decide +kernel
theorem dX11_keepProgram_136 : decode cX11_keepProgram 136 = .ok (.iload_n 1, 1) := by decide +kernel
theorem dX11_keepProgram_137 : decode cX11_keepProgram 137 = .ok (.aload_n 0, 1) := by decide +kernel
theorem dX11_keepProgram_138 : decode cX11_keepProgram 138 = .ok (.getfield 32, 3) := by decide +kernel
theorem dX11_keepProgram_141 : decode cX11_keepProgram 141 = .ok (.iload_n 1, 1) := by decide +kernel
theorem dX11_keepProgram_142 : decode cX11_keepProgram 142 = .ok (.iaload, 1) := by decide +kernel
theorem dX11_keepProgram_143 : decode cX11_keepProgram 143 = .ok (.iastore, 1) := by decide +kernel
theorem dX11_keepProgram_144 : decode cX11_keepProgram 144 = .ok (.aload_n 0, 1) := by decide +kernel
theorem dX11_keepProgram_145 : decode cX11_keepProgram 145 = .ok (.getfield 69, 3) := by decide +kernel
theorem dX11_keepProgram_148 : decode cX11_keepProgram 148 = .ok (.iload_n 1, 1) := by decide +kernel
theorem dX11_keepProgram_149 : decode cX11_keepProgram 149 = .ok (.aload_n 0, 1) := by decide +kernel
theorem dX11_keepProgram_150 : decode cX11_keepProgram 150 = .ok (.getfield 35, 3) := by decide +kernel
theorem dX11_keepProgram_153 : decode cX11_keepProgram 153 = .ok (.iload_n 1, 1) := by decide +kernel
theorem dX11_keepProgram_154 : decode cX11_keepProgram 154 = .ok (.iaload, 1) := by decide +kernel
theorem dX11_keepProgram_155 : decode cX11_keepProgram 155 = .ok (.iastore, 1) := by decide +kernel
theorem dX11_keepProgram_156 : decode cX11_keepProgram 156 = .ok (.aload_n 0, 1) := by decide +kernel
theorem dX11_keepProgram_157 : decode cX11_keepProgram 157 = .ok (.getfield 72, 3) := by decide +kernel
theorem dX11_keepProgram_160 : decode cX11_keepProgram 160 = .ok (.iload_n 1, 1) := by decide +kernel
theorem dX11_keepProgram_161 : decode cX11_keepProgram 161 = .ok (.aload_n 0, 1) := by decide +kernel
theorem dX11_keepProgram_162 : decode cX11_keepProgram 162 = .ok (.getfield 38, 3) := by decide +kernel
theorem dX11_keepProgram_165 : decode cX11_keepProgram 165 = .ok (.iload_n 1, 1) := by decide +kernel
theorem dX11_keepProgram_166 : decode cX11_keepProgram 166 = .ok (.iaload, 1) := by decide +kernel
theorem dX11_keepProgram_167 : decode cX11_keepProgram 167 = .ok (.iastore, 1) := by decide +kernel
theorem dX11_keepProgram_168 : decode cX11_keepProgram 168 = .ok (.aload_n 0, 1) := by decide +kernel
theorem dX11_keepProgram_169 : decode cX11_keepProgram 169 = .ok (.getfield 75, 3) := by decide +kernel
theorem dX11_keepProgram_172 : decode cX11_keepProgram 172 = .ok (.iload_n 1, 1) := by decide +kernel
theorem dX11_keepProgram_173 : decode cX11_keepProgram 173 = .ok (.aload_n 0, 1) := by decide +kernel
theorem dX11_keepProgram_174 : decode cX11_keepProgram 174 = .ok (.getfield 41, 3) := by decide +kernel
theorem dX11_keepProgram_177 : decode cX11_keepProgram 177 = .ok (.iload_n 1, 1) := by decide +kernel
theorem dX11_keepProgram_178 : decode cX11_keepProgram 178 = .ok (.iaload, 1) := by decide +kernel
theorem dX11_keepProgram_179 : decode cX11_keepProgram 179 = .ok (.iastore, 1) := by decide +kernel
theorem dX11_keepProgram_180 : decode cX11_keepProgram 180 = .ok (.iinc 1 1, 3) := by decide +kernel
theorem dX11_keepProgram_183 : decode cX11_keepProgram 183 = .ok (.goto (-71), 3) := by decide +kernel
theorem dX11_keepProgram_186 : decode cX11_keepProgram 186 = .ok (.aload_n 0, 1) := by decide +kernel
theorem dX11_keepProgram_187 : decode cX11_keepProgram 187 = .ok (.invokevirtual 267, 3) := by decide +kernel
theorem dX11_keepProgram_190 : decode cX11_keepProgram 190 = .ok (.return_, 1) := by decide +kernel
theorem dX11_fault_0 : decode cX11_fault 0 = .ok (.aload_n 0, 1) := by decide +kernel
theorem dX11_fault_1 : decode cX11_fault 1 = .ok (.iconst 0, 1) := by decide +kernel
theorem dX11_fault_2 : decode cX11_fault 2 = .ok (.putfield 117, 3) := by decide +kernel
theorem dX11_fault_5 : decode cX11_fault 5 = .ok (.aload_n 0, 1) := by decide +kernel
theorem dX11_fault_6 : decode cX11_fault 6 = .ok (.getfield 125, 3) := by decide +kernel
theorem dX11_fault_9 : decode cX11_fault 9 = .ok (.ireturn, 1) := by decide +kernel
theorem dX11_place_0 : decode cX11_place 0 = .ok (.aload_n 0, 1) := by decide +kernel
theorem dX11_place_1 : decode cX11_place 1 = .ok (.iconst 0, 1) := by decide +kernel
theorem dX11_place_2 : decode cX11_place 2 = .ok (.putfield 117, 3) := by decide +kernel
theorem dX11_place_5 : decode cX11_place 5 = .ok (.aload_n 0, 1) := by decide +kernel
theorem dX11_place_6 : decode cX11_place 6 = .ok (.getfield 13, 3) := by decide +kernel
theorem dX11_place_9 : decode cX11_place 9 = .ok (.ireturn, 1) := by decide +kernel
theorem dX11_kindOf_0 : decode cX11_kindOf 0 = .ok (.iload_n 0, 1) := by decide +kernel
theorem dX11_kindOf_1 : decode cX11_kindOf 1 = .ok (.iconst 2, 1) := by decide +kernel
theorem dX11_kindOf_2 : decode cX11_kindOf 2 = .ok (.if_icmp .ne 7, 3) := by decide +kernel
theorem dX11_kindOf_5 : decode cX11_kindOf 5 = .ok (.iconst 1, 1) := by decide +kernel
theorem dX11_kindOf_6 : decode cX11_kindOf 6 = .ok (.goto 29, 3) := by decide +kernel
theorem dX11_kindOf_9 : decode cX11_kindOf 9 = .ok (.iload_n 0, 1) := by decide +kernel
theorem dX11_kindOf_10 : decode cX11_kindOf 10 = .ok (.iconst 5, 1) := by decide +kernel
theorem dX11_kindOf_11 : decode cX11_kindOf 11 = .ok (.if_icmp .eq 9, 3) := by decide +kernel
theorem dX11_kindOf_14 : decode cX11_kindOf 14 = .ok (.iload_n 0, 1) := by decide +kernel
theorem dX11_kindOf_15 : decode cX11_kindOf 15 = .ok (.bipush 6, 2) := by decide +kernel
theorem dX11_kindOf_17 : decode cX11_kindOf 17 = .ok (.if_icmp .ne 7, 3) := by decide +kernel
theorem dX11_kindOf_20 : decode cX11_kindOf 20 = .ok (.iconst 2, 1) := by decide +kernel
theorem dX11_kindOf_21 : decode cX11_kindOf 21 = .ok (.goto 14, 3) := by decide +kernel
theorem dX11_kindOf_24 : decode cX11_kindOf 24 = .ok (.iload_n 0, 1) := by decide +kernel
theorem dX11_kindOf_25 : decode cX11_kindOf 25 = .ok (.bipush 7, 2) := by decide +kernel
theorem dX11_kindOf_27 : decode cX11_kindOf 27 = .ok (.if_icmp .ne 7, 3) := by decide +kernel
theorem dX11_kindOf_30 : decode cX11_kindOf 30 = .ok (.iconst 3, 1) := by decide +kernel
theorem dX11_kindOf_31 : decode cX11_kindOf 31 = .ok (.goto 4, 3) := by decide +kernel
theorem dX11_kindOf_34 : decode cX11_kindOf 34 = .ok (.iconst 0, 1) := by decide +kernel
theorem dX11_kindOf_35 : decode cX11_kindOf 35 = .ok (.ireturn, 1) := by decide +kernel
theorem dX11_usesVariable_0 : decode cX11_usesVariable 0 = .ok (.aload_n 0, 1) := by decide +kernel
theorem dX11_usesVariable_1 : decode cX11_usesVariable 1 = .ok (.getfield 54, 3) := by decide +kernel
theorem dX11_usesVariable_4 : decode cX11_usesVariable 4 = .ok (.iconst 2, 1) := by decide +kernel
theorem dX11_usesVariable_5 : decode cX11_usesVariable 5 = .ok (.iload_n 1, 1) := by decide +kernel
theorem dX11_usesVariable_6 : decode cX11_usesVariable 6 = .ok (.imul, 1) := by decide +kernel
theorem dX11_usesVariable_7 : decode cX11_usesVariable 7 = .ok (.iaload, 1) := by decide +kernel
theorem dX11_usesVariable_8 : decode cX11_usesVariable 8 = .ok (.iconst 2, 1) := by decide +kernel
theorem dX11_usesVariable_9 : decode cX11_usesVariable 9 = .ok (.if_icmp .ne 15, 3) := by decide +kernel
theorem dX11_usesVariable_12 : decode cX11_usesVariable 12 = .ok (.aload_n 0, 1) := by decide +kernel
theorem dX11_usesVariable_13 : decode cX11_usesVariable 13 = .ok (.getfield 57, 3) := by decide +kernel
theorem dX11_usesVariable_16 : decode cX11_usesVariable 16 = .ok (.iconst 2, 1) := by decide +kernel
theorem dX11_usesVariable_17 : decode cX11_usesVariable 17 = .ok (.iload_n 1, 1) := by decide +kernel
theorem dX11_usesVariable_18 : decode cX11_usesVariable 18 = .ok (.imul, 1) := by decide +kernel
theorem dX11_usesVariable_19 : decode cX11_usesVariable 19 = .ok (.iaload, 1) := by decide +kernel
