theorem dX9_close_191 : decode cX9_close 191 = .ok (.iconst 1, 1) := by decide +kernel
theorem dX9_close_192 : decode cX9_close 192 = .ok (.iadd, 1) := by decide +kernel
theorem dX9_close_193 : decode cX9_close 193 = .ok (.iaload, 1) := by decide +kernel
theorem dX9_close_194 : decode cX9_close 194 = .ok (.iload 6, 2) := by decide +kernel
theorem dX9_close_196 : decode cX9_close 196 = .ok (.iconst 2, 1) := by decide +kernel
theorem dX9_close_197 : decode cX9_close 197 = .ok (.iadd, 1) := by decide +kernel
theorem dX9_close_198 : decode cX9_close 198 = .ok (.invokevirtual 63, 3) := by decide +kernel
theorem dX9_close_201 : decode cX9_close 201 = .ok (.ifCond .eq 5, 3) := by decide +kernel
theorem dX9_close_204 : decode cX9_close 204 = .ok (.iconst 1, 1) := by decide +kernel
theorem dX9_close_205 : decode cX9_close 205 = .ok (.istore_n 2, 1) := by decide +kernel
theorem dX9_close_206 : decode cX9_close 206 = .ok (.iinc 5 1, 3) := by decide +kernel
theorem dX9_close_209 : decode cX9_close 209 = .ok (.goto (-109), 3) := by decide +kernel
theorem dX9_close_212 : decode cX9_close 212 = .ok (.iinc 3 1, 3) := by decide +kernel
theorem dX9_close_215 : decode cX9_close 215 = .ok (.goto (-168), 3) := by decide +kernel
theorem dX9_close_218 : decode cX9_close 218 = .ok (.iconst 0, 1) := by decide +kernel
theorem dX9_close_219 : decode cX9_close 219 = .ok (.istore_n 3, 1) := by decide +kernel
theorem dX9_close_220 : decode cX9_close 220 = .ok (.iload_n 3, 1) := by decide +kernel
theorem dX9_close_221 : decode cX9_close 221 = .ok (.sipush 512, 3) := by decide +kernel
theorem dX9_close_224 : decode cX9_close 224 = .ok (.if_icmp .ge 89, 3) := by decide +kernel
theorem dX9_close_227 : decode cX9_close 227 = .ok (.aload_n 0, 1) := by decide +kernel
theorem dX9_close_228 : decode cX9_close 228 = .ok (.getfield 45, 3) := by decide +kernel
theorem dX9_close_231 : decode cX9_close 231 = .ok (.bipush 8, 2) := by decide +kernel
theorem dX9_close_233 : decode cX9_close 233 = .ok (.iload_n 3, 1) := by decide +kernel
theorem dX9_close_234 : decode cX9_close 234 = .ok (.bipush 64, 2) := by decide +kernel
theorem dX9_close_236 : decode cX9_close 236 = .ok (.idiv, 1) := by decide +kernel
theorem dX9_close_237 : decode cX9_close 237 = .ok (.imul, 1) := by decide +kernel
theorem dX9_close_238 : decode cX9_close 238 = .ok (.iload_n 3, 1) := by decide +kernel
theorem dX9_close_239 : decode cX9_close 239 = .ok (.bipush 8, 2) := by decide +kernel
theorem dX9_close_241 : decode cX9_close 241 = .ok (.idiv, 1) := by decide +kernel
theorem dX9_close_242 : decode cX9_close 242 = .ok (.bipush 8, 2) := by decide +kernel
theorem dX9_close_244 : decode cX9_close 244 = .ok (.irem, 1) := by decide +kernel
theorem dX9_close_245 : decode cX9_close 245 = .ok (.iadd, 1) := by decide +kernel
theorem dX9_close_246 : decode cX9_close 246 = .ok (.iaload, 1) := by decide +kernel
theorem dX9_close_247 : decode cX9_close 247 = .ok (.istore 4, 2) := by decide +kernel
theorem dX9_close_249 : decode cX9_close 249 = .ok (.aload_n 0, 1) := by decide +kernel
theorem dX9_close_250 : decode cX9_close 250 = .ok (.getfield 45, 3) := by decide +kernel
theorem dX9_close_253 : decode cX9_close 253 = .ok (.bipush 8, 2) := by decide +kernel
theorem dX9_close_255 : decode cX9_close 255 = .ok (.iload_n 3, 1) := by decide +kernel
theorem dX9_close_256 : decode cX9_close 256 = .ok (.bipush 8, 2) := by decide +kernel
theorem dX9_close_258 : decode cX9_close 258 = .ok (.idiv, 1) := by decide +kernel
theorem dX9_close_259 : decode cX9_close 259 = .ok (.bipush 8, 2) := by decide +kernel
theorem dX9_close_261 : decode cX9_close 261 = .ok (.irem, 1) := by decide +kernel
theorem dX9_close_262 : decode cX9_close 262 = .ok (.imul, 1) := by decide +kernel
theorem dX9_close_263 : decode cX9_close 263 = .ok (.iload_n 3, 1) := by decide +kernel
theorem dX9_close_264 : decode cX9_close 264 = .ok (.bipush 8, 2) := by decide +kernel
theorem dX9_close_266 : decode cX9_close 266 = .ok (.irem, 1) := by decide +kernel
theorem dX9_close_267 : decode cX9_close 267 = .ok (.iadd, 1) := by decide +kernel
theorem dX9_close_268 : decode cX9_close 268 = .ok (.iaload, 1) := by decide +kernel
theorem dX9_close_269 : decode cX9_close 269 = .ok (.istore 5, 2) := by decide +kernel
theorem dX9_close_271 : decode cX9_close 271 = .ok (.iload 4, 2) := by decide +kernel
theorem dX9_close_273 : decode cX9_close 273 = .ok (.ldc 62, 2) := by decide +kernel
theorem dX9_close_275 : decode cX9_close 275 = .ok (.if_icmp .ge 32, 3) := by decide +kernel
theorem dX9_close_278 : decode cX9_close 278 = .ok (.iload 5, 2) := by decide +kernel
theorem dX9_close_280 : decode cX9_close 280 = .ok (.ldc 62, 2) := by decide +kernel
theorem dX9_close_282 : decode cX9_close 282 = .ok (.if_icmp .ge 25, 3) := by decide +kernel
theorem dX9_close_285 : decode cX9_close 285 = .ok (.aload_n 0, 1) := by decide +kernel
theorem dX9_close_286 : decode cX9_close 286 = .ok (.iload_n 3, 1) := by decide +kernel
theorem dX9_close_287 : decode cX9_close 287 = .ok (.bipush 64, 2) := by decide +kernel
theorem dX9_close_289 : decode cX9_close 289 = .ok (.idiv, 1) := by decide +kernel
theorem dX9_close_290 : decode cX9_close 290 = .ok (.iload_n 3, 1) := by decide +kernel
theorem dX9_close_291 : decode cX9_close 291 = .ok (.bipush 8, 2) := by decide +kernel
theorem dX9_close_293 : decode cX9_close 293 = .ok (.irem, 1) := by decide +kernel
theorem dX9_close_294 : decode cX9_close 294 = .ok (.iload 4, 2) := by decide +kernel
theorem dX9_close_296 : decode cX9_close 296 = .ok (.iload 5, 2) := by decide +kernel
theorem dX9_close_298 : decode cX9_close 298 = .ok (.iadd, 1) := by decide +kernel
theorem dX9_close_299 : decode cX9_close 299 = .ok (.invokevirtual 63, 3) := by decide +kernel
theorem dX9_close_302 : decode cX9_close 302 = .ok (.ifCond .eq 5, 3) := by decide +kernel
theorem dX9_close_305 : decode cX9_close 305 = .ok (.iconst 1, 1) := by decide +kernel
theorem dX9_close_306 : decode cX9_close 306 = .ok (.istore_n 2, 1) := by decide +kernel
theorem dX9_close_307 : decode cX9_close 307 = .ok (.iinc 3 1, 3) := by decide +kernel
theorem dX9_close_310 : decode cX9_close 310 = .ok (.goto (-90), 3) := by decide +kernel
theorem dX9_close_313 : decode cX9_close 313 = .ok (.goto (-274), 3) := by decide +kernel
theorem dX9_close_316 : decode cX9_close 316 = .ok (.return_, 1) := by decide +kernel
set_option maxRecDepth 20000 in
theorem ggX9_closeOf_X9_has : GoodIn wsX9_closeOf wsX9_has := goodIn_r _ [5] (by decide +kernel) (by decide +kernel)
set_option maxRecDepth 20000 in
theorem gX9_closeOf_X9_has : GoodIn wsX9_closeOf (va_wsS RX9 69 yX9_has wsX9_has) := goodIn_app (goodIn_of _ (by decide +kernel)) ggX9_closeOf_X9_has
set_option maxRecDepth 20000 in
theorem ggX9_closeOf_X9_close : GoodIn wsX9_closeOf wsX9_close := goodIn_r _ [9, 10, 11, 1, 12, 13, 14, 15, 4, 16, 17, 18, 19, 20, 21, 22, 23, 24, 25, 26, 27, 28, 29, 30, 31, 32, 33, 34, 35, 36, 37, 38, 39, 40, 41] (by decide +kernel) (by decide +kernel)
set_option maxRecDepth 20000 in
theorem gX9_closeOf_X9_close : GoodIn wsX9_closeOf (wsV RX9 73 RX9 yX9_close wsX9_close) := goodIn_app (goodIn_of _ (by decide +kernel)) ggX9_closeOf_X9_close
theorem dX9_closeOf_0 : decode cX9_closeOf 0 = .ok (.iconst 0, 1) := by decide +kernel
theorem dX9_closeOf_1 : decode cX9_closeOf 1 = .ok (.istore_n 3, 1) := by decide +kernel
theorem dX9_closeOf_2 : decode cX9_closeOf 2 = .ok (.iconst 0, 1) := by decide +kernel
theorem dX9_closeOf_3 : decode cX9_closeOf 3 = .ok (.istore 4, 2) := by decide +kernel
theorem dX9_closeOf_5 : decode cX9_closeOf 5 = .ok (.iload 4, 2) := by decide +kernel
theorem dX9_closeOf_7 : decode cX9_closeOf 7 = .ok (.aload_n 1, 1) := by decide +kernel
theorem dX9_closeOf_8 : decode cX9_closeOf 8 = .ok (.iconst 0, 1) := by decide +kernel
theorem dX9_closeOf_9 : decode cX9_closeOf 9 = .ok (.iaload, 1) := by decide +kernel
theorem dX9_closeOf_10 : decode cX9_closeOf 10 = .ok (.if_icmp .ge 58, 3) := by decide +kernel
theorem dX9_closeOf_13 : decode cX9_closeOf 13 = .ok (.iload_n 2, 1) := by decide +kernel
theorem dX9_closeOf_14 : decode cX9_closeOf 14 = .ok (.iload 4, 2) := by decide +kernel
theorem dX9_closeOf_16 : decode cX9_closeOf 16 = .ok (.invokestatic 69, 3) := by decide +kernel
theorem dX9_closeOf_19 : decode cX9_closeOf 19 = .ok (.ifCond .eq 43, 3) := by decide +kernel
theorem dX9_closeOf_22 : decode cX9_closeOf 22 = .ok (.iconst 0, 1) := by decide +kernel
theorem dX9_closeOf_23 : decode cX9_closeOf 23 = .ok (.istore 5, 2) := by decide +kernel
theorem dX9_closeOf_25 : decode cX9_closeOf 25 = .ok (.iload 5, 2) := by decide +kernel
theorem dX9_closeOf_27 : decode cX9_closeOf 27 = .ok (.iconst 3, 1) := by decide +kernel
theorem dX9_closeOf_28 : decode cX9_closeOf 28 = .ok (.if_icmp .ge 31, 3) := by decide +kernel
theorem dX9_closeOf_31 : decode cX9_closeOf 31 = .ok (.aload_n 0, 1) := by decide +kernel
theorem dX9_closeOf_32 : decode cX9_closeOf 32 = .ok (.getfield 51, 3) := by decide +kernel
theorem dX9_closeOf_35 : decode cX9_closeOf 35 = .ok (.iconst 3, 1) := by decide +kernel
theorem dX9_closeOf_36 : decode cX9_closeOf 36 = .ok (.iload_n 3, 1) := by decide +kernel
theorem dX9_closeOf_37 : decode cX9_closeOf 37 = .ok (.imul, 1) := by decide +kernel
theorem dX9_closeOf_38 : decode cX9_closeOf 38 = .ok (.iload 5, 2) := by decide +kernel
theorem dX9_closeOf_40 : decode cX9_closeOf 40 = .ok (.iadd, 1) := by decide +kernel
theorem dX9_closeOf_41 : decode cX9_closeOf 41 = .ok (.aload_n 1, 1) := by decide +kernel
theorem dX9_closeOf_42 : decode cX9_closeOf 42 = .ok (.iconst 1, 1) := by decide +kernel
theorem dX9_closeOf_43 : decode cX9_closeOf 43 = .ok (.iconst 3, 1) := by decide +kernel
theorem dX9_closeOf_44 : decode cX9_closeOf 44 = .ok (.iload 4, 2) := by decide +kernel
theorem dX9_closeOf_46 : decode cX9_closeOf 46 = .ok (.imul, 1) := by decide +kernel
theorem dX9_closeOf_47 : decode cX9_closeOf 47 = .ok (.iadd, 1) := by decide +kernel
theorem dX9_closeOf_48 : decode cX9_closeOf 48 = .ok (.iload 5, 2) := by decide +kernel
theorem dX9_closeOf_50 : decode cX9_closeOf 50 = .ok (.iadd, 1) := by decide +kernel
theorem dX9_closeOf_51 : decode cX9_closeOf 51 = .ok (.iaload, 1) := by decide +kernel
theorem dX9_closeOf_52 : decode cX9_closeOf 52 = .ok (.iastore, 1) := by decide +kernel
theorem dX9_closeOf_53 : decode cX9_closeOf 53 = .ok (.iinc 5 1, 3) := by decide +kernel
theorem dX9_closeOf_56 : decode cX9_closeOf 56 = .ok (.goto (-31), 3) := by decide +kernel
theorem dX9_closeOf_59 : decode cX9_closeOf 59 = .ok (.iinc 3 1, 3) := by decide +kernel
theorem dX9_closeOf_62 : decode cX9_closeOf 62 = .ok (.iinc 4 1, 3) := by decide +kernel
theorem dX9_closeOf_65 : decode cX9_closeOf 65 = .ok (.goto (-60), 3) := by decide +kernel
theorem dX9_closeOf_68 : decode cX9_closeOf 68 = .ok (.aload_n 0, 1) := by decide +kernel
theorem dX9_closeOf_69 : decode cX9_closeOf 69 = .ok (.iload_n 3, 1) := by decide +kernel
theorem dX9_closeOf_70 : decode cX9_closeOf 70 = .ok (.invokevirtual 73, 3) := by decide +kernel
theorem dX9_closeOf_73 : decode cX9_closeOf 73 = .ok (.return_, 1) := by decide +kernel
theorem dX9_reaches_0 : decode cX9_reaches 0 = .ok (.aload_n 0, 1) := by decide +kernel
theorem dX9_reaches_1 : decode cX9_reaches 1 = .ok (.getfield 45, 3) := by decide +kernel
theorem dX9_reaches_4 : decode cX9_reaches 4 = .ok (.bipush 8, 2) := by decide +kernel
theorem dX9_reaches_6 : decode cX9_reaches 6 = .ok (.iload_n 1, 1) := by decide +kernel
theorem dX9_reaches_7 : decode cX9_reaches 7 = .ok (.imul, 1) := by decide +kernel
theorem dX9_reaches_8 : decode cX9_reaches 8 = .ok (.iload_n 2, 1) := by decide +kernel
theorem dX9_reaches_9 : decode cX9_reaches 9 = .ok (.iadd, 1) := by decide +kernel
theorem dX9_reaches_10 : decode cX9_reaches 10 = .ok (.iaload, 1) := by decide +kernel
theorem dX9_reaches_11 : decode cX9_reaches 11 = .ok (.ldc 62, 2) := by decide +kernel
theorem dX9_reaches_13 : decode cX9_reaches 13 = .ok (.if_icmp .ge 7, 3) := by decide +kernel
theorem dX9_reaches_16 : decode cX9_reaches 16 = .ok (.iconst 1, 1) := by decide +kernel
theorem dX9_reaches_17 : decode cX9_reaches 17 = .ok (.goto 4, 3) := by decide +kernel
theorem dX9_reaches_20 : decode cX9_reaches 20 = .ok (.iconst 0, 1) := by decide +kernel
theorem dX9_reaches_21 : decode cX9_reaches 21 = .ok (.ireturn, 1) := by decide +kernel
theorem dX9_pairs_0 : decode cX9_pairs 0 = .ok (.iconst 0, 1) := by decide +kernel
theorem dX9_pairs_1 : decode cX9_pairs 1 = .ok (.istore_n 1, 1) := by decide +kernel
theorem dX9_pairs_2 : decode cX9_pairs 2 = .ok (.iconst 0, 1) := by decide +kernel
theorem dX9_pairs_3 : decode cX9_pairs 3 = .ok (.istore_n 2, 1) := by decide +kernel
theorem dX9_pairs_4 : decode cX9_pairs 4 = .ok (.iload_n 2, 1) := by decide +kernel
theorem dX9_pairs_5 : decode cX9_pairs 5 = .ok (.bipush 64, 2) := by decide +kernel
theorem dX9_pairs_7 : decode cX9_pairs 7 = .ok (.if_icmp .ge 50, 3) := by decide +kernel
theorem dX9_pairs_10 : decode cX9_pairs 10 = .ok (.iload_n 1, 1) := by decide +kernel
theorem dX9_pairs_11 : decode cX9_pairs 11 = .ok (.iload_n 2, 1) := by decide +kernel
theorem dX9_pairs_12 : decode cX9_pairs 12 = .ok (.bipush 8, 2) := by decide +kernel
theorem dX9_pairs_14 : decode cX9_pairs 14 = .ok (.idiv, 1) := by decide +kernel
theorem dX9_pairs_15 : decode cX9_pairs 15 = .ok (.aload_n 0, 1) := by decide +kernel
theorem dX9_pairs_16 : decode cX9_pairs 16 = .ok (.getfield 16, 3) := by decide +kernel
theorem dX9_pairs_19 : decode cX9_pairs 19 = .ok (.if_icmp .ge 29, 3) := by decide +kernel
theorem dX9_pairs_22 : decode cX9_pairs 22 = .ok (.iload_n 2, 1) := by decide +kernel
theorem dX9_pairs_23 : decode cX9_pairs 23 = .ok (.bipush 8, 2) := by decide +kernel
theorem dX9_pairs_25 : decode cX9_pairs 25 = .ok (.irem, 1) := by decide +kernel
theorem dX9_pairs_26 : decode cX9_pairs 26 = .ok (.aload_n 0, 1) := by decide +kernel
theorem dX9_pairs_27 : decode cX9_pairs 27 = .ok (.getfield 16, 3) := by decide +kernel
theorem dX9_pairs_30 : decode cX9_pairs 30 = .ok (.if_icmp .ge 18, 3) := by decide +kernel
theorem dX9_pairs_33 : decode cX9_pairs 33 = .ok (.aload_n 0, 1) := by decide +kernel
theorem dX9_pairs_34 : decode cX9_pairs 34 = .ok (.getfield 45, 3) := by decide +kernel
theorem dX9_pairs_37 : decode cX9_pairs 37 = .ok (.iload_n 2, 1) := by decide +kernel
theorem dX9_pairs_38 : decode cX9_pairs 38 = .ok (.iaload, 1) := by decide +kernel
theorem dX9_pairs_39 : decode cX9_pairs 39 = .ok (.ldc 62, 2) := by decide +kernel
theorem dX9_pairs_41 : decode cX9_pairs 41 = .ok (.if_icmp .ge 7, 3) := by decide +kernel
theorem dX9_pairs_44 : decode cX9_pairs 44 = .ok (.iconst 1, 1) := by decide +kernel
theorem dX9_pairs_45 : decode cX9_pairs 45 = .ok (.goto 4, 3) := by decide +kernel
theorem dX9_pairs_48 : decode cX9_pairs 48 = .ok (.iconst 0, 1) := by decide +kernel
theorem dX9_pairs_49 : decode cX9_pairs 49 = .ok (.iadd, 1) := by decide +kernel
theorem dX9_pairs_50 : decode cX9_pairs 50 = .ok (.istore_n 1, 1) := by decide +kernel
theorem dX9_pairs_51 : decode cX9_pairs 51 = .ok (.iinc 2 1, 3) := by decide +kernel
theorem dX9_pairs_54 : decode cX9_pairs 54 = .ok (.goto (-50), 3) := by decide +kernel
theorem dX9_pairs_57 : decode cX9_pairs 57 = .ok (.iload_n 1, 1) := by decide +kernel
theorem dX9_pairs_58 : decode cX9_pairs 58 = .ok (.ireturn, 1) := by decide +kernel
set_option maxRecDepth 20000 in
theorem ggX9_pairsOf_X9_closeOf : GoodIn wsX9_pairsOf wsX9_closeOf := goodIn_r _ [5, 6, 7, 8, 4, 9, 10, 11, 12, 13, 14, 15, 16, 17, 18, 19, 20, 21, 22, 23, 24, 30, 31, 32, 33, 34, 35, 36, 37, 38, 39, 40, 41, 42, 43, 44, 45, 46, 47, 48, 49, 50] (by decide +kernel) (by decide +kernel)
set_option maxRecDepth 20000 in
theorem gX9_pairsOf_X9_closeOf : GoodIn wsX9_pairsOf (wsV RX9 77 RX9 yX9_closeOf wsX9_closeOf) := goodIn_app (goodIn_of _ (by decide +kernel)) ggX9_pairsOf_X9_closeOf
set_option maxRecDepth 20000 in
theorem ggX9_pairsOf_X9_pairs : GoodIn wsX9_pairsOf wsX9_pairs := goodIn_r _ [28, 29, 14, 15, 30, 31, 32, 33, 34, 35, 36, 37, 38, 39, 40, 41, 42, 43, 44, 45, 46, 47, 48, 49, 50] (by decide +kernel) (by decide +kernel)
set_option maxRecDepth 20000 in
theorem gX9_pairsOf_X9_pairs : GoodIn wsX9_pairsOf (wsV RX9 81 RX9 yX9_pairs wsX9_pairs) := goodIn_app (goodIn_of _ (by decide +kernel)) ggX9_pairsOf_X9_pairs
theorem dX9_pairsOf_0 : decode cX9_pairsOf 0 = .ok (.aload_n 0, 1) := by decide +kernel
theorem dX9_pairsOf_1 : decode cX9_pairsOf 1 = .ok (.aload_n 1, 1) := by decide +kernel
theorem dX9_pairsOf_2 : decode cX9_pairsOf 2 = .ok (.iload_n 2, 1) := by decide +kernel
theorem dX9_pairsOf_3 : decode cX9_pairsOf 3 = .ok (.invokevirtual 77, 3) := by decide +kernel
theorem dX9_pairsOf_6 : decode cX9_pairsOf 6 = .ok (.aload_n 0, 1) := by decide +kernel
theorem dX9_pairsOf_7 : decode cX9_pairsOf 7 = .ok (.invokevirtual 81, 3) := by decide +kernel
theorem dX9_pairsOf_10 : decode cX9_pairsOf 10 = .ok (.ireturn, 1) := by decide +kernel
set_option maxRecDepth 20000 in
theorem ggX9_append_X9_in : GoodIn wsX9_append wsX9_in := goodIn_r _ [8] (by decide +kernel) (by decide +kernel)
set_option maxRecDepth 20000 in
theorem gX9_append_X9_in : GoodIn wsX9_append (va_wsS RX9 57 yX9_in wsX9_in) := goodIn_app (goodIn_of _ (by decide +kernel)) ggX9_append_X9_in
theorem dX9_append_0 : decode cX9_append 0 = .ok (.aload_n 0, 1) := by decide +kernel
theorem dX9_append_1 : decode cX9_append 1 = .ok (.iconst 0, 1) := by decide +kernel
theorem dX9_append_2 : decode cX9_append 2 = .ok (.putfield 54, 3) := by decide +kernel
theorem dX9_append_5 : decode cX9_append 5 = .ok (.iload_n 1, 1) := by decide +kernel
theorem dX9_append_6 : decode cX9_append 6 = .ok (.i2l, 1) := by decide +kernel
theorem dX9_append_7 : decode cX9_append 7 = .ok (.lconst 0, 1) := by decide +kernel
theorem dX9_append_8 : decode cX9_append 8 = .ok (.ldc2_w 85, 3) := by decide +kernel
theorem dX9_append_11 : decode cX9_append 11 = .ok (.invokestatic 57, 3) := by decide +kernel
theorem dX9_append_14 : decode cX9_append 14 = .ok (.ifCond .ne 6, 3) := by decide +kernel
theorem dX9_append_17 : decode cX9_append 17 = .ok (.bipush (-2), 2) := by decide +kernel
theorem dX9_append_19 : decode cX9_append 19 = .ok (.ireturn, 1) := by decide +kernel
theorem dX9_append_20 : decode cX9_append 20 = .ok (.aload_n 0, 1) := by decide +kernel
theorem dX9_append_21 : decode cX9_append 21 = .ok (.getfield 87, 3) := by decide +kernel
theorem dX9_append_24 : decode cX9_append 24 = .ok (.bipush 60, 2) := by decide +kernel
theorem dX9_append_26 : decode cX9_append 26 = .ok (.if_icmp .ne 6, 3) := by decide +kernel
theorem dX9_append_29 : decode cX9_append 29 = .ok (.bipush (-4), 2) := by decide +kernel
theorem dX9_append_31 : decode cX9_append 31 = .ok (.ireturn, 1) := by decide +kernel
theorem dX9_append_32 : decode cX9_append 32 = .ok (.aload_n 0, 1) := by decide +kernel
theorem dX9_append_33 : decode cX9_append 33 = .ok (.getfield 7, 3) := by decide +kernel
theorem dX9_append_36 : decode cX9_append 36 = .ok (.aload_n 0, 1) := by decide +kernel
theorem dX9_append_37 : decode cX9_append 37 = .ok (.getfield 87, 3) := by decide +kernel
theorem dX9_append_40 : decode cX9_append 40 = .ok (.iload_n 1, 1) := by decide +kernel
theorem dX9_append_41 : decode cX9_append 41 = .ok (.iastore, 1) := by decide +kernel
theorem dX9_append_42 : decode cX9_append 42 = .ok (.aload_n 0, 1) := by decide +kernel
theorem dX9_append_43 : decode cX9_append 43 = .ok (.dup, 1) := by decide +kernel
theorem dX9_append_44 : decode cX9_append 44 = .ok (.getfield 87, 3) := by decide +kernel
theorem dX9_append_47 : decode cX9_append 47 = .ok (.iconst 1, 1) := by decide +kernel
theorem dX9_append_48 : decode cX9_append 48 = .ok (.iadd, 1) := by decide +kernel
theorem dX9_append_49 : decode cX9_append 49 = .ok (.putfield 87, 3) := by decide +kernel
theorem dX9_append_52 : decode cX9_append 52 = .ok (.aload_n 0, 1) := by decide +kernel
theorem dX9_append_53 : decode cX9_append 53 = .ok (.getfield 87, 3) := by decide +kernel
theorem dX9_append_56 : decode cX9_append 56 = .ok (.ireturn, 1) := by decide +kernel
theorem dX9_clearText_0 : decode cX9_clearText 0 = .ok (.aload_n 0, 1) := by decide +kernel
theorem dX9_clearText_1 : decode cX9_clearText 1 = .ok (.iconst 0, 1) := by decide +kernel
theorem dX9_clearText_2 : decode cX9_clearText 2 = .ok (.putfield 54, 3) := by decide +kernel
theorem dX9_clearText_5 : decode cX9_clearText 5 = .ok (.aload_n 0, 1) := by decide +kernel
theorem dX9_clearText_6 : decode cX9_clearText 6 = .ok (.getfield 87, 3) := by decide +kernel
theorem dX9_clearText_9 : decode cX9_clearText 9 = .ok (.istore_n 1, 1) := by decide +kernel
theorem dX9_clearText_10 : decode cX9_clearText 10 = .ok (.aload_n 0, 1) := by decide +kernel
theorem dX9_clearText_11 : decode cX9_clearText 11 = .ok (.iconst 0, 1) := by decide +kernel
theorem dX9_clearText_12 : decode cX9_clearText 12 = .ok (.putfield 87, 3) := by decide +kernel
theorem dX9_clearText_15 : decode cX9_clearText 15 = .ok (.iload_n 1, 1) := by decide +kernel
theorem dX9_clearText_16 : decode cX9_clearText 16 = .ok (.ireturn, 1) := by decide +kernel
set_option maxRecDepth 20000 in
theorem ggX9_digit_X9_in : GoodIn wsX9_digit wsX9_in := goodIn_r _ [7] (by decide +kernel) (by decide +kernel)
set_option maxRecDepth 20000 in
theorem gX9_digit_X9_in : GoodIn wsX9_digit (va_wsS RX9 57 yX9_in wsX9_in) := goodIn_app (goodIn_of _ (by decide +kernel)) ggX9_digit_X9_in
theorem dX9_digit_0 : decode cX9_digit 0 = .ok (.aload_n 0, 1) := by decide +kernel
theorem dX9_digit_1 : decode cX9_digit 1 = .ok (.getfield 90, 3) := by decide +kernel
theorem dX9_digit_4 : decode cX9_digit 4 = .ok (.aload_n 0, 1) := by decide +kernel
theorem dX9_digit_5 : decode cX9_digit 5 = .ok (.getfield 87, 3) := by decide +kernel
theorem dX9_digit_8 : decode cX9_digit 8 = .ok (.if_icmp .ge 18, 3) := by decide +kernel
theorem dX9_digit_11 : decode cX9_digit 11 = .ok (.aload_n 0, 1) := by decide +kernel
theorem dX9_digit_12 : decode cX9_digit 12 = .ok (.getfield 7, 3) := by decide +kernel
theorem dX9_digit_15 : decode cX9_digit 15 = .ok (.aload_n 0, 1) := by decide +kernel
theorem dX9_digit_16 : decode cX9_digit 16 = .ok (.getfield 90, 3) := by decide +kernel
theorem dX9_digit_19 : decode cX9_digit 19 = .ok (.iaload, 1) := by decide +kernel
theorem dX9_digit_20 : decode cX9_digit 20 = .ok (.bipush 48, 2) := by decide +kernel
theorem dX9_digit_22 : decode cX9_digit 22 = .ok (.isub, 1) := by decide +kernel
theorem dX9_digit_23 : decode cX9_digit 23 = .ok (.goto 5, 3) := by decide +kernel
theorem dX9_digit_26 : decode cX9_digit 26 = .ok (.bipush (-9), 2) := by decide +kernel
theorem dX9_digit_28 : decode cX9_digit 28 = .ok (.istore_n 3, 1) := by decide +kernel
theorem dX9_digit_29 : decode cX9_digit 29 = .ok (.iload_n 3, 1) := by decide +kernel
theorem dX9_digit_30 : decode cX9_digit 30 = .ok (.i2l, 1) := by decide +kernel
theorem dX9_digit_31 : decode cX9_digit 31 = .ok (.iload_n 1, 1) := by decide +kernel
theorem dX9_digit_32 : decode cX9_digit 32 = .ok (.i2l, 1) := by decide +kernel
theorem dX9_digit_33 : decode cX9_digit 33 = .ok (.iload_n 2, 1) := by decide +kernel
theorem dX9_digit_34 : decode cX9_digit 34 = .ok (.i2l, 1) := by decide +kernel
theorem dX9_digit_35 : decode cX9_digit 35 = .ok (.invokestatic 57, 3) := by decide +kernel
theorem dX9_digit_38 : decode cX9_digit 38 = .ok (.ifCond .ne 6, 3) := by decide +kernel
theorem dX9_digit_41 : decode cX9_digit 41 = .ok (.bipush (-9), 2) := by decide +kernel
theorem dX9_digit_43 : decode cX9_digit 43 = .ok (.ireturn, 1) := by decide +kernel
theorem dX9_digit_44 : decode cX9_digit 44 = .ok (.aload_n 0, 1) := by decide +kernel
theorem dX9_digit_45 : decode cX9_digit 45 = .ok (.dup, 1) := by decide +kernel
theorem dX9_digit_46 : decode cX9_digit 46 = .ok (.getfield 90, 3) := by decide +kernel
theorem dX9_digit_49 : decode cX9_digit 49 = .ok (.iconst 1, 1) := by decide +kernel
theorem dX9_digit_50 : decode cX9_digit 50 = .ok (.iadd, 1) := by decide +kernel
theorem dX9_digit_51 : decode cX9_digit 51 = .ok (.putfield 90, 3) := by decide +kernel
theorem dX9_digit_54 : decode cX9_digit 54 = .ok (.iload_n 3, 1) := by decide +kernel
theorem dX9_digit_55 : decode cX9_digit 55 = .ok (.ireturn, 1) := by decide +kernel
set_option maxRecDepth 20000 in
theorem ggX9_labelChar_X9_in : GoodIn wsX9_labelChar wsX9_in := goodIn_r _ [11] (by decide +kernel) (by decide +kernel)
set_option maxRecDepth 20000 in
theorem gX9_labelChar_X9_in : GoodIn wsX9_labelChar (va_wsS RX9 57 yX9_in wsX9_in) := goodIn_app (goodIn_of _ (by decide +kernel)) ggX9_labelChar_X9_in
theorem dX9_labelChar_0 : decode cX9_labelChar 0 = .ok (.aload_n 0, 1) := by decide +kernel
theorem dX9_labelChar_1 : decode cX9_labelChar 1 = .ok (.getfield 90, 3) := by decide +kernel
theorem dX9_labelChar_4 : decode cX9_labelChar 4 = .ok (.aload_n 0, 1) := by decide +kernel
theorem dX9_labelChar_5 : decode cX9_labelChar 5 = .ok (.getfield 87, 3) := by decide +kernel
theorem dX9_labelChar_8 : decode cX9_labelChar 8 = .ok (.if_icmp .ge 15, 3) := by decide +kernel
theorem dX9_labelChar_11 : decode cX9_labelChar 11 = .ok (.aload_n 0, 1) := by decide +kernel
theorem dX9_labelChar_12 : decode cX9_labelChar 12 = .ok (.getfield 7, 3) := by decide +kernel
theorem dX9_labelChar_15 : decode cX9_labelChar 15 = .ok (.aload_n 0, 1) := by decide +kernel
theorem dX9_labelChar_16 : decode cX9_labelChar 16 = .ok (.getfield 90, 3) := by decide +kernel
theorem dX9_labelChar_19 : decode cX9_labelChar 19 = .ok (.iaload, 1) := by decide +kernel
theorem dX9_labelChar_20 : decode cX9_labelChar 20 = .ok (.goto 4, 3) := by decide +kernel
theorem dX9_labelChar_23 : decode cX9_labelChar 23 = .ok (.iconst 0, 1) := by decide +kernel
theorem dX9_labelChar_24 : decode cX9_labelChar 24 = .ok (.istore_n 1, 1) := by decide +kernel
theorem dX9_labelChar_25 : decode cX9_labelChar 25 = .ok (.iload_n 1, 1) := by decide +kernel
theorem dX9_labelChar_26 : decode cX9_labelChar 26 = .ok (.bipush 46, 2) := by decide +kernel
theorem dX9_labelChar_28 : decode cX9_labelChar 28 = .ok (.if_icmp .ne 7, 3) := by decide +kernel
theorem dX9_labelChar_31 : decode cX9_labelChar 31 = .ok (.iconst 0, 1) := by decide +kernel
theorem dX9_labelChar_32 : decode cX9_labelChar 32 = .ok (.goto 47, 3) := by decide +kernel
theorem dX9_labelChar_35 : decode cX9_labelChar 35 = .ok (.iload_n 1, 1) := by decide +kernel
theorem dX9_labelChar_36 : decode cX9_labelChar 36 = .ok (.i2l, 1) := by decide +kernel
theorem dX9_labelChar_37 : decode cX9_labelChar 37 = .ok (.ldc2_w 93, 3) := by decide +kernel
theorem dX9_labelChar_40 : decode cX9_labelChar 40 = .ok (.ldc2_w 95, 3) := by decide +kernel
theorem dX9_labelChar_43 : decode cX9_labelChar 43 = .ok (.invokestatic 57, 3) := by decide +kernel
theorem dX9_labelChar_46 : decode cX9_labelChar 46 = .ok (.ifCond .eq 10, 3) := by decide +kernel
theorem dX9_labelChar_49 : decode cX9_labelChar 49 = .ok (.iload_n 1, 1) := by decide +kernel
theorem dX9_labelChar_50 : decode cX9_labelChar 50 = .ok (.bipush 96, 2) := by decide +kernel
theorem dX9_labelChar_52 : decode cX9_labelChar 52 = .ok (.isub, 1) := by decide +kernel
theorem dX9_labelChar_53 : decode cX9_labelChar 53 = .ok (.goto 26, 3) := by decide +kernel
theorem dX9_labelChar_56 : decode cX9_labelChar 56 = .ok (.iload_n 1, 1) := by decide +kernel
theorem dX9_labelChar_57 : decode cX9_labelChar 57 = .ok (.i2l, 1) := by decide +kernel
theorem dX9_labelChar_58 : decode cX9_labelChar 58 = .ok (.ldc2_w 97, 3) := by decide +kernel
theorem dX9_labelChar_61 : decode cX9_labelChar 61 = .ok (.ldc2_w 99, 3) := by decide +kernel
theorem dX9_labelChar_64 : decode cX9_labelChar 64 = .ok (.invokestatic 57, 3) := by decide +kernel
theorem dX9_labelChar_67 : decode cX9_labelChar 67 = .ok (.ifCond .eq 10, 3) := by decide +kernel
theorem dX9_labelChar_70 : decode cX9_labelChar 70 = .ok (.iload_n 1, 1) := by decide +kernel
theorem dX9_labelChar_71 : decode cX9_labelChar 71 = .ok (.bipush 61, 2) := by decide +kernel
theorem dX9_labelChar_73 : decode cX9_labelChar 73 = .ok (.isub, 1) := by decide +kernel
theorem dX9_labelChar_74 : decode cX9_labelChar 74 = .ok (.goto 5, 3) := by decide +kernel
theorem dX9_labelChar_77 : decode cX9_labelChar 77 = .ok (.bipush (-9), 2) := by decide +kernel
theorem dX9_labelChar_79 : decode cX9_labelChar 79 = .ok (.istore_n 2, 1) := by decide +kernel
theorem dX9_labelChar_80 : decode cX9_labelChar 80 = .ok (.aload_n 0, 1) := by decide +kernel
theorem dX9_labelChar_81 : decode cX9_labelChar 81 = .ok (.dup, 1) := by decide +kernel
theorem dX9_labelChar_82 : decode cX9_labelChar 82 = .ok (.getfield 90, 3) := by decide +kernel
theorem dX9_labelChar_85 : decode cX9_labelChar 85 = .ok (.iload_n 2, 1) := by decide +kernel
theorem dX9_labelChar_86 : decode cX9_labelChar 86 = .ok (.bipush (-9), 2) := by decide +kernel
theorem dX9_labelChar_88 : decode cX9_labelChar 88 = .ok (.if_icmp .ne 7, 3) := by decide +kernel
theorem dX9_labelChar_91 : decode cX9_labelChar 91 = .ok (.iconst 0, 1) := by decide +kernel
theorem dX9_labelChar_92 : decode cX9_labelChar 92 = .ok (.goto 4, 3) := by decide +kernel
theorem dX9_labelChar_95 : decode cX9_labelChar 95 = .ok (.iconst 1, 1) := by decide +kernel
theorem dX9_labelChar_96 : decode cX9_labelChar 96 = .ok (.iadd, 1) := by decide +kernel
theorem dX9_labelChar_97 : decode cX9_labelChar 97 = .ok (.putfield 90, 3) := by decide +kernel
theorem dX9_labelChar_100 : decode cX9_labelChar 100 = .ok (.iload_n 2, 1) := by decide +kernel
theorem dX9_labelChar_101 : decode cX9_labelChar 101 = .ok (.ireturn, 1) := by decide +kernel
set_option maxRecDepth 20000 in
theorem ggX9_errorPosition_X9_digit : GoodIn wsX9_errorPosition wsX9_digit := goodIn_r _ [11, 2, 4, 5, 12, 13, 10, 14, 26, 27, 28, 29, 30, 31, 32, 33, 34, 35, 36, 37, 38, 39, 40, 41, 42, 43, 44, 45, 46] (by decide +kernel) (by decide +kernel)
set_option maxRecDepth 20000 in
theorem gX9_errorPosition_X9_digit : GoodIn wsX9_errorPosition (wsV RX9 101 RX9 yX9_digit wsX9_digit) := goodIn_app (goodIn_of _ (by decide +kernel)) ggX9_errorPosition_X9_digit
set_option maxRecDepth 20000 in
theorem ggX9_errorPosition_X9_labelChar : GoodIn wsX9_errorPosition wsX9_labelChar := goodIn_r _ [18, 2, 4, 5, 19, 20, 21, 22, 12, 13, 10, 14, 26, 27, 28, 29, 30, 31, 32, 33, 34, 35, 36, 37, 38, 39, 40, 41, 42, 43, 44, 45, 46] (by decide +kernel) (by decide +kernel)
set_option maxRecDepth 20000 in
theorem gX9_errorPosition_X9_labelChar : GoodIn wsX9_errorPosition (wsV RX9 108 RX9 yX9_labelChar wsX9_labelChar) := goodIn_app (goodIn_of _ (by decide +kernel)) ggX9_errorPosition_X9_labelChar
set_option maxRecDepth 20000 in
theorem ggX9_errorPosition_X9_put : GoodIn wsX9_errorPosition wsX9_put := goodIn_r _ [25] (by decide +kernel) (by decide +kernel)
set_option maxRecDepth 20000 in
theorem gX9_errorPosition_X9_put : GoodIn wsX9_errorPosition (va_wsS RX9 111 yX9_put wsX9_put) := goodIn_app (goodIn_of _ (by decide +kernel)) ggX9_errorPosition_X9_put
theorem dX9_errorPosition_0 : decode cX9_errorPosition 0 = .ok (.aload_n 0, 1) := by decide +kernel
theorem dX9_errorPosition_1 : decode cX9_errorPosition 1 = .ok (.iconst 0, 1) := by decide +kernel
theorem dX9_errorPosition_2 : decode cX9_errorPosition 2 = .ok (.putfield 54, 3) := by decide +kernel
theorem dX9_errorPosition_5 : decode cX9_errorPosition 5 = .ok (.aload_n 0, 1) := by decide +kernel
theorem dX9_errorPosition_6 : decode cX9_errorPosition 6 = .ok (.iconst 0, 1) := by decide +kernel
theorem dX9_errorPosition_7 : decode cX9_errorPosition 7 = .ok (.putfield 90, 3) := by decide +kernel
theorem dX9_errorPosition_10 : decode cX9_errorPosition 10 = .ok (.aload_n 0, 1) := by decide +kernel
theorem dX9_errorPosition_11 : decode cX9_errorPosition 11 = .ok (.getfield 13, 3) := by decide +kernel
theorem dX9_errorPosition_14 : decode cX9_errorPosition 14 = .ok (.iconst 0, 1) := by decide +kernel
theorem dX9_errorPosition_15 : decode cX9_errorPosition 15 = .ok (.iconst 0, 1) := by decide +kernel
theorem dX9_errorPosition_16 : decode cX9_errorPosition 16 = .ok (.iastore, 1) := by decide +kernel
theorem dX9_errorPosition_17 : decode cX9_errorPosition 17 = .ok (.aload_n 0, 1) := by decide +kernel
theorem dX9_errorPosition_18 : decode cX9_errorPosition 18 = .ok (.getfield 87, 3) := by decide +kernel
theorem dX9_errorPosition_21 : decode cX9_errorPosition 21 = .ok (.ifCond .eq 14, 3) := by decide +kernel
theorem dX9_errorPosition_24 : decode cX9_errorPosition 24 = .ok (.aload_n 0, 1) := by decide +kernel
theorem dX9_errorPosition_25 : decode cX9_errorPosition 25 = .ok (.getfield 7, 3) := by decide +kernel
theorem dX9_errorPosition_28 : decode cX9_errorPosition 28 = .ok (.iconst 0, 1) := by decide +kernel
theorem dX9_errorPosition_29 : decode cX9_errorPosition 29 = .ok (.iaload, 1) := by decide +kernel
theorem dX9_errorPosition_30 : decode cX9_errorPosition 30 = .ok (.bipush 68, 2) := by decide +kernel
theorem dX9_errorPosition_32 : decode cX9_errorPosition 32 = .ok (.if_icmp .eq 5, 3) := by decide +kernel
theorem dX9_errorPosition_35 : decode cX9_errorPosition 35 = .ok (.iconst 0, 1) := by decide +kernel
theorem dX9_errorPosition_36 : decode cX9_errorPosition 36 = .ok (.ireturn, 1) := by decide +kernel
theorem dX9_errorPosition_37 : decode cX9_errorPosition 37 = .ok (.aload_n 0, 1) := by decide +kernel
theorem dX9_errorPosition_38 : decode cX9_errorPosition 38 = .ok (.iconst 1, 1) := by decide +kernel
theorem dX9_errorPosition_39 : decode cX9_errorPosition 39 = .ok (.putfield 90, 3) := by decide +kernel
theorem dX9_errorPosition_42 : decode cX9_errorPosition 42 = .ok (.aload_n 0, 1) := by decide +kernel
theorem dX9_errorPosition_43 : decode cX9_errorPosition 43 = .ok (.aload_n 0, 1) := by decide +kernel
theorem dX9_errorPosition_44 : decode cX9_errorPosition 44 = .ok (.iconst 1, 1) := by decide +kernel
theorem dX9_errorPosition_45 : decode cX9_errorPosition 45 = .ok (.bipush 8, 2) := by decide +kernel
theorem dX9_errorPosition_47 : decode cX9_errorPosition 47 = .ok (.invokevirtual 101, 3) := by decide +kernel
theorem dX9_errorPosition_50 : decode cX9_errorPosition 50 = .ok (.putfield 105, 3) := by decide +kernel
theorem dX9_errorPosition_53 : decode cX9_errorPosition 53 = .ok (.aload_n 0, 1) := by decide +kernel
theorem dX9_errorPosition_54 : decode cX9_errorPosition 54 = .ok (.getfield 105, 3) := by decide +kernel
theorem dX9_errorPosition_57 : decode cX9_errorPosition 57 = .ok (.bipush (-9), 2) := by decide +kernel
theorem dX9_errorPosition_59 : decode cX9_errorPosition 59 = .ok (.if_icmp .ne 8, 3) := by decide +kernel
theorem dX9_errorPosition_62 : decode cX9_errorPosition 62 = .ok (.aload_n 0, 1) := by decide +kernel
theorem dX9_errorPosition_63 : decode cX9_errorPosition 63 = .ok (.getfield 90, 3) := by decide +kernel
theorem dX9_errorPosition_66 : decode cX9_errorPosition 66 = .ok (.ireturn, 1) := by decide +kernel
theorem dX9_errorPosition_67 : decode cX9_errorPosition 67 = .ok (.aload_n 0, 1) := by decide +kernel
theorem dX9_errorPosition_68 : decode cX9_errorPosition 68 = .ok (.getfield 90, 3) := by decide +kernel
theorem dX9_errorPosition_71 : decode cX9_errorPosition 71 = .ok (.aload_n 0, 1) := by decide +kernel
theorem dX9_errorPosition_72 : decode cX9_errorPosition 72 = .ok (.getfield 87, 3) := by decide +kernel
theorem dX9_errorPosition_75 : decode cX9_errorPosition 75 = .ok (.if_icmp .ge 94, 3) := by decide +kernel
theorem dX9_errorPosition_78 : decode cX9_errorPosition 78 = .ok (.aload_n 0, 1) := by decide +kernel
theorem dX9_errorPosition_79 : decode cX9_errorPosition 79 = .ok (.getfield 13, 3) := by decide +kernel
theorem dX9_errorPosition_82 : decode cX9_errorPosition 82 = .ok (.iconst 0, 1) := by decide +kernel
theorem dX9_errorPosition_83 : decode cX9_errorPosition 83 = .ok (.iaload, 1) := by decide +kernel
theorem dX9_errorPosition_84 : decode cX9_errorPosition 84 = .ok (.bipush 16, 2) := by decide +kernel
theorem dX9_errorPosition_86 : decode cX9_errorPosition 86 = .ok (.if_icmp .ne 8, 3) := by decide +kernel
theorem dX9_errorPosition_89 : decode cX9_errorPosition 89 = .ok (.bipush (-9), 2) := by decide +kernel
theorem dX9_errorPosition_91 : decode cX9_errorPosition 91 = .ok (.goto 14, 3) := by decide +kernel
theorem dX9_errorPosition_94 : decode cX9_errorPosition 94 = .ok (.aload_n 0, 1) := by decide +kernel
theorem dX9_errorPosition_95 : decode cX9_errorPosition 95 = .ok (.iconst 0, 1) := by decide +kernel
theorem dX9_errorPosition_96 : decode cX9_errorPosition 96 = .ok (.aload_n 0, 1) := by decide +kernel
theorem dX9_errorPosition_97 : decode cX9_errorPosition 97 = .ok (.getfield 105, 3) := by decide +kernel
theorem dX9_errorPosition_100 : decode cX9_errorPosition 100 = .ok (.iconst 1, 1) := by decide +kernel
theorem dX9_errorPosition_101 : decode cX9_errorPosition 101 = .ok (.isub, 1) := by decide +kernel
theorem dX9_errorPosition_102 : decode cX9_errorPosition 102 = .ok (.invokevirtual 101, 3) := by decide +kernel
theorem dX9_errorPosition_105 : decode cX9_errorPosition 105 = .ok (.istore_n 1, 1) := by decide +kernel
theorem dX9_errorPosition_106 : decode cX9_errorPosition 106 = .ok (.iload_n 1, 1) := by decide +kernel
theorem dX9_errorPosition_107 : decode cX9_errorPosition 107 = .ok (.bipush (-9), 2) := by decide +kernel
theorem dX9_errorPosition_109 : decode cX9_errorPosition 109 = .ok (.if_icmp .ne 8, 3) := by decide +kernel
theorem dX9_errorPosition_112 : decode cX9_errorPosition 112 = .ok (.bipush (-9), 2) := by decide +kernel
theorem dX9_errorPosition_114 : decode cX9_errorPosition 114 = .ok (.goto 14, 3) := by decide +kernel
theorem dX9_errorPosition_117 : decode cX9_errorPosition 117 = .ok (.aload_n 0, 1) := by decide +kernel
theorem dX9_errorPosition_118 : decode cX9_errorPosition 118 = .ok (.iconst 0, 1) := by decide +kernel
theorem dX9_errorPosition_119 : decode cX9_errorPosition 119 = .ok (.aload_n 0, 1) := by decide +kernel
theorem dX9_errorPosition_120 : decode cX9_errorPosition 120 = .ok (.getfield 105, 3) := by decide +kernel
theorem dX9_errorPosition_123 : decode cX9_errorPosition 123 = .ok (.iconst 1, 1) := by decide +kernel
theorem dX9_errorPosition_124 : decode cX9_errorPosition 124 = .ok (.isub, 1) := by decide +kernel
theorem dX9_errorPosition_125 : decode cX9_errorPosition 125 = .ok (.invokevirtual 101, 3) := by decide +kernel
theorem dX9_errorPosition_128 : decode cX9_errorPosition 128 = .ok (.istore_n 2, 1) := by decide +kernel
theorem dX9_errorPosition_129 : decode cX9_errorPosition 129 = .ok (.iload_n 2, 1) := by decide +kernel
theorem dX9_errorPosition_130 : decode cX9_errorPosition 130 = .ok (.bipush (-9), 2) := by decide +kernel
theorem dX9_errorPosition_132 : decode cX9_errorPosition 132 = .ok (.if_icmp .ne 8, 3) := by decide +kernel
theorem dX9_errorPosition_135 : decode cX9_errorPosition 135 = .ok (.bipush (-9), 2) := by decide +kernel
theorem dX9_errorPosition_137 : decode cX9_errorPosition 137 = .ok (.goto 7, 3) := by decide +kernel
theorem dX9_errorPosition_140 : decode cX9_errorPosition 140 = .ok (.aload_n 0, 1) := by decide +kernel
theorem dX9_errorPosition_141 : decode cX9_errorPosition 141 = .ok (.invokevirtual 108, 3) := by decide +kernel
theorem dX9_errorPosition_144 : decode cX9_errorPosition 144 = .ok (.istore_n 3, 1) := by decide +kernel
theorem dX9_errorPosition_145 : decode cX9_errorPosition 145 = .ok (.iload_n 3, 1) := by decide +kernel
theorem dX9_errorPosition_146 : decode cX9_errorPosition 146 = .ok (.bipush (-9), 2) := by decide +kernel
theorem dX9_errorPosition_148 : decode cX9_errorPosition 148 = .ok (.if_icmp .ne 8, 3) := by decide +kernel
theorem dX9_errorPosition_151 : decode cX9_errorPosition 151 = .ok (.aload_n 0, 1) := by decide +kernel
theorem dX9_errorPosition_152 : decode cX9_errorPosition 152 = .ok (.getfield 90, 3) := by decide +kernel
theorem dX9_errorPosition_155 : decode cX9_errorPosition 155 = .ok (.ireturn, 1) := by decide +kernel
theorem dX9_errorPosition_156 : decode cX9_errorPosition 156 = .ok (.aload_n 0, 1) := by decide +kernel
theorem dX9_errorPosition_157 : decode cX9_errorPosition 157 = .ok (.getfield 13, 3) := by decide +kernel
theorem dX9_errorPosition_160 : decode cX9_errorPosition 160 = .ok (.iload_n 1, 1) := by decide +kernel
theorem dX9_errorPosition_161 : decode cX9_errorPosition 161 = .ok (.iload_n 2, 1) := by decide +kernel
theorem dX9_errorPosition_162 : decode cX9_errorPosition 162 = .ok (.iload_n 3, 1) := by decide +kernel
theorem dX9_errorPosition_163 : decode cX9_errorPosition 163 = .ok (.invokestatic 111, 3) := by decide +kernel
theorem dX9_errorPosition_166 : decode cX9_errorPosition 166 = .ok (.goto (-99), 3) := by decide +kernel
theorem dX9_errorPosition_169 : decode cX9_errorPosition 169 = .ok (.bipush (-9), 2) := by decide +kernel
theorem dX9_errorPosition_171 : decode cX9_errorPosition 171 = .ok (.ireturn, 1) := by decide +kernel
theorem dX9_put_0 : decode cX9_put 0 = .ok (.iconst 1, 1) := by decide +kernel
theorem dX9_put_1 : decode cX9_put 1 = .ok (.iconst 3, 1) := by decide +kernel
theorem dX9_put_2 : decode cX9_put 2 = .ok (.aload_n 0, 1) := by decide +kernel
theorem dX9_put_3 : decode cX9_put 3 = .ok (.iconst 0, 1) := by decide +kernel
theorem dX9_put_4 : decode cX9_put 4 = .ok (.iaload, 1) := by decide +kernel
theorem dX9_put_5 : decode cX9_put 5 = .ok (.imul, 1) := by decide +kernel
theorem dX9_put_6 : decode cX9_put 6 = .ok (.iadd, 1) := by decide +kernel
theorem dX9_put_7 : decode cX9_put 7 = .ok (.istore 4, 2) := by decide +kernel
theorem dX9_put_9 : decode cX9_put 9 = .ok (.aload_n 0, 1) := by decide +kernel
theorem dX9_put_10 : decode cX9_put 10 = .ok (.iload 4, 2) := by decide +kernel
theorem dX9_put_12 : decode cX9_put 12 = .ok (.iload_n 1, 1) := by decide +kernel
theorem dX9_put_13 : decode cX9_put 13 = .ok (.iastore, 1) := by decide +kernel
theorem dX9_put_14 : decode cX9_put 14 = .ok (.aload_n 0, 1) := by decide +kernel
theorem dX9_put_15 : decode cX9_put 15 = .ok (.iload 4, 2) := by decide +kernel
theorem dX9_put_17 : decode cX9_put 17 = .ok (.iconst 1, 1) := by decide +kernel
theorem dX9_put_18 : decode cX9_put 18 = .ok (.iadd, 1) := by decide +kernel
theorem dX9_put_19 : decode cX9_put 19 = .ok (.iload_n 2, 1) := by decide +kernel
theorem dX9_put_20 : decode cX9_put 20 = .ok (.iastore, 1) := by decide +kernel
theorem dX9_put_21 : decode cX9_put 21 = .ok (.aload_n 0, 1) := by decide +kernel
theorem dX9_put_22 : decode cX9_put 22 = .ok (.iload 4, 2) := by decide +kernel
theorem dX9_put_24 : decode cX9_put 24 = .ok (.iconst 2, 1) := by decide +kernel
theorem dX9_put_25 : decode cX9_put 25 = .ok (.iadd, 1) := by decide +kernel
theorem dX9_put_26 : decode cX9_put 26 = .ok (.iload_n 3, 1) := by decide +kernel
theorem dX9_put_27 : decode cX9_put 27 = .ok (.iastore, 1) := by decide +kernel
theorem dX9_put_28 : decode cX9_put 28 = .ok (.aload_n 0, 1) := by decide +kernel
theorem dX9_put_29 : decode cX9_put 29 = .ok (.iconst 0, 1) := by decide +kernel
theorem dX9_put_30 : decode cX9_put 30 = .ok (.dup2, 1) := by decide +kernel
theorem dX9_put_31 : decode cX9_put 31 = .ok (.iaload, 1) := by decide +kernel
theorem dX9_put_32 : decode cX9_put 32 = .ok (.iconst 1, 1) := by decide +kernel
theorem dX9_put_33 : decode cX9_put 33 = .ok (.iadd, 1) := by decide +kernel
theorem dX9_put_34 : decode cX9_put 34 = .ok (.iastore, 1) := by decide +kernel
theorem dX9_put_35 : decode cX9_put 35 = .ok (.return_, 1) := by decide +kernel
theorem dX9_drop_0 : decode cX9_drop 0 = .ok (.iconst 1, 1) := by decide +kernel
theorem dX9_drop_1 : decode cX9_drop 1 = .ok (.iconst 3, 1) := by decide +kernel
theorem dX9_drop_2 : decode cX9_drop 2 = .ok (.iload_n 1, 1) := by decide +kernel
theorem dX9_drop_3 : decode cX9_drop 3 = .ok (.imul, 1) := by decide +kernel
theorem dX9_drop_4 : decode cX9_drop 4 = .ok (.iadd, 1) := by decide +kernel
theorem dX9_drop_5 : decode cX9_drop 5 = .ok (.istore_n 2, 1) := by decide +kernel
theorem dX9_drop_6 : decode cX9_drop 6 = .ok (.iload_n 2, 1) := by decide +kernel
theorem dX9_drop_7 : decode cX9_drop 7 = .ok (.iconst 3, 1) := by decide +kernel
theorem dX9_drop_8 : decode cX9_drop 8 = .ok (.iadd, 1) := by decide +kernel
theorem dX9_drop_9 : decode cX9_drop 9 = .ok (.bipush 49, 2) := by decide +kernel
theorem dX9_drop_11 : decode cX9_drop 11 = .ok (.if_icmp .ge 17, 3) := by decide +kernel
theorem dX9_drop_14 : decode cX9_drop 14 = .ok (.aload_n 0, 1) := by decide +kernel
theorem dX9_drop_15 : decode cX9_drop 15 = .ok (.iload_n 2, 1) := by decide +kernel
theorem dX9_drop_16 : decode cX9_drop 16 = .ok (.aload_n 0, 1) := by decide +kernel
theorem dX9_drop_17 : decode cX9_drop 17 = .ok (.iload_n 2, 1) := by decide +kernel
theorem dX9_drop_18 : decode cX9_drop 18 = .ok (.iconst 3, 1) := by decide +kernel
theorem dX9_drop_19 : decode cX9_drop 19 = .ok (.iadd, 1) := by decide +kernel
theorem dX9_drop_20 : decode cX9_drop 20 = .ok (.iaload, 1) := by decide +kernel
theorem dX9_drop_21 : decode cX9_drop 21 = .ok (.iastore, 1) := by decide +kernel
theorem dX9_drop_22 : decode cX9_drop 22 = .ok (.iinc 2 1, 3) := by decide +kernel
theorem dX9_drop_25 : decode cX9_drop 25 = .ok (.goto (-19), 3) := by decide +kernel
theorem dX9_drop_28 : decode cX9_drop 28 = .ok (.aload_n 0, 1) := by decide +kernel
theorem dX9_drop_29 : decode cX9_drop 29 = .ok (.iconst 0, 1) := by decide +kernel
theorem dX9_drop_30 : decode cX9_drop 30 = .ok (.dup2, 1) := by decide +kernel
theorem dX9_drop_31 : decode cX9_drop 31 = .ok (.iaload, 1) := by decide +kernel
theorem dX9_drop_32 : decode cX9_drop 32 = .ok (.iconst 1, 1) := by decide +kernel
theorem dX9_drop_33 : decode cX9_drop 33 = .ok (.isub, 1) := by decide +kernel
theorem dX9_drop_34 : decode cX9_drop 34 = .ok (.iastore, 1) := by decide +kernel
theorem dX9_drop_35 : decode cX9_drop 35 = .ok (.return_, 1) := by decide +kernel
set_option maxRecDepth 20000 in
theorem ggX9_load_X9_errorPosition : GoodIn wsX9_load wsX9_errorPosition := goodIn_r _ [12, 1, 13, 4, 14, 15, 2, 16, 17, 18, 11, 19, 20, 21, 22, 23, 24, 25, 26, 27, 28, 29, 30, 31, 32, 33, 37, 38, 39, 40, 41, 42, 43, 44, 45, 46, 47, 48, 49, 50, 51, 52, 53, 54, 55, 56, 57] (by decide +kernel) (by decide +kernel)
set_option maxRecDepth 20000 in
theorem gX9_load_X9_errorPosition : GoodIn wsX9_load (wsV RX9 115 RX9 yX9_errorPosition wsX9_errorPosition) := goodIn_app (goodIn_of _ (by decide +kernel)) ggX9_load_X9_errorPosition
set_option maxRecDepth 20000 in
theorem ggX9_load_X9_assign : GoodIn wsX9_load wsX9_assign := goodIn_r _ [36] (by decide +kernel) (by decide +kernel)
set_option maxRecDepth 20000 in
theorem gX9_load_X9_assign : GoodIn wsX9_load (va_wsS RX9 118 yX9_assign wsX9_assign) := goodIn_app (goodIn_of _ (by decide +kernel)) ggX9_load_X9_assign
theorem dX9_load_0 : decode cX9_load 0 = .ok (.aload_n 0, 1) := by decide +kernel
theorem dX9_load_1 : decode cX9_load 1 = .ok (.iconst 0, 1) := by decide +kernel
theorem dX9_load_2 : decode cX9_load 2 = .ok (.putfield 54, 3) := by decide +kernel
theorem dX9_load_5 : decode cX9_load 5 = .ok (.aload_n 0, 1) := by decide +kernel
theorem dX9_load_6 : decode cX9_load 6 = .ok (.invokevirtual 115, 3) := by decide +kernel
theorem dX9_load_9 : decode cX9_load 9 = .ok (.bipush (-9), 2) := by decide +kernel
theorem dX9_load_11 : decode cX9_load 11 = .ok (.if_icmp .eq 6, 3) := by decide +kernel
theorem dX9_load_14 : decode cX9_load 14 = .ok (.bipush (-3), 2) := by decide +kernel
theorem dX9_load_16 : decode cX9_load 16 = .ok (.ireturn, 1) := by decide +kernel
theorem dX9_load_17 : decode cX9_load 17 = .ok (.aload_n 0, 1) := by decide +kernel
theorem dX9_load_18 : decode cX9_load 18 = .ok (.aload_n 0, 1) := by decide +kernel
theorem dX9_load_19 : decode cX9_load 19 = .ok (.getfield 105, 3) := by decide +kernel
theorem dX9_load_22 : decode cX9_load 22 = .ok (.putfield 16, 3) := by decide +kernel
theorem dX9_load_25 : decode cX9_load 25 = .ok (.aload_n 0, 1) := by decide +kernel
theorem dX9_load_26 : decode cX9_load 26 = .ok (.getfield 13, 3) := by decide +kernel
theorem dX9_load_29 : decode cX9_load 29 = .ok (.aload_n 0, 1) := by decide +kernel
theorem dX9_load_30 : decode cX9_load 30 = .ok (.getfield 20, 3) := by decide +kernel
theorem dX9_load_33 : decode cX9_load 33 = .ok (.invokestatic 118, 3) := by decide +kernel
theorem dX9_load_36 : decode cX9_load 36 = .ok (.aload_n 0, 1) := by decide +kernel
theorem dX9_load_37 : decode cX9_load 37 = .ok (.iconst 0, 1) := by decide +kernel
theorem dX9_load_38 : decode cX9_load 38 = .ok (.putfield 122, 3) := by decide +kernel
theorem dX9_load_41 : decode cX9_load 41 = .ok (.aload_n 0, 1) := by decide +kernel
theorem dX9_load_42 : decode cX9_load 42 = .ok (.getfield 32, 3) := by decide +kernel
theorem dX9_load_45 : decode cX9_load 45 = .ok (.iconst 0, 1) := by decide +kernel
theorem dX9_load_46 : decode cX9_load 46 = .ok (.iconst 0, 1) := by decide +kernel
theorem dX9_load_47 : decode cX9_load 47 = .ok (.bastore, 1) := by decide +kernel
theorem dX9_load_48 : decode cX9_load 48 = .ok (.aload_n 0, 1) := by decide +kernel
theorem dX9_load_49 : decode cX9_load 49 = .ok (.getfield 32, 3) := by decide +kernel
theorem dX9_load_52 : decode cX9_load 52 = .ok (.iconst 1, 1) := by decide +kernel
theorem dX9_load_53 : decode cX9_load 53 = .ok (.iconst 0, 1) := by decide +kernel
theorem dX9_load_54 : decode cX9_load 54 = .ok (.bastore, 1) := by decide +kernel
theorem dX9_load_55 : decode cX9_load 55 = .ok (.aload_n 0, 1) := by decide +kernel
theorem dX9_load_56 : decode cX9_load 56 = .ok (.getfield 20, 3) := by decide +kernel
theorem dX9_load_59 : decode cX9_load 59 = .ok (.iconst 0, 1) := by decide +kernel
theorem dX9_load_60 : decode cX9_load 60 = .ok (.iaload, 1) := by decide +kernel
theorem dX9_load_61 : decode cX9_load 61 = .ok (.ireturn, 1) := by decide +kernel
theorem dX9_vertexCount_0 : decode cX9_vertexCount 0 = .ok (.aload_n 0, 1) := by decide +kernel
theorem dX9_vertexCount_1 : decode cX9_vertexCount 1 = .ok (.iconst 0, 1) := by decide +kernel
theorem dX9_vertexCount_2 : decode cX9_vertexCount 2 = .ok (.putfield 54, 3) := by decide +kernel
theorem dX9_vertexCount_5 : decode cX9_vertexCount 5 = .ok (.aload_n 0, 1) := by decide +kernel
theorem dX9_vertexCount_6 : decode cX9_vertexCount 6 = .ok (.getfield 16, 3) := by decide +kernel
theorem dX9_vertexCount_9 : decode cX9_vertexCount 9 = .ok (.ireturn, 1) := by decide +kernel
theorem dX9_edgeCount_0 : decode cX9_edgeCount 0 = .ok (.aload_n 0, 1) := by decide +kernel
theorem dX9_edgeCount_1 : decode cX9_edgeCount 1 = .ok (.iconst 0, 1) := by decide +kernel
theorem dX9_edgeCount_2 : decode cX9_edgeCount 2 = .ok (.putfield 54, 3) := by decide +kernel
theorem dX9_edgeCount_5 : decode cX9_edgeCount 5 = .ok (.aload_n 0, 1) := by decide +kernel
theorem dX9_edgeCount_6 : decode cX9_edgeCount 6 = .ok (.getfield 20, 3) := by decide +kernel
theorem dX9_edgeCount_9 : decode cX9_edgeCount 9 = .ok (.iconst 0, 1) := by decide +kernel
theorem dX9_edgeCount_10 : decode cX9_edgeCount 10 = .ok (.iaload, 1) := by decide +kernel
theorem dX9_edgeCount_11 : decode cX9_edgeCount 11 = .ok (.ireturn, 1) := by decide +kernel
set_option maxRecDepth 20000 in
theorem ggX9_source_X9_noEdge : GoodIn wsX9_source wsX9_noEdge := goodIn_r _ [7, 2, 8, 9, 6, 10, 11, 12, 13, 14, 15, 16, 17, 18, 19, 20, 21, 22, 23, 24, 25, 26, 27, 28, 29, 30, 31] (by decide +kernel) (by decide +kernel)
set_option maxRecDepth 20000 in
theorem gX9_source_X9_noEdge : GoodIn wsX9_source (wsV RX9 125 RX9 yX9_noEdge wsX9_noEdge) := goodIn_app (goodIn_of _ (by decide +kernel)) ggX9_source_X9_noEdge
theorem dX9_source_0 : decode cX9_source 0 = .ok (.aload_n 0, 1) := by decide +kernel
theorem dX9_source_1 : decode cX9_source 1 = .ok (.iconst 0, 1) := by decide +kernel
theorem dX9_source_2 : decode cX9_source 2 = .ok (.putfield 54, 3) := by decide +kernel
theorem dX9_source_5 : decode cX9_source 5 = .ok (.aload_n 0, 1) := by decide +kernel
theorem dX9_source_6 : decode cX9_source 6 = .ok (.iload_n 1, 1) := by decide +kernel
theorem dX9_source_7 : decode cX9_source 7 = .ok (.invokevirtual 125, 3) := by decide +kernel
theorem dX9_source_10 : decode cX9_source 10 = .ok (.ifCond .eq 7, 3) := by decide +kernel
theorem dX9_source_13 : decode cX9_source 13 = .ok (.iconst (-1), 1) := by decide +kernel
theorem dX9_source_14 : decode cX9_source 14 = .ok (.goto 13, 3) := by decide +kernel
theorem dX9_source_17 : decode cX9_source 17 = .ok (.aload_n 0, 1) := by decide +kernel
theorem dX9_source_18 : decode cX9_source 18 = .ok (.getfield 20, 3) := by decide +kernel
theorem dX9_source_21 : decode cX9_source 21 = .ok (.iconst 1, 1) := by decide +kernel
theorem dX9_source_22 : decode cX9_source 22 = .ok (.iconst 3, 1) := by decide +kernel
theorem dX9_source_23 : decode cX9_source 23 = .ok (.iload_n 1, 1) := by decide +kernel
theorem dX9_source_24 : decode cX9_source 24 = .ok (.imul, 1) := by decide +kernel
theorem dX9_source_25 : decode cX9_source 25 = .ok (.iadd, 1) := by decide +kernel
theorem dX9_source_26 : decode cX9_source 26 = .ok (.iaload, 1) := by decide +kernel
theorem dX9_source_27 : decode cX9_source 27 = .ok (.ireturn, 1) := by decide +kernel
set_option maxRecDepth 20000 in
theorem ggX9_target_X9_noEdge : GoodIn wsX9_target wsX9_noEdge := goodIn_r _ [7, 2, 8, 9, 6, 10, 11, 12, 13, 14, 15, 16, 17, 18, 19, 20, 21, 22, 23, 24, 25, 26, 27, 28, 29, 30, 31] (by decide +kernel) (by decide +kernel)
set_option maxRecDepth 20000 in
theorem gX9_target_X9_noEdge : GoodIn wsX9_target (wsV RX9 125 RX9 yX9_noEdge wsX9_noEdge) := goodIn_app (goodIn_of _ (by decide +kernel)) ggX9_target_X9_noEdge
theorem dX9_target_0 : decode cX9_target 0 = .ok (.aload_n 0, 1) := by decide +kernel
theorem dX9_target_1 : decode cX9_target 1 = .ok (.iconst 0, 1) := by decide +kernel
theorem dX9_target_2 : decode cX9_target 2 = .ok (.putfield 54, 3) := by decide +kernel
theorem dX9_target_5 : decode cX9_target 5 = .ok (.aload_n 0, 1) := by decide +kernel
theorem dX9_target_6 : decode cX9_target 6 = .ok (.iload_n 1, 1) := by decide +kernel
theorem dX9_target_7 : decode cX9_target 7 = .ok (.invokevirtual 125, 3) := by decide +kernel
theorem dX9_target_10 : decode cX9_target 10 = .ok (.ifCond .eq 7, 3) := by decide +kernel
theorem dX9_target_13 : decode cX9_target 13 = .ok (.iconst (-1), 1) := by decide +kernel
theorem dX9_target_14 : decode cX9_target 14 = .ok (.goto 13, 3) := by decide +kernel
theorem dX9_target_17 : decode cX9_target 17 = .ok (.aload_n 0, 1) := by decide +kernel
theorem dX9_target_18 : decode cX9_target 18 = .ok (.getfield 20, 3) := by decide +kernel
theorem dX9_target_21 : decode cX9_target 21 = .ok (.iconst 2, 1) := by decide +kernel
theorem dX9_target_22 : decode cX9_target 22 = .ok (.iconst 3, 1) := by decide +kernel
theorem dX9_target_23 : decode cX9_target 23 = .ok (.iload_n 1, 1) := by decide +kernel
theorem dX9_target_24 : decode cX9_target 24 = .ok (.imul, 1) := by decide +kernel
theorem dX9_target_25 : decode cX9_target 25 = .ok (.iadd, 1) := by decide +kernel
theorem dX9_target_26 : decode cX9_target 26 = .ok (.iaload, 1) := by decide +kernel
theorem dX9_target_27 : decode cX9_target 27 = .ok (.ireturn, 1) := by decide +kernel
set_option maxRecDepth 20000 in
theorem ggX9_label_X9_noEdge : GoodIn wsX9_label wsX9_noEdge := goodIn_r _ [7, 2, 8, 9, 6, 10, 11, 12, 13, 14, 15, 16, 17, 18, 19, 20, 21, 22, 23, 24, 25, 26, 27, 28, 29, 30, 31] (by decide +kernel) (by decide +kernel)
set_option maxRecDepth 20000 in
theorem gX9_label_X9_noEdge : GoodIn wsX9_label (wsV RX9 125 RX9 yX9_noEdge wsX9_noEdge) := goodIn_app (goodIn_of _ (by decide +kernel)) ggX9_label_X9_noEdge
theorem dX9_label_0 : decode cX9_label 0 = .ok (.aload_n 0, 1) := by decide +kernel
theorem dX9_label_1 : decode cX9_label 1 = .ok (.iconst 0, 1) := by decide +kernel
theorem dX9_label_2 : decode cX9_label 2 = .ok (.putfield 54, 3) := by decide +kernel
theorem dX9_label_5 : decode cX9_label 5 = .ok (.aload_n 0, 1) := by decide +kernel
theorem dX9_label_6 : decode cX9_label 6 = .ok (.iload_n 1, 1) := by decide +kernel
theorem dX9_label_7 : decode cX9_label 7 = .ok (.invokevirtual 125, 3) := by decide +kernel
theorem dX9_label_10 : decode cX9_label 10 = .ok (.ifCond .eq 7, 3) := by decide +kernel
theorem dX9_label_13 : decode cX9_label 13 = .ok (.iconst (-1), 1) := by decide +kernel
theorem dX9_label_14 : decode cX9_label 14 = .ok (.goto 13, 3) := by decide +kernel
theorem dX9_label_17 : decode cX9_label 17 = .ok (.aload_n 0, 1) := by decide +kernel
theorem dX9_label_18 : decode cX9_label 18 = .ok (.getfield 20, 3) := by decide +kernel
theorem dX9_label_21 : decode cX9_label 21 = .ok (.iconst 3, 1) := by decide +kernel
theorem dX9_label_22 : decode cX9_label 22 = .ok (.iconst 3, 1) := by decide +kernel
theorem dX9_label_23 : decode cX9_label 23 = .ok (.iload_n 1, 1) := by decide +kernel
theorem dX9_label_24 : decode cX9_label 24 = .ok (.imul, 1) := by decide +kernel
theorem dX9_label_25 : decode cX9_label 25 = .ok (.iadd, 1) := by decide +kernel
theorem dX9_label_26 : decode cX9_label 26 = .ok (.iaload, 1) := by decide +kernel
theorem dX9_label_27 : decode cX9_label 27 = .ok (.ireturn, 1) := by decide +kernel
theorem dX9_remember_0 : decode cX9_remember 0 = .ok (.aload_n 0, 1) := by decide +kernel
theorem dX9_remember_1 : decode cX9_remember 1 = .ok (.getfield 122, 3) := by decide +kernel
theorem dX9_remember_4 : decode cX9_remember 4 = .ok (.bipush 14, 2) := by decide +kernel
theorem dX9_remember_6 : decode cX9_remember 6 = .ok (.if_icmp .ne 43, 3) := by decide +kernel
theorem dX9_remember_9 : decode cX9_remember 9 = .ok (.iconst 0, 1) := by decide +kernel
theorem dX9_remember_10 : decode cX9_remember 10 = .ok (.istore_n 1, 1) := by decide +kernel
theorem dX9_remember_11 : decode cX9_remember 11 = .ok (.iload_n 1, 1) := by decide +kernel
theorem dX9_remember_12 : decode cX9_remember 12 = .ok (.sipush 637, 3) := by decide +kernel
theorem dX9_remember_15 : decode cX9_remember 15 = .ok (.if_icmp .ge 24, 3) := by decide +kernel
theorem dX9_remember_18 : decode cX9_remember 18 = .ok (.aload_n 0, 1) := by decide +kernel
theorem dX9_remember_19 : decode cX9_remember 19 = .ok (.getfield 26, 3) := by decide +kernel
theorem dX9_remember_22 : decode cX9_remember 22 = .ok (.iload_n 1, 1) := by decide +kernel
theorem dX9_remember_23 : decode cX9_remember 23 = .ok (.aload_n 0, 1) := by decide +kernel
theorem dX9_remember_24 : decode cX9_remember 24 = .ok (.getfield 26, 3) := by decide +kernel
theorem dX9_remember_27 : decode cX9_remember 27 = .ok (.iload_n 1, 1) := by decide +kernel
theorem dX9_remember_28 : decode cX9_remember 28 = .ok (.bipush 49, 2) := by decide +kernel
theorem dX9_remember_30 : decode cX9_remember 30 = .ok (.iadd, 1) := by decide +kernel
theorem dX9_remember_31 : decode cX9_remember 31 = .ok (.iaload, 1) := by decide +kernel
theorem dX9_remember_32 : decode cX9_remember 32 = .ok (.iastore, 1) := by decide +kernel
theorem dX9_remember_33 : decode cX9_remember 33 = .ok (.iinc 1 1, 3) := by decide +kernel
theorem dX9_remember_36 : decode cX9_remember 36 = .ok (.goto (-25), 3) := by decide +kernel
theorem dX9_remember_39 : decode cX9_remember 39 = .ok (.aload_n 0, 1) := by decide +kernel
theorem dX9_remember_40 : decode cX9_remember 40 = .ok (.dup, 1) := by decide +kernel
theorem dX9_remember_41 : decode cX9_remember 41 = .ok (.getfield 122, 3) := by decide +kernel
theorem dX9_remember_44 : decode cX9_remember 44 = .ok (.iconst 1, 1) := by decide +kernel
theorem dX9_remember_45 : decode cX9_remember 45 = .ok (.isub, 1) := by decide +kernel
theorem dX9_remember_46 : decode cX9_remember 46 = .ok (.putfield 122, 3) := by decide +kernel
theorem dX9_remember_49 : decode cX9_remember 49 = .ok (.iconst 0, 1) := by decide +kernel
theorem dX9_remember_50 : decode cX9_remember 50 = .ok (.istore_n 1, 1) := by decide +kernel
theorem dX9_remember_51 : decode cX9_remember 51 = .ok (.iload_n 1, 1) := by decide +kernel
theorem dX9_remember_52 : decode cX9_remember 52 = .ok (.bipush 49, 2) := by decide +kernel
theorem dX9_remember_54 : decode cX9_remember 54 = .ok (.if_icmp .ge 29, 3) := by decide +kernel
theorem dX9_remember_57 : decode cX9_remember 57 = .ok (.aload_n 0, 1) := by decide +kernel
theorem dX9_remember_58 : decode cX9_remember 58 = .ok (.getfield 26, 3) := by decide +kernel
theorem dX9_remember_61 : decode cX9_remember 61 = .ok (.bipush 49, 2) := by decide +kernel
theorem dX9_remember_63 : decode cX9_remember 63 = .ok (.aload_n 0, 1) := by decide +kernel
theorem dX9_remember_64 : decode cX9_remember 64 = .ok (.getfield 122, 3) := by decide +kernel
theorem dX9_remember_67 : decode cX9_remember 67 = .ok (.imul, 1) := by decide +kernel
theorem dX9_remember_68 : decode cX9_remember 68 = .ok (.iload_n 1, 1) := by decide +kernel
theorem dX9_remember_69 : decode cX9_remember 69 = .ok (.iadd, 1) := by decide +kernel
theorem dX9_remember_70 : decode cX9_remember 70 = .ok (.aload_n 0, 1) := by decide +kernel
theorem dX9_remember_71 : decode cX9_remember 71 = .ok (.getfield 20, 3) := by decide +kernel
theorem dX9_remember_74 : decode cX9_remember 74 = .ok (.iload_n 1, 1) := by decide +kernel
theorem dX9_remember_75 : decode cX9_remember 75 = .ok (.iaload, 1) := by decide +kernel
theorem dX9_remember_76 : decode cX9_remember 76 = .ok (.iastore, 1) := by decide +kernel
theorem dX9_remember_77 : decode cX9_remember 77 = .ok (.iinc 1 1, 3) := by decide +kernel
theorem dX9_remember_80 : decode cX9_remember 80 = .ok (.goto (-29), 3) := by decide +kernel
theorem dX9_remember_83 : decode cX9_remember 83 = .ok (.aload_n 0, 1) := by decide +kernel
theorem dX9_remember_84 : decode cX9_remember 84 = .ok (.dup, 1) := by decide +kernel
theorem dX9_remember_85 : decode cX9_remember 85 = .ok (.getfield 122, 3) := by decide +kernel
theorem dX9_remember_88 : decode cX9_remember 88 = .ok (.iconst 1, 1) := by decide +kernel
theorem dX9_remember_89 : decode cX9_remember 89 = .ok (.iadd, 1) := by decide +kernel
theorem dX9_remember_90 : decode cX9_remember 90 = .ok (.putfield 122, 3) := by decide +kernel
theorem dX9_remember_93 : decode cX9_remember 93 = .ok (.return_, 1) := by decide +kernel
set_option maxRecDepth 20000 in
theorem ggX9_addEdge_X9_noVertex : GoodIn wsX9_addEdge wsX9_noVertex := goodIn_r _ [8, 9, 10, 11, 7, 12, 22, 23, 24, 25, 26, 27, 28, 29, 30, 31, 32, 33, 34, 35, 36, 37, 38, 39, 40, 41, 42] (by decide +kernel) (by decide +kernel)
set_option maxRecDepth 20000 in
theorem gX9_addEdge_X9_noVertex : GoodIn wsX9_addEdge (wsV RX9 129 RX9 yX9_noVertex wsX9_noVertex) := goodIn_app (goodIn_of _ (by decide +kernel)) ggX9_addEdge_X9_noVertex
set_option maxRecDepth 20000 in
theorem ggX9_addEdge_X9_in : GoodIn wsX9_addEdge wsX9_in := goodIn_r _ [12] (by decide +kernel) (by decide +kernel)
set_option maxRecDepth 20000 in
theorem gX9_addEdge_X9_in : GoodIn wsX9_addEdge (va_wsS RX9 57 yX9_in wsX9_in) := goodIn_app (goodIn_of _ (by decide +kernel)) ggX9_addEdge_X9_in
set_option maxRecDepth 20000 in
theorem ggX9_addEdge_X9_remember : GoodIn wsX9_addEdge wsX9_remember := goodIn_r _ [16, 17, 18, 3, 22, 23, 24, 25, 26, 27, 28, 29, 30, 31, 32, 33, 34, 35, 36, 37, 38, 39, 40, 41, 42] (by decide +kernel) (by decide +kernel)
set_option maxRecDepth 20000 in
theorem gX9_addEdge_X9_remember : GoodIn wsX9_addEdge (wsV RX9 134 RX9 yX9_remember wsX9_remember) := goodIn_app (goodIn_of _ (by decide +kernel)) ggX9_addEdge_X9_remember
set_option maxRecDepth 20000 in
theorem ggX9_addEdge_X9_put : GoodIn wsX9_addEdge wsX9_put := goodIn_r _ [21] (by decide +kernel) (by decide +kernel)
set_option maxRecDepth 20000 in
theorem gX9_addEdge_X9_put : GoodIn wsX9_addEdge (va_wsS RX9 111 yX9_put wsX9_put) := goodIn_app (goodIn_of _ (by decide +kernel)) ggX9_addEdge_X9_put
theorem dX9_addEdge_0 : decode cX9_addEdge 0 = .ok (.aload_n 0, 1) := by decide +kernel
theorem dX9_addEdge_1 : decode cX9_addEdge 1 = .ok (.iconst 0, 1) := by decide +kernel
theorem dX9_addEdge_2 : decode cX9_addEdge 2 = .ok (.putfield 54, 3) := by decide +kernel
theorem dX9_addEdge_5 : decode cX9_addEdge 5 = .ok (.aload_n 0, 1) := by decide +kernel
theorem dX9_addEdge_6 : decode cX9_addEdge 6 = .ok (.iload_n 1, 1) := by decide +kernel
theorem dX9_addEdge_7 : decode cX9_addEdge 7 = .ok (.invokevirtual 129, 3) := by decide +kernel
theorem dX9_addEdge_10 : decode cX9_addEdge 10 = .ok (.ifCond .ne 11, 3) := by decide +kernel
theorem dX9_addEdge_13 : decode cX9_addEdge 13 = .ok (.aload_n 0, 1) := by decide +kernel
theorem dX9_addEdge_14 : decode cX9_addEdge 14 = .ok (.iload_n 2, 1) := by decide +kernel
theorem dX9_addEdge_15 : decode cX9_addEdge 15 = .ok (.invokevirtual 129, 3) := by decide +kernel
theorem dX9_addEdge_18 : decode cX9_addEdge 18 = .ok (.ifCond .eq 5, 3) := by decide +kernel
theorem dX9_addEdge_21 : decode cX9_addEdge 21 = .ok (.iconst (-1), 1) := by decide +kernel
theorem dX9_addEdge_22 : decode cX9_addEdge 22 = .ok (.ireturn, 1) := by decide +kernel
theorem dX9_addEdge_23 : decode cX9_addEdge 23 = .ok (.iload_n 3, 1) := by decide +kernel
theorem dX9_addEdge_24 : decode cX9_addEdge 24 = .ok (.i2l, 1) := by decide +kernel
theorem dX9_addEdge_25 : decode cX9_addEdge 25 = .ok (.lconst 0, 1) := by decide +kernel
theorem dX9_addEdge_26 : decode cX9_addEdge 26 = .ok (.ldc2_w 132, 3) := by decide +kernel
theorem dX9_addEdge_29 : decode cX9_addEdge 29 = .ok (.invokestatic 57, 3) := by decide +kernel
theorem dX9_addEdge_32 : decode cX9_addEdge 32 = .ok (.ifCond .ne 6, 3) := by decide +kernel
theorem dX9_addEdge_35 : decode cX9_addEdge 35 = .ok (.bipush (-2), 2) := by decide +kernel
theorem dX9_addEdge_37 : decode cX9_addEdge 37 = .ok (.ireturn, 1) := by decide +kernel
theorem dX9_addEdge_38 : decode cX9_addEdge 38 = .ok (.aload_n 0, 1) := by decide +kernel
theorem dX9_addEdge_39 : decode cX9_addEdge 39 = .ok (.getfield 20, 3) := by decide +kernel
theorem dX9_addEdge_42 : decode cX9_addEdge 42 = .ok (.iconst 0, 1) := by decide +kernel
theorem dX9_addEdge_43 : decode cX9_addEdge 43 = .ok (.iaload, 1) := by decide +kernel
theorem dX9_addEdge_44 : decode cX9_addEdge 44 = .ok (.bipush 16, 2) := by decide +kernel
theorem dX9_addEdge_46 : decode cX9_addEdge 46 = .ok (.if_icmp .ne 6, 3) := by decide +kernel
theorem dX9_addEdge_49 : decode cX9_addEdge 49 = .ok (.bipush (-4), 2) := by decide +kernel
theorem dX9_addEdge_51 : decode cX9_addEdge 51 = .ok (.ireturn, 1) := by decide +kernel
theorem dX9_addEdge_52 : decode cX9_addEdge 52 = .ok (.aload_n 0, 1) := by decide +kernel
theorem dX9_addEdge_53 : decode cX9_addEdge 53 = .ok (.invokevirtual 134, 3) := by decide +kernel
theorem dX9_addEdge_56 : decode cX9_addEdge 56 = .ok (.aload_n 0, 1) := by decide +kernel
theorem dX9_addEdge_57 : decode cX9_addEdge 57 = .ok (.getfield 20, 3) := by decide +kernel
theorem dX9_addEdge_60 : decode cX9_addEdge 60 = .ok (.iload_n 1, 1) := by decide +kernel
theorem dX9_addEdge_61 : decode cX9_addEdge 61 = .ok (.iload_n 2, 1) := by decide +kernel
theorem dX9_addEdge_62 : decode cX9_addEdge 62 = .ok (.iload_n 3, 1) := by decide +kernel
theorem dX9_addEdge_63 : decode cX9_addEdge 63 = .ok (.invokestatic 111, 3) := by decide +kernel
theorem dX9_addEdge_66 : decode cX9_addEdge 66 = .ok (.aload_n 0, 1) := by decide +kernel
theorem dX9_addEdge_67 : decode cX9_addEdge 67 = .ok (.getfield 20, 3) := by decide +kernel
theorem dX9_addEdge_70 : decode cX9_addEdge 70 = .ok (.iconst 0, 1) := by decide +kernel
theorem dX9_addEdge_71 : decode cX9_addEdge 71 = .ok (.iaload, 1) := by decide +kernel
theorem dX9_addEdge_72 : decode cX9_addEdge 72 = .ok (.iconst 1, 1) := by decide +kernel
theorem dX9_addEdge_73 : decode cX9_addEdge 73 = .ok (.isub, 1) := by decide +kernel
theorem dX9_addEdge_74 : decode cX9_addEdge 74 = .ok (.ireturn, 1) := by decide +kernel
set_option maxRecDepth 20000 in
theorem ggX9_removeEdge_X9_noEdge : GoodIn wsX9_removeEdge wsX9_noEdge := goodIn_r _ [7, 2, 8, 9, 6, 10, 20, 21, 22, 23, 24, 25, 26, 27, 28, 29, 30, 31, 32, 33, 34, 35, 36, 37, 38, 39, 40] (by decide +kernel) (by decide +kernel)
set_option maxRecDepth 20000 in
theorem gX9_removeEdge_X9_noEdge : GoodIn wsX9_removeEdge (wsV RX9 125 RX9 yX9_noEdge wsX9_noEdge) := goodIn_app (goodIn_of _ (by decide +kernel)) ggX9_removeEdge_X9_noEdge
set_option maxRecDepth 20000 in
theorem ggX9_removeEdge_X9_remember : GoodIn wsX9_removeEdge wsX9_remember := goodIn_r _ [14, 15, 16, 2, 20, 21, 22, 23, 24, 25, 26, 27, 28, 29, 30, 31, 32, 33, 34, 35, 36, 37, 38, 39, 40] (by decide +kernel) (by decide +kernel)
set_option maxRecDepth 20000 in
theorem gX9_removeEdge_X9_remember : GoodIn wsX9_removeEdge (wsV RX9 134 RX9 yX9_remember wsX9_remember) := goodIn_app (goodIn_of _ (by decide +kernel)) ggX9_removeEdge_X9_remember
set_option maxRecDepth 20000 in
theorem ggX9_removeEdge_X9_drop : GoodIn wsX9_removeEdge wsX9_drop := goodIn_r _ [19] (by decide +kernel) (by decide +kernel)
set_option maxRecDepth 20000 in
theorem gX9_removeEdge_X9_drop : GoodIn wsX9_removeEdge (va_wsS RX9 137 yX9_drop wsX9_drop) := goodIn_app (goodIn_of _ (by decide +kernel)) ggX9_removeEdge_X9_drop
theorem dX9_removeEdge_0 : decode cX9_removeEdge 0 = .ok (.aload_n 0, 1) := by decide +kernel
theorem dX9_removeEdge_1 : decode cX9_removeEdge 1 = .ok (.iconst 0, 1) := by decide +kernel
theorem dX9_removeEdge_2 : decode cX9_removeEdge 2 = .ok (.putfield 54, 3) := by decide +kernel
theorem dX9_removeEdge_5 : decode cX9_removeEdge 5 = .ok (.aload_n 0, 1) := by decide +kernel
theorem dX9_removeEdge_6 : decode cX9_removeEdge 6 = .ok (.iload_n 1, 1) := by decide +kernel
theorem dX9_removeEdge_7 : decode cX9_removeEdge 7 = .ok (.invokevirtual 125, 3) := by decide +kernel
theorem dX9_removeEdge_10 : decode cX9_removeEdge 10 = .ok (.ifCond .eq 5, 3) := by decide +kernel
theorem dX9_removeEdge_13 : decode cX9_removeEdge 13 = .ok (.iconst (-1), 1) := by decide +kernel
theorem dX9_removeEdge_14 : decode cX9_removeEdge 14 = .ok (.ireturn, 1) := by decide +kernel
theorem dX9_removeEdge_15 : decode cX9_removeEdge 15 = .ok (.aload_n 0, 1) := by decide +kernel
theorem dX9_removeEdge_16 : decode cX9_removeEdge 16 = .ok (.invokevirtual 134, 3) := by decide +kernel
theorem dX9_removeEdge_19 : decode cX9_removeEdge 19 = .ok (.aload_n 0, 1) := by decide +kernel
theorem dX9_removeEdge_20 : decode cX9_removeEdge 20 = .ok (.getfield 20, 3) := by decide +kernel
theorem dX9_removeEdge_23 : decode cX9_removeEdge 23 = .ok (.iload_n 1, 1) := by decide +kernel
theorem dX9_removeEdge_24 : decode cX9_removeEdge 24 = .ok (.invokestatic 137, 3) := by decide +kernel
theorem dX9_removeEdge_27 : decode cX9_removeEdge 27 = .ok (.aload_n 0, 1) := by decide +kernel
theorem dX9_removeEdge_28 : decode cX9_removeEdge 28 = .ok (.getfield 20, 3) := by decide +kernel
theorem dX9_removeEdge_31 : decode cX9_removeEdge 31 = .ok (.iconst 0, 1) := by decide +kernel
theorem dX9_removeEdge_32 : decode cX9_removeEdge 32 = .ok (.iaload, 1) := by decide +kernel
theorem dX9_removeEdge_33 : decode cX9_removeEdge 33 = .ok (.ireturn, 1) := by decide +kernel
set_option maxRecDepth 20000 in
theorem ggX9_setLabel_X9_noEdge : GoodIn wsX9_setLabel wsX9_noEdge := goodIn_r _ [8, 3, 9, 10, 7, 11, 18, 19, 20, 21, 22, 23, 24, 25, 26, 27, 28, 29, 30, 31, 32, 33, 34, 35, 36, 37, 38] (by decide +kernel) (by decide +kernel)
set_option maxRecDepth 20000 in
theorem gX9_setLabel_X9_noEdge : GoodIn wsX9_setLabel (wsV RX9 125 RX9 yX9_noEdge wsX9_noEdge) := goodIn_app (goodIn_of _ (by decide +kernel)) ggX9_setLabel_X9_noEdge
set_option maxRecDepth 20000 in
theorem ggX9_setLabel_X9_in : GoodIn wsX9_setLabel wsX9_in := goodIn_r _ [11] (by decide +kernel) (by decide +kernel)
set_option maxRecDepth 20000 in
theorem gX9_setLabel_X9_in : GoodIn wsX9_setLabel (va_wsS RX9 57 yX9_in wsX9_in) := goodIn_app (goodIn_of _ (by decide +kernel)) ggX9_setLabel_X9_in
set_option maxRecDepth 20000 in
theorem ggX9_setLabel_X9_remember : GoodIn wsX9_setLabel wsX9_remember := goodIn_r _ [15, 16, 17, 3, 18, 19, 20, 21, 22, 23, 24, 25, 26, 27, 28, 29, 30, 31, 32, 33, 34, 35, 36, 37, 38] (by decide +kernel) (by decide +kernel)
set_option maxRecDepth 20000 in
theorem gX9_setLabel_X9_remember : GoodIn wsX9_setLabel (wsV RX9 134 RX9 yX9_remember wsX9_remember) := goodIn_app (goodIn_of _ (by decide +kernel)) ggX9_setLabel_X9_remember
theorem dX9_setLabel_0 : decode cX9_setLabel 0 = .ok (.aload_n 0, 1) := by decide +kernel
theorem dX9_setLabel_1 : decode cX9_setLabel 1 = .ok (.iconst 0, 1) := by decide +kernel
theorem dX9_setLabel_2 : decode cX9_setLabel 2 = .ok (.putfield 54, 3) := by decide +kernel
theorem dX9_setLabel_5 : decode cX9_setLabel 5 = .ok (.aload_n 0, 1) := by decide +kernel
theorem dX9_setLabel_6 : decode cX9_setLabel 6 = .ok (.iload_n 1, 1) := by decide +kernel
theorem dX9_setLabel_7 : decode cX9_setLabel 7 = .ok (.invokevirtual 125, 3) := by decide +kernel
theorem dX9_setLabel_10 : decode cX9_setLabel 10 = .ok (.ifCond .eq 5, 3) := by decide +kernel
theorem dX9_setLabel_13 : decode cX9_setLabel 13 = .ok (.iconst (-1), 1) := by decide +kernel
theorem dX9_setLabel_14 : decode cX9_setLabel 14 = .ok (.ireturn, 1) := by decide +kernel
theorem dX9_setLabel_15 : decode cX9_setLabel 15 = .ok (.iload_n 2, 1) := by decide +kernel
theorem dX9_setLabel_16 : decode cX9_setLabel 16 = .ok (.i2l, 1) := by decide +kernel
theorem dX9_setLabel_17 : decode cX9_setLabel 17 = .ok (.lconst 0, 1) := by decide +kernel
theorem dX9_setLabel_18 : decode cX9_setLabel 18 = .ok (.ldc2_w 132, 3) := by decide +kernel
theorem dX9_setLabel_21 : decode cX9_setLabel 21 = .ok (.invokestatic 57, 3) := by decide +kernel
theorem dX9_setLabel_24 : decode cX9_setLabel 24 = .ok (.ifCond .ne 6, 3) := by decide +kernel
theorem dX9_setLabel_27 : decode cX9_setLabel 27 = .ok (.bipush (-2), 2) := by decide +kernel
theorem dX9_setLabel_29 : decode cX9_setLabel 29 = .ok (.ireturn, 1) := by decide +kernel
theorem dX9_setLabel_30 : decode cX9_setLabel 30 = .ok (.aload_n 0, 1) := by decide +kernel
theorem dX9_setLabel_31 : decode cX9_setLabel 31 = .ok (.invokevirtual 134, 3) := by decide +kernel
theorem dX9_setLabel_34 : decode cX9_setLabel 34 = .ok (.aload_n 0, 1) := by decide +kernel
theorem dX9_setLabel_35 : decode cX9_setLabel 35 = .ok (.getfield 20, 3) := by decide +kernel
theorem dX9_setLabel_38 : decode cX9_setLabel 38 = .ok (.iconst 3, 1) := by decide +kernel
theorem dX9_setLabel_39 : decode cX9_setLabel 39 = .ok (.iconst 3, 1) := by decide +kernel
theorem dX9_setLabel_40 : decode cX9_setLabel 40 = .ok (.iload_n 1, 1) := by decide +kernel
theorem dX9_setLabel_41 : decode cX9_setLabel 41 = .ok (.imul, 1) := by decide +kernel
theorem dX9_setLabel_42 : decode cX9_setLabel 42 = .ok (.iadd, 1) := by decide +kernel
theorem dX9_setLabel_43 : decode cX9_setLabel 43 = .ok (.iaload, 1) := by decide +kernel
theorem dX9_setLabel_44 : decode cX9_setLabel 44 = .ok (.istore_n 3, 1) := by decide +kernel
theorem dX9_setLabel_45 : decode cX9_setLabel 45 = .ok (.aload_n 0, 1) := by decide +kernel
theorem dX9_setLabel_46 : decode cX9_setLabel 46 = .ok (.getfield 20, 3) := by decide +kernel
theorem dX9_setLabel_49 : decode cX9_setLabel 49 = .ok (.iconst 3, 1) := by decide +kernel
theorem dX9_setLabel_50 : decode cX9_setLabel 50 = .ok (.iconst 3, 1) := by decide +kernel
theorem dX9_setLabel_51 : decode cX9_setLabel 51 = .ok (.iload_n 1, 1) := by decide +kernel
theorem dX9_setLabel_52 : decode cX9_setLabel 52 = .ok (.imul, 1) := by decide +kernel
theorem dX9_setLabel_53 : decode cX9_setLabel 53 = .ok (.iadd, 1) := by decide +kernel
theorem dX9_setLabel_54 : decode cX9_setLabel 54 = .ok (.iload_n 2, 1) := by decide +kernel
theorem dX9_setLabel_55 : decode cX9_setLabel 55 = .ok (.iastore, 1) := by decide +kernel
theorem dX9_setLabel_56 : decode cX9_setLabel 56 = .ok (.iload_n 3, 1) := by decide +kernel
theorem dX9_setLabel_57 : decode cX9_setLabel 57 = .ok (.ireturn, 1) := by decide +kernel
theorem dX9_undo_0 : decode cX9_undo 0 = .ok (.aload_n 0, 1) := by decide +kernel
theorem dX9_undo_1 : decode cX9_undo 1 = .ok (.iconst 0, 1) := by decide +kernel
theorem dX9_undo_2 : decode cX9_undo 2 = .ok (.putfield 54, 3) := by decide +kernel
theorem dX9_undo_5 : decode cX9_undo 5 = .ok (.aload_n 0, 1) := by decide +kernel
theorem dX9_undo_6 : decode cX9_undo 6 = .ok (.getfield 122, 3) := by decide +kernel
theorem dX9_undo_9 : decode cX9_undo 9 = .ok (.ifCond .ne 6, 3) := by decide +kernel
theorem dX9_undo_12 : decode cX9_undo 12 = .ok (.bipush (-3), 2) := by decide +kernel
theorem dX9_undo_14 : decode cX9_undo 14 = .ok (.ireturn, 1) := by decide +kernel
theorem dX9_undo_15 : decode cX9_undo 15 = .ok (.aload_n 0, 1) := by decide +kernel
theorem dX9_undo_16 : decode cX9_undo 16 = .ok (.dup, 1) := by decide +kernel
theorem dX9_undo_17 : decode cX9_undo 17 = .ok (.getfield 122, 3) := by decide +kernel
theorem dX9_undo_20 : decode cX9_undo 20 = .ok (.iconst 1, 1) := by decide +kernel
theorem dX9_undo_21 : decode cX9_undo 21 = .ok (.isub, 1) := by decide +kernel
theorem dX9_undo_22 : decode cX9_undo 22 = .ok (.putfield 122, 3) := by decide +kernel
theorem dX9_undo_25 : decode cX9_undo 25 = .ok (.iconst 0, 1) := by decide +kernel
theorem dX9_undo_26 : decode cX9_undo 26 = .ok (.istore_n 1, 1) := by decide +kernel
theorem dX9_undo_27 : decode cX9_undo 27 = .ok (.iload_n 1, 1) := by decide +kernel
theorem dX9_undo_28 : decode cX9_undo 28 = .ok (.bipush 49, 2) := by decide +kernel
theorem dX9_undo_30 : decode cX9_undo 30 = .ok (.if_icmp .ge 29, 3) := by decide +kernel
theorem dX9_undo_33 : decode cX9_undo 33 = .ok (.aload_n 0, 1) := by decide +kernel
theorem dX9_undo_34 : decode cX9_undo 34 = .ok (.getfield 20, 3) := by decide +kernel
theorem dX9_undo_37 : decode cX9_undo 37 = .ok (.iload_n 1, 1) := by decide +kernel
theorem dX9_undo_38 : decode cX9_undo 38 = .ok (.aload_n 0, 1) := by decide +kernel
theorem dX9_undo_39 : decode cX9_undo 39 = .ok (.getfield 26, 3) := by decide +kernel
theorem dX9_undo_42 : decode cX9_undo 42 = .ok (.bipush 49, 2) := by decide +kernel
theorem dX9_undo_44 : decode cX9_undo 44 = .ok (.aload_n 0, 1) := by decide +kernel
theorem dX9_undo_45 : decode cX9_undo 45 = .ok (.getfield 122, 3) := by decide +kernel
theorem dX9_undo_48 : decode cX9_undo 48 = .ok (.imul, 1) := by decide +kernel
theorem dX9_undo_49 : decode cX9_undo 49 = .ok (.iload_n 1, 1) := by decide +kernel
theorem dX9_undo_50 : decode cX9_undo 50 = .ok (.iadd, 1) := by decide +kernel
theorem dX9_undo_51 : decode cX9_undo 51 = .ok (.iaload, 1) := by decide +kernel
theorem dX9_undo_52 : decode cX9_undo 52 = .ok (.iastore, 1) := by decide +kernel
theorem dX9_undo_53 : decode cX9_undo 53 = .ok (.iinc 1 1, 3) := by decide +kernel
theorem dX9_undo_56 : decode cX9_undo 56 = .ok (.goto (-29), 3) := by decide +kernel
theorem dX9_undo_59 : decode cX9_undo 59 = .ok (.aload_n 0, 1) := by decide +kernel
theorem dX9_undo_60 : decode cX9_undo 60 = .ok (.getfield 122, 3) := by decide +kernel
theorem dX9_undo_63 : decode cX9_undo 63 = .ok (.ireturn, 1) := by decide +kernel
set_option maxRecDepth 20000 in
theorem ggX9_reachableFrom_X9_noVertex : GoodIn wsX9_reachableFrom wsX9_noVertex := goodIn_r _ [9, 4, 10, 11, 8, 12, 37, 38, 39, 40, 41, 42, 43, 44, 45, 46, 47, 48, 49, 50, 51, 52, 53, 54, 55, 56, 57] (by decide +kernel) (by decide +kernel)
set_option maxRecDepth 20000 in
theorem gX9_reachableFrom_X9_noVertex : GoodIn wsX9_reachableFrom (wsV RX9 129 RX9 yX9_noVertex wsX9_noVertex) := goodIn_app (goodIn_of _ (by decide +kernel)) ggX9_reachableFrom_X9_noVertex
set_option maxRecDepth 20000 in
theorem ggX9_reachableFrom_X9_closeOf : GoodIn wsX9_reachableFrom wsX9_closeOf := goodIn_r _ [16, 17, 18, 19, 8, 20, 21, 22, 23, 24, 25, 26, 27, 28, 29, 30, 31, 32, 10, 11, 12, 37, 38, 39, 40, 41, 42, 43, 44, 45, 46, 47, 48, 49, 50, 51, 52, 53, 54, 55, 56, 57] (by decide +kernel) (by decide +kernel)
set_option maxRecDepth 20000 in
theorem gX9_reachableFrom_X9_closeOf : GoodIn wsX9_reachableFrom (wsV RX9 77 RX9 yX9_closeOf wsX9_closeOf) := goodIn_app (goodIn_of _ (by decide +kernel)) ggX9_reachableFrom_X9_closeOf
set_option maxRecDepth 20000 in
theorem ggX9_reachableFrom_X9_reaches : GoodIn wsX9_reachableFrom wsX9_reaches := goodIn_r _ [36, 25, 26, 37, 38, 39, 40, 41, 42, 43, 44, 45, 46, 47, 48, 49, 50, 51, 52, 53, 54, 55, 56, 57] (by decide +kernel) (by decide +kernel)
set_option maxRecDepth 20000 in
theorem gX9_reachableFrom_X9_reaches : GoodIn wsX9_reachableFrom (wsV RX9 141 RX9 yX9_reaches wsX9_reaches) := goodIn_app (goodIn_of _ (by decide +kernel)) ggX9_reachableFrom_X9_reaches
theorem dX9_reachableFrom_0 : decode cX9_reachableFrom 0 = .ok (.aload_n 0, 1) := by decide +kernel
theorem dX9_reachableFrom_1 : decode cX9_reachableFrom 1 = .ok (.iconst 0, 1) := by decide +kernel
theorem dX9_reachableFrom_2 : decode cX9_reachableFrom 2 = .ok (.putfield 54, 3) := by decide +kernel
theorem dX9_reachableFrom_5 : decode cX9_reachableFrom 5 = .ok (.aload_n 0, 1) := by decide +kernel
theorem dX9_reachableFrom_6 : decode cX9_reachableFrom 6 = .ok (.iload_n 1, 1) := by decide +kernel
theorem dX9_reachableFrom_7 : decode cX9_reachableFrom 7 = .ok (.invokevirtual 129, 3) := by decide +kernel
theorem dX9_reachableFrom_10 : decode cX9_reachableFrom 10 = .ok (.ifCond .eq 5, 3) := by decide +kernel
theorem dX9_reachableFrom_13 : decode cX9_reachableFrom 13 = .ok (.iconst (-1), 1) := by decide +kernel
theorem dX9_reachableFrom_14 : decode cX9_reachableFrom 14 = .ok (.ireturn, 1) := by decide +kernel
theorem dX9_reachableFrom_15 : decode cX9_reachableFrom 15 = .ok (.aload_n 0, 1) := by decide +kernel
theorem dX9_reachableFrom_16 : decode cX9_reachableFrom 16 = .ok (.aload_n 0, 1) := by decide +kernel
theorem dX9_reachableFrom_17 : decode cX9_reachableFrom 17 = .ok (.getfield 20, 3) := by decide +kernel
theorem dX9_reachableFrom_20 : decode cX9_reachableFrom 20 = .ok (.ldc 140, 2) := by decide +kernel
theorem dX9_reachableFrom_22 : decode cX9_reachableFrom 22 = .ok (.invokevirtual 77, 3) := by decide +kernel
theorem dX9_reachableFrom_25 : decode cX9_reachableFrom 25 = .ok (.iconst 0, 1) := by decide +kernel
theorem dX9_reachableFrom_26 : decode cX9_reachableFrom 26 = .ok (.istore_n 2, 1) := by decide +kernel
theorem dX9_reachableFrom_27 : decode cX9_reachableFrom 27 = .ok (.iconst 0, 1) := by decide +kernel
theorem dX9_reachableFrom_28 : decode cX9_reachableFrom 28 = .ok (.istore_n 3, 1) := by decide +kernel
theorem dX9_reachableFrom_29 : decode cX9_reachableFrom 29 = .ok (.iload_n 3, 1) := by decide +kernel
theorem dX9_reachableFrom_30 : decode cX9_reachableFrom 30 = .ok (.aload_n 0, 1) := by decide +kernel
theorem dX9_reachableFrom_31 : decode cX9_reachableFrom 31 = .ok (.getfield 16, 3) := by decide +kernel
theorem dX9_reachableFrom_34 : decode cX9_reachableFrom 34 = .ok (.if_icmp .ge 28, 3) := by decide +kernel
theorem dX9_reachableFrom_37 : decode cX9_reachableFrom 37 = .ok (.iload_n 2, 1) := by decide +kernel
theorem dX9_reachableFrom_38 : decode cX9_reachableFrom 38 = .ok (.aload_n 0, 1) := by decide +kernel
theorem dX9_reachableFrom_39 : decode cX9_reachableFrom 39 = .ok (.iload_n 1, 1) := by decide +kernel
theorem dX9_reachableFrom_40 : decode cX9_reachableFrom 40 = .ok (.iload_n 3, 1) := by decide +kernel
theorem dX9_reachableFrom_41 : decode cX9_reachableFrom 41 = .ok (.invokevirtual 141, 3) := by decide +kernel
theorem dX9_reachableFrom_44 : decode cX9_reachableFrom 44 = .ok (.ifCond .eq 9, 3) := by decide +kernel
theorem dX9_reachableFrom_47 : decode cX9_reachableFrom 47 = .ok (.iconst 1, 1) := by decide +kernel
theorem dX9_reachableFrom_48 : decode cX9_reachableFrom 48 = .ok (.iload_n 3, 1) := by decide +kernel
theorem dX9_reachableFrom_49 : decode cX9_reachableFrom 49 = .ok (.ishl, 1) := by decide +kernel
theorem dX9_reachableFrom_50 : decode cX9_reachableFrom 50 = .ok (.goto 4, 3) := by decide +kernel
theorem dX9_reachableFrom_53 : decode cX9_reachableFrom 53 = .ok (.iconst 0, 1) := by decide +kernel
theorem dX9_reachableFrom_54 : decode cX9_reachableFrom 54 = .ok (.ior, 1) := by decide +kernel
theorem dX9_reachableFrom_55 : decode cX9_reachableFrom 55 = .ok (.istore_n 2, 1) := by decide +kernel
theorem dX9_reachableFrom_56 : decode cX9_reachableFrom 56 = .ok (.iinc 3 1, 3) := by decide +kernel
theorem dX9_reachableFrom_59 : decode cX9_reachableFrom 59 = .ok (.goto (-30), 3) := by decide +kernel
theorem dX9_reachableFrom_62 : decode cX9_reachableFrom 62 = .ok (.iload_n 2, 1) := by decide +kernel
theorem dX9_reachableFrom_63 : decode cX9_reachableFrom 63 = .ok (.ireturn, 1) := by decide +kernel
set_option maxRecDepth 20000 in
theorem ggX9_pairCount_X9_pairsOf : GoodIn wsX9_pairCount wsX9_pairsOf := goodIn_r _ [8, 9, 10, 11, 7, 12, 13, 14, 15, 16, 17, 18, 19, 20, 21, 22, 23, 24, 25, 26, 27, 28, 29, 30, 31, 32, 33, 34, 35, 36, 37, 38, 39, 40, 41, 42, 43, 44, 45, 46, 47, 48, 49, 50, 51, 52, 53, 54, 55, 56, 57] (by decide +kernel) (by decide +kernel)
set_option maxRecDepth 20000 in
theorem gX9_pairCount_X9_pairsOf : GoodIn wsX9_pairCount (wsV RX9 144 RX9 yX9_pairsOf wsX9_pairsOf) := goodIn_app (goodIn_of _ (by decide +kernel)) ggX9_pairCount_X9_pairsOf
theorem dX9_pairCount_0 : decode cX9_pairCount 0 = .ok (.aload_n 0, 1) := by decide +kernel
theorem dX9_pairCount_1 : decode cX9_pairCount 1 = .ok (.iconst 0, 1) := by decide +kernel
theorem dX9_pairCount_2 : decode cX9_pairCount 2 = .ok (.putfield 54, 3) := by decide +kernel
theorem dX9_pairCount_5 : decode cX9_pairCount 5 = .ok (.aload_n 0, 1) := by decide +kernel
theorem dX9_pairCount_6 : decode cX9_pairCount 6 = .ok (.aload_n 0, 1) := by decide +kernel
theorem dX9_pairCount_7 : decode cX9_pairCount 7 = .ok (.getfield 20, 3) := by decide +kernel
theorem dX9_pairCount_10 : decode cX9_pairCount 10 = .ok (.ldc 140, 2) := by decide +kernel
theorem dX9_pairCount_12 : decode cX9_pairCount 12 = .ok (.invokevirtual 144, 3) := by decide +kernel
theorem dX9_pairCount_15 : decode cX9_pairCount 15 = .ok (.ireturn, 1) := by decide +kernel
set_option maxRecDepth 20000 in
theorem ggX9_distance_X9_noVertex : GoodIn wsX9_distance wsX9_noVertex := goodIn_r _ [9, 10, 11, 12, 8, 13, 37, 38, 39, 40, 41, 42, 43, 44, 45, 46, 47, 48, 49, 50, 51, 52, 53, 54, 55, 56, 57] (by decide +kernel) (by decide +kernel)
set_option maxRecDepth 20000 in
theorem gX9_distance_X9_noVertex : GoodIn wsX9_distance (wsV RX9 129 RX9 yX9_noVertex wsX9_noVertex) := goodIn_app (goodIn_of _ (by decide +kernel)) ggX9_distance_X9_noVertex
set_option maxRecDepth 20000 in
theorem ggX9_distance_X9_closeOf : GoodIn wsX9_distance wsX9_closeOf := goodIn_r _ [17, 18, 19, 20, 8, 21, 22, 23, 24, 25, 4, 26, 27, 28, 29, 30, 31, 32, 11, 12, 13, 37, 38, 39, 40, 41, 42, 43, 44, 45, 46, 47, 48, 49, 50, 51, 52, 53, 54, 55, 56, 57] (by decide +kernel) (by decide +kernel)
set_option maxRecDepth 20000 in
theorem gX9_distance_X9_closeOf : GoodIn wsX9_distance (wsV RX9 77 RX9 yX9_closeOf wsX9_closeOf) := goodIn_app (goodIn_of _ (by decide +kernel)) ggX9_distance_X9_closeOf
set_option maxRecDepth 20000 in
theorem ggX9_distance_X9_reaches : GoodIn wsX9_distance wsX9_reaches := goodIn_r _ [36, 4, 26, 37, 38, 39, 40, 41, 42, 43, 44, 45, 46, 47, 48, 49, 50, 51, 52, 53, 54, 55, 56, 57] (by decide +kernel) (by decide +kernel)
set_option maxRecDepth 20000 in
theorem gX9_distance_X9_reaches : GoodIn wsX9_distance (wsV RX9 141 RX9 yX9_reaches wsX9_reaches) := goodIn_app (goodIn_of _ (by decide +kernel)) ggX9_distance_X9_reaches
theorem dX9_distance_0 : decode cX9_distance 0 = .ok (.aload_n 0, 1) := by decide +kernel
theorem dX9_distance_1 : decode cX9_distance 1 = .ok (.iconst 0, 1) := by decide +kernel
theorem dX9_distance_2 : decode cX9_distance 2 = .ok (.putfield 54, 3) := by decide +kernel
theorem dX9_distance_5 : decode cX9_distance 5 = .ok (.aload_n 0, 1) := by decide +kernel
theorem dX9_distance_6 : decode cX9_distance 6 = .ok (.iload_n 1, 1) := by decide +kernel
theorem dX9_distance_7 : decode cX9_distance 7 = .ok (.invokevirtual 129, 3) := by decide +kernel
theorem dX9_distance_10 : decode cX9_distance 10 = .ok (.ifCond .ne 11, 3) := by decide +kernel
theorem dX9_distance_13 : decode cX9_distance 13 = .ok (.aload_n 0, 1) := by decide +kernel
theorem dX9_distance_14 : decode cX9_distance 14 = .ok (.iload_n 2, 1) := by decide +kernel
theorem dX9_distance_15 : decode cX9_distance 15 = .ok (.invokevirtual 129, 3) := by decide +kernel
theorem dX9_distance_18 : decode cX9_distance 18 = .ok (.ifCond .eq 5, 3) := by decide +kernel
theorem dX9_distance_21 : decode cX9_distance 21 = .ok (.iconst (-1), 1) := by decide +kernel
theorem dX9_distance_22 : decode cX9_distance 22 = .ok (.ireturn, 1) := by decide +kernel
theorem dX9_distance_23 : decode cX9_distance 23 = .ok (.aload_n 0, 1) := by decide +kernel
theorem dX9_distance_24 : decode cX9_distance 24 = .ok (.aload_n 0, 1) := by decide +kernel
theorem dX9_distance_25 : decode cX9_distance 25 = .ok (.getfield 20, 3) := by decide +kernel
theorem dX9_distance_28 : decode cX9_distance 28 = .ok (.ldc 140, 2) := by decide +kernel
theorem dX9_distance_30 : decode cX9_distance 30 = .ok (.invokevirtual 77, 3) := by decide +kernel
theorem dX9_distance_33 : decode cX9_distance 33 = .ok (.aload_n 0, 1) := by decide +kernel
theorem dX9_distance_34 : decode cX9_distance 34 = .ok (.iload_n 1, 1) := by decide +kernel
theorem dX9_distance_35 : decode cX9_distance 35 = .ok (.iload_n 2, 1) := by decide +kernel
theorem dX9_distance_36 : decode cX9_distance 36 = .ok (.invokevirtual 141, 3) := by decide +kernel
theorem dX9_distance_39 : decode cX9_distance 39 = .ok (.ifCond .eq 17, 3) := by decide +kernel
theorem dX9_distance_42 : decode cX9_distance 42 = .ok (.aload_n 0, 1) := by decide +kernel
theorem dX9_distance_43 : decode cX9_distance 43 = .ok (.getfield 45, 3) := by decide +kernel
theorem dX9_distance_46 : decode cX9_distance 46 = .ok (.bipush 8, 2) := by decide +kernel
theorem dX9_distance_48 : decode cX9_distance 48 = .ok (.iload_n 1, 1) := by decide +kernel
theorem dX9_distance_49 : decode cX9_distance 49 = .ok (.imul, 1) := by decide +kernel
theorem dX9_distance_50 : decode cX9_distance 50 = .ok (.iload_n 2, 1) := by decide +kernel
theorem dX9_distance_51 : decode cX9_distance 51 = .ok (.iadd, 1) := by decide +kernel
theorem dX9_distance_52 : decode cX9_distance 52 = .ok (.iaload, 1) := by decide +kernel
theorem dX9_distance_53 : decode cX9_distance 53 = .ok (.goto 5, 3) := by decide +kernel
theorem dX9_distance_56 : decode cX9_distance 56 = .ok (.bipush (-9), 2) := by decide +kernel
theorem dX9_distance_58 : decode cX9_distance 58 = .ok (.ireturn, 1) := by decide +kernel
set_option maxRecDepth 20000 in
theorem ggX9_lengthBy_X9_in : GoodIn wsX9_lengthBy wsX9_in := goodIn_r _ [8] (by decide +kernel) (by decide +kernel)
set_option maxRecDepth 20000 in
theorem gX9_lengthBy_X9_in : GoodIn wsX9_lengthBy (va_wsS RX9 57 yX9_in wsX9_in) := goodIn_app (goodIn_of _ (by decide +kernel)) ggX9_lengthBy_X9_in
theorem dX9_lengthBy_0 : decode cX9_lengthBy 0 = .ok (.iconst 1, 1) := by decide +kernel
theorem dX9_lengthBy_1 : decode cX9_lengthBy 1 = .ok (.iconst 3, 1) := by decide +kernel
theorem dX9_lengthBy_2 : decode cX9_lengthBy 2 = .ok (.iload_n 3, 1) := by decide +kernel
theorem dX9_lengthBy_3 : decode cX9_lengthBy 3 = .ok (.imul, 1) := by decide +kernel
theorem dX9_lengthBy_4 : decode cX9_lengthBy 4 = .ok (.iadd, 1) := by decide +kernel
theorem dX9_lengthBy_5 : decode cX9_lengthBy 5 = .ok (.istore 5, 2) := by decide +kernel
theorem dX9_lengthBy_7 : decode cX9_lengthBy 7 = .ok (.aload_n 0, 1) := by decide +kernel
theorem dX9_lengthBy_8 : decode cX9_lengthBy 8 = .ok (.getfield 20, 3) := by decide +kernel
theorem dX9_lengthBy_11 : decode cX9_lengthBy 11 = .ok (.iload 5, 2) := by decide +kernel
theorem dX9_lengthBy_13 : decode cX9_lengthBy 13 = .ok (.iaload, 1) := by decide +kernel
theorem dX9_lengthBy_14 : decode cX9_lengthBy 14 = .ok (.iload_n 1, 1) := by decide +kernel
theorem dX9_lengthBy_15 : decode cX9_lengthBy 15 = .ok (.if_icmp .eq 6, 3) := by decide +kernel
theorem dX9_lengthBy_18 : decode cX9_lengthBy 18 = .ok (.ldc 62, 2) := by decide +kernel
theorem dX9_lengthBy_20 : decode cX9_lengthBy 20 = .ok (.ireturn, 1) := by decide +kernel
theorem dX9_lengthBy_21 : decode cX9_lengthBy 21 = .ok (.aload_n 0, 1) := by decide +kernel
theorem dX9_lengthBy_22 : decode cX9_lengthBy 22 = .ok (.getfield 20, 3) := by decide +kernel
theorem dX9_lengthBy_25 : decode cX9_lengthBy 25 = .ok (.iload 5, 2) := by decide +kernel
theorem dX9_lengthBy_27 : decode cX9_lengthBy 27 = .ok (.iconst 2, 1) := by decide +kernel
theorem dX9_lengthBy_28 : decode cX9_lengthBy 28 = .ok (.iadd, 1) := by decide +kernel
theorem dX9_lengthBy_29 : decode cX9_lengthBy 29 = .ok (.iaload, 1) := by decide +kernel
theorem dX9_lengthBy_30 : decode cX9_lengthBy 30 = .ok (.ifCond .ne 35, 3) := by decide +kernel
theorem dX9_lengthBy_33 : decode cX9_lengthBy 33 = .ok (.iload 4, 2) := by decide +kernel
theorem dX9_lengthBy_35 : decode cX9_lengthBy 35 = .ok (.ifCond .ne 27, 3) := by decide +kernel
theorem dX9_lengthBy_38 : decode cX9_lengthBy 38 = .ok (.iconst 1, 1) := by decide +kernel
theorem dX9_lengthBy_39 : decode cX9_lengthBy 39 = .ok (.aload_n 0, 1) := by decide +kernel
theorem dX9_lengthBy_40 : decode cX9_lengthBy 40 = .ok (.getfield 45, 3) := by decide +kernel
theorem dX9_lengthBy_43 : decode cX9_lengthBy 43 = .ok (.bipush 8, 2) := by decide +kernel
theorem dX9_lengthBy_45 : decode cX9_lengthBy 45 = .ok (.aload_n 0, 1) := by decide +kernel
theorem dX9_lengthBy_46 : decode cX9_lengthBy 46 = .ok (.getfield 20, 3) := by decide +kernel
theorem dX9_lengthBy_49 : decode cX9_lengthBy 49 = .ok (.iload 5, 2) := by decide +kernel
theorem dX9_lengthBy_51 : decode cX9_lengthBy 51 = .ok (.iconst 1, 1) := by decide +kernel
theorem dX9_lengthBy_52 : decode cX9_lengthBy 52 = .ok (.iadd, 1) := by decide +kernel
theorem dX9_lengthBy_53 : decode cX9_lengthBy 53 = .ok (.iaload, 1) := by decide +kernel
theorem dX9_lengthBy_54 : decode cX9_lengthBy 54 = .ok (.imul, 1) := by decide +kernel
theorem dX9_lengthBy_55 : decode cX9_lengthBy 55 = .ok (.iload_n 2, 1) := by decide +kernel
theorem dX9_lengthBy_56 : decode cX9_lengthBy 56 = .ok (.iadd, 1) := by decide +kernel
theorem dX9_lengthBy_57 : decode cX9_lengthBy 57 = .ok (.iaload, 1) := by decide +kernel
theorem dX9_lengthBy_58 : decode cX9_lengthBy 58 = .ok (.iadd, 1) := by decide +kernel
theorem dX9_lengthBy_59 : decode cX9_lengthBy 59 = .ok (.goto 5, 3) := by decide +kernel
theorem dX9_lengthBy_62 : decode cX9_lengthBy 62 = .ok (.ldc 62, 2) := by decide +kernel
theorem dX9_lengthBy_64 : decode cX9_lengthBy 64 = .ok (.ireturn, 1) := by decide +kernel
theorem dX9_lengthBy_65 : decode cX9_lengthBy 65 = .ok (.iconst 1, 1) := by decide +kernel
theorem dX9_lengthBy_66 : decode cX9_lengthBy 66 = .ok (.iconst 3, 1) := by decide +kernel
theorem dX9_lengthBy_67 : decode cX9_lengthBy 67 = .ok (.iload 4, 2) := by decide +kernel
theorem dX9_lengthBy_69 : decode cX9_lengthBy 69 = .ok (.imul, 1) := by decide +kernel
theorem dX9_lengthBy_70 : decode cX9_lengthBy 70 = .ok (.iadd, 1) := by decide +kernel
theorem dX9_lengthBy_71 : decode cX9_lengthBy 71 = .ok (.istore 6, 2) := by decide +kernel
theorem dX9_lengthBy_73 : decode cX9_lengthBy 73 = .ok (.aload_n 0, 1) := by decide +kernel
theorem dX9_lengthBy_74 : decode cX9_lengthBy 74 = .ok (.getfield 20, 3) := by decide +kernel
theorem dX9_lengthBy_77 : decode cX9_lengthBy 77 = .ok (.iload 5, 2) := by decide +kernel
theorem dX9_lengthBy_79 : decode cX9_lengthBy 79 = .ok (.iconst 2, 1) := by decide +kernel
theorem dX9_lengthBy_80 : decode cX9_lengthBy 80 = .ok (.iadd, 1) := by decide +kernel
theorem dX9_lengthBy_81 : decode cX9_lengthBy 81 = .ok (.iaload, 1) := by decide +kernel
theorem dX9_lengthBy_82 : decode cX9_lengthBy 82 = .ok (.i2l, 1) := by decide +kernel
theorem dX9_lengthBy_83 : decode cX9_lengthBy 83 = .ok (.lconst 1, 1) := by decide +kernel
theorem dX9_lengthBy_84 : decode cX9_lengthBy 84 = .ok (.ldc2_w 67, 3) := by decide +kernel
theorem dX9_lengthBy_87 : decode cX9_lengthBy 87 = .ok (.invokestatic 57, 3) := by decide +kernel
theorem dX9_lengthBy_90 : decode cX9_lengthBy 90 = .ok (.ifCond .eq 30, 3) := by decide +kernel
theorem dX9_lengthBy_93 : decode cX9_lengthBy 93 = .ok (.aload_n 0, 1) := by decide +kernel
theorem dX9_lengthBy_94 : decode cX9_lengthBy 94 = .ok (.getfield 20, 3) := by decide +kernel
theorem dX9_lengthBy_97 : decode cX9_lengthBy 97 = .ok (.iload 6, 2) := by decide +kernel
theorem dX9_lengthBy_99 : decode cX9_lengthBy 99 = .ok (.iconst 2, 1) := by decide +kernel
theorem dX9_lengthBy_100 : decode cX9_lengthBy 100 = .ok (.iadd, 1) := by decide +kernel
theorem dX9_lengthBy_101 : decode cX9_lengthBy 101 = .ok (.iaload, 1) := by decide +kernel
theorem dX9_lengthBy_102 : decode cX9_lengthBy 102 = .ok (.aload_n 0, 1) := by decide +kernel
theorem dX9_lengthBy_103 : decode cX9_lengthBy 103 = .ok (.getfield 20, 3) := by decide +kernel
theorem dX9_lengthBy_106 : decode cX9_lengthBy 106 = .ok (.iload 5, 2) := by decide +kernel
theorem dX9_lengthBy_108 : decode cX9_lengthBy 108 = .ok (.iconst 2, 1) := by decide +kernel
theorem dX9_lengthBy_109 : decode cX9_lengthBy 109 = .ok (.iadd, 1) := by decide +kernel
theorem dX9_lengthBy_110 : decode cX9_lengthBy 110 = .ok (.iaload, 1) := by decide +kernel
theorem dX9_lengthBy_111 : decode cX9_lengthBy 111 = .ok (.iconst 3, 1) := by decide +kernel
theorem dX9_lengthBy_112 : decode cX9_lengthBy 112 = .ok (.iadd, 1) := by decide +kernel
theorem dX9_lengthBy_113 : decode cX9_lengthBy 113 = .ok (.if_icmp .ne 7, 3) := by decide +kernel
theorem dX9_lengthBy_116 : decode cX9_lengthBy 116 = .ok (.iconst 1, 1) := by decide +kernel
theorem dX9_lengthBy_117 : decode cX9_lengthBy 117 = .ok (.goto 4, 3) := by decide +kernel
theorem dX9_lengthBy_120 : decode cX9_lengthBy 120 = .ok (.iconst 0, 1) := by decide +kernel
theorem dX9_lengthBy_121 : decode cX9_lengthBy 121 = .ok (.istore 7, 2) := by decide +kernel
theorem dX9_lengthBy_123 : decode cX9_lengthBy 123 = .ok (.iload 7, 2) := by decide +kernel
theorem dX9_lengthBy_125 : decode cX9_lengthBy 125 = .ok (.ifCond .eq 53, 3) := by decide +kernel
theorem dX9_lengthBy_128 : decode cX9_lengthBy 128 = .ok (.iconst 2, 1) := by decide +kernel
theorem dX9_lengthBy_129 : decode cX9_lengthBy 129 = .ok (.aload_n 0, 1) := by decide +kernel
theorem dX9_lengthBy_130 : decode cX9_lengthBy 130 = .ok (.getfield 45, 3) := by decide +kernel
theorem dX9_lengthBy_133 : decode cX9_lengthBy 133 = .ok (.bipush 8, 2) := by decide +kernel
theorem dX9_lengthBy_135 : decode cX9_lengthBy 135 = .ok (.aload_n 0, 1) := by decide +kernel
theorem dX9_lengthBy_136 : decode cX9_lengthBy 136 = .ok (.getfield 20, 3) := by decide +kernel
theorem dX9_lengthBy_139 : decode cX9_lengthBy 139 = .ok (.iload 5, 2) := by decide +kernel
theorem dX9_lengthBy_141 : decode cX9_lengthBy 141 = .ok (.iconst 1, 1) := by decide +kernel
theorem dX9_lengthBy_142 : decode cX9_lengthBy 142 = .ok (.iadd, 1) := by decide +kernel
theorem dX9_lengthBy_143 : decode cX9_lengthBy 143 = .ok (.iaload, 1) := by decide +kernel
theorem dX9_lengthBy_144 : decode cX9_lengthBy 144 = .ok (.imul, 1) := by decide +kernel
theorem dX9_lengthBy_145 : decode cX9_lengthBy 145 = .ok (.aload_n 0, 1) := by decide +kernel
theorem dX9_lengthBy_146 : decode cX9_lengthBy 146 = .ok (.getfield 20, 3) := by decide +kernel
theorem dX9_lengthBy_149 : decode cX9_lengthBy 149 = .ok (.iload 6, 2) := by decide +kernel
theorem dX9_lengthBy_151 : decode cX9_lengthBy 151 = .ok (.iaload, 1) := by decide +kernel
theorem dX9_lengthBy_152 : decode cX9_lengthBy 152 = .ok (.iadd, 1) := by decide +kernel
theorem dX9_lengthBy_153 : decode cX9_lengthBy 153 = .ok (.iaload, 1) := by decide +kernel
theorem dX9_lengthBy_154 : decode cX9_lengthBy 154 = .ok (.iadd, 1) := by decide +kernel
theorem dX9_lengthBy_155 : decode cX9_lengthBy 155 = .ok (.aload_n 0, 1) := by decide +kernel
theorem dX9_lengthBy_156 : decode cX9_lengthBy 156 = .ok (.getfield 45, 3) := by decide +kernel
theorem dX9_lengthBy_159 : decode cX9_lengthBy 159 = .ok (.bipush 8, 2) := by decide +kernel
theorem dX9_lengthBy_161 : decode cX9_lengthBy 161 = .ok (.aload_n 0, 1) := by decide +kernel
theorem dX9_lengthBy_162 : decode cX9_lengthBy 162 = .ok (.getfield 20, 3) := by decide +kernel
theorem dX9_lengthBy_165 : decode cX9_lengthBy 165 = .ok (.iload 6, 2) := by decide +kernel
theorem dX9_lengthBy_167 : decode cX9_lengthBy 167 = .ok (.iconst 1, 1) := by decide +kernel
theorem dX9_lengthBy_168 : decode cX9_lengthBy 168 = .ok (.iadd, 1) := by decide +kernel
theorem dX9_lengthBy_169 : decode cX9_lengthBy 169 = .ok (.iaload, 1) := by decide +kernel
theorem dX9_lengthBy_170 : decode cX9_lengthBy 170 = .ok (.imul, 1) := by decide +kernel
theorem dX9_lengthBy_171 : decode cX9_lengthBy 171 = .ok (.iload_n 2, 1) := by decide +kernel
theorem dX9_lengthBy_172 : decode cX9_lengthBy 172 = .ok (.iadd, 1) := by decide +kernel
theorem dX9_lengthBy_173 : decode cX9_lengthBy 173 = .ok (.iaload, 1) := by decide +kernel
theorem dX9_lengthBy_174 : decode cX9_lengthBy 174 = .ok (.iadd, 1) := by decide +kernel
theorem dX9_lengthBy_175 : decode cX9_lengthBy 175 = .ok (.goto 5, 3) := by decide +kernel
theorem dX9_lengthBy_178 : decode cX9_lengthBy 178 = .ok (.ldc 62, 2) := by decide +kernel
theorem dX9_lengthBy_180 : decode cX9_lengthBy 180 = .ok (.ireturn, 1) := by decide +kernel
set_option maxRecDepth 20000 in
theorem ggX9_firstStep_X9_lengthBy : GoodIn wsX9_firstStep wsX9_lengthBy := goodIn_r _ [7, 1, 8, 2, 9, 10, 11, 6, 12, 13, 14, 15, 16, 17, 18, 19, 20, 21, 22, 23, 24, 25, 26, 27, 28, 29, 30, 31, 32, 33] (by decide +kernel) (by decide +kernel)
set_option maxRecDepth 20000 in
theorem gX9_firstStep_X9_lengthBy : GoodIn wsX9_firstStep (wsV RX9 148 RX9 yX9_lengthBy wsX9_lengthBy) := goodIn_app (goodIn_of _ (by decide +kernel)) ggX9_firstStep_X9_lengthBy
theorem dX9_firstStep_0 : decode cX9_firstStep 0 = .ok (.iconst 0, 1) := by decide +kernel
theorem dX9_firstStep_1 : decode cX9_firstStep 1 = .ok (.istore_n 3, 1) := by decide +kernel
theorem dX9_firstStep_2 : decode cX9_firstStep 2 = .ok (.iload_n 3, 1) := by decide +kernel
theorem dX9_firstStep_3 : decode cX9_firstStep 3 = .ok (.bipush 16, 2) := by decide +kernel
theorem dX9_firstStep_5 : decode cX9_firstStep 5 = .ok (.aload_n 0, 1) := by decide +kernel
theorem dX9_firstStep_6 : decode cX9_firstStep 6 = .ok (.getfield 20, 3) := by decide +kernel
theorem dX9_firstStep_9 : decode cX9_firstStep 9 = .ok (.iconst 0, 1) := by decide +kernel
theorem dX9_firstStep_10 : decode cX9_firstStep 10 = .ok (.iaload, 1) := by decide +kernel
theorem dX9_firstStep_11 : decode cX9_firstStep 11 = .ok (.imul, 1) := by decide +kernel
theorem dX9_firstStep_12 : decode cX9_firstStep 12 = .ok (.if_icmp .ge 52, 3) := by decide +kernel
theorem dX9_firstStep_15 : decode cX9_firstStep 15 = .ok (.iload_n 3, 1) := by decide +kernel
theorem dX9_firstStep_16 : decode cX9_firstStep 16 = .ok (.bipush 16, 2) := by decide +kernel
theorem dX9_firstStep_18 : decode cX9_firstStep 18 = .ok (.irem, 1) := by decide +kernel
theorem dX9_firstStep_19 : decode cX9_firstStep 19 = .ok (.aload_n 0, 1) := by decide +kernel
theorem dX9_firstStep_20 : decode cX9_firstStep 20 = .ok (.getfield 20, 3) := by decide +kernel
theorem dX9_firstStep_23 : decode cX9_firstStep 23 = .ok (.iconst 0, 1) := by decide +kernel
theorem dX9_firstStep_24 : decode cX9_firstStep 24 = .ok (.iaload, 1) := by decide +kernel
theorem dX9_firstStep_25 : decode cX9_firstStep 25 = .ok (.if_icmp .ge 33, 3) := by decide +kernel
theorem dX9_firstStep_28 : decode cX9_firstStep 28 = .ok (.aload_n 0, 1) := by decide +kernel
theorem dX9_firstStep_29 : decode cX9_firstStep 29 = .ok (.iload_n 1, 1) := by decide +kernel
theorem dX9_firstStep_30 : decode cX9_firstStep 30 = .ok (.iload_n 2, 1) := by decide +kernel
theorem dX9_firstStep_31 : decode cX9_firstStep 31 = .ok (.iload_n 3, 1) := by decide +kernel
theorem dX9_firstStep_32 : decode cX9_firstStep 32 = .ok (.bipush 16, 2) := by decide +kernel
theorem dX9_firstStep_34 : decode cX9_firstStep 34 = .ok (.idiv, 1) := by decide +kernel
theorem dX9_firstStep_35 : decode cX9_firstStep 35 = .ok (.iload_n 3, 1) := by decide +kernel
theorem dX9_firstStep_36 : decode cX9_firstStep 36 = .ok (.bipush 16, 2) := by decide +kernel
theorem dX9_firstStep_38 : decode cX9_firstStep 38 = .ok (.irem, 1) := by decide +kernel
theorem dX9_firstStep_39 : decode cX9_firstStep 39 = .ok (.invokevirtual 148, 3) := by decide +kernel
theorem dX9_firstStep_42 : decode cX9_firstStep 42 = .ok (.aload_n 0, 1) := by decide +kernel
theorem dX9_firstStep_43 : decode cX9_firstStep 43 = .ok (.getfield 45, 3) := by decide +kernel
theorem dX9_firstStep_46 : decode cX9_firstStep 46 = .ok (.bipush 8, 2) := by decide +kernel
theorem dX9_firstStep_48 : decode cX9_firstStep 48 = .ok (.iload_n 1, 1) := by decide +kernel
theorem dX9_firstStep_49 : decode cX9_firstStep 49 = .ok (.imul, 1) := by decide +kernel
theorem dX9_firstStep_50 : decode cX9_firstStep 50 = .ok (.iload_n 2, 1) := by decide +kernel
theorem dX9_firstStep_51 : decode cX9_firstStep 51 = .ok (.iadd, 1) := by decide +kernel
theorem dX9_firstStep_52 : decode cX9_firstStep 52 = .ok (.iaload, 1) := by decide +kernel
theorem dX9_firstStep_53 : decode cX9_firstStep 53 = .ok (.if_icmp .ne 5, 3) := by decide +kernel
theorem dX9_firstStep_56 : decode cX9_firstStep 56 = .ok (.iload_n 3, 1) := by decide +kernel
theorem dX9_firstStep_57 : decode cX9_firstStep 57 = .ok (.ireturn, 1) := by decide +kernel
theorem dX9_firstStep_58 : decode cX9_firstStep 58 = .ok (.iinc 3 1, 3) := by decide +kernel
theorem dX9_firstStep_61 : decode cX9_firstStep 61 = .ok (.goto (-59), 3) := by decide +kernel
theorem dX9_firstStep_64 : decode cX9_firstStep 64 = .ok (.bipush (-9), 2) := by decide +kernel
theorem dX9_firstStep_66 : decode cX9_firstStep 66 = .ok (.ireturn, 1) := by decide +kernel
set_option maxRecDepth 20000 in
theorem ggX9_witnessEdge_X9_noVertex : GoodIn wsX9_witnessEdge wsX9_noVertex := goodIn_r _ [10, 11, 12, 13, 9, 14, 41, 42, 43, 44, 45, 46, 47, 48, 49, 50, 51, 52, 53, 54, 55, 56, 57, 58, 59, 60, 61] (by decide +kernel) (by decide +kernel)
set_option maxRecDepth 20000 in
theorem gX9_witnessEdge_X9_noVertex : GoodIn wsX9_witnessEdge (wsV RX9 129 RX9 yX9_noVertex wsX9_noVertex) := goodIn_app (goodIn_of _ (by decide +kernel)) ggX9_witnessEdge_X9_noVertex
set_option maxRecDepth 20000 in
theorem ggX9_witnessEdge_X9_closeOf : GoodIn wsX9_witnessEdge wsX9_closeOf := goodIn_r _ [18, 19, 20, 21, 9, 22, 23, 24, 25, 26, 4, 27, 28, 29, 30, 31, 32, 5, 12, 13, 14, 41, 42, 43, 44, 45, 46, 47, 48, 49, 50, 51, 52, 53, 54, 55, 56, 57, 58, 59, 60, 61] (by decide +kernel) (by decide +kernel)
set_option maxRecDepth 20000 in
theorem gX9_witnessEdge_X9_closeOf : GoodIn wsX9_witnessEdge (wsV RX9 77 RX9 yX9_closeOf wsX9_closeOf) := goodIn_app (goodIn_of _ (by decide +kernel)) ggX9_witnessEdge_X9_closeOf
set_option maxRecDepth 20000 in
theorem ggX9_witnessEdge_X9_firstStep : GoodIn wsX9_witnessEdge wsX9_firstStep := goodIn_r _ [36, 2, 4, 37, 38, 39, 9, 40, 27, 28, 12, 13, 14, 41, 42, 43, 44, 45, 46, 47, 48, 49, 50, 51, 52, 53, 54, 55, 56, 57, 58, 59, 60, 61] (by decide +kernel) (by decide +kernel)
set_option maxRecDepth 20000 in
theorem gX9_witnessEdge_X9_firstStep : GoodIn wsX9_witnessEdge (wsV RX9 152 RX9 yX9_firstStep wsX9_firstStep) := goodIn_app (goodIn_of _ (by decide +kernel)) ggX9_witnessEdge_X9_firstStep
theorem dX9_witnessEdge_0 : decode cX9_witnessEdge 0 = .ok (.aload_n 0, 1) := by decide +kernel
theorem dX9_witnessEdge_1 : decode cX9_witnessEdge 1 = .ok (.iconst 0, 1) := by decide +kernel
theorem dX9_witnessEdge_2 : decode cX9_witnessEdge 2 = .ok (.putfield 54, 3) := by decide +kernel
theorem dX9_witnessEdge_5 : decode cX9_witnessEdge 5 = .ok (.aload_n 0, 1) := by decide +kernel
theorem dX9_witnessEdge_6 : decode cX9_witnessEdge 6 = .ok (.iload_n 1, 1) := by decide +kernel
theorem dX9_witnessEdge_7 : decode cX9_witnessEdge 7 = .ok (.invokevirtual 129, 3) := by decide +kernel
theorem dX9_witnessEdge_10 : decode cX9_witnessEdge 10 = .ok (.ifCond .ne 11, 3) := by decide +kernel
theorem dX9_witnessEdge_13 : decode cX9_witnessEdge 13 = .ok (.aload_n 0, 1) := by decide +kernel
theorem dX9_witnessEdge_14 : decode cX9_witnessEdge 14 = .ok (.iload_n 2, 1) := by decide +kernel
theorem dX9_witnessEdge_15 : decode cX9_witnessEdge 15 = .ok (.invokevirtual 129, 3) := by decide +kernel
theorem dX9_witnessEdge_18 : decode cX9_witnessEdge 18 = .ok (.ifCond .eq 5, 3) := by decide +kernel
theorem dX9_witnessEdge_21 : decode cX9_witnessEdge 21 = .ok (.iconst (-1), 1) := by decide +kernel
theorem dX9_witnessEdge_22 : decode cX9_witnessEdge 22 = .ok (.ireturn, 1) := by decide +kernel
theorem dX9_witnessEdge_23 : decode cX9_witnessEdge 23 = .ok (.aload_n 0, 1) := by decide +kernel
theorem dX9_witnessEdge_24 : decode cX9_witnessEdge 24 = .ok (.aload_n 0, 1) := by decide +kernel
theorem dX9_witnessEdge_25 : decode cX9_witnessEdge 25 = .ok (.getfield 20, 3) := by decide +kernel
theorem dX9_witnessEdge_28 : decode cX9_witnessEdge 28 = .ok (.ldc 140, 2) := by decide +kernel
theorem dX9_witnessEdge_30 : decode cX9_witnessEdge 30 = .ok (.invokevirtual 77, 3) := by decide +kernel
theorem dX9_witnessEdge_33 : decode cX9_witnessEdge 33 = .ok (.aload_n 0, 1) := by decide +kernel
theorem dX9_witnessEdge_34 : decode cX9_witnessEdge 34 = .ok (.getfield 45, 3) := by decide +kernel
theorem dX9_witnessEdge_37 : decode cX9_witnessEdge 37 = .ok (.bipush 8, 2) := by decide +kernel
theorem dX9_witnessEdge_39 : decode cX9_witnessEdge 39 = .ok (.iload_n 1, 1) := by decide +kernel
theorem dX9_witnessEdge_40 : decode cX9_witnessEdge 40 = .ok (.imul, 1) := by decide +kernel
theorem dX9_witnessEdge_41 : decode cX9_witnessEdge 41 = .ok (.iload_n 2, 1) := by decide +kernel
theorem dX9_witnessEdge_42 : decode cX9_witnessEdge 42 = .ok (.iadd, 1) := by decide +kernel
theorem dX9_witnessEdge_43 : decode cX9_witnessEdge 43 = .ok (.iaload, 1) := by decide +kernel
theorem dX9_witnessEdge_44 : decode cX9_witnessEdge 44 = .ok (.istore 4, 2) := by decide +kernel
theorem dX9_witnessEdge_46 : decode cX9_witnessEdge 46 = .ok (.iload 4, 2) := by decide +kernel
theorem dX9_witnessEdge_48 : decode cX9_witnessEdge 48 = .ok (.ldc 61, 2) := by decide +kernel
theorem dX9_witnessEdge_50 : decode cX9_witnessEdge 50 = .ok (.if_icmp .ge 13, 3) := by decide +kernel
theorem dX9_witnessEdge_53 : decode cX9_witnessEdge 53 = .ok (.iload_n 3, 1) := by decide +kernel
theorem dX9_witnessEdge_54 : decode cX9_witnessEdge 54 = .ok (.ifCond .lt 9, 3) := by decide +kernel
theorem dX9_witnessEdge_57 : decode cX9_witnessEdge 57 = .ok (.iload_n 3, 1) := by decide +kernel
theorem dX9_witnessEdge_58 : decode cX9_witnessEdge 58 = .ok (.iload 4, 2) := by decide +kernel
theorem dX9_witnessEdge_60 : decode cX9_witnessEdge 60 = .ok (.if_icmp .lt 6, 3) := by decide +kernel
theorem dX9_witnessEdge_63 : decode cX9_witnessEdge 63 = .ok (.bipush (-9), 2) := by decide +kernel
theorem dX9_witnessEdge_65 : decode cX9_witnessEdge 65 = .ok (.ireturn, 1) := by decide +kernel
theorem dX9_witnessEdge_66 : decode cX9_witnessEdge 66 = .ok (.iload_n 1, 1) := by decide +kernel
theorem dX9_witnessEdge_67 : decode cX9_witnessEdge 67 = .ok (.istore 5, 2) := by decide +kernel
theorem dX9_witnessEdge_69 : decode cX9_witnessEdge 69 = .ok (.iload_n 2, 1) := by decide +kernel
theorem dX9_witnessEdge_70 : decode cX9_witnessEdge 70 = .ok (.istore 6, 2) := by decide +kernel
theorem dX9_witnessEdge_72 : decode cX9_witnessEdge 72 = .ok (.iload_n 3, 1) := by decide +kernel
theorem dX9_witnessEdge_73 : decode cX9_witnessEdge 73 = .ok (.istore 7, 2) := by decide +kernel
theorem dX9_witnessEdge_75 : decode cX9_witnessEdge 75 = .ok (.aload_n 0, 1) := by decide +kernel
theorem dX9_witnessEdge_76 : decode cX9_witnessEdge 76 = .ok (.iload 5, 2) := by decide +kernel
theorem dX9_witnessEdge_78 : decode cX9_witnessEdge 78 = .ok (.iload 6, 2) := by decide +kernel
theorem dX9_witnessEdge_80 : decode cX9_witnessEdge 80 = .ok (.invokevirtual 152, 3) := by decide +kernel
theorem dX9_witnessEdge_83 : decode cX9_witnessEdge 83 = .ok (.istore 8, 2) := by decide +kernel
theorem dX9_witnessEdge_85 : decode cX9_witnessEdge 85 = .ok (.iconst 1, 1) := by decide +kernel
theorem dX9_witnessEdge_86 : decode cX9_witnessEdge 86 = .ok (.iconst 3, 1) := by decide +kernel
theorem dX9_witnessEdge_87 : decode cX9_witnessEdge 87 = .ok (.iload 8, 2) := by decide +kernel
theorem dX9_witnessEdge_89 : decode cX9_witnessEdge 89 = .ok (.bipush 16, 2) := by decide +kernel
theorem dX9_witnessEdge_91 : decode cX9_witnessEdge 91 = .ok (.idiv, 1) := by decide +kernel
theorem dX9_witnessEdge_92 : decode cX9_witnessEdge 92 = .ok (.imul, 1) := by decide +kernel
theorem dX9_witnessEdge_93 : decode cX9_witnessEdge 93 = .ok (.iadd, 1) := by decide +kernel
theorem dX9_witnessEdge_94 : decode cX9_witnessEdge 94 = .ok (.istore 9, 2) := by decide +kernel
theorem dX9_witnessEdge_96 : decode cX9_witnessEdge 96 = .ok (.iconst 1, 1) := by decide +kernel
theorem dX9_witnessEdge_97 : decode cX9_witnessEdge 97 = .ok (.iconst 3, 1) := by decide +kernel
theorem dX9_witnessEdge_98 : decode cX9_witnessEdge 98 = .ok (.iload 8, 2) := by decide +kernel
theorem dX9_witnessEdge_100 : decode cX9_witnessEdge 100 = .ok (.bipush 16, 2) := by decide +kernel
theorem dX9_witnessEdge_102 : decode cX9_witnessEdge 102 = .ok (.irem, 1) := by decide +kernel
theorem dX9_witnessEdge_103 : decode cX9_witnessEdge 103 = .ok (.imul, 1) := by decide +kernel
theorem dX9_witnessEdge_104 : decode cX9_witnessEdge 104 = .ok (.iadd, 1) := by decide +kernel
theorem dX9_witnessEdge_105 : decode cX9_witnessEdge 105 = .ok (.istore 10, 2) := by decide +kernel
theorem dX9_witnessEdge_107 : decode cX9_witnessEdge 107 = .ok (.iload 7, 2) := by decide +kernel
theorem dX9_witnessEdge_109 : decode cX9_witnessEdge 109 = .ok (.ifCond .ne 9, 3) := by decide +kernel
theorem dX9_witnessEdge_112 : decode cX9_witnessEdge 112 = .ok (.iload 8, 2) := by decide +kernel
theorem dX9_witnessEdge_114 : decode cX9_witnessEdge 114 = .ok (.bipush 16, 2) := by decide +kernel
theorem dX9_witnessEdge_116 : decode cX9_witnessEdge 116 = .ok (.idiv, 1) := by decide +kernel
theorem dX9_witnessEdge_117 : decode cX9_witnessEdge 117 = .ok (.ireturn, 1) := by decide +kernel
theorem dX9_witnessEdge_118 : decode cX9_witnessEdge 118 = .ok (.iinc 7 (-1), 3) := by decide +kernel
theorem dX9_witnessEdge_121 : decode cX9_witnessEdge 121 = .ok (.aload_n 0, 1) := by decide +kernel
theorem dX9_witnessEdge_122 : decode cX9_witnessEdge 122 = .ok (.getfield 20, 3) := by decide +kernel
theorem dX9_witnessEdge_125 : decode cX9_witnessEdge 125 = .ok (.iload 9, 2) := by decide +kernel
theorem dX9_witnessEdge_127 : decode cX9_witnessEdge 127 = .ok (.iconst 2, 1) := by decide +kernel
theorem dX9_witnessEdge_128 : decode cX9_witnessEdge 128 = .ok (.iadd, 1) := by decide +kernel
theorem dX9_witnessEdge_129 : decode cX9_witnessEdge 129 = .ok (.iaload, 1) := by decide +kernel
theorem dX9_witnessEdge_130 : decode cX9_witnessEdge 130 = .ok (.ifCond .ne 17, 3) := by decide +kernel
theorem dX9_witnessEdge_133 : decode cX9_witnessEdge 133 = .ok (.aload_n 0, 1) := by decide +kernel
theorem dX9_witnessEdge_134 : decode cX9_witnessEdge 134 = .ok (.getfield 20, 3) := by decide +kernel
theorem dX9_witnessEdge_137 : decode cX9_witnessEdge 137 = .ok (.iload 9, 2) := by decide +kernel
theorem dX9_witnessEdge_139 : decode cX9_witnessEdge 139 = .ok (.iconst 1, 1) := by decide +kernel
theorem dX9_witnessEdge_140 : decode cX9_witnessEdge 140 = .ok (.iadd, 1) := by decide +kernel
theorem dX9_witnessEdge_141 : decode cX9_witnessEdge 141 = .ok (.iaload, 1) := by decide +kernel
theorem dX9_witnessEdge_142 : decode cX9_witnessEdge 142 = .ok (.istore 5, 2) := by decide +kernel
theorem dX9_witnessEdge_144 : decode cX9_witnessEdge 144 = .ok (.goto 122, 3) := by decide +kernel
theorem dX9_witnessEdge_147 : decode cX9_witnessEdge 147 = .ok (.aload_n 0, 1) := by decide +kernel
theorem dX9_witnessEdge_148 : decode cX9_witnessEdge 148 = .ok (.getfield 45, 3) := by decide +kernel
theorem dX9_witnessEdge_151 : decode cX9_witnessEdge 151 = .ok (.bipush 8, 2) := by decide +kernel
theorem dX9_witnessEdge_153 : decode cX9_witnessEdge 153 = .ok (.aload_n 0, 1) := by decide +kernel
theorem dX9_witnessEdge_154 : decode cX9_witnessEdge 154 = .ok (.getfield 20, 3) := by decide +kernel
theorem dX9_witnessEdge_157 : decode cX9_witnessEdge 157 = .ok (.iload 9, 2) := by decide +kernel
theorem dX9_witnessEdge_159 : decode cX9_witnessEdge 159 = .ok (.iconst 1, 1) := by decide +kernel
theorem dX9_witnessEdge_160 : decode cX9_witnessEdge 160 = .ok (.iadd, 1) := by decide +kernel
theorem dX9_witnessEdge_161 : decode cX9_witnessEdge 161 = .ok (.iaload, 1) := by decide +kernel
theorem dX9_witnessEdge_162 : decode cX9_witnessEdge 162 = .ok (.imul, 1) := by decide +kernel
theorem dX9_witnessEdge_163 : decode cX9_witnessEdge 163 = .ok (.aload_n 0, 1) := by decide +kernel
theorem dX9_witnessEdge_164 : decode cX9_witnessEdge 164 = .ok (.getfield 20, 3) := by decide +kernel
theorem dX9_witnessEdge_167 : decode cX9_witnessEdge 167 = .ok (.iload 10, 2) := by decide +kernel
theorem dX9_witnessEdge_169 : decode cX9_witnessEdge 169 = .ok (.iaload, 1) := by decide +kernel
theorem dX9_witnessEdge_170 : decode cX9_witnessEdge 170 = .ok (.iadd, 1) := by decide +kernel
theorem dX9_witnessEdge_171 : decode cX9_witnessEdge 171 = .ok (.iaload, 1) := by decide +kernel
theorem dX9_witnessEdge_172 : decode cX9_witnessEdge 172 = .ok (.istore 11, 2) := by decide +kernel
theorem dX9_witnessEdge_174 : decode cX9_witnessEdge 174 = .ok (.iload 7, 2) := by decide +kernel
theorem dX9_witnessEdge_176 : decode cX9_witnessEdge 176 = .ok (.iload 11, 2) := by decide +kernel
theorem dX9_witnessEdge_178 : decode cX9_witnessEdge 178 = .ok (.if_icmp .ne 9, 3) := by decide +kernel
theorem dX9_witnessEdge_181 : decode cX9_witnessEdge 181 = .ok (.iload 8, 2) := by decide +kernel
theorem dX9_witnessEdge_183 : decode cX9_witnessEdge 183 = .ok (.bipush 16, 2) := by decide +kernel
theorem dX9_witnessEdge_185 : decode cX9_witnessEdge 185 = .ok (.irem, 1) := by decide +kernel
theorem dX9_witnessEdge_186 : decode cX9_witnessEdge 186 = .ok (.ireturn, 1) := by decide +kernel
theorem dX9_witnessEdge_187 : decode cX9_witnessEdge 187 = .ok (.iload 7, 2) := by decide +kernel
theorem dX9_witnessEdge_189 : decode cX9_witnessEdge 189 = .ok (.iload 11, 2) := by decide +kernel
theorem dX9_witnessEdge_191 : decode cX9_witnessEdge 191 = .ok (.if_icmp .ge 7, 3) := by decide +kernel
theorem dX9_witnessEdge_194 : decode cX9_witnessEdge 194 = .ok (.iconst 1, 1) := by decide +kernel
theorem dX9_witnessEdge_195 : decode cX9_witnessEdge 195 = .ok (.goto 4, 3) := by decide +kernel
theorem dX9_witnessEdge_198 : decode cX9_witnessEdge 198 = .ok (.iconst 0, 1) := by decide +kernel
theorem dX9_witnessEdge_199 : decode cX9_witnessEdge 199 = .ok (.istore 12, 2) := by decide +kernel
theorem dX9_witnessEdge_201 : decode cX9_witnessEdge 201 = .ok (.iload 12, 2) := by decide +kernel
theorem dX9_witnessEdge_203 : decode cX9_witnessEdge 203 = .ok (.ifCond .eq 15, 3) := by decide +kernel
theorem dX9_witnessEdge_206 : decode cX9_witnessEdge 206 = .ok (.aload_n 0, 1) := by decide +kernel
theorem dX9_witnessEdge_207 : decode cX9_witnessEdge 207 = .ok (.getfield 20, 3) := by decide +kernel
theorem dX9_witnessEdge_210 : decode cX9_witnessEdge 210 = .ok (.iload 9, 2) := by decide +kernel
theorem dX9_witnessEdge_212 : decode cX9_witnessEdge 212 = .ok (.iconst 1, 1) := by decide +kernel
theorem dX9_witnessEdge_213 : decode cX9_witnessEdge 213 = .ok (.iadd, 1) := by decide +kernel
theorem dX9_witnessEdge_214 : decode cX9_witnessEdge 214 = .ok (.iaload, 1) := by decide +kernel
theorem dX9_witnessEdge_215 : decode cX9_witnessEdge 215 = .ok (.goto 12, 3) := by decide +kernel
theorem dX9_witnessEdge_218 : decode cX9_witnessEdge 218 = .ok (.aload_n 0, 1) := by decide +kernel
theorem dX9_witnessEdge_219 : decode cX9_witnessEdge 219 = .ok (.getfield 20, 3) := by decide +kernel
theorem dX9_witnessEdge_222 : decode cX9_witnessEdge 222 = .ok (.iload 10, 2) := by decide +kernel
theorem dX9_witnessEdge_224 : decode cX9_witnessEdge 224 = .ok (.iconst 1, 1) := by decide +kernel
theorem dX9_witnessEdge_225 : decode cX9_witnessEdge 225 = .ok (.iadd, 1) := by decide +kernel
theorem dX9_witnessEdge_226 : decode cX9_witnessEdge 226 = .ok (.iaload, 1) := by decide +kernel
theorem dX9_witnessEdge_227 : decode cX9_witnessEdge 227 = .ok (.istore 5, 2) := by decide +kernel
theorem dX9_witnessEdge_229 : decode cX9_witnessEdge 229 = .ok (.iload 12, 2) := by decide +kernel
theorem dX9_witnessEdge_231 : decode cX9_witnessEdge 231 = .ok (.ifCond .eq 13, 3) := by decide +kernel
theorem dX9_witnessEdge_234 : decode cX9_witnessEdge 234 = .ok (.aload_n 0, 1) := by decide +kernel
theorem dX9_witnessEdge_235 : decode cX9_witnessEdge 235 = .ok (.getfield 20, 3) := by decide +kernel
theorem dX9_witnessEdge_238 : decode cX9_witnessEdge 238 = .ok (.iload 10, 2) := by decide +kernel
theorem dX9_witnessEdge_240 : decode cX9_witnessEdge 240 = .ok (.iaload, 1) := by decide +kernel
theorem dX9_witnessEdge_241 : decode cX9_witnessEdge 241 = .ok (.goto 5, 3) := by decide +kernel
theorem dX9_witnessEdge_244 : decode cX9_witnessEdge 244 = .ok (.iload 6, 2) := by decide +kernel
theorem dX9_witnessEdge_246 : decode cX9_witnessEdge 246 = .ok (.istore 6, 2) := by decide +kernel
theorem dX9_witnessEdge_248 : decode cX9_witnessEdge 248 = .ok (.iload 7, 2) := by decide +kernel
theorem dX9_witnessEdge_250 : decode cX9_witnessEdge 250 = .ok (.iload 12, 2) := by decide +kernel
theorem dX9_witnessEdge_252 : decode cX9_witnessEdge 252 = .ok (.ifCond .eq 7, 3) := by decide +kernel
theorem dX9_witnessEdge_255 : decode cX9_witnessEdge 255 = .ok (.iconst 0, 1) := by decide +kernel
theorem dX9_witnessEdge_256 : decode cX9_witnessEdge 256 = .ok (.goto 7, 3) := by decide +kernel
theorem dX9_witnessEdge_259 : decode cX9_witnessEdge 259 = .ok (.iload 11, 2) := by decide +kernel
theorem dX9_witnessEdge_261 : decode cX9_witnessEdge 261 = .ok (.iconst 1, 1) := by decide +kernel
theorem dX9_witnessEdge_262 : decode cX9_witnessEdge 262 = .ok (.iadd, 1) := by decide +kernel
theorem dX9_witnessEdge_263 : decode cX9_witnessEdge 263 = .ok (.isub, 1) := by decide +kernel
theorem dX9_witnessEdge_264 : decode cX9_witnessEdge 264 = .ok (.istore 7, 2) := by decide +kernel
theorem dX9_witnessEdge_266 : decode cX9_witnessEdge 266 = .ok (.goto (-191), 3) := by decide +kernel
theorem dX9_lessDeep_0 : decode cX9_lessDeep 0 = .ok (.iload_n 3, 1) := by decide +kernel
theorem dX9_lessDeep_1 : decode cX9_lessDeep 1 = .ok (.aload_n 0, 1) := by decide +kernel
theorem dX9_lessDeep_2 : decode cX9_lessDeep 2 = .ok (.getfield 48, 3) := by decide +kernel
theorem dX9_lessDeep_5 : decode cX9_lessDeep 5 = .ok (.bipush 8, 2) := by decide +kernel
theorem dX9_lessDeep_7 : decode cX9_lessDeep 7 = .ok (.iload_n 1, 1) := by decide +kernel
theorem dX9_lessDeep_8 : decode cX9_lessDeep 8 = .ok (.imul, 1) := by decide +kernel
theorem dX9_lessDeep_9 : decode cX9_lessDeep 9 = .ok (.iload_n 2, 1) := by decide +kernel
theorem dX9_lessDeep_10 : decode cX9_lessDeep 10 = .ok (.iadd, 1) := by decide +kernel
theorem dX9_lessDeep_11 : decode cX9_lessDeep 11 = .ok (.iaload, 1) := by decide +kernel
theorem dX9_lessDeep_12 : decode cX9_lessDeep 12 = .ok (.if_icmp .ge 7, 3) := by decide +kernel
theorem dX9_lessDeep_15 : decode cX9_lessDeep 15 = .ok (.iconst 1, 1) := by decide +kernel
theorem dX9_lessDeep_16 : decode cX9_lessDeep 16 = .ok (.goto 4, 3) := by decide +kernel
theorem dX9_lessDeep_19 : decode cX9_lessDeep 19 = .ok (.iconst 0, 1) := by decide +kernel
theorem dX9_lessDeep_20 : decode cX9_lessDeep 20 = .ok (.istore 4, 2) := by decide +kernel
theorem dX9_lessDeep_22 : decode cX9_lessDeep 22 = .ok (.aload_n 0, 1) := by decide +kernel
theorem dX9_lessDeep_23 : decode cX9_lessDeep 23 = .ok (.getfield 48, 3) := by decide +kernel
theorem dX9_lessDeep_26 : decode cX9_lessDeep 26 = .ok (.bipush 8, 2) := by decide +kernel
theorem dX9_lessDeep_28 : decode cX9_lessDeep 28 = .ok (.iload_n 1, 1) := by decide +kernel
theorem dX9_lessDeep_29 : decode cX9_lessDeep 29 = .ok (.imul, 1) := by decide +kernel
theorem dX9_lessDeep_30 : decode cX9_lessDeep 30 = .ok (.iload_n 2, 1) := by decide +kernel
theorem dX9_lessDeep_31 : decode cX9_lessDeep 31 = .ok (.iadd, 1) := by decide +kernel
theorem dX9_lessDeep_32 : decode cX9_lessDeep 32 = .ok (.iload 4, 2) := by decide +kernel
theorem dX9_lessDeep_34 : decode cX9_lessDeep 34 = .ok (.ifCond .eq 7, 3) := by decide +kernel
theorem dX9_lessDeep_37 : decode cX9_lessDeep 37 = .ok (.iload_n 3, 1) := by decide +kernel
theorem dX9_lessDeep_38 : decode cX9_lessDeep 38 = .ok (.goto 14, 3) := by decide +kernel
theorem dX9_lessDeep_41 : decode cX9_lessDeep 41 = .ok (.aload_n 0, 1) := by decide +kernel
theorem dX9_lessDeep_42 : decode cX9_lessDeep 42 = .ok (.getfield 48, 3) := by decide +kernel
theorem dX9_lessDeep_45 : decode cX9_lessDeep 45 = .ok (.bipush 8, 2) := by decide +kernel
theorem dX9_lessDeep_47 : decode cX9_lessDeep 47 = .ok (.iload_n 1, 1) := by decide +kernel
theorem dX9_lessDeep_48 : decode cX9_lessDeep 48 = .ok (.imul, 1) := by decide +kernel
theorem dX9_lessDeep_49 : decode cX9_lessDeep 49 = .ok (.iload_n 2, 1) := by decide +kernel
theorem dX9_lessDeep_50 : decode cX9_lessDeep 50 = .ok (.iadd, 1) := by decide +kernel
theorem dX9_lessDeep_51 : decode cX9_lessDeep 51 = .ok (.iaload, 1) := by decide +kernel
theorem dX9_lessDeep_52 : decode cX9_lessDeep 52 = .ok (.iastore, 1) := by decide +kernel
theorem dX9_lessDeep_53 : decode cX9_lessDeep 53 = .ok (.iload 4, 2) := by decide +kernel
theorem dX9_lessDeep_55 : decode cX9_lessDeep 55 = .ok (.ireturn, 1) := by decide +kernel
set_option maxRecDepth 20000 in
theorem ggX9_closeDepths_X9_lessDeep : GoodIn wsX9_closeDepths wsX9_lessDeep := goodIn_r _ [9, 1, 13, 14, 15, 16, 17, 18, 19, 20, 21, 22, 23, 24, 25, 26, 27, 28, 29, 30, 31, 32, 33] (by decide +kernel) (by decide +kernel)
set_option maxRecDepth 20000 in
theorem gX9_closeDepths_X9_lessDeep : GoodIn wsX9_closeDepths (wsV RX9 155 RX9 yX9_lessDeep wsX9_lessDeep) := goodIn_app (goodIn_of _ (by decide +kernel)) ggX9_closeDepths_X9_lessDeep
set_option maxRecDepth 20000 in
theorem ggX9_closeDepths_X9_in : GoodIn wsX9_closeDepths wsX9_in := goodIn_r _ [12] (by decide +kernel) (by decide +kernel)
set_option maxRecDepth 20000 in
theorem gX9_closeDepths_X9_in : GoodIn wsX9_closeDepths (va_wsS RX9 57 yX9_in wsX9_in) := goodIn_app (goodIn_of _ (by decide +kernel)) ggX9_closeDepths_X9_in
theorem dX9_closeDepths_0 : decode cX9_closeDepths 0 = .ok (.iconst 0, 1) := by decide +kernel
theorem dX9_closeDepths_1 : decode cX9_closeDepths 1 = .ok (.istore_n 1, 1) := by decide +kernel
theorem dX9_closeDepths_2 : decode cX9_closeDepths 2 = .ok (.iload_n 1, 1) := by decide +kernel
theorem dX9_closeDepths_3 : decode cX9_closeDepths 3 = .ok (.bipush 64, 2) := by decide +kernel
theorem dX9_closeDepths_5 : decode cX9_closeDepths 5 = .ok (.if_icmp .ge 32, 3) := by decide +kernel
theorem dX9_closeDepths_8 : decode cX9_closeDepths 8 = .ok (.aload_n 0, 1) := by decide +kernel
theorem dX9_closeDepths_9 : decode cX9_closeDepths 9 = .ok (.getfield 48, 3) := by decide +kernel
theorem dX9_closeDepths_12 : decode cX9_closeDepths 12 = .ok (.iload_n 1, 1) := by decide +kernel
theorem dX9_closeDepths_13 : decode cX9_closeDepths 13 = .ok (.iload_n 1, 1) := by decide +kernel
theorem dX9_closeDepths_14 : decode cX9_closeDepths 14 = .ok (.bipush 8, 2) := by decide +kernel
theorem dX9_closeDepths_16 : decode cX9_closeDepths 16 = .ok (.idiv, 1) := by decide +kernel
theorem dX9_closeDepths_17 : decode cX9_closeDepths 17 = .ok (.iload_n 1, 1) := by decide +kernel
theorem dX9_closeDepths_18 : decode cX9_closeDepths 18 = .ok (.bipush 8, 2) := by decide +kernel
theorem dX9_closeDepths_20 : decode cX9_closeDepths 20 = .ok (.irem, 1) := by decide +kernel
theorem dX9_closeDepths_21 : decode cX9_closeDepths 21 = .ok (.if_icmp .ne 7, 3) := by decide +kernel
theorem dX9_closeDepths_24 : decode cX9_closeDepths 24 = .ok (.iconst 0, 1) := by decide +kernel
theorem dX9_closeDepths_25 : decode cX9_closeDepths 25 = .ok (.goto 5, 3) := by decide +kernel
theorem dX9_closeDepths_28 : decode cX9_closeDepths 28 = .ok (.ldc 62, 2) := by decide +kernel
theorem dX9_closeDepths_30 : decode cX9_closeDepths 30 = .ok (.iastore, 1) := by decide +kernel
theorem dX9_closeDepths_31 : decode cX9_closeDepths 31 = .ok (.iinc 1 1, 3) := by decide +kernel
theorem dX9_closeDepths_34 : decode cX9_closeDepths 34 = .ok (.goto (-32), 3) := by decide +kernel
theorem dX9_closeDepths_37 : decode cX9_closeDepths 37 = .ok (.iconst 1, 1) := by decide +kernel
theorem dX9_closeDepths_38 : decode cX9_closeDepths 38 = .ok (.istore_n 1, 1) := by decide +kernel
theorem dX9_closeDepths_39 : decode cX9_closeDepths 39 = .ok (.iload_n 1, 1) := by decide +kernel
theorem dX9_closeDepths_40 : decode cX9_closeDepths 40 = .ok (.ifCond .eq 269, 3) := by decide +kernel
theorem dX9_closeDepths_43 : decode cX9_closeDepths 43 = .ok (.iconst 0, 1) := by decide +kernel
theorem dX9_closeDepths_44 : decode cX9_closeDepths 44 = .ok (.istore_n 1, 1) := by decide +kernel
theorem dX9_closeDepths_45 : decode cX9_closeDepths 45 = .ok (.iconst 1, 1) := by decide +kernel
theorem dX9_closeDepths_46 : decode cX9_closeDepths 46 = .ok (.istore_n 2, 1) := by decide +kernel
theorem dX9_closeDepths_47 : decode cX9_closeDepths 47 = .ok (.iload_n 2, 1) := by decide +kernel
theorem dX9_closeDepths_48 : decode cX9_closeDepths 48 = .ok (.iconst 3, 1) := by decide +kernel
theorem dX9_closeDepths_49 : decode cX9_closeDepths 49 = .ok (.aload_n 0, 1) := by decide +kernel
theorem dX9_closeDepths_50 : decode cX9_closeDepths 50 = .ok (.getfield 20, 3) := by decide +kernel
theorem dX9_closeDepths_53 : decode cX9_closeDepths 53 = .ok (.iconst 0, 1) := by decide +kernel
theorem dX9_closeDepths_54 : decode cX9_closeDepths 54 = .ok (.iaload, 1) := by decide +kernel
theorem dX9_closeDepths_55 : decode cX9_closeDepths 55 = .ok (.imul, 1) := by decide +kernel
theorem dX9_closeDepths_56 : decode cX9_closeDepths 56 = .ok (.if_icmp .ge 163, 3) := by decide +kernel
theorem dX9_closeDepths_59 : decode cX9_closeDepths 59 = .ok (.aload_n 0, 1) := by decide +kernel
theorem dX9_closeDepths_60 : decode cX9_closeDepths 60 = .ok (.getfield 20, 3) := by decide +kernel
theorem dX9_closeDepths_63 : decode cX9_closeDepths 63 = .ok (.iload_n 2, 1) := by decide +kernel
theorem dX9_closeDepths_64 : decode cX9_closeDepths 64 = .ok (.iconst 2, 1) := by decide +kernel
theorem dX9_closeDepths_65 : decode cX9_closeDepths 65 = .ok (.iadd, 1) := by decide +kernel
theorem dX9_closeDepths_66 : decode cX9_closeDepths 66 = .ok (.iaload, 1) := by decide +kernel
theorem dX9_closeDepths_67 : decode cX9_closeDepths 67 = .ok (.ifCond .ne 27, 3) := by decide +kernel
theorem dX9_closeDepths_70 : decode cX9_closeDepths 70 = .ok (.aload_n 0, 1) := by decide +kernel
theorem dX9_closeDepths_71 : decode cX9_closeDepths 71 = .ok (.aload_n 0, 1) := by decide +kernel
theorem dX9_closeDepths_72 : decode cX9_closeDepths 72 = .ok (.getfield 20, 3) := by decide +kernel
theorem dX9_closeDepths_75 : decode cX9_closeDepths 75 = .ok (.iload_n 2, 1) := by decide +kernel
theorem dX9_closeDepths_76 : decode cX9_closeDepths 76 = .ok (.iaload, 1) := by decide +kernel
theorem dX9_closeDepths_77 : decode cX9_closeDepths 77 = .ok (.aload_n 0, 1) := by decide +kernel
theorem dX9_closeDepths_78 : decode cX9_closeDepths 78 = .ok (.getfield 20, 3) := by decide +kernel
theorem dX9_closeDepths_81 : decode cX9_closeDepths 81 = .ok (.iload_n 2, 1) := by decide +kernel
theorem dX9_closeDepths_82 : decode cX9_closeDepths 82 = .ok (.iconst 1, 1) := by decide +kernel
theorem dX9_closeDepths_83 : decode cX9_closeDepths 83 = .ok (.iadd, 1) := by decide +kernel
theorem dX9_closeDepths_84 : decode cX9_closeDepths 84 = .ok (.iaload, 1) := by decide +kernel
theorem dX9_closeDepths_85 : decode cX9_closeDepths 85 = .ok (.iconst 0, 1) := by decide +kernel
theorem dX9_closeDepths_86 : decode cX9_closeDepths 86 = .ok (.invokevirtual 155, 3) := by decide +kernel
theorem dX9_closeDepths_89 : decode cX9_closeDepths 89 = .ok (.ifCond .eq 5, 3) := by decide +kernel
theorem dX9_closeDepths_92 : decode cX9_closeDepths 92 = .ok (.iconst 1, 1) := by decide +kernel
theorem dX9_closeDepths_93 : decode cX9_closeDepths 93 = .ok (.istore_n 1, 1) := by decide +kernel
theorem dX9_closeDepths_94 : decode cX9_closeDepths 94 = .ok (.iconst 1, 1) := by decide +kernel
theorem dX9_closeDepths_95 : decode cX9_closeDepths 95 = .ok (.istore_n 3, 1) := by decide +kernel
theorem dX9_closeDepths_96 : decode cX9_closeDepths 96 = .ok (.iload_n 3, 1) := by decide +kernel
theorem dX9_closeDepths_97 : decode cX9_closeDepths 97 = .ok (.iconst 3, 1) := by decide +kernel
theorem dX9_closeDepths_98 : decode cX9_closeDepths 98 = .ok (.aload_n 0, 1) := by decide +kernel
theorem dX9_closeDepths_99 : decode cX9_closeDepths 99 = .ok (.getfield 20, 3) := by decide +kernel
theorem dX9_closeDepths_102 : decode cX9_closeDepths 102 = .ok (.iconst 0, 1) := by decide +kernel
theorem dX9_closeDepths_103 : decode cX9_closeDepths 103 = .ok (.iaload, 1) := by decide +kernel
theorem dX9_closeDepths_104 : decode cX9_closeDepths 104 = .ok (.imul, 1) := by decide +kernel
theorem dX9_closeDepths_105 : decode cX9_closeDepths 105 = .ok (.if_icmp .ge 108, 3) := by decide +kernel
theorem dX9_closeDepths_108 : decode cX9_closeDepths 108 = .ok (.aload_n 0, 1) := by decide +kernel
theorem dX9_closeDepths_109 : decode cX9_closeDepths 109 = .ok (.getfield 20, 3) := by decide +kernel
theorem dX9_closeDepths_112 : decode cX9_closeDepths 112 = .ok (.iload_n 2, 1) := by decide +kernel
theorem dX9_closeDepths_113 : decode cX9_closeDepths 113 = .ok (.iconst 2, 1) := by decide +kernel
theorem dX9_closeDepths_114 : decode cX9_closeDepths 114 = .ok (.iadd, 1) := by decide +kernel
theorem dX9_closeDepths_115 : decode cX9_closeDepths 115 = .ok (.iaload, 1) := by decide +kernel
theorem dX9_closeDepths_116 : decode cX9_closeDepths 116 = .ok (.i2l, 1) := by decide +kernel
theorem dX9_closeDepths_117 : decode cX9_closeDepths 117 = .ok (.lconst 1, 1) := by decide +kernel
theorem dX9_closeDepths_118 : decode cX9_closeDepths 118 = .ok (.ldc2_w 67, 3) := by decide +kernel
theorem dX9_closeDepths_121 : decode cX9_closeDepths 121 = .ok (.invokestatic 57, 3) := by decide +kernel
theorem dX9_closeDepths_124 : decode cX9_closeDepths 124 = .ok (.ifCond .eq 89, 3) := by decide +kernel
theorem dX9_closeDepths_127 : decode cX9_closeDepths 127 = .ok (.aload_n 0, 1) := by decide +kernel
theorem dX9_closeDepths_128 : decode cX9_closeDepths 128 = .ok (.getfield 48, 3) := by decide +kernel
theorem dX9_closeDepths_131 : decode cX9_closeDepths 131 = .ok (.bipush 8, 2) := by decide +kernel
theorem dX9_closeDepths_133 : decode cX9_closeDepths 133 = .ok (.aload_n 0, 1) := by decide +kernel
theorem dX9_closeDepths_134 : decode cX9_closeDepths 134 = .ok (.getfield 20, 3) := by decide +kernel
theorem dX9_closeDepths_137 : decode cX9_closeDepths 137 = .ok (.iload_n 2, 1) := by decide +kernel
theorem dX9_closeDepths_138 : decode cX9_closeDepths 138 = .ok (.iconst 1, 1) := by decide +kernel
theorem dX9_closeDepths_139 : decode cX9_closeDepths 139 = .ok (.iadd, 1) := by decide +kernel
theorem dX9_closeDepths_140 : decode cX9_closeDepths 140 = .ok (.iaload, 1) := by decide +kernel
theorem dX9_closeDepths_141 : decode cX9_closeDepths 141 = .ok (.imul, 1) := by decide +kernel
theorem dX9_closeDepths_142 : decode cX9_closeDepths 142 = .ok (.aload_n 0, 1) := by decide +kernel
theorem dX9_closeDepths_143 : decode cX9_closeDepths 143 = .ok (.getfield 20, 3) := by decide +kernel
theorem dX9_closeDepths_146 : decode cX9_closeDepths 146 = .ok (.iload_n 3, 1) := by decide +kernel
theorem dX9_closeDepths_147 : decode cX9_closeDepths 147 = .ok (.iaload, 1) := by decide +kernel
theorem dX9_closeDepths_148 : decode cX9_closeDepths 148 = .ok (.iadd, 1) := by decide +kernel
theorem dX9_closeDepths_149 : decode cX9_closeDepths 149 = .ok (.iaload, 1) := by decide +kernel
theorem dX9_closeDepths_150 : decode cX9_closeDepths 150 = .ok (.istore 4, 2) := by decide +kernel
theorem dX9_closeDepths_152 : decode cX9_closeDepths 152 = .ok (.aload_n 0, 1) := by decide +kernel
theorem dX9_closeDepths_153 : decode cX9_closeDepths 153 = .ok (.getfield 20, 3) := by decide +kernel
theorem dX9_closeDepths_156 : decode cX9_closeDepths 156 = .ok (.iload_n 3, 1) := by decide +kernel
theorem dX9_closeDepths_157 : decode cX9_closeDepths 157 = .ok (.iconst 2, 1) := by decide +kernel
theorem dX9_closeDepths_158 : decode cX9_closeDepths 158 = .ok (.iadd, 1) := by decide +kernel
theorem dX9_closeDepths_159 : decode cX9_closeDepths 159 = .ok (.iaload, 1) := by decide +kernel
theorem dX9_closeDepths_160 : decode cX9_closeDepths 160 = .ok (.aload_n 0, 1) := by decide +kernel
theorem dX9_closeDepths_161 : decode cX9_closeDepths 161 = .ok (.getfield 20, 3) := by decide +kernel
theorem dX9_closeDepths_164 : decode cX9_closeDepths 164 = .ok (.iload_n 2, 1) := by decide +kernel
theorem dX9_closeDepths_165 : decode cX9_closeDepths 165 = .ok (.iconst 2, 1) := by decide +kernel
theorem dX9_closeDepths_166 : decode cX9_closeDepths 166 = .ok (.iadd, 1) := by decide +kernel
theorem dX9_closeDepths_167 : decode cX9_closeDepths 167 = .ok (.iaload, 1) := by decide +kernel
