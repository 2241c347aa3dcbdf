theorem dX9_closeDepths_168 : decode cX9_closeDepths 168 = .ok (.iconst 3, 1) := by decide +kernel
theorem dX9_closeDepths_169 : decode cX9_closeDepths 169 = .ok (.iadd, 1) := by decide +kernel
theorem dX9_closeDepths_170 : decode cX9_closeDepths 170 = .ok (.if_icmp .ne 37, 3) := by decide +kernel
theorem dX9_closeDepths_173 : decode cX9_closeDepths 173 = .ok (.iload 4, 2) := by decide +kernel
theorem dX9_closeDepths_175 : decode cX9_closeDepths 175 = .ok (.ldc 62, 2) := by decide +kernel
theorem dX9_closeDepths_177 : decode cX9_closeDepths 177 = .ok (.if_icmp .ge 30, 3) := by decide +kernel
theorem dX9_closeDepths_180 : decode cX9_closeDepths 180 = .ok (.aload_n 0, 1) := by decide +kernel
theorem dX9_closeDepths_181 : decode cX9_closeDepths 181 = .ok (.aload_n 0, 1) := by decide +kernel
theorem dX9_closeDepths_182 : decode cX9_closeDepths 182 = .ok (.getfield 20, 3) := by decide +kernel
theorem dX9_closeDepths_185 : decode cX9_closeDepths 185 = .ok (.iload_n 2, 1) := by decide +kernel
theorem dX9_closeDepths_186 : decode cX9_closeDepths 186 = .ok (.iaload, 1) := by decide +kernel
theorem dX9_closeDepths_187 : decode cX9_closeDepths 187 = .ok (.aload_n 0, 1) := by decide +kernel
theorem dX9_closeDepths_188 : decode cX9_closeDepths 188 = .ok (.getfield 20, 3) := by decide +kernel
theorem dX9_closeDepths_191 : decode cX9_closeDepths 191 = .ok (.iload_n 3, 1) := by decide +kernel
theorem dX9_closeDepths_192 : decode cX9_closeDepths 192 = .ok (.iconst 1, 1) := by decide +kernel
theorem dX9_closeDepths_193 : decode cX9_closeDepths 193 = .ok (.iadd, 1) := by decide +kernel
theorem dX9_closeDepths_194 : decode cX9_closeDepths 194 = .ok (.iaload, 1) := by decide +kernel
theorem dX9_closeDepths_195 : decode cX9_closeDepths 195 = .ok (.iload 4, 2) := by decide +kernel
theorem dX9_closeDepths_197 : decode cX9_closeDepths 197 = .ok (.iconst 1, 1) := by decide +kernel
theorem dX9_closeDepths_198 : decode cX9_closeDepths 198 = .ok (.iadd, 1) := by decide +kernel
theorem dX9_closeDepths_199 : decode cX9_closeDepths 199 = .ok (.invokevirtual 155, 3) := by decide +kernel
theorem dX9_closeDepths_202 : decode cX9_closeDepths 202 = .ok (.ifCond .eq 5, 3) := by decide +kernel
theorem dX9_closeDepths_205 : decode cX9_closeDepths 205 = .ok (.iconst 1, 1) := by decide +kernel
theorem dX9_closeDepths_206 : decode cX9_closeDepths 206 = .ok (.istore_n 1, 1) := by decide +kernel
theorem dX9_closeDepths_207 : decode cX9_closeDepths 207 = .ok (.iinc 3 3, 3) := by decide +kernel
theorem dX9_closeDepths_210 : decode cX9_closeDepths 210 = .ok (.goto (-114), 3) := by decide +kernel
theorem dX9_closeDepths_213 : decode cX9_closeDepths 213 = .ok (.iinc 2 3, 3) := by decide +kernel
theorem dX9_closeDepths_216 : decode cX9_closeDepths 216 = .ok (.goto (-169), 3) := by decide +kernel
theorem dX9_closeDepths_219 : decode cX9_closeDepths 219 = .ok (.iconst 0, 1) := by decide +kernel
theorem dX9_closeDepths_220 : decode cX9_closeDepths 220 = .ok (.istore_n 2, 1) := by decide +kernel
theorem dX9_closeDepths_221 : decode cX9_closeDepths 221 = .ok (.iload_n 2, 1) := by decide +kernel
theorem dX9_closeDepths_222 : decode cX9_closeDepths 222 = .ok (.sipush 512, 3) := by decide +kernel
theorem dX9_closeDepths_225 : decode cX9_closeDepths 225 = .ok (.if_icmp .ge 81, 3) := by decide +kernel
theorem dX9_closeDepths_228 : decode cX9_closeDepths 228 = .ok (.aload_n 0, 1) := by decide +kernel
theorem dX9_closeDepths_229 : decode cX9_closeDepths 229 = .ok (.getfield 48, 3) := by decide +kernel
theorem dX9_closeDepths_232 : decode cX9_closeDepths 232 = .ok (.bipush 8, 2) := by decide +kernel
theorem dX9_closeDepths_234 : decode cX9_closeDepths 234 = .ok (.iload_n 2, 1) := by decide +kernel
theorem dX9_closeDepths_235 : decode cX9_closeDepths 235 = .ok (.bipush 64, 2) := by decide +kernel
theorem dX9_closeDepths_237 : decode cX9_closeDepths 237 = .ok (.idiv, 1) := by decide +kernel
theorem dX9_closeDepths_238 : decode cX9_closeDepths 238 = .ok (.imul, 1) := by decide +kernel
theorem dX9_closeDepths_239 : decode cX9_closeDepths 239 = .ok (.iload_n 2, 1) := by decide +kernel
theorem dX9_closeDepths_240 : decode cX9_closeDepths 240 = .ok (.bipush 8, 2) := by decide +kernel
theorem dX9_closeDepths_242 : decode cX9_closeDepths 242 = .ok (.idiv, 1) := by decide +kernel
theorem dX9_closeDepths_243 : decode cX9_closeDepths 243 = .ok (.bipush 8, 2) := by decide +kernel
theorem dX9_closeDepths_245 : decode cX9_closeDepths 245 = .ok (.irem, 1) := by decide +kernel
theorem dX9_closeDepths_246 : decode cX9_closeDepths 246 = .ok (.iadd, 1) := by decide +kernel
theorem dX9_closeDepths_247 : decode cX9_closeDepths 247 = .ok (.iaload, 1) := by decide +kernel
theorem dX9_closeDepths_248 : decode cX9_closeDepths 248 = .ok (.istore_n 3, 1) := by decide +kernel
theorem dX9_closeDepths_249 : decode cX9_closeDepths 249 = .ok (.aload_n 0, 1) := by decide +kernel
theorem dX9_closeDepths_250 : decode cX9_closeDepths 250 = .ok (.getfield 48, 3) := by decide +kernel
theorem dX9_closeDepths_253 : decode cX9_closeDepths 253 = .ok (.bipush 8, 2) := by decide +kernel
theorem dX9_closeDepths_255 : decode cX9_closeDepths 255 = .ok (.iload_n 2, 1) := by decide +kernel
theorem dX9_closeDepths_256 : decode cX9_closeDepths 256 = .ok (.bipush 8, 2) := by decide +kernel
theorem dX9_closeDepths_258 : decode cX9_closeDepths 258 = .ok (.idiv, 1) := by decide +kernel
theorem dX9_closeDepths_259 : decode cX9_closeDepths 259 = .ok (.bipush 8, 2) := by decide +kernel
theorem dX9_closeDepths_261 : decode cX9_closeDepths 261 = .ok (.irem, 1) := by decide +kernel
theorem dX9_closeDepths_262 : decode cX9_closeDepths 262 = .ok (.imul, 1) := by decide +kernel
theorem dX9_closeDepths_263 : decode cX9_closeDepths 263 = .ok (.iload_n 2, 1) := by decide +kernel
theorem dX9_closeDepths_264 : decode cX9_closeDepths 264 = .ok (.bipush 8, 2) := by decide +kernel
theorem dX9_closeDepths_266 : decode cX9_closeDepths 266 = .ok (.irem, 1) := by decide +kernel
theorem dX9_closeDepths_267 : decode cX9_closeDepths 267 = .ok (.iadd, 1) := by decide +kernel
theorem dX9_closeDepths_268 : decode cX9_closeDepths 268 = .ok (.iaload, 1) := by decide +kernel
theorem dX9_closeDepths_269 : decode cX9_closeDepths 269 = .ok (.istore 4, 2) := by decide +kernel
theorem dX9_closeDepths_271 : decode cX9_closeDepths 271 = .ok (.aload_n 0, 1) := by decide +kernel
theorem dX9_closeDepths_272 : decode cX9_closeDepths 272 = .ok (.iload_n 2, 1) := by decide +kernel
theorem dX9_closeDepths_273 : decode cX9_closeDepths 273 = .ok (.bipush 64, 2) := by decide +kernel
theorem dX9_closeDepths_275 : decode cX9_closeDepths 275 = .ok (.idiv, 1) := by decide +kernel
theorem dX9_closeDepths_276 : decode cX9_closeDepths 276 = .ok (.iload_n 2, 1) := by decide +kernel
theorem dX9_closeDepths_277 : decode cX9_closeDepths 277 = .ok (.bipush 8, 2) := by decide +kernel
theorem dX9_closeDepths_279 : decode cX9_closeDepths 279 = .ok (.irem, 1) := by decide +kernel
theorem dX9_closeDepths_280 : decode cX9_closeDepths 280 = .ok (.iload_n 3, 1) := by decide +kernel
theorem dX9_closeDepths_281 : decode cX9_closeDepths 281 = .ok (.iload 4, 2) := by decide +kernel
theorem dX9_closeDepths_283 : decode cX9_closeDepths 283 = .ok (.if_icmp .le 7, 3) := by decide +kernel
theorem dX9_closeDepths_286 : decode cX9_closeDepths 286 = .ok (.iload_n 3, 1) := by decide +kernel
theorem dX9_closeDepths_287 : decode cX9_closeDepths 287 = .ok (.goto 5, 3) := by decide +kernel
theorem dX9_closeDepths_290 : decode cX9_closeDepths 290 = .ok (.iload 4, 2) := by decide +kernel
theorem dX9_closeDepths_292 : decode cX9_closeDepths 292 = .ok (.invokevirtual 155, 3) := by decide +kernel
theorem dX9_closeDepths_295 : decode cX9_closeDepths 295 = .ok (.ifCond .eq 5, 3) := by decide +kernel
theorem dX9_closeDepths_298 : decode cX9_closeDepths 298 = .ok (.iconst 1, 1) := by decide +kernel
theorem dX9_closeDepths_299 : decode cX9_closeDepths 299 = .ok (.istore_n 1, 1) := by decide +kernel
theorem dX9_closeDepths_300 : decode cX9_closeDepths 300 = .ok (.iinc 2 1, 3) := by decide +kernel
theorem dX9_closeDepths_303 : decode cX9_closeDepths 303 = .ok (.goto (-82), 3) := by decide +kernel
theorem dX9_closeDepths_306 : decode cX9_closeDepths 306 = .ok (.goto (-267), 3) := by decide +kernel
theorem dX9_closeDepths_309 : decode cX9_closeDepths 309 = .ok (.return_, 1) := by decide +kernel
set_option maxRecDepth 20000 in
theorem ggX9_depth_X9_noVertex : GoodIn wsX9_depth wsX9_noVertex := goodIn_r _ [8, 9, 10, 11, 7, 12, 23, 24, 25, 26, 27, 28, 29, 30, 31, 32, 33, 34, 35, 36, 37, 38, 39, 40, 41, 42, 43] (by decide +kernel) (by decide +kernel)
set_option maxRecDepth 20000 in
theorem gX9_depth_X9_noVertex : GoodIn wsX9_depth (wsV RX9 129 RX9 yX9_noVertex wsX9_noVertex) := goodIn_app (goodIn_of _ (by decide +kernel)) ggX9_depth_X9_noVertex
set_option maxRecDepth 20000 in
theorem ggX9_depth_X9_closeDepths : GoodIn wsX9_depth wsX9_closeDepths := goodIn_r _ [16, 2, 3, 17, 18, 19, 20, 21, 7, 22, 10, 11, 12, 23, 24, 25, 26, 27, 28, 29, 30, 31, 32, 33, 34, 35, 36, 37, 38, 39, 40, 41, 42, 43] (by decide +kernel) (by decide +kernel)
set_option maxRecDepth 20000 in
theorem gX9_depth_X9_closeDepths : GoodIn wsX9_depth (wsV RX9 158 RX9 yX9_closeDepths wsX9_closeDepths) := goodIn_app (goodIn_of _ (by decide +kernel)) ggX9_depth_X9_closeDepths
theorem dX9_depth_0 : decode cX9_depth 0 = .ok (.aload_n 0, 1) := by decide +kernel
theorem dX9_depth_1 : decode cX9_depth 1 = .ok (.iconst 0, 1) := by decide +kernel
theorem dX9_depth_2 : decode cX9_depth 2 = .ok (.putfield 54, 3) := by decide +kernel
theorem dX9_depth_5 : decode cX9_depth 5 = .ok (.aload_n 0, 1) := by decide +kernel
theorem dX9_depth_6 : decode cX9_depth 6 = .ok (.iload_n 1, 1) := by decide +kernel
theorem dX9_depth_7 : decode cX9_depth 7 = .ok (.invokevirtual 129, 3) := by decide +kernel
theorem dX9_depth_10 : decode cX9_depth 10 = .ok (.ifCond .ne 11, 3) := by decide +kernel
theorem dX9_depth_13 : decode cX9_depth 13 = .ok (.aload_n 0, 1) := by decide +kernel
theorem dX9_depth_14 : decode cX9_depth 14 = .ok (.iload_n 2, 1) := by decide +kernel
theorem dX9_depth_15 : decode cX9_depth 15 = .ok (.invokevirtual 129, 3) := by decide +kernel
theorem dX9_depth_18 : decode cX9_depth 18 = .ok (.ifCond .eq 5, 3) := by decide +kernel
theorem dX9_depth_21 : decode cX9_depth 21 = .ok (.iconst (-1), 1) := by decide +kernel
theorem dX9_depth_22 : decode cX9_depth 22 = .ok (.ireturn, 1) := by decide +kernel
theorem dX9_depth_23 : decode cX9_depth 23 = .ok (.aload_n 0, 1) := by decide +kernel
theorem dX9_depth_24 : decode cX9_depth 24 = .ok (.invokevirtual 158, 3) := by decide +kernel
theorem dX9_depth_27 : decode cX9_depth 27 = .ok (.aload_n 0, 1) := by decide +kernel
theorem dX9_depth_28 : decode cX9_depth 28 = .ok (.getfield 48, 3) := by decide +kernel
theorem dX9_depth_31 : decode cX9_depth 31 = .ok (.bipush 8, 2) := by decide +kernel
theorem dX9_depth_33 : decode cX9_depth 33 = .ok (.iload_n 1, 1) := by decide +kernel
theorem dX9_depth_34 : decode cX9_depth 34 = .ok (.imul, 1) := by decide +kernel
theorem dX9_depth_35 : decode cX9_depth 35 = .ok (.iload_n 2, 1) := by decide +kernel
theorem dX9_depth_36 : decode cX9_depth 36 = .ok (.iadd, 1) := by decide +kernel
theorem dX9_depth_37 : decode cX9_depth 37 = .ok (.iaload, 1) := by decide +kernel
theorem dX9_depth_38 : decode cX9_depth 38 = .ok (.istore_n 3, 1) := by decide +kernel
theorem dX9_depth_39 : decode cX9_depth 39 = .ok (.iload_n 3, 1) := by decide +kernel
theorem dX9_depth_40 : decode cX9_depth 40 = .ok (.ldc 62, 2) := by decide +kernel
theorem dX9_depth_42 : decode cX9_depth 42 = .ok (.if_icmp .ne 8, 3) := by decide +kernel
theorem dX9_depth_45 : decode cX9_depth 45 = .ok (.bipush (-9), 2) := by decide +kernel
theorem dX9_depth_47 : decode cX9_depth 47 = .ok (.goto 4, 3) := by decide +kernel
theorem dX9_depth_50 : decode cX9_depth 50 = .ok (.iload_n 3, 1) := by decide +kernel
theorem dX9_depth_51 : decode cX9_depth 51 = .ok (.ireturn, 1) := by decide +kernel
set_option maxRecDepth 20000 in
theorem ggX9_lossOf_X9_pairsOf : GoodIn wsX9_lossOf wsX9_pairsOf := goodIn_r _ [7, 8, 9, 10, 6, 11, 12, 13, 14, 15, 16, 17, 18, 19, 20, 21, 22, 23, 24, 25, 26, 27, 28, 29, 30, 31, 32, 33, 34, 35, 36, 37, 38, 39, 40, 41, 42, 43, 44, 45, 46, 47, 48, 49, 50, 51, 52, 53, 54, 55, 56] (by decide +kernel) (by decide +kernel)
set_option maxRecDepth 20000 in
theorem gX9_lossOf_X9_pairsOf : GoodIn wsX9_lossOf (wsV RX9 144 RX9 yX9_pairsOf wsX9_pairsOf) := goodIn_app (goodIn_of _ (by decide +kernel)) ggX9_lossOf_X9_pairsOf
theorem dX9_lossOf_0 : decode cX9_lossOf 0 = .ok (.aload_n 0, 1) := by decide +kernel
theorem dX9_lossOf_1 : decode cX9_lossOf 1 = .ok (.aload_n 0, 1) := by decide +kernel
theorem dX9_lossOf_2 : decode cX9_lossOf 2 = .ok (.getfield 20, 3) := by decide +kernel
theorem dX9_lossOf_5 : decode cX9_lossOf 5 = .ok (.ldc 140, 2) := by decide +kernel
theorem dX9_lossOf_7 : decode cX9_lossOf 7 = .ok (.invokevirtual 144, 3) := by decide +kernel
theorem dX9_lossOf_10 : decode cX9_lossOf 10 = .ok (.aload_n 0, 1) := by decide +kernel
theorem dX9_lossOf_11 : decode cX9_lossOf 11 = .ok (.aload_n 0, 1) := by decide +kernel
theorem dX9_lossOf_12 : decode cX9_lossOf 12 = .ok (.getfield 20, 3) := by decide +kernel
theorem dX9_lossOf_15 : decode cX9_lossOf 15 = .ok (.ldc 140, 2) := by decide +kernel
theorem dX9_lossOf_17 : decode cX9_lossOf 17 = .ok (.iconst 1, 1) := by decide +kernel
theorem dX9_lossOf_18 : decode cX9_lossOf 18 = .ok (.iload_n 1, 1) := by decide +kernel
theorem dX9_lossOf_19 : decode cX9_lossOf 19 = .ok (.ishl, 1) := by decide +kernel
theorem dX9_lossOf_20 : decode cX9_lossOf 20 = .ok (.iconst (-1), 1) := by decide +kernel
theorem dX9_lossOf_21 : decode cX9_lossOf 21 = .ok (.ixor, 1) := by decide +kernel
theorem dX9_lossOf_22 : decode cX9_lossOf 22 = .ok (.iand, 1) := by decide +kernel
theorem dX9_lossOf_23 : decode cX9_lossOf 23 = .ok (.invokevirtual 144, 3) := by decide +kernel
theorem dX9_lossOf_26 : decode cX9_lossOf 26 = .ok (.isub, 1) := by decide +kernel
theorem dX9_lossOf_27 : decode cX9_lossOf 27 = .ok (.ireturn, 1) := by decide +kernel
set_option maxRecDepth 20000 in
theorem ggX9_loss_X9_noEdge : GoodIn wsX9_loss wsX9_noEdge := goodIn_r _ [6, 7, 8, 9, 5, 10, 45, 46, 47, 48, 49, 50, 51, 52, 53, 54, 55, 56, 57, 58, 59, 60, 61, 62, 63, 64, 65] (by decide +kernel) (by decide +kernel)
set_option maxRecDepth 20000 in
theorem gX9_loss_X9_noEdge : GoodIn wsX9_loss (wsV RX9 125 RX9 yX9_noEdge wsX9_noEdge) := goodIn_app (goodIn_of _ (by decide +kernel)) ggX9_loss_X9_noEdge
set_option maxRecDepth 20000 in
theorem ggX9_loss_X9_lossOf : GoodIn wsX9_loss wsX9_lossOf := goodIn_r _ [14, 7, 15, 16, 17, 18, 5, 19, 20, 21, 22, 23, 24, 25, 26, 27, 28, 29, 30, 31, 32, 33, 34, 35, 36, 37, 38, 39, 8, 9, 10, 40, 41, 42, 43, 44, 45, 46, 47, 48, 49, 50, 51, 52, 53, 54, 55, 56, 57, 58, 59, 60, 61, 62, 63, 64, 65] (by decide +kernel) (by decide +kernel)
set_option maxRecDepth 20000 in
theorem gX9_loss_X9_lossOf : GoodIn wsX9_loss (wsV RX9 161 RX9 yX9_lossOf wsX9_lossOf) := goodIn_app (goodIn_of _ (by decide +kernel)) ggX9_loss_X9_lossOf
theorem dX9_loss_0 : decode cX9_loss 0 = .ok (.aload_n 0, 1) := by decide +kernel
theorem dX9_loss_1 : decode cX9_loss 1 = .ok (.iconst 0, 1) := by decide +kernel
theorem dX9_loss_2 : decode cX9_loss 2 = .ok (.putfield 54, 3) := by decide +kernel
theorem dX9_loss_5 : decode cX9_loss 5 = .ok (.aload_n 0, 1) := by decide +kernel
theorem dX9_loss_6 : decode cX9_loss 6 = .ok (.iload_n 1, 1) := by decide +kernel
theorem dX9_loss_7 : decode cX9_loss 7 = .ok (.invokevirtual 125, 3) := by decide +kernel
theorem dX9_loss_10 : decode cX9_loss 10 = .ok (.ifCond .eq 7, 3) := by decide +kernel
theorem dX9_loss_13 : decode cX9_loss 13 = .ok (.iconst (-1), 1) := by decide +kernel
theorem dX9_loss_14 : decode cX9_loss 14 = .ok (.goto 8, 3) := by decide +kernel
theorem dX9_loss_17 : decode cX9_loss 17 = .ok (.aload_n 0, 1) := by decide +kernel
theorem dX9_loss_18 : decode cX9_loss 18 = .ok (.iload_n 1, 1) := by decide +kernel
theorem dX9_loss_19 : decode cX9_loss 19 = .ok (.invokevirtual 161, 3) := by decide +kernel
theorem dX9_loss_22 : decode cX9_loss 22 = .ok (.ireturn, 1) := by decide +kernel
set_option maxRecDepth 20000 in
theorem ggX9_criticalEdge_X9_lossOf : GoodIn wsX9_criticalEdge wsX9_lossOf := goodIn_r _ [7, 2, 8, 9, 10, 11, 6, 12, 13, 14, 15, 16, 17, 18, 19, 20, 21, 22, 23, 24, 25, 26, 27, 28, 29, 30, 31, 32, 33, 34, 35, 36, 37, 38, 39, 40, 41, 42, 43, 44, 45, 46, 47, 48, 49, 50, 51, 52, 53, 54, 55, 56, 57, 58, 59, 60, 61] (by decide +kernel) (by decide +kernel)
set_option maxRecDepth 20000 in
theorem gX9_criticalEdge_X9_lossOf : GoodIn wsX9_criticalEdge (wsV RX9 161 RX9 yX9_lossOf wsX9_lossOf) := goodIn_app (goodIn_of _ (by decide +kernel)) ggX9_criticalEdge_X9_lossOf
theorem dX9_criticalEdge_0 : decode cX9_criticalEdge 0 = .ok (.aload_n 0, 1) := by decide +kernel
theorem dX9_criticalEdge_1 : decode cX9_criticalEdge 1 = .ok (.iconst 0, 1) := by decide +kernel
theorem dX9_criticalEdge_2 : decode cX9_criticalEdge 2 = .ok (.putfield 54, 3) := by decide +kernel
theorem dX9_criticalEdge_5 : decode cX9_criticalEdge 5 = .ok (.bipush (-9), 2) := by decide +kernel
theorem dX9_criticalEdge_7 : decode cX9_criticalEdge 7 = .ok (.istore_n 1, 1) := by decide +kernel
theorem dX9_criticalEdge_8 : decode cX9_criticalEdge 8 = .ok (.iconst (-1), 1) := by decide +kernel
theorem dX9_criticalEdge_9 : decode cX9_criticalEdge 9 = .ok (.istore_n 2, 1) := by decide +kernel
theorem dX9_criticalEdge_10 : decode cX9_criticalEdge 10 = .ok (.iconst 0, 1) := by decide +kernel
theorem dX9_criticalEdge_11 : decode cX9_criticalEdge 11 = .ok (.istore_n 3, 1) := by decide +kernel
theorem dX9_criticalEdge_12 : decode cX9_criticalEdge 12 = .ok (.iload_n 3, 1) := by decide +kernel
theorem dX9_criticalEdge_13 : decode cX9_criticalEdge 13 = .ok (.aload_n 0, 1) := by decide +kernel
theorem dX9_criticalEdge_14 : decode cX9_criticalEdge 14 = .ok (.getfield 20, 3) := by decide +kernel
theorem dX9_criticalEdge_17 : decode cX9_criticalEdge 17 = .ok (.iconst 0, 1) := by decide +kernel
theorem dX9_criticalEdge_18 : decode cX9_criticalEdge 18 = .ok (.iaload, 1) := by decide +kernel
theorem dX9_criticalEdge_19 : decode cX9_criticalEdge 19 = .ok (.if_icmp .ge 41, 3) := by decide +kernel
theorem dX9_criticalEdge_22 : decode cX9_criticalEdge 22 = .ok (.aload_n 0, 1) := by decide +kernel
theorem dX9_criticalEdge_23 : decode cX9_criticalEdge 23 = .ok (.iload_n 3, 1) := by decide +kernel
theorem dX9_criticalEdge_24 : decode cX9_criticalEdge 24 = .ok (.invokevirtual 161, 3) := by decide +kernel
theorem dX9_criticalEdge_27 : decode cX9_criticalEdge 27 = .ok (.istore 4, 2) := by decide +kernel
theorem dX9_criticalEdge_29 : decode cX9_criticalEdge 29 = .ok (.iload 4, 2) := by decide +kernel
theorem dX9_criticalEdge_31 : decode cX9_criticalEdge 31 = .ok (.iload_n 2, 1) := by decide +kernel
theorem dX9_criticalEdge_32 : decode cX9_criticalEdge 32 = .ok (.if_icmp .le 7, 3) := by decide +kernel
theorem dX9_criticalEdge_35 : decode cX9_criticalEdge 35 = .ok (.iload_n 3, 1) := by decide +kernel
theorem dX9_criticalEdge_36 : decode cX9_criticalEdge 36 = .ok (.goto 4, 3) := by decide +kernel
theorem dX9_criticalEdge_39 : decode cX9_criticalEdge 39 = .ok (.iload_n 1, 1) := by decide +kernel
theorem dX9_criticalEdge_40 : decode cX9_criticalEdge 40 = .ok (.istore_n 1, 1) := by decide +kernel
theorem dX9_criticalEdge_41 : decode cX9_criticalEdge 41 = .ok (.iload 4, 2) := by decide +kernel
theorem dX9_criticalEdge_43 : decode cX9_criticalEdge 43 = .ok (.iload_n 2, 1) := by decide +kernel
theorem dX9_criticalEdge_44 : decode cX9_criticalEdge 44 = .ok (.if_icmp .le 8, 3) := by decide +kernel
theorem dX9_criticalEdge_47 : decode cX9_criticalEdge 47 = .ok (.iload 4, 2) := by decide +kernel
theorem dX9_criticalEdge_49 : decode cX9_criticalEdge 49 = .ok (.goto 4, 3) := by decide +kernel
theorem dX9_criticalEdge_52 : decode cX9_criticalEdge 52 = .ok (.iload_n 2, 1) := by decide +kernel
theorem dX9_criticalEdge_53 : decode cX9_criticalEdge 53 = .ok (.istore_n 2, 1) := by decide +kernel
theorem dX9_criticalEdge_54 : decode cX9_criticalEdge 54 = .ok (.iinc 3 1, 3) := by decide +kernel
theorem dX9_criticalEdge_57 : decode cX9_criticalEdge 57 = .ok (.goto (-45), 3) := by decide +kernel
theorem dX9_criticalEdge_60 : decode cX9_criticalEdge 60 = .ok (.iload_n 1, 1) := by decide +kernel
theorem dX9_criticalEdge_61 : decode cX9_criticalEdge 61 = .ok (.ireturn, 1) := by decide +kernel
set_option maxRecDepth 20000 in
theorem ggX9_representative_X9_noVertex : GoodIn wsX9_representative wsX9_noVertex := goodIn_r _ [8, 9, 10, 11, 7, 12, 29, 30, 31, 32, 33, 34, 35, 36, 37, 38, 39, 40, 41, 42, 43, 44, 45, 46, 47, 48, 49] (by decide +kernel) (by decide +kernel)
set_option maxRecDepth 20000 in
theorem gX9_representative_X9_noVertex : GoodIn wsX9_representative (wsV RX9 129 RX9 yX9_noVertex wsX9_noVertex) := goodIn_app (goodIn_of _ (by decide +kernel)) ggX9_representative_X9_noVertex
set_option maxRecDepth 20000 in
theorem ggX9_representative_X9_close : GoodIn wsX9_representative wsX9_close := goodIn_r _ [16, 17, 18, 3, 19, 20, 21, 22, 7, 23, 24, 10, 11, 12, 29, 30, 31, 32, 33, 34, 35, 36, 37, 38, 39, 40, 41, 42, 43, 44, 45, 46, 47, 48, 49] (by decide +kernel) (by decide +kernel)
set_option maxRecDepth 20000 in
theorem gX9_representative_X9_close : GoodIn wsX9_representative (wsV RX9 73 RX9 yX9_close wsX9_close) := goodIn_app (goodIn_of _ (by decide +kernel)) ggX9_representative_X9_close
set_option maxRecDepth 20000 in
theorem ggX9_representative_X9_reaches : GoodIn wsX9_representative wsX9_reaches := goodIn_r _ [28, 17, 18, 29, 30, 31, 32, 33, 34, 35, 36, 37, 38, 39, 40, 41, 42, 43, 44, 45, 46, 47, 48, 49] (by decide +kernel) (by decide +kernel)
set_option maxRecDepth 20000 in
theorem gX9_representative_X9_reaches : GoodIn wsX9_representative (wsV RX9 141 RX9 yX9_reaches wsX9_reaches) := goodIn_app (goodIn_of _ (by decide +kernel)) ggX9_representative_X9_reaches
theorem dX9_representative_0 : decode cX9_representative 0 = .ok (.aload_n 0, 1) := by decide +kernel
theorem dX9_representative_1 : decode cX9_representative 1 = .ok (.iconst 0, 1) := by decide +kernel
theorem dX9_representative_2 : decode cX9_representative 2 = .ok (.putfield 54, 3) := by decide +kernel
theorem dX9_representative_5 : decode cX9_representative 5 = .ok (.aload_n 0, 1) := by decide +kernel
theorem dX9_representative_6 : decode cX9_representative 6 = .ok (.iload_n 1, 1) := by decide +kernel
theorem dX9_representative_7 : decode cX9_representative 7 = .ok (.invokevirtual 129, 3) := by decide +kernel
theorem dX9_representative_10 : decode cX9_representative 10 = .ok (.ifCond .eq 5, 3) := by decide +kernel
theorem dX9_representative_13 : decode cX9_representative 13 = .ok (.iconst (-1), 1) := by decide +kernel
theorem dX9_representative_14 : decode cX9_representative 14 = .ok (.ireturn, 1) := by decide +kernel
theorem dX9_representative_15 : decode cX9_representative 15 = .ok (.iconst 0, 1) := by decide +kernel
theorem dX9_representative_16 : decode cX9_representative 16 = .ok (.istore_n 2, 1) := by decide +kernel
theorem dX9_representative_17 : decode cX9_representative 17 = .ok (.iload_n 2, 1) := by decide +kernel
theorem dX9_representative_18 : decode cX9_representative 18 = .ok (.aload_n 0, 1) := by decide +kernel
theorem dX9_representative_19 : decode cX9_representative 19 = .ok (.getfield 20, 3) := by decide +kernel
theorem dX9_representative_22 : decode cX9_representative 22 = .ok (.iconst 0, 1) := by decide +kernel
theorem dX9_representative_23 : decode cX9_representative 23 = .ok (.iaload, 1) := by decide +kernel
theorem dX9_representative_24 : decode cX9_representative 24 = .ok (.if_icmp .ge 147, 3) := by decide +kernel
theorem dX9_representative_27 : decode cX9_representative 27 = .ok (.aload_n 0, 1) := by decide +kernel
theorem dX9_representative_28 : decode cX9_representative 28 = .ok (.getfield 20, 3) := by decide +kernel
theorem dX9_representative_31 : decode cX9_representative 31 = .ok (.iconst 3, 1) := by decide +kernel
theorem dX9_representative_32 : decode cX9_representative 32 = .ok (.iconst 3, 1) := by decide +kernel
theorem dX9_representative_33 : decode cX9_representative 33 = .ok (.iload_n 2, 1) := by decide +kernel
theorem dX9_representative_34 : decode cX9_representative 34 = .ok (.imul, 1) := by decide +kernel
theorem dX9_representative_35 : decode cX9_representative 35 = .ok (.iadd, 1) := by decide +kernel
theorem dX9_representative_36 : decode cX9_representative 36 = .ok (.iaload, 1) := by decide +kernel
theorem dX9_representative_37 : decode cX9_representative 37 = .ok (.istore_n 3, 1) := by decide +kernel
theorem dX9_representative_38 : decode cX9_representative 38 = .ok (.aload_n 0, 1) := by decide +kernel
theorem dX9_representative_39 : decode cX9_representative 39 = .ok (.getfield 51, 3) := by decide +kernel
theorem dX9_representative_42 : decode cX9_representative 42 = .ok (.bipush 6, 2) := by decide +kernel
theorem dX9_representative_44 : decode cX9_representative 44 = .ok (.iload_n 2, 1) := by decide +kernel
theorem dX9_representative_45 : decode cX9_representative 45 = .ok (.imul, 1) := by decide +kernel
theorem dX9_representative_46 : decode cX9_representative 46 = .ok (.aload_n 0, 1) := by decide +kernel
theorem dX9_representative_47 : decode cX9_representative 47 = .ok (.getfield 20, 3) := by decide +kernel
theorem dX9_representative_50 : decode cX9_representative 50 = .ok (.iconst 1, 1) := by decide +kernel
theorem dX9_representative_51 : decode cX9_representative 51 = .ok (.iconst 3, 1) := by decide +kernel
theorem dX9_representative_52 : decode cX9_representative 52 = .ok (.iload_n 2, 1) := by decide +kernel
theorem dX9_representative_53 : decode cX9_representative 53 = .ok (.imul, 1) := by decide +kernel
theorem dX9_representative_54 : decode cX9_representative 54 = .ok (.iadd, 1) := by decide +kernel
theorem dX9_representative_55 : decode cX9_representative 55 = .ok (.iaload, 1) := by decide +kernel
theorem dX9_representative_56 : decode cX9_representative 56 = .ok (.iastore, 1) := by decide +kernel
theorem dX9_representative_57 : decode cX9_representative 57 = .ok (.aload_n 0, 1) := by decide +kernel
theorem dX9_representative_58 : decode cX9_representative 58 = .ok (.getfield 51, 3) := by decide +kernel
theorem dX9_representative_61 : decode cX9_representative 61 = .ok (.bipush 6, 2) := by decide +kernel
theorem dX9_representative_63 : decode cX9_representative 63 = .ok (.iload_n 2, 1) := by decide +kernel
theorem dX9_representative_64 : decode cX9_representative 64 = .ok (.imul, 1) := by decide +kernel
theorem dX9_representative_65 : decode cX9_representative 65 = .ok (.iconst 1, 1) := by decide +kernel
theorem dX9_representative_66 : decode cX9_representative 66 = .ok (.iadd, 1) := by decide +kernel
theorem dX9_representative_67 : decode cX9_representative 67 = .ok (.aload_n 0, 1) := by decide +kernel
theorem dX9_representative_68 : decode cX9_representative 68 = .ok (.getfield 20, 3) := by decide +kernel
theorem dX9_representative_71 : decode cX9_representative 71 = .ok (.iconst 2, 1) := by decide +kernel
theorem dX9_representative_72 : decode cX9_representative 72 = .ok (.iconst 3, 1) := by decide +kernel
theorem dX9_representative_73 : decode cX9_representative 73 = .ok (.iload_n 2, 1) := by decide +kernel
theorem dX9_representative_74 : decode cX9_representative 74 = .ok (.imul, 1) := by decide +kernel
theorem dX9_representative_75 : decode cX9_representative 75 = .ok (.iadd, 1) := by decide +kernel
theorem dX9_representative_76 : decode cX9_representative 76 = .ok (.iaload, 1) := by decide +kernel
theorem dX9_representative_77 : decode cX9_representative 77 = .ok (.iastore, 1) := by decide +kernel
theorem dX9_representative_78 : decode cX9_representative 78 = .ok (.aload_n 0, 1) := by decide +kernel
theorem dX9_representative_79 : decode cX9_representative 79 = .ok (.getfield 51, 3) := by decide +kernel
theorem dX9_representative_82 : decode cX9_representative 82 = .ok (.bipush 6, 2) := by decide +kernel
theorem dX9_representative_84 : decode cX9_representative 84 = .ok (.iload_n 2, 1) := by decide +kernel
theorem dX9_representative_85 : decode cX9_representative 85 = .ok (.imul, 1) := by decide +kernel
theorem dX9_representative_86 : decode cX9_representative 86 = .ok (.iconst 2, 1) := by decide +kernel
theorem dX9_representative_87 : decode cX9_representative 87 = .ok (.iadd, 1) := by decide +kernel
theorem dX9_representative_88 : decode cX9_representative 88 = .ok (.iload_n 3, 1) := by decide +kernel
theorem dX9_representative_89 : decode cX9_representative 89 = .ok (.iastore, 1) := by decide +kernel
theorem dX9_representative_90 : decode cX9_representative 90 = .ok (.aload_n 0, 1) := by decide +kernel
theorem dX9_representative_91 : decode cX9_representative 91 = .ok (.getfield 51, 3) := by decide +kernel
theorem dX9_representative_94 : decode cX9_representative 94 = .ok (.bipush 6, 2) := by decide +kernel
theorem dX9_representative_96 : decode cX9_representative 96 = .ok (.iload_n 2, 1) := by decide +kernel
theorem dX9_representative_97 : decode cX9_representative 97 = .ok (.imul, 1) := by decide +kernel
theorem dX9_representative_98 : decode cX9_representative 98 = .ok (.iconst 3, 1) := by decide +kernel
theorem dX9_representative_99 : decode cX9_representative 99 = .ok (.iadd, 1) := by decide +kernel
theorem dX9_representative_100 : decode cX9_representative 100 = .ok (.aload_n 0, 1) := by decide +kernel
theorem dX9_representative_101 : decode cX9_representative 101 = .ok (.getfield 20, 3) := by decide +kernel
theorem dX9_representative_104 : decode cX9_representative 104 = .ok (.iconst 2, 1) := by decide +kernel
theorem dX9_representative_105 : decode cX9_representative 105 = .ok (.iconst 3, 1) := by decide +kernel
theorem dX9_representative_106 : decode cX9_representative 106 = .ok (.iload_n 2, 1) := by decide +kernel
theorem dX9_representative_107 : decode cX9_representative 107 = .ok (.imul, 1) := by decide +kernel
theorem dX9_representative_108 : decode cX9_representative 108 = .ok (.iadd, 1) := by decide +kernel
theorem dX9_representative_109 : decode cX9_representative 109 = .ok (.iaload, 1) := by decide +kernel
theorem dX9_representative_110 : decode cX9_representative 110 = .ok (.iastore, 1) := by decide +kernel
theorem dX9_representative_111 : decode cX9_representative 111 = .ok (.aload_n 0, 1) := by decide +kernel
theorem dX9_representative_112 : decode cX9_representative 112 = .ok (.getfield 51, 3) := by decide +kernel
theorem dX9_representative_115 : decode cX9_representative 115 = .ok (.bipush 6, 2) := by decide +kernel
theorem dX9_representative_117 : decode cX9_representative 117 = .ok (.iload_n 2, 1) := by decide +kernel
theorem dX9_representative_118 : decode cX9_representative 118 = .ok (.imul, 1) := by decide +kernel
theorem dX9_representative_119 : decode cX9_representative 119 = .ok (.iconst 4, 1) := by decide +kernel
theorem dX9_representative_120 : decode cX9_representative 120 = .ok (.iadd, 1) := by decide +kernel
theorem dX9_representative_121 : decode cX9_representative 121 = .ok (.aload_n 0, 1) := by decide +kernel
theorem dX9_representative_122 : decode cX9_representative 122 = .ok (.getfield 20, 3) := by decide +kernel
theorem dX9_representative_125 : decode cX9_representative 125 = .ok (.iconst 1, 1) := by decide +kernel
theorem dX9_representative_126 : decode cX9_representative 126 = .ok (.iconst 3, 1) := by decide +kernel
theorem dX9_representative_127 : decode cX9_representative 127 = .ok (.iload_n 2, 1) := by decide +kernel
theorem dX9_representative_128 : decode cX9_representative 128 = .ok (.imul, 1) := by decide +kernel
theorem dX9_representative_129 : decode cX9_representative 129 = .ok (.iadd, 1) := by decide +kernel
theorem dX9_representative_130 : decode cX9_representative 130 = .ok (.iaload, 1) := by decide +kernel
theorem dX9_representative_131 : decode cX9_representative 131 = .ok (.iastore, 1) := by decide +kernel
theorem dX9_representative_132 : decode cX9_representative 132 = .ok (.aload_n 0, 1) := by decide +kernel
theorem dX9_representative_133 : decode cX9_representative 133 = .ok (.getfield 51, 3) := by decide +kernel
theorem dX9_representative_136 : decode cX9_representative 136 = .ok (.bipush 6, 2) := by decide +kernel
theorem dX9_representative_138 : decode cX9_representative 138 = .ok (.iload_n 2, 1) := by decide +kernel
theorem dX9_representative_139 : decode cX9_representative 139 = .ok (.imul, 1) := by decide +kernel
theorem dX9_representative_140 : decode cX9_representative 140 = .ok (.iconst 5, 1) := by decide +kernel
theorem dX9_representative_141 : decode cX9_representative 141 = .ok (.iadd, 1) := by decide +kernel
theorem dX9_representative_142 : decode cX9_representative 142 = .ok (.iload_n 3, 1) := by decide +kernel
theorem dX9_representative_143 : decode cX9_representative 143 = .ok (.ifCond .ne 7, 3) := by decide +kernel
theorem dX9_representative_146 : decode cX9_representative 146 = .ok (.iconst 0, 1) := by decide +kernel
theorem dX9_representative_147 : decode cX9_representative 147 = .ok (.goto 17, 3) := by decide +kernel
theorem dX9_representative_150 : decode cX9_representative 150 = .ok (.iload_n 3, 1) := by decide +kernel
theorem dX9_representative_151 : decode cX9_representative 151 = .ok (.iconst 4, 1) := by decide +kernel
theorem dX9_representative_152 : decode cX9_representative 152 = .ok (.if_icmp .ge 9, 3) := by decide +kernel
theorem dX9_representative_155 : decode cX9_representative 155 = .ok (.iload_n 3, 1) := by decide +kernel
theorem dX9_representative_156 : decode cX9_representative 156 = .ok (.iconst 3, 1) := by decide +kernel
theorem dX9_representative_157 : decode cX9_representative 157 = .ok (.iadd, 1) := by decide +kernel
theorem dX9_representative_158 : decode cX9_representative 158 = .ok (.goto 6, 3) := by decide +kernel
theorem dX9_representative_161 : decode cX9_representative 161 = .ok (.iload_n 3, 1) := by decide +kernel
theorem dX9_representative_162 : decode cX9_representative 162 = .ok (.iconst 3, 1) := by decide +kernel
theorem dX9_representative_163 : decode cX9_representative 163 = .ok (.isub, 1) := by decide +kernel
theorem dX9_representative_164 : decode cX9_representative 164 = .ok (.iastore, 1) := by decide +kernel
theorem dX9_representative_165 : decode cX9_representative 165 = .ok (.iinc 2 1, 3) := by decide +kernel
theorem dX9_representative_168 : decode cX9_representative 168 = .ok (.goto (-151), 3) := by decide +kernel
theorem dX9_representative_171 : decode cX9_representative 171 = .ok (.aload_n 0, 1) := by decide +kernel
theorem dX9_representative_172 : decode cX9_representative 172 = .ok (.iconst 2, 1) := by decide +kernel
theorem dX9_representative_173 : decode cX9_representative 173 = .ok (.aload_n 0, 1) := by decide +kernel
theorem dX9_representative_174 : decode cX9_representative 174 = .ok (.getfield 20, 3) := by decide +kernel
theorem dX9_representative_177 : decode cX9_representative 177 = .ok (.iconst 0, 1) := by decide +kernel
theorem dX9_representative_178 : decode cX9_representative 178 = .ok (.iaload, 1) := by decide +kernel
theorem dX9_representative_179 : decode cX9_representative 179 = .ok (.imul, 1) := by decide +kernel
theorem dX9_representative_180 : decode cX9_representative 180 = .ok (.invokevirtual 73, 3) := by decide +kernel
theorem dX9_representative_183 : decode cX9_representative 183 = .ok (.iconst 0, 1) := by decide +kernel
theorem dX9_representative_184 : decode cX9_representative 184 = .ok (.istore_n 2, 1) := by decide +kernel
theorem dX9_representative_185 : decode cX9_representative 185 = .ok (.aload_n 0, 1) := by decide +kernel
theorem dX9_representative_186 : decode cX9_representative 186 = .ok (.iload_n 1, 1) := by decide +kernel
theorem dX9_representative_187 : decode cX9_representative 187 = .ok (.iload_n 2, 1) := by decide +kernel
theorem dX9_representative_188 : decode cX9_representative 188 = .ok (.invokevirtual 141, 3) := by decide +kernel
theorem dX9_representative_191 : decode cX9_representative 191 = .ok (.ifCond .ne 9, 3) := by decide +kernel
theorem dX9_representative_194 : decode cX9_representative 194 = .ok (.iinc 2 1, 3) := by decide +kernel
theorem dX9_representative_197 : decode cX9_representative 197 = .ok (.goto (-12), 3) := by decide +kernel
theorem dX9_representative_200 : decode cX9_representative 200 = .ok (.iload_n 2, 1) := by decide +kernel
theorem dX9_representative_201 : decode cX9_representative 201 = .ok (.ireturn, 1) := by decide +kernel
set_option maxRecDepth 20000 in
theorem ggX9_command_X9_noVertex : GoodIn wsX9_command wsX9_noVertex := goodIn_r _ [8, 9, 10, 11, 7, 12, 50, 51, 52, 53, 54, 55, 56, 57, 58, 59, 60, 61, 62, 63, 64, 65, 66, 67, 68, 69, 70] (by decide +kernel) (by decide +kernel)
set_option maxRecDepth 20000 in
theorem gX9_command_X9_noVertex : GoodIn wsX9_command (wsV RX9 129 RX9 yX9_noVertex wsX9_noVertex) := goodIn_app (goodIn_of _ (by decide +kernel)) ggX9_command_X9_noVertex
set_option maxRecDepth 20000 in
theorem ggX9_command_X9_put : GoodIn wsX9_command wsX9_put := goodIn_r _ [15] (by decide +kernel) (by decide +kernel)
set_option maxRecDepth 20000 in
theorem gX9_command_X9_put : GoodIn wsX9_command (va_wsS RX9 111 yX9_put wsX9_put) := goodIn_app (goodIn_of _ (by decide +kernel)) ggX9_command_X9_put
set_option maxRecDepth 20000 in
theorem ggX9_command_X9_drop : GoodIn wsX9_command wsX9_drop := goodIn_r _ [18] (by decide +kernel) (by decide +kernel)
set_option maxRecDepth 20000 in
theorem gX9_command_X9_drop : GoodIn wsX9_command (va_wsS RX9 137 yX9_drop wsX9_drop) := goodIn_app (goodIn_of _ (by decide +kernel)) ggX9_command_X9_drop
set_option maxRecDepth 20000 in
theorem ggX9_command_X9_closeOf : GoodIn wsX9_command wsX9_closeOf := goodIn_r _ [22, 23, 24, 25, 7, 26, 27, 28, 29, 30, 3, 31, 32, 33, 34, 35, 36, 37, 10, 11, 12, 50, 51, 52, 53, 54, 55, 56, 57, 58, 59, 60, 61, 62, 63, 64, 65, 66, 67, 68, 69, 70] (by decide +kernel) (by decide +kernel)
set_option maxRecDepth 20000 in
theorem gX9_command_X9_closeOf : GoodIn wsX9_command (wsV RX9 77 RX9 yX9_closeOf wsX9_closeOf) := goodIn_app (goodIn_of _ (by decide +kernel)) ggX9_command_X9_closeOf
set_option maxRecDepth 20000 in
theorem ggX9_command_X9_reaches : GoodIn wsX9_command wsX9_reaches := goodIn_r _ [41, 3, 31, 50, 51, 52, 53, 54, 55, 56, 57, 58, 59, 60, 61, 62, 63, 64, 65, 66, 67, 68, 69, 70] (by decide +kernel) (by decide +kernel)
set_option maxRecDepth 20000 in
theorem gX9_command_X9_reaches : GoodIn wsX9_command (wsV RX9 141 RX9 yX9_reaches wsX9_reaches) := goodIn_app (goodIn_of _ (by decide +kernel)) ggX9_command_X9_reaches
set_option maxRecDepth 20000 in
theorem ggX9_command_X9_pairsOf : GoodIn wsX9_command wsX9_pairsOf := goodIn_r _ [45, 19, 20, 21, 7, 22, 23, 24, 25, 26, 27, 28, 29, 30, 3, 31, 32, 33, 34, 35, 36, 37, 10, 11, 12, 46, 47, 48, 49, 9, 50, 51, 52, 53, 54, 55, 56, 57, 58, 59, 60, 61, 62, 63, 64, 65, 66, 67, 68, 69, 70] (by decide +kernel) (by decide +kernel)
set_option maxRecDepth 20000 in
theorem gX9_command_X9_pairsOf : GoodIn wsX9_command (wsV RX9 144 RX9 yX9_pairsOf wsX9_pairsOf) := goodIn_app (goodIn_of _ (by decide +kernel)) ggX9_command_X9_pairsOf
theorem dX9_command_0 : decode cX9_command 0 = .ok (.bipush 10, 2) := by decide +kernel
theorem dX9_command_2 : decode cX9_command 2 = .ok (.iload_n 3, 1) := by decide +kernel
theorem dX9_command_3 : decode cX9_command 3 = .ok (.imul, 1) := by decide +kernel
theorem dX9_command_4 : decode cX9_command 4 = .ok (.iload 4, 2) := by decide +kernel
theorem dX9_command_6 : decode cX9_command 6 = .ok (.iadd, 1) := by decide +kernel
theorem dX9_command_7 : decode cX9_command 7 = .ok (.istore 5, 2) := by decide +kernel
theorem dX9_command_9 : decode cX9_command 9 = .ok (.iload_n 1, 1) := by decide +kernel
theorem dX9_command_10 : decode cX9_command 10 = .ok (.tableswitch 246 1 5 #[34, 83, 111, 171, 196], 34) := by decide +kernel
theorem dX9_command_44 : decode cX9_command 44 = .ok (.aload_n 0, 1) := by decide +kernel
theorem dX9_command_45 : decode cX9_command 45 = .ok (.iload_n 2, 1) := by decide +kernel
theorem dX9_command_46 : decode cX9_command 46 = .ok (.invokevirtual 129, 3) := by decide +kernel
theorem dX9_command_49 : decode cX9_command 49 = .ok (.ifCond .ne 29, 3) := by decide +kernel
theorem dX9_command_52 : decode cX9_command 52 = .ok (.aload_n 0, 1) := by decide +kernel
theorem dX9_command_53 : decode cX9_command 53 = .ok (.iload_n 3, 1) := by decide +kernel
theorem dX9_command_54 : decode cX9_command 54 = .ok (.invokevirtual 129, 3) := by decide +kernel
theorem dX9_command_57 : decode cX9_command 57 = .ok (.ifCond .ne 21, 3) := by decide +kernel
theorem dX9_command_60 : decode cX9_command 60 = .ok (.iload 4, 2) := by decide +kernel
theorem dX9_command_62 : decode cX9_command 62 = .ok (.bipush 6, 2) := by decide +kernel
theorem dX9_command_64 : decode cX9_command 64 = .ok (.if_icmp .gt 14, 3) := by decide +kernel
theorem dX9_command_67 : decode cX9_command 67 = .ok (.aload_n 0, 1) := by decide +kernel
theorem dX9_command_68 : decode cX9_command 68 = .ok (.getfield 23, 3) := by decide +kernel
theorem dX9_command_71 : decode cX9_command 71 = .ok (.iconst 0, 1) := by decide +kernel
theorem dX9_command_72 : decode cX9_command 72 = .ok (.iaload, 1) := by decide +kernel
theorem dX9_command_73 : decode cX9_command 73 = .ok (.bipush 16, 2) := by decide +kernel
theorem dX9_command_75 : decode cX9_command 75 = .ok (.if_icmp .ne 5, 3) := by decide +kernel
theorem dX9_command_78 : decode cX9_command 78 = .ok (.iconst 0, 1) := by decide +kernel
theorem dX9_command_79 : decode cX9_command 79 = .ok (.ireturn, 1) := by decide +kernel
theorem dX9_command_80 : decode cX9_command 80 = .ok (.aload_n 0, 1) := by decide +kernel
theorem dX9_command_81 : decode cX9_command 81 = .ok (.getfield 23, 3) := by decide +kernel
theorem dX9_command_84 : decode cX9_command 84 = .ok (.iload_n 2, 1) := by decide +kernel
theorem dX9_command_85 : decode cX9_command 85 = .ok (.iload_n 3, 1) := by decide +kernel
theorem dX9_command_86 : decode cX9_command 86 = .ok (.iload 4, 2) := by decide +kernel
theorem dX9_command_88 : decode cX9_command 88 = .ok (.invokestatic 111, 3) := by decide +kernel
theorem dX9_command_91 : decode cX9_command 91 = .ok (.iconst 1, 1) := by decide +kernel
theorem dX9_command_92 : decode cX9_command 92 = .ok (.ireturn, 1) := by decide +kernel
theorem dX9_command_93 : decode cX9_command 93 = .ok (.iload_n 2, 1) := by decide +kernel
theorem dX9_command_94 : decode cX9_command 94 = .ok (.ifCond .ne 14, 3) := by decide +kernel
theorem dX9_command_97 : decode cX9_command 97 = .ok (.iload 5, 2) := by decide +kernel
theorem dX9_command_99 : decode cX9_command 99 = .ok (.aload_n 0, 1) := by decide +kernel
theorem dX9_command_100 : decode cX9_command 100 = .ok (.getfield 23, 3) := by decide +kernel
theorem dX9_command_103 : decode cX9_command 103 = .ok (.iconst 0, 1) := by decide +kernel
theorem dX9_command_104 : decode cX9_command 104 = .ok (.iaload, 1) := by decide +kernel
theorem dX9_command_105 : decode cX9_command 105 = .ok (.if_icmp .lt 5, 3) := by decide +kernel
theorem dX9_command_108 : decode cX9_command 108 = .ok (.iconst 0, 1) := by decide +kernel
theorem dX9_command_109 : decode cX9_command 109 = .ok (.ireturn, 1) := by decide +kernel
theorem dX9_command_110 : decode cX9_command 110 = .ok (.aload_n 0, 1) := by decide +kernel
theorem dX9_command_111 : decode cX9_command 111 = .ok (.getfield 23, 3) := by decide +kernel
theorem dX9_command_114 : decode cX9_command 114 = .ok (.iload 5, 2) := by decide +kernel
theorem dX9_command_116 : decode cX9_command 116 = .ok (.invokestatic 137, 3) := by decide +kernel
theorem dX9_command_119 : decode cX9_command 119 = .ok (.iconst 1, 1) := by decide +kernel
theorem dX9_command_120 : decode cX9_command 120 = .ok (.ireturn, 1) := by decide +kernel
theorem dX9_command_121 : decode cX9_command 121 = .ok (.aload_n 0, 1) := by decide +kernel
theorem dX9_command_122 : decode cX9_command 122 = .ok (.iload_n 2, 1) := by decide +kernel
theorem dX9_command_123 : decode cX9_command 123 = .ok (.invokevirtual 129, 3) := by decide +kernel
theorem dX9_command_126 : decode cX9_command 126 = .ok (.ifCond .ne 17, 3) := by decide +kernel
theorem dX9_command_129 : decode cX9_command 129 = .ok (.aload_n 0, 1) := by decide +kernel
theorem dX9_command_130 : decode cX9_command 130 = .ok (.iload_n 3, 1) := by decide +kernel
theorem dX9_command_131 : decode cX9_command 131 = .ok (.invokevirtual 129, 3) := by decide +kernel
theorem dX9_command_134 : decode cX9_command 134 = .ok (.ifCond .ne 9, 3) := by decide +kernel
theorem dX9_command_137 : decode cX9_command 137 = .ok (.iload 4, 2) := by decide +kernel
theorem dX9_command_139 : decode cX9_command 139 = .ok (.iconst 1, 1) := by decide +kernel
theorem dX9_command_140 : decode cX9_command 140 = .ok (.if_icmp .le 5, 3) := by decide +kernel
theorem dX9_command_143 : decode cX9_command 143 = .ok (.iconst 0, 1) := by decide +kernel
theorem dX9_command_144 : decode cX9_command 144 = .ok (.ireturn, 1) := by decide +kernel
theorem dX9_command_145 : decode cX9_command 145 = .ok (.aload_n 0, 1) := by decide +kernel
theorem dX9_command_146 : decode cX9_command 146 = .ok (.aload_n 0, 1) := by decide +kernel
theorem dX9_command_147 : decode cX9_command 147 = .ok (.getfield 23, 3) := by decide +kernel
theorem dX9_command_150 : decode cX9_command 150 = .ok (.ldc 140, 2) := by decide +kernel
theorem dX9_command_152 : decode cX9_command 152 = .ok (.invokevirtual 77, 3) := by decide +kernel
theorem dX9_command_155 : decode cX9_command 155 = .ok (.aload_n 0, 1) := by decide +kernel
theorem dX9_command_156 : decode cX9_command 156 = .ok (.iload_n 2, 1) := by decide +kernel
theorem dX9_command_157 : decode cX9_command 157 = .ok (.iload_n 3, 1) := by decide +kernel
theorem dX9_command_158 : decode cX9_command 158 = .ok (.invokevirtual 141, 3) := by decide +kernel
theorem dX9_command_161 : decode cX9_command 161 = .ok (.iload 4, 2) := by decide +kernel
theorem dX9_command_163 : decode cX9_command 163 = .ok (.iconst 1, 1) := by decide +kernel
theorem dX9_command_164 : decode cX9_command 164 = .ok (.if_icmp .ne 7, 3) := by decide +kernel
theorem dX9_command_167 : decode cX9_command 167 = .ok (.iconst 1, 1) := by decide +kernel
theorem dX9_command_168 : decode cX9_command 168 = .ok (.goto 4, 3) := by decide +kernel
theorem dX9_command_171 : decode cX9_command 171 = .ok (.iconst 0, 1) := by decide +kernel
theorem dX9_command_172 : decode cX9_command 172 = .ok (.if_icmp .ne 7, 3) := by decide +kernel
theorem dX9_command_175 : decode cX9_command 175 = .ok (.iconst 1, 1) := by decide +kernel
theorem dX9_command_176 : decode cX9_command 176 = .ok (.goto 4, 3) := by decide +kernel
theorem dX9_command_179 : decode cX9_command 179 = .ok (.iconst 0, 1) := by decide +kernel
theorem dX9_command_180 : decode cX9_command 180 = .ok (.ireturn, 1) := by decide +kernel
theorem dX9_command_181 : decode cX9_command 181 = .ok (.iload_n 2, 1) := by decide +kernel
theorem dX9_command_182 : decode cX9_command 182 = .ok (.ifCond .ne 22, 3) := by decide +kernel
theorem dX9_command_185 : decode cX9_command 185 = .ok (.aload_n 0, 1) := by decide +kernel
theorem dX9_command_186 : decode cX9_command 186 = .ok (.aload_n 0, 1) := by decide +kernel
theorem dX9_command_187 : decode cX9_command 187 = .ok (.getfield 23, 3) := by decide +kernel
theorem dX9_command_190 : decode cX9_command 190 = .ok (.ldc 140, 2) := by decide +kernel
theorem dX9_command_192 : decode cX9_command 192 = .ok (.invokevirtual 144, 3) := by decide +kernel
theorem dX9_command_195 : decode cX9_command 195 = .ok (.iload 5, 2) := by decide +kernel
theorem dX9_command_197 : decode cX9_command 197 = .ok (.if_icmp .ne 7, 3) := by decide +kernel
theorem dX9_command_200 : decode cX9_command 200 = .ok (.iconst 1, 1) := by decide +kernel
theorem dX9_command_201 : decode cX9_command 201 = .ok (.goto 4, 3) := by decide +kernel
theorem dX9_command_204 : decode cX9_command 204 = .ok (.iconst 0, 1) := by decide +kernel
theorem dX9_command_205 : decode cX9_command 205 = .ok (.ireturn, 1) := by decide +kernel
theorem dX9_command_206 : decode cX9_command 206 = .ok (.aload_n 0, 1) := by decide +kernel
theorem dX9_command_207 : decode cX9_command 207 = .ok (.iload_n 2, 1) := by decide +kernel
theorem dX9_command_208 : decode cX9_command 208 = .ok (.invokevirtual 129, 3) := by decide +kernel
theorem dX9_command_211 : decode cX9_command 211 = .ok (.ifCond .ne 11, 3) := by decide +kernel
theorem dX9_command_214 : decode cX9_command 214 = .ok (.aload_n 0, 1) := by decide +kernel
theorem dX9_command_215 : decode cX9_command 215 = .ok (.iload_n 3, 1) := by decide +kernel
theorem dX9_command_216 : decode cX9_command 216 = .ok (.invokevirtual 129, 3) := by decide +kernel
theorem dX9_command_219 : decode cX9_command 219 = .ok (.ifCond .eq 5, 3) := by decide +kernel
theorem dX9_command_222 : decode cX9_command 222 = .ok (.iconst 0, 1) := by decide +kernel
theorem dX9_command_223 : decode cX9_command 223 = .ok (.ireturn, 1) := by decide +kernel
theorem dX9_command_224 : decode cX9_command 224 = .ok (.aload_n 0, 1) := by decide +kernel
theorem dX9_command_225 : decode cX9_command 225 = .ok (.aload_n 0, 1) := by decide +kernel
theorem dX9_command_226 : decode cX9_command 226 = .ok (.getfield 23, 3) := by decide +kernel
theorem dX9_command_229 : decode cX9_command 229 = .ok (.ldc 140, 2) := by decide +kernel
theorem dX9_command_231 : decode cX9_command 231 = .ok (.invokevirtual 77, 3) := by decide +kernel
theorem dX9_command_234 : decode cX9_command 234 = .ok (.aload_n 0, 1) := by decide +kernel
theorem dX9_command_235 : decode cX9_command 235 = .ok (.getfield 45, 3) := by decide +kernel
theorem dX9_command_238 : decode cX9_command 238 = .ok (.bipush 8, 2) := by decide +kernel
theorem dX9_command_240 : decode cX9_command 240 = .ok (.iload_n 2, 1) := by decide +kernel
theorem dX9_command_241 : decode cX9_command 241 = .ok (.imul, 1) := by decide +kernel
theorem dX9_command_242 : decode cX9_command 242 = .ok (.iload_n 3, 1) := by decide +kernel
theorem dX9_command_243 : decode cX9_command 243 = .ok (.iadd, 1) := by decide +kernel
theorem dX9_command_244 : decode cX9_command 244 = .ok (.iaload, 1) := by decide +kernel
theorem dX9_command_245 : decode cX9_command 245 = .ok (.iload 4, 2) := by decide +kernel
theorem dX9_command_247 : decode cX9_command 247 = .ok (.if_icmp .ne 7, 3) := by decide +kernel
theorem dX9_command_250 : decode cX9_command 250 = .ok (.iconst 1, 1) := by decide +kernel
theorem dX9_command_251 : decode cX9_command 251 = .ok (.goto 4, 3) := by decide +kernel
theorem dX9_command_254 : decode cX9_command 254 = .ok (.iconst 0, 1) := by decide +kernel
theorem dX9_command_255 : decode cX9_command 255 = .ok (.ireturn, 1) := by decide +kernel
theorem dX9_command_256 : decode cX9_command 256 = .ok (.iconst 0, 1) := by decide +kernel
theorem dX9_command_257 : decode cX9_command 257 = .ok (.ireturn, 1) := by decide +kernel
theorem dX9_tenThousands_0 : decode cX9_tenThousands 0 = .ok (.lconst 1, 1) := by decide +kernel
theorem dX9_tenThousands_1 : decode cX9_tenThousands 1 = .ok (.lstore_n 1, 1) := by decide +kernel
theorem dX9_tenThousands_2 : decode cX9_tenThousands 2 = .ok (.iconst 0, 1) := by decide +kernel
theorem dX9_tenThousands_3 : decode cX9_tenThousands 3 = .ok (.istore_n 3, 1) := by decide +kernel
theorem dX9_tenThousands_4 : decode cX9_tenThousands 4 = .ok (.iload_n 3, 1) := by decide +kernel
theorem dX9_tenThousands_5 : decode cX9_tenThousands 5 = .ok (.iload_n 0, 1) := by decide +kernel
theorem dX9_tenThousands_6 : decode cX9_tenThousands 6 = .ok (.if_icmp .ge 15, 3) := by decide +kernel
theorem dX9_tenThousands_9 : decode cX9_tenThousands 9 = .ok (.lload_n 1, 1) := by decide +kernel
theorem dX9_tenThousands_10 : decode cX9_tenThousands 10 = .ok (.ldc2_w 165, 3) := by decide +kernel
theorem dX9_tenThousands_13 : decode cX9_tenThousands 13 = .ok (.lmul, 1) := by decide +kernel
theorem dX9_tenThousands_14 : decode cX9_tenThousands 14 = .ok (.lstore_n 1, 1) := by decide +kernel
theorem dX9_tenThousands_15 : decode cX9_tenThousands 15 = .ok (.iinc 3 1, 3) := by decide +kernel
theorem dX9_tenThousands_18 : decode cX9_tenThousands 18 = .ok (.goto (-14), 3) := by decide +kernel
theorem dX9_tenThousands_21 : decode cX9_tenThousands 21 = .ok (.lload_n 1, 1) := by decide +kernel
theorem dX9_tenThousands_22 : decode cX9_tenThousands 22 = .ok (.lreturn, 1) := by decide +kernel
set_option maxRecDepth 20000 in
theorem ggX9_runScript_X9_in : GoodIn wsX9_runScript wsX9_in := goodIn_r _ [9] (by decide +kernel) (by decide +kernel)
set_option maxRecDepth 20000 in
theorem gX9_runScript_X9_in : GoodIn wsX9_runScript (va_wsS RX9 57 yX9_in wsX9_in) := goodIn_app (goodIn_of _ (by decide +kernel)) ggX9_runScript_X9_in
set_option maxRecDepth 20000 in
theorem ggX9_runScript_X9_tenThousands : GoodIn wsX9_runScript wsX9_tenThousands := goodIn_r _ [12, 5] (by decide +kernel) (by decide +kernel)
set_option maxRecDepth 20000 in
theorem gX9_runScript_X9_tenThousands : GoodIn wsX9_runScript (va_wsS RX9 169 yX9_tenThousands wsX9_tenThousands) := goodIn_app (goodIn_of _ (by decide +kernel)) ggX9_runScript_X9_tenThousands
set_option maxRecDepth 20000 in
theorem ggX9_runScript_X9_assign : GoodIn wsX9_runScript wsX9_assign := goodIn_r _ [15] (by decide +kernel) (by decide +kernel)
set_option maxRecDepth 20000 in
theorem gX9_runScript_X9_assign : GoodIn wsX9_runScript (va_wsS RX9 118 yX9_assign wsX9_assign) := goodIn_app (goodIn_of _ (by decide +kernel)) ggX9_runScript_X9_assign
set_option maxRecDepth 20000 in
theorem ggX9_runScript_X9_command : GoodIn wsX9_runScript wsX9_command := goodIn_r _ [19, 4, 20, 21, 22, 23, 24, 8, 25, 26, 6, 7, 9, 27, 28, 29, 30, 31, 32, 33, 34, 35, 36, 37, 38, 39, 40, 41, 42, 43, 44, 45, 46, 47, 48, 49, 50, 51, 52, 53, 54, 55, 56, 57, 58, 59, 60, 61, 62, 63, 64, 65, 66, 67, 68, 69, 70, 71, 72, 73, 74, 75, 76, 77, 78, 79, 80, 81, 82, 83, 84] (by decide +kernel) (by decide +kernel)
set_option maxRecDepth 20000 in
theorem gX9_runScript_X9_command : GoodIn wsX9_runScript (wsV RX9 173 RX9 yX9_command wsX9_command) := goodIn_app (goodIn_of _ (by decide +kernel)) ggX9_runScript_X9_command
theorem dX9_runScript_0 : decode cX9_runScript 0 = .ok (.aload_n 0, 1) := by decide +kernel
theorem dX9_runScript_1 : decode cX9_runScript 1 = .ok (.iconst 0, 1) := by decide +kernel
theorem dX9_runScript_2 : decode cX9_runScript 2 = .ok (.putfield 54, 3) := by decide +kernel
theorem dX9_runScript_5 : decode cX9_runScript 5 = .ok (.iload_n 1, 1) := by decide +kernel
theorem dX9_runScript_6 : decode cX9_runScript 6 = .ok (.i2l, 1) := by decide +kernel
theorem dX9_runScript_7 : decode cX9_runScript 7 = .ok (.lconst 1, 1) := by decide +kernel
theorem dX9_runScript_8 : decode cX9_runScript 8 = .ok (.ldc2_w 167, 3) := by decide +kernel
theorem dX9_runScript_11 : decode cX9_runScript 11 = .ok (.invokestatic 57, 3) := by decide +kernel
theorem dX9_runScript_14 : decode cX9_runScript 14 = .ok (.ifCond .eq 17, 3) := by decide +kernel
theorem dX9_runScript_17 : decode cX9_runScript 17 = .ok (.lload_n 2, 1) := by decide +kernel
theorem dX9_runScript_18 : decode cX9_runScript 18 = .ok (.lconst 0, 1) := by decide +kernel
theorem dX9_runScript_19 : decode cX9_runScript 19 = .ok (.iload_n 1, 1) := by decide +kernel
theorem dX9_runScript_20 : decode cX9_runScript 20 = .ok (.invokestatic 169, 3) := by decide +kernel
theorem dX9_runScript_23 : decode cX9_runScript 23 = .ok (.lconst 1, 1) := by decide +kernel
theorem dX9_runScript_24 : decode cX9_runScript 24 = .ok (.lsub, 1) := by decide +kernel
theorem dX9_runScript_25 : decode cX9_runScript 25 = .ok (.invokestatic 57, 3) := by decide +kernel
theorem dX9_runScript_28 : decode cX9_runScript 28 = .ok (.ifCond .ne 6, 3) := by decide +kernel
theorem dX9_runScript_31 : decode cX9_runScript 31 = .ok (.bipush (-2), 2) := by decide +kernel
theorem dX9_runScript_33 : decode cX9_runScript 33 = .ok (.ireturn, 1) := by decide +kernel
theorem dX9_runScript_34 : decode cX9_runScript 34 = .ok (.aload_n 0, 1) := by decide +kernel
theorem dX9_runScript_35 : decode cX9_runScript 35 = .ok (.getfield 20, 3) := by decide +kernel
theorem dX9_runScript_38 : decode cX9_runScript 38 = .ok (.aload_n 0, 1) := by decide +kernel
theorem dX9_runScript_39 : decode cX9_runScript 39 = .ok (.getfield 23, 3) := by decide +kernel
theorem dX9_runScript_42 : decode cX9_runScript 42 = .ok (.invokestatic 118, 3) := by decide +kernel
theorem dX9_runScript_45 : decode cX9_runScript 45 = .ok (.iconst 0, 1) := by decide +kernel
theorem dX9_runScript_46 : decode cX9_runScript 46 = .ok (.istore 4, 2) := by decide +kernel
theorem dX9_runScript_48 : decode cX9_runScript 48 = .ok (.iload 4, 2) := by decide +kernel
theorem dX9_runScript_50 : decode cX9_runScript 50 = .ok (.iload_n 1, 1) := by decide +kernel
theorem dX9_runScript_51 : decode cX9_runScript 51 = .ok (.if_icmp .ge 64, 3) := by decide +kernel
theorem dX9_runScript_54 : decode cX9_runScript 54 = .ok (.lload_n 2, 1) := by decide +kernel
theorem dX9_runScript_55 : decode cX9_runScript 55 = .ok (.iload_n 1, 1) := by decide +kernel
theorem dX9_runScript_56 : decode cX9_runScript 56 = .ok (.iconst 1, 1) := by decide +kernel
theorem dX9_runScript_57 : decode cX9_runScript 57 = .ok (.isub, 1) := by decide +kernel
theorem dX9_runScript_58 : decode cX9_runScript 58 = .ok (.iload 4, 2) := by decide +kernel
theorem dX9_runScript_60 : decode cX9_runScript 60 = .ok (.isub, 1) := by decide +kernel
theorem dX9_runScript_61 : decode cX9_runScript 61 = .ok (.invokestatic 169, 3) := by decide +kernel
theorem dX9_runScript_64 : decode cX9_runScript 64 = .ok (.ldiv, 1) := by decide +kernel
theorem dX9_runScript_65 : decode cX9_runScript 65 = .ok (.ldc2_w 165, 3) := by decide +kernel
theorem dX9_runScript_68 : decode cX9_runScript 68 = .ok (.lrem, 1) := by decide +kernel
theorem dX9_runScript_69 : decode cX9_runScript 69 = .ok (.l2i, 1) := by decide +kernel
theorem dX9_runScript_70 : decode cX9_runScript 70 = .ok (.istore 5, 2) := by decide +kernel
theorem dX9_runScript_72 : decode cX9_runScript 72 = .ok (.aload_n 0, 1) := by decide +kernel
theorem dX9_runScript_73 : decode cX9_runScript 73 = .ok (.iload 5, 2) := by decide +kernel
theorem dX9_runScript_75 : decode cX9_runScript 75 = .ok (.sipush 1000, 3) := by decide +kernel
theorem dX9_runScript_78 : decode cX9_runScript 78 = .ok (.idiv, 1) := by decide +kernel
theorem dX9_runScript_79 : decode cX9_runScript 79 = .ok (.iload 5, 2) := by decide +kernel
theorem dX9_runScript_81 : decode cX9_runScript 81 = .ok (.bipush 100, 2) := by decide +kernel
theorem dX9_runScript_83 : decode cX9_runScript 83 = .ok (.idiv, 1) := by decide +kernel
theorem dX9_runScript_84 : decode cX9_runScript 84 = .ok (.bipush 10, 2) := by decide +kernel
theorem dX9_runScript_86 : decode cX9_runScript 86 = .ok (.irem, 1) := by decide +kernel
theorem dX9_runScript_87 : decode cX9_runScript 87 = .ok (.iload 5, 2) := by decide +kernel
theorem dX9_runScript_89 : decode cX9_runScript 89 = .ok (.bipush 10, 2) := by decide +kernel
theorem dX9_runScript_91 : decode cX9_runScript 91 = .ok (.idiv, 1) := by decide +kernel
theorem dX9_runScript_92 : decode cX9_runScript 92 = .ok (.bipush 10, 2) := by decide +kernel
theorem dX9_runScript_94 : decode cX9_runScript 94 = .ok (.irem, 1) := by decide +kernel
theorem dX9_runScript_95 : decode cX9_runScript 95 = .ok (.iload 5, 2) := by decide +kernel
theorem dX9_runScript_97 : decode cX9_runScript 97 = .ok (.bipush 10, 2) := by decide +kernel
theorem dX9_runScript_99 : decode cX9_runScript 99 = .ok (.irem, 1) := by decide +kernel
theorem dX9_runScript_100 : decode cX9_runScript 100 = .ok (.invokevirtual 173, 3) := by decide +kernel
theorem dX9_runScript_103 : decode cX9_runScript 103 = .ok (.ifCond .ne 6, 3) := by decide +kernel
theorem dX9_runScript_106 : decode cX9_runScript 106 = .ok (.iload 4, 2) := by decide +kernel
theorem dX9_runScript_108 : decode cX9_runScript 108 = .ok (.ireturn, 1) := by decide +kernel
theorem dX9_runScript_109 : decode cX9_runScript 109 = .ok (.iinc 4 1, 3) := by decide +kernel
theorem dX9_runScript_112 : decode cX9_runScript 112 = .ok (.goto (-64), 3) := by decide +kernel
theorem dX9_runScript_115 : decode cX9_runScript 115 = .ok (.bipush (-9), 2) := by decide +kernel
theorem dX9_runScript_117 : decode cX9_runScript 117 = .ok (.ireturn, 1) := by decide +kernel
set_option maxRecDepth 20000 in
theorem ggX9_observe_X9_in : GoodIn wsX9_observe wsX9_in := goodIn_r _ [10] (by decide +kernel) (by decide +kernel)
set_option maxRecDepth 20000 in
theorem gX9_observe_X9_in : GoodIn wsX9_observe (va_wsS RX9 57 yX9_in wsX9_in) := goodIn_app (goodIn_of _ (by decide +kernel)) ggX9_observe_X9_in
theorem dX9_observe_0 : decode cX9_observe 0 = .ok (.aload_n 0, 1) := by decide +kernel
theorem dX9_observe_1 : decode cX9_observe 1 = .ok (.iconst 0, 1) := by decide +kernel
theorem dX9_observe_2 : decode cX9_observe 2 = .ok (.putfield 54, 3) := by decide +kernel
theorem dX9_observe_5 : decode cX9_observe 5 = .ok (.iload_n 1, 1) := by decide +kernel
theorem dX9_observe_6 : decode cX9_observe 6 = .ok (.i2l, 1) := by decide +kernel
theorem dX9_observe_7 : decode cX9_observe 7 = .ok (.lconst 0, 1) := by decide +kernel
theorem dX9_observe_8 : decode cX9_observe 8 = .ok (.ldc2_w 177, 3) := by decide +kernel
theorem dX9_observe_11 : decode cX9_observe 11 = .ok (.invokestatic 57, 3) := by decide +kernel
theorem dX9_observe_14 : decode cX9_observe 14 = .ok (.ifCond .eq 25, 3) := by decide +kernel
theorem dX9_observe_17 : decode cX9_observe 17 = .ok (.iload_n 2, 1) := by decide +kernel
theorem dX9_observe_18 : decode cX9_observe 18 = .ok (.i2l, 1) := by decide +kernel
theorem dX9_observe_19 : decode cX9_observe 19 = .ok (.lconst 0, 1) := by decide +kernel
theorem dX9_observe_20 : decode cX9_observe 20 = .ok (.ldc2_w 177, 3) := by decide +kernel
theorem dX9_observe_23 : decode cX9_observe 23 = .ok (.invokestatic 57, 3) := by decide +kernel
theorem dX9_observe_26 : decode cX9_observe 26 = .ok (.ifCond .eq 13, 3) := by decide +kernel
theorem dX9_observe_29 : decode cX9_observe 29 = .ok (.iload_n 3, 1) := by decide +kernel
theorem dX9_observe_30 : decode cX9_observe 30 = .ok (.i2l, 1) := by decide +kernel
theorem dX9_observe_31 : decode cX9_observe 31 = .ok (.lconst 0, 1) := by decide +kernel
theorem dX9_observe_32 : decode cX9_observe 32 = .ok (.lconst 1, 1) := by decide +kernel
theorem dX9_observe_33 : decode cX9_observe 33 = .ok (.invokestatic 57, 3) := by decide +kernel
theorem dX9_observe_36 : decode cX9_observe 36 = .ok (.ifCond .ne 6, 3) := by decide +kernel
theorem dX9_observe_39 : decode cX9_observe 39 = .ok (.bipush (-2), 2) := by decide +kernel
theorem dX9_observe_41 : decode cX9_observe 41 = .ok (.ireturn, 1) := by decide +kernel
theorem dX9_observe_42 : decode cX9_observe 42 = .ok (.aload_n 0, 1) := by decide +kernel
theorem dX9_observe_43 : decode cX9_observe 43 = .ok (.getfield 179, 3) := by decide +kernel
theorem dX9_observe_46 : decode cX9_observe 46 = .ok (.bipush 6, 2) := by decide +kernel
theorem dX9_observe_48 : decode cX9_observe 48 = .ok (.if_icmp .ne 6, 3) := by decide +kernel
theorem dX9_observe_51 : decode cX9_observe 51 = .ok (.bipush (-4), 2) := by decide +kernel
theorem dX9_observe_53 : decode cX9_observe 53 = .ok (.ireturn, 1) := by decide +kernel
theorem dX9_observe_54 : decode cX9_observe 54 = .ok (.aload_n 0, 1) := by decide +kernel
theorem dX9_observe_55 : decode cX9_observe 55 = .ok (.getfield 36, 3) := by decide +kernel
theorem dX9_observe_58 : decode cX9_observe 58 = .ok (.aload_n 0, 1) := by decide +kernel
theorem dX9_observe_59 : decode cX9_observe 59 = .ok (.getfield 179, 3) := by decide +kernel
theorem dX9_observe_62 : decode cX9_observe 62 = .ok (.iload_n 1, 1) := by decide +kernel
theorem dX9_observe_63 : decode cX9_observe 63 = .ok (.iastore, 1) := by decide +kernel
theorem dX9_observe_64 : decode cX9_observe 64 = .ok (.aload_n 0, 1) := by decide +kernel
theorem dX9_observe_65 : decode cX9_observe 65 = .ok (.getfield 39, 3) := by decide +kernel
theorem dX9_observe_68 : decode cX9_observe 68 = .ok (.aload_n 0, 1) := by decide +kernel
theorem dX9_observe_69 : decode cX9_observe 69 = .ok (.getfield 179, 3) := by decide +kernel
theorem dX9_observe_72 : decode cX9_observe 72 = .ok (.iload_n 2, 1) := by decide +kernel
theorem dX9_observe_73 : decode cX9_observe 73 = .ok (.iastore, 1) := by decide +kernel
theorem dX9_observe_74 : decode cX9_observe 74 = .ok (.aload_n 0, 1) := by decide +kernel
theorem dX9_observe_75 : decode cX9_observe 75 = .ok (.getfield 42, 3) := by decide +kernel
theorem dX9_observe_78 : decode cX9_observe 78 = .ok (.aload_n 0, 1) := by decide +kernel
theorem dX9_observe_79 : decode cX9_observe 79 = .ok (.getfield 179, 3) := by decide +kernel
theorem dX9_observe_82 : decode cX9_observe 82 = .ok (.iload_n 3, 1) := by decide +kernel
theorem dX9_observe_83 : decode cX9_observe 83 = .ok (.iastore, 1) := by decide +kernel
theorem dX9_observe_84 : decode cX9_observe 84 = .ok (.aload_n 0, 1) := by decide +kernel
theorem dX9_observe_85 : decode cX9_observe 85 = .ok (.dup, 1) := by decide +kernel
theorem dX9_observe_86 : decode cX9_observe 86 = .ok (.getfield 179, 3) := by decide +kernel
theorem dX9_observe_89 : decode cX9_observe 89 = .ok (.iconst 1, 1) := by decide +kernel
theorem dX9_observe_90 : decode cX9_observe 90 = .ok (.iadd, 1) := by decide +kernel
theorem dX9_observe_91 : decode cX9_observe 91 = .ok (.putfield 179, 3) := by decide +kernel
theorem dX9_observe_94 : decode cX9_observe 94 = .ok (.aload_n 0, 1) := by decide +kernel
theorem dX9_observe_95 : decode cX9_observe 95 = .ok (.getfield 179, 3) := by decide +kernel
theorem dX9_observe_98 : decode cX9_observe 98 = .ok (.ireturn, 1) := by decide +kernel
theorem dX9_clearObservations_0 : decode cX9_clearObservations 0 = .ok (.aload_n 0, 1) := by decide +kernel
theorem dX9_clearObservations_1 : decode cX9_clearObservations 1 = .ok (.iconst 0, 1) := by decide +kernel
theorem dX9_clearObservations_2 : decode cX9_clearObservations 2 = .ok (.putfield 54, 3) := by decide +kernel
theorem dX9_clearObservations_5 : decode cX9_clearObservations 5 = .ok (.aload_n 0, 1) := by decide +kernel
theorem dX9_clearObservations_6 : decode cX9_clearObservations 6 = .ok (.getfield 179, 3) := by decide +kernel
theorem dX9_clearObservations_9 : decode cX9_clearObservations 9 = .ok (.istore_n 1, 1) := by decide +kernel
theorem dX9_clearObservations_10 : decode cX9_clearObservations 10 = .ok (.aload_n 0, 1) := by decide +kernel
theorem dX9_clearObservations_11 : decode cX9_clearObservations 11 = .ok (.iconst 0, 1) := by decide +kernel
theorem dX9_clearObservations_12 : decode cX9_clearObservations 12 = .ok (.putfield 179, 3) := by decide +kernel
theorem dX9_clearObservations_15 : decode cX9_clearObservations 15 = .ok (.iload_n 1, 1) := by decide +kernel
theorem dX9_clearObservations_16 : decode cX9_clearObservations 16 = .ok (.ireturn, 1) := by decide +kernel
set_option maxRecDepth 20000 in
theorem ggX9_possibleLabels_X9_noEdge : GoodIn wsX9_possibleLabels wsX9_noEdge := goodIn_r _ [13, 2, 14, 15, 12, 16, 49, 50, 51, 52, 53, 54, 55, 56, 57, 58, 59, 60, 61, 62, 63, 64, 65, 66, 67, 68, 69] (by decide +kernel) (by decide +kernel)
set_option maxRecDepth 20000 in
theorem gX9_possibleLabels_X9_noEdge : GoodIn wsX9_possibleLabels (wsV RX9 125 RX9 yX9_noEdge wsX9_noEdge) := goodIn_app (goodIn_of _ (by decide +kernel)) ggX9_possibleLabels_X9_noEdge
set_option maxRecDepth 20000 in
theorem ggX9_possibleLabels_X9_assign : GoodIn wsX9_possibleLabels wsX9_assign := goodIn_r _ [19] (by decide +kernel) (by decide +kernel)
set_option maxRecDepth 20000 in
theorem gX9_possibleLabels_X9_assign : GoodIn wsX9_possibleLabels (va_wsS RX9 118 yX9_assign wsX9_assign) := goodIn_app (goodIn_of _ (by decide +kernel)) ggX9_possibleLabels_X9_assign
set_option maxRecDepth 20000 in
theorem ggX9_possibleLabels_X9_closeOf : GoodIn wsX9_possibleLabels wsX9_closeOf := goodIn_r _ [23, 24, 25, 26, 12, 27, 28, 29, 30, 31, 32, 33, 34, 35, 36, 37, 38, 39, 14, 15, 16, 49, 50, 51, 52, 53, 54, 55, 56, 57, 58, 59, 60, 61, 62, 63, 64, 65, 66, 67, 68, 69] (by decide +kernel) (by decide +kernel)
set_option maxRecDepth 20000 in
theorem gX9_possibleLabels_X9_closeOf : GoodIn wsX9_possibleLabels (wsV RX9 77 RX9 yX9_closeOf wsX9_closeOf) := goodIn_app (goodIn_of _ (by decide +kernel)) ggX9_possibleLabels_X9_closeOf
set_option maxRecDepth 20000 in
theorem ggX9_possibleLabels_X9_noVertex : GoodIn wsX9_possibleLabels wsX9_noVertex := goodIn_r _ [43, 44, 14, 15, 12, 16, 49, 50, 51, 52, 53, 54, 55, 56, 57, 58, 59, 60, 61, 62, 63, 64, 65, 66, 67, 68, 69] (by decide +kernel) (by decide +kernel)
set_option maxRecDepth 20000 in
theorem gX9_possibleLabels_X9_noVertex : GoodIn wsX9_possibleLabels (wsV RX9 129 RX9 yX9_noVertex wsX9_noVertex) := goodIn_app (goodIn_of _ (by decide +kernel)) ggX9_possibleLabels_X9_noVertex
set_option maxRecDepth 20000 in
theorem ggX9_possibleLabels_X9_reaches : GoodIn wsX9_possibleLabels wsX9_reaches := goodIn_r _ [48, 32, 33, 49, 50, 51, 52, 53, 54, 55, 56, 57, 58, 59, 60, 61, 62, 63, 64, 65, 66, 67, 68, 69] (by decide +kernel) (by decide +kernel)
set_option maxRecDepth 20000 in
theorem gX9_possibleLabels_X9_reaches : GoodIn wsX9_possibleLabels (wsV RX9 141 RX9 yX9_reaches wsX9_reaches) := goodIn_app (goodIn_of _ (by decide +kernel)) ggX9_possibleLabels_X9_reaches
theorem dX9_possibleLabels_0 : decode cX9_possibleLabels 0 = .ok (.aload_n 0, 1) := by decide +kernel
theorem dX9_possibleLabels_1 : decode cX9_possibleLabels 1 = .ok (.iconst 0, 1) := by decide +kernel
theorem dX9_possibleLabels_2 : decode cX9_possibleLabels 2 = .ok (.putfield 54, 3) := by decide +kernel
theorem dX9_possibleLabels_5 : decode cX9_possibleLabels 5 = .ok (.aload_n 0, 1) := by decide +kernel
theorem dX9_possibleLabels_6 : decode cX9_possibleLabels 6 = .ok (.iload_n 1, 1) := by decide +kernel
theorem dX9_possibleLabels_7 : decode cX9_possibleLabels 7 = .ok (.invokevirtual 125, 3) := by decide +kernel
theorem dX9_possibleLabels_10 : decode cX9_possibleLabels 10 = .ok (.ifCond .eq 5, 3) := by decide +kernel
theorem dX9_possibleLabels_13 : decode cX9_possibleLabels 13 = .ok (.iconst (-1), 1) := by decide +kernel
theorem dX9_possibleLabels_14 : decode cX9_possibleLabels 14 = .ok (.ireturn, 1) := by decide +kernel
theorem dX9_possibleLabels_15 : decode cX9_possibleLabels 15 = .ok (.iconst 0, 1) := by decide +kernel
theorem dX9_possibleLabels_16 : decode cX9_possibleLabels 16 = .ok (.istore_n 2, 1) := by decide +kernel
theorem dX9_possibleLabels_17 : decode cX9_possibleLabels 17 = .ok (.iconst 0, 1) := by decide +kernel
theorem dX9_possibleLabels_18 : decode cX9_possibleLabels 18 = .ok (.istore_n 3, 1) := by decide +kernel
theorem dX9_possibleLabels_19 : decode cX9_possibleLabels 19 = .ok (.iload_n 3, 1) := by decide +kernel
theorem dX9_possibleLabels_20 : decode cX9_possibleLabels 20 = .ok (.bipush 7, 2) := by decide +kernel
theorem dX9_possibleLabels_22 : decode cX9_possibleLabels 22 = .ok (.if_icmp .ge 166, 3) := by decide +kernel
theorem dX9_possibleLabels_25 : decode cX9_possibleLabels 25 = .ok (.aload_n 0, 1) := by decide +kernel
theorem dX9_possibleLabels_26 : decode cX9_possibleLabels 26 = .ok (.getfield 20, 3) := by decide +kernel
theorem dX9_possibleLabels_29 : decode cX9_possibleLabels 29 = .ok (.aload_n 0, 1) := by decide +kernel
theorem dX9_possibleLabels_30 : decode cX9_possibleLabels 30 = .ok (.getfield 23, 3) := by decide +kernel
theorem dX9_possibleLabels_33 : decode cX9_possibleLabels 33 = .ok (.invokestatic 118, 3) := by decide +kernel
theorem dX9_possibleLabels_36 : decode cX9_possibleLabels 36 = .ok (.aload_n 0, 1) := by decide +kernel
theorem dX9_possibleLabels_37 : decode cX9_possibleLabels 37 = .ok (.getfield 23, 3) := by decide +kernel
theorem dX9_possibleLabels_40 : decode cX9_possibleLabels 40 = .ok (.iconst 3, 1) := by decide +kernel
theorem dX9_possibleLabels_41 : decode cX9_possibleLabels 41 = .ok (.iconst 3, 1) := by decide +kernel
theorem dX9_possibleLabels_42 : decode cX9_possibleLabels 42 = .ok (.iload_n 1, 1) := by decide +kernel
theorem dX9_possibleLabels_43 : decode cX9_possibleLabels 43 = .ok (.imul, 1) := by decide +kernel
theorem dX9_possibleLabels_44 : decode cX9_possibleLabels 44 = .ok (.iadd, 1) := by decide +kernel
theorem dX9_possibleLabels_45 : decode cX9_possibleLabels 45 = .ok (.iload_n 3, 1) := by decide +kernel
theorem dX9_possibleLabels_46 : decode cX9_possibleLabels 46 = .ok (.iastore, 1) := by decide +kernel
theorem dX9_possibleLabels_47 : decode cX9_possibleLabels 47 = .ok (.aload_n 0, 1) := by decide +kernel
theorem dX9_possibleLabels_48 : decode cX9_possibleLabels 48 = .ok (.aload_n 0, 1) := by decide +kernel
theorem dX9_possibleLabels_49 : decode cX9_possibleLabels 49 = .ok (.getfield 23, 3) := by decide +kernel
theorem dX9_possibleLabels_52 : decode cX9_possibleLabels 52 = .ok (.ldc 140, 2) := by decide +kernel
theorem dX9_possibleLabels_54 : decode cX9_possibleLabels 54 = .ok (.invokevirtual 77, 3) := by decide +kernel
theorem dX9_possibleLabels_57 : decode cX9_possibleLabels 57 = .ok (.iconst 1, 1) := by decide +kernel
theorem dX9_possibleLabels_58 : decode cX9_possibleLabels 58 = .ok (.istore 4, 2) := by decide +kernel
theorem dX9_possibleLabels_60 : decode cX9_possibleLabels 60 = .ok (.iconst 0, 1) := by decide +kernel
theorem dX9_possibleLabels_61 : decode cX9_possibleLabels 61 = .ok (.istore 5, 2) := by decide +kernel
theorem dX9_possibleLabels_63 : decode cX9_possibleLabels 63 = .ok (.iload 5, 2) := by decide +kernel
theorem dX9_possibleLabels_65 : decode cX9_possibleLabels 65 = .ok (.aload_n 0, 1) := by decide +kernel
theorem dX9_possibleLabels_66 : decode cX9_possibleLabels 66 = .ok (.getfield 179, 3) := by decide +kernel
theorem dX9_possibleLabels_69 : decode cX9_possibleLabels 69 = .ok (.if_icmp .ge 98, 3) := by decide +kernel
theorem dX9_possibleLabels_72 : decode cX9_possibleLabels 72 = .ok (.aload_n 0, 1) := by decide +kernel
theorem dX9_possibleLabels_73 : decode cX9_possibleLabels 73 = .ok (.aload_n 0, 1) := by decide +kernel
theorem dX9_possibleLabels_74 : decode cX9_possibleLabels 74 = .ok (.getfield 36, 3) := by decide +kernel
theorem dX9_possibleLabels_77 : decode cX9_possibleLabels 77 = .ok (.iload 5, 2) := by decide +kernel
theorem dX9_possibleLabels_79 : decode cX9_possibleLabels 79 = .ok (.iaload, 1) := by decide +kernel
theorem dX9_possibleLabels_80 : decode cX9_possibleLabels 80 = .ok (.invokevirtual 129, 3) := by decide +kernel
theorem dX9_possibleLabels_83 : decode cX9_possibleLabels 83 = .ok (.ifCond .ne 21, 3) := by decide +kernel
theorem dX9_possibleLabels_86 : decode cX9_possibleLabels 86 = .ok (.aload_n 0, 1) := by decide +kernel
theorem dX9_possibleLabels_87 : decode cX9_possibleLabels 87 = .ok (.aload_n 0, 1) := by decide +kernel
theorem dX9_possibleLabels_88 : decode cX9_possibleLabels 88 = .ok (.getfield 39, 3) := by decide +kernel
theorem dX9_possibleLabels_91 : decode cX9_possibleLabels 91 = .ok (.iload 5, 2) := by decide +kernel
theorem dX9_possibleLabels_93 : decode cX9_possibleLabels 93 = .ok (.iaload, 1) := by decide +kernel
theorem dX9_possibleLabels_94 : decode cX9_possibleLabels 94 = .ok (.invokevirtual 129, 3) := by decide +kernel
theorem dX9_possibleLabels_97 : decode cX9_possibleLabels 97 = .ok (.ifCond .ne 7, 3) := by decide +kernel
theorem dX9_possibleLabels_100 : decode cX9_possibleLabels 100 = .ok (.iconst 1, 1) := by decide +kernel
theorem dX9_possibleLabels_101 : decode cX9_possibleLabels 101 = .ok (.goto 4, 3) := by decide +kernel
theorem dX9_possibleLabels_104 : decode cX9_possibleLabels 104 = .ok (.iconst 0, 1) := by decide +kernel
theorem dX9_possibleLabels_105 : decode cX9_possibleLabels 105 = .ok (.istore 6, 2) := by decide +kernel
theorem dX9_possibleLabels_107 : decode cX9_possibleLabels 107 = .ok (.iload 4, 2) := by decide +kernel
theorem dX9_possibleLabels_109 : decode cX9_possibleLabels 109 = .ok (.ifCond .eq 49, 3) := by decide +kernel
theorem dX9_possibleLabels_112 : decode cX9_possibleLabels 112 = .ok (.iload 6, 2) := by decide +kernel
theorem dX9_possibleLabels_114 : decode cX9_possibleLabels 114 = .ok (.ifCond .eq 40, 3) := by decide +kernel
theorem dX9_possibleLabels_117 : decode cX9_possibleLabels 117 = .ok (.aload_n 0, 1) := by decide +kernel
theorem dX9_possibleLabels_118 : decode cX9_possibleLabels 118 = .ok (.aload_n 0, 1) := by decide +kernel
theorem dX9_possibleLabels_119 : decode cX9_possibleLabels 119 = .ok (.getfield 36, 3) := by decide +kernel
theorem dX9_possibleLabels_122 : decode cX9_possibleLabels 122 = .ok (.iload 5, 2) := by decide +kernel
theorem dX9_possibleLabels_124 : decode cX9_possibleLabels 124 = .ok (.iaload, 1) := by decide +kernel
theorem dX9_possibleLabels_125 : decode cX9_possibleLabels 125 = .ok (.aload_n 0, 1) := by decide +kernel
theorem dX9_possibleLabels_126 : decode cX9_possibleLabels 126 = .ok (.getfield 39, 3) := by decide +kernel
theorem dX9_possibleLabels_129 : decode cX9_possibleLabels 129 = .ok (.iload 5, 2) := by decide +kernel
theorem dX9_possibleLabels_131 : decode cX9_possibleLabels 131 = .ok (.iaload, 1) := by decide +kernel
theorem dX9_possibleLabels_132 : decode cX9_possibleLabels 132 = .ok (.invokevirtual 141, 3) := by decide +kernel
theorem dX9_possibleLabels_135 : decode cX9_possibleLabels 135 = .ok (.aload_n 0, 1) := by decide +kernel
theorem dX9_possibleLabels_136 : decode cX9_possibleLabels 136 = .ok (.getfield 42, 3) := by decide +kernel
theorem dX9_possibleLabels_139 : decode cX9_possibleLabels 139 = .ok (.iload 5, 2) := by decide +kernel
theorem dX9_possibleLabels_141 : decode cX9_possibleLabels 141 = .ok (.iaload, 1) := by decide +kernel
theorem dX9_possibleLabels_142 : decode cX9_possibleLabels 142 = .ok (.iconst 1, 1) := by decide +kernel
theorem dX9_possibleLabels_143 : decode cX9_possibleLabels 143 = .ok (.if_icmp .ne 7, 3) := by decide +kernel
theorem dX9_possibleLabels_146 : decode cX9_possibleLabels 146 = .ok (.iconst 1, 1) := by decide +kernel
theorem dX9_possibleLabels_147 : decode cX9_possibleLabels 147 = .ok (.goto 4, 3) := by decide +kernel
theorem dX9_possibleLabels_150 : decode cX9_possibleLabels 150 = .ok (.iconst 0, 1) := by decide +kernel
theorem dX9_possibleLabels_151 : decode cX9_possibleLabels 151 = .ok (.if_icmp .ne 7, 3) := by decide +kernel
theorem dX9_possibleLabels_154 : decode cX9_possibleLabels 154 = .ok (.iconst 1, 1) := by decide +kernel
theorem dX9_possibleLabels_155 : decode cX9_possibleLabels 155 = .ok (.goto 4, 3) := by decide +kernel
theorem dX9_possibleLabels_158 : decode cX9_possibleLabels 158 = .ok (.iconst 0, 1) := by decide +kernel
theorem dX9_possibleLabels_159 : decode cX9_possibleLabels 159 = .ok (.istore 4, 2) := by decide +kernel
theorem dX9_possibleLabels_161 : decode cX9_possibleLabels 161 = .ok (.iinc 5 1, 3) := by decide +kernel
theorem dX9_possibleLabels_164 : decode cX9_possibleLabels 164 = .ok (.goto (-101), 3) := by decide +kernel
theorem dX9_possibleLabels_167 : decode cX9_possibleLabels 167 = .ok (.iload_n 2, 1) := by decide +kernel
theorem dX9_possibleLabels_168 : decode cX9_possibleLabels 168 = .ok (.iload 4, 2) := by decide +kernel
theorem dX9_possibleLabels_170 : decode cX9_possibleLabels 170 = .ok (.ifCond .eq 9, 3) := by decide +kernel
theorem dX9_possibleLabels_173 : decode cX9_possibleLabels 173 = .ok (.iconst 1, 1) := by decide +kernel
theorem dX9_possibleLabels_174 : decode cX9_possibleLabels 174 = .ok (.iload_n 3, 1) := by decide +kernel
theorem dX9_possibleLabels_175 : decode cX9_possibleLabels 175 = .ok (.ishl, 1) := by decide +kernel
theorem dX9_possibleLabels_176 : decode cX9_possibleLabels 176 = .ok (.goto 4, 3) := by decide +kernel
theorem dX9_possibleLabels_179 : decode cX9_possibleLabels 179 = .ok (.iconst 0, 1) := by decide +kernel
theorem dX9_possibleLabels_180 : decode cX9_possibleLabels 180 = .ok (.ior, 1) := by decide +kernel
theorem dX9_possibleLabels_181 : decode cX9_possibleLabels 181 = .ok (.istore_n 2, 1) := by decide +kernel
theorem dX9_possibleLabels_182 : decode cX9_possibleLabels 182 = .ok (.iinc 3 1, 3) := by decide +kernel
theorem dX9_possibleLabels_185 : decode cX9_possibleLabels 185 = .ok (.goto (-166), 3) := by decide +kernel
theorem dX9_possibleLabels_188 : decode cX9_possibleLabels 188 = .ok (.iload_n 2, 1) := by decide +kernel
theorem dX9_possibleLabels_189 : decode cX9_possibleLabels 189 = .ok (.ireturn, 1) := by decide +kernel
theorem dX9_factorial_0 : decode cX9_factorial 0 = .ok (.iconst 1, 1) := by decide +kernel
theorem dX9_factorial_1 : decode cX9_factorial 1 = .ok (.istore_n 1, 1) := by decide +kernel
theorem dX9_factorial_2 : decode cX9_factorial 2 = .ok (.iconst 2, 1) := by decide +kernel
theorem dX9_factorial_3 : decode cX9_factorial 3 = .ok (.istore_n 2, 1) := by decide +kernel
theorem dX9_factorial_4 : decode cX9_factorial 4 = .ok (.iload_n 2, 1) := by decide +kernel
theorem dX9_factorial_5 : decode cX9_factorial 5 = .ok (.iload_n 0, 1) := by decide +kernel
theorem dX9_factorial_6 : decode cX9_factorial 6 = .ok (.if_icmp .gt 13, 3) := by decide +kernel
theorem dX9_factorial_9 : decode cX9_factorial 9 = .ok (.iload_n 1, 1) := by decide +kernel
theorem dX9_factorial_10 : decode cX9_factorial 10 = .ok (.iload_n 2, 1) := by decide +kernel
theorem dX9_factorial_11 : decode cX9_factorial 11 = .ok (.imul, 1) := by decide +kernel
theorem dX9_factorial_12 : decode cX9_factorial 12 = .ok (.istore_n 1, 1) := by decide +kernel
theorem dX9_factorial_13 : decode cX9_factorial 13 = .ok (.iinc 2 1, 3) := by decide +kernel
theorem dX9_factorial_16 : decode cX9_factorial 16 = .ok (.goto (-12), 3) := by decide +kernel
theorem dX9_factorial_19 : decode cX9_factorial 19 = .ok (.iload_n 1, 1) := by decide +kernel
theorem dX9_factorial_20 : decode cX9_factorial 20 = .ok (.ireturn, 1) := by decide +kernel
set_option maxRecDepth 20000 in
theorem ggX9_share_X9_noEdge : GoodIn wsX9_share wsX9_noEdge := goodIn_r _ [8, 2, 9, 10, 7, 11, 47, 48, 49, 50, 51, 52, 53, 54, 55, 56, 57, 58, 59, 60, 61, 62, 63, 64, 65, 66, 67] (by decide +kernel) (by decide +kernel)
set_option maxRecDepth 20000 in
theorem gX9_share_X9_noEdge : GoodIn wsX9_share (wsV RX9 125 RX9 yX9_noEdge wsX9_noEdge) := goodIn_app (goodIn_of _ (by decide +kernel)) ggX9_share_X9_noEdge
set_option maxRecDepth 20000 in
theorem ggX9_share_X9_has : GoodIn wsX9_share wsX9_has := goodIn_r _ [14] (by decide +kernel) (by decide +kernel)
set_option maxRecDepth 20000 in
theorem gX9_share_X9_has : GoodIn wsX9_share (va_wsS RX9 69 yX9_has wsX9_has) := goodIn_app (goodIn_of _ (by decide +kernel)) ggX9_share_X9_has
set_option maxRecDepth 20000 in
theorem ggX9_share_X9_bits : GoodIn wsX9_share wsX9_bits := goodIn_r _ [17] (by decide +kernel) (by decide +kernel)
set_option maxRecDepth 20000 in
theorem gX9_share_X9_bits : GoodIn wsX9_share (va_wsS RX9 182 yX9_bits wsX9_bits) := goodIn_app (goodIn_of _ (by decide +kernel)) ggX9_share_X9_bits
set_option maxRecDepth 20000 in
theorem ggX9_share_X9_factorial : GoodIn wsX9_share wsX9_factorial := goodIn_r _ [20] (by decide +kernel) (by decide +kernel)
set_option maxRecDepth 20000 in
theorem gX9_share_X9_factorial : GoodIn wsX9_share (va_wsS RX9 185 yX9_factorial wsX9_factorial) := goodIn_app (goodIn_of _ (by decide +kernel)) ggX9_share_X9_factorial
set_option maxRecDepth 20000 in
theorem ggX9_share_X9_pairsOf : GoodIn wsX9_share wsX9_pairsOf := goodIn_r _ [24, 25, 26, 27, 7, 28, 29, 12, 13, 14, 30, 31, 32, 33, 34, 35, 36, 37, 38, 39, 40, 41, 9, 10, 11, 42, 43, 44, 45, 46, 47, 48, 49, 50, 51, 52, 53, 54, 55, 56, 57, 58, 59, 60, 61, 62, 63, 64, 65, 66, 67] (by decide +kernel) (by decide +kernel)
set_option maxRecDepth 20000 in
theorem gX9_share_X9_pairsOf : GoodIn wsX9_share (wsV RX9 144 RX9 yX9_pairsOf wsX9_pairsOf) := goodIn_app (goodIn_of _ (by decide +kernel)) ggX9_share_X9_pairsOf
theorem dX9_share_0 : decode cX9_share 0 = .ok (.aload_n 0, 1) := by decide +kernel
theorem dX9_share_1 : decode cX9_share 1 = .ok (.iconst 0, 1) := by decide +kernel
theorem dX9_share_2 : decode cX9_share 2 = .ok (.putfield 54, 3) := by decide +kernel
theorem dX9_share_5 : decode cX9_share 5 = .ok (.aload_n 0, 1) := by decide +kernel
theorem dX9_share_6 : decode cX9_share 6 = .ok (.iload_n 1, 1) := by decide +kernel
theorem dX9_share_7 : decode cX9_share 7 = .ok (.invokevirtual 125, 3) := by decide +kernel
theorem dX9_share_10 : decode cX9_share 10 = .ok (.ifCond .eq 5, 3) := by decide +kernel
theorem dX9_share_13 : decode cX9_share 13 = .ok (.iconst (-1), 1) := by decide +kernel
theorem dX9_share_14 : decode cX9_share 14 = .ok (.ireturn, 1) := by decide +kernel
theorem dX9_share_15 : decode cX9_share 15 = .ok (.aload_n 0, 1) := by decide +kernel
theorem dX9_share_16 : decode cX9_share 16 = .ok (.getfield 20, 3) := by decide +kernel
theorem dX9_share_19 : decode cX9_share 19 = .ok (.iconst 0, 1) := by decide +kernel
theorem dX9_share_20 : decode cX9_share 20 = .ok (.iaload, 1) := by decide +kernel
theorem dX9_share_21 : decode cX9_share 21 = .ok (.istore_n 2, 1) := by decide +kernel
theorem dX9_share_22 : decode cX9_share 22 = .ok (.iload_n 2, 1) := by decide +kernel
theorem dX9_share_23 : decode cX9_share 23 = .ok (.bipush 8, 2) := by decide +kernel
theorem dX9_share_25 : decode cX9_share 25 = .ok (.if_icmp .le 6, 3) := by decide +kernel
theorem dX9_share_28 : decode cX9_share 28 = .ok (.bipush (-3), 2) := by decide +kernel
theorem dX9_share_30 : decode cX9_share 30 = .ok (.ireturn, 1) := by decide +kernel
theorem dX9_share_31 : decode cX9_share 31 = .ok (.iconst 0, 1) := by decide +kernel
theorem dX9_share_32 : decode cX9_share 32 = .ok (.istore_n 3, 1) := by decide +kernel
theorem dX9_share_33 : decode cX9_share 33 = .ok (.iconst 0, 1) := by decide +kernel
theorem dX9_share_34 : decode cX9_share 34 = .ok (.istore 4, 2) := by decide +kernel
theorem dX9_share_36 : decode cX9_share 36 = .ok (.iload 4, 2) := by decide +kernel
theorem dX9_share_38 : decode cX9_share 38 = .ok (.iconst 1, 1) := by decide +kernel
theorem dX9_share_39 : decode cX9_share 39 = .ok (.iload_n 2, 1) := by decide +kernel
theorem dX9_share_40 : decode cX9_share 40 = .ok (.ishl, 1) := by decide +kernel
theorem dX9_share_41 : decode cX9_share 41 = .ok (.if_icmp .ge 69, 3) := by decide +kernel
theorem dX9_share_44 : decode cX9_share 44 = .ok (.iload 4, 2) := by decide +kernel
theorem dX9_share_46 : decode cX9_share 46 = .ok (.iload_n 1, 1) := by decide +kernel
theorem dX9_share_47 : decode cX9_share 47 = .ok (.invokestatic 69, 3) := by decide +kernel
theorem dX9_share_50 : decode cX9_share 50 = .ok (.ifCond .ne 54, 3) := by decide +kernel
theorem dX9_share_53 : decode cX9_share 53 = .ok (.iload 4, 2) := by decide +kernel
theorem dX9_share_55 : decode cX9_share 55 = .ok (.invokestatic 182, 3) := by decide +kernel
theorem dX9_share_58 : decode cX9_share 58 = .ok (.istore 5, 2) := by decide +kernel
theorem dX9_share_60 : decode cX9_share 60 = .ok (.iload_n 3, 1) := by decide +kernel
theorem dX9_share_61 : decode cX9_share 61 = .ok (.iload 5, 2) := by decide +kernel
theorem dX9_share_63 : decode cX9_share 63 = .ok (.invokestatic 185, 3) := by decide +kernel
theorem dX9_share_66 : decode cX9_share 66 = .ok (.iload_n 2, 1) := by decide +kernel
theorem dX9_share_67 : decode cX9_share 67 = .ok (.iconst 1, 1) := by decide +kernel
theorem dX9_share_68 : decode cX9_share 68 = .ok (.isub, 1) := by decide +kernel
theorem dX9_share_69 : decode cX9_share 69 = .ok (.iload 5, 2) := by decide +kernel
theorem dX9_share_71 : decode cX9_share 71 = .ok (.isub, 1) := by decide +kernel
theorem dX9_share_72 : decode cX9_share 72 = .ok (.invokestatic 185, 3) := by decide +kernel
theorem dX9_share_75 : decode cX9_share 75 = .ok (.imul, 1) := by decide +kernel
theorem dX9_share_76 : decode cX9_share 76 = .ok (.aload_n 0, 1) := by decide +kernel
theorem dX9_share_77 : decode cX9_share 77 = .ok (.aload_n 0, 1) := by decide +kernel
theorem dX9_share_78 : decode cX9_share 78 = .ok (.getfield 20, 3) := by decide +kernel
theorem dX9_share_81 : decode cX9_share 81 = .ok (.iload 4, 2) := by decide +kernel
theorem dX9_share_83 : decode cX9_share 83 = .ok (.iconst 1, 1) := by decide +kernel
theorem dX9_share_84 : decode cX9_share 84 = .ok (.iload_n 1, 1) := by decide +kernel
theorem dX9_share_85 : decode cX9_share 85 = .ok (.ishl, 1) := by decide +kernel
theorem dX9_share_86 : decode cX9_share 86 = .ok (.ior, 1) := by decide +kernel
theorem dX9_share_87 : decode cX9_share 87 = .ok (.invokevirtual 144, 3) := by decide +kernel
theorem dX9_share_90 : decode cX9_share 90 = .ok (.aload_n 0, 1) := by decide +kernel
theorem dX9_share_91 : decode cX9_share 91 = .ok (.aload_n 0, 1) := by decide +kernel
theorem dX9_share_92 : decode cX9_share 92 = .ok (.getfield 20, 3) := by decide +kernel
theorem dX9_share_95 : decode cX9_share 95 = .ok (.iload 4, 2) := by decide +kernel
theorem dX9_share_97 : decode cX9_share 97 = .ok (.invokevirtual 144, 3) := by decide +kernel
theorem dX9_share_100 : decode cX9_share 100 = .ok (.isub, 1) := by decide +kernel
theorem dX9_share_101 : decode cX9_share 101 = .ok (.imul, 1) := by decide +kernel
theorem dX9_share_102 : decode cX9_share 102 = .ok (.iadd, 1) := by decide +kernel
theorem dX9_share_103 : decode cX9_share 103 = .ok (.istore_n 3, 1) := by decide +kernel
theorem dX9_share_104 : decode cX9_share 104 = .ok (.iinc 4 1, 3) := by decide +kernel
theorem dX9_share_107 : decode cX9_share 107 = .ok (.goto (-71), 3) := by decide +kernel
theorem dX9_share_110 : decode cX9_share 110 = .ok (.iload_n 3, 1) := by decide +kernel
theorem dX9_share_111 : decode cX9_share 111 = .ok (.ldc 188, 2) := by decide +kernel
theorem dX9_share_113 : decode cX9_share 113 = .ok (.iload_n 2, 1) := by decide +kernel
theorem dX9_share_114 : decode cX9_share 114 = .ok (.invokestatic 185, 3) := by decide +kernel
theorem dX9_share_117 : decode cX9_share 117 = .ok (.idiv, 1) := by decide +kernel
theorem dX9_share_118 : decode cX9_share 118 = .ok (.imul, 1) := by decide +kernel
theorem dX9_share_119 : decode cX9_share 119 = .ok (.ireturn, 1) := by decide +kernel
set_option maxRecDepth 20000 in
theorem ggX9_reliability_X9_noVertex : GoodIn wsX9_reliability wsX9_noVertex := goodIn_r _ [8, 9, 10, 11, 7, 12, 37, 38, 39, 40, 41, 42, 43, 44, 45, 46, 47, 48, 49, 50, 51, 52, 53, 54, 55, 56, 57] (by decide +kernel) (by decide +kernel)
set_option maxRecDepth 20000 in
theorem gX9_reliability_X9_noVertex : GoodIn wsX9_reliability (wsV RX9 129 RX9 yX9_noVertex wsX9_noVertex) := goodIn_app (goodIn_of _ (by decide +kernel)) ggX9_reliability_X9_noVertex
set_option maxRecDepth 20000 in
theorem ggX9_reliability_X9_in : GoodIn wsX9_reliability wsX9_in := goodIn_r _ [12] (by decide +kernel) (by decide +kernel)
set_option maxRecDepth 20000 in
theorem gX9_reliability_X9_in : GoodIn wsX9_reliability (va_wsS RX9 57 yX9_in wsX9_in) := goodIn_app (goodIn_of _ (by decide +kernel)) ggX9_reliability_X9_in
set_option maxRecDepth 20000 in
theorem ggX9_reliability_X9_closeOf : GoodIn wsX9_reliability wsX9_closeOf := goodIn_r _ [16, 17, 18, 19, 7, 20, 21, 22, 23, 24, 25, 26, 27, 28, 29, 30, 31, 32, 10, 11, 12, 37, 38, 39, 40, 41, 42, 43, 44, 45, 46, 47, 48, 49, 50, 51, 52, 53, 54, 55, 56, 57] (by decide +kernel) (by decide +kernel)
set_option maxRecDepth 20000 in
theorem gX9_reliability_X9_closeOf : GoodIn wsX9_reliability (wsV RX9 77 RX9 yX9_closeOf wsX9_closeOf) := goodIn_app (goodIn_of _ (by decide +kernel)) ggX9_reliability_X9_closeOf
set_option maxRecDepth 20000 in
theorem ggX9_reliability_X9_has : GoodIn wsX9_reliability wsX9_has := goodIn_r _ [20] (by decide +kernel) (by decide +kernel)
set_option maxRecDepth 20000 in
theorem gX9_reliability_X9_has : GoodIn wsX9_reliability (va_wsS RX9 69 yX9_has wsX9_has) := goodIn_app (goodIn_of _ (by decide +kernel)) ggX9_reliability_X9_has
set_option maxRecDepth 20000 in
theorem ggX9_reliability_X9_reaches : GoodIn wsX9_reliability wsX9_reaches := goodIn_r _ [36, 25, 26, 37, 38, 39, 40, 41, 42, 43, 44, 45, 46, 47, 48, 49, 50, 51, 52, 53, 54, 55, 56, 57] (by decide +kernel) (by decide +kernel)
set_option maxRecDepth 20000 in
theorem gX9_reliability_X9_reaches : GoodIn wsX9_reliability (wsV RX9 141 RX9 yX9_reaches wsX9_reaches) := goodIn_app (goodIn_of _ (by decide +kernel)) ggX9_reliability_X9_reaches
theorem dX9_reliability_0 : decode cX9_reliability 0 = .ok (.aload_n 0, 1) := by decide +kernel
theorem dX9_reliability_1 : decode cX9_reliability 1 = .ok (.iconst 0, 1) := by decide +kernel
theorem dX9_reliability_2 : decode cX9_reliability 2 = .ok (.putfield 54, 3) := by decide +kernel
theorem dX9_reliability_5 : decode cX9_reliability 5 = .ok (.aload_n 0, 1) := by decide +kernel
theorem dX9_reliability_6 : decode cX9_reliability 6 = .ok (.iload_n 1, 1) := by decide +kernel
theorem dX9_reliability_7 : decode cX9_reliability 7 = .ok (.invokevirtual 129, 3) := by decide +kernel
theorem dX9_reliability_10 : decode cX9_reliability 10 = .ok (.ifCond .ne 11, 3) := by decide +kernel
theorem dX9_reliability_13 : decode cX9_reliability 13 = .ok (.aload_n 0, 1) := by decide +kernel
theorem dX9_reliability_14 : decode cX9_reliability 14 = .ok (.iload_n 2, 1) := by decide +kernel
theorem dX9_reliability_15 : decode cX9_reliability 15 = .ok (.invokevirtual 129, 3) := by decide +kernel
theorem dX9_reliability_18 : decode cX9_reliability 18 = .ok (.ifCond .eq 5, 3) := by decide +kernel
theorem dX9_reliability_21 : decode cX9_reliability 21 = .ok (.iconst (-1), 1) := by decide +kernel
theorem dX9_reliability_22 : decode cX9_reliability 22 = .ok (.ireturn, 1) := by decide +kernel
theorem dX9_reliability_23 : decode cX9_reliability 23 = .ok (.iload_n 3, 1) := by decide +kernel
theorem dX9_reliability_24 : decode cX9_reliability 24 = .ok (.i2l, 1) := by decide +kernel
theorem dX9_reliability_25 : decode cX9_reliability 25 = .ok (.lconst 0, 1) := by decide +kernel
theorem dX9_reliability_26 : decode cX9_reliability 26 = .ok (.ldc2_w 189, 3) := by decide +kernel
theorem dX9_reliability_29 : decode cX9_reliability 29 = .ok (.invokestatic 57, 3) := by decide +kernel
theorem dX9_reliability_32 : decode cX9_reliability 32 = .ok (.ifCond .ne 6, 3) := by decide +kernel
theorem dX9_reliability_35 : decode cX9_reliability 35 = .ok (.bipush (-2), 2) := by decide +kernel
theorem dX9_reliability_37 : decode cX9_reliability 37 = .ok (.ireturn, 1) := by decide +kernel
theorem dX9_reliability_38 : decode cX9_reliability 38 = .ok (.aload_n 0, 1) := by decide +kernel
theorem dX9_reliability_39 : decode cX9_reliability 39 = .ok (.getfield 20, 3) := by decide +kernel
theorem dX9_reliability_42 : decode cX9_reliability 42 = .ok (.iconst 0, 1) := by decide +kernel
theorem dX9_reliability_43 : decode cX9_reliability 43 = .ok (.iaload, 1) := by decide +kernel
theorem dX9_reliability_44 : decode cX9_reliability 44 = .ok (.istore 4, 2) := by decide +kernel
theorem dX9_reliability_46 : decode cX9_reliability 46 = .ok (.iload 4, 2) := by decide +kernel
theorem dX9_reliability_48 : decode cX9_reliability 48 = .ok (.bipush 8, 2) := by decide +kernel
theorem dX9_reliability_50 : decode cX9_reliability 50 = .ok (.if_icmp .le 6, 3) := by decide +kernel
theorem dX9_reliability_53 : decode cX9_reliability 53 = .ok (.bipush (-3), 2) := by decide +kernel
theorem dX9_reliability_55 : decode cX9_reliability 55 = .ok (.ireturn, 1) := by decide +kernel
theorem dX9_reliability_56 : decode cX9_reliability 56 = .ok (.iconst 0, 1) := by decide +kernel
theorem dX9_reliability_57 : decode cX9_reliability 57 = .ok (.istore 5, 2) := by decide +kernel
theorem dX9_reliability_59 : decode cX9_reliability 59 = .ok (.iconst 0, 1) := by decide +kernel
theorem dX9_reliability_60 : decode cX9_reliability 60 = .ok (.istore 6, 2) := by decide +kernel
theorem dX9_reliability_62 : decode cX9_reliability 62 = .ok (.iload 6, 2) := by decide +kernel
theorem dX9_reliability_64 : decode cX9_reliability 64 = .ok (.iconst 1, 1) := by decide +kernel
theorem dX9_reliability_65 : decode cX9_reliability 65 = .ok (.iload 4, 2) := by decide +kernel
theorem dX9_reliability_67 : decode cX9_reliability 67 = .ok (.ishl, 1) := by decide +kernel
theorem dX9_reliability_68 : decode cX9_reliability 68 = .ok (.if_icmp .ge 81, 3) := by decide +kernel
theorem dX9_reliability_71 : decode cX9_reliability 71 = .ok (.aload_n 0, 1) := by decide +kernel
theorem dX9_reliability_72 : decode cX9_reliability 72 = .ok (.aload_n 0, 1) := by decide +kernel
theorem dX9_reliability_73 : decode cX9_reliability 73 = .ok (.getfield 20, 3) := by decide +kernel
theorem dX9_reliability_76 : decode cX9_reliability 76 = .ok (.iload 6, 2) := by decide +kernel
theorem dX9_reliability_78 : decode cX9_reliability 78 = .ok (.invokevirtual 77, 3) := by decide +kernel
theorem dX9_reliability_81 : decode cX9_reliability 81 = .ok (.iconst 1, 1) := by decide +kernel
theorem dX9_reliability_82 : decode cX9_reliability 82 = .ok (.istore 7, 2) := by decide +kernel
theorem dX9_reliability_84 : decode cX9_reliability 84 = .ok (.iconst 0, 1) := by decide +kernel
theorem dX9_reliability_85 : decode cX9_reliability 85 = .ok (.istore 8, 2) := by decide +kernel
theorem dX9_reliability_87 : decode cX9_reliability 87 = .ok (.iload 8, 2) := by decide +kernel
theorem dX9_reliability_89 : decode cX9_reliability 89 = .ok (.iload 4, 2) := by decide +kernel
theorem dX9_reliability_91 : decode cX9_reliability 91 = .ok (.if_icmp .ge 32, 3) := by decide +kernel
theorem dX9_reliability_94 : decode cX9_reliability 94 = .ok (.iload 7, 2) := by decide +kernel
theorem dX9_reliability_96 : decode cX9_reliability 96 = .ok (.iload 6, 2) := by decide +kernel
theorem dX9_reliability_98 : decode cX9_reliability 98 = .ok (.iload 8, 2) := by decide +kernel
theorem dX9_reliability_100 : decode cX9_reliability 100 = .ok (.invokestatic 69, 3) := by decide +kernel
theorem dX9_reliability_103 : decode cX9_reliability 103 = .ok (.ifCond .eq 10, 3) := by decide +kernel
theorem dX9_reliability_106 : decode cX9_reliability 106 = .ok (.bipush 10, 2) := by decide +kernel
theorem dX9_reliability_108 : decode cX9_reliability 108 = .ok (.iload_n 3, 1) := by decide +kernel
theorem dX9_reliability_109 : decode cX9_reliability 109 = .ok (.isub, 1) := by decide +kernel
theorem dX9_reliability_110 : decode cX9_reliability 110 = .ok (.goto 4, 3) := by decide +kernel
theorem dX9_reliability_113 : decode cX9_reliability 113 = .ok (.iload_n 3, 1) := by decide +kernel
theorem dX9_reliability_114 : decode cX9_reliability 114 = .ok (.imul, 1) := by decide +kernel
theorem dX9_reliability_115 : decode cX9_reliability 115 = .ok (.istore 7, 2) := by decide +kernel
theorem dX9_reliability_117 : decode cX9_reliability 117 = .ok (.iinc 8 1, 3) := by decide +kernel
theorem dX9_reliability_120 : decode cX9_reliability 120 = .ok (.goto (-33), 3) := by decide +kernel
theorem dX9_reliability_123 : decode cX9_reliability 123 = .ok (.iload 5, 2) := by decide +kernel
theorem dX9_reliability_125 : decode cX9_reliability 125 = .ok (.aload_n 0, 1) := by decide +kernel
theorem dX9_reliability_126 : decode cX9_reliability 126 = .ok (.iload_n 1, 1) := by decide +kernel
theorem dX9_reliability_127 : decode cX9_reliability 127 = .ok (.iload_n 2, 1) := by decide +kernel
theorem dX9_reliability_128 : decode cX9_reliability 128 = .ok (.invokevirtual 141, 3) := by decide +kernel
theorem dX9_reliability_131 : decode cX9_reliability 131 = .ok (.ifCond .eq 8, 3) := by decide +kernel
theorem dX9_reliability_134 : decode cX9_reliability 134 = .ok (.iload 7, 2) := by decide +kernel
theorem dX9_reliability_136 : decode cX9_reliability 136 = .ok (.goto 4, 3) := by decide +kernel
theorem dX9_reliability_139 : decode cX9_reliability 139 = .ok (.iconst 0, 1) := by decide +kernel
theorem dX9_reliability_140 : decode cX9_reliability 140 = .ok (.iadd, 1) := by decide +kernel
theorem dX9_reliability_141 : decode cX9_reliability 141 = .ok (.istore 5, 2) := by decide +kernel
theorem dX9_reliability_143 : decode cX9_reliability 143 = .ok (.iinc 6 1, 3) := by decide +kernel
theorem dX9_reliability_146 : decode cX9_reliability 146 = .ok (.goto (-84), 3) := by decide +kernel
theorem dX9_reliability_149 : decode cX9_reliability 149 = .ok (.iload 5, 2) := by decide +kernel
theorem dX9_reliability_151 : decode cX9_reliability 151 = .ok (.ireturn, 1) := by decide +kernel
theorem dX9_setSeed_0 : decode cX9_setSeed 0 = .ok (.aload_n 0, 1) := by decide +kernel
theorem dX9_setSeed_1 : decode cX9_setSeed 1 = .ok (.iconst 0, 1) := by decide +kernel
theorem dX9_setSeed_2 : decode cX9_setSeed 2 = .ok (.putfield 54, 3) := by decide +kernel
theorem dX9_setSeed_5 : decode cX9_setSeed 5 = .ok (.aload_n 0, 1) := by decide +kernel
theorem dX9_setSeed_6 : decode cX9_setSeed 6 = .ok (.getfield 191, 3) := by decide +kernel
theorem dX9_setSeed_9 : decode cX9_setSeed 9 = .ok (.lstore_n 3, 1) := by decide +kernel
theorem dX9_setSeed_10 : decode cX9_setSeed 10 = .ok (.aload_n 0, 1) := by decide +kernel
theorem dX9_setSeed_11 : decode cX9_setSeed 11 = .ok (.lload_n 1, 1) := by decide +kernel
theorem dX9_setSeed_12 : decode cX9_setSeed 12 = .ok (.putfield 191, 3) := by decide +kernel
theorem dX9_setSeed_15 : decode cX9_setSeed 15 = .ok (.lload_n 3, 1) := by decide +kernel
theorem dX9_setSeed_16 : decode cX9_setSeed 16 = .ok (.lreturn, 1) := by decide +kernel
set_option maxRecDepth 20000 in
theorem ggX9_toggle_X9_drop : GoodIn wsX9_toggle wsX9_drop := goodIn_r _ [5] (by decide +kernel) (by decide +kernel)
set_option maxRecDepth 20000 in
theorem gX9_toggle_X9_drop : GoodIn wsX9_toggle (va_wsS RX9 137 yX9_drop wsX9_drop) := goodIn_app (goodIn_of _ (by decide +kernel)) ggX9_toggle_X9_drop
set_option maxRecDepth 20000 in
theorem ggX9_toggle_X9_put : GoodIn wsX9_toggle wsX9_put := goodIn_r _ [8] (by decide +kernel) (by decide +kernel)
set_option maxRecDepth 20000 in
theorem gX9_toggle_X9_put : GoodIn wsX9_toggle (va_wsS RX9 111 yX9_put wsX9_put) := goodIn_app (goodIn_of _ (by decide +kernel)) ggX9_toggle_X9_put
theorem dX9_toggle_0 : decode cX9_toggle 0 = .ok (.iconst 0, 1) := by decide +kernel
theorem dX9_toggle_1 : decode cX9_toggle 1 = .ok (.istore 4, 2) := by decide +kernel
theorem dX9_toggle_3 : decode cX9_toggle 3 = .ok (.iload 4, 2) := by decide +kernel
theorem dX9_toggle_5 : decode cX9_toggle 5 = .ok (.aload_n 0, 1) := by decide +kernel
theorem dX9_toggle_6 : decode cX9_toggle 6 = .ok (.getfield 23, 3) := by decide +kernel
theorem dX9_toggle_9 : decode cX9_toggle 9 = .ok (.iconst 0, 1) := by decide +kernel
theorem dX9_toggle_10 : decode cX9_toggle 10 = .ok (.iaload, 1) := by decide +kernel
theorem dX9_toggle_11 : decode cX9_toggle 11 = .ok (.if_icmp .ge 64, 3) := by decide +kernel
theorem dX9_toggle_14 : decode cX9_toggle 14 = .ok (.iconst 1, 1) := by decide +kernel
theorem dX9_toggle_15 : decode cX9_toggle 15 = .ok (.iconst 3, 1) := by decide +kernel
theorem dX9_toggle_16 : decode cX9_toggle 16 = .ok (.iload 4, 2) := by decide +kernel
theorem dX9_toggle_18 : decode cX9_toggle 18 = .ok (.imul, 1) := by decide +kernel
theorem dX9_toggle_19 : decode cX9_toggle 19 = .ok (.iadd, 1) := by decide +kernel
theorem dX9_toggle_20 : decode cX9_toggle 20 = .ok (.istore 5, 2) := by decide +kernel
theorem dX9_toggle_22 : decode cX9_toggle 22 = .ok (.aload_n 0, 1) := by decide +kernel
theorem dX9_toggle_23 : decode cX9_toggle 23 = .ok (.getfield 23, 3) := by decide +kernel
theorem dX9_toggle_26 : decode cX9_toggle 26 = .ok (.iload 5, 2) := by decide +kernel
theorem dX9_toggle_28 : decode cX9_toggle 28 = .ok (.iaload, 1) := by decide +kernel
theorem dX9_toggle_29 : decode cX9_toggle 29 = .ok (.iload_n 1, 1) := by decide +kernel
theorem dX9_toggle_30 : decode cX9_toggle 30 = .ok (.if_icmp .ne 39, 3) := by decide +kernel
theorem dX9_toggle_33 : decode cX9_toggle 33 = .ok (.aload_n 0, 1) := by decide +kernel
theorem dX9_toggle_34 : decode cX9_toggle 34 = .ok (.getfield 23, 3) := by decide +kernel
theorem dX9_toggle_37 : decode cX9_toggle 37 = .ok (.iload 5, 2) := by decide +kernel
theorem dX9_toggle_39 : decode cX9_toggle 39 = .ok (.iconst 1, 1) := by decide +kernel
theorem dX9_toggle_40 : decode cX9_toggle 40 = .ok (.iadd, 1) := by decide +kernel
theorem dX9_toggle_41 : decode cX9_toggle 41 = .ok (.iaload, 1) := by decide +kernel
theorem dX9_toggle_42 : decode cX9_toggle 42 = .ok (.iload_n 2, 1) := by decide +kernel
theorem dX9_toggle_43 : decode cX9_toggle 43 = .ok (.if_icmp .ne 26, 3) := by decide +kernel
theorem dX9_toggle_46 : decode cX9_toggle 46 = .ok (.aload_n 0, 1) := by decide +kernel
theorem dX9_toggle_47 : decode cX9_toggle 47 = .ok (.getfield 23, 3) := by decide +kernel
theorem dX9_toggle_50 : decode cX9_toggle 50 = .ok (.iload 5, 2) := by decide +kernel
theorem dX9_toggle_52 : decode cX9_toggle 52 = .ok (.iconst 2, 1) := by decide +kernel
theorem dX9_toggle_53 : decode cX9_toggle 53 = .ok (.iadd, 1) := by decide +kernel
theorem dX9_toggle_54 : decode cX9_toggle 54 = .ok (.iaload, 1) := by decide +kernel
theorem dX9_toggle_55 : decode cX9_toggle 55 = .ok (.iload_n 3, 1) := by decide +kernel
theorem dX9_toggle_56 : decode cX9_toggle 56 = .ok (.if_icmp .ne 13, 3) := by decide +kernel
theorem dX9_toggle_59 : decode cX9_toggle 59 = .ok (.aload_n 0, 1) := by decide +kernel
theorem dX9_toggle_60 : decode cX9_toggle 60 = .ok (.getfield 23, 3) := by decide +kernel
theorem dX9_toggle_63 : decode cX9_toggle 63 = .ok (.iload 4, 2) := by decide +kernel
theorem dX9_toggle_65 : decode cX9_toggle 65 = .ok (.invokestatic 137, 3) := by decide +kernel
theorem dX9_toggle_68 : decode cX9_toggle 68 = .ok (.return_, 1) := by decide +kernel
theorem dX9_toggle_69 : decode cX9_toggle 69 = .ok (.iinc 4 1, 3) := by decide +kernel
theorem dX9_toggle_72 : decode cX9_toggle 72 = .ok (.goto (-69), 3) := by decide +kernel
theorem dX9_toggle_75 : decode cX9_toggle 75 = .ok (.aload_n 0, 1) := by decide +kernel
theorem dX9_toggle_76 : decode cX9_toggle 76 = .ok (.getfield 23, 3) := by decide +kernel
theorem dX9_toggle_79 : decode cX9_toggle 79 = .ok (.iconst 0, 1) := by decide +kernel
theorem dX9_toggle_80 : decode cX9_toggle 80 = .ok (.iaload, 1) := by decide +kernel
theorem dX9_toggle_81 : decode cX9_toggle 81 = .ok (.bipush 16, 2) := by decide +kernel
theorem dX9_toggle_83 : decode cX9_toggle 83 = .ok (.if_icmp .ge 13, 3) := by decide +kernel
theorem dX9_toggle_86 : decode cX9_toggle 86 = .ok (.aload_n 0, 1) := by decide +kernel
theorem dX9_toggle_87 : decode cX9_toggle 87 = .ok (.getfield 23, 3) := by decide +kernel
theorem dX9_toggle_90 : decode cX9_toggle 90 = .ok (.iload_n 1, 1) := by decide +kernel
theorem dX9_toggle_91 : decode cX9_toggle 91 = .ok (.iload_n 2, 1) := by decide +kernel
theorem dX9_toggle_92 : decode cX9_toggle 92 = .ok (.iload_n 3, 1) := by decide +kernel
theorem dX9_toggle_93 : decode cX9_toggle 93 = .ok (.invokestatic 111, 3) := by decide +kernel
theorem dX9_toggle_96 : decode cX9_toggle 96 = .ok (.return_, 1) := by decide +kernel
set_option maxRecDepth 20000 in
theorem ggX9_simulate_X9_in : GoodIn wsX9_simulate wsX9_in := goodIn_r _ [13] (by decide +kernel) (by decide +kernel)
set_option maxRecDepth 20000 in
theorem gX9_simulate_X9_in : GoodIn wsX9_simulate (va_wsS RX9 57 yX9_in wsX9_in) := goodIn_app (goodIn_of _ (by decide +kernel)) ggX9_simulate_X9_in
set_option maxRecDepth 20000 in
theorem ggX9_simulate_X9_assign : GoodIn wsX9_simulate wsX9_assign := goodIn_r _ [16] (by decide +kernel) (by decide +kernel)
set_option maxRecDepth 20000 in
theorem gX9_simulate_X9_assign : GoodIn wsX9_simulate (va_wsS RX9 118 yX9_assign wsX9_assign) := goodIn_app (goodIn_of _ (by decide +kernel)) ggX9_simulate_X9_assign
set_option maxRecDepth 20000 in
theorem ggX9_simulate_X9_toggle : GoodIn wsX9_simulate wsX9_toggle := goodIn_r _ [20, 4, 21, 22, 12, 23, 24, 25, 26, 55, 56, 57, 58, 59, 60, 61, 62, 63, 64, 65, 66, 67, 68, 69, 70, 71, 72, 73, 74, 75] (by decide +kernel) (by decide +kernel)
set_option maxRecDepth 20000 in
theorem gX9_simulate_X9_toggle : GoodIn wsX9_simulate (wsV RX9 201 RX9 yX9_toggle wsX9_toggle) := goodIn_app (goodIn_of _ (by decide +kernel)) ggX9_simulate_X9_toggle
set_option maxRecDepth 20000 in
theorem ggX9_simulate_X9_pairsOf : GoodIn wsX9_simulate wsX9_pairsOf := goodIn_r _ [30, 31, 32, 33, 12, 34, 35, 36, 37, 38, 39, 40, 41, 42, 43, 44, 45, 46, 47, 48, 49, 50, 10, 11, 13, 51, 52, 53, 54, 8, 55, 56, 57, 58, 59, 60, 61, 62, 63, 64, 65, 66, 67, 68, 69, 70, 71, 72, 73, 74, 75] (by decide +kernel) (by decide +kernel)
set_option maxRecDepth 20000 in
theorem gX9_simulate_X9_pairsOf : GoodIn wsX9_simulate (wsV RX9 144 RX9 yX9_pairsOf wsX9_pairsOf) := goodIn_app (goodIn_of _ (by decide +kernel)) ggX9_simulate_X9_pairsOf
theorem dX9_simulate_0 : decode cX9_simulate 0 = .ok (.aload_n 0, 1) := by decide +kernel
theorem dX9_simulate_1 : decode cX9_simulate 1 = .ok (.iconst 0, 1) := by decide +kernel
theorem dX9_simulate_2 : decode cX9_simulate 2 = .ok (.putfield 54, 3) := by decide +kernel
theorem dX9_simulate_5 : decode cX9_simulate 5 = .ok (.iload_n 1, 1) := by decide +kernel
theorem dX9_simulate_6 : decode cX9_simulate 6 = .ok (.i2l, 1) := by decide +kernel
theorem dX9_simulate_7 : decode cX9_simulate 7 = .ok (.lconst 1, 1) := by decide +kernel
theorem dX9_simulate_8 : decode cX9_simulate 8 = .ok (.ldc2_w 195, 3) := by decide +kernel
theorem dX9_simulate_11 : decode cX9_simulate 11 = .ok (.invokestatic 57, 3) := by decide +kernel
theorem dX9_simulate_14 : decode cX9_simulate 14 = .ok (.ifCond .ne 6, 3) := by decide +kernel
theorem dX9_simulate_17 : decode cX9_simulate 17 = .ok (.bipush (-2), 2) := by decide +kernel
theorem dX9_simulate_19 : decode cX9_simulate 19 = .ok (.ireturn, 1) := by decide +kernel
theorem dX9_simulate_20 : decode cX9_simulate 20 = .ok (.aload_n 0, 1) := by decide +kernel
theorem dX9_simulate_21 : decode cX9_simulate 21 = .ok (.getfield 20, 3) := by decide +kernel
theorem dX9_simulate_24 : decode cX9_simulate 24 = .ok (.aload_n 0, 1) := by decide +kernel
theorem dX9_simulate_25 : decode cX9_simulate 25 = .ok (.getfield 23, 3) := by decide +kernel
theorem dX9_simulate_28 : decode cX9_simulate 28 = .ok (.invokestatic 118, 3) := by decide +kernel
theorem dX9_simulate_31 : decode cX9_simulate 31 = .ok (.iconst 0, 1) := by decide +kernel
theorem dX9_simulate_32 : decode cX9_simulate 32 = .ok (.istore_n 2, 1) := by decide +kernel
theorem dX9_simulate_33 : decode cX9_simulate 33 = .ok (.iconst 0, 1) := by decide +kernel
theorem dX9_simulate_34 : decode cX9_simulate 34 = .ok (.istore_n 3, 1) := by decide +kernel
theorem dX9_simulate_35 : decode cX9_simulate 35 = .ok (.iload_n 3, 1) := by decide +kernel
theorem dX9_simulate_36 : decode cX9_simulate 36 = .ok (.iload_n 1, 1) := by decide +kernel
theorem dX9_simulate_37 : decode cX9_simulate 37 = .ok (.if_icmp .ge 77, 3) := by decide +kernel
theorem dX9_simulate_40 : decode cX9_simulate 40 = .ok (.aload_n 0, 1) := by decide +kernel
theorem dX9_simulate_41 : decode cX9_simulate 41 = .ok (.aload_n 0, 1) := by decide +kernel
theorem dX9_simulate_42 : decode cX9_simulate 42 = .ok (.getfield 191, 3) := by decide +kernel
theorem dX9_simulate_45 : decode cX9_simulate 45 = .ok (.ldc2_w 197, 3) := by decide +kernel
theorem dX9_simulate_48 : decode cX9_simulate 48 = .ok (.lmul, 1) := by decide +kernel
theorem dX9_simulate_49 : decode cX9_simulate 49 = .ok (.ldc2_w 199, 3) := by decide +kernel
theorem dX9_simulate_52 : decode cX9_simulate 52 = .ok (.ladd, 1) := by decide +kernel
theorem dX9_simulate_53 : decode cX9_simulate 53 = .ok (.putfield 191, 3) := by decide +kernel
theorem dX9_simulate_56 : decode cX9_simulate 56 = .ok (.aload_n 0, 1) := by decide +kernel
theorem dX9_simulate_57 : decode cX9_simulate 57 = .ok (.getfield 191, 3) := by decide +kernel
theorem dX9_simulate_60 : decode cX9_simulate 60 = .ok (.bipush 33, 2) := by decide +kernel
theorem dX9_simulate_62 : decode cX9_simulate 62 = .ok (.lushr, 1) := by decide +kernel
theorem dX9_simulate_63 : decode cX9_simulate 63 = .ok (.l2i, 1) := by decide +kernel
theorem dX9_simulate_64 : decode cX9_simulate 64 = .ok (.istore 4, 2) := by decide +kernel
theorem dX9_simulate_66 : decode cX9_simulate 66 = .ok (.aload_n 0, 1) := by decide +kernel
theorem dX9_simulate_67 : decode cX9_simulate 67 = .ok (.iload 4, 2) := by decide +kernel
theorem dX9_simulate_69 : decode cX9_simulate 69 = .ok (.aload_n 0, 1) := by decide +kernel
theorem dX9_simulate_70 : decode cX9_simulate 70 = .ok (.getfield 16, 3) := by decide +kernel
theorem dX9_simulate_73 : decode cX9_simulate 73 = .ok (.irem, 1) := by decide +kernel
theorem dX9_simulate_74 : decode cX9_simulate 74 = .ok (.iload 4, 2) := by decide +kernel
theorem dX9_simulate_76 : decode cX9_simulate 76 = .ok (.bipush 8, 2) := by decide +kernel
theorem dX9_simulate_78 : decode cX9_simulate 78 = .ok (.idiv, 1) := by decide +kernel
theorem dX9_simulate_79 : decode cX9_simulate 79 = .ok (.aload_n 0, 1) := by decide +kernel
theorem dX9_simulate_80 : decode cX9_simulate 80 = .ok (.getfield 16, 3) := by decide +kernel
theorem dX9_simulate_83 : decode cX9_simulate 83 = .ok (.irem, 1) := by decide +kernel
theorem dX9_simulate_84 : decode cX9_simulate 84 = .ok (.iload 4, 2) := by decide +kernel
theorem dX9_simulate_86 : decode cX9_simulate 86 = .ok (.bipush 64, 2) := by decide +kernel
theorem dX9_simulate_88 : decode cX9_simulate 88 = .ok (.idiv, 1) := by decide +kernel
theorem dX9_simulate_89 : decode cX9_simulate 89 = .ok (.bipush 7, 2) := by decide +kernel
theorem dX9_simulate_91 : decode cX9_simulate 91 = .ok (.irem, 1) := by decide +kernel
theorem dX9_simulate_92 : decode cX9_simulate 92 = .ok (.invokevirtual 201, 3) := by decide +kernel
theorem dX9_simulate_95 : decode cX9_simulate 95 = .ok (.iload_n 2, 1) := by decide +kernel
theorem dX9_simulate_96 : decode cX9_simulate 96 = .ok (.aload_n 0, 1) := by decide +kernel
theorem dX9_simulate_97 : decode cX9_simulate 97 = .ok (.aload_n 0, 1) := by decide +kernel
theorem dX9_simulate_98 : decode cX9_simulate 98 = .ok (.getfield 23, 3) := by decide +kernel
theorem dX9_simulate_101 : decode cX9_simulate 101 = .ok (.ldc 140, 2) := by decide +kernel
theorem dX9_simulate_103 : decode cX9_simulate 103 = .ok (.invokevirtual 144, 3) := by decide +kernel
theorem dX9_simulate_106 : decode cX9_simulate 106 = .ok (.iadd, 1) := by decide +kernel
theorem dX9_simulate_107 : decode cX9_simulate 107 = .ok (.istore_n 2, 1) := by decide +kernel
theorem dX9_simulate_108 : decode cX9_simulate 108 = .ok (.iinc 3 1, 3) := by decide +kernel
theorem dX9_simulate_111 : decode cX9_simulate 111 = .ok (.goto (-76), 3) := by decide +kernel
theorem dX9_simulate_114 : decode cX9_simulate 114 = .ok (.iload_n 2, 1) := by decide +kernel
theorem dX9_simulate_115 : decode cX9_simulate 115 = .ok (.ireturn, 1) := by decide +kernel
set_option maxRecDepth 20000 in
theorem ggX9_save_X9_in : GoodIn wsX9_save wsX9_in := goodIn_r _ [8] (by decide +kernel) (by decide +kernel)
set_option maxRecDepth 20000 in
theorem gX9_save_X9_in : GoodIn wsX9_save (va_wsS RX9 57 yX9_in wsX9_in) := goodIn_app (goodIn_of _ (by decide +kernel)) ggX9_save_X9_in
theorem dX9_save_0 : decode cX9_save 0 = .ok (.aload_n 0, 1) := by decide +kernel
theorem dX9_save_1 : decode cX9_save 1 = .ok (.iconst 0, 1) := by decide +kernel
theorem dX9_save_2 : decode cX9_save 2 = .ok (.putfield 54, 3) := by decide +kernel
theorem dX9_save_5 : decode cX9_save 5 = .ok (.iload_n 1, 1) := by decide +kernel
theorem dX9_save_6 : decode cX9_save 6 = .ok (.i2l, 1) := by decide +kernel
theorem dX9_save_7 : decode cX9_save 7 = .ok (.lconst 0, 1) := by decide +kernel
theorem dX9_save_8 : decode cX9_save 8 = .ok (.lconst 1, 1) := by decide +kernel
theorem dX9_save_9 : decode cX9_save 9 = .ok (.invokestatic 57, 3) := by decide +kernel
theorem dX9_save_12 : decode cX9_save 12 = .ok (.ifCond .ne 5, 3) := by decide +kernel
theorem dX9_save_15 : decode cX9_save 15 = .ok (.iconst (-1), 1) := by decide +kernel
theorem dX9_save_16 : decode cX9_save 16 = .ok (.ireturn, 1) := by decide +kernel
theorem dX9_save_17 : decode cX9_save 17 = .ok (.aload_n 0, 1) := by decide +kernel
theorem dX9_save_18 : decode cX9_save 18 = .ok (.getfield 32, 3) := by decide +kernel
theorem dX9_save_21 : decode cX9_save 21 = .ok (.iload_n 1, 1) := by decide +kernel
theorem dX9_save_22 : decode cX9_save 22 = .ok (.iconst 1, 1) := by decide +kernel
theorem dX9_save_23 : decode cX9_save 23 = .ok (.bastore, 1) := by decide +kernel
theorem dX9_save_24 : decode cX9_save 24 = .ok (.iconst 0, 1) := by decide +kernel
theorem dX9_save_25 : decode cX9_save 25 = .ok (.istore_n 2, 1) := by decide +kernel
theorem dX9_save_26 : decode cX9_save 26 = .ok (.iload_n 2, 1) := by decide +kernel
theorem dX9_save_27 : decode cX9_save 27 = .ok (.bipush 49, 2) := by decide +kernel
theorem dX9_save_29 : decode cX9_save 29 = .ok (.if_icmp .ge 26, 3) := by decide +kernel
theorem dX9_save_32 : decode cX9_save 32 = .ok (.aload_n 0, 1) := by decide +kernel
theorem dX9_save_33 : decode cX9_save 33 = .ok (.getfield 29, 3) := by decide +kernel
theorem dX9_save_36 : decode cX9_save 36 = .ok (.bipush 49, 2) := by decide +kernel
theorem dX9_save_38 : decode cX9_save 38 = .ok (.iload_n 1, 1) := by decide +kernel
theorem dX9_save_39 : decode cX9_save 39 = .ok (.imul, 1) := by decide +kernel
theorem dX9_save_40 : decode cX9_save 40 = .ok (.iload_n 2, 1) := by decide +kernel
theorem dX9_save_41 : decode cX9_save 41 = .ok (.iadd, 1) := by decide +kernel
theorem dX9_save_42 : decode cX9_save 42 = .ok (.aload_n 0, 1) := by decide +kernel
theorem dX9_save_43 : decode cX9_save 43 = .ok (.getfield 20, 3) := by decide +kernel
theorem dX9_save_46 : decode cX9_save 46 = .ok (.iload_n 2, 1) := by decide +kernel
theorem dX9_save_47 : decode cX9_save 47 = .ok (.iaload, 1) := by decide +kernel
theorem dX9_save_48 : decode cX9_save 48 = .ok (.iastore, 1) := by decide +kernel
theorem dX9_save_49 : decode cX9_save 49 = .ok (.iinc 2 1, 3) := by decide +kernel
theorem dX9_save_52 : decode cX9_save 52 = .ok (.goto (-26), 3) := by decide +kernel
theorem dX9_save_55 : decode cX9_save 55 = .ok (.aload_n 0, 1) := by decide +kernel
theorem dX9_save_56 : decode cX9_save 56 = .ok (.getfield 20, 3) := by decide +kernel
theorem dX9_save_59 : decode cX9_save 59 = .ok (.iconst 0, 1) := by decide +kernel
theorem dX9_save_60 : decode cX9_save 60 = .ok (.iaload, 1) := by decide +kernel
theorem dX9_save_61 : decode cX9_save 61 = .ok (.ireturn, 1) := by decide +kernel
set_option maxRecDepth 20000 in
theorem ggX9_restore_X9_in : GoodIn wsX9_restore wsX9_in := goodIn_r _ [9] (by decide +kernel) (by decide +kernel)
set_option maxRecDepth 20000 in
theorem gX9_restore_X9_in : GoodIn wsX9_restore (va_wsS RX9 57 yX9_in wsX9_in) := goodIn_app (goodIn_of _ (by decide +kernel)) ggX9_restore_X9_in
theorem dX9_restore_0 : decode cX9_restore 0 = .ok (.aload_n 0, 1) := by decide +kernel
theorem dX9_restore_1 : decode cX9_restore 1 = .ok (.iconst 0, 1) := by decide +kernel
theorem dX9_restore_2 : decode cX9_restore 2 = .ok (.putfield 54, 3) := by decide +kernel
theorem dX9_restore_5 : decode cX9_restore 5 = .ok (.iload_n 1, 1) := by decide +kernel
theorem dX9_restore_6 : decode cX9_restore 6 = .ok (.i2l, 1) := by decide +kernel
theorem dX9_restore_7 : decode cX9_restore 7 = .ok (.lconst 0, 1) := by decide +kernel
theorem dX9_restore_8 : decode cX9_restore 8 = .ok (.lconst 1, 1) := by decide +kernel
theorem dX9_restore_9 : decode cX9_restore 9 = .ok (.invokestatic 57, 3) := by decide +kernel
theorem dX9_restore_12 : decode cX9_restore 12 = .ok (.ifCond .ne 5, 3) := by decide +kernel
theorem dX9_restore_15 : decode cX9_restore 15 = .ok (.iconst (-1), 1) := by decide +kernel
theorem dX9_restore_16 : decode cX9_restore 16 = .ok (.ireturn, 1) := by decide +kernel
theorem dX9_restore_17 : decode cX9_restore 17 = .ok (.aload_n 0, 1) := by decide +kernel
theorem dX9_restore_18 : decode cX9_restore 18 = .ok (.getfield 32, 3) := by decide +kernel
theorem dX9_restore_21 : decode cX9_restore 21 = .ok (.iload_n 1, 1) := by decide +kernel
theorem dX9_restore_22 : decode cX9_restore 22 = .ok (.baload, 1) := by decide +kernel
theorem dX9_restore_23 : decode cX9_restore 23 = .ok (.ifCond .ne 6, 3) := by decide +kernel
theorem dX9_restore_26 : decode cX9_restore 26 = .ok (.bipush (-3), 2) := by decide +kernel
theorem dX9_restore_28 : decode cX9_restore 28 = .ok (.ireturn, 1) := by decide +kernel
theorem dX9_restore_29 : decode cX9_restore 29 = .ok (.iconst 0, 1) := by decide +kernel
theorem dX9_restore_30 : decode cX9_restore 30 = .ok (.istore_n 2, 1) := by decide +kernel
theorem dX9_restore_31 : decode cX9_restore 31 = .ok (.iload_n 2, 1) := by decide +kernel
theorem dX9_restore_32 : decode cX9_restore 32 = .ok (.bipush 49, 2) := by decide +kernel
theorem dX9_restore_34 : decode cX9_restore 34 = .ok (.if_icmp .ge 26, 3) := by decide +kernel
theorem dX9_restore_37 : decode cX9_restore 37 = .ok (.aload_n 0, 1) := by decide +kernel
theorem dX9_restore_38 : decode cX9_restore 38 = .ok (.getfield 20, 3) := by decide +kernel
theorem dX9_restore_41 : decode cX9_restore 41 = .ok (.iload_n 2, 1) := by decide +kernel
theorem dX9_restore_42 : decode cX9_restore 42 = .ok (.aload_n 0, 1) := by decide +kernel
theorem dX9_restore_43 : decode cX9_restore 43 = .ok (.getfield 29, 3) := by decide +kernel
theorem dX9_restore_46 : decode cX9_restore 46 = .ok (.bipush 49, 2) := by decide +kernel
theorem dX9_restore_48 : decode cX9_restore 48 = .ok (.iload_n 1, 1) := by decide +kernel
theorem dX9_restore_49 : decode cX9_restore 49 = .ok (.imul, 1) := by decide +kernel
theorem dX9_restore_50 : decode cX9_restore 50 = .ok (.iload_n 2, 1) := by decide +kernel
theorem dX9_restore_51 : decode cX9_restore 51 = .ok (.iadd, 1) := by decide +kernel
theorem dX9_restore_52 : decode cX9_restore 52 = .ok (.iaload, 1) := by decide +kernel
theorem dX9_restore_53 : decode cX9_restore 53 = .ok (.iastore, 1) := by decide +kernel
theorem dX9_restore_54 : decode cX9_restore 54 = .ok (.iinc 2 1, 3) := by decide +kernel
theorem dX9_restore_57 : decode cX9_restore 57 = .ok (.goto (-26), 3) := by decide +kernel
theorem dX9_restore_60 : decode cX9_restore 60 = .ok (.aload_n 0, 1) := by decide +kernel
theorem dX9_restore_61 : decode cX9_restore 61 = .ok (.iconst 0, 1) := by decide +kernel
theorem dX9_restore_62 : decode cX9_restore 62 = .ok (.putfield 122, 3) := by decide +kernel
theorem dX9_restore_65 : decode cX9_restore 65 = .ok (.aload_n 0, 1) := by decide +kernel
theorem dX9_restore_66 : decode cX9_restore 66 = .ok (.getfield 20, 3) := by decide +kernel
theorem dX9_restore_69 : decode cX9_restore 69 = .ok (.iconst 0, 1) := by decide +kernel
theorem dX9_restore_70 : decode cX9_restore 70 = .ok (.iaload, 1) := by decide +kernel
theorem dX9_restore_71 : decode cX9_restore 71 = .ok (.ireturn, 1) := by decide +kernel
theorem dJ6_numberOfTrailingZeros_0f7a4_0 : decode cJ6_numberOfTrailingZeros_0f7a4 0 = .ok (.iload_n 0, 1) := by decide +kernel
theorem dJ6_numberOfTrailingZeros_0f7a4_1 : decode cJ6_numberOfTrailingZeros_0f7a4 1 = .ok (.iconst (-1), 1) := by decide +kernel
theorem dJ6_numberOfTrailingZeros_0f7a4_2 : decode cJ6_numberOfTrailingZeros_0f7a4 2 = .ok (.ixor, 1) := by decide +kernel
theorem dJ6_numberOfTrailingZeros_0f7a4_3 : decode cJ6_numberOfTrailingZeros_0f7a4 3 = .ok (.iload_n 0, 1) := by decide +kernel
theorem dJ6_numberOfTrailingZeros_0f7a4_4 : decode cJ6_numberOfTrailingZeros_0f7a4 4 = .ok (.iconst 1, 1) := by decide +kernel
theorem dJ6_numberOfTrailingZeros_0f7a4_5 : decode cJ6_numberOfTrailingZeros_0f7a4 5 = .ok (.isub, 1) := by decide +kernel
theorem dJ6_numberOfTrailingZeros_0f7a4_6 : decode cJ6_numberOfTrailingZeros_0f7a4 6 = .ok (.iand, 1) := by decide +kernel
theorem dJ6_numberOfTrailingZeros_0f7a4_7 : decode cJ6_numberOfTrailingZeros_0f7a4 7 = .ok (.istore_n 0, 1) := by decide +kernel
theorem dJ6_numberOfTrailingZeros_0f7a4_8 : decode cJ6_numberOfTrailingZeros_0f7a4 8 = .ok (.iload_n 0, 1) := by decide +kernel
theorem dJ6_numberOfTrailingZeros_0f7a4_9 : decode cJ6_numberOfTrailingZeros_0f7a4 9 = .ok (.ifCond .gt 8, 3) := by decide +kernel
theorem dJ6_numberOfTrailingZeros_0f7a4_12 : decode cJ6_numberOfTrailingZeros_0f7a4 12 = .ok (.iload_n 0, 1) := by decide +kernel
theorem dJ6_numberOfTrailingZeros_0f7a4_13 : decode cJ6_numberOfTrailingZeros_0f7a4 13 = .ok (.bipush 32, 2) := by decide +kernel
theorem dJ6_numberOfTrailingZeros_0f7a4_15 : decode cJ6_numberOfTrailingZeros_0f7a4 15 = .ok (.iand, 1) := by decide +kernel
theorem dJ6_numberOfTrailingZeros_0f7a4_16 : decode cJ6_numberOfTrailingZeros_0f7a4 16 = .ok (.ireturn, 1) := by decide +kernel
theorem dJ6_numberOfTrailingZeros_0f7a4_17 : decode cJ6_numberOfTrailingZeros_0f7a4 17 = .ok (.iconst 1, 1) := by decide +kernel
theorem dJ6_numberOfTrailingZeros_0f7a4_18 : decode cJ6_numberOfTrailingZeros_0f7a4 18 = .ok (.istore_n 1, 1) := by decide +kernel
theorem dJ6_numberOfTrailingZeros_0f7a4_19 : decode cJ6_numberOfTrailingZeros_0f7a4 19 = .ok (.iload_n 0, 1) := by decide +kernel
theorem dJ6_numberOfTrailingZeros_0f7a4_20 : decode cJ6_numberOfTrailingZeros_0f7a4 20 = .ok (.ldc_w 264, 3) := by decide +kernel
theorem dJ6_numberOfTrailingZeros_0f7a4_23 : decode cJ6_numberOfTrailingZeros_0f7a4 23 = .ok (.if_icmp .le 11, 3) := by decide +kernel
theorem dJ6_numberOfTrailingZeros_0f7a4_26 : decode cJ6_numberOfTrailingZeros_0f7a4 26 = .ok (.iinc 1 16, 3) := by decide +kernel
theorem dJ6_numberOfTrailingZeros_0f7a4_29 : decode cJ6_numberOfTrailingZeros_0f7a4 29 = .ok (.iload_n 0, 1) := by decide +kernel
theorem dJ6_numberOfTrailingZeros_0f7a4_30 : decode cJ6_numberOfTrailingZeros_0f7a4 30 = .ok (.bipush 16, 2) := by decide +kernel
theorem dJ6_numberOfTrailingZeros_0f7a4_32 : decode cJ6_numberOfTrailingZeros_0f7a4 32 = .ok (.iushr, 1) := by decide +kernel
theorem dJ6_numberOfTrailingZeros_0f7a4_33 : decode cJ6_numberOfTrailingZeros_0f7a4 33 = .ok (.istore_n 0, 1) := by decide +kernel
theorem dJ6_numberOfTrailingZeros_0f7a4_34 : decode cJ6_numberOfTrailingZeros_0f7a4 34 = .ok (.iload_n 0, 1) := by decide +kernel
theorem dJ6_numberOfTrailingZeros_0f7a4_35 : decode cJ6_numberOfTrailingZeros_0f7a4 35 = .ok (.sipush 256, 3) := by decide +kernel
theorem dJ6_numberOfTrailingZeros_0f7a4_38 : decode cJ6_numberOfTrailingZeros_0f7a4 38 = .ok (.if_icmp .le 11, 3) := by decide +kernel
theorem dJ6_numberOfTrailingZeros_0f7a4_41 : decode cJ6_numberOfTrailingZeros_0f7a4 41 = .ok (.iinc 1 8, 3) := by decide +kernel
theorem dJ6_numberOfTrailingZeros_0f7a4_44 : decode cJ6_numberOfTrailingZeros_0f7a4 44 = .ok (.iload_n 0, 1) := by decide +kernel
theorem dJ6_numberOfTrailingZeros_0f7a4_45 : decode cJ6_numberOfTrailingZeros_0f7a4 45 = .ok (.bipush 8, 2) := by decide +kernel
theorem dJ6_numberOfTrailingZeros_0f7a4_47 : decode cJ6_numberOfTrailingZeros_0f7a4 47 = .ok (.iushr, 1) := by decide +kernel
theorem dJ6_numberOfTrailingZeros_0f7a4_48 : decode cJ6_numberOfTrailingZeros_0f7a4 48 = .ok (.istore_n 0, 1) := by decide +kernel
theorem dJ6_numberOfTrailingZeros_0f7a4_49 : decode cJ6_numberOfTrailingZeros_0f7a4 49 = .ok (.iload_n 0, 1) := by decide +kernel
theorem dJ6_numberOfTrailingZeros_0f7a4_50 : decode cJ6_numberOfTrailingZeros_0f7a4 50 = .ok (.bipush 16, 2) := by decide +kernel
theorem dJ6_numberOfTrailingZeros_0f7a4_52 : decode cJ6_numberOfTrailingZeros_0f7a4 52 = .ok (.if_icmp .le 10, 3) := by decide +kernel
theorem dJ6_numberOfTrailingZeros_0f7a4_55 : decode cJ6_numberOfTrailingZeros_0f7a4 55 = .ok (.iinc 1 4, 3) := by decide +kernel
theorem dJ6_numberOfTrailingZeros_0f7a4_58 : decode cJ6_numberOfTrailingZeros_0f7a4 58 = .ok (.iload_n 0, 1) := by decide +kernel
theorem dJ6_numberOfTrailingZeros_0f7a4_59 : decode cJ6_numberOfTrailingZeros_0f7a4 59 = .ok (.iconst 4, 1) := by decide +kernel
theorem dJ6_numberOfTrailingZeros_0f7a4_60 : decode cJ6_numberOfTrailingZeros_0f7a4 60 = .ok (.iushr, 1) := by decide +kernel
theorem dJ6_numberOfTrailingZeros_0f7a4_61 : decode cJ6_numberOfTrailingZeros_0f7a4 61 = .ok (.istore_n 0, 1) := by decide +kernel
theorem dJ6_numberOfTrailingZeros_0f7a4_62 : decode cJ6_numberOfTrailingZeros_0f7a4 62 = .ok (.iload_n 0, 1) := by decide +kernel
theorem dJ6_numberOfTrailingZeros_0f7a4_63 : decode cJ6_numberOfTrailingZeros_0f7a4 63 = .ok (.iconst 4, 1) := by decide +kernel
theorem dJ6_numberOfTrailingZeros_0f7a4_64 : decode cJ6_numberOfTrailingZeros_0f7a4 64 = .ok (.if_icmp .le 10, 3) := by decide +kernel
theorem dJ6_numberOfTrailingZeros_0f7a4_67 : decode cJ6_numberOfTrailingZeros_0f7a4 67 = .ok (.iinc 1 2, 3) := by decide +kernel
theorem dJ6_numberOfTrailingZeros_0f7a4_70 : decode cJ6_numberOfTrailingZeros_0f7a4 70 = .ok (.iload_n 0, 1) := by decide +kernel
theorem dJ6_numberOfTrailingZeros_0f7a4_71 : decode cJ6_numberOfTrailingZeros_0f7a4 71 = .ok (.iconst 2, 1) := by decide +kernel
theorem dJ6_numberOfTrailingZeros_0f7a4_72 : decode cJ6_numberOfTrailingZeros_0f7a4 72 = .ok (.iushr, 1) := by decide +kernel
theorem dJ6_numberOfTrailingZeros_0f7a4_73 : decode cJ6_numberOfTrailingZeros_0f7a4 73 = .ok (.istore_n 0, 1) := by decide +kernel
theorem dJ6_numberOfTrailingZeros_0f7a4_74 : decode cJ6_numberOfTrailingZeros_0f7a4 74 = .ok (.iload_n 1, 1) := by decide +kernel
theorem dJ6_numberOfTrailingZeros_0f7a4_75 : decode cJ6_numberOfTrailingZeros_0f7a4 75 = .ok (.iload_n 0, 1) := by decide +kernel
theorem dJ6_numberOfTrailingZeros_0f7a4_76 : decode cJ6_numberOfTrailingZeros_0f7a4 76 = .ok (.iconst 1, 1) := by decide +kernel
theorem dJ6_numberOfTrailingZeros_0f7a4_77 : decode cJ6_numberOfTrailingZeros_0f7a4 77 = .ok (.iushr, 1) := by decide +kernel
theorem dJ6_numberOfTrailingZeros_0f7a4_78 : decode cJ6_numberOfTrailingZeros_0f7a4 78 = .ok (.iadd, 1) := by decide +kernel
theorem dJ6_numberOfTrailingZeros_0f7a4_79 : decode cJ6_numberOfTrailingZeros_0f7a4 79 = .ok (.ireturn, 1) := by decide +kernel
theorem dJ6_bitCount_0f7a4_0 : decode cJ6_bitCount_0f7a4 0 = .ok (.iload_n 0, 1) := by decide +kernel
theorem dJ6_bitCount_0f7a4_1 : decode cJ6_bitCount_0f7a4 1 = .ok (.iload_n 0, 1) := by decide +kernel
theorem dJ6_bitCount_0f7a4_2 : decode cJ6_bitCount_0f7a4 2 = .ok (.iconst 1, 1) := by decide +kernel
theorem dJ6_bitCount_0f7a4_3 : decode cJ6_bitCount_0f7a4 3 = .ok (.iushr, 1) := by decide +kernel
theorem dJ6_bitCount_0f7a4_4 : decode cJ6_bitCount_0f7a4 4 = .ok (.ldc_w 265, 3) := by decide +kernel
theorem dJ6_bitCount_0f7a4_7 : decode cJ6_bitCount_0f7a4 7 = .ok (.iand, 1) := by decide +kernel
theorem dJ6_bitCount_0f7a4_8 : decode cJ6_bitCount_0f7a4 8 = .ok (.isub, 1) := by decide +kernel
theorem dJ6_bitCount_0f7a4_9 : decode cJ6_bitCount_0f7a4 9 = .ok (.istore_n 0, 1) := by decide +kernel
theorem dJ6_bitCount_0f7a4_10 : decode cJ6_bitCount_0f7a4 10 = .ok (.iload_n 0, 1) := by decide +kernel
theorem dJ6_bitCount_0f7a4_11 : decode cJ6_bitCount_0f7a4 11 = .ok (.ldc_w 266, 3) := by decide +kernel
theorem dJ6_bitCount_0f7a4_14 : decode cJ6_bitCount_0f7a4 14 = .ok (.iand, 1) := by decide +kernel
theorem dJ6_bitCount_0f7a4_15 : decode cJ6_bitCount_0f7a4 15 = .ok (.iload_n 0, 1) := by decide +kernel
theorem dJ6_bitCount_0f7a4_16 : decode cJ6_bitCount_0f7a4 16 = .ok (.iconst 2, 1) := by decide +kernel
theorem dJ6_bitCount_0f7a4_17 : decode cJ6_bitCount_0f7a4 17 = .ok (.iushr, 1) := by decide +kernel
theorem dJ6_bitCount_0f7a4_18 : decode cJ6_bitCount_0f7a4 18 = .ok (.ldc_w 266, 3) := by decide +kernel
theorem dJ6_bitCount_0f7a4_21 : decode cJ6_bitCount_0f7a4 21 = .ok (.iand, 1) := by decide +kernel
theorem dJ6_bitCount_0f7a4_22 : decode cJ6_bitCount_0f7a4 22 = .ok (.iadd, 1) := by decide +kernel
theorem dJ6_bitCount_0f7a4_23 : decode cJ6_bitCount_0f7a4 23 = .ok (.istore_n 0, 1) := by decide +kernel
theorem dJ6_bitCount_0f7a4_24 : decode cJ6_bitCount_0f7a4 24 = .ok (.iload_n 0, 1) := by decide +kernel
theorem dJ6_bitCount_0f7a4_25 : decode cJ6_bitCount_0f7a4 25 = .ok (.iload_n 0, 1) := by decide +kernel
theorem dJ6_bitCount_0f7a4_26 : decode cJ6_bitCount_0f7a4 26 = .ok (.iconst 4, 1) := by decide +kernel
theorem dJ6_bitCount_0f7a4_27 : decode cJ6_bitCount_0f7a4 27 = .ok (.iushr, 1) := by decide +kernel
theorem dJ6_bitCount_0f7a4_28 : decode cJ6_bitCount_0f7a4 28 = .ok (.iadd, 1) := by decide +kernel
theorem dJ6_bitCount_0f7a4_29 : decode cJ6_bitCount_0f7a4 29 = .ok (.ldc_w 267, 3) := by decide +kernel
theorem dJ6_bitCount_0f7a4_32 : decode cJ6_bitCount_0f7a4 32 = .ok (.iand, 1) := by decide +kernel
theorem dJ6_bitCount_0f7a4_33 : decode cJ6_bitCount_0f7a4 33 = .ok (.istore_n 0, 1) := by decide +kernel
theorem dJ6_bitCount_0f7a4_34 : decode cJ6_bitCount_0f7a4 34 = .ok (.iload_n 0, 1) := by decide +kernel
theorem dJ6_bitCount_0f7a4_35 : decode cJ6_bitCount_0f7a4 35 = .ok (.iload_n 0, 1) := by decide +kernel
theorem dJ6_bitCount_0f7a4_36 : decode cJ6_bitCount_0f7a4 36 = .ok (.bipush 8, 2) := by decide +kernel
theorem dJ6_bitCount_0f7a4_38 : decode cJ6_bitCount_0f7a4 38 = .ok (.iushr, 1) := by decide +kernel
theorem dJ6_bitCount_0f7a4_39 : decode cJ6_bitCount_0f7a4 39 = .ok (.iadd, 1) := by decide +kernel
theorem dJ6_bitCount_0f7a4_40 : decode cJ6_bitCount_0f7a4 40 = .ok (.istore_n 0, 1) := by decide +kernel
theorem dJ6_bitCount_0f7a4_41 : decode cJ6_bitCount_0f7a4 41 = .ok (.iload_n 0, 1) := by decide +kernel
theorem dJ6_bitCount_0f7a4_42 : decode cJ6_bitCount_0f7a4 42 = .ok (.iload_n 0, 1) := by decide +kernel
theorem dJ6_bitCount_0f7a4_43 : decode cJ6_bitCount_0f7a4 43 = .ok (.bipush 16, 2) := by decide +kernel
theorem dJ6_bitCount_0f7a4_45 : decode cJ6_bitCount_0f7a4 45 = .ok (.iushr, 1) := by decide +kernel
theorem dJ6_bitCount_0f7a4_46 : decode cJ6_bitCount_0f7a4 46 = .ok (.iadd, 1) := by decide +kernel
theorem dJ6_bitCount_0f7a4_47 : decode cJ6_bitCount_0f7a4 47 = .ok (.istore_n 0, 1) := by decide +kernel
theorem dJ6_bitCount_0f7a4_48 : decode cJ6_bitCount_0f7a4 48 = .ok (.iload_n 0, 1) := by decide +kernel
theorem dJ6_bitCount_0f7a4_49 : decode cJ6_bitCount_0f7a4 49 = .ok (.bipush 63, 2) := by decide +kernel
theorem dJ6_bitCount_0f7a4_51 : decode cJ6_bitCount_0f7a4 51 = .ok (.iand, 1) := by decide +kernel
theorem dJ6_bitCount_0f7a4_52 : decode cJ6_bitCount_0f7a4 52 = .ok (.ireturn, 1) := by decide +kernel
theorem dJ13_bitCount_95d88_0 : decode cJ13_bitCount_95d88 0 = .ok (.lload_n 0, 1) := by decide +kernel
theorem dJ13_bitCount_95d88_1 : decode cJ13_bitCount_95d88 1 = .ok (.lload_n 0, 1) := by decide +kernel
theorem dJ13_bitCount_95d88_2 : decode cJ13_bitCount_95d88 2 = .ok (.iconst 1, 1) := by decide +kernel
theorem dJ13_bitCount_95d88_3 : decode cJ13_bitCount_95d88 3 = .ok (.lushr, 1) := by decide +kernel
theorem dJ13_bitCount_95d88_4 : decode cJ13_bitCount_95d88 4 = .ok (.ldc2_w 314, 3) := by decide +kernel
theorem dJ13_bitCount_95d88_7 : decode cJ13_bitCount_95d88 7 = .ok (.land, 1) := by decide +kernel
theorem dJ13_bitCount_95d88_8 : decode cJ13_bitCount_95d88 8 = .ok (.lsub, 1) := by decide +kernel
theorem dJ13_bitCount_95d88_9 : decode cJ13_bitCount_95d88 9 = .ok (.lstore_n 0, 1) := by decide +kernel
theorem dJ13_bitCount_95d88_10 : decode cJ13_bitCount_95d88 10 = .ok (.lload_n 0, 1) := by decide +kernel
theorem dJ13_bitCount_95d88_11 : decode cJ13_bitCount_95d88 11 = .ok (.ldc2_w 316, 3) := by decide +kernel
theorem dJ13_bitCount_95d88_14 : decode cJ13_bitCount_95d88 14 = .ok (.land, 1) := by decide +kernel
theorem dJ13_bitCount_95d88_15 : decode cJ13_bitCount_95d88 15 = .ok (.lload_n 0, 1) := by decide +kernel
theorem dJ13_bitCount_95d88_16 : decode cJ13_bitCount_95d88 16 = .ok (.iconst 2, 1) := by decide +kernel
theorem dJ13_bitCount_95d88_17 : decode cJ13_bitCount_95d88 17 = .ok (.lushr, 1) := by decide +kernel
theorem dJ13_bitCount_95d88_18 : decode cJ13_bitCount_95d88 18 = .ok (.ldc2_w 316, 3) := by decide +kernel
theorem dJ13_bitCount_95d88_21 : decode cJ13_bitCount_95d88 21 = .ok (.land, 1) := by decide +kernel
theorem dJ13_bitCount_95d88_22 : decode cJ13_bitCount_95d88 22 = .ok (.ladd, 1) := by decide +kernel
theorem dJ13_bitCount_95d88_23 : decode cJ13_bitCount_95d88 23 = .ok (.lstore_n 0, 1) := by decide +kernel
theorem dJ13_bitCount_95d88_24 : decode cJ13_bitCount_95d88 24 = .ok (.lload_n 0, 1) := by decide +kernel
theorem dJ13_bitCount_95d88_25 : decode cJ13_bitCount_95d88 25 = .ok (.lload_n 0, 1) := by decide +kernel
theorem dJ13_bitCount_95d88_26 : decode cJ13_bitCount_95d88 26 = .ok (.iconst 4, 1) := by decide +kernel
theorem dJ13_bitCount_95d88_27 : decode cJ13_bitCount_95d88 27 = .ok (.lushr, 1) := by decide +kernel
theorem dJ13_bitCount_95d88_28 : decode cJ13_bitCount_95d88 28 = .ok (.ladd, 1) := by decide +kernel
theorem dJ13_bitCount_95d88_29 : decode cJ13_bitCount_95d88 29 = .ok (.ldc2_w 318, 3) := by decide +kernel
theorem dJ13_bitCount_95d88_32 : decode cJ13_bitCount_95d88 32 = .ok (.land, 1) := by decide +kernel
theorem dJ13_bitCount_95d88_33 : decode cJ13_bitCount_95d88 33 = .ok (.lstore_n 0, 1) := by decide +kernel
theorem dJ13_bitCount_95d88_34 : decode cJ13_bitCount_95d88 34 = .ok (.lload_n 0, 1) := by decide +kernel
theorem dJ13_bitCount_95d88_35 : decode cJ13_bitCount_95d88 35 = .ok (.lload_n 0, 1) := by decide +kernel
theorem dJ13_bitCount_95d88_36 : decode cJ13_bitCount_95d88 36 = .ok (.bipush 8, 2) := by decide +kernel
theorem dJ13_bitCount_95d88_38 : decode cJ13_bitCount_95d88 38 = .ok (.lushr, 1) := by decide +kernel
theorem dJ13_bitCount_95d88_39 : decode cJ13_bitCount_95d88 39 = .ok (.ladd, 1) := by decide +kernel
theorem dJ13_bitCount_95d88_40 : decode cJ13_bitCount_95d88 40 = .ok (.lstore_n 0, 1) := by decide +kernel
theorem dJ13_bitCount_95d88_41 : decode cJ13_bitCount_95d88 41 = .ok (.lload_n 0, 1) := by decide +kernel
theorem dJ13_bitCount_95d88_42 : decode cJ13_bitCount_95d88 42 = .ok (.lload_n 0, 1) := by decide +kernel
theorem dJ13_bitCount_95d88_43 : decode cJ13_bitCount_95d88 43 = .ok (.bipush 16, 2) := by decide +kernel
theorem dJ13_bitCount_95d88_45 : decode cJ13_bitCount_95d88 45 = .ok (.lushr, 1) := by decide +kernel
theorem dJ13_bitCount_95d88_46 : decode cJ13_bitCount_95d88 46 = .ok (.ladd, 1) := by decide +kernel
theorem dJ13_bitCount_95d88_47 : decode cJ13_bitCount_95d88 47 = .ok (.lstore_n 0, 1) := by decide +kernel
theorem dJ13_bitCount_95d88_48 : decode cJ13_bitCount_95d88 48 = .ok (.lload_n 0, 1) := by decide +kernel
theorem dJ13_bitCount_95d88_49 : decode cJ13_bitCount_95d88 49 = .ok (.lload_n 0, 1) := by decide +kernel
theorem dJ13_bitCount_95d88_50 : decode cJ13_bitCount_95d88 50 = .ok (.bipush 32, 2) := by decide +kernel
theorem dJ13_bitCount_95d88_52 : decode cJ13_bitCount_95d88 52 = .ok (.lushr, 1) := by decide +kernel
theorem dJ13_bitCount_95d88_53 : decode cJ13_bitCount_95d88 53 = .ok (.ladd, 1) := by decide +kernel
theorem dJ13_bitCount_95d88_54 : decode cJ13_bitCount_95d88 54 = .ok (.lstore_n 0, 1) := by decide +kernel
theorem dJ13_bitCount_95d88_55 : decode cJ13_bitCount_95d88 55 = .ok (.lload_n 0, 1) := by decide +kernel
theorem dJ13_bitCount_95d88_56 : decode cJ13_bitCount_95d88 56 = .ok (.l2i, 1) := by decide +kernel
theorem dJ13_bitCount_95d88_57 : decode cJ13_bitCount_95d88 57 = .ok (.bipush 127, 2) := by decide +kernel
theorem dJ13_bitCount_95d88_59 : decode cJ13_bitCount_95d88 59 = .ok (.iand, 1) := by decide +kernel
theorem dJ13_bitCount_95d88_60 : decode cJ13_bitCount_95d88 60 = .ok (.ireturn, 1) := by decide +kernel
theorem dJ9_min_7cf53_0 : decode cJ9_min_7cf53 0 = .ok (.iload_n 0, 1) := by decide +kernel
theorem dJ9_min_7cf53_1 : decode cJ9_min_7cf53 1 = .ok (.iload_n 1, 1) := by decide +kernel
theorem dJ9_min_7cf53_2 : decode cJ9_min_7cf53 2 = .ok (.if_icmp .gt 7, 3) := by decide +kernel
theorem dJ9_min_7cf53_5 : decode cJ9_min_7cf53 5 = .ok (.iload_n 0, 1) := by decide +kernel
theorem dJ9_min_7cf53_6 : decode cJ9_min_7cf53 6 = .ok (.goto 4, 3) := by decide +kernel
theorem dJ9_min_7cf53_9 : decode cJ9_min_7cf53 9 = .ok (.iload_n 1, 1) := by decide +kernel
theorem dJ9_min_7cf53_10 : decode cJ9_min_7cf53 10 = .ok (.ireturn, 1) := by decide +kernel
