set_option maxHeartbeats 4000000 in
set_option maxRecDepth 100000 in
theorem c_X9_close (l : Launch) (G : zG) (m mt mp mg mc mh ms mu of1 ot1 oi1 ml md mw th ts ps V rm on : Nat) (pv : Int32) (sd : Int64) (f wd : Nat → Nat) (n : Nat) (hL : zL2 f) (hw8 : ∀ i, wd i < 8) (hn : n ≤ 32) : MV l yX9_close wsX9_close ({ frames := 1, cells := 0, slots := 0, locals := 25 }) G [.ref m, .int (nI n)] [(m, .inr (6, [.int (nI th), .ref mt, .int (nI ts), .int (nI ps), .int pv, .ref mp, .int (nI V), .ref mg, .ref mc, .ref mh, .int (nI rm), .ref ms, .ref mu, .int (nI on), .ref of1, .ref ot1, .ref oi1, .long sd, .ref ml, .ref md, .ref mw])), zA G ml 64 f, zA G mw 96 wd] [(m, .inr (6, [.int (nI th), .ref mt, .int (nI ts), .int (nI ps), .int pv, .ref mp, .int (nI V), .ref mg, .ref mc, .ref mh, .int (nI rm), .ref ms, .ref mu, .int (nI on), .ref of1, .ref ot1, .ref oi1, .long sd, .ref ml, .ref md, .ref mw])), zA G ml 64 (zClT wd n), zA G mw 96 wd] := by
  refine MV.enter (cc := cX9_close) (maxL := 7) (by decide) rfl (Nat.le_of_ble_eq_true rfl) ?_
  intro pM eM sM mM bM tM cM QM AM ls hat kret
  obtain ⟨SM, hA, hK, hE, hP, hD, hS, hl⟩ := hat
  have hx := SM.1
  have hb := SM.2.1
  have hown : sM.vm.findClass RX9 = some mM.cls := SM.2.2.2.1
  have hts := SM.2.2.2.2
  have hinX9 : ∀ w ∈ u_ws RX9 TX9 21, w ∈ wsX9_close := by decide +kernel
  have hlk45 : (Cond.fieldLink RX9 45 "DyckReachabilityModel" "lengths" "[I").before _ sM = true := hts _ (by decide +kernel)
  have hlk51 : (Cond.fieldLink RX9 51 "DyckReachabilityModel" "wide" "[I").before _ sM = true := hts _ (by decide +kernel)
  have hl : lv_has ls 7 [(0, .ref m), (1, .int (nI n))] := hl
  refine lv_iconst (v := nI 0) hx hb dX9_close_0 (by decide) ?_
  refine lv_istore_n (lv' := [(2, .int (nI 0)), (0, .ref m), (1, .int (nI n))]) hx hb dX9_close_1 rfl hl (by decide) rfl (fun ls hl => ?_)
  have lp2 : ∀ (n9 : Nat), ∀ (i : Nat) (g0 : Nat → Nat), (i ≤ 64) → (g0 = zIt zC1 i f) → (64 - i) < n9 → ∀ (H : Heap) (locs : List Loc) (ls : Array Slot), va_P G.1 vwCl [(m, .inr (6, [.int (nI th), .ref mt, .int (nI ts), .int (nI ps), .int pv, .ref mp, .int (nI V), .ref mg, .ref mc, .ref mh, .int (nI rm), .ref ms, .ref mu, .int (nI on), .ref of1, .ref ot1, .ref oi1, .long sd, .ref ml, .ref md, .ref mw])), zA G ml 64 g0, zA G mw 96 wd] H → va_D AM [(m, .inr (6, [.int (nI th), .ref mt, .int (nI ts), .int (nI ps), .int pv, .ref mp, .int (nI V), .ref mg, .ref mc, .ref mh, .int (nI rm), .ref ms, .ref mu, .int (nI on), .ref of1, .ref ot1, .ref oi1, .long sd, .ref ml, .ref md, .ref mw])), zA G ml 64 g0, zA G mw 96 wd] → va_S AM sM.heap H locs → lv_has ls 7 [(0, .ref m), (1, .int (nI n)), (2, .int (nI i))] → W pM l eM ({ frames := 1, cells := 0, slots := 0, locals := 25 }) sM mM (([.ref m, .int (nI n)] : List Value).toArray) bM tM cM H locs 0 0 QM (F0 mM 2 ls []) := by
    intro n9
    induction n9 with
    | zero =>
      intro _ _ _ _ h9
      exact absurd h9 (Nat.not_lt_zero _)
    | succ n9 ih9 =>
      intro i g0 h1 hq0 hmu2 H locs ls hP hD hS hl
      have ih2 := ih9
      clear ih9
      refine lv_iload_n hx hb dX9_close_2 rfl (lv_at hl 2 rfl) ?_
      refine lv_bipush (v := nI 64) hx hb dX9_close_3 (by decide) ?_
      refine zn_ge (tgt := 37) hx hb dX9_close_5 (by decide) (by omega) (by omega) (fun c_1 => ?_) (fun c_1 => ?_)
      · skip
        obtain ⟨hP, hD⟩ := zcanon hP hD 1 rfl zC0 (fun j h9 => by have hq9 : i = 64 := (by omega); subst hq9; rw [hq0]; exact zC1_at f 64 j h9)
        have hP : va_P G.1 vwCl [(m, .inr (6, [.int (nI th), .ref mt, .int (nI ts), .int (nI ps), .int pv, .ref mp, .int (nI V), .ref mg, .ref mc, .ref mh, .int (nI rm), .ref ms, .ref mu, .int (nI on), .ref of1, .ref ot1, .ref oi1, .long sd, .ref ml, .ref md, .ref mw])), zA G ml 64 zC0, zA G mw 96 wd] H := hP
        have hD : va_D AM [(m, .inr (6, [.int (nI th), .ref mt, .int (nI ts), .int (nI ps), .int pv, .ref mp, .int (nI V), .ref mg, .ref mc, .ref mh, .int (nI rm), .ref ms, .ref mu, .int (nI on), .ref of1, .ref ot1, .ref oi1, .long sd, .ref ml, .ref md, .ref mw])), zA G ml 64 zC0, zA G mw 96 wd] := hD
        refine lv_iconst (v := nI 1) hx hb dX9_close_37 (by decide) ?_
        refine lv_istore_n (lv' := [(2, .int (nI 1)), (0, .ref m), (1, .int (nI n))]) hx hb dX9_close_38 rfl hl (by decide) rfl (fun ls hl => ?_)
        have lp39 : ∀ (n9 : Nat), ∀ (fu : Nat) (g : Nat → Nat) (b : Bool), (zClT wd n = if b = true then zClW wd n fu g else g) → (b = true → zSum g < fu) → (zL2 g) → (if b = true then zSum g + 1 else 0) < n9 → ∀ (H : Heap) (locs : List Loc) (ls : Array Slot), va_P G.1 vwCl [(m, .inr (6, [.int (nI th), .ref mt, .int (nI ts), .int (nI ps), .int pv, .ref mp, .int (nI V), .ref mg, .ref mc, .ref mh, .int (nI rm), .ref ms, .ref mu, .int (nI on), .ref of1, .ref ot1, .ref oi1, .long sd, .ref ml, .ref md, .ref mw])), zA G ml 64 g, zA G mw 96 wd] H → va_D AM [(m, .inr (6, [.int (nI th), .ref mt, .int (nI ts), .int (nI ps), .int pv, .ref mp, .int (nI V), .ref mg, .ref mc, .ref mh, .int (nI rm), .ref ms, .ref mu, .int (nI on), .ref of1, .ref ot1, .ref oi1, .long sd, .ref ml, .ref md, .ref mw])), zA G ml 64 g, zA G mw 96 wd] → va_S AM sM.heap H locs → lv_has ls 7 [(0, .ref m), (1, .int (nI n)), (2, .int (bI (decide (b = true))))] → W pM l eM ({ frames := 1, cells := 0, slots := 0, locals := 25 }) sM mM (([.ref m, .int (nI n)] : List Value).toArray) bM tM cM H locs 0 0 QM (F0 mM 39 ls []) := by
          intro n9
          induction n9 with
          | zero =>
            intro _ _ _ _ _ _ h9
            exact absurd h9 (Nat.not_lt_zero _)
          | succ n9 ih9 =>
            intro fu g b hq1 hfu hg hmu39 H locs ls hP hD hS hl
            have ih39 := ih9
            clear ih9
            refine lv_iload_n hx hb dX9_close_39 rfl (lv_at hl 2 rfl) ?_
            refine zb_eq (tgt := 316) hx hb dX9_close_40 (by decide) (fun c_2 => ?_) (fun c_2 => ?_)
            · skip
              have hbf : ¬ b = true := c_2
              exact kret _ _ _ _ _ (by rw [hq1, if_neg hbf]) hP hD hS dX9_close_316
            · skip
              have hbt : b = true := c_2
              refine lv_iconst (v := nI 0) hx hb dX9_close_43 (by decide) ?_
              refine lv_istore_n (lv' := [(2, .int (nI 0)), (0, .ref m), (1, .int (nI n))]) hx hb dX9_close_44 rfl hl (by decide) rfl (fun ls hl => ?_)
              refine lv_iconst (v := nI 0) hx hb dX9_close_45 (by decide) ?_
              refine lv_istore_n (lv' := [(3, .int (nI 0)), (2, .int (nI 0)), (0, .ref m), (1, .int (nI n))]) hx hb dX9_close_46 rfl hl (by decide) rfl (fun ls hl => ?_)
              have lp47 : ∀ (n9 : Nat), ∀ (e : Nat) (g1 : Nat → Nat) (b1 : Bool), (e ≤ n) → ((g1, b1) = zIt (zPe wd n) e (g, false)) → (zL2 g1) → (n - e) < n9 → ∀ (H : Heap) (locs : List Loc) (ls : Array Slot), va_P G.1 vwCl [(m, .inr (6, [.int (nI th), .ref mt, .int (nI ts), .int (nI ps), .int pv, .ref mp, .int (nI V), .ref mg, .ref mc, .ref mh, .int (nI rm), .ref ms, .ref mu, .int (nI on), .ref of1, .ref ot1, .ref oi1, .long sd, .ref ml, .ref md, .ref mw])), zA G ml 64 g1, zA G mw 96 wd] H → va_D AM [(m, .inr (6, [.int (nI th), .ref mt, .int (nI ts), .int (nI ps), .int pv, .ref mp, .int (nI V), .ref mg, .ref mc, .ref mh, .int (nI rm), .ref ms, .ref mu, .int (nI on), .ref of1, .ref ot1, .ref oi1, .long sd, .ref ml, .ref md, .ref mw])), zA G ml 64 g1, zA G mw 96 wd] → va_S AM sM.heap H locs → lv_has ls 7 [(0, .ref m), (1, .int (nI n)), (2, .int (bI (decide (b1 = true)))), (3, .int (nI e))] → W pM l eM ({ frames := 1, cells := 0, slots := 0, locals := 25 }) sM mM (([.ref m, .int (nI n)] : List Value).toArray) bM tM cM H locs 0 0 QM (F0 mM 47 ls []) := by
                intro n9
                induction n9 with
                | zero =>
                  intro _ _ _ _ _ _ h9
                  exact absurd h9 (Nat.not_lt_zero _)
                | succ n9 ih9 =>
                  intro e g1 b1 h2 hq hg1 hmu47 H locs ls hP hD hS hl
                  have ih47 := ih9
                  clear ih9
                  refine lv_iload_n hx hb dX9_close_47 rfl (lv_at hl 3 rfl) ?_
                  refine lv_iload_n hx hb dX9_close_48 rfl (lv_at hl 1 rfl) ?_
                  refine zn_ge (tgt := 218) hx hb dX9_close_49 (by decide) (by omega) (by omega) (fun c_3 => ?_) (fun c_3 => ?_)
                  · skip
                    refine lv_iconst (v := nI 0) hx hb dX9_close_218 (by decide) ?_
                    refine lv_istore_n (lv' := [(3, .int (nI 0)), (0, .ref m), (1, .int (nI n)), (2, .int (bI (decide (b1 = true))))]) hx hb dX9_close_219 rfl hl (by decide) rfl (fun ls hl => ?_)
                    have lp220 : ∀ (n9 : Nat), ∀ (k : Nat) (g3 : Nat → Nat) (b3 : Bool), (k ≤ 512) → ((g3, b3) = zIt zPk k (zIt (zPe wd n) n (g, false))) → (zL2 g3) → (512 - k) < n9 → ∀ (H : Heap) (locs : List Loc) (ls : Array Slot), va_P G.1 vwCl [(m, .inr (6, [.int (nI th), .ref mt, .int (nI ts), .int (nI ps), .int pv, .ref mp, .int (nI V), .ref mg, .ref mc, .ref mh, .int (nI rm), .ref ms, .ref mu, .int (nI on), .ref of1, .ref ot1, .ref oi1, .long sd, .ref ml, .ref md, .ref mw])), zA G ml 64 g3, zA G mw 96 wd] H → va_D AM [(m, .inr (6, [.int (nI th), .ref mt, .int (nI ts), .int (nI ps), .int pv, .ref mp, .int (nI V), .ref mg, .ref mc, .ref mh, .int (nI rm), .ref ms, .ref mu, .int (nI on), .ref of1, .ref ot1, .ref oi1, .long sd, .ref ml, .ref md, .ref mw])), zA G ml 64 g3, zA G mw 96 wd] → va_S AM sM.heap H locs → lv_has ls 7 [(0, .ref m), (1, .int (nI n)), (2, .int (bI (decide (b3 = true)))), (3, .int (nI k))] → W pM l eM ({ frames := 1, cells := 0, slots := 0, locals := 25 }) sM mM (([.ref m, .int (nI n)] : List Value).toArray) bM tM cM H locs 0 0 QM (F0 mM 220 ls []) := by
                      intro n9
                      induction n9 with
                      | zero =>
                        intro _ _ _ _ _ _ h9
                        exact absurd h9 (Nat.not_lt_zero _)
                      | succ n9 ih9 =>
                        intro k g3 b3 h6 hq3 hg3 hmu220 H locs ls hP hD hS hl
                        have ih220 := ih9
                        clear ih9
                        have hl1 := hg3 (8 * (k / 64) + k / 8 % 8)
                        have hl2 := hg3 (8 * (k / 8 % 8) + k % 8)
                        refine lv_iload_n hx hb dX9_close_220 rfl (lv_at hl 3 rfl) ?_
                        refine lv_sipush (v := nI 512) hx hb dX9_close_221 (by decide) ?_
                        refine zn_ge (tgt := 313) hx hb dX9_close_224 (by decide) (by omega) (by omega) (fun c_4 => ?_) (fun c_4 => ?_)
                        · skip
                          refine lv_goto (tgt := 39) hx hb dX9_close_313 (by decide) ?_
                          have hps : (g3, b3) = zPs wd n g := by have hq9 : k = 512 := (by omega); subst hq9; exact hq3
                          have hff := hfu hbt
                          exact ih39 (fu - 1) g3 b3 (zClT_end2 hq1 hbt hff hps) (zPs_fu hw8 hps hff) hg3 (zPs_mu hw8 hps hbt hmu39) _ _ _ hP hD hS (lv_sub hl [0, 1, 2] rfl)
                        · skip
                          refine lv_aload_n hx hb dX9_close_227 rfl (lv_at hl 0 rfl) ?_
                          refine va_get (D := G.1) (ci := 6) (v := .ref ml) (C := RX9) (T := TX9) (N := 21) hx hb hts hinX9 hown hK hP 0 rfl rfl 18 (by decide) hlk45 (fun _ h9 => h9) rfl dX9_close_228 ?_
                          refine lv_bipush (v := nI 8) hx hb dX9_close_231 (by decide) ?_
                          refine lv_iload_n hx hb dX9_close_233 rfl (lv_at hl 3 rfl) ?_
                          refine lv_bipush (v := nI 64) hx hb dX9_close_234 (by decide) ?_
                          refine zi_div hx hb dX9_close_236 (by omega) (by omega) (by omega) ?_
                          refine zi_mul hx hb dX9_close_237 ?_
                          refine lv_iload_n hx hb dX9_close_238 rfl (lv_at hl 3 rfl) ?_
                          refine lv_bipush (v := nI 8) hx hb dX9_close_239 (by decide) ?_
                          refine zi_div hx hb dX9_close_241 (by omega) (by omega) (by omega) ?_
                          refine lv_bipush (v := nI 8) hx hb dX9_close_242 (by decide) ?_
                          refine zi_rem hx hb dX9_close_244 (by omega) (by omega) (by omega) ?_
                          refine zi_add hx hb dX9_close_245 ?_
                          refine zi_ald hx hb hK hP 1 rfl (by omega) (by omega) dX9_close_246 ?_
                          refine lv_istore (lv' := [(4, .int (nI (g3 ((8 * (k / 64)) + ((k / 8) % 8))))), (0, .ref m), (1, .int (nI n)), (2, .int (bI (decide (b3 = true)))), (3, .int (nI k))]) hx hb dX9_close_247 hl (by decide) rfl (fun ls hl => ?_)
                          refine lv_aload_n hx hb dX9_close_249 rfl (lv_at hl 1 rfl) ?_
                          refine va_get (D := G.1) (ci := 6) (v := .ref ml) (C := RX9) (T := TX9) (N := 21) hx hb hts hinX9 hown hK hP 0 rfl rfl 18 (by decide) hlk45 (fun _ h9 => h9) rfl dX9_close_250 ?_
                          refine lv_bipush (v := nI 8) hx hb dX9_close_253 (by decide) ?_
                          refine lv_iload_n hx hb dX9_close_255 rfl (lv_at hl 4 rfl) ?_
                          refine lv_bipush (v := nI 8) hx hb dX9_close_256 (by decide) ?_
                          refine zi_div hx hb dX9_close_258 (by omega) (by omega) (by omega) ?_
                          refine lv_bipush (v := nI 8) hx hb dX9_close_259 (by decide) ?_
                          refine zi_rem hx hb dX9_close_261 (by omega) (by omega) (by omega) ?_
                          refine zi_mul hx hb dX9_close_262 ?_
                          refine lv_iload_n hx hb dX9_close_263 rfl (lv_at hl 4 rfl) ?_
                          refine lv_bipush (v := nI 8) hx hb dX9_close_264 (by decide) ?_
                          refine zi_rem hx hb dX9_close_266 (by omega) (by omega) (by omega) ?_
                          refine zi_add hx hb dX9_close_267 ?_
                          refine zi_ald hx hb hK hP 1 rfl (by omega) (by omega) dX9_close_268 ?_
                          refine lv_istore (lv' := [(5, .int (nI (g3 ((8 * ((k / 8) % 8)) + (k % 8))))), (4, .int (nI (g3 ((8 * (k / 64)) + ((k / 8) % 8))))), (0, .ref m), (1, .int (nI n)), (2, .int (bI (decide (b3 = true)))), (3, .int (nI k))]) hx hb dX9_close_269 hl (by decide) rfl (fun ls hl => ?_)
                          refine lv_iload hx hb dX9_close_271 (lv_at hl 1 rfl) ?_
                          refine lv_ldc (v := nI 2000000) hx hb hown (hts (.constant RX9 62 (2000000)) (by decide +kernel)) dX9_close_273 ?_
                          refine zn_ge (tgt := 307) hx hb dX9_close_275 (by decide) (by omega) (by omega) (fun c_5 => ?_) (fun c_5 => ?_)
                          · skip
                            refine lv_iinc (v := nI (k + 1)) (lv' := [(3, .int (nI (k + 1))), (5, .int (nI (g3 ((8 * ((k / 8) % 8)) + (k % 8))))), (4, .int (nI (g3 ((8 * (k / 64)) + ((k / 8) % 8))))), (0, .ref m), (1, .int (nI n)), (2, .int (bI (decide (b3 = true))))]) hx hb dX9_close_307 hl (k := 5) rfl (zinc k 1) (by decide) rfl (fun ls hl => ?_)
                            refine lv_goto (tgt := 220) hx hb dX9_close_310 (by decide) ?_
                            exact ih220 (k + 1) g3 b3 (by omega) (by rw [zIt_s, ← hq3]; unfold zPk; first | (rw [if_pos (by dsimp only; omega)]; unfold zIm; dsimp only; first | rw [decide_eq_true (by omega), Bool.or_true] | rw [decide_eq_false (by omega), Bool.or_false]) | rw [if_neg (by dsimp only; omega)]) (by first | exact hg3 | exact zImT_2 hg3) (by omega) _ _ _ hP hD hS (lv_sub hl [3, 4, 5, 0] rfl)
                          · skip
                            refine lv_iload hx hb dX9_close_278 (lv_at hl 0 rfl) ?_
                            refine lv_ldc (v := nI 2000000) hx hb hown (hts (.constant RX9 62 (2000000)) (by decide +kernel)) dX9_close_280 ?_
                            refine zn_ge (tgt := 307) hx hb dX9_close_282 (by decide) (by omega) (by omega) (fun c_6 => ?_) (fun c_6 => ?_)
                            · skip
                              refine lv_iinc (v := nI (k + 1)) (lv' := [(3, .int (nI (k + 1))), (5, .int (nI (g3 ((8 * ((k / 8) % 8)) + (k % 8))))), (4, .int (nI (g3 ((8 * (k / 64)) + ((k / 8) % 8))))), (0, .ref m), (1, .int (nI n)), (2, .int (bI (decide (b3 = true))))]) hx hb dX9_close_307 hl (k := 5) rfl (zinc k 1) (by decide) rfl (fun ls hl => ?_)
                              refine lv_goto (tgt := 220) hx hb dX9_close_310 (by decide) ?_
                              exact ih220 (k + 1) g3 b3 (by omega) (by rw [zIt_s, ← hq3]; unfold zPk; first | (rw [if_pos (by dsimp only; omega)]; unfold zIm; dsimp only; first | rw [decide_eq_true (by omega), Bool.or_true] | rw [decide_eq_false (by omega), Bool.or_false]) | rw [if_neg (by dsimp only; omega)]) (by first | exact hg3 | exact zImT_2 hg3) (by omega) _ _ _ hP hD hS (lv_sub hl [3, 4, 5, 0] rfl)
                            · skip
                              refine lv_aload_n hx hb dX9_close_285 rfl (lv_at hl 2 rfl) ?_
                              refine lv_iload_n hx hb dX9_close_286 rfl (lv_at hl 5 rfl) ?_
                              refine lv_bipush (v := nI 64) hx hb dX9_close_287 (by decide) ?_
                              refine zi_div hx hb dX9_close_289 (by omega) (by omega) (by omega) ?_
                              refine lv_iload_n hx hb dX9_close_290 rfl (lv_at hl 5 rfl) ?_
                              refine lv_bipush (v := nI 8) hx hb dX9_close_291 (by decide) ?_
                              refine zi_rem hx hb dX9_close_293 (by omega) (by omega) (by omega) ?_
                              refine lv_iload hx hb dX9_close_294 (lv_at hl 1 rfl) ?_
                              refine lv_iload hx hb dX9_close_296 (lv_at hl 0 rfl) ?_
                              refine zi_add hx hb dX9_close_298 ?_
                              refine zVi (W1 := [(m, .inr (6, [.int (nI th), .ref mt, .int (nI ts), .int (nI ps), .int pv, .ref mp, .int (nI V), .ref mg, .ref mc, .ref mh, .int (nI rm), .ref ms, .ref mu, .int (nI on), .ref of1, .ref ot1, .ref oi1, .long sd, .ref ml, .ref md, .ref mw])), zA G ml 64 g3, zA G mw 96 wd]) (W2 := [(m, .inr (6, [.int (nI th), .ref mt, .int (nI ts), .int (nI ps), .int pv, .ref mp, .int (nI V), .ref mg, .ref mc, .ref mh, .int (nI rm), .ref ms, .ref mu, .int (nI on), .ref of1, .ref ot1, .ref oi1, .long sd, .ref ml, .ref md, .ref mw])), zA G ml 64 (zImT (k / 64) (k % 8) ((g3 ((8 * (k / 64)) + ((k / 8) % 8))) + (g3 ((8 * ((k / 8) % 8)) + (k % 8)))) g3), zA G mw 96 wd]) (wr := [zA G mw 96 wd]) (rest := []) SM (c_X9_improve l G m mt mp mg mc mh ms mu of1 ot1 oi1 ml md mw th ts ps V rm on pv sd g3 (k / 64) (k % 8) ((g3 ((8 * (k / 64)) + ((k / 8) % 8))) + (g3 ((8 * ((k / 8) % 8)) + (k % 8)))) (by first | assumption | omega) (by first | assumption | omega) (by first | assumption | omega) (by first | assumption | omega)) (cwV 3 hts gX9_close_X9_improve rfl rfl rfl (by decide +kernel) ⟨Nat.le_of_ble_eq_true rfl, Nat.le_of_ble_eq_true rfl⟩) hK hE hA hP hD hS hl.1 [0, 1] [2] [1, 2, 0] rfl rfl rfl (by decide) (ci := 6) rfl rfl rfl rfl rfl (Nat.le_of_ble_eq_true rfl) ⟨Nat.zero_le _, Nat.zero_le _⟩ dX9_close_299 (fun H locs hP hD hS => ?_)
                              refine zb_eq (tgt := 307) hx hb dX9_close_302 (by decide) (fun c_7 => ?_) (fun c_7 => ?_)
                              · skip
                                refine lv_iinc (v := nI (k + 1)) (lv' := [(3, .int (nI (k + 1))), (5, .int (nI (g3 ((8 * ((k / 8) % 8)) + (k % 8))))), (4, .int (nI (g3 ((8 * (k / 64)) + ((k / 8) % 8))))), (0, .ref m), (1, .int (nI n)), (2, .int (bI (decide (b3 = true))))]) hx hb dX9_close_307 hl (k := 5) rfl (zinc k 1) (by decide) rfl (fun ls hl => ?_)
                                refine lv_goto (tgt := 220) hx hb dX9_close_310 (by decide) ?_
                                exact ih220 (k + 1) (zImT (k / 64) (k % 8) ((g3 ((8 * (k / 64)) + ((k / 8) % 8))) + (g3 ((8 * ((k / 8) % 8)) + (k % 8)))) g3) b3 (by omega) (by rw [zIt_s, ← hq3]; unfold zPk; first | (rw [if_pos (by dsimp only; omega)]; unfold zIm; dsimp only; first | rw [decide_eq_true (by omega), Bool.or_true] | rw [decide_eq_false (by omega), Bool.or_false]) | rw [if_neg (by dsimp only; omega)]) (by first | exact hg3 | exact zImT_2 hg3) (by omega) _ _ _ hP hD hS (lv_sub hl [3, 4, 5, 0] rfl)
                              · skip
                                refine lv_iconst (v := nI 1) hx hb dX9_close_305 (by decide) ?_
                                refine lv_istore_n (lv' := [(2, .int (nI 1)), (5, .int (nI (g3 ((8 * ((k / 8) % 8)) + (k % 8))))), (4, .int (nI (g3 ((8 * (k / 64)) + ((k / 8) % 8))))), (0, .ref m), (1, .int (nI n)), (3, .int (nI k))]) hx hb dX9_close_306 rfl hl (by decide) rfl (fun ls hl => ?_)
                                refine lv_iinc (v := nI (k + 1)) (lv' := [(3, .int (nI (k + 1))), (2, .int (nI 1)), (5, .int (nI (g3 ((8 * ((k / 8) % 8)) + (k % 8))))), (4, .int (nI (g3 ((8 * (k / 64)) + ((k / 8) % 8))))), (0, .ref m), (1, .int (nI n))]) hx hb dX9_close_307 hl (k := 5) rfl (zinc k 1) (by decide) rfl (fun ls hl => ?_)
                                refine lv_goto (tgt := 220) hx hb dX9_close_310 (by decide) ?_
                                exact ih220 (k + 1) (zImT (k / 64) (k % 8) ((g3 ((8 * (k / 64)) + ((k / 8) % 8))) + (g3 ((8 * ((k / 8) % 8)) + (k % 8)))) g3) true (by omega) (by rw [zIt_s, ← hq3]; unfold zPk; first | (rw [if_pos (by dsimp only; omega)]; unfold zIm; dsimp only; first | rw [decide_eq_true (by omega), Bool.or_true] | rw [decide_eq_false (by omega), Bool.or_false]) | rw [if_neg (by dsimp only; omega)]) (by first | exact hg3 | exact zImT_2 hg3) (by omega) _ _ _ hP hD hS (lv_sub hl [4, 5, 1, 0] rfl)
                    exact lp220 (512 - 0 + 1) 0 g1 b1 (Nat.zero_le _) (by have hq9 : e = n := (by omega); subst hq9; exact hq) hg1 (Nat.lt_succ_self _) _ _ _ hP hD hS (lv_sub hl [1, 2, 3, 0] rfl)
                  · skip
                    refine lv_aload_n hx hb dX9_close_52 rfl (lv_at hl 0 rfl) ?_
                    refine va_get (D := G.1) (ci := 6) (v := .ref mw) (C := RX9) (T := TX9) (N := 21) hx hb hts hinX9 hown hK hP 0 rfl rfl 20 (by decide) hlk51 (fun _ h9 => h9) rfl dX9_close_53 ?_
                    refine lv_iconst (v := nI 3) hx hb dX9_close_56 (by decide) ?_
                    refine lv_iload_n hx hb dX9_close_57 rfl (lv_at hl 3 rfl) ?_
                    refine zi_mul hx hb dX9_close_58 ?_
                    refine lv_iconst (v := nI 2) hx hb dX9_close_59 (by decide) ?_
                    refine zi_addk (n := (3 * e) + 2) hx hb dX9_close_60 (by omega) ?_
                    refine zi_ald hx hb hK hP 2 rfl (by omega) (by omega) dX9_close_61 ?_
                    have hb_8 := hw8 ((3 * e) + 2)
                    refine lv_istore (lv' := [(4, .int (nI (wd ((3 * e) + 2)))), (0, .ref m), (1, .int (nI n)), (2, .int (bI (decide (b1 = true)))), (3, .int (nI e))]) hx hb dX9_close_62 hl (by decide) rfl (fun ls hl => ?_)
                    refine lv_iload hx hb dX9_close_64 (lv_at hl 0 rfl) ?_
                    refine zd_ne (a := (wd ((3 * e) + 2) : Nat)) (tgt := 97) hx hb dX9_close_66 (by decide) (zI (by omega)) (fun c_9 => ?_) (fun c_9 => ?_)
                    · skip
                      refine lv_iconst (v := nI 0) hx hb dX9_close_97 (by decide) ?_
                      refine lv_istore (lv' := [(5, .int (nI 0)), (4, .int (nI (wd ((3 * e) + 2)))), (0, .ref m), (1, .int (nI n)), (2, .int (bI (decide (b1 = true)))), (3, .int (nI e))]) hx hb dX9_close_98 hl (by decide) rfl (fun ls hl => ?_)
                      have lp100 : ∀ (n9 : Nat), ∀ (c : Nat) (g2 : Nat → Nat) (b2 : Bool), (c ≤ n) → ((g2, b2) = zIt (zPeC wd e) c (zPeA wd e (g1, b1))) → (zL2 g2) → (c = 0 ∨ (1 ≤ wd (3 * e + 2) ∧ wd (3 * e + 2) ≤ 3)) → (n - c) < n9 → ∀ (H : Heap) (locs : List Loc) (ls : Array Slot), va_P G.1 vwCl [(m, .inr (6, [.int (nI th), .ref mt, .int (nI ts), .int (nI ps), .int pv, .ref mp, .int (nI V), .ref mg, .ref mc, .ref mh, .int (nI rm), .ref ms, .ref mu, .int (nI on), .ref of1, .ref ot1, .ref oi1, .long sd, .ref ml, .ref md, .ref mw])), zA G ml 64 g2, zA G mw 96 wd] H → va_D AM [(m, .inr (6, [.int (nI th), .ref mt, .int (nI ts), .int (nI ps), .int pv, .ref mp, .int (nI V), .ref mg, .ref mc, .ref mh, .int (nI rm), .ref ms, .ref mu, .int (nI on), .ref of1, .ref ot1, .ref oi1, .long sd, .ref ml, .ref md, .ref mw])), zA G ml 64 g2, zA G mw 96 wd] → va_S AM sM.heap H locs → lv_has ls 7 [(0, .ref m), (1, .int (nI n)), (2, .int (bI (decide (b2 = true)))), (3, .int (nI e)), (4, .int (nI (wd (3 * e + 2)))), (5, .int (nI c))] → W pM l eM ({ frames := 1, cells := 0, slots := 0, locals := 25 }) sM mM (([.ref m, .int (nI n)] : List Value).toArray) bM tM cM H locs 0 0 QM (F0 mM 100 ls []) := by
                        intro n9
                        induction n9 with
                        | zero =>
                          intro _ _ _ _ _ _ _ h9
                          exact absurd h9 (Nat.not_lt_zero _)
                        | succ n9 ih9 =>
                          intro c g2 b2 h3 hq2 hg2 h5 hmu100 H locs ls hP hD hS hl
                          have ih100 := ih9
                          clear ih9
                          refine lv_iload hx hb dX9_close_100 (lv_at hl 5 rfl) ?_
                          refine lv_iload_n hx hb dX9_close_102 rfl (lv_at hl 1 rfl) ?_
                          refine zn_ge (tgt := 212) hx hb dX9_close_103 (by decide) (by omega) (by omega) (fun c_10 => ?_) (fun c_10 => ?_)
                          · skip
                            refine lv_iinc (v := nI (e + 1)) (lv' := [(3, .int (nI (e + 1))), (0, .ref m), (1, .int (nI n)), (2, .int (bI (decide (b2 = true)))), (4, .int (nI (wd (3 * e + 2)))), (5, .int (nI c))]) hx hb dX9_close_212 hl (k := 3) rfl (zinc e 1) (by decide) rfl (fun ls hl => ?_)
                            refine lv_goto (tgt := 47) hx hb dX9_close_215 (by decide) ?_
                            exact ih47 (e + 1) g2 b2 (by omega) (zPe_end hq hq2 h5 (by omega) (by omega)) hg2 (by omega) _ _ _ hP hD hS (lv_sub hl [1, 2, 3, 0] rfl)
                          · skip
                            refine lv_iload hx hb dX9_close_106 (lv_at hl 4 rfl) ?_
                            refine lv_i2l (v := lN (wd (3 * e + 2))) hx hb dX9_close_108 (nI_l (by omega)) ?_
                            refine lv_lconst (v := lN 1) hx hb dX9_close_109 (by decide) ?_
                            refine lv_ldc2 (v := lN 3) hx hb hown (hts (.constantLong RX9 67 (3)) (by decide +kernel)) dX9_close_110 ?_
                            refine zSi (W1 := [(m, .inr (6, [.int (nI th), .ref mt, .int (nI ts), .int (nI ps), .int pv, .ref mp, .int (nI V), .ref mg, .ref mc, .ref mh, .int (nI rm), .ref ms, .ref mu, .int (nI on), .ref of1, .ref ot1, .ref oi1, .long sd, .ref ml, .ref md, .ref mw])), zA G ml 64 g2, zA G mw 96 wd]) (W2 := [(m, .inr (6, [.int (nI th), .ref mt, .int (nI ts), .int (nI ps), .int pv, .ref mp, .int (nI V), .ref mg, .ref mc, .ref mh, .int (nI rm), .ref ms, .ref mu, .int (nI on), .ref of1, .ref ot1, .ref oi1, .long sd, .ref ml, .ref md, .ref mw])), zA G ml 64 g2, zA G mw 96 wd]) (wr := [(m, .inr (6, [.int (nI th), .ref mt, .int (nI ts), .int (nI ps), .int pv, .ref mp, .int (nI V), .ref mg, .ref mc, .ref mh, .int (nI rm), .ref ms, .ref mu, .int (nI on), .ref of1, .ref ot1, .ref oi1, .long sd, .ref ml, .ref md, .ref mw])), zA G ml 64 g2, zA G mw 96 wd]) (rest := []) SM (c_X9_in_N l G (wd (3 * e + 2)) 1 3 (by first | assumption | omega) (by first | assumption | omega) (by first | assumption | omega)) (va_cwS 3 hts gX9_close_X9_in rfl rfl rfl (by decide +kernel) ⟨Nat.le_of_ble_eq_true rfl, Nat.le_of_ble_eq_true rfl⟩) hK hE hA hP hD hS hl.1 [] [0, 1, 2] [0, 1, 2] rfl rfl rfl (by decide) rfl rfl (Nat.le_of_ble_eq_true rfl) ⟨Nat.zero_le _, Nat.zero_le _⟩ dX9_close_113 (fun H locs hP hD hS => ?_)
                            refine zb_eq (tgt := 212) hx hb dX9_close_116 (by decide) (fun c_11 => ?_) (fun c_11 => ?_)
                            · skip
                              refine lv_iinc (v := nI (e + 1)) (lv' := [(3, .int (nI (e + 1))), (0, .ref m), (1, .int (nI n)), (2, .int (bI (decide (b2 = true)))), (4, .int (nI (wd (3 * e + 2)))), (5, .int (nI c))]) hx hb dX9_close_212 hl (k := 3) rfl (zinc e 1) (by decide) rfl (fun ls hl => ?_)
                              refine lv_goto (tgt := 47) hx hb dX9_close_215 (by decide) ?_
                              exact ih47 (e + 1) g2 b2 (by omega) (zPe_end hq hq2 h5 (by omega) (by omega)) hg2 (by omega) _ _ _ hP hD hS (lv_sub hl [1, 2, 3, 0] rfl)
                            · skip
                              refine lv_aload_n hx hb dX9_close_119 rfl (lv_at hl 0 rfl) ?_
                              refine va_get (D := G.1) (ci := 6) (v := .ref ml) (C := RX9) (T := TX9) (N := 21) hx hb hts hinX9 hown hK hP 0 rfl rfl 18 (by decide) hlk45 (fun _ h9 => h9) rfl dX9_close_120 ?_
                              refine lv_bipush (v := nI 8) hx hb dX9_close_123 (by decide) ?_
                              refine lv_aload_n hx hb dX9_close_125 rfl (lv_at hl 0 rfl) ?_
                              refine va_get (D := G.1) (ci := 6) (v := .ref mw) (C := RX9) (T := TX9) (N := 21) hx hb hts hinX9 hown hK hP 0 rfl rfl 20 (by decide) hlk51 (fun _ h9 => h9) rfl dX9_close_126 ?_
                              refine lv_iconst (v := nI 3) hx hb dX9_close_129 (by decide) ?_
                              refine lv_iload_n hx hb dX9_close_130 rfl (lv_at hl 3 rfl) ?_
                              refine zi_mul hx hb dX9_close_131 ?_
                              refine lv_iconst (v := nI 1) hx hb dX9_close_132 (by decide) ?_
                              refine zi_addk (n := (3 * e) + 1) hx hb dX9_close_133 (by omega) ?_
                              refine zi_ald hx hb hK hP 2 rfl (by omega) (by omega) dX9_close_134 ?_
                              have hb_12 := hw8 ((3 * e) + 1)
                              refine zi_mul hx hb dX9_close_135 ?_
                              refine lv_aload_n hx hb dX9_close_136 rfl (lv_at hl 0 rfl) ?_
                              refine va_get (D := G.1) (ci := 6) (v := .ref mw) (C := RX9) (T := TX9) (N := 21) hx hb hts hinX9 hown hK hP 0 rfl rfl 20 (by decide) hlk51 (fun _ h9 => h9) rfl dX9_close_137 ?_
                              refine lv_iconst (v := nI 3) hx hb dX9_close_140 (by decide) ?_
                              refine lv_iload hx hb dX9_close_141 (lv_at hl 5 rfl) ?_
                              refine zi_mul hx hb dX9_close_143 ?_
                              refine zi_ald hx hb hK hP 2 rfl (by omega) (by omega) dX9_close_144 ?_
                              have hb_13 := hw8 (3 * c)
                              refine zi_add hx hb dX9_close_145 ?_
                              refine zi_ald hx hb hK hP 1 rfl (by omega) (by omega) dX9_close_146 ?_
                              have hl0 := hg2 (8 * wd (3 * e + 1) + wd (3 * c))
                              refine lv_istore (lv' := [(6, .int (nI (g2 ((8 * (wd ((3 * e) + 1))) + (wd (3 * c)))))), (0, .ref m), (1, .int (nI n)), (2, .int (bI (decide (b2 = true)))), (3, .int (nI e)), (4, .int (nI (wd (3 * e + 2)))), (5, .int (nI c))]) hx hb dX9_close_147 hl (by decide) rfl (fun ls hl => ?_)
                              refine lv_aload_n hx hb dX9_close_149 rfl (lv_at hl 1 rfl) ?_
                              refine va_get (D := G.1) (ci := 6) (v := .ref mw) (C := RX9) (T := TX9) (N := 21) hx hb hts hinX9 hown hK hP 0 rfl rfl 20 (by decide) hlk51 (fun _ h9 => h9) rfl dX9_close_150 ?_
                              refine lv_iconst (v := nI 3) hx hb dX9_close_153 (by decide) ?_
                              refine lv_iload hx hb dX9_close_154 (lv_at hl 6 rfl) ?_
                              refine zi_mul hx hb dX9_close_156 ?_
                              refine lv_iconst (v := nI 2) hx hb dX9_close_157 (by decide) ?_
                              refine zi_addk (n := (3 * c) + 2) hx hb dX9_close_158 (by omega) ?_
                              refine zi_ald hx hb hK hP 2 rfl (by omega) (by omega) dX9_close_159 ?_
                              have hb_14 := hw8 ((3 * c) + 2)
                              refine lv_iload hx hb dX9_close_160 (lv_at hl 5 rfl) ?_
                              refine lv_iconst (v := nI 3) hx hb dX9_close_162 (by decide) ?_
                              refine zi_addk (n := (wd (3 * e + 2)) + 3) hx hb dX9_close_163 (by omega) ?_
                              refine zn_ne (tgt := 206) hx hb dX9_close_164 (by decide) (by omega) (by omega) (fun c_15 => ?_) (fun c_15 => ?_)
                              · skip
                                refine lv_iinc (v := nI (c + 1)) (lv' := [(5, .int (nI (c + 1))), (6, .int (nI (g2 ((8 * (wd ((3 * e) + 1))) + (wd (3 * c)))))), (0, .ref m), (1, .int (nI n)), (2, .int (bI (decide (b2 = true)))), (3, .int (nI e)), (4, .int (nI (wd (3 * e + 2))))]) hx hb dX9_close_206 hl (k := 6) rfl (zinc c 1) (by decide) rfl (fun ls hl => ?_)
                                refine lv_goto (tgt := 100) hx hb dX9_close_209 (by decide) ?_
                                exact ih100 (c + 1) g2 b2 (by omega) (by rw [zIt_s, ← hq2]; unfold zPeC; first | (exfalso; omega) | (rw [if_pos (by dsimp only; omega)]; unfold zIm; dsimp only; first | rw [decide_eq_true (by omega), Bool.or_true] | rw [decide_eq_false (by omega), Bool.or_false]) | rw [if_neg (by dsimp only; omega)]) (by first | exact hg2 | exact zImT_2 hg2) (Or.inr (by omega)) (by omega) _ _ _ hP hD hS (lv_sub hl [2, 3, 4, 5, 6, 0] rfl)
                              · skip
                                refine lv_iload hx hb dX9_close_167 (lv_at hl 0 rfl) ?_
                                refine lv_ldc (v := nI 2000000) hx hb hown (hts (.constant RX9 62 (2000000)) (by decide +kernel)) dX9_close_169 ?_
                                refine zn_ge (tgt := 206) hx hb dX9_close_171 (by decide) (by omega) (by omega) (fun c_16 => ?_) (fun c_16 => ?_)
                                · skip
                                  refine lv_iinc (v := nI (c + 1)) (lv' := [(5, .int (nI (c + 1))), (6, .int (nI (g2 ((8 * (wd ((3 * e) + 1))) + (wd (3 * c)))))), (0, .ref m), (1, .int (nI n)), (2, .int (bI (decide (b2 = true)))), (3, .int (nI e)), (4, .int (nI (wd (3 * e + 2))))]) hx hb dX9_close_206 hl (k := 6) rfl (zinc c 1) (by decide) rfl (fun ls hl => ?_)
                                  refine lv_goto (tgt := 100) hx hb dX9_close_209 (by decide) ?_
                                  exact ih100 (c + 1) g2 b2 (by omega) (by rw [zIt_s, ← hq2]; unfold zPeC; first | (exfalso; omega) | (rw [if_pos (by dsimp only; omega)]; unfold zIm; dsimp only; first | rw [decide_eq_true (by omega), Bool.or_true] | rw [decide_eq_false (by omega), Bool.or_false]) | rw [if_neg (by dsimp only; omega)]) (by first | exact hg2 | exact zImT_2 hg2) (Or.inr (by omega)) (by omega) _ _ _ hP hD hS (lv_sub hl [2, 3, 4, 5, 6, 0] rfl)
                                · skip
                                  refine lv_aload_n hx hb dX9_close_174 rfl (lv_at hl 1 rfl) ?_
                                  refine lv_aload_n hx hb dX9_close_175 rfl (lv_at hl 1 rfl) ?_
                                  refine va_get (D := G.1) (ci := 6) (v := .ref mw) (C := RX9) (T := TX9) (N := 21) hx hb hts hinX9 hown hK hP 0 rfl rfl 20 (by decide) hlk51 (fun _ h9 => h9) rfl dX9_close_176 ?_
                                  refine lv_iconst (v := nI 3) hx hb dX9_close_179 (by decide) ?_
                                  refine lv_iload_n hx hb dX9_close_180 rfl (lv_at hl 4 rfl) ?_
                                  refine zi_mul hx hb dX9_close_181 ?_
                                  refine zi_ald hx hb hK hP 2 rfl (by omega) (by omega) dX9_close_182 ?_
                                  have hb_17 := hw8 (3 * e)
                                  refine lv_aload_n hx hb dX9_close_183 rfl (lv_at hl 1 rfl) ?_
                                  refine va_get (D := G.1) (ci := 6) (v := .ref mw) (C := RX9) (T := TX9) (N := 21) hx hb hts hinX9 hown hK hP 0 rfl rfl 20 (by decide) hlk51 (fun _ h9 => h9) rfl dX9_close_184 ?_
                                  refine lv_iconst (v := nI 3) hx hb dX9_close_187 (by decide) ?_
                                  refine lv_iload hx hb dX9_close_188 (lv_at hl 6 rfl) ?_
                                  refine zi_mul hx hb dX9_close_190 ?_
                                  refine lv_iconst (v := nI 1) hx hb dX9_close_191 (by decide) ?_
                                  refine zi_addk (n := (3 * c) + 1) hx hb dX9_close_192 (by omega) ?_
                                  refine zi_ald hx hb hK hP 2 rfl (by omega) (by omega) dX9_close_193 ?_
                                  have hb_18 := hw8 ((3 * c) + 1)
                                  refine lv_iload hx hb dX9_close_194 (lv_at hl 0 rfl) ?_
                                  refine lv_iconst (v := nI 2) hx hb dX9_close_196 (by decide) ?_
                                  refine zi_addk (n := (g2 ((8 * (wd ((3 * e) + 1))) + (wd (3 * c)))) + 2) hx hb dX9_close_197 (by omega) ?_
                                  refine zVi (W1 := [(m, .inr (6, [.int (nI th), .ref mt, .int (nI ts), .int (nI ps), .int pv, .ref mp, .int (nI V), .ref mg, .ref mc, .ref mh, .int (nI rm), .ref ms, .ref mu, .int (nI on), .ref of1, .ref ot1, .ref oi1, .long sd, .ref ml, .ref md, .ref mw])), zA G ml 64 g2, zA G mw 96 wd]) (W2 := [(m, .inr (6, [.int (nI th), .ref mt, .int (nI ts), .int (nI ps), .int pv, .ref mp, .int (nI V), .ref mg, .ref mc, .ref mh, .int (nI rm), .ref ms, .ref mu, .int (nI on), .ref of1, .ref ot1, .ref oi1, .long sd, .ref ml, .ref md, .ref mw])), zA G ml 64 (zImT (wd (3 * e)) (wd ((3 * c) + 1)) ((g2 ((8 * (wd ((3 * e) + 1))) + (wd (3 * c)))) + 2) g2), zA G mw 96 wd]) (wr := [zA G mw 96 wd]) (rest := []) SM (c_X9_improve l G m mt mp mg mc mh ms mu of1 ot1 oi1 ml md mw th ts ps V rm on pv sd g2 (wd (3 * e)) (wd ((3 * c) + 1)) ((g2 ((8 * (wd ((3 * e) + 1))) + (wd (3 * c)))) + 2) (by first | assumption | omega) (by first | assumption | omega) (by first | assumption | omega) (by first | assumption | omega)) (cwV 3 hts gX9_close_X9_improve rfl rfl rfl (by decide +kernel) ⟨Nat.le_of_ble_eq_true rfl, Nat.le_of_ble_eq_true rfl⟩) hK hE hA hP hD hS hl.1 [0, 1] [2] [1, 2, 0] rfl rfl rfl (by decide) (ci := 6) rfl rfl rfl rfl rfl (Nat.le_of_ble_eq_true rfl) ⟨Nat.zero_le _, Nat.zero_le _⟩ dX9_close_198 (fun H locs hP hD hS => ?_)
                                  refine zb_eq (tgt := 206) hx hb dX9_close_201 (by decide) (fun c_19 => ?_) (fun c_19 => ?_)
                                  · skip
                                    refine lv_iinc (v := nI (c + 1)) (lv' := [(5, .int (nI (c + 1))), (6, .int (nI (g2 ((8 * (wd ((3 * e) + 1))) + (wd (3 * c)))))), (0, .ref m), (1, .int (nI n)), (2, .int (bI (decide (b2 = true)))), (3, .int (nI e)), (4, .int (nI (wd (3 * e + 2))))]) hx hb dX9_close_206 hl (k := 6) rfl (zinc c 1) (by decide) rfl (fun ls hl => ?_)
                                    refine lv_goto (tgt := 100) hx hb dX9_close_209 (by decide) ?_
                                    exact ih100 (c + 1) (zImT (wd (3 * e)) (wd ((3 * c) + 1)) ((g2 ((8 * (wd ((3 * e) + 1))) + (wd (3 * c)))) + 2) g2) b2 (by omega) (by rw [zIt_s, ← hq2]; unfold zPeC; first | (exfalso; omega) | (rw [if_pos (by dsimp only; omega)]; unfold zIm; dsimp only; first | rw [decide_eq_true (by omega), Bool.or_true] | rw [decide_eq_false (by omega), Bool.or_false]) | rw [if_neg (by dsimp only; omega)]) (by first | exact hg2 | exact zImT_2 hg2) (Or.inr (by omega)) (by omega) _ _ _ hP hD hS (lv_sub hl [2, 3, 4, 5, 6, 0] rfl)
                                  · skip
                                    refine lv_iconst (v := nI 1) hx hb dX9_close_204 (by decide) ?_
                                    refine lv_istore_n (lv' := [(2, .int (nI 1)), (6, .int (nI (g2 ((8 * (wd ((3 * e) + 1))) + (wd (3 * c)))))), (0, .ref m), (1, .int (nI n)), (3, .int (nI e)), (4, .int (nI (wd (3 * e + 2)))), (5, .int (nI c))]) hx hb dX9_close_205 rfl hl (by decide) rfl (fun ls hl => ?_)
                                    refine lv_iinc (v := nI (c + 1)) (lv' := [(5, .int (nI (c + 1))), (2, .int (nI 1)), (6, .int (nI (g2 ((8 * (wd ((3 * e) + 1))) + (wd (3 * c)))))), (0, .ref m), (1, .int (nI n)), (3, .int (nI e)), (4, .int (nI (wd (3 * e + 2))))]) hx hb dX9_close_206 hl (k := 6) rfl (zinc c 1) (by decide) rfl (fun ls hl => ?_)
                                    refine lv_goto (tgt := 100) hx hb dX9_close_209 (by decide) ?_
                                    exact ih100 (c + 1) (zImT (wd (3 * e)) (wd ((3 * c) + 1)) ((g2 ((8 * (wd ((3 * e) + 1))) + (wd (3 * c)))) + 2) g2) true (by omega) (by rw [zIt_s, ← hq2]; unfold zPeC; first | (exfalso; omega) | (rw [if_pos (by dsimp only; omega)]; unfold zIm; dsimp only; first | rw [decide_eq_true (by omega), Bool.or_true] | rw [decide_eq_false (by omega), Bool.or_false]) | rw [if_neg (by dsimp only; omega)]) (by first | exact hg2 | exact zImT_2 hg2) (Or.inr (by omega)) (by omega) _ _ _ hP hD hS (lv_sub hl [3, 4, 1, 5, 6, 0] rfl)
                      exact lp100 (n - 0 + 1) 0 g1 b1 (Nat.zero_le _) (by rw [zIt_0]; unfold zPeA; first | (rw [if_pos (by omega)]; unfold zIm; dsimp only; first | rw [decide_eq_true (by omega), Bool.or_true] | rw [decide_eq_false (by omega), Bool.or_false]) | rw [if_neg (by omega)]) (by first | exact hg1 | exact zImT_2 hg1) (Or.inl rfl) (Nat.lt_succ_self _) _ _ _ hP hD hS (lv_sub hl [2, 3, 4, 5, 1, 0] rfl)
                    · skip
                      refine lv_aload_n hx hb dX9_close_69 rfl (lv_at hl 1 rfl) ?_
                      refine lv_aload_n hx hb dX9_close_70 rfl (lv_at hl 1 rfl) ?_
                      refine va_get (D := G.1) (ci := 6) (v := .ref mw) (C := RX9) (T := TX9) (N := 21) hx hb hts hinX9 hown hK hP 0 rfl rfl 20 (by decide) hlk51 (fun _ h9 => h9) rfl dX9_close_71 ?_
                      refine lv_iconst (v := nI 3) hx hb dX9_close_74 (by decide) ?_
                      refine lv_iload_n hx hb dX9_close_75 rfl (lv_at hl 4 rfl) ?_
                      refine zi_mul hx hb dX9_close_76 ?_
                      refine zi_ald hx hb hK hP 2 rfl (by omega) (by omega) dX9_close_77 ?_
                      have hb_20 := hw8 (3 * e)
                      refine lv_aload_n hx hb dX9_close_78 rfl (lv_at hl 1 rfl) ?_
                      refine va_get (D := G.1) (ci := 6) (v := .ref mw) (C := RX9) (T := TX9) (N := 21) hx hb hts hinX9 hown hK hP 0 rfl rfl 20 (by decide) hlk51 (fun _ h9 => h9) rfl dX9_close_79 ?_
                      refine lv_iconst (v := nI 3) hx hb dX9_close_82 (by decide) ?_
                      refine lv_iload_n hx hb dX9_close_83 rfl (lv_at hl 4 rfl) ?_
                      refine zi_mul hx hb dX9_close_84 ?_
                      refine lv_iconst (v := nI 1) hx hb dX9_close_85 (by decide) ?_
                      refine zi_addk (n := (3 * e) + 1) hx hb dX9_close_86 (by omega) ?_
                      refine zi_ald hx hb hK hP 2 rfl (by omega) (by omega) dX9_close_87 ?_
                      have hb_21 := hw8 ((3 * e) + 1)
                      refine lv_iconst (v := nI 1) hx hb dX9_close_88 (by decide) ?_
                      refine zVi (W1 := [(m, .inr (6, [.int (nI th), .ref mt, .int (nI ts), .int (nI ps), .int pv, .ref mp, .int (nI V), .ref mg, .ref mc, .ref mh, .int (nI rm), .ref ms, .ref mu, .int (nI on), .ref of1, .ref ot1, .ref oi1, .long sd, .ref ml, .ref md, .ref mw])), zA G ml 64 g1, zA G mw 96 wd]) (W2 := [(m, .inr (6, [.int (nI th), .ref mt, .int (nI ts), .int (nI ps), .int pv, .ref mp, .int (nI V), .ref mg, .ref mc, .ref mh, .int (nI rm), .ref ms, .ref mu, .int (nI on), .ref of1, .ref ot1, .ref oi1, .long sd, .ref ml, .ref md, .ref mw])), zA G ml 64 (zImT (wd (3 * e)) (wd ((3 * e) + 1)) 1 g1), zA G mw 96 wd]) (wr := [zA G mw 96 wd]) (rest := []) SM (c_X9_improve l G m mt mp mg mc mh ms mu of1 ot1 oi1 ml md mw th ts ps V rm on pv sd g1 (wd (3 * e)) (wd ((3 * e) + 1)) 1 (by first | assumption | omega) (by first | assumption | omega) (by first | assumption | omega) (by first | assumption | omega)) (cwV 3 hts gX9_close_X9_improve rfl rfl rfl (by decide +kernel) ⟨Nat.le_of_ble_eq_true rfl, Nat.le_of_ble_eq_true rfl⟩) hK hE hA hP hD hS hl.1 [0, 1] [2] [1, 2, 0] rfl rfl rfl (by decide) (ci := 6) rfl rfl rfl rfl rfl (Nat.le_of_ble_eq_true rfl) ⟨Nat.zero_le _, Nat.zero_le _⟩ dX9_close_89 (fun H locs hP hD hS => ?_)
                      refine zb_eq (tgt := 97) hx hb dX9_close_92 (by decide) (fun c_22 => ?_) (fun c_22 => ?_)
                      · skip
                        refine lv_iconst (v := nI 0) hx hb dX9_close_97 (by decide) ?_
                        refine lv_istore (lv' := [(5, .int (nI 0)), (4, .int (nI (wd ((3 * e) + 2)))), (0, .ref m), (1, .int (nI n)), (2, .int (bI (decide (b1 = true)))), (3, .int (nI e))]) hx hb dX9_close_98 hl (by decide) rfl (fun ls hl => ?_)
                        have lp100 : ∀ (n9 : Nat), ∀ (c : Nat) (g2 : Nat → Nat) (b2 : Bool), (c ≤ n) → ((g2, b2) = zIt (zPeC wd e) c (zPeA wd e (g1, b1))) → (zL2 g2) → (c = 0 ∨ (1 ≤ wd (3 * e + 2) ∧ wd (3 * e + 2) ≤ 3)) → (n - c) < n9 → ∀ (H : Heap) (locs : List Loc) (ls : Array Slot), va_P G.1 vwCl [(m, .inr (6, [.int (nI th), .ref mt, .int (nI ts), .int (nI ps), .int pv, .ref mp, .int (nI V), .ref mg, .ref mc, .ref mh, .int (nI rm), .ref ms, .ref mu, .int (nI on), .ref of1, .ref ot1, .ref oi1, .long sd, .ref ml, .ref md, .ref mw])), zA G ml 64 g2, zA G mw 96 wd] H → va_D AM [(m, .inr (6, [.int (nI th), .ref mt, .int (nI ts), .int (nI ps), .int pv, .ref mp, .int (nI V), .ref mg, .ref mc, .ref mh, .int (nI rm), .ref ms, .ref mu, .int (nI on), .ref of1, .ref ot1, .ref oi1, .long sd, .ref ml, .ref md, .ref mw])), zA G ml 64 g2, zA G mw 96 wd] → va_S AM sM.heap H locs → lv_has ls 7 [(0, .ref m), (1, .int (nI n)), (2, .int (bI (decide (b2 = true)))), (3, .int (nI e)), (4, .int (nI (wd (3 * e + 2)))), (5, .int (nI c))] → W pM l eM ({ frames := 1, cells := 0, slots := 0, locals := 25 }) sM mM (([.ref m, .int (nI n)] : List Value).toArray) bM tM cM H locs 0 0 QM (F0 mM 100 ls []) := by
                          intro n9
                          induction n9 with
                          | zero =>
                            intro _ _ _ _ _ _ _ h9
                            exact absurd h9 (Nat.not_lt_zero _)
                          | succ n9 ih9 =>
                            intro c g2 b2 h3 hq2 hg2 h5 hmu100 H locs ls hP hD hS hl
                            have ih100 := ih9
                            clear ih9
                            refine lv_iload hx hb dX9_close_100 (lv_at hl 5 rfl) ?_
                            refine lv_iload_n hx hb dX9_close_102 rfl (lv_at hl 1 rfl) ?_
                            refine zn_ge (tgt := 212) hx hb dX9_close_103 (by decide) (by omega) (by omega) (fun c_23 => ?_) (fun c_23 => ?_)
                            · skip
                              refine lv_iinc (v := nI (e + 1)) (lv' := [(3, .int (nI (e + 1))), (0, .ref m), (1, .int (nI n)), (2, .int (bI (decide (b2 = true)))), (4, .int (nI (wd (3 * e + 2)))), (5, .int (nI c))]) hx hb dX9_close_212 hl (k := 3) rfl (zinc e 1) (by decide) rfl (fun ls hl => ?_)
                              refine lv_goto (tgt := 47) hx hb dX9_close_215 (by decide) ?_
                              exact ih47 (e + 1) g2 b2 (by omega) (zPe_end hq hq2 h5 (by omega) (by omega)) hg2 (by omega) _ _ _ hP hD hS (lv_sub hl [1, 2, 3, 0] rfl)
                            · skip
                              refine lv_iload hx hb dX9_close_106 (lv_at hl 4 rfl) ?_
                              refine lv_i2l (v := lN (wd (3 * e + 2))) hx hb dX9_close_108 (nI_l (by omega)) ?_
                              refine lv_lconst (v := lN 1) hx hb dX9_close_109 (by decide) ?_
                              refine lv_ldc2 (v := lN 3) hx hb hown (hts (.constantLong RX9 67 (3)) (by decide +kernel)) dX9_close_110 ?_
                              refine zSi (W1 := [(m, .inr (6, [.int (nI th), .ref mt, .int (nI ts), .int (nI ps), .int pv, .ref mp, .int (nI V), .ref mg, .ref mc, .ref mh, .int (nI rm), .ref ms, .ref mu, .int (nI on), .ref of1, .ref ot1, .ref oi1, .long sd, .ref ml, .ref md, .ref mw])), zA G ml 64 g2, zA G mw 96 wd]) (W2 := [(m, .inr (6, [.int (nI th), .ref mt, .int (nI ts), .int (nI ps), .int pv, .ref mp, .int (nI V), .ref mg, .ref mc, .ref mh, .int (nI rm), .ref ms, .ref mu, .int (nI on), .ref of1, .ref ot1, .ref oi1, .long sd, .ref ml, .ref md, .ref mw])), zA G ml 64 g2, zA G mw 96 wd]) (wr := [(m, .inr (6, [.int (nI th), .ref mt, .int (nI ts), .int (nI ps), .int pv, .ref mp, .int (nI V), .ref mg, .ref mc, .ref mh, .int (nI rm), .ref ms, .ref mu, .int (nI on), .ref of1, .ref ot1, .ref oi1, .long sd, .ref ml, .ref md, .ref mw])), zA G ml 64 g2, zA G mw 96 wd]) (rest := []) SM (c_X9_in_N l G (wd (3 * e + 2)) 1 3 (by first | assumption | omega) (by first | assumption | omega) (by first | assumption | omega)) (va_cwS 3 hts gX9_close_X9_in rfl rfl rfl (by decide +kernel) ⟨Nat.le_of_ble_eq_true rfl, Nat.le_of_ble_eq_true rfl⟩) hK hE hA hP hD hS hl.1 [] [0, 1, 2] [0, 1, 2] rfl rfl rfl (by decide) rfl rfl (Nat.le_of_ble_eq_true rfl) ⟨Nat.zero_le _, Nat.zero_le _⟩ dX9_close_113 (fun H locs hP hD hS => ?_)
                              refine zb_eq (tgt := 212) hx hb dX9_close_116 (by decide) (fun c_24 => ?_) (fun c_24 => ?_)
                              · skip
                                refine lv_iinc (v := nI (e + 1)) (lv' := [(3, .int (nI (e + 1))), (0, .ref m), (1, .int (nI n)), (2, .int (bI (decide (b2 = true)))), (4, .int (nI (wd (3 * e + 2)))), (5, .int (nI c))]) hx hb dX9_close_212 hl (k := 3) rfl (zinc e 1) (by decide) rfl (fun ls hl => ?_)
                                refine lv_goto (tgt := 47) hx hb dX9_close_215 (by decide) ?_
                                exact ih47 (e + 1) g2 b2 (by omega) (zPe_end hq hq2 h5 (by omega) (by omega)) hg2 (by omega) _ _ _ hP hD hS (lv_sub hl [1, 2, 3, 0] rfl)
                              · skip
                                refine lv_aload_n hx hb dX9_close_119 rfl (lv_at hl 0 rfl) ?_
                                refine va_get (D := G.1) (ci := 6) (v := .ref ml) (C := RX9) (T := TX9) (N := 21) hx hb hts hinX9 hown hK hP 0 rfl rfl 18 (by decide) hlk45 (fun _ h9 => h9) rfl dX9_close_120 ?_
                                refine lv_bipush (v := nI 8) hx hb dX9_close_123 (by decide) ?_
                                refine lv_aload_n hx hb dX9_close_125 rfl (lv_at hl 0 rfl) ?_
                                refine va_get (D := G.1) (ci := 6) (v := .ref mw) (C := RX9) (T := TX9) (N := 21) hx hb hts hinX9 hown hK hP 0 rfl rfl 20 (by decide) hlk51 (fun _ h9 => h9) rfl dX9_close_126 ?_
                                refine lv_iconst (v := nI 3) hx hb dX9_close_129 (by decide) ?_
                                refine lv_iload_n hx hb dX9_close_130 rfl (lv_at hl 3 rfl) ?_
                                refine zi_mul hx hb dX9_close_131 ?_
                                refine lv_iconst (v := nI 1) hx hb dX9_close_132 (by decide) ?_
                                refine zi_addk (n := (3 * e) + 1) hx hb dX9_close_133 (by omega) ?_
                                refine zi_ald hx hb hK hP 2 rfl (by omega) (by omega) dX9_close_134 ?_
                                have hb_25 := hw8 ((3 * e) + 1)
                                refine zi_mul hx hb dX9_close_135 ?_
                                refine lv_aload_n hx hb dX9_close_136 rfl (lv_at hl 0 rfl) ?_
                                refine va_get (D := G.1) (ci := 6) (v := .ref mw) (C := RX9) (T := TX9) (N := 21) hx hb hts hinX9 hown hK hP 0 rfl rfl 20 (by decide) hlk51 (fun _ h9 => h9) rfl dX9_close_137 ?_
                                refine lv_iconst (v := nI 3) hx hb dX9_close_140 (by decide) ?_
                                refine lv_iload hx hb dX9_close_141 (lv_at hl 5 rfl) ?_
                                refine zi_mul hx hb dX9_close_143 ?_
                                refine zi_ald hx hb hK hP 2 rfl (by omega) (by omega) dX9_close_144 ?_
                                have hb_26 := hw8 (3 * c)
                                refine zi_add hx hb dX9_close_145 ?_
                                refine zi_ald hx hb hK hP 1 rfl (by omega) (by omega) dX9_close_146 ?_
                                have hl0 := hg2 (8 * wd (3 * e + 1) + wd (3 * c))
                                refine lv_istore (lv' := [(6, .int (nI (g2 ((8 * (wd ((3 * e) + 1))) + (wd (3 * c)))))), (0, .ref m), (1, .int (nI n)), (2, .int (bI (decide (b2 = true)))), (3, .int (nI e)), (4, .int (nI (wd (3 * e + 2)))), (5, .int (nI c))]) hx hb dX9_close_147 hl (by decide) rfl (fun ls hl => ?_)
                                refine lv_aload_n hx hb dX9_close_149 rfl (lv_at hl 1 rfl) ?_
                                refine va_get (D := G.1) (ci := 6) (v := .ref mw) (C := RX9) (T := TX9) (N := 21) hx hb hts hinX9 hown hK hP 0 rfl rfl 20 (by decide) hlk51 (fun _ h9 => h9) rfl dX9_close_150 ?_
                                refine lv_iconst (v := nI 3) hx hb dX9_close_153 (by decide) ?_
                                refine lv_iload hx hb dX9_close_154 (lv_at hl 6 rfl) ?_
                                refine zi_mul hx hb dX9_close_156 ?_
                                refine lv_iconst (v := nI 2) hx hb dX9_close_157 (by decide) ?_
                                refine zi_addk (n := (3 * c) + 2) hx hb dX9_close_158 (by omega) ?_
                                refine zi_ald hx hb hK hP 2 rfl (by omega) (by omega) dX9_close_159 ?_
                                have hb_27 := hw8 ((3 * c) + 2)
                                refine lv_iload hx hb dX9_close_160 (lv_at hl 5 rfl) ?_
                                refine lv_iconst (v := nI 3) hx hb dX9_close_162 (by decide) ?_
                                refine zi_addk (n := (wd (3 * e + 2)) + 3) hx hb dX9_close_163 (by omega) ?_
                                refine zn_ne (tgt := 206) hx hb dX9_close_164 (by decide) (by omega) (by omega) (fun c_28 => ?_) (fun c_28 => ?_)
                                · skip
                                  refine lv_iinc (v := nI (c + 1)) (lv' := [(5, .int (nI (c + 1))), (6, .int (nI (g2 ((8 * (wd ((3 * e) + 1))) + (wd (3 * c)))))), (0, .ref m), (1, .int (nI n)), (2, .int (bI (decide (b2 = true)))), (3, .int (nI e)), (4, .int (nI (wd (3 * e + 2))))]) hx hb dX9_close_206 hl (k := 6) rfl (zinc c 1) (by decide) rfl (fun ls hl => ?_)
                                  refine lv_goto (tgt := 100) hx hb dX9_close_209 (by decide) ?_
                                  exact ih100 (c + 1) g2 b2 (by omega) (by rw [zIt_s, ← hq2]; unfold zPeC; first | (exfalso; omega) | (rw [if_pos (by dsimp only; omega)]; unfold zIm; dsimp only; first | rw [decide_eq_true (by omega), Bool.or_true] | rw [decide_eq_false (by omega), Bool.or_false]) | rw [if_neg (by dsimp only; omega)]) (by first | exact hg2 | exact zImT_2 hg2) (Or.inr (by omega)) (by omega) _ _ _ hP hD hS (lv_sub hl [2, 3, 4, 5, 6, 0] rfl)
                                · skip
                                  refine lv_iload hx hb dX9_close_167 (lv_at hl 0 rfl) ?_
                                  refine lv_ldc (v := nI 2000000) hx hb hown (hts (.constant RX9 62 (2000000)) (by decide +kernel)) dX9_close_169 ?_
                                  refine zn_ge (tgt := 206) hx hb dX9_close_171 (by decide) (by omega) (by omega) (fun c_29 => ?_) (fun c_29 => ?_)
                                  · skip
                                    refine lv_iinc (v := nI (c + 1)) (lv' := [(5, .int (nI (c + 1))), (6, .int (nI (g2 ((8 * (wd ((3 * e) + 1))) + (wd (3 * c)))))), (0, .ref m), (1, .int (nI n)), (2, .int (bI (decide (b2 = true)))), (3, .int (nI e)), (4, .int (nI (wd (3 * e + 2))))]) hx hb dX9_close_206 hl (k := 6) rfl (zinc c 1) (by decide) rfl (fun ls hl => ?_)
                                    refine lv_goto (tgt := 100) hx hb dX9_close_209 (by decide) ?_
                                    exact ih100 (c + 1) g2 b2 (by omega) (by rw [zIt_s, ← hq2]; unfold zPeC; first | (exfalso; omega) | (rw [if_pos (by dsimp only; omega)]; unfold zIm; dsimp only; first | rw [decide_eq_true (by omega), Bool.or_true] | rw [decide_eq_false (by omega), Bool.or_false]) | rw [if_neg (by dsimp only; omega)]) (by first | exact hg2 | exact zImT_2 hg2) (Or.inr (by omega)) (by omega) _ _ _ hP hD hS (lv_sub hl [2, 3, 4, 5, 6, 0] rfl)
                                  · skip
                                    refine lv_aload_n hx hb dX9_close_174 rfl (lv_at hl 1 rfl) ?_
                                    refine lv_aload_n hx hb dX9_close_175 rfl (lv_at hl 1 rfl) ?_
                                    refine va_get (D := G.1) (ci := 6) (v := .ref mw) (C := RX9) (T := TX9) (N := 21) hx hb hts hinX9 hown hK hP 0 rfl rfl 20 (by decide) hlk51 (fun _ h9 => h9) rfl dX9_close_176 ?_
                                    refine lv_iconst (v := nI 3) hx hb dX9_close_179 (by decide) ?_
                                    refine lv_iload_n hx hb dX9_close_180 rfl (lv_at hl 4 rfl) ?_
                                    refine zi_mul hx hb dX9_close_181 ?_
                                    refine zi_ald hx hb hK hP 2 rfl (by omega) (by omega) dX9_close_182 ?_
                                    have hb_30 := hw8 (3 * e)
                                    refine lv_aload_n hx hb dX9_close_183 rfl (lv_at hl 1 rfl) ?_
                                    refine va_get (D := G.1) (ci := 6) (v := .ref mw) (C := RX9) (T := TX9) (N := 21) hx hb hts hinX9 hown hK hP 0 rfl rfl 20 (by decide) hlk51 (fun _ h9 => h9) rfl dX9_close_184 ?_
                                    refine lv_iconst (v := nI 3) hx hb dX9_close_187 (by decide) ?_
                                    refine lv_iload hx hb dX9_close_188 (lv_at hl 6 rfl) ?_
                                    refine zi_mul hx hb dX9_close_190 ?_
                                    refine lv_iconst (v := nI 1) hx hb dX9_close_191 (by decide) ?_
                                    refine zi_addk (n := (3 * c) + 1) hx hb dX9_close_192 (by omega) ?_
                                    refine zi_ald hx hb hK hP 2 rfl (by omega) (by omega) dX9_close_193 ?_
                                    have hb_31 := hw8 ((3 * c) + 1)
                                    refine lv_iload hx hb dX9_close_194 (lv_at hl 0 rfl) ?_
                                    refine lv_iconst (v := nI 2) hx hb dX9_close_196 (by decide) ?_
                                    refine zi_addk (n := (g2 ((8 * (wd ((3 * e) + 1))) + (wd (3 * c)))) + 2) hx hb dX9_close_197 (by omega) ?_
                                    refine zVi (W1 := [(m, .inr (6, [.int (nI th), .ref mt, .int (nI ts), .int (nI ps), .int pv, .ref mp, .int (nI V), .ref mg, .ref mc, .ref mh, .int (nI rm), .ref ms, .ref mu, .int (nI on), .ref of1, .ref ot1, .ref oi1, .long sd, .ref ml, .ref md, .ref mw])), zA G ml 64 g2, zA G mw 96 wd]) (W2 := [(m, .inr (6, [.int (nI th), .ref mt, .int (nI ts), .int (nI ps), .int pv, .ref mp, .int (nI V), .ref mg, .ref mc, .ref mh, .int (nI rm), .ref ms, .ref mu, .int (nI on), .ref of1, .ref ot1, .ref oi1, .long sd, .ref ml, .ref md, .ref mw])), zA G ml 64 (zImT (wd (3 * e)) (wd ((3 * c) + 1)) ((g2 ((8 * (wd ((3 * e) + 1))) + (wd (3 * c)))) + 2) g2), zA G mw 96 wd]) (wr := [zA G mw 96 wd]) (rest := []) SM (c_X9_improve l G m mt mp mg mc mh ms mu of1 ot1 oi1 ml md mw th ts ps V rm on pv sd g2 (wd (3 * e)) (wd ((3 * c) + 1)) ((g2 ((8 * (wd ((3 * e) + 1))) + (wd (3 * c)))) + 2) (by first | assumption | omega) (by first | assumption | omega) (by first | assumption | omega) (by first | assumption | omega)) (cwV 3 hts gX9_close_X9_improve rfl rfl rfl (by decide +kernel) ⟨Nat.le_of_ble_eq_true rfl, Nat.le_of_ble_eq_true rfl⟩) hK hE hA hP hD hS hl.1 [0, 1] [2] [1, 2, 0] rfl rfl rfl (by decide) (ci := 6) rfl rfl rfl rfl rfl (Nat.le_of_ble_eq_true rfl) ⟨Nat.zero_le _, Nat.zero_le _⟩ dX9_close_198 (fun H locs hP hD hS => ?_)
                                    refine zb_eq (tgt := 206) hx hb dX9_close_201 (by decide) (fun c_32 => ?_) (fun c_32 => ?_)
                                    · skip
                                      refine lv_iinc (v := nI (c + 1)) (lv' := [(5, .int (nI (c + 1))), (6, .int (nI (g2 ((8 * (wd ((3 * e) + 1))) + (wd (3 * c)))))), (0, .ref m), (1, .int (nI n)), (2, .int (bI (decide (b2 = true)))), (3, .int (nI e)), (4, .int (nI (wd (3 * e + 2))))]) hx hb dX9_close_206 hl (k := 6) rfl (zinc c 1) (by decide) rfl (fun ls hl => ?_)
                                      refine lv_goto (tgt := 100) hx hb dX9_close_209 (by decide) ?_
                                      exact ih100 (c + 1) (zImT (wd (3 * e)) (wd ((3 * c) + 1)) ((g2 ((8 * (wd ((3 * e) + 1))) + (wd (3 * c)))) + 2) g2) b2 (by omega) (by rw [zIt_s, ← hq2]; unfold zPeC; first | (exfalso; omega) | (rw [if_pos (by dsimp only; omega)]; unfold zIm; dsimp only; first | rw [decide_eq_true (by omega), Bool.or_true] | rw [decide_eq_false (by omega), Bool.or_false]) | rw [if_neg (by dsimp only; omega)]) (by first | exact hg2 | exact zImT_2 hg2) (Or.inr (by omega)) (by omega) _ _ _ hP hD hS (lv_sub hl [2, 3, 4, 5, 6, 0] rfl)
                                    · skip
                                      refine lv_iconst (v := nI 1) hx hb dX9_close_204 (by decide) ?_
                                      refine lv_istore_n (lv' := [(2, .int (nI 1)), (6, .int (nI (g2 ((8 * (wd ((3 * e) + 1))) + (wd (3 * c)))))), (0, .ref m), (1, .int (nI n)), (3, .int (nI e)), (4, .int (nI (wd (3 * e + 2)))), (5, .int (nI c))]) hx hb dX9_close_205 rfl hl (by decide) rfl (fun ls hl => ?_)
                                      refine lv_iinc (v := nI (c + 1)) (lv' := [(5, .int (nI (c + 1))), (2, .int (nI 1)), (6, .int (nI (g2 ((8 * (wd ((3 * e) + 1))) + (wd (3 * c)))))), (0, .ref m), (1, .int (nI n)), (3, .int (nI e)), (4, .int (nI (wd (3 * e + 2))))]) hx hb dX9_close_206 hl (k := 6) rfl (zinc c 1) (by decide) rfl (fun ls hl => ?_)
                                      refine lv_goto (tgt := 100) hx hb dX9_close_209 (by decide) ?_
                                      exact ih100 (c + 1) (zImT (wd (3 * e)) (wd ((3 * c) + 1)) ((g2 ((8 * (wd ((3 * e) + 1))) + (wd (3 * c)))) + 2) g2) true (by omega) (by rw [zIt_s, ← hq2]; unfold zPeC; first | (exfalso; omega) | (rw [if_pos (by dsimp only; omega)]; unfold zIm; dsimp only; first | rw [decide_eq_true (by omega), Bool.or_true] | rw [decide_eq_false (by omega), Bool.or_false]) | rw [if_neg (by dsimp only; omega)]) (by first | exact hg2 | exact zImT_2 hg2) (Or.inr (by omega)) (by omega) _ _ _ hP hD hS (lv_sub hl [3, 4, 1, 5, 6, 0] rfl)
                        exact lp100 (n - 0 + 1) 0 (zImT (wd (3 * e)) (wd ((3 * e) + 1)) 1 g1) b1 (Nat.zero_le _) (by rw [zIt_0]; unfold zPeA; first | (rw [if_pos (by omega)]; unfold zIm; dsimp only; first | rw [decide_eq_true (by omega), Bool.or_true] | rw [decide_eq_false (by omega), Bool.or_false]) | rw [if_neg (by omega)]) (by first | exact hg1 | exact zImT_2 hg1) (Or.inl rfl) (Nat.lt_succ_self _) _ _ _ hP hD hS (lv_sub hl [2, 3, 4, 5, 1, 0] rfl)
                      · skip
                        refine lv_iconst (v := nI 1) hx hb dX9_close_95 (by decide) ?_
                        refine lv_istore_n (lv' := [(2, .int (nI 1)), (4, .int (nI (wd ((3 * e) + 2)))), (0, .ref m), (1, .int (nI n)), (3, .int (nI e))]) hx hb dX9_close_96 rfl hl (by decide) rfl (fun ls hl => ?_)
                        refine lv_iconst (v := nI 0) hx hb dX9_close_97 (by decide) ?_
                        refine lv_istore (lv' := [(5, .int (nI 0)), (2, .int (nI 1)), (4, .int (nI (wd ((3 * e) + 2)))), (0, .ref m), (1, .int (nI n)), (3, .int (nI e))]) hx hb dX9_close_98 hl (by decide) rfl (fun ls hl => ?_)
                        have lp100 : ∀ (n9 : Nat), ∀ (c : Nat) (g2 : Nat → Nat) (b2 : Bool), (c ≤ n) → ((g2, b2) = zIt (zPeC wd e) c (zPeA wd e (g1, b1))) → (zL2 g2) → (c = 0 ∨ (1 ≤ wd (3 * e + 2) ∧ wd (3 * e + 2) ≤ 3)) → (n - c) < n9 → ∀ (H : Heap) (locs : List Loc) (ls : Array Slot), va_P G.1 vwCl [(m, .inr (6, [.int (nI th), .ref mt, .int (nI ts), .int (nI ps), .int pv, .ref mp, .int (nI V), .ref mg, .ref mc, .ref mh, .int (nI rm), .ref ms, .ref mu, .int (nI on), .ref of1, .ref ot1, .ref oi1, .long sd, .ref ml, .ref md, .ref mw])), zA G ml 64 g2, zA G mw 96 wd] H → va_D AM [(m, .inr (6, [.int (nI th), .ref mt, .int (nI ts), .int (nI ps), .int pv, .ref mp, .int (nI V), .ref mg, .ref mc, .ref mh, .int (nI rm), .ref ms, .ref mu, .int (nI on), .ref of1, .ref ot1, .ref oi1, .long sd, .ref ml, .ref md, .ref mw])), zA G ml 64 g2, zA G mw 96 wd] → va_S AM sM.heap H locs → lv_has ls 7 [(0, .ref m), (1, .int (nI n)), (2, .int (bI (decide (b2 = true)))), (3, .int (nI e)), (4, .int (nI (wd (3 * e + 2)))), (5, .int (nI c))] → W pM l eM ({ frames := 1, cells := 0, slots := 0, locals := 25 }) sM mM (([.ref m, .int (nI n)] : List Value).toArray) bM tM cM H locs 0 0 QM (F0 mM 100 ls []) := by
                          intro n9
                          induction n9 with
                          | zero =>
                            intro _ _ _ _ _ _ _ h9
                            exact absurd h9 (Nat.not_lt_zero _)
                          | succ n9 ih9 =>
                            intro c g2 b2 h3 hq2 hg2 h5 hmu100 H locs ls hP hD hS hl
                            have ih100 := ih9
                            clear ih9
                            refine lv_iload hx hb dX9_close_100 (lv_at hl 5 rfl) ?_
                            refine lv_iload_n hx hb dX9_close_102 rfl (lv_at hl 1 rfl) ?_
                            refine zn_ge (tgt := 212) hx hb dX9_close_103 (by decide) (by omega) (by omega) (fun c_33 => ?_) (fun c_33 => ?_)
                            · skip
                              refine lv_iinc (v := nI (e + 1)) (lv' := [(3, .int (nI (e + 1))), (0, .ref m), (1, .int (nI n)), (2, .int (bI (decide (b2 = true)))), (4, .int (nI (wd (3 * e + 2)))), (5, .int (nI c))]) hx hb dX9_close_212 hl (k := 3) rfl (zinc e 1) (by decide) rfl (fun ls hl => ?_)
                              refine lv_goto (tgt := 47) hx hb dX9_close_215 (by decide) ?_
                              exact ih47 (e + 1) g2 b2 (by omega) (zPe_end hq hq2 h5 (by omega) (by omega)) hg2 (by omega) _ _ _ hP hD hS (lv_sub hl [1, 2, 3, 0] rfl)
                            · skip
                              refine lv_iload hx hb dX9_close_106 (lv_at hl 4 rfl) ?_
                              refine lv_i2l (v := lN (wd (3 * e + 2))) hx hb dX9_close_108 (nI_l (by omega)) ?_
                              refine lv_lconst (v := lN 1) hx hb dX9_close_109 (by decide) ?_
                              refine lv_ldc2 (v := lN 3) hx hb hown (hts (.constantLong RX9 67 (3)) (by decide +kernel)) dX9_close_110 ?_
                              refine zSi (W1 := [(m, .inr (6, [.int (nI th), .ref mt, .int (nI ts), .int (nI ps), .int pv, .ref mp, .int (nI V), .ref mg, .ref mc, .ref mh, .int (nI rm), .ref ms, .ref mu, .int (nI on), .ref of1, .ref ot1, .ref oi1, .long sd, .ref ml, .ref md, .ref mw])), zA G ml 64 g2, zA G mw 96 wd]) (W2 := [(m, .inr (6, [.int (nI th), .ref mt, .int (nI ts), .int (nI ps), .int pv, .ref mp, .int (nI V), .ref mg, .ref mc, .ref mh, .int (nI rm), .ref ms, .ref mu, .int (nI on), .ref of1, .ref ot1, .ref oi1, .long sd, .ref ml, .ref md, .ref mw])), zA G ml 64 g2, zA G mw 96 wd]) (wr := [(m, .inr (6, [.int (nI th), .ref mt, .int (nI ts), .int (nI ps), .int pv, .ref mp, .int (nI V), .ref mg, .ref mc, .ref mh, .int (nI rm), .ref ms, .ref mu, .int (nI on), .ref of1, .ref ot1, .ref oi1, .long sd, .ref ml, .ref md, .ref mw])), zA G ml 64 g2, zA G mw 96 wd]) (rest := []) SM (c_X9_in_N l G (wd (3 * e + 2)) 1 3 (by first | assumption | omega) (by first | assumption | omega) (by first | assumption | omega)) (va_cwS 3 hts gX9_close_X9_in rfl rfl rfl (by decide +kernel) ⟨Nat.le_of_ble_eq_true rfl, Nat.le_of_ble_eq_true rfl⟩) hK hE hA hP hD hS hl.1 [] [0, 1, 2] [0, 1, 2] rfl rfl rfl (by decide) rfl rfl (Nat.le_of_ble_eq_true rfl) ⟨Nat.zero_le _, Nat.zero_le _⟩ dX9_close_113 (fun H locs hP hD hS => ?_)
                              refine zb_eq (tgt := 212) hx hb dX9_close_116 (by decide) (fun c_34 => ?_) (fun c_34 => ?_)
                              · skip
                                refine lv_iinc (v := nI (e + 1)) (lv' := [(3, .int (nI (e + 1))), (0, .ref m), (1, .int (nI n)), (2, .int (bI (decide (b2 = true)))), (4, .int (nI (wd (3 * e + 2)))), (5, .int (nI c))]) hx hb dX9_close_212 hl (k := 3) rfl (zinc e 1) (by decide) rfl (fun ls hl => ?_)
                                refine lv_goto (tgt := 47) hx hb dX9_close_215 (by decide) ?_
                                exact ih47 (e + 1) g2 b2 (by omega) (zPe_end hq hq2 h5 (by omega) (by omega)) hg2 (by omega) _ _ _ hP hD hS (lv_sub hl [1, 2, 3, 0] rfl)
                              · skip
                                refine lv_aload_n hx hb dX9_close_119 rfl (lv_at hl 0 rfl) ?_
                                refine va_get (D := G.1) (ci := 6) (v := .ref ml) (C := RX9) (T := TX9) (N := 21) hx hb hts hinX9 hown hK hP 0 rfl rfl 18 (by decide) hlk45 (fun _ h9 => h9) rfl dX9_close_120 ?_
                                refine lv_bipush (v := nI 8) hx hb dX9_close_123 (by decide) ?_
                                refine lv_aload_n hx hb dX9_close_125 rfl (lv_at hl 0 rfl) ?_
                                refine va_get (D := G.1) (ci := 6) (v := .ref mw) (C := RX9) (T := TX9) (N := 21) hx hb hts hinX9 hown hK hP 0 rfl rfl 20 (by decide) hlk51 (fun _ h9 => h9) rfl dX9_close_126 ?_
                                refine lv_iconst (v := nI 3) hx hb dX9_close_129 (by decide) ?_
                                refine lv_iload_n hx hb dX9_close_130 rfl (lv_at hl 3 rfl) ?_
                                refine zi_mul hx hb dX9_close_131 ?_
                                refine lv_iconst (v := nI 1) hx hb dX9_close_132 (by decide) ?_
                                refine zi_addk (n := (3 * e) + 1) hx hb dX9_close_133 (by omega) ?_
                                refine zi_ald hx hb hK hP 2 rfl (by omega) (by omega) dX9_close_134 ?_
                                have hb_35 := hw8 ((3 * e) + 1)
                                refine zi_mul hx hb dX9_close_135 ?_
                                refine lv_aload_n hx hb dX9_close_136 rfl (lv_at hl 0 rfl) ?_
                                refine va_get (D := G.1) (ci := 6) (v := .ref mw) (C := RX9) (T := TX9) (N := 21) hx hb hts hinX9 hown hK hP 0 rfl rfl 20 (by decide) hlk51 (fun _ h9 => h9) rfl dX9_close_137 ?_
                                refine lv_iconst (v := nI 3) hx hb dX9_close_140 (by decide) ?_
                                refine lv_iload hx hb dX9_close_141 (lv_at hl 5 rfl) ?_
                                refine zi_mul hx hb dX9_close_143 ?_
                                refine zi_ald hx hb hK hP 2 rfl (by omega) (by omega) dX9_close_144 ?_
                                have hb_36 := hw8 (3 * c)
                                refine zi_add hx hb dX9_close_145 ?_
                                refine zi_ald hx hb hK hP 1 rfl (by omega) (by omega) dX9_close_146 ?_
                                have hl0 := hg2 (8 * wd (3 * e + 1) + wd (3 * c))
                                refine lv_istore (lv' := [(6, .int (nI (g2 ((8 * (wd ((3 * e) + 1))) + (wd (3 * c)))))), (0, .ref m), (1, .int (nI n)), (2, .int (bI (decide (b2 = true)))), (3, .int (nI e)), (4, .int (nI (wd (3 * e + 2)))), (5, .int (nI c))]) hx hb dX9_close_147 hl (by decide) rfl (fun ls hl => ?_)
                                refine lv_aload_n hx hb dX9_close_149 rfl (lv_at hl 1 rfl) ?_
                                refine va_get (D := G.1) (ci := 6) (v := .ref mw) (C := RX9) (T := TX9) (N := 21) hx hb hts hinX9 hown hK hP 0 rfl rfl 20 (by decide) hlk51 (fun _ h9 => h9) rfl dX9_close_150 ?_
                                refine lv_iconst (v := nI 3) hx hb dX9_close_153 (by decide) ?_
                                refine lv_iload hx hb dX9_close_154 (lv_at hl 6 rfl) ?_
                                refine zi_mul hx hb dX9_close_156 ?_
                                refine lv_iconst (v := nI 2) hx hb dX9_close_157 (by decide) ?_
                                refine zi_addk (n := (3 * c) + 2) hx hb dX9_close_158 (by omega) ?_
                                refine zi_ald hx hb hK hP 2 rfl (by omega) (by omega) dX9_close_159 ?_
                                have hb_37 := hw8 ((3 * c) + 2)
                                refine lv_iload hx hb dX9_close_160 (lv_at hl 5 rfl) ?_
                                refine lv_iconst (v := nI 3) hx hb dX9_close_162 (by decide) ?_
                                refine zi_addk (n := (wd (3 * e + 2)) + 3) hx hb dX9_close_163 (by omega) ?_
                                refine zn_ne (tgt := 206) hx hb dX9_close_164 (by decide) (by omega) (by omega) (fun c_38 => ?_) (fun c_38 => ?_)
                                · skip
                                  refine lv_iinc (v := nI (c + 1)) (lv' := [(5, .int (nI (c + 1))), (6, .int (nI (g2 ((8 * (wd ((3 * e) + 1))) + (wd (3 * c)))))), (0, .ref m), (1, .int (nI n)), (2, .int (bI (decide (b2 = true)))), (3, .int (nI e)), (4, .int (nI (wd (3 * e + 2))))]) hx hb dX9_close_206 hl (k := 6) rfl (zinc c 1) (by decide) rfl (fun ls hl => ?_)
                                  refine lv_goto (tgt := 100) hx hb dX9_close_209 (by decide) ?_
                                  exact ih100 (c + 1) g2 b2 (by omega) (by rw [zIt_s, ← hq2]; unfold zPeC; first | (exfalso; omega) | (rw [if_pos (by dsimp only; omega)]; unfold zIm; dsimp only; first | rw [decide_eq_true (by omega), Bool.or_true] | rw [decide_eq_false (by omega), Bool.or_false]) | rw [if_neg (by dsimp only; omega)]) (by first | exact hg2 | exact zImT_2 hg2) (Or.inr (by omega)) (by omega) _ _ _ hP hD hS (lv_sub hl [2, 3, 4, 5, 6, 0] rfl)
                                · skip
                                  refine lv_iload hx hb dX9_close_167 (lv_at hl 0 rfl) ?_
                                  refine lv_ldc (v := nI 2000000) hx hb hown (hts (.constant RX9 62 (2000000)) (by decide +kernel)) dX9_close_169 ?_
                                  refine zn_ge (tgt := 206) hx hb dX9_close_171 (by decide) (by omega) (by omega) (fun c_39 => ?_) (fun c_39 => ?_)
                                  · skip
                                    refine lv_iinc (v := nI (c + 1)) (lv' := [(5, .int (nI (c + 1))), (6, .int (nI (g2 ((8 * (wd ((3 * e) + 1))) + (wd (3 * c)))))), (0, .ref m), (1, .int (nI n)), (2, .int (bI (decide (b2 = true)))), (3, .int (nI e)), (4, .int (nI (wd (3 * e + 2))))]) hx hb dX9_close_206 hl (k := 6) rfl (zinc c 1) (by decide) rfl (fun ls hl => ?_)
                                    refine lv_goto (tgt := 100) hx hb dX9_close_209 (by decide) ?_
                                    exact ih100 (c + 1) g2 b2 (by omega) (by rw [zIt_s, ← hq2]; unfold zPeC; first | (exfalso; omega) | (rw [if_pos (by dsimp only; omega)]; unfold zIm; dsimp only; first | rw [decide_eq_true (by omega), Bool.or_true] | rw [decide_eq_false (by omega), Bool.or_false]) | rw [if_neg (by dsimp only; omega)]) (by first | exact hg2 | exact zImT_2 hg2) (Or.inr (by omega)) (by omega) _ _ _ hP hD hS (lv_sub hl [2, 3, 4, 5, 6, 0] rfl)
                                  · skip
                                    refine lv_aload_n hx hb dX9_close_174 rfl (lv_at hl 1 rfl) ?_
                                    refine lv_aload_n hx hb dX9_close_175 rfl (lv_at hl 1 rfl) ?_
                                    refine va_get (D := G.1) (ci := 6) (v := .ref mw) (C := RX9) (T := TX9) (N := 21) hx hb hts hinX9 hown hK hP 0 rfl rfl 20 (by decide) hlk51 (fun _ h9 => h9) rfl dX9_close_176 ?_
                                    refine lv_iconst (v := nI 3) hx hb dX9_close_179 (by decide) ?_
                                    refine lv_iload_n hx hb dX9_close_180 rfl (lv_at hl 4 rfl) ?_
                                    refine zi_mul hx hb dX9_close_181 ?_
                                    refine zi_ald hx hb hK hP 2 rfl (by omega) (by omega) dX9_close_182 ?_
                                    have hb_40 := hw8 (3 * e)
                                    refine lv_aload_n hx hb dX9_close_183 rfl (lv_at hl 1 rfl) ?_
                                    refine va_get (D := G.1) (ci := 6) (v := .ref mw) (C := RX9) (T := TX9) (N := 21) hx hb hts hinX9 hown hK hP 0 rfl rfl 20 (by decide) hlk51 (fun _ h9 => h9) rfl dX9_close_184 ?_
                                    refine lv_iconst (v := nI 3) hx hb dX9_close_187 (by decide) ?_
                                    refine lv_iload hx hb dX9_close_188 (lv_at hl 6 rfl) ?_
                                    refine zi_mul hx hb dX9_close_190 ?_
                                    refine lv_iconst (v := nI 1) hx hb dX9_close_191 (by decide) ?_
                                    refine zi_addk (n := (3 * c) + 1) hx hb dX9_close_192 (by omega) ?_
                                    refine zi_ald hx hb hK hP 2 rfl (by omega) (by omega) dX9_close_193 ?_
                                    have hb_41 := hw8 ((3 * c) + 1)
                                    refine lv_iload hx hb dX9_close_194 (lv_at hl 0 rfl) ?_
                                    refine lv_iconst (v := nI 2) hx hb dX9_close_196 (by decide) ?_
                                    refine zi_addk (n := (g2 ((8 * (wd ((3 * e) + 1))) + (wd (3 * c)))) + 2) hx hb dX9_close_197 (by omega) ?_
                                    refine zVi (W1 := [(m, .inr (6, [.int (nI th), .ref mt, .int (nI ts), .int (nI ps), .int pv, .ref mp, .int (nI V), .ref mg, .ref mc, .ref mh, .int (nI rm), .ref ms, .ref mu, .int (nI on), .ref of1, .ref ot1, .ref oi1, .long sd, .ref ml, .ref md, .ref mw])), zA G ml 64 g2, zA G mw 96 wd]) (W2 := [(m, .inr (6, [.int (nI th), .ref mt, .int (nI ts), .int (nI ps), .int pv, .ref mp, .int (nI V), .ref mg, .ref mc, .ref mh, .int (nI rm), .ref ms, .ref mu, .int (nI on), .ref of1, .ref ot1, .ref oi1, .long sd, .ref ml, .ref md, .ref mw])), zA G ml 64 (zImT (wd (3 * e)) (wd ((3 * c) + 1)) ((g2 ((8 * (wd ((3 * e) + 1))) + (wd (3 * c)))) + 2) g2), zA G mw 96 wd]) (wr := [zA G mw 96 wd]) (rest := []) SM (c_X9_improve l G m mt mp mg mc mh ms mu of1 ot1 oi1 ml md mw th ts ps V rm on pv sd g2 (wd (3 * e)) (wd ((3 * c) + 1)) ((g2 ((8 * (wd ((3 * e) + 1))) + (wd (3 * c)))) + 2) (by first | assumption | omega) (by first | assumption | omega) (by first | assumption | omega) (by first | assumption | omega)) (cwV 3 hts gX9_close_X9_improve rfl rfl rfl (by decide +kernel) ⟨Nat.le_of_ble_eq_true rfl, Nat.le_of_ble_eq_true rfl⟩) hK hE hA hP hD hS hl.1 [0, 1] [2] [1, 2, 0] rfl rfl rfl (by decide) (ci := 6) rfl rfl rfl rfl rfl (Nat.le_of_ble_eq_true rfl) ⟨Nat.zero_le _, Nat.zero_le _⟩ dX9_close_198 (fun H locs hP hD hS => ?_)
                                    refine zb_eq (tgt := 206) hx hb dX9_close_201 (by decide) (fun c_42 => ?_) (fun c_42 => ?_)
                                    · skip
                                      refine lv_iinc (v := nI (c + 1)) (lv' := [(5, .int (nI (c + 1))), (6, .int (nI (g2 ((8 * (wd ((3 * e) + 1))) + (wd (3 * c)))))), (0, .ref m), (1, .int (nI n)), (2, .int (bI (decide (b2 = true)))), (3, .int (nI e)), (4, .int (nI (wd (3 * e + 2))))]) hx hb dX9_close_206 hl (k := 6) rfl (zinc c 1) (by decide) rfl (fun ls hl => ?_)
                                      refine lv_goto (tgt := 100) hx hb dX9_close_209 (by decide) ?_
                                      exact ih100 (c + 1) (zImT (wd (3 * e)) (wd ((3 * c) + 1)) ((g2 ((8 * (wd ((3 * e) + 1))) + (wd (3 * c)))) + 2) g2) b2 (by omega) (by rw [zIt_s, ← hq2]; unfold zPeC; first | (exfalso; omega) | (rw [if_pos (by dsimp only; omega)]; unfold zIm; dsimp only; first | rw [decide_eq_true (by omega), Bool.or_true] | rw [decide_eq_false (by omega), Bool.or_false]) | rw [if_neg (by dsimp only; omega)]) (by first | exact hg2 | exact zImT_2 hg2) (Or.inr (by omega)) (by omega) _ _ _ hP hD hS (lv_sub hl [2, 3, 4, 5, 6, 0] rfl)
                                    · skip
                                      refine lv_iconst (v := nI 1) hx hb dX9_close_204 (by decide) ?_
                                      refine lv_istore_n (lv' := [(2, .int (nI 1)), (6, .int (nI (g2 ((8 * (wd ((3 * e) + 1))) + (wd (3 * c)))))), (0, .ref m), (1, .int (nI n)), (3, .int (nI e)), (4, .int (nI (wd (3 * e + 2)))), (5, .int (nI c))]) hx hb dX9_close_205 rfl hl (by decide) rfl (fun ls hl => ?_)
                                      refine lv_iinc (v := nI (c + 1)) (lv' := [(5, .int (nI (c + 1))), (2, .int (nI 1)), (6, .int (nI (g2 ((8 * (wd ((3 * e) + 1))) + (wd (3 * c)))))), (0, .ref m), (1, .int (nI n)), (3, .int (nI e)), (4, .int (nI (wd (3 * e + 2))))]) hx hb dX9_close_206 hl (k := 6) rfl (zinc c 1) (by decide) rfl (fun ls hl => ?_)
                                      refine lv_goto (tgt := 100) hx hb dX9_close_209 (by decide) ?_
                                      exact ih100 (c + 1) (zImT (wd (3 * e)) (wd ((3 * c) + 1)) ((g2 ((8 * (wd ((3 * e) + 1))) + (wd (3 * c)))) + 2) g2) true (by omega) (by rw [zIt_s, ← hq2]; unfold zPeC; first | (exfalso; omega) | (rw [if_pos (by dsimp only; omega)]; unfold zIm; dsimp only; first | rw [decide_eq_true (by omega), Bool.or_true] | rw [decide_eq_false (by omega), Bool.or_false]) | rw [if_neg (by dsimp only; omega)]) (by first | exact hg2 | exact zImT_2 hg2) (Or.inr (by omega)) (by omega) _ _ _ hP hD hS (lv_sub hl [3, 4, 1, 5, 6, 0] rfl)
                        exact lp100 (n - 0 + 1) 0 (zImT (wd (3 * e)) (wd ((3 * e) + 1)) 1 g1) true (Nat.zero_le _) (by rw [zIt_0]; unfold zPeA; first | (rw [if_pos (by omega)]; unfold zIm; dsimp only; first | rw [decide_eq_true (by omega), Bool.or_true] | rw [decide_eq_false (by omega), Bool.or_false]) | rw [if_neg (by omega)]) (by first | exact hg1 | exact zImT_2 hg1) (Or.inl rfl) (Nat.lt_succ_self _) _ _ _ hP hD hS (lv_sub hl [3, 4, 1, 5, 2, 0] rfl)
              exact lp47 (n - 0 + 1) 0 g false (Nat.zero_le _) rfl hg (Nat.lt_succ_self _) _ _ _ hP hD hS (lv_sub hl [2, 3, 1, 0] rfl)
        exact lp39 ((if true = true then zSum zC0 + 1 else 0) + 1) zFuel zC0 true (zClT_start wd n) (fun _ => zFuel_lt) zC0_2 (Nat.lt_succ_self _) _ _ _ hP hD hS (lv_sub hl [1, 2, 0] rfl)
      · skip
        refine lv_aload_n hx hb dX9_close_8 rfl (lv_at hl 0 rfl) ?_
        refine va_get (D := G.1) (ci := 6) (v := .ref ml) (C := RX9) (T := TX9) (N := 21) hx hb hts hinX9 hown hK hP 0 rfl rfl 18 (by decide) hlk45 (fun _ h9 => h9) rfl dX9_close_9 ?_
        refine lv_iload_n hx hb dX9_close_12 rfl (lv_at hl 2 rfl) ?_
        refine lv_iload_n hx hb dX9_close_13 rfl (lv_at hl 2 rfl) ?_
        refine lv_bipush (v := nI 8) hx hb dX9_close_14 (by decide) ?_
        refine zi_div hx hb dX9_close_16 (by omega) (by omega) (by omega) ?_
        refine lv_iload_n hx hb dX9_close_17 rfl (lv_at hl 2 rfl) ?_
        refine lv_bipush (v := nI 8) hx hb dX9_close_18 (by decide) ?_
        refine zi_rem hx hb dX9_close_20 (by omega) (by omega) (by omega) ?_
        refine zn_ne (tgt := 28) hx hb dX9_close_21 (by decide) (by omega) (by omega) (fun c_43 => ?_) (fun c_43 => ?_)
        · skip
          refine lv_ldc (v := nI 2000000) hx hb hown (hts (.constant RX9 62 (2000000)) (by decide +kernel)) dX9_close_28 ?_
          refine zi_ast hx hb hK hP hD hS 1 rfl (by omega) (by omega) dX9_close_30 (fun H locs hP hD hS => ?_)
          have hP : va_P G.1 vwCl [(m, .inr (6, [.int (nI th), .ref mt, .int (nI ts), .int (nI ps), .int pv, .ref mp, .int (nI V), .ref mg, .ref mc, .ref mh, .int (nI rm), .ref ms, .ref mu, .int (nI on), .ref of1, .ref ot1, .ref oi1, .long sd, .ref ml, .ref md, .ref mw])), zA G ml 64 (zU g0 i 2000000), zA G mw 96 wd] H := hP
          have hD : va_D AM [(m, .inr (6, [.int (nI th), .ref mt, .int (nI ts), .int (nI ps), .int pv, .ref mp, .int (nI V), .ref mg, .ref mc, .ref mh, .int (nI rm), .ref ms, .ref mu, .int (nI on), .ref of1, .ref ot1, .ref oi1, .long sd, .ref ml, .ref md, .ref mw])), zA G ml 64 (zU g0 i 2000000), zA G mw 96 wd] := hD
          refine lv_iinc (v := nI (i + 1)) (lv' := [(2, .int (nI (i + 1))), (0, .ref m), (1, .int (nI n))]) hx hb dX9_close_31 hl (k := 2) rfl (zinc i 1) (by decide) rfl (fun ls hl => ?_)
          refine lv_goto (tgt := 2) hx hb dX9_close_34 (by decide) ?_
          exact ih2 (i + 1) (zU g0 i 2000000) (by first | assumption | omega) (by rw [zIt_s, ← hq0]; unfold zC1 zC0; first | rw [if_pos (by assumption)] | rw [if_neg (by assumption)]) (by omega) _ _ _ hP hD hS (lv_sub hl [1, 2, 0] rfl)
        · skip
          refine lv_iconst (v := nI 0) hx hb dX9_close_24 (by decide) ?_
          refine lv_goto (tgt := 30) hx hb dX9_close_25 (by decide) ?_
          refine zi_ast hx hb hK hP hD hS 1 rfl (by omega) (by omega) dX9_close_30 (fun H locs hP hD hS => ?_)
          have hP : va_P G.1 vwCl [(m, .inr (6, [.int (nI th), .ref mt, .int (nI ts), .int (nI ps), .int pv, .ref mp, .int (nI V), .ref mg, .ref mc, .ref mh, .int (nI rm), .ref ms, .ref mu, .int (nI on), .ref of1, .ref ot1, .ref oi1, .long sd, .ref ml, .ref md, .ref mw])), zA G ml 64 (zU g0 i 0), zA G mw 96 wd] H := hP
          have hD : va_D AM [(m, .inr (6, [.int (nI th), .ref mt, .int (nI ts), .int (nI ps), .int pv, .ref mp, .int (nI V), .ref mg, .ref mc, .ref mh, .int (nI rm), .ref ms, .ref mu, .int (nI on), .ref of1, .ref ot1, .ref oi1, .long sd, .ref ml, .ref md, .ref mw])), zA G ml 64 (zU g0 i 0), zA G mw 96 wd] := hD
          refine lv_iinc (v := nI (i + 1)) (lv' := [(2, .int (nI (i + 1))), (0, .ref m), (1, .int (nI n))]) hx hb dX9_close_31 hl (k := 2) rfl (zinc i 1) (by decide) rfl (fun ls hl => ?_)
          refine lv_goto (tgt := 2) hx hb dX9_close_34 (by decide) ?_
          exact ih2 (i + 1) (zU g0 i 0) (by first | assumption | omega) (by rw [zIt_s, ← hq0]; unfold zC1 zC0; first | rw [if_pos (by assumption)] | rw [if_neg (by assumption)]) (by omega) _ _ _ hP hD hS (lv_sub hl [1, 2, 0] rfl)
  exact lp2 (64 - 0 + 1) 0 f (by first | assumption | omega) rfl (Nat.lt_succ_self _) _ _ _ hP hD hS (lv_sub hl [1, 2, 0] rfl)
set_option maxHeartbeats 4000000 in
set_option maxRecDepth 100000 in
theorem c_X9_closeOf (l : Launch) (G : zG) (m mt mp mg mc mh ms mu of1 ot1 oi1 ml md mw th ts ps V rm on : Nat) (pv : Int32) (sd : Int64) (f wd : Nat → Nat) (a : Nat) (g : Nat → Nat) (sub : Nat) (hL : zL2 f) (hw8 : ∀ i, wd i < 8) (hg0 : g 0 ≤ 16) (hg8 : ∀ i, 1 ≤ i → g i < 8) (hs : sub < 65536) : MV l yX9_closeOf wsX9_closeOf ({ frames := 2, cells := 0, slots := 0, locals := 51 }) G [.ref m, .ref a, .int (nI sub)] [(m, .inr (6, [.int (nI th), .ref mt, .int (nI ts), .int (nI ps), .int pv, .ref mp, .int (nI V), .ref mg, .ref mc, .ref mh, .int (nI rm), .ref ms, .ref mu, .int (nI on), .ref of1, .ref ot1, .ref oi1, .long sd, .ref ml, .ref md, .ref mw])), zA G ml 64 f, zA G mw 96 wd, zA G a 49 g] [(m, .inr (6, [.int (nI th), .ref mt, .int (nI ts), .int (nI ps), .int pv, .ref mp, .int (nI V), .ref mg, .ref mc, .ref mh, .int (nI rm), .ref ms, .ref mu, .int (nI on), .ref of1, .ref ot1, .ref oi1, .long sd, .ref ml, .ref md, .ref mw])), zA G ml 64 (mT g sub), zA G mw 96 (zWd sub g wd (g 0)), zA G a 49 g] := by
  refine MV.enter (cc := cX9_closeOf) (maxL := 6) (by decide) rfl (Nat.le_of_ble_eq_true rfl) ?_
  intro pM eM sM mM bM tM cM QM AM ls hat kret
  obtain ⟨SM, hA, hK, hE, hP, hD, hS, hl⟩ := hat
  have hx := SM.1
  have hb := SM.2.1
  have hown : sM.vm.findClass RX9 = some mM.cls := SM.2.2.2.1
  have hts := SM.2.2.2.2
  have hinX9 : ∀ w ∈ u_ws RX9 TX9 21, w ∈ wsX9_closeOf := by decide +kernel
  have hlk51 : (Cond.fieldLink RX9 51 "DyckReachabilityModel" "wide" "[I").before _ sM = true := hts _ (by decide +kernel)
  have hl : lv_has ls 6 [(0, .ref m), (1, .ref a), (2, .int (nI sub))] := hl
  refine lv_iconst (v := nI 0) hx hb dX9_closeOf_0 (by decide) ?_
  refine lv_istore_n (lv' := [(3, .int (nI 0)), (0, .ref m), (1, .ref a), (2, .int (nI sub))]) hx hb dX9_closeOf_1 rfl hl (by decide) rfl (fun ls hl => ?_)
  refine lv_iconst (v := nI 0) hx hb dX9_closeOf_2 (by decide) ?_
  refine lv_istore (lv' := [(4, .int (nI 0)), (3, .int (nI 0)), (0, .ref m), (1, .ref a), (2, .int (nI sub))]) hx hb dX9_closeOf_3 hl (by decide) rfl (fun ls hl => ?_)
  have lp5 : ∀ (n9 : Nat), ∀ (e : Nat), (e ≤ g 0) → (g 0 - e) < n9 → ∀ (H : Heap) (locs : List Loc) (ls : Array Slot), va_P G.1 vwCl [(m, .inr (6, [.int (nI th), .ref mt, .int (nI ts), .int (nI ps), .int pv, .ref mp, .int (nI V), .ref mg, .ref mc, .ref mh, .int (nI rm), .ref ms, .ref mu, .int (nI on), .ref of1, .ref ot1, .ref oi1, .long sd, .ref ml, .ref md, .ref mw])), zA G ml 64 f, zA G mw 96 (zWd sub g wd e), zA G a 49 g] H → va_D AM [(m, .inr (6, [.int (nI th), .ref mt, .int (nI ts), .int (nI ps), .int pv, .ref mp, .int (nI V), .ref mg, .ref mc, .ref mh, .int (nI rm), .ref ms, .ref mu, .int (nI on), .ref of1, .ref ot1, .ref oi1, .long sd, .ref ml, .ref md, .ref mw])), zA G ml 64 f, zA G mw 96 (zWd sub g wd e), zA G a 49 g] → va_S AM sM.heap H locs → lv_has ls 6 [(0, .ref m), (1, .ref a), (2, .int (nI sub)), (3, .int (nI (zCt sub e))), (4, .int (nI e))] → W pM l eM ({ frames := 2, cells := 0, slots := 0, locals := 51 }) sM mM (([.ref m, .ref a, .int (nI sub)] : List Value).toArray) bM tM cM H locs 0 0 QM (F0 mM 5 ls []) := by
    intro n9
    induction n9 with
    | zero =>
      intro _ _ h9
      exact absurd h9 (Nat.not_lt_zero _)
    | succ n9 ih9 =>
      intro e h1 hmu5 H locs ls hP hD hS hl
      have ih5 := ih9
      clear ih9
      have hct := zCt_le sub e
      refine lv_iload hx hb dX9_closeOf_5 (lv_at hl 4 rfl) ?_
      refine lv_aload_n hx hb dX9_closeOf_7 rfl (lv_at hl 1 rfl) ?_
      refine lv_iconst (v := nI 0) hx hb dX9_closeOf_8 (by decide) ?_
      refine zi_ald hx hb hK hP 3 rfl (by omega) (by omega) dX9_closeOf_9 ?_
      have hb_1 := hg0
      refine zn_ge (tgt := 68) hx hb dX9_closeOf_10 (by decide) (by omega) (by omega) (fun c_2 => ?_) (fun c_2 => ?_)
      · skip
        refine lv_aload_n hx hb dX9_closeOf_68 rfl (lv_at hl 0 rfl) ?_
        refine lv_iload_n hx hb dX9_closeOf_69 rfl (lv_at hl 3 rfl) ?_
        refine zVv (W1 := [(m, .inr (6, [.int (nI th), .ref mt, .int (nI ts), .int (nI ps), .int pv, .ref mp, .int (nI V), .ref mg, .ref mc, .ref mh, .int (nI rm), .ref ms, .ref mu, .int (nI on), .ref of1, .ref ot1, .ref oi1, .long sd, .ref ml, .ref md, .ref mw])), zA G ml 64 f, zA G mw 96 (zWd sub g wd e), zA G a 49 g]) (W2 := [(m, .inr (6, [.int (nI th), .ref mt, .int (nI ts), .int (nI ps), .int pv, .ref mp, .int (nI V), .ref mg, .ref mc, .ref mh, .int (nI rm), .ref ms, .ref mu, .int (nI on), .ref of1, .ref ot1, .ref oi1, .long sd, .ref ml, .ref md, .ref mw])), zA G ml 64 (zClT (zWd sub g wd e) (zCt sub e)), zA G mw 96 (zWd sub g wd e), zA G a 49 g]) (wr := [zA G a 49 g]) (rest := []) SM (c_X9_close l G m mt mp mg mc mh ms mu of1 ot1 oi1 ml md mw th ts ps V rm on pv sd f (zWd sub g wd e) (zCt sub e) (by first | assumption | omega) (zWd_8 hw8 hg8 _) (by first | assumption | omega)) (cwV 1 hts gX9_closeOf_X9_close rfl rfl rfl (by decide +kernel) ⟨Nat.le_of_ble_eq_true rfl, Nat.le_of_ble_eq_true rfl⟩) hK hE hA hP hD hS hl.1 [0, 1, 2] [3] [1, 2, 3, 0] rfl rfl rfl (by decide) (ci := 6) rfl rfl rfl rfl rfl (Nat.le_of_ble_eq_true rfl) ⟨Nat.zero_le _, Nat.zero_le _⟩ dX9_closeOf_70 (fun H locs hP hD hS => ?_)
        exact kret _ _ _ _ _ (by have hq9 : e = g 0 := (by omega); rw [hq9, mT_eq]) hP hD hS dX9_closeOf_73
      · skip
        refine lv_iload_n hx hb dX9_closeOf_13 rfl (lv_at hl 2 rfl) ?_
        refine lv_iload hx hb dX9_closeOf_14 (lv_at hl 4 rfl) ?_
        refine zSi (W1 := [(m, .inr (6, [.int (nI th), .ref mt, .int (nI ts), .int (nI ps), .int pv, .ref mp, .int (nI V), .ref mg, .ref mc, .ref mh, .int (nI rm), .ref ms, .ref mu, .int (nI on), .ref of1, .ref ot1, .ref oi1, .long sd, .ref ml, .ref md, .ref mw])), zA G ml 64 f, zA G mw 96 (zWd sub g wd e), zA G a 49 g]) (W2 := [(m, .inr (6, [.int (nI th), .ref mt, .int (nI ts), .int (nI ps), .int pv, .ref mp, .int (nI V), .ref mg, .ref mc, .ref mh, .int (nI rm), .ref ms, .ref mu, .int (nI on), .ref of1, .ref ot1, .ref oi1, .long sd, .ref ml, .ref md, .ref mw])), zA G ml 64 f, zA G mw 96 (zWd sub g wd e), zA G a 49 g]) (wr := [(m, .inr (6, [.int (nI th), .ref mt, .int (nI ts), .int (nI ps), .int pv, .ref mp, .int (nI V), .ref mg, .ref mc, .ref mh, .int (nI rm), .ref ms, .ref mu, .int (nI on), .ref of1, .ref ot1, .ref oi1, .long sd, .ref ml, .ref md, .ref mw])), zA G ml 64 f, zA G mw 96 (zWd sub g wd e), zA G a 49 g]) (rest := []) SM (c_X9_has l G sub e (by first | assumption | omega) (by first | assumption | omega)) (va_cwS 2 hts gX9_closeOf_X9_has rfl rfl rfl (by decide +kernel) ⟨Nat.le_of_ble_eq_true rfl, Nat.le_of_ble_eq_true rfl⟩) hK hE hA hP hD hS hl.1 [] [0, 1, 2, 3] [0, 1, 2, 3] rfl rfl rfl (by decide) rfl rfl (Nat.le_of_ble_eq_true rfl) ⟨Nat.zero_le _, Nat.zero_le _⟩ dX9_closeOf_16 (fun H locs hP hD hS => ?_)
        refine zb_eq (tgt := 62) hx hb dX9_closeOf_19 (by decide) (fun c_3 => ?_) (fun c_3 => ?_)
        · skip
          have hbit : (sub / 2 ^ e % 2) = 0 := by omega
          refine lv_iinc (v := nI (e + 1)) (lv' := [(4, .int (nI (e + 1))), (0, .ref m), (1, .ref a), (2, .int (nI sub)), (3, .int (nI (zCt sub e)))]) hx hb dX9_closeOf_62 hl (k := 4) rfl (zinc e 1) (by decide) rfl (fun ls hl => ?_)
          refine lv_goto (tgt := 5) hx hb dX9_closeOf_65 (by decide) ?_
          have hP : va_P G.1 vwCl [(m, .inr (6, [.int (nI th), .ref mt, .int (nI ts), .int (nI ps), .int pv, .ref mp, .int (nI V), .ref mg, .ref mc, .ref mh, .int (nI rm), .ref ms, .ref mu, .int (nI on), .ref of1, .ref ot1, .ref oi1, .long sd, .ref ml, .ref md, .ref mw])), zA G ml 64 f, zA G mw 96 (zWd sub g wd (e + 1)), zA G a 49 g] H := by (first | (simp only [zWd_y hbit, zWd3]) | (simp only [zWd_n hbit])); exact hP
          have hD : va_D AM [(m, .inr (6, [.int (nI th), .ref mt, .int (nI ts), .int (nI ps), .int pv, .ref mp, .int (nI V), .ref mg, .ref mc, .ref mh, .int (nI rm), .ref ms, .ref mu, .int (nI on), .ref of1, .ref ot1, .ref oi1, .long sd, .ref ml, .ref md, .ref mw])), zA G ml 64 f, zA G mw 96 (zWd sub g wd (e + 1)), zA G a 49 g] := by (first | (simp only [zWd_y hbit, zWd3]) | (simp only [zWd_n hbit])); exact hD
          have hl : lv_has ls 6 [(0, .ref m), (1, .ref a), (2, .int (nI sub)), (3, .int (nI (zCt sub (e + 1)))), (4, .int (nI (e + 1)))] := by (first | (simp only [zCt_y hbit]) | (simp only [zCt_n hbit])); exact (lv_sub hl [1, 2, 3, 4, 0] rfl)
          exact ih5 (e + 1) (by first | assumption | omega) (by omega) _ _ _ hP hD hS hl
        · skip
          have hbit : ¬ (sub / 2 ^ e % 2) = 0 := by omega
          refine lv_iconst (v := nI 0) hx hb dX9_closeOf_22 (by decide) ?_
          refine lv_istore (lv' := [(5, .int (nI 0)), (0, .ref m), (1, .ref a), (2, .int (nI sub)), (3, .int (nI (zCt sub e))), (4, .int (nI e))]) hx hb dX9_closeOf_23 hl (by decide) rfl (fun ls hl => ?_)
          refine lv_iload hx hb dX9_closeOf_25 (lv_at hl 0 rfl) ?_
          refine lv_iconst (v := nI 3) hx hb dX9_closeOf_27 (by decide) ?_
          refine zkk_ge_f hx hb dX9_closeOf_28 (by decide) ?_
          refine lv_aload_n hx hb dX9_closeOf_31 rfl (lv_at hl 1 rfl) ?_
          refine va_get (D := G.1) (ci := 6) (v := .ref mw) (C := RX9) (T := TX9) (N := 21) hx hb hts hinX9 hown hK hP 0 rfl rfl 20 (by decide) hlk51 (fun _ h9 => h9) rfl dX9_closeOf_32 ?_
          refine lv_iconst (v := nI 3) hx hb dX9_closeOf_35 (by decide) ?_
          refine lv_iload_n hx hb dX9_closeOf_36 rfl (lv_at hl 4 rfl) ?_
          refine zi_mul hx hb dX9_closeOf_37 ?_
          refine lv_iload hx hb dX9_closeOf_38 (lv_at hl 0 rfl) ?_
          refine zi_addk (n := 3 * (zCt sub e)) hx hb dX9_closeOf_40 (by omega) ?_
          refine lv_aload_n hx hb dX9_closeOf_41 rfl (lv_at hl 2 rfl) ?_
          refine lv_iconst (v := nI 1) hx hb dX9_closeOf_42 (by decide) ?_
          refine lv_iconst (v := nI 3) hx hb dX9_closeOf_43 (by decide) ?_
          refine lv_iload hx hb dX9_closeOf_44 (lv_at hl 5 rfl) ?_
          refine zi_mul hx hb dX9_closeOf_46 ?_
          refine zi_addk (n := 1 + (3 * e)) hx hb dX9_closeOf_47 (by omega) ?_
          refine lv_iload hx hb dX9_closeOf_48 (lv_at hl 0 rfl) ?_
          refine zi_addk (n := 1 + (3 * e)) hx hb dX9_closeOf_50 (by omega) ?_
          refine zi_ald hx hb hK hP 3 rfl (by omega) (by omega) dX9_closeOf_51 ?_
          have hb_5 := hg8 (1 + (3 * e)) (by omega)
          refine zi_ast hx hb hK hP hD hS 2 rfl (by omega) (by omega) dX9_closeOf_52 (fun H locs hP hD hS => ?_)
          have hP : va_P G.1 vwCl [(m, .inr (6, [.int (nI th), .ref mt, .int (nI ts), .int (nI ps), .int pv, .ref mp, .int (nI V), .ref mg, .ref mc, .ref mh, .int (nI rm), .ref ms, .ref mu, .int (nI on), .ref of1, .ref ot1, .ref oi1, .long sd, .ref ml, .ref md, .ref mw])), zA G ml 64 f, zA G mw 96 (zU (zWd sub g wd e) (3 * (zCt sub e)) (g (1 + (3 * e)))), zA G a 49 g] H := hP
          have hD : va_D AM [(m, .inr (6, [.int (nI th), .ref mt, .int (nI ts), .int (nI ps), .int pv, .ref mp, .int (nI V), .ref mg, .ref mc, .ref mh, .int (nI rm), .ref ms, .ref mu, .int (nI on), .ref of1, .ref ot1, .ref oi1, .long sd, .ref ml, .ref md, .ref mw])), zA G ml 64 f, zA G mw 96 (zU (zWd sub g wd e) (3 * (zCt sub e)) (g (1 + (3 * e)))), zA G a 49 g] := hD
          refine lv_iinc (v := nI 1) (lv' := [(5, .int (nI 1)), (0, .ref m), (1, .ref a), (2, .int (nI sub)), (3, .int (nI (zCt sub e))), (4, .int (nI e))]) hx hb dX9_closeOf_53 hl (k := 0) rfl (zinc 0 1) (by decide) rfl (fun ls hl => ?_)
          refine lv_goto (tgt := 25) hx hb dX9_closeOf_56 (by decide) ?_
          refine lv_iload hx hb dX9_closeOf_25 (lv_at hl 0 rfl) ?_
          refine lv_iconst (v := nI 3) hx hb dX9_closeOf_27 (by decide) ?_
          refine zkk_ge_f hx hb dX9_closeOf_28 (by decide) ?_
          refine lv_aload_n hx hb dX9_closeOf_31 rfl (lv_at hl 1 rfl) ?_
          refine va_get (D := G.1) (ci := 6) (v := .ref mw) (C := RX9) (T := TX9) (N := 21) hx hb hts hinX9 hown hK hP 0 rfl rfl 20 (by decide) hlk51 (fun _ h9 => h9) rfl dX9_closeOf_32 ?_
          refine lv_iconst (v := nI 3) hx hb dX9_closeOf_35 (by decide) ?_
          refine lv_iload_n hx hb dX9_closeOf_36 rfl (lv_at hl 4 rfl) ?_
          refine zi_mul hx hb dX9_closeOf_37 ?_
          refine lv_iload hx hb dX9_closeOf_38 (lv_at hl 0 rfl) ?_
          refine zi_addk (n := (3 * (zCt sub e)) + 1) hx hb dX9_closeOf_40 (by omega) ?_
          refine lv_aload_n hx hb dX9_closeOf_41 rfl (lv_at hl 2 rfl) ?_
          refine lv_iconst (v := nI 1) hx hb dX9_closeOf_42 (by decide) ?_
          refine lv_iconst (v := nI 3) hx hb dX9_closeOf_43 (by decide) ?_
          refine lv_iload hx hb dX9_closeOf_44 (lv_at hl 5 rfl) ?_
          refine zi_mul hx hb dX9_closeOf_46 ?_
          refine zi_addk (n := 1 + (3 * e)) hx hb dX9_closeOf_47 (by omega) ?_
          refine lv_iload hx hb dX9_closeOf_48 (lv_at hl 0 rfl) ?_
          refine zi_addk (n := (1 + (3 * e)) + 1) hx hb dX9_closeOf_50 (by omega) ?_
          refine zi_ald hx hb hK hP 3 rfl (by omega) (by omega) dX9_closeOf_51 ?_
          have hb_7 := hg8 ((1 + (3 * e)) + 1) (by omega)
          refine zi_ast hx hb hK hP hD hS 2 rfl (by omega) (by omega) dX9_closeOf_52 (fun H locs hP hD hS => ?_)
          have hP : va_P G.1 vwCl [(m, .inr (6, [.int (nI th), .ref mt, .int (nI ts), .int (nI ps), .int pv, .ref mp, .int (nI V), .ref mg, .ref mc, .ref mh, .int (nI rm), .ref ms, .ref mu, .int (nI on), .ref of1, .ref ot1, .ref oi1, .long sd, .ref ml, .ref md, .ref mw])), zA G ml 64 f, zA G mw 96 (zU (zU (zWd sub g wd e) (3 * (zCt sub e)) (g (1 + (3 * e)))) ((3 * (zCt sub e)) + 1) (g ((1 + (3 * e)) + 1))), zA G a 49 g] H := hP
          have hD : va_D AM [(m, .inr (6, [.int (nI th), .ref mt, .int (nI ts), .int (nI ps), .int pv, .ref mp, .int (nI V), .ref mg, .ref mc, .ref mh, .int (nI rm), .ref ms, .ref mu, .int (nI on), .ref of1, .ref ot1, .ref oi1, .long sd, .ref ml, .ref md, .ref mw])), zA G ml 64 f, zA G mw 96 (zU (zU (zWd sub g wd e) (3 * (zCt sub e)) (g (1 + (3 * e)))) ((3 * (zCt sub e)) + 1) (g ((1 + (3 * e)) + 1))), zA G a 49 g] := hD
          refine lv_iinc (v := nI 2) (lv' := [(5, .int (nI 2)), (0, .ref m), (1, .ref a), (2, .int (nI sub)), (3, .int (nI (zCt sub e))), (4, .int (nI e))]) hx hb dX9_closeOf_53 hl (k := 0) rfl (zinc 1 1) (by decide) rfl (fun ls hl => ?_)
          refine lv_goto (tgt := 25) hx hb dX9_closeOf_56 (by decide) ?_
          refine lv_iload hx hb dX9_closeOf_25 (lv_at hl 0 rfl) ?_
          refine lv_iconst (v := nI 3) hx hb dX9_closeOf_27 (by decide) ?_
          refine zkk_ge_f hx hb dX9_closeOf_28 (by decide) ?_
          refine lv_aload_n hx hb dX9_closeOf_31 rfl (lv_at hl 1 rfl) ?_
          refine va_get (D := G.1) (ci := 6) (v := .ref mw) (C := RX9) (T := TX9) (N := 21) hx hb hts hinX9 hown hK hP 0 rfl rfl 20 (by decide) hlk51 (fun _ h9 => h9) rfl dX9_closeOf_32 ?_
          refine lv_iconst (v := nI 3) hx hb dX9_closeOf_35 (by decide) ?_
          refine lv_iload_n hx hb dX9_closeOf_36 rfl (lv_at hl 4 rfl) ?_
          refine zi_mul hx hb dX9_closeOf_37 ?_
          refine lv_iload hx hb dX9_closeOf_38 (lv_at hl 0 rfl) ?_
          refine zi_addk (n := (3 * (zCt sub e)) + 2) hx hb dX9_closeOf_40 (by omega) ?_
          refine lv_aload_n hx hb dX9_closeOf_41 rfl (lv_at hl 2 rfl) ?_
          refine lv_iconst (v := nI 1) hx hb dX9_closeOf_42 (by decide) ?_
          refine lv_iconst (v := nI 3) hx hb dX9_closeOf_43 (by decide) ?_
          refine lv_iload hx hb dX9_closeOf_44 (lv_at hl 5 rfl) ?_
          refine zi_mul hx hb dX9_closeOf_46 ?_
          refine zi_addk (n := 1 + (3 * e)) hx hb dX9_closeOf_47 (by omega) ?_
          refine lv_iload hx hb dX9_closeOf_48 (lv_at hl 0 rfl) ?_
          refine zi_addk (n := (1 + (3 * e)) + 2) hx hb dX9_closeOf_50 (by omega) ?_
          refine zi_ald hx hb hK hP 3 rfl (by omega) (by omega) dX9_closeOf_51 ?_
          have hb_9 := hg8 ((1 + (3 * e)) + 2) (by omega)
          refine zi_ast hx hb hK hP hD hS 2 rfl (by omega) (by omega) dX9_closeOf_52 (fun H locs hP hD hS => ?_)
          have hP : va_P G.1 vwCl [(m, .inr (6, [.int (nI th), .ref mt, .int (nI ts), .int (nI ps), .int pv, .ref mp, .int (nI V), .ref mg, .ref mc, .ref mh, .int (nI rm), .ref ms, .ref mu, .int (nI on), .ref of1, .ref ot1, .ref oi1, .long sd, .ref ml, .ref md, .ref mw])), zA G ml 64 f, zA G mw 96 (zU (zU (zU (zWd sub g wd e) (3 * (zCt sub e)) (g (1 + (3 * e)))) ((3 * (zCt sub e)) + 1) (g ((1 + (3 * e)) + 1))) ((3 * (zCt sub e)) + 2) (g ((1 + (3 * e)) + 2))), zA G a 49 g] H := hP
          have hD : va_D AM [(m, .inr (6, [.int (nI th), .ref mt, .int (nI ts), .int (nI ps), .int pv, .ref mp, .int (nI V), .ref mg, .ref mc, .ref mh, .int (nI rm), .ref ms, .ref mu, .int (nI on), .ref of1, .ref ot1, .ref oi1, .long sd, .ref ml, .ref md, .ref mw])), zA G ml 64 f, zA G mw 96 (zU (zU (zU (zWd sub g wd e) (3 * (zCt sub e)) (g (1 + (3 * e)))) ((3 * (zCt sub e)) + 1) (g ((1 + (3 * e)) + 1))) ((3 * (zCt sub e)) + 2) (g ((1 + (3 * e)) + 2))), zA G a 49 g] := hD
          refine lv_iinc (v := nI 3) (lv' := [(5, .int (nI 3)), (0, .ref m), (1, .ref a), (2, .int (nI sub)), (3, .int (nI (zCt sub e))), (4, .int (nI e))]) hx hb dX9_closeOf_53 hl (k := 0) rfl (zinc 2 1) (by decide) rfl (fun ls hl => ?_)
          refine lv_goto (tgt := 25) hx hb dX9_closeOf_56 (by decide) ?_
          refine lv_iload hx hb dX9_closeOf_25 (lv_at hl 0 rfl) ?_
          refine lv_iconst (v := nI 3) hx hb dX9_closeOf_27 (by decide) ?_
          refine zkk_ge_t (tgt := 59) hx hb dX9_closeOf_28 (by decide) (by decide) ?_
          refine lv_iinc (v := nI ((zCt sub e) + 1)) (lv' := [(3, .int (nI ((zCt sub e) + 1))), (5, .int (nI 3)), (0, .ref m), (1, .ref a), (2, .int (nI sub)), (4, .int (nI e))]) hx hb dX9_closeOf_59 hl (k := 4) rfl (zinc (zCt sub e) 1) (by decide) rfl (fun ls hl => ?_)
          refine lv_iinc (v := nI (e + 1)) (lv' := [(4, .int (nI (e + 1))), (3, .int (nI ((zCt sub e) + 1))), (5, .int (nI 3)), (0, .ref m), (1, .ref a), (2, .int (nI sub))]) hx hb dX9_closeOf_62 hl (k := 5) rfl (zinc e 1) (by decide) rfl (fun ls hl => ?_)
          refine lv_goto (tgt := 5) hx hb dX9_closeOf_65 (by decide) ?_
          have hP : va_P G.1 vwCl [(m, .inr (6, [.int (nI th), .ref mt, .int (nI ts), .int (nI ps), .int pv, .ref mp, .int (nI V), .ref mg, .ref mc, .ref mh, .int (nI rm), .ref ms, .ref mu, .int (nI on), .ref of1, .ref ot1, .ref oi1, .long sd, .ref ml, .ref md, .ref mw])), zA G ml 64 f, zA G mw 96 (zWd sub g wd (e + 1)), zA G a 49 g] H := by (first | (simp only [zWd_y hbit, zWd3]) | (simp only [zWd_n hbit])); exact hP
          have hD : va_D AM [(m, .inr (6, [.int (nI th), .ref mt, .int (nI ts), .int (nI ps), .int pv, .ref mp, .int (nI V), .ref mg, .ref mc, .ref mh, .int (nI rm), .ref ms, .ref mu, .int (nI on), .ref of1, .ref ot1, .ref oi1, .long sd, .ref ml, .ref md, .ref mw])), zA G ml 64 f, zA G mw 96 (zWd sub g wd (e + 1)), zA G a 49 g] := by (first | (simp only [zWd_y hbit, zWd3]) | (simp only [zWd_n hbit])); exact hD
          have hl : lv_has ls 6 [(0, .ref m), (1, .ref a), (2, .int (nI sub)), (3, .int (nI (zCt sub (e + 1)))), (4, .int (nI (e + 1)))] := by (first | (simp only [zCt_y hbit]) | (simp only [zCt_n hbit])); exact (lv_sub hl [3, 4, 5, 1, 0] rfl)
          exact ih5 (e + 1) (by first | assumption | omega) (by omega) _ _ _ hP hD hS hl
  exact lp5 (g 0 - 0 + 1) 0 (by first | assumption | omega) (Nat.lt_succ_self _) _ _ _ hP hD hS (lv_sub hl [2, 3, 4, 1, 0] rfl)
set_option maxHeartbeats 4000000 in
set_option maxRecDepth 100000 in
theorem c_X9_pairsOf (l : Launch) (G : zG) (m mt mp mg mc mh ms mu of1 ot1 oi1 ml md mw th ts ps V rm on : Nat) (pv : Int32) (sd : Int64) (f wd : Nat → Nat) (a : Nat) (g : Nat → Nat) (sub : Nat) (hV : V ≤ 8) (hL : zL2 f) (hw8 : ∀ i, wd i < 8) (hg0 : g 0 ≤ 16) (hg8 : ∀ i, 1 ≤ i → g i < 8) (hs : sub < 65536) : MI l yX9_pairsOf wsX9_pairsOf ({ frames := 3, cells := 0, slots := 0, locals := 76 }) G [.ref m, .ref a, .int (nI sub)] [(m, .inr (6, [.int (nI th), .ref mt, .int (nI ts), .int (nI ps), .int pv, .ref mp, .int (nI V), .ref mg, .ref mc, .ref mh, .int (nI rm), .ref ms, .ref mu, .int (nI on), .ref of1, .ref ot1, .ref oi1, .long sd, .ref ml, .ref md, .ref mw])), zA G ml 64 f, zA G mw 96 wd, zA G a 49 g] (nI (mPr V g sub)) [(m, .inr (6, [.int (nI th), .ref mt, .int (nI ts), .int (nI ps), .int pv, .ref mp, .int (nI V), .ref mg, .ref mc, .ref mh, .int (nI rm), .ref ms, .ref mu, .int (nI on), .ref of1, .ref ot1, .ref oi1, .long sd, .ref ml, .ref md, .ref mw])), zA G ml 64 (mT g sub), zA G mw 96 (zWd sub g wd (g 0)), zA G a 49 g] := by
  refine MI.enter (cc := cX9_pairsOf) (maxL := 3) (by decide) rfl (Nat.le_of_ble_eq_true rfl) rfl ?_
  intro pM eM sM mM bM tM cM QM AM ls hat kret
  obtain ⟨SM, hA, hK, hE, hP, hD, hS, hl⟩ := hat
  have hx := SM.1
  have hb := SM.2.1
  have hown : sM.vm.findClass RX9 = some mM.cls := SM.2.2.2.1
  have hts := SM.2.2.2.2
  have hl : lv_has ls 3 [(0, .ref m), (1, .ref a), (2, .int (nI sub))] := hl
  refine lv_aload_n hx hb dX9_pairsOf_0 rfl (lv_at hl 0 rfl) ?_
  refine lv_aload_n hx hb dX9_pairsOf_1 rfl (lv_at hl 1 rfl) ?_
  refine lv_iload_n hx hb dX9_pairsOf_2 rfl (lv_at hl 2 rfl) ?_
  refine zVv (W1 := [(m, .inr (6, [.int (nI th), .ref mt, .int (nI ts), .int (nI ps), .int pv, .ref mp, .int (nI V), .ref mg, .ref mc, .ref mh, .int (nI rm), .ref ms, .ref mu, .int (nI on), .ref of1, .ref ot1, .ref oi1, .long sd, .ref ml, .ref md, .ref mw])), zA G ml 64 f, zA G mw 96 wd, zA G a 49 g]) (W2 := [(m, .inr (6, [.int (nI th), .ref mt, .int (nI ts), .int (nI ps), .int pv, .ref mp, .int (nI V), .ref mg, .ref mc, .ref mh, .int (nI rm), .ref ms, .ref mu, .int (nI on), .ref of1, .ref ot1, .ref oi1, .long sd, .ref ml, .ref md, .ref mw])), zA G ml 64 (mT g sub), zA G mw 96 (zWd sub g wd (g 0)), zA G a 49 g]) (wr := []) (rest := []) SM (c_X9_closeOf l G m mt mp mg mc mh ms mu of1 ot1 oi1 ml md mw th ts ps V rm on pv sd f wd a g sub (by first | assumption | omega) (by first | assumption | omega) (by first | assumption | omega) (by first | assumption | omega) (by first | assumption | omega)) (cwV 2 hts gX9_pairsOf_X9_closeOf rfl rfl rfl (by decide +kernel) ⟨Nat.le_of_ble_eq_true rfl, Nat.le_of_ble_eq_true rfl⟩) hK hE hA hP hD hS hl.1 [0, 1, 2, 3] [] [0, 1, 2, 3] rfl rfl rfl (by decide) (ci := 6) rfl rfl rfl rfl rfl (Nat.le_of_ble_eq_true rfl) ⟨Nat.zero_le _, Nat.zero_le _⟩ dX9_pairsOf_3 (fun H locs hP hD hS => ?_)
  refine lv_aload_n hx hb dX9_pairsOf_6 rfl (lv_at hl 0 rfl) ?_
  refine zVi (W1 := [(m, .inr (6, [.int (nI th), .ref mt, .int (nI ts), .int (nI ps), .int pv, .ref mp, .int (nI V), .ref mg, .ref mc, .ref mh, .int (nI rm), .ref ms, .ref mu, .int (nI on), .ref of1, .ref ot1, .ref oi1, .long sd, .ref ml, .ref md, .ref mw])), zA G ml 64 (mT g sub), zA G mw 96 (zWd sub g wd (g 0)), zA G a 49 g]) (W2 := [(m, .inr (6, [.int (nI th), .ref mt, .int (nI ts), .int (nI ps), .int pv, .ref mp, .int (nI V), .ref mg, .ref mc, .ref mh, .int (nI rm), .ref ms, .ref mu, .int (nI on), .ref of1, .ref ot1, .ref oi1, .long sd, .ref ml, .ref md, .ref mw])), zA G ml 64 (mT g sub), zA G mw 96 (zWd sub g wd (g 0)), zA G a 49 g]) (wr := [zA G mw 96 (zWd sub g wd (g 0)), zA G a 49 g]) (rest := []) SM (c_X9_pairs l G m mt mp mg mc mh ms mu of1 ot1 oi1 ml md mw th ts ps V rm on pv sd (mT g sub) (mT_2 g sub) (by first | assumption | omega)) (cwV 0 hts gX9_pairsOf_X9_pairs rfl rfl rfl (by decide +kernel) ⟨Nat.le_of_ble_eq_true rfl, Nat.le_of_ble_eq_true rfl⟩) hK hE hA hP hD hS hl.1 [0, 1] [2, 3] [2, 3, 0, 1] rfl rfl rfl (by decide) (ci := 6) rfl rfl rfl rfl rfl (Nat.le_of_ble_eq_true rfl) ⟨Nat.zero_le _, Nat.zero_le _⟩ dX9_pairsOf_7 (fun H locs hP hD hS => ?_)
  exact kret _ _ _ _ _ _ rfl rfl hP hD hS dX9_pairsOf_10
