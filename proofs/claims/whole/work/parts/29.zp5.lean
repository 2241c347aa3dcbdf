set_option maxHeartbeats 1000000 in
set_option maxRecDepth 100000 in
theorem c_X9_closeDepths (l : Launch) (G : zG) (m mt mp mg mc mh ms mu of1 ot1 oi1 ml md mw th ts ps V rm on : Nat) (pv : Int32) (sd : Int64) (fd g : Nat → Nat) (hD2 : zL2 fd) (hg0 : g 0 ≤ 16) (hg8 : ∀ i, 1 ≤ i → g i < 8) : MV l yX9_closeDepths wsX9_closeDepths ({ frames := 1, cells := 0, slots := 0, locals := 25 }) G [.ref m] [(m, .inr (6, [.int (nI th), .ref mt, .int (nI ts), .int (nI ps), .int pv, .ref mp, .int (nI V), .ref mg, .ref mc, .ref mh, .int (nI rm), .ref ms, .ref mu, .int (nI on), .ref of1, .ref ot1, .ref oi1, .long sd, .ref ml, .ref md, .ref mw])), zA G md 64 fd, zA G mg 49 g] [(m, .inr (6, [.int (nI th), .ref mt, .int (nI ts), .int (nI ps), .int pv, .ref mp, .int (nI V), .ref mg, .ref mc, .ref mh, .int (nI rm), .ref ms, .ref mu, .int (nI on), .ref of1, .ref ot1, .ref oi1, .long sd, .ref ml, .ref md, .ref mw])), zA G md 64 (mDp g), zA G mg 49 g] := by
  refine MV.enter (cc := cX9_closeDepths) (maxL := 5) (by decide) rfl (Nat.le_of_ble_eq_true rfl) ?_
  intro pM eM sM mM bM tM cM QM AM ls hat kret
  obtain ⟨SM, hA, hK, hE, hP, hD, hS, hl⟩ := hat
  have hx := SM.1
  have hb := SM.2.1
  have hown : sM.vm.findClass RX9 = some mM.cls := SM.2.2.2.1
  have hts := SM.2.2.2.2
  have hinX9 : ∀ w ∈ u_ws RX9 TX9 21, w ∈ wsX9_closeDepths := by decide +kernel
  have hlk20 : (Cond.fieldLink RX9 20 "DyckReachabilityModel" "graph" "[I").before _ sM = true := hts _ (by decide +kernel)
  have hlk48 : (Cond.fieldLink RX9 48 "DyckReachabilityModel" "depths" "[I").before _ sM = true := hts _ (by decide +kernel)
  have hl : lv_has ls 5 [(0, .ref m)] := hl
  refine lv_iconst (v := nI 0) hx hb dX9_closeDepths_0 (by decide) ?_
  refine lv_istore_n (lv' := [(1, .int (nI 0)), (0, .ref m)]) hx hb dX9_closeDepths_1 rfl hl (by decide) rfl (fun ls hl => ?_)
  have lp2 : ∀ (n9 : Nat), ∀ (i : Nat) (f0 : Nat → Nat), (i ≤ 64) → (f0 = zIt zC1 i fd) → (64 - i) < n9 → ∀ (H : Heap) (locs : List Loc) (ls : Array Slot), va_P G.1 vwCl [(m, .inr (6, [.int (nI th), .ref mt, .int (nI ts), .int (nI ps), .int pv, .ref mp, .int (nI V), .ref mg, .ref mc, .ref mh, .int (nI rm), .ref ms, .ref mu, .int (nI on), .ref of1, .ref ot1, .ref oi1, .long sd, .ref ml, .ref md, .ref mw])), zA G md 64 f0, zA G mg 49 g] H → va_D AM [(m, .inr (6, [.int (nI th), .ref mt, .int (nI ts), .int (nI ps), .int pv, .ref mp, .int (nI V), .ref mg, .ref mc, .ref mh, .int (nI rm), .ref ms, .ref mu, .int (nI on), .ref of1, .ref ot1, .ref oi1, .long sd, .ref ml, .ref md, .ref mw])), zA G md 64 f0, zA G mg 49 g] → va_S AM sM.heap H locs → lv_has ls 5 [(0, .ref m), (1, .int (nI i))] → W pM l eM ({ frames := 1, cells := 0, slots := 0, locals := 25 }) sM mM (([.ref m] : List Value).toArray) bM tM cM H locs 0 0 QM (F0 mM 2 ls []) := by
    intro n9
    induction n9 with
    | zero =>
      intro _ _ _ _ h9
      exact absurd h9 (Nat.not_lt_zero _)
    | succ n9 ih9 =>
      intro i f0 h1 hq0 hmu2 H locs ls hP hD hS hl
      have ih2 := ih9
      clear ih9
      refine lv_iload_n hx hb dX9_closeDepths_2 rfl (lv_at hl 1 rfl) ?_
      refine lv_bipush (v := nI 64) hx hb dX9_closeDepths_3 (by decide) ?_
      refine zn_ge (tgt := 37) hx hb dX9_closeDepths_5 (by decide) (by omega) (by omega) (fun c_1 => ?_) (fun c_1 => ?_)
      · skip
        obtain ⟨hP, hD⟩ := zcanon hP hD 1 rfl zC0 (fun j h9 => by have hq9 : i = 64 := (by omega); subst hq9; rw [hq0]; exact zC1_at fd 64 j h9)
        have hP : va_P G.1 vwCl [(m, .inr (6, [.int (nI th), .ref mt, .int (nI ts), .int (nI ps), .int pv, .ref mp, .int (nI V), .ref mg, .ref mc, .ref mh, .int (nI rm), .ref ms, .ref mu, .int (nI on), .ref of1, .ref ot1, .ref oi1, .long sd, .ref ml, .ref md, .ref mw])), zA G md 64 zC0, zA G mg 49 g] H := hP
        have hD : va_D AM [(m, .inr (6, [.int (nI th), .ref mt, .int (nI ts), .int (nI ps), .int pv, .ref mp, .int (nI V), .ref mg, .ref mc, .ref mh, .int (nI rm), .ref ms, .ref mu, .int (nI on), .ref of1, .ref ot1, .ref oi1, .long sd, .ref ml, .ref md, .ref mw])), zA G md 64 zC0, zA G mg 49 g] := hD
        refine lv_iconst (v := nI 1) hx hb dX9_closeDepths_37 (by decide) ?_
        refine lv_istore_n (lv' := [(1, .int (nI 1)), (0, .ref m)]) hx hb dX9_closeDepths_38 rfl hl (by decide) rfl (fun ls hl => ?_)
        have lp39 : ∀ (n9 : Nat), ∀ (fu : Nat) (f1 : Nat → Nat) (b : Bool), (mDp g = if b = true then yClW g fu f1 else f1) → (b = true → zSum f1 < fu) → (zL2 f1) → (if b = true then zSum f1 + 1 else 0) < n9 → ∀ (H : Heap) (locs : List Loc) (ls : Array Slot), va_P G.1 vwCl [(m, .inr (6, [.int (nI th), .ref mt, .int (nI ts), .int (nI ps), .int pv, .ref mp, .int (nI V), .ref mg, .ref mc, .ref mh, .int (nI rm), .ref ms, .ref mu, .int (nI on), .ref of1, .ref ot1, .ref oi1, .long sd, .ref ml, .ref md, .ref mw])), zA G md 64 f1, zA G mg 49 g] H → va_D AM [(m, .inr (6, [.int (nI th), .ref mt, .int (nI ts), .int (nI ps), .int pv, .ref mp, .int (nI V), .ref mg, .ref mc, .ref mh, .int (nI rm), .ref ms, .ref mu, .int (nI on), .ref of1, .ref ot1, .ref oi1, .long sd, .ref ml, .ref md, .ref mw])), zA G md 64 f1, zA G mg 49 g] → va_S AM sM.heap H locs → lv_has ls 5 [(0, .ref m), (1, .int (bI (decide (b = true))))] → W pM l eM ({ frames := 1, cells := 0, slots := 0, locals := 25 }) sM mM (([.ref m] : List Value).toArray) bM tM cM H locs 0 0 QM (F0 mM 39 ls []) := by
          intro n9
          induction n9 with
          | zero =>
            intro _ _ _ _ _ _ h9
            exact absurd h9 (Nat.not_lt_zero _)
          | succ n9 ih9 =>
            intro fu f1 b hq1 hfu hf1 hmu39 H locs ls hP hD hS hl
            have ih39 := ih9
            clear ih9
            refine lv_iload_n hx hb dX9_closeDepths_39 rfl (lv_at hl 1 rfl) ?_
            refine zb_eq (tgt := 309) hx hb dX9_closeDepths_40 (by decide) (fun c_2 => ?_) (fun c_2 => ?_)
            · skip
              have hbf : ¬ b = true := c_2
              exact kret _ _ _ _ _ (by rw [hq1, if_neg hbf]) hP hD hS dX9_closeDepths_309
            · skip
              have hbt : b = true := c_2
              refine lv_iconst (v := nI 0) hx hb dX9_closeDepths_43 (by decide) ?_
              refine lv_istore_n (lv' := [(1, .int (nI 0)), (0, .ref m)]) hx hb dX9_closeDepths_44 rfl hl (by decide) rfl (fun ls hl => ?_)
              refine lv_iconst (v := nI 1) hx hb dX9_closeDepths_45 (by decide) ?_
              refine lv_istore_n (lv' := [(2, .int (nI 1)), (1, .int (nI 0)), (0, .ref m)]) hx hb dX9_closeDepths_46 rfl hl (by decide) rfl (fun ls hl => ?_)
              have lp47 : ∀ (n9 : Nat), ∀ (e : Nat) (f2 : Nat → Nat) (b1 : Bool), (e ≤ g 0) → ((f2, b1) = zIt (yPe g) e (f1, false)) → (zL2 f2) → (g 0 - e) < n9 → ∀ (H : Heap) (locs : List Loc) (ls : Array Slot), va_P G.1 vwCl [(m, .inr (6, [.int (nI th), .ref mt, .int (nI ts), .int (nI ps), .int pv, .ref mp, .int (nI V), .ref mg, .ref mc, .ref mh, .int (nI rm), .ref ms, .ref mu, .int (nI on), .ref of1, .ref ot1, .ref oi1, .long sd, .ref ml, .ref md, .ref mw])), zA G md 64 f2, zA G mg 49 g] H → va_D AM [(m, .inr (6, [.int (nI th), .ref mt, .int (nI ts), .int (nI ps), .int pv, .ref mp, .int (nI V), .ref mg, .ref mc, .ref mh, .int (nI rm), .ref ms, .ref mu, .int (nI on), .ref of1, .ref ot1, .ref oi1, .long sd, .ref ml, .ref md, .ref mw])), zA G md 64 f2, zA G mg 49 g] → va_S AM sM.heap H locs → lv_has ls 5 [(0, .ref m), (1, .int (bI (decide (b1 = true)))), (2, .int (nI (1 + 3 * e)))] → W pM l eM ({ frames := 1, cells := 0, slots := 0, locals := 25 }) sM mM (([.ref m] : List Value).toArray) bM tM cM H locs 0 0 QM (F0 mM 47 ls []) := by
                intro n9
                induction n9 with
                | zero =>
                  intro _ _ _ _ _ _ h9
                  exact absurd h9 (Nat.not_lt_zero _)
                | succ n9 ih9 =>
                  intro e f2 b1 h2 hq hf2 hmu47 H locs ls hP hD hS hl
                  have ih47 := ih9
                  clear ih9
                  refine lv_iload_n hx hb dX9_closeDepths_47 rfl (lv_at hl 2 rfl) ?_
                  refine lv_iconst (v := nI 3) hx hb dX9_closeDepths_48 (by decide) ?_
                  refine lv_aload_n hx hb dX9_closeDepths_49 rfl (lv_at hl 0 rfl) ?_
                  refine va_get (D := G.1) (ci := 6) (v := .ref mg) (C := RX9) (T := TX9) (N := 21) hx hb hts hinX9 hown hK hP 0 rfl rfl 7 (by decide) hlk20 (fun _ h9 => h9) rfl dX9_closeDepths_50 ?_
                  refine lv_iconst (v := nI 0) hx hb dX9_closeDepths_53 (by decide) ?_
                  refine zi_ald hx hb hK hP 2 rfl (by omega) (by omega) dX9_closeDepths_54 ?_
                  have hb_3 := hg0
                  refine zi_mul hx hb dX9_closeDepths_55 ?_
                  refine zn_ge (tgt := 219) hx hb dX9_closeDepths_56 (by decide) (by omega) (by omega) (fun c_4 => ?_) (fun c_4 => ?_)
                  · skip
                    refine lv_iconst (v := nI 0) hx hb dX9_closeDepths_219 (by decide) ?_
                    refine lv_istore_n (lv' := [(2, .int (nI 0)), (0, .ref m), (1, .int (bI (decide (b1 = true))))]) hx hb dX9_closeDepths_220 rfl hl (by decide) rfl (fun ls hl => ?_)
                    have lp221 : ∀ (n9 : Nat), ∀ (k : Nat) (f4 : Nat → Nat) (b3 : Bool), (k ≤ 512) → ((f4, b3) = zIt yPk k (zIt (yPe g) (g 0) (f1, false))) → (zL2 f4) → (512 - k) < n9 → ∀ (H : Heap) (locs : List Loc) (ls : Array Slot), va_P G.1 vwCl [(m, .inr (6, [.int (nI th), .ref mt, .int (nI ts), .int (nI ps), .int pv, .ref mp, .int (nI V), .ref mg, .ref mc, .ref mh, .int (nI rm), .ref ms, .ref mu, .int (nI on), .ref of1, .ref ot1, .ref oi1, .long sd, .ref ml, .ref md, .ref mw])), zA G md 64 f4, zA G mg 49 g] H → va_D AM [(m, .inr (6, [.int (nI th), .ref mt, .int (nI ts), .int (nI ps), .int pv, .ref mp, .int (nI V), .ref mg, .ref mc, .ref mh, .int (nI rm), .ref ms, .ref mu, .int (nI on), .ref of1, .ref ot1, .ref oi1, .long sd, .ref ml, .ref md, .ref mw])), zA G md 64 f4, zA G mg 49 g] → va_S AM sM.heap H locs → lv_has ls 5 [(0, .ref m), (1, .int (bI (decide (b3 = true)))), (2, .int (nI k))] → W pM l eM ({ frames := 1, cells := 0, slots := 0, locals := 25 }) sM mM (([.ref m] : List Value).toArray) bM tM cM H locs 0 0 QM (F0 mM 221 ls []) := by
                      intro n9
                      induction n9 with
                      | zero =>
                        intro _ _ _ _ _ _ h9
                        exact absurd h9 (Nat.not_lt_zero _)
                      | succ n9 ih9 =>
                        intro k f4 b3 h6 hq3 hf4 hmu221 H locs ls hP hD hS hl
                        have ih221 := ih9
                        clear ih9
                        have hl1 := hf4 (8 * (k / 64) + k / 8 % 8)
                        have hl2 := hf4 (8 * (k / 8 % 8) + k % 8)
                        refine lv_iload_n hx hb dX9_closeDepths_221 rfl (lv_at hl 2 rfl) ?_
                        refine lv_sipush (v := nI 512) hx hb dX9_closeDepths_222 (by decide) ?_
                        refine zn_ge (tgt := 306) hx hb dX9_closeDepths_225 (by decide) (by omega) (by omega) (fun c_5 => ?_) (fun c_5 => ?_)
                        · skip
                          refine lv_goto (tgt := 39) hx hb dX9_closeDepths_306 (by decide) ?_
                          have hps : (f4, b3) = yPs g f1 := by have hq9 : k = 512 := (by omega); subst hq9; exact hq3
                          have hff := hfu hbt
                          exact ih39 (fu - 1) f4 b3 (mDp_end2 hq1 hbt hff hps) (yPs_fu hg8 hps hff) hf4 (yPs_mu hg8 hps hbt hmu39) _ _ _ hP hD hS (lv_sub hl [0, 1] rfl)
                        · skip
                          refine lv_aload_n hx hb dX9_closeDepths_228 rfl (lv_at hl 0 rfl) ?_
                          refine va_get (D := G.1) (ci := 6) (v := .ref md) (C := RX9) (T := TX9) (N := 21) hx hb hts hinX9 hown hK hP 0 rfl rfl 19 (by decide) hlk48 (fun _ h9 => h9) rfl dX9_closeDepths_229 ?_
                          refine lv_bipush (v := nI 8) hx hb dX9_closeDepths_232 (by decide) ?_
                          refine lv_iload_n hx hb dX9_closeDepths_234 rfl (lv_at hl 2 rfl) ?_
                          refine lv_bipush (v := nI 64) hx hb dX9_closeDepths_235 (by decide) ?_
                          refine zi_div hx hb dX9_closeDepths_237 (by omega) (by omega) (by omega) ?_
                          refine zi_mul hx hb dX9_closeDepths_238 ?_
                          refine lv_iload_n hx hb dX9_closeDepths_239 rfl (lv_at hl 2 rfl) ?_
                          refine lv_bipush (v := nI 8) hx hb dX9_closeDepths_240 (by decide) ?_
                          refine zi_div hx hb dX9_closeDepths_242 (by omega) (by omega) (by omega) ?_
                          refine lv_bipush (v := nI 8) hx hb dX9_closeDepths_243 (by decide) ?_
                          refine zi_rem hx hb dX9_closeDepths_245 (by omega) (by omega) (by omega) ?_
                          refine zi_add hx hb dX9_closeDepths_246 ?_
                          refine zi_ald hx hb hK hP 1 rfl (by omega) (by omega) dX9_closeDepths_247 ?_
                          have hb_6 := hf4 ((8 * (k / 64)) + ((k / 8) % 8))
                          refine lv_istore_n (lv' := [(3, .int (nI (f4 ((8 * (k / 64)) + ((k / 8) % 8))))), (0, .ref m), (1, .int (bI (decide (b3 = true)))), (2, .int (nI k))]) hx hb dX9_closeDepths_248 rfl hl (by decide) rfl (fun ls hl => ?_)
                          refine lv_aload_n hx hb dX9_closeDepths_249 rfl (lv_at hl 1 rfl) ?_
                          refine va_get (D := G.1) (ci := 6) (v := .ref md) (C := RX9) (T := TX9) (N := 21) hx hb hts hinX9 hown hK hP 0 rfl rfl 19 (by decide) hlk48 (fun _ h9 => h9) rfl dX9_closeDepths_250 ?_
                          refine lv_bipush (v := nI 8) hx hb dX9_closeDepths_253 (by decide) ?_
                          refine lv_iload_n hx hb dX9_closeDepths_255 rfl (lv_at hl 3 rfl) ?_
                          refine lv_bipush (v := nI 8) hx hb dX9_closeDepths_256 (by decide) ?_
                          refine zi_div hx hb dX9_closeDepths_258 (by omega) (by omega) (by omega) ?_
                          refine lv_bipush (v := nI 8) hx hb dX9_closeDepths_259 (by decide) ?_
                          refine zi_rem hx hb dX9_closeDepths_261 (by omega) (by omega) (by omega) ?_
                          refine zi_mul hx hb dX9_closeDepths_262 ?_
                          refine lv_iload_n hx hb dX9_closeDepths_263 rfl (lv_at hl 3 rfl) ?_
                          refine lv_bipush (v := nI 8) hx hb dX9_closeDepths_264 (by decide) ?_
                          refine zi_rem hx hb dX9_closeDepths_266 (by omega) (by omega) (by omega) ?_
                          refine zi_add hx hb dX9_closeDepths_267 ?_
                          refine zi_ald hx hb hK hP 1 rfl (by omega) (by omega) dX9_closeDepths_268 ?_
                          have hb_7 := hf4 ((8 * ((k / 8) % 8)) + (k % 8))
                          refine lv_istore (lv' := [(4, .int (nI (f4 ((8 * ((k / 8) % 8)) + (k % 8))))), (3, .int (nI (f4 ((8 * (k / 64)) + ((k / 8) % 8))))), (0, .ref m), (1, .int (bI (decide (b3 = true)))), (2, .int (nI k))]) hx hb dX9_closeDepths_269 hl (by decide) rfl (fun ls hl => ?_)
                          refine lv_aload_n hx hb dX9_closeDepths_271 rfl (lv_at hl 2 rfl) ?_
                          refine lv_iload_n hx hb dX9_closeDepths_272 rfl (lv_at hl 4 rfl) ?_
                          refine lv_bipush (v := nI 64) hx hb dX9_closeDepths_273 (by decide) ?_
                          refine zi_div hx hb dX9_closeDepths_275 (by omega) (by omega) (by omega) ?_
                          refine lv_iload_n hx hb dX9_closeDepths_276 rfl (lv_at hl 4 rfl) ?_
                          refine lv_bipush (v := nI 8) hx hb dX9_closeDepths_277 (by decide) ?_
                          refine zi_rem hx hb dX9_closeDepths_279 (by omega) (by omega) (by omega) ?_
                          refine lv_iload_n hx hb dX9_closeDepths_280 rfl (lv_at hl 1 rfl) ?_
                          refine lv_iload hx hb dX9_closeDepths_281 (lv_at hl 0 rfl) ?_
                          refine zn_le (tgt := 290) hx hb dX9_closeDepths_283 (by decide) (by omega) (by omega) (fun c_8 => ?_) (fun c_8 => ?_)
                          · skip
                            refine lv_iload hx hb dX9_closeDepths_290 (lv_at hl 0 rfl) ?_
                            refine zVi (W1 := [(m, .inr (6, [.int (nI th), .ref mt, .int (nI ts), .int (nI ps), .int pv, .ref mp, .int (nI V), .ref mg, .ref mc, .ref mh, .int (nI rm), .ref ms, .ref mu, .int (nI on), .ref of1, .ref ot1, .ref oi1, .long sd, .ref ml, .ref md, .ref mw])), zA G md 64 f4, zA G mg 49 g]) (W2 := [(m, .inr (6, [.int (nI th), .ref mt, .int (nI ts), .int (nI ps), .int pv, .ref mp, .int (nI V), .ref mg, .ref mc, .ref mh, .int (nI rm), .ref ms, .ref mu, .int (nI on), .ref of1, .ref ot1, .ref oi1, .long sd, .ref ml, .ref md, .ref mw])), zA G md 64 (mLdT (k / 64) (k % 8) (f4 ((8 * ((k / 8) % 8)) + (k % 8))) f4), zA G mg 49 g]) (wr := [zA G mg 49 g]) (rest := []) SM (c_X9_lessDeep l G m mt mp mg mc mh ms mu of1 ot1 oi1 ml md mw th ts ps V rm on pv sd f4 (k / 64) (k % 8) (f4 ((8 * ((k / 8) % 8)) + (k % 8))) hf4 (by omega) (by omega) (by omega)) (cwV 3 hts gX9_closeDepths_X9_lessDeep rfl rfl rfl (by decide +kernel) ⟨Nat.le_of_ble_eq_true rfl, Nat.le_of_ble_eq_true rfl⟩) hK hE hA hP hD hS hl.1 [0, 1] [2] [1, 2, 0] rfl rfl rfl (by decide) (ci := 6) rfl rfl rfl rfl rfl (Nat.le_of_ble_eq_true rfl) ⟨Nat.zero_le _, Nat.zero_le _⟩ dX9_closeDepths_292 (fun H locs hP hD hS => ?_)
                            refine zb_eq (tgt := 300) hx hb dX9_closeDepths_295 (by decide) (fun c_9 => ?_) (fun c_9 => ?_)
                            · skip
                              refine lv_iinc (v := nI (k + 1)) (lv' := [(2, .int (nI (k + 1))), (4, .int (nI (f4 ((8 * ((k / 8) % 8)) + (k % 8))))), (3, .int (nI (f4 ((8 * (k / 64)) + ((k / 8) % 8))))), (0, .ref m), (1, .int (bI (decide (b3 = true))))]) hx hb dX9_closeDepths_300 hl (k := 4) rfl (zinc k 1) (by decide) rfl (fun ls hl => ?_)
                              refine lv_goto (tgt := 221) hx hb dX9_closeDepths_303 (by decide) ?_
                              exact ih221 (k + 1) (mLdT (k / 64) (k % 8) (f4 ((8 * ((k / 8) % 8)) + (k % 8))) f4) b3 (by omega) (by rw [zIt_s, ← hq3]; unfold yPk; dsimp only; first | (rw [if_pos (by omega)]; unfold yIm; dsimp only; first | rw [decide_eq_true (by omega), Bool.or_true] | rw [decide_eq_false (by omega), Bool.or_false]) | (rw [if_neg (by omega)]; unfold yIm; dsimp only; first | rw [decide_eq_true (by omega), Bool.or_true] | rw [decide_eq_false (by omega), Bool.or_false])) (mLdT_2 hf4 (by omega)) (by omega) _ _ _ hP hD hS (lv_sub hl [3, 4, 0] rfl)
                            · skip
                              refine lv_iconst (v := nI 1) hx hb dX9_closeDepths_298 (by decide) ?_
                              refine lv_istore_n (lv' := [(1, .int (nI 1)), (4, .int (nI (f4 ((8 * ((k / 8) % 8)) + (k % 8))))), (3, .int (nI (f4 ((8 * (k / 64)) + ((k / 8) % 8))))), (0, .ref m), (2, .int (nI k))]) hx hb dX9_closeDepths_299 rfl hl (by decide) rfl (fun ls hl => ?_)
                              refine lv_iinc (v := nI (k + 1)) (lv' := [(2, .int (nI (k + 1))), (1, .int (nI 1)), (4, .int (nI (f4 ((8 * ((k / 8) % 8)) + (k % 8))))), (3, .int (nI (f4 ((8 * (k / 64)) + ((k / 8) % 8))))), (0, .ref m)]) hx hb dX9_closeDepths_300 hl (k := 4) rfl (zinc k 1) (by decide) rfl (fun ls hl => ?_)
                              refine lv_goto (tgt := 221) hx hb dX9_closeDepths_303 (by decide) ?_
                              exact ih221 (k + 1) (mLdT (k / 64) (k % 8) (f4 ((8 * ((k / 8) % 8)) + (k % 8))) f4) true (by omega) (by rw [zIt_s, ← hq3]; unfold yPk; dsimp only; first | (rw [if_pos (by omega)]; unfold yIm; dsimp only; first | rw [decide_eq_true (by omega), Bool.or_true] | rw [decide_eq_false (by omega), Bool.or_false]) | (rw [if_neg (by omega)]; unfold yIm; dsimp only; first | rw [decide_eq_true (by omega), Bool.or_true] | rw [decide_eq_false (by omega), Bool.or_false])) (mLdT_2 hf4 (by omega)) (by omega) _ _ _ hP hD hS (lv_sub hl [4, 1, 0] rfl)
                          · skip
                            refine lv_iload_n hx hb dX9_closeDepths_286 rfl (lv_at hl 1 rfl) ?_
                            refine lv_goto (tgt := 292) hx hb dX9_closeDepths_287 (by decide) ?_
                            refine zVi (W1 := [(m, .inr (6, [.int (nI th), .ref mt, .int (nI ts), .int (nI ps), .int pv, .ref mp, .int (nI V), .ref mg, .ref mc, .ref mh, .int (nI rm), .ref ms, .ref mu, .int (nI on), .ref of1, .ref ot1, .ref oi1, .long sd, .ref ml, .ref md, .ref mw])), zA G md 64 f4, zA G mg 49 g]) (W2 := [(m, .inr (6, [.int (nI th), .ref mt, .int (nI ts), .int (nI ps), .int pv, .ref mp, .int (nI V), .ref mg, .ref mc, .ref mh, .int (nI rm), .ref ms, .ref mu, .int (nI on), .ref of1, .ref ot1, .ref oi1, .long sd, .ref ml, .ref md, .ref mw])), zA G md 64 (mLdT (k / 64) (k % 8) (f4 ((8 * (k / 64)) + ((k / 8) % 8))) f4), zA G mg 49 g]) (wr := [zA G mg 49 g]) (rest := []) SM (c_X9_lessDeep l G m mt mp mg mc mh ms mu of1 ot1 oi1 ml md mw th ts ps V rm on pv sd f4 (k / 64) (k % 8) (f4 ((8 * (k / 64)) + ((k / 8) % 8))) hf4 (by omega) (by omega) (by omega)) (cwV 3 hts gX9_closeDepths_X9_lessDeep rfl rfl rfl (by decide +kernel) ⟨Nat.le_of_ble_eq_true rfl, Nat.le_of_ble_eq_true rfl⟩) hK hE hA hP hD hS hl.1 [0, 1] [2] [1, 2, 0] rfl rfl rfl (by decide) (ci := 6) rfl rfl rfl rfl rfl (Nat.le_of_ble_eq_true rfl) ⟨Nat.zero_le _, Nat.zero_le _⟩ dX9_closeDepths_292 (fun H locs hP hD hS => ?_)
                            refine zb_eq (tgt := 300) hx hb dX9_closeDepths_295 (by decide) (fun c_10 => ?_) (fun c_10 => ?_)
                            · skip
                              refine lv_iinc (v := nI (k + 1)) (lv' := [(2, .int (nI (k + 1))), (4, .int (nI (f4 ((8 * ((k / 8) % 8)) + (k % 8))))), (3, .int (nI (f4 ((8 * (k / 64)) + ((k / 8) % 8))))), (0, .ref m), (1, .int (bI (decide (b3 = true))))]) hx hb dX9_closeDepths_300 hl (k := 4) rfl (zinc k 1) (by decide) rfl (fun ls hl => ?_)
                              refine lv_goto (tgt := 221) hx hb dX9_closeDepths_303 (by decide) ?_
                              exact ih221 (k + 1) (mLdT (k / 64) (k % 8) (f4 ((8 * (k / 64)) + ((k / 8) % 8))) f4) b3 (by omega) (by rw [zIt_s, ← hq3]; unfold yPk; dsimp only; first | (rw [if_pos (by omega)]; unfold yIm; dsimp only; first | rw [decide_eq_true (by omega), Bool.or_true] | rw [decide_eq_false (by omega), Bool.or_false]) | (rw [if_neg (by omega)]; unfold yIm; dsimp only; first | rw [decide_eq_true (by omega), Bool.or_true] | rw [decide_eq_false (by omega), Bool.or_false])) (mLdT_2 hf4 (by omega)) (by omega) _ _ _ hP hD hS (lv_sub hl [3, 4, 0] rfl)
                            · skip
                              refine lv_iconst (v := nI 1) hx hb dX9_closeDepths_298 (by decide) ?_
                              refine lv_istore_n (lv' := [(1, .int (nI 1)), (4, .int (nI (f4 ((8 * ((k / 8) % 8)) + (k % 8))))), (3, .int (nI (f4 ((8 * (k / 64)) + ((k / 8) % 8))))), (0, .ref m), (2, .int (nI k))]) hx hb dX9_closeDepths_299 rfl hl (by decide) rfl (fun ls hl => ?_)
                              refine lv_iinc (v := nI (k + 1)) (lv' := [(2, .int (nI (k + 1))), (1, .int (nI 1)), (4, .int (nI (f4 ((8 * ((k / 8) % 8)) + (k % 8))))), (3, .int (nI (f4 ((8 * (k / 64)) + ((k / 8) % 8))))), (0, .ref m)]) hx hb dX9_closeDepths_300 hl (k := 4) rfl (zinc k 1) (by decide) rfl (fun ls hl => ?_)
                              refine lv_goto (tgt := 221) hx hb dX9_closeDepths_303 (by decide) ?_
                              exact ih221 (k + 1) (mLdT (k / 64) (k % 8) (f4 ((8 * (k / 64)) + ((k / 8) % 8))) f4) true (by omega) (by rw [zIt_s, ← hq3]; unfold yPk; dsimp only; first | (rw [if_pos (by omega)]; unfold yIm; dsimp only; first | rw [decide_eq_true (by omega), Bool.or_true] | rw [decide_eq_false (by omega), Bool.or_false]) | (rw [if_neg (by omega)]; unfold yIm; dsimp only; first | rw [decide_eq_true (by omega), Bool.or_true] | rw [decide_eq_false (by omega), Bool.or_false])) (mLdT_2 hf4 (by omega)) (by omega) _ _ _ hP hD hS (lv_sub hl [4, 1, 0] rfl)
                    exact lp221 (512 - 0 + 1) 0 f2 b1 (Nat.zero_le _) (by have hq9 : e = g 0 := (by omega); rw [← hq9]; exact hq) hf2 (Nat.lt_succ_self _) _ _ _ hP hD hS (lv_sub hl [1, 2, 0] rfl)
                  · skip
                    refine lv_aload_n hx hb dX9_closeDepths_59 rfl (lv_at hl 0 rfl) ?_
                    refine va_get (D := G.1) (ci := 6) (v := .ref mg) (C := RX9) (T := TX9) (N := 21) hx hb hts hinX9 hown hK hP 0 rfl rfl 7 (by decide) hlk20 (fun _ h9 => h9) rfl dX9_closeDepths_60 ?_
                    refine lv_iload_n hx hb dX9_closeDepths_63 rfl (lv_at hl 2 rfl) ?_
                    refine lv_iconst (v := nI 2) hx hb dX9_closeDepths_64 (by decide) ?_
                    refine zi_addk (n := (1 + 3 * e) + 2) hx hb dX9_closeDepths_65 (by omega) ?_
                    refine zi_ald hx hb hK hP 2 rfl (by omega) (by omega) dX9_closeDepths_66 ?_
                    have hb_11 := hg8 ((1 + 3 * e) + 2) (by omega)
                    refine zd_ne (a := (g ((1 + 3 * e) + 2) : Nat)) (tgt := 94) hx hb dX9_closeDepths_67 (by decide) (zI (by omega)) (fun c_12 => ?_) (fun c_12 => ?_)
                    · skip
                      refine lv_iconst (v := nI 1) hx hb dX9_closeDepths_94 (by decide) ?_
                      refine lv_istore_n (lv' := [(3, .int (nI 1)), (0, .ref m), (1, .int (bI (decide (b1 = true)))), (2, .int (nI (1 + 3 * e)))]) hx hb dX9_closeDepths_95 rfl hl (by decide) rfl (fun ls hl => ?_)
                      have lp96 : ∀ (n9 : Nat), ∀ (c : Nat) (f3 : Nat → Nat) (b2 : Bool), (c ≤ g 0) → ((f3, b2) = zIt (yPeC g e) c (yPeA g e (f2, b1))) → (zL2 f3) → (c = 0 ∨ (1 ≤ g (1 + 3 * e + 2) ∧ g (1 + 3 * e + 2) ≤ 3)) → (g 0 - c) < n9 → ∀ (H : Heap) (locs : List Loc) (ls : Array Slot), va_P G.1 vwCl [(m, .inr (6, [.int (nI th), .ref mt, .int (nI ts), .int (nI ps), .int pv, .ref mp, .int (nI V), .ref mg, .ref mc, .ref mh, .int (nI rm), .ref ms, .ref mu, .int (nI on), .ref of1, .ref ot1, .ref oi1, .long sd, .ref ml, .ref md, .ref mw])), zA G md 64 f3, zA G mg 49 g] H → va_D AM [(m, .inr (6, [.int (nI th), .ref mt, .int (nI ts), .int (nI ps), .int pv, .ref mp, .int (nI V), .ref mg, .ref mc, .ref mh, .int (nI rm), .ref ms, .ref mu, .int (nI on), .ref of1, .ref ot1, .ref oi1, .long sd, .ref ml, .ref md, .ref mw])), zA G md 64 f3, zA G mg 49 g] → va_S AM sM.heap H locs → lv_has ls 5 [(0, .ref m), (1, .int (bI (decide (b2 = true)))), (2, .int (nI (1 + 3 * e))), (3, .int (nI (1 + 3 * c)))] → W pM l eM ({ frames := 1, cells := 0, slots := 0, locals := 25 }) sM mM (([.ref m] : List Value).toArray) bM tM cM H locs 0 0 QM (F0 mM 96 ls []) := by
                        intro n9
                        induction n9 with
                        | zero =>
                          intro _ _ _ _ _ _ _ h9
                          exact absurd h9 (Nat.not_lt_zero _)
                        | succ n9 ih9 =>
                          intro c f3 b2 h3 hq2 hf3 h5 hmu96 H locs ls hP hD hS hl
                          have ih96 := ih9
                          clear ih9
                          refine lv_iload_n hx hb dX9_closeDepths_96 rfl (lv_at hl 3 rfl) ?_
                          refine lv_iconst (v := nI 3) hx hb dX9_closeDepths_97 (by decide) ?_
                          refine lv_aload_n hx hb dX9_closeDepths_98 rfl (lv_at hl 0 rfl) ?_
                          refine va_get (D := G.1) (ci := 6) (v := .ref mg) (C := RX9) (T := TX9) (N := 21) hx hb hts hinX9 hown hK hP 0 rfl rfl 7 (by decide) hlk20 (fun _ h9 => h9) rfl dX9_closeDepths_99 ?_
                          refine lv_iconst (v := nI 0) hx hb dX9_closeDepths_102 (by decide) ?_
                          refine zi_ald hx hb hK hP 2 rfl (by omega) (by omega) dX9_closeDepths_103 ?_
                          have hb_13 := hg0
                          refine zi_mul hx hb dX9_closeDepths_104 ?_
                          refine zn_ge (tgt := 213) hx hb dX9_closeDepths_105 (by decide) (by omega) (by omega) (fun c_14 => ?_) (fun c_14 => ?_)
                          · skip
                            refine lv_iinc (v := nI ((1 + 3 * e) + 3)) (lv' := [(2, .int (nI ((1 + 3 * e) + 3))), (0, .ref m), (1, .int (bI (decide (b2 = true)))), (3, .int (nI (1 + 3 * c)))]) hx hb dX9_closeDepths_213 hl (k := 2) rfl (zinc (1 + 3 * e) 3) (by decide) rfl (fun ls hl => ?_)
                            refine lv_goto (tgt := 47) hx hb dX9_closeDepths_216 (by decide) ?_
                            have hl : lv_has ls 5 [(0, .ref m), (1, .int (bI (decide (b2 = true)))), (2, .int (nI (1 + 3 * (e + 1))))] := by (rw [z13]); exact (lv_sub hl [1, 2, 0] rfl)
                            exact ih47 (e + 1) f3 b2 (by omega) (yPe_end hq hq2 h5 (by omega)) hf3 (by omega) _ _ _ hP hD hS hl
                          · skip
                            refine lv_aload_n hx hb dX9_closeDepths_108 rfl (lv_at hl 0 rfl) ?_
                            refine va_get (D := G.1) (ci := 6) (v := .ref mg) (C := RX9) (T := TX9) (N := 21) hx hb hts hinX9 hown hK hP 0 rfl rfl 7 (by decide) hlk20 (fun _ h9 => h9) rfl dX9_closeDepths_109 ?_
                            refine lv_iload_n hx hb dX9_closeDepths_112 rfl (lv_at hl 2 rfl) ?_
                            refine lv_iconst (v := nI 2) hx hb dX9_closeDepths_113 (by decide) ?_
                            refine zi_addk (n := (1 + 3 * e) + 2) hx hb dX9_closeDepths_114 (by omega) ?_
                            refine zi_ald hx hb hK hP 2 rfl (by omega) (by omega) dX9_closeDepths_115 ?_
                            have hb_15 := hg8 ((1 + 3 * e) + 2) (by omega)
                            refine lv_i2l (v := lN (g ((1 + 3 * e) + 2))) hx hb dX9_closeDepths_116 (nI_l (by omega)) ?_
                            refine lv_lconst (v := lN 1) hx hb dX9_closeDepths_117 (by decide) ?_
                            refine lv_ldc2 (v := lN 3) hx hb hown (hts (.constantLong RX9 67 (3)) (by decide +kernel)) dX9_closeDepths_118 ?_
                            refine zSi (W1 := [(m, .inr (6, [.int (nI th), .ref mt, .int (nI ts), .int (nI ps), .int pv, .ref mp, .int (nI V), .ref mg, .ref mc, .ref mh, .int (nI rm), .ref ms, .ref mu, .int (nI on), .ref of1, .ref ot1, .ref oi1, .long sd, .ref ml, .ref md, .ref mw])), zA G md 64 f3, zA G mg 49 g]) (W2 := [(m, .inr (6, [.int (nI th), .ref mt, .int (nI ts), .int (nI ps), .int pv, .ref mp, .int (nI V), .ref mg, .ref mc, .ref mh, .int (nI rm), .ref ms, .ref mu, .int (nI on), .ref of1, .ref ot1, .ref oi1, .long sd, .ref ml, .ref md, .ref mw])), zA G md 64 f3, zA G mg 49 g]) (wr := [(m, .inr (6, [.int (nI th), .ref mt, .int (nI ts), .int (nI ps), .int pv, .ref mp, .int (nI V), .ref mg, .ref mc, .ref mh, .int (nI rm), .ref ms, .ref mu, .int (nI on), .ref of1, .ref ot1, .ref oi1, .long sd, .ref ml, .ref md, .ref mw])), zA G md 64 f3, zA G mg 49 g]) (rest := []) SM (c_X9_in_N l G (g ((1 + 3 * e) + 2)) 1 3 (by omega) (by omega) (by omega)) (va_cwS 3 hts gX9_closeDepths_X9_in rfl rfl rfl (by decide +kernel) ⟨Nat.le_of_ble_eq_true rfl, Nat.le_of_ble_eq_true rfl⟩) hK hE hA hP hD hS hl.1 [] [0, 1, 2] [0, 1, 2] rfl rfl rfl (by decide) rfl rfl (Nat.le_of_ble_eq_true rfl) ⟨Nat.zero_le _, Nat.zero_le _⟩ dX9_closeDepths_121 (fun H locs hP hD hS => ?_)
                            refine zb_eq (tgt := 213) hx hb dX9_closeDepths_124 (by decide) (fun c_16 => ?_) (fun c_16 => ?_)
                            · skip
                              refine lv_iinc (v := nI ((1 + 3 * e) + 3)) (lv' := [(2, .int (nI ((1 + 3 * e) + 3))), (0, .ref m), (1, .int (bI (decide (b2 = true)))), (3, .int (nI (1 + 3 * c)))]) hx hb dX9_closeDepths_213 hl (k := 2) rfl (zinc (1 + 3 * e) 3) (by decide) rfl (fun ls hl => ?_)
                              refine lv_goto (tgt := 47) hx hb dX9_closeDepths_216 (by decide) ?_
                              have hl : lv_has ls 5 [(0, .ref m), (1, .int (bI (decide (b2 = true)))), (2, .int (nI (1 + 3 * (e + 1))))] := by (rw [z13]); exact (lv_sub hl [1, 2, 0] rfl)
                              exact ih47 (e + 1) f3 b2 (by omega) (yPe_end hq hq2 h5 (by omega)) hf3 (by omega) _ _ _ hP hD hS hl
                            · skip
                              refine lv_aload_n hx hb dX9_closeDepths_127 rfl (lv_at hl 0 rfl) ?_
                              refine va_get (D := G.1) (ci := 6) (v := .ref md) (C := RX9) (T := TX9) (N := 21) hx hb hts hinX9 hown hK hP 0 rfl rfl 19 (by decide) hlk48 (fun _ h9 => h9) rfl dX9_closeDepths_128 ?_
                              refine lv_bipush (v := nI 8) hx hb dX9_closeDepths_131 (by decide) ?_
                              refine lv_aload_n hx hb dX9_closeDepths_133 rfl (lv_at hl 0 rfl) ?_
                              refine va_get (D := G.1) (ci := 6) (v := .ref mg) (C := RX9) (T := TX9) (N := 21) hx hb hts hinX9 hown hK hP 0 rfl rfl 7 (by decide) hlk20 (fun _ h9 => h9) rfl dX9_closeDepths_134 ?_
                              refine lv_iload_n hx hb dX9_closeDepths_137 rfl (lv_at hl 2 rfl) ?_
                              refine lv_iconst (v := nI 1) hx hb dX9_closeDepths_138 (by decide) ?_
                              refine zi_addk (n := (1 + 3 * e) + 1) hx hb dX9_closeDepths_139 (by omega) ?_
                              refine zi_ald hx hb hK hP 2 rfl (by omega) (by omega) dX9_closeDepths_140 ?_
                              have hb_17 := hg8 ((1 + 3 * e) + 1) (by omega)
                              refine zi_mul hx hb dX9_closeDepths_141 ?_
                              refine lv_aload_n hx hb dX9_closeDepths_142 rfl (lv_at hl 0 rfl) ?_
                              refine va_get (D := G.1) (ci := 6) (v := .ref mg) (C := RX9) (T := TX9) (N := 21) hx hb hts hinX9 hown hK hP 0 rfl rfl 7 (by decide) hlk20 (fun _ h9 => h9) rfl dX9_closeDepths_143 ?_
                              refine lv_iload_n hx hb dX9_closeDepths_146 rfl (lv_at hl 3 rfl) ?_
                              refine zi_ald hx hb hK hP 2 rfl (by omega) (by omega) dX9_closeDepths_147 ?_
                              have hb_18 := hg8 (1 + 3 * c) (by omega)
                              refine zi_add hx hb dX9_closeDepths_148 ?_
                              refine zi_ald hx hb hK hP 1 rfl (by omega) (by omega) dX9_closeDepths_149 ?_
                              have hb_19 := hf3 ((8 * (g ((1 + 3 * e) + 1))) + (g (1 + 3 * c)))
                              refine lv_istore (lv' := [(4, .int (nI (f3 ((8 * (g ((1 + 3 * e) + 1))) + (g (1 + 3 * c)))))), (0, .ref m), (1, .int (bI (decide (b2 = true)))), (2, .int (nI (1 + 3 * e))), (3, .int (nI (1 + 3 * c)))]) hx hb dX9_closeDepths_150 hl (by decide) rfl (fun ls hl => ?_)
                              refine lv_aload_n hx hb dX9_closeDepths_152 rfl (lv_at hl 1 rfl) ?_
                              refine va_get (D := G.1) (ci := 6) (v := .ref mg) (C := RX9) (T := TX9) (N := 21) hx hb hts hinX9 hown hK hP 0 rfl rfl 7 (by decide) hlk20 (fun _ h9 => h9) rfl dX9_closeDepths_153 ?_
                              refine lv_iload_n hx hb dX9_closeDepths_156 rfl (lv_at hl 4 rfl) ?_
                              refine lv_iconst (v := nI 2) hx hb dX9_closeDepths_157 (by decide) ?_
                              refine zi_addk (n := (1 + 3 * c) + 2) hx hb dX9_closeDepths_158 (by omega) ?_
                              refine zi_ald hx hb hK hP 2 rfl (by omega) (by omega) dX9_closeDepths_159 ?_
                              have hb_20 := hg8 ((1 + 3 * c) + 2) (by omega)
                              refine lv_aload_n hx hb dX9_closeDepths_160 rfl (lv_at hl 1 rfl) ?_
                              refine va_get (D := G.1) (ci := 6) (v := .ref mg) (C := RX9) (T := TX9) (N := 21) hx hb hts hinX9 hown hK hP 0 rfl rfl 7 (by decide) hlk20 (fun _ h9 => h9) rfl dX9_closeDepths_161 ?_
                              refine lv_iload_n hx hb dX9_closeDepths_164 rfl (lv_at hl 3 rfl) ?_
                              refine lv_iconst (v := nI 2) hx hb dX9_closeDepths_165 (by decide) ?_
                              refine zi_addk (n := (1 + 3 * e) + 2) hx hb dX9_closeDepths_166 (by omega) ?_
                              refine zi_ald hx hb hK hP 2 rfl (by omega) (by omega) dX9_closeDepths_167 ?_
                              have hb_21 := hg8 ((1 + 3 * e) + 2) (by omega)
                              refine lv_iconst (v := nI 3) hx hb dX9_closeDepths_168 (by decide) ?_
                              refine zi_addk (n := (g ((1 + 3 * e) + 2)) + 3) hx hb dX9_closeDepths_169 (by omega) ?_
                              refine zn_ne (tgt := 207) hx hb dX9_closeDepths_170 (by decide) (by omega) (by omega) (fun c_22 => ?_) (fun c_22 => ?_)
                              · skip
                                refine lv_iinc (v := nI ((1 + 3 * c) + 3)) (lv' := [(3, .int (nI ((1 + 3 * c) + 3))), (4, .int (nI (f3 ((8 * (g ((1 + 3 * e) + 1))) + (g (1 + 3 * c)))))), (0, .ref m), (1, .int (bI (decide (b2 = true)))), (2, .int (nI (1 + 3 * e)))]) hx hb dX9_closeDepths_207 hl (k := 4) rfl (zinc (1 + 3 * c) 3) (by decide) rfl (fun ls hl => ?_)
                                refine lv_goto (tgt := 96) hx hb dX9_closeDepths_210 (by decide) ?_
                                have hl : lv_has ls 5 [(0, .ref m), (1, .int (bI (decide (b2 = true)))), (2, .int (nI (1 + 3 * e))), (3, .int (nI (1 + 3 * (c + 1))))] := by (rw [z13]); exact (lv_sub hl [2, 3, 4, 0] rfl)
                                exact ih96 (c + 1) f3 b2 (by omega) (by rw [zIt_s, ← hq2]; unfold yPeC; first | (exfalso; omega) | (rw [if_pos (by dsimp only; omega)]; unfold yIm; dsimp only; first | rw [decide_eq_true (by omega), Bool.or_true] | rw [decide_eq_false (by omega), Bool.or_false]) | rw [if_neg (by dsimp only; omega)]) (by first | exact hf3 | exact mLdT_2 hf3 (by omega)) (Or.inr (by omega)) (by omega) _ _ _ hP hD hS hl
                              · skip
                                refine lv_iload hx hb dX9_closeDepths_173 (lv_at hl 0 rfl) ?_
                                refine lv_ldc (v := nI 2000000) hx hb hown (hts (.constant RX9 62 (2000000)) (by decide +kernel)) dX9_closeDepths_175 ?_
                                refine zn_ge (tgt := 207) hx hb dX9_closeDepths_177 (by decide) (by omega) (by omega) (fun c_23 => ?_) (fun c_23 => ?_)
                                · skip
                                  refine lv_iinc (v := nI ((1 + 3 * c) + 3)) (lv' := [(3, .int (nI ((1 + 3 * c) + 3))), (4, .int (nI (f3 ((8 * (g ((1 + 3 * e) + 1))) + (g (1 + 3 * c)))))), (0, .ref m), (1, .int (bI (decide (b2 = true)))), (2, .int (nI (1 + 3 * e)))]) hx hb dX9_closeDepths_207 hl (k := 4) rfl (zinc (1 + 3 * c) 3) (by decide) rfl (fun ls hl => ?_)
                                  refine lv_goto (tgt := 96) hx hb dX9_closeDepths_210 (by decide) ?_
                                  have hl : lv_has ls 5 [(0, .ref m), (1, .int (bI (decide (b2 = true)))), (2, .int (nI (1 + 3 * e))), (3, .int (nI (1 + 3 * (c + 1))))] := by (rw [z13]); exact (lv_sub hl [2, 3, 4, 0] rfl)
                                  exact ih96 (c + 1) f3 b2 (by omega) (by rw [zIt_s, ← hq2]; unfold yPeC; first | (exfalso; omega) | (rw [if_pos (by dsimp only; omega)]; unfold yIm; dsimp only; first | rw [decide_eq_true (by omega), Bool.or_true] | rw [decide_eq_false (by omega), Bool.or_false]) | rw [if_neg (by dsimp only; omega)]) (by first | exact hf3 | exact mLdT_2 hf3 (by omega)) (Or.inr (by omega)) (by omega) _ _ _ hP hD hS hl
                                · skip
                                  refine lv_aload_n hx hb dX9_closeDepths_180 rfl (lv_at hl 1 rfl) ?_
                                  refine lv_aload_n hx hb dX9_closeDepths_181 rfl (lv_at hl 1 rfl) ?_
                                  refine va_get (D := G.1) (ci := 6) (v := .ref mg) (C := RX9) (T := TX9) (N := 21) hx hb hts hinX9 hown hK hP 0 rfl rfl 7 (by decide) hlk20 (fun _ h9 => h9) rfl dX9_closeDepths_182 ?_
                                  refine lv_iload_n hx hb dX9_closeDepths_185 rfl (lv_at hl 3 rfl) ?_
                                  refine zi_ald hx hb hK hP 2 rfl (by omega) (by omega) dX9_closeDepths_186 ?_
                                  have hb_24 := hg8 (1 + 3 * e) (by omega)
                                  refine lv_aload_n hx hb dX9_closeDepths_187 rfl (lv_at hl 1 rfl) ?_
                                  refine va_get (D := G.1) (ci := 6) (v := .ref mg) (C := RX9) (T := TX9) (N := 21) hx hb hts hinX9 hown hK hP 0 rfl rfl 7 (by decide) hlk20 (fun _ h9 => h9) rfl dX9_closeDepths_188 ?_
                                  refine lv_iload_n hx hb dX9_closeDepths_191 rfl (lv_at hl 4 rfl) ?_
                                  refine lv_iconst (v := nI 1) hx hb dX9_closeDepths_192 (by decide) ?_
                                  refine zi_addk (n := (1 + 3 * c) + 1) hx hb dX9_closeDepths_193 (by omega) ?_
                                  refine zi_ald hx hb hK hP 2 rfl (by omega) (by omega) dX9_closeDepths_194 ?_
                                  have hb_25 := hg8 ((1 + 3 * c) + 1) (by omega)
                                  refine lv_iload hx hb dX9_closeDepths_195 (lv_at hl 0 rfl) ?_
                                  refine lv_iconst (v := nI 1) hx hb dX9_closeDepths_197 (by decide) ?_
                                  refine zi_addk (n := (f3 ((8 * (g ((1 + 3 * e) + 1))) + (g (1 + 3 * c)))) + 1) hx hb dX9_closeDepths_198 (by omega) ?_
                                  refine zVi (W1 := [(m, .inr (6, [.int (nI th), .ref mt, .int (nI ts), .int (nI ps), .int pv, .ref mp, .int (nI V), .ref mg, .ref mc, .ref mh, .int (nI rm), .ref ms, .ref mu, .int (nI on), .ref of1, .ref ot1, .ref oi1, .long sd, .ref ml, .ref md, .ref mw])), zA G md 64 f3, zA G mg 49 g]) (W2 := [(m, .inr (6, [.int (nI th), .ref mt, .int (nI ts), .int (nI ps), .int pv, .ref mp, .int (nI V), .ref mg, .ref mc, .ref mh, .int (nI rm), .ref ms, .ref mu, .int (nI on), .ref of1, .ref ot1, .ref oi1, .long sd, .ref ml, .ref md, .ref mw])), zA G md 64 (mLdT (g (1 + 3 * e)) (g ((1 + 3 * c) + 1)) ((f3 ((8 * (g ((1 + 3 * e) + 1))) + (g (1 + 3 * c)))) + 1) f3), zA G mg 49 g]) (wr := [zA G mg 49 g]) (rest := []) SM (c_X9_lessDeep l G m mt mp mg mc mh ms mu of1 ot1 oi1 ml md mw th ts ps V rm on pv sd f3 (g (1 + 3 * e)) (g ((1 + 3 * c) + 1)) ((f3 ((8 * (g ((1 + 3 * e) + 1))) + (g (1 + 3 * c)))) + 1) hf3 (by omega) (by omega) (by omega)) (cwV 3 hts gX9_closeDepths_X9_lessDeep rfl rfl rfl (by decide +kernel) ⟨Nat.le_of_ble_eq_true rfl, Nat.le_of_ble_eq_true rfl⟩) hK hE hA hP hD hS hl.1 [0, 1] [2] [1, 2, 0] rfl rfl rfl (by decide) (ci := 6) rfl rfl rfl rfl rfl (Nat.le_of_ble_eq_true rfl) ⟨Nat.zero_le _, Nat.zero_le _⟩ dX9_closeDepths_199 (fun H locs hP hD hS => ?_)
                                  refine zb_eq (tgt := 207) hx hb dX9_closeDepths_202 (by decide) (fun c_26 => ?_) (fun c_26 => ?_)
                                  · skip
                                    refine lv_iinc (v := nI ((1 + 3 * c) + 3)) (lv' := [(3, .int (nI ((1 + 3 * c) + 3))), (4, .int (nI (f3 ((8 * (g ((1 + 3 * e) + 1))) + (g (1 + 3 * c)))))), (0, .ref m), (1, .int (bI (decide (b2 = true)))), (2, .int (nI (1 + 3 * e)))]) hx hb dX9_closeDepths_207 hl (k := 4) rfl (zinc (1 + 3 * c) 3) (by decide) rfl (fun ls hl => ?_)
                                    refine lv_goto (tgt := 96) hx hb dX9_closeDepths_210 (by decide) ?_
                                    have hl : lv_has ls 5 [(0, .ref m), (1, .int (bI (decide (b2 = true)))), (2, .int (nI (1 + 3 * e))), (3, .int (nI (1 + 3 * (c + 1))))] := by (rw [z13]); exact (lv_sub hl [2, 3, 4, 0] rfl)
                                    exact ih96 (c + 1) (mLdT (g (1 + 3 * e)) (g ((1 + 3 * c) + 1)) ((f3 ((8 * (g ((1 + 3 * e) + 1))) + (g (1 + 3 * c)))) + 1) f3) b2 (by omega) (by rw [zIt_s, ← hq2]; unfold yPeC; first | (exfalso; omega) | (rw [if_pos (by dsimp only; omega)]; unfold yIm; dsimp only; first | rw [decide_eq_true (by omega), Bool.or_true] | rw [decide_eq_false (by omega), Bool.or_false]) | rw [if_neg (by dsimp only; omega)]) (by first | exact hf3 | exact mLdT_2 hf3 (by omega)) (Or.inr (by omega)) (by omega) _ _ _ hP hD hS hl
                                  · skip
                                    refine lv_iconst (v := nI 1) hx hb dX9_closeDepths_205 (by decide) ?_
                                    refine lv_istore_n (lv' := [(1, .int (nI 1)), (4, .int (nI (f3 ((8 * (g ((1 + 3 * e) + 1))) + (g (1 + 3 * c)))))), (0, .ref m), (2, .int (nI (1 + 3 * e))), (3, .int (nI (1 + 3 * c)))]) hx hb dX9_closeDepths_206 rfl hl (by decide) rfl (fun ls hl => ?_)
                                    refine lv_iinc (v := nI ((1 + 3 * c) + 3)) (lv' := [(3, .int (nI ((1 + 3 * c) + 3))), (1, .int (nI 1)), (4, .int (nI (f3 ((8 * (g ((1 + 3 * e) + 1))) + (g (1 + 3 * c)))))), (0, .ref m), (2, .int (nI (1 + 3 * e)))]) hx hb dX9_closeDepths_207 hl (k := 4) rfl (zinc (1 + 3 * c) 3) (by decide) rfl (fun ls hl => ?_)
                                    refine lv_goto (tgt := 96) hx hb dX9_closeDepths_210 (by decide) ?_
                                    have hl : lv_has ls 5 [(0, .ref m), (1, .int (bI (decide (true = true)))), (2, .int (nI (1 + 3 * e))), (3, .int (nI (1 + 3 * (c + 1))))] := by (rw [z13]); exact (lv_sub hl [3, 1, 4, 0] rfl)
                                    exact ih96 (c + 1) (mLdT (g (1 + 3 * e)) (g ((1 + 3 * c) + 1)) ((f3 ((8 * (g ((1 + 3 * e) + 1))) + (g (1 + 3 * c)))) + 1) f3) true (by omega) (by rw [zIt_s, ← hq2]; unfold yPeC; first | (exfalso; omega) | (rw [if_pos (by dsimp only; omega)]; unfold yIm; dsimp only; first | rw [decide_eq_true (by omega), Bool.or_true] | rw [decide_eq_false (by omega), Bool.or_false]) | rw [if_neg (by dsimp only; omega)]) (by first | exact hf3 | exact mLdT_2 hf3 (by omega)) (Or.inr (by omega)) (by omega) _ _ _ hP hD hS hl
                      exact lp96 (g 0 - 0 + 1) 0 f2 b1 (Nat.zero_le _) (by rw [zIt_0]; unfold yPeA; first | (rw [if_pos (by omega)]; unfold yIm; dsimp only; first | rw [decide_eq_true (by omega), Bool.or_true] | rw [decide_eq_false (by omega), Bool.or_false]) | rw [if_neg (by omega)]) (by first | exact hf2 | exact mLdT_2 hf2 (by omega)) (Or.inl rfl) (Nat.lt_succ_self _) _ _ _ hP hD hS (lv_sub hl [1, 2, 3, 0] rfl)
                    · skip
                      refine lv_aload_n hx hb dX9_closeDepths_70 rfl (lv_at hl 0 rfl) ?_
                      refine lv_aload_n hx hb dX9_closeDepths_71 rfl (lv_at hl 0 rfl) ?_
                      refine va_get (D := G.1) (ci := 6) (v := .ref mg) (C := RX9) (T := TX9) (N := 21) hx hb hts hinX9 hown hK hP 0 rfl rfl 7 (by decide) hlk20 (fun _ h9 => h9) rfl dX9_closeDepths_72 ?_
                      refine lv_iload_n hx hb dX9_closeDepths_75 rfl (lv_at hl 2 rfl) ?_
                      refine zi_ald hx hb hK hP 2 rfl (by omega) (by omega) dX9_closeDepths_76 ?_
                      have hb_27 := hg8 (1 + 3 * e) (by omega)
                      refine lv_aload_n hx hb dX9_closeDepths_77 rfl (lv_at hl 0 rfl) ?_
                      refine va_get (D := G.1) (ci := 6) (v := .ref mg) (C := RX9) (T := TX9) (N := 21) hx hb hts hinX9 hown hK hP 0 rfl rfl 7 (by decide) hlk20 (fun _ h9 => h9) rfl dX9_closeDepths_78 ?_
                      refine lv_iload_n hx hb dX9_closeDepths_81 rfl (lv_at hl 2 rfl) ?_
                      refine lv_iconst (v := nI 1) hx hb dX9_closeDepths_82 (by decide) ?_
                      refine zi_addk (n := (1 + 3 * e) + 1) hx hb dX9_closeDepths_83 (by omega) ?_
                      refine zi_ald hx hb hK hP 2 rfl (by omega) (by omega) dX9_closeDepths_84 ?_
                      have hb_28 := hg8 ((1 + 3 * e) + 1) (by omega)
                      refine lv_iconst (v := nI 0) hx hb dX9_closeDepths_85 (by decide) ?_
                      refine zVi (W1 := [(m, .inr (6, [.int (nI th), .ref mt, .int (nI ts), .int (nI ps), .int pv, .ref mp, .int (nI V), .ref mg, .ref mc, .ref mh, .int (nI rm), .ref ms, .ref mu, .int (nI on), .ref of1, .ref ot1, .ref oi1, .long sd, .ref ml, .ref md, .ref mw])), zA G md 64 f2, zA G mg 49 g]) (W2 := [(m, .inr (6, [.int (nI th), .ref mt, .int (nI ts), .int (nI ps), .int pv, .ref mp, .int (nI V), .ref mg, .ref mc, .ref mh, .int (nI rm), .ref ms, .ref mu, .int (nI on), .ref of1, .ref ot1, .ref oi1, .long sd, .ref ml, .ref md, .ref mw])), zA G md 64 (mLdT (g (1 + 3 * e)) (g ((1 + 3 * e) + 1)) 0 f2), zA G mg 49 g]) (wr := [zA G mg 49 g]) (rest := []) SM (c_X9_lessDeep l G m mt mp mg mc mh ms mu of1 ot1 oi1 ml md mw th ts ps V rm on pv sd f2 (g (1 + 3 * e)) (g ((1 + 3 * e) + 1)) 0 hf2 (by omega) (by omega) (by omega)) (cwV 3 hts gX9_closeDepths_X9_lessDeep rfl rfl rfl (by decide +kernel) ⟨Nat.le_of_ble_eq_true rfl, Nat.le_of_ble_eq_true rfl⟩) hK hE hA hP hD hS hl.1 [0, 1] [2] [1, 2, 0] rfl rfl rfl (by decide) (ci := 6) rfl rfl rfl rfl rfl (Nat.le_of_ble_eq_true rfl) ⟨Nat.zero_le _, Nat.zero_le _⟩ dX9_closeDepths_86 (fun H locs hP hD hS => ?_)
                      refine zb_eq (tgt := 94) hx hb dX9_closeDepths_89 (by decide) (fun c_29 => ?_) (fun c_29 => ?_)
                      · skip
                        refine lv_iconst (v := nI 1) hx hb dX9_closeDepths_94 (by decide) ?_
                        refine lv_istore_n (lv' := [(3, .int (nI 1)), (0, .ref m), (1, .int (bI (decide (b1 = true)))), (2, .int (nI (1 + 3 * e)))]) hx hb dX9_closeDepths_95 rfl hl (by decide) rfl (fun ls hl => ?_)
                        have lp96 : ∀ (n9 : Nat), ∀ (c : Nat) (f3 : Nat → Nat) (b2 : Bool), (c ≤ g 0) → ((f3, b2) = zIt (yPeC g e) c (yPeA g e (f2, b1))) → (zL2 f3) → (c = 0 ∨ (1 ≤ g (1 + 3 * e + 2) ∧ g (1 + 3 * e + 2) ≤ 3)) → (g 0 - c) < n9 → ∀ (H : Heap) (locs : List Loc) (ls : Array Slot), va_P G.1 vwCl [(m, .inr (6, [.int (nI th), .ref mt, .int (nI ts), .int (nI ps), .int pv, .ref mp, .int (nI V), .ref mg, .ref mc, .ref mh, .int (nI rm), .ref ms, .ref mu, .int (nI on), .ref of1, .ref ot1, .ref oi1, .long sd, .ref ml, .ref md, .ref mw])), zA G md 64 f3, zA G mg 49 g] H → va_D AM [(m, .inr (6, [.int (nI th), .ref mt, .int (nI ts), .int (nI ps), .int pv, .ref mp, .int (nI V), .ref mg, .ref mc, .ref mh, .int (nI rm), .ref ms, .ref mu, .int (nI on), .ref of1, .ref ot1, .ref oi1, .long sd, .ref ml, .ref md, .ref mw])), zA G md 64 f3, zA G mg 49 g] → va_S AM sM.heap H locs → lv_has ls 5 [(0, .ref m), (1, .int (bI (decide (b2 = true)))), (2, .int (nI (1 + 3 * e))), (3, .int (nI (1 + 3 * c)))] → W pM l eM ({ frames := 1, cells := 0, slots := 0, locals := 25 }) sM mM (([.ref m] : List Value).toArray) bM tM cM H locs 0 0 QM (F0 mM 96 ls []) := by
                          intro n9
                          induction n9 with
                          | zero =>
                            intro _ _ _ _ _ _ _ h9
                            exact absurd h9 (Nat.not_lt_zero _)
                          | succ n9 ih9 =>
                            intro c f3 b2 h3 hq2 hf3 h5 hmu96 H locs ls hP hD hS hl
                            have ih96 := ih9
                            clear ih9
                            refine lv_iload_n hx hb dX9_closeDepths_96 rfl (lv_at hl 3 rfl) ?_
                            refine lv_iconst (v := nI 3) hx hb dX9_closeDepths_97 (by decide) ?_
                            refine lv_aload_n hx hb dX9_closeDepths_98 rfl (lv_at hl 0 rfl) ?_
                            refine va_get (D := G.1) (ci := 6) (v := .ref mg) (C := RX9) (T := TX9) (N := 21) hx hb hts hinX9 hown hK hP 0 rfl rfl 7 (by decide) hlk20 (fun _ h9 => h9) rfl dX9_closeDepths_99 ?_
                            refine lv_iconst (v := nI 0) hx hb dX9_closeDepths_102 (by decide) ?_
                            refine zi_ald hx hb hK hP 2 rfl (by omega) (by omega) dX9_closeDepths_103 ?_
                            have hb_30 := hg0
                            refine zi_mul hx hb dX9_closeDepths_104 ?_
                            refine zn_ge (tgt := 213) hx hb dX9_closeDepths_105 (by decide) (by omega) (by omega) (fun c_31 => ?_) (fun c_31 => ?_)
                            · skip
                              refine lv_iinc (v := nI ((1 + 3 * e) + 3)) (lv' := [(2, .int (nI ((1 + 3 * e) + 3))), (0, .ref m), (1, .int (bI (decide (b2 = true)))), (3, .int (nI (1 + 3 * c)))]) hx hb dX9_closeDepths_213 hl (k := 2) rfl (zinc (1 + 3 * e) 3) (by decide) rfl (fun ls hl => ?_)
                              refine lv_goto (tgt := 47) hx hb dX9_closeDepths_216 (by decide) ?_
                              have hl : lv_has ls 5 [(0, .ref m), (1, .int (bI (decide (b2 = true)))), (2, .int (nI (1 + 3 * (e + 1))))] := by (rw [z13]); exact (lv_sub hl [1, 2, 0] rfl)
                              exact ih47 (e + 1) f3 b2 (by omega) (yPe_end hq hq2 h5 (by omega)) hf3 (by omega) _ _ _ hP hD hS hl
                            · skip
                              refine lv_aload_n hx hb dX9_closeDepths_108 rfl (lv_at hl 0 rfl) ?_
                              refine va_get (D := G.1) (ci := 6) (v := .ref mg) (C := RX9) (T := TX9) (N := 21) hx hb hts hinX9 hown hK hP 0 rfl rfl 7 (by decide) hlk20 (fun _ h9 => h9) rfl dX9_closeDepths_109 ?_
                              refine lv_iload_n hx hb dX9_closeDepths_112 rfl (lv_at hl 2 rfl) ?_
                              refine lv_iconst (v := nI 2) hx hb dX9_closeDepths_113 (by decide) ?_
                              refine zi_addk (n := (1 + 3 * e) + 2) hx hb dX9_closeDepths_114 (by omega) ?_
                              refine zi_ald hx hb hK hP 2 rfl (by omega) (by omega) dX9_closeDepths_115 ?_
                              have hb_32 := hg8 ((1 + 3 * e) + 2) (by omega)
                              refine lv_i2l (v := lN (g ((1 + 3 * e) + 2))) hx hb dX9_closeDepths_116 (nI_l (by omega)) ?_
                              refine lv_lconst (v := lN 1) hx hb dX9_closeDepths_117 (by decide) ?_
                              refine lv_ldc2 (v := lN 3) hx hb hown (hts (.constantLong RX9 67 (3)) (by decide +kernel)) dX9_closeDepths_118 ?_
                              refine zSi (W1 := [(m, .inr (6, [.int (nI th), .ref mt, .int (nI ts), .int (nI ps), .int pv, .ref mp, .int (nI V), .ref mg, .ref mc, .ref mh, .int (nI rm), .ref ms, .ref mu, .int (nI on), .ref of1, .ref ot1, .ref oi1, .long sd, .ref ml, .ref md, .ref mw])), zA G md 64 f3, zA G mg 49 g]) (W2 := [(m, .inr (6, [.int (nI th), .ref mt, .int (nI ts), .int (nI ps), .int pv, .ref mp, .int (nI V), .ref mg, .ref mc, .ref mh, .int (nI rm), .ref ms, .ref mu, .int (nI on), .ref of1, .ref ot1, .ref oi1, .long sd, .ref ml, .ref md, .ref mw])), zA G md 64 f3, zA G mg 49 g]) (wr := [(m, .inr (6, [.int (nI th), .ref mt, .int (nI ts), .int (nI ps), .int pv, .ref mp, .int (nI V), .ref mg, .ref mc, .ref mh, .int (nI rm), .ref ms, .ref mu, .int (nI on), .ref of1, .ref ot1, .ref oi1, .long sd, .ref ml, .ref md, .ref mw])), zA G md 64 f3, zA G mg 49 g]) (rest := []) SM (c_X9_in_N l G (g ((1 + 3 * e) + 2)) 1 3 (by omega) (by omega) (by omega)) (va_cwS 3 hts gX9_closeDepths_X9_in rfl rfl rfl (by decide +kernel) ⟨Nat.le_of_ble_eq_true rfl, Nat.le_of_ble_eq_true rfl⟩) hK hE hA hP hD hS hl.1 [] [0, 1, 2] [0, 1, 2] rfl rfl rfl (by decide) rfl rfl (Nat.le_of_ble_eq_true rfl) ⟨Nat.zero_le _, Nat.zero_le _⟩ dX9_closeDepths_121 (fun H locs hP hD hS => ?_)
                              refine zb_eq (tgt := 213) hx hb dX9_closeDepths_124 (by decide) (fun c_33 => ?_) (fun c_33 => ?_)
                              · skip
                                refine lv_iinc (v := nI ((1 + 3 * e) + 3)) (lv' := [(2, .int (nI ((1 + 3 * e) + 3))), (0, .ref m), (1, .int (bI (decide (b2 = true)))), (3, .int (nI (1 + 3 * c)))]) hx hb dX9_closeDepths_213 hl (k := 2) rfl (zinc (1 + 3 * e) 3) (by decide) rfl (fun ls hl => ?_)
                                refine lv_goto (tgt := 47) hx hb dX9_closeDepths_216 (by decide) ?_
                                have hl : lv_has ls 5 [(0, .ref m), (1, .int (bI (decide (b2 = true)))), (2, .int (nI (1 + 3 * (e + 1))))] := by (rw [z13]); exact (lv_sub hl [1, 2, 0] rfl)
                                exact ih47 (e + 1) f3 b2 (by omega) (yPe_end hq hq2 h5 (by omega)) hf3 (by omega) _ _ _ hP hD hS hl
                              · skip
                                refine lv_aload_n hx hb dX9_closeDepths_127 rfl (lv_at hl 0 rfl) ?_
                                refine va_get (D := G.1) (ci := 6) (v := .ref md) (C := RX9) (T := TX9) (N := 21) hx hb hts hinX9 hown hK hP 0 rfl rfl 19 (by decide) hlk48 (fun _ h9 => h9) rfl dX9_closeDepths_128 ?_
                                refine lv_bipush (v := nI 8) hx hb dX9_closeDepths_131 (by decide) ?_
                                refine lv_aload_n hx hb dX9_closeDepths_133 rfl (lv_at hl 0 rfl) ?_
                                refine va_get (D := G.1) (ci := 6) (v := .ref mg) (C := RX9) (T := TX9) (N := 21) hx hb hts hinX9 hown hK hP 0 rfl rfl 7 (by decide) hlk20 (fun _ h9 => h9) rfl dX9_closeDepths_134 ?_
                                refine lv_iload_n hx hb dX9_closeDepths_137 rfl (lv_at hl 2 rfl) ?_
                                refine lv_iconst (v := nI 1) hx hb dX9_closeDepths_138 (by decide) ?_
                                refine zi_addk (n := (1 + 3 * e) + 1) hx hb dX9_closeDepths_139 (by omega) ?_
                                refine zi_ald hx hb hK hP 2 rfl (by omega) (by omega) dX9_closeDepths_140 ?_
                                have hb_34 := hg8 ((1 + 3 * e) + 1) (by omega)
                                refine zi_mul hx hb dX9_closeDepths_141 ?_
                                refine lv_aload_n hx hb dX9_closeDepths_142 rfl (lv_at hl 0 rfl) ?_
                                refine va_get (D := G.1) (ci := 6) (v := .ref mg) (C := RX9) (T := TX9) (N := 21) hx hb hts hinX9 hown hK hP 0 rfl rfl 7 (by decide) hlk20 (fun _ h9 => h9) rfl dX9_closeDepths_143 ?_
                                refine lv_iload_n hx hb dX9_closeDepths_146 rfl (lv_at hl 3 rfl) ?_
                                refine zi_ald hx hb hK hP 2 rfl (by omega) (by omega) dX9_closeDepths_147 ?_
                                have hb_35 := hg8 (1 + 3 * c) (by omega)
                                refine zi_add hx hb dX9_closeDepths_148 ?_
                                refine zi_ald hx hb hK hP 1 rfl (by omega) (by omega) dX9_closeDepths_149 ?_
                                have hb_36 := hf3 ((8 * (g ((1 + 3 * e) + 1))) + (g (1 + 3 * c)))
                                refine lv_istore (lv' := [(4, .int (nI (f3 ((8 * (g ((1 + 3 * e) + 1))) + (g (1 + 3 * c)))))), (0, .ref m), (1, .int (bI (decide (b2 = true)))), (2, .int (nI (1 + 3 * e))), (3, .int (nI (1 + 3 * c)))]) hx hb dX9_closeDepths_150 hl (by decide) rfl (fun ls hl => ?_)
                                refine lv_aload_n hx hb dX9_closeDepths_152 rfl (lv_at hl 1 rfl) ?_
                                refine va_get (D := G.1) (ci := 6) (v := .ref mg) (C := RX9) (T := TX9) (N := 21) hx hb hts hinX9 hown hK hP 0 rfl rfl 7 (by decide) hlk20 (fun _ h9 => h9) rfl dX9_closeDepths_153 ?_
                                refine lv_iload_n hx hb dX9_closeDepths_156 rfl (lv_at hl 4 rfl) ?_
                                refine lv_iconst (v := nI 2) hx hb dX9_closeDepths_157 (by decide) ?_
                                refine zi_addk (n := (1 + 3 * c) + 2) hx hb dX9_closeDepths_158 (by omega) ?_
                                refine zi_ald hx hb hK hP 2 rfl (by omega) (by omega) dX9_closeDepths_159 ?_
                                have hb_37 := hg8 ((1 + 3 * c) + 2) (by omega)
                                refine lv_aload_n hx hb dX9_closeDepths_160 rfl (lv_at hl 1 rfl) ?_
                                refine va_get (D := G.1) (ci := 6) (v := .ref mg) (C := RX9) (T := TX9) (N := 21) hx hb hts hinX9 hown hK hP 0 rfl rfl 7 (by decide) hlk20 (fun _ h9 => h9) rfl dX9_closeDepths_161 ?_
                                refine lv_iload_n hx hb dX9_closeDepths_164 rfl (lv_at hl 3 rfl) ?_
                                refine lv_iconst (v := nI 2) hx hb dX9_closeDepths_165 (by decide) ?_
                                refine zi_addk (n := (1 + 3 * e) + 2) hx hb dX9_closeDepths_166 (by omega) ?_
                                refine zi_ald hx hb hK hP 2 rfl (by omega) (by omega) dX9_closeDepths_167 ?_
                                have hb_38 := hg8 ((1 + 3 * e) + 2) (by omega)
                                refine lv_iconst (v := nI 3) hx hb dX9_closeDepths_168 (by decide) ?_
                                refine zi_addk (n := (g ((1 + 3 * e) + 2)) + 3) hx hb dX9_closeDepths_169 (by omega) ?_
                                refine zn_ne (tgt := 207) hx hb dX9_closeDepths_170 (by decide) (by omega) (by omega) (fun c_39 => ?_) (fun c_39 => ?_)
                                · skip
                                  refine lv_iinc (v := nI ((1 + 3 * c) + 3)) (lv' := [(3, .int (nI ((1 + 3 * c) + 3))), (4, .int (nI (f3 ((8 * (g ((1 + 3 * e) + 1))) + (g (1 + 3 * c)))))), (0, .ref m), (1, .int (bI (decide (b2 = true)))), (2, .int (nI (1 + 3 * e)))]) hx hb dX9_closeDepths_207 hl (k := 4) rfl (zinc (1 + 3 * c) 3) (by decide) rfl (fun ls hl => ?_)
                                  refine lv_goto (tgt := 96) hx hb dX9_closeDepths_210 (by decide) ?_
                                  have hl : lv_has ls 5 [(0, .ref m), (1, .int (bI (decide (b2 = true)))), (2, .int (nI (1 + 3 * e))), (3, .int (nI (1 + 3 * (c + 1))))] := by (rw [z13]); exact (lv_sub hl [2, 3, 4, 0] rfl)
                                  exact ih96 (c + 1) f3 b2 (by omega) (by rw [zIt_s, ← hq2]; unfold yPeC; first | (exfalso; omega) | (rw [if_pos (by dsimp only; omega)]; unfold yIm; dsimp only; first | rw [decide_eq_true (by omega), Bool.or_true] | rw [decide_eq_false (by omega), Bool.or_false]) | rw [if_neg (by dsimp only; omega)]) (by first | exact hf3 | exact mLdT_2 hf3 (by omega)) (Or.inr (by omega)) (by omega) _ _ _ hP hD hS hl
                                · skip
                                  refine lv_iload hx hb dX9_closeDepths_173 (lv_at hl 0 rfl) ?_
                                  refine lv_ldc (v := nI 2000000) hx hb hown (hts (.constant RX9 62 (2000000)) (by decide +kernel)) dX9_closeDepths_175 ?_
                                  refine zn_ge (tgt := 207) hx hb dX9_closeDepths_177 (by decide) (by omega) (by omega) (fun c_40 => ?_) (fun c_40 => ?_)
                                  · skip
                                    refine lv_iinc (v := nI ((1 + 3 * c) + 3)) (lv' := [(3, .int (nI ((1 + 3 * c) + 3))), (4, .int (nI (f3 ((8 * (g ((1 + 3 * e) + 1))) + (g (1 + 3 * c)))))), (0, .ref m), (1, .int (bI (decide (b2 = true)))), (2, .int (nI (1 + 3 * e)))]) hx hb dX9_closeDepths_207 hl (k := 4) rfl (zinc (1 + 3 * c) 3) (by decide) rfl (fun ls hl => ?_)
                                    refine lv_goto (tgt := 96) hx hb dX9_closeDepths_210 (by decide) ?_
                                    have hl : lv_has ls 5 [(0, .ref m), (1, .int (bI (decide (b2 = true)))), (2, .int (nI (1 + 3 * e))), (3, .int (nI (1 + 3 * (c + 1))))] := by (rw [z13]); exact (lv_sub hl [2, 3, 4, 0] rfl)
                                    exact ih96 (c + 1) f3 b2 (by omega) (by rw [zIt_s, ← hq2]; unfold yPeC; first | (exfalso; omega) | (rw [if_pos (by dsimp only; omega)]; unfold yIm; dsimp only; first | rw [decide_eq_true (by omega), Bool.or_true] | rw [decide_eq_false (by omega), Bool.or_false]) | rw [if_neg (by dsimp only; omega)]) (by first | exact hf3 | exact mLdT_2 hf3 (by omega)) (Or.inr (by omega)) (by omega) _ _ _ hP hD hS hl
                                  · skip
                                    refine lv_aload_n hx hb dX9_closeDepths_180 rfl (lv_at hl 1 rfl) ?_
                                    refine lv_aload_n hx hb dX9_closeDepths_181 rfl (lv_at hl 1 rfl) ?_
                                    refine va_get (D := G.1) (ci := 6) (v := .ref mg) (C := RX9) (T := TX9) (N := 21) hx hb hts hinX9 hown hK hP 0 rfl rfl 7 (by decide) hlk20 (fun _ h9 => h9) rfl dX9_closeDepths_182 ?_
                                    refine lv_iload_n hx hb dX9_closeDepths_185 rfl (lv_at hl 3 rfl) ?_
                                    refine zi_ald hx hb hK hP 2 rfl (by omega) (by omega) dX9_closeDepths_186 ?_
                                    have hb_41 := hg8 (1 + 3 * e) (by omega)
                                    refine lv_aload_n hx hb dX9_closeDepths_187 rfl (lv_at hl 1 rfl) ?_
                                    refine va_get (D := G.1) (ci := 6) (v := .ref mg) (C := RX9) (T := TX9) (N := 21) hx hb hts hinX9 hown hK hP 0 rfl rfl 7 (by decide) hlk20 (fun _ h9 => h9) rfl dX9_closeDepths_188 ?_
                                    refine lv_iload_n hx hb dX9_closeDepths_191 rfl (lv_at hl 4 rfl) ?_
                                    refine lv_iconst (v := nI 1) hx hb dX9_closeDepths_192 (by decide) ?_
                                    refine zi_addk (n := (1 + 3 * c) + 1) hx hb dX9_closeDepths_193 (by omega) ?_
                                    refine zi_ald hx hb hK hP 2 rfl (by omega) (by omega) dX9_closeDepths_194 ?_
                                    have hb_42 := hg8 ((1 + 3 * c) + 1) (by omega)
                                    refine lv_iload hx hb dX9_closeDepths_195 (lv_at hl 0 rfl) ?_
                                    refine lv_iconst (v := nI 1) hx hb dX9_closeDepths_197 (by decide) ?_
                                    refine zi_addk (n := (f3 ((8 * (g ((1 + 3 * e) + 1))) + (g (1 + 3 * c)))) + 1) hx hb dX9_closeDepths_198 (by omega) ?_
                                    refine zVi (W1 := [(m, .inr (6, [.int (nI th), .ref mt, .int (nI ts), .int (nI ps), .int pv, .ref mp, .int (nI V), .ref mg, .ref mc, .ref mh, .int (nI rm), .ref ms, .ref mu, .int (nI on), .ref of1, .ref ot1, .ref oi1, .long sd, .ref ml, .ref md, .ref mw])), zA G md 64 f3, zA G mg 49 g]) (W2 := [(m, .inr (6, [.int (nI th), .ref mt, .int (nI ts), .int (nI ps), .int pv, .ref mp, .int (nI V), .ref mg, .ref mc, .ref mh, .int (nI rm), .ref ms, .ref mu, .int (nI on), .ref of1, .ref ot1, .ref oi1, .long sd, .ref ml, .ref md, .ref mw])), zA G md 64 (mLdT (g (1 + 3 * e)) (g ((1 + 3 * c) + 1)) ((f3 ((8 * (g ((1 + 3 * e) + 1))) + (g (1 + 3 * c)))) + 1) f3), zA G mg 49 g]) (wr := [zA G mg 49 g]) (rest := []) SM (c_X9_lessDeep l G m mt mp mg mc mh ms mu of1 ot1 oi1 ml md mw th ts ps V rm on pv sd f3 (g (1 + 3 * e)) (g ((1 + 3 * c) + 1)) ((f3 ((8 * (g ((1 + 3 * e) + 1))) + (g (1 + 3 * c)))) + 1) hf3 (by omega) (by omega) (by omega)) (cwV 3 hts gX9_closeDepths_X9_lessDeep rfl rfl rfl (by decide +kernel) ⟨Nat.le_of_ble_eq_true rfl, Nat.le_of_ble_eq_true rfl⟩) hK hE hA hP hD hS hl.1 [0, 1] [2] [1, 2, 0] rfl rfl rfl (by decide) (ci := 6) rfl rfl rfl rfl rfl (Nat.le_of_ble_eq_true rfl) ⟨Nat.zero_le _, Nat.zero_le _⟩ dX9_closeDepths_199 (fun H locs hP hD hS => ?_)
                                    refine zb_eq (tgt := 207) hx hb dX9_closeDepths_202 (by decide) (fun c_43 => ?_) (fun c_43 => ?_)
                                    · skip
                                      refine lv_iinc (v := nI ((1 + 3 * c) + 3)) (lv' := [(3, .int (nI ((1 + 3 * c) + 3))), (4, .int (nI (f3 ((8 * (g ((1 + 3 * e) + 1))) + (g (1 + 3 * c)))))), (0, .ref m), (1, .int (bI (decide (b2 = true)))), (2, .int (nI (1 + 3 * e)))]) hx hb dX9_closeDepths_207 hl (k := 4) rfl (zinc (1 + 3 * c) 3) (by decide) rfl (fun ls hl => ?_)
                                      refine lv_goto (tgt := 96) hx hb dX9_closeDepths_210 (by decide) ?_
                                      have hl : lv_has ls 5 [(0, .ref m), (1, .int (bI (decide (b2 = true)))), (2, .int (nI (1 + 3 * e))), (3, .int (nI (1 + 3 * (c + 1))))] := by (rw [z13]); exact (lv_sub hl [2, 3, 4, 0] rfl)
                                      exact ih96 (c + 1) (mLdT (g (1 + 3 * e)) (g ((1 + 3 * c) + 1)) ((f3 ((8 * (g ((1 + 3 * e) + 1))) + (g (1 + 3 * c)))) + 1) f3) b2 (by omega) (by rw [zIt_s, ← hq2]; unfold yPeC; first | (exfalso; omega) | (rw [if_pos (by dsimp only; omega)]; unfold yIm; dsimp only; first | rw [decide_eq_true (by omega), Bool.or_true] | rw [decide_eq_false (by omega), Bool.or_false]) | rw [if_neg (by dsimp only; omega)]) (by first | exact hf3 | exact mLdT_2 hf3 (by omega)) (Or.inr (by omega)) (by omega) _ _ _ hP hD hS hl
                                    · skip
                                      refine lv_iconst (v := nI 1) hx hb dX9_closeDepths_205 (by decide) ?_
                                      refine lv_istore_n (lv' := [(1, .int (nI 1)), (4, .int (nI (f3 ((8 * (g ((1 + 3 * e) + 1))) + (g (1 + 3 * c)))))), (0, .ref m), (2, .int (nI (1 + 3 * e))), (3, .int (nI (1 + 3 * c)))]) hx hb dX9_closeDepths_206 rfl hl (by decide) rfl (fun ls hl => ?_)
                                      refine lv_iinc (v := nI ((1 + 3 * c) + 3)) (lv' := [(3, .int (nI ((1 + 3 * c) + 3))), (1, .int (nI 1)), (4, .int (nI (f3 ((8 * (g ((1 + 3 * e) + 1))) + (g (1 + 3 * c)))))), (0, .ref m), (2, .int (nI (1 + 3 * e)))]) hx hb dX9_closeDepths_207 hl (k := 4) rfl (zinc (1 + 3 * c) 3) (by decide) rfl (fun ls hl => ?_)
                                      refine lv_goto (tgt := 96) hx hb dX9_closeDepths_210 (by decide) ?_
                                      have hl : lv_has ls 5 [(0, .ref m), (1, .int (bI (decide (true = true)))), (2, .int (nI (1 + 3 * e))), (3, .int (nI (1 + 3 * (c + 1))))] := by (rw [z13]); exact (lv_sub hl [3, 1, 4, 0] rfl)
                                      exact ih96 (c + 1) (mLdT (g (1 + 3 * e)) (g ((1 + 3 * c) + 1)) ((f3 ((8 * (g ((1 + 3 * e) + 1))) + (g (1 + 3 * c)))) + 1) f3) true (by omega) (by rw [zIt_s, ← hq2]; unfold yPeC; first | (exfalso; omega) | (rw [if_pos (by dsimp only; omega)]; unfold yIm; dsimp only; first | rw [decide_eq_true (by omega), Bool.or_true] | rw [decide_eq_false (by omega), Bool.or_false]) | rw [if_neg (by dsimp only; omega)]) (by first | exact hf3 | exact mLdT_2 hf3 (by omega)) (Or.inr (by omega)) (by omega) _ _ _ hP hD hS hl
                        exact lp96 (g 0 - 0 + 1) 0 (mLdT (g (1 + 3 * e)) (g ((1 + 3 * e) + 1)) 0 f2) b1 (Nat.zero_le _) (by rw [zIt_0]; unfold yPeA; first | (rw [if_pos (by omega)]; unfold yIm; dsimp only; first | rw [decide_eq_true (by omega), Bool.or_true] | rw [decide_eq_false (by omega), Bool.or_false]) | rw [if_neg (by omega)]) (by first | exact hf2 | exact mLdT_2 hf2 (by omega)) (Or.inl rfl) (Nat.lt_succ_self _) _ _ _ hP hD hS (lv_sub hl [1, 2, 3, 0] rfl)
                      · skip
                        refine lv_iconst (v := nI 1) hx hb dX9_closeDepths_92 (by decide) ?_
                        refine lv_istore_n (lv' := [(1, .int (nI 1)), (0, .ref m), (2, .int (nI (1 + 3 * e)))]) hx hb dX9_closeDepths_93 rfl hl (by decide) rfl (fun ls hl => ?_)
                        refine lv_iconst (v := nI 1) hx hb dX9_closeDepths_94 (by decide) ?_
                        refine lv_istore_n (lv' := [(3, .int (nI 1)), (1, .int (nI 1)), (0, .ref m), (2, .int (nI (1 + 3 * e)))]) hx hb dX9_closeDepths_95 rfl hl (by decide) rfl (fun ls hl => ?_)
                        have lp96 : ∀ (n9 : Nat), ∀ (c : Nat) (f3 : Nat → Nat) (b2 : Bool), (c ≤ g 0) → ((f3, b2) = zIt (yPeC g e) c (yPeA g e (f2, b1))) → (zL2 f3) → (c = 0 ∨ (1 ≤ g (1 + 3 * e + 2) ∧ g (1 + 3 * e + 2) ≤ 3)) → (g 0 - c) < n9 → ∀ (H : Heap) (locs : List Loc) (ls : Array Slot), va_P G.1 vwCl [(m, .inr (6, [.int (nI th), .ref mt, .int (nI ts), .int (nI ps), .int pv, .ref mp, .int (nI V), .ref mg, .ref mc, .ref mh, .int (nI rm), .ref ms, .ref mu, .int (nI on), .ref of1, .ref ot1, .ref oi1, .long sd, .ref ml, .ref md, .ref mw])), zA G md 64 f3, zA G mg 49 g] H → va_D AM [(m, .inr (6, [.int (nI th), .ref mt, .int (nI ts), .int (nI ps), .int pv, .ref mp, .int (nI V), .ref mg, .ref mc, .ref mh, .int (nI rm), .ref ms, .ref mu, .int (nI on), .ref of1, .ref ot1, .ref oi1, .long sd, .ref ml, .ref md, .ref mw])), zA G md 64 f3, zA G mg 49 g] → va_S AM sM.heap H locs → lv_has ls 5 [(0, .ref m), (1, .int (bI (decide (b2 = true)))), (2, .int (nI (1 + 3 * e))), (3, .int (nI (1 + 3 * c)))] → W pM l eM ({ frames := 1, cells := 0, slots := 0, locals := 25 }) sM mM (([.ref m] : List Value).toArray) bM tM cM H locs 0 0 QM (F0 mM 96 ls []) := by
                          intro n9
                          induction n9 with
                          | zero =>
                            intro _ _ _ _ _ _ _ h9
                            exact absurd h9 (Nat.not_lt_zero _)
                          | succ n9 ih9 =>
                            intro c f3 b2 h3 hq2 hf3 h5 hmu96 H locs ls hP hD hS hl
                            have ih96 := ih9
                            clear ih9
                            refine lv_iload_n hx hb dX9_closeDepths_96 rfl (lv_at hl 3 rfl) ?_
                            refine lv_iconst (v := nI 3) hx hb dX9_closeDepths_97 (by decide) ?_
                            refine lv_aload_n hx hb dX9_closeDepths_98 rfl (lv_at hl 0 rfl) ?_
                            refine va_get (D := G.1) (ci := 6) (v := .ref mg) (C := RX9) (T := TX9) (N := 21) hx hb hts hinX9 hown hK hP 0 rfl rfl 7 (by decide) hlk20 (fun _ h9 => h9) rfl dX9_closeDepths_99 ?_
                            refine lv_iconst (v := nI 0) hx hb dX9_closeDepths_102 (by decide) ?_
                            refine zi_ald hx hb hK hP 2 rfl (by omega) (by omega) dX9_closeDepths_103 ?_
                            have hb_44 := hg0
                            refine zi_mul hx hb dX9_closeDepths_104 ?_
                            refine zn_ge (tgt := 213) hx hb dX9_closeDepths_105 (by decide) (by omega) (by omega) (fun c_45 => ?_) (fun c_45 => ?_)
                            · skip
                              refine lv_iinc (v := nI ((1 + 3 * e) + 3)) (lv' := [(2, .int (nI ((1 + 3 * e) + 3))), (0, .ref m), (1, .int (bI (decide (b2 = true)))), (3, .int (nI (1 + 3 * c)))]) hx hb dX9_closeDepths_213 hl (k := 2) rfl (zinc (1 + 3 * e) 3) (by decide) rfl (fun ls hl => ?_)
                              refine lv_goto (tgt := 47) hx hb dX9_closeDepths_216 (by decide) ?_
                              have hl : lv_has ls 5 [(0, .ref m), (1, .int (bI (decide (b2 = true)))), (2, .int (nI (1 + 3 * (e + 1))))] := by (rw [z13]); exact (lv_sub hl [1, 2, 0] rfl)
                              exact ih47 (e + 1) f3 b2 (by omega) (yPe_end hq hq2 h5 (by omega)) hf3 (by omega) _ _ _ hP hD hS hl
                            · skip
                              refine lv_aload_n hx hb dX9_closeDepths_108 rfl (lv_at hl 0 rfl) ?_
                              refine va_get (D := G.1) (ci := 6) (v := .ref mg) (C := RX9) (T := TX9) (N := 21) hx hb hts hinX9 hown hK hP 0 rfl rfl 7 (by decide) hlk20 (fun _ h9 => h9) rfl dX9_closeDepths_109 ?_
                              refine lv_iload_n hx hb dX9_closeDepths_112 rfl (lv_at hl 2 rfl) ?_
                              refine lv_iconst (v := nI 2) hx hb dX9_closeDepths_113 (by decide) ?_
                              refine zi_addk (n := (1 + 3 * e) + 2) hx hb dX9_closeDepths_114 (by omega) ?_
                              refine zi_ald hx hb hK hP 2 rfl (by omega) (by omega) dX9_closeDepths_115 ?_
                              have hb_46 := hg8 ((1 + 3 * e) + 2) (by omega)
                              refine lv_i2l (v := lN (g ((1 + 3 * e) + 2))) hx hb dX9_closeDepths_116 (nI_l (by omega)) ?_
                              refine lv_lconst (v := lN 1) hx hb dX9_closeDepths_117 (by decide) ?_
                              refine lv_ldc2 (v := lN 3) hx hb hown (hts (.constantLong RX9 67 (3)) (by decide +kernel)) dX9_closeDepths_118 ?_
                              refine zSi (W1 := [(m, .inr (6, [.int (nI th), .ref mt, .int (nI ts), .int (nI ps), .int pv, .ref mp, .int (nI V), .ref mg, .ref mc, .ref mh, .int (nI rm), .ref ms, .ref mu, .int (nI on), .ref of1, .ref ot1, .ref oi1, .long sd, .ref ml, .ref md, .ref mw])), zA G md 64 f3, zA G mg 49 g]) (W2 := [(m, .inr (6, [.int (nI th), .ref mt, .int (nI ts), .int (nI ps), .int pv, .ref mp, .int (nI V), .ref mg, .ref mc, .ref mh, .int (nI rm), .ref ms, .ref mu, .int (nI on), .ref of1, .ref ot1, .ref oi1, .long sd, .ref ml, .ref md, .ref mw])), zA G md 64 f3, zA G mg 49 g]) (wr := [(m, .inr (6, [.int (nI th), .ref mt, .int (nI ts), .int (nI ps), .int pv, .ref mp, .int (nI V), .ref mg, .ref mc, .ref mh, .int (nI rm), .ref ms, .ref mu, .int (nI on), .ref of1, .ref ot1, .ref oi1, .long sd, .ref ml, .ref md, .ref mw])), zA G md 64 f3, zA G mg 49 g]) (rest := []) SM (c_X9_in_N l G (g ((1 + 3 * e) + 2)) 1 3 (by omega) (by omega) (by omega)) (va_cwS 3 hts gX9_closeDepths_X9_in rfl rfl rfl (by decide +kernel) ⟨Nat.le_of_ble_eq_true rfl, Nat.le_of_ble_eq_true rfl⟩) hK hE hA hP hD hS hl.1 [] [0, 1, 2] [0, 1, 2] rfl rfl rfl (by decide) rfl rfl (Nat.le_of_ble_eq_true rfl) ⟨Nat.zero_le _, Nat.zero_le _⟩ dX9_closeDepths_121 (fun H locs hP hD hS => ?_)
                              refine zb_eq (tgt := 213) hx hb dX9_closeDepths_124 (by decide) (fun c_47 => ?_) (fun c_47 => ?_)
                              · skip
                                refine lv_iinc (v := nI ((1 + 3 * e) + 3)) (lv' := [(2, .int (nI ((1 + 3 * e) + 3))), (0, .ref m), (1, .int (bI (decide (b2 = true)))), (3, .int (nI (1 + 3 * c)))]) hx hb dX9_closeDepths_213 hl (k := 2) rfl (zinc (1 + 3 * e) 3) (by decide) rfl (fun ls hl => ?_)
                                refine lv_goto (tgt := 47) hx hb dX9_closeDepths_216 (by decide) ?_
                                have hl : lv_has ls 5 [(0, .ref m), (1, .int (bI (decide (b2 = true)))), (2, .int (nI (1 + 3 * (e + 1))))] := by (rw [z13]); exact (lv_sub hl [1, 2, 0] rfl)
                                exact ih47 (e + 1) f3 b2 (by omega) (yPe_end hq hq2 h5 (by omega)) hf3 (by omega) _ _ _ hP hD hS hl
                              · skip
                                refine lv_aload_n hx hb dX9_closeDepths_127 rfl (lv_at hl 0 rfl) ?_
                                refine va_get (D := G.1) (ci := 6) (v := .ref md) (C := RX9) (T := TX9) (N := 21) hx hb hts hinX9 hown hK hP 0 rfl rfl 19 (by decide) hlk48 (fun _ h9 => h9) rfl dX9_closeDepths_128 ?_
                                refine lv_bipush (v := nI 8) hx hb dX9_closeDepths_131 (by decide) ?_
                                refine lv_aload_n hx hb dX9_closeDepths_133 rfl (lv_at hl 0 rfl) ?_
                                refine va_get (D := G.1) (ci := 6) (v := .ref mg) (C := RX9) (T := TX9) (N := 21) hx hb hts hinX9 hown hK hP 0 rfl rfl 7 (by decide) hlk20 (fun _ h9 => h9) rfl dX9_closeDepths_134 ?_
                                refine lv_iload_n hx hb dX9_closeDepths_137 rfl (lv_at hl 2 rfl) ?_
                                refine lv_iconst (v := nI 1) hx hb dX9_closeDepths_138 (by decide) ?_
                                refine zi_addk (n := (1 + 3 * e) + 1) hx hb dX9_closeDepths_139 (by omega) ?_
                                refine zi_ald hx hb hK hP 2 rfl (by omega) (by omega) dX9_closeDepths_140 ?_
                                have hb_48 := hg8 ((1 + 3 * e) + 1) (by omega)
                                refine zi_mul hx hb dX9_closeDepths_141 ?_
                                refine lv_aload_n hx hb dX9_closeDepths_142 rfl (lv_at hl 0 rfl) ?_
                                refine va_get (D := G.1) (ci := 6) (v := .ref mg) (C := RX9) (T := TX9) (N := 21) hx hb hts hinX9 hown hK hP 0 rfl rfl 7 (by decide) hlk20 (fun _ h9 => h9) rfl dX9_closeDepths_143 ?_
                                refine lv_iload_n hx hb dX9_closeDepths_146 rfl (lv_at hl 3 rfl) ?_
                                refine zi_ald hx hb hK hP 2 rfl (by omega) (by omega) dX9_closeDepths_147 ?_
                                have hb_49 := hg8 (1 + 3 * c) (by omega)
                                refine zi_add hx hb dX9_closeDepths_148 ?_
                                refine zi_ald hx hb hK hP 1 rfl (by omega) (by omega) dX9_closeDepths_149 ?_
                                have hb_50 := hf3 ((8 * (g ((1 + 3 * e) + 1))) + (g (1 + 3 * c)))
                                refine lv_istore (lv' := [(4, .int (nI (f3 ((8 * (g ((1 + 3 * e) + 1))) + (g (1 + 3 * c)))))), (0, .ref m), (1, .int (bI (decide (b2 = true)))), (2, .int (nI (1 + 3 * e))), (3, .int (nI (1 + 3 * c)))]) hx hb dX9_closeDepths_150 hl (by decide) rfl (fun ls hl => ?_)
                                refine lv_aload_n hx hb dX9_closeDepths_152 rfl (lv_at hl 1 rfl) ?_
                                refine va_get (D := G.1) (ci := 6) (v := .ref mg) (C := RX9) (T := TX9) (N := 21) hx hb hts hinX9 hown hK hP 0 rfl rfl 7 (by decide) hlk20 (fun _ h9 => h9) rfl dX9_closeDepths_153 ?_
                                refine lv_iload_n hx hb dX9_closeDepths_156 rfl (lv_at hl 4 rfl) ?_
                                refine lv_iconst (v := nI 2) hx hb dX9_closeDepths_157 (by decide) ?_
                                refine zi_addk (n := (1 + 3 * c) + 2) hx hb dX9_closeDepths_158 (by omega) ?_
                                refine zi_ald hx hb hK hP 2 rfl (by omega) (by omega) dX9_closeDepths_159 ?_
                                have hb_51 := hg8 ((1 + 3 * c) + 2) (by omega)
                                refine lv_aload_n hx hb dX9_closeDepths_160 rfl (lv_at hl 1 rfl) ?_
                                refine va_get (D := G.1) (ci := 6) (v := .ref mg) (C := RX9) (T := TX9) (N := 21) hx hb hts hinX9 hown hK hP 0 rfl rfl 7 (by decide) hlk20 (fun _ h9 => h9) rfl dX9_closeDepths_161 ?_
                                refine lv_iload_n hx hb dX9_closeDepths_164 rfl (lv_at hl 3 rfl) ?_
                                refine lv_iconst (v := nI 2) hx hb dX9_closeDepths_165 (by decide) ?_
                                refine zi_addk (n := (1 + 3 * e) + 2) hx hb dX9_closeDepths_166 (by omega) ?_
                                refine zi_ald hx hb hK hP 2 rfl (by omega) (by omega) dX9_closeDepths_167 ?_
                                have hb_52 := hg8 ((1 + 3 * e) + 2) (by omega)
                                refine lv_iconst (v := nI 3) hx hb dX9_closeDepths_168 (by decide) ?_
                                refine zi_addk (n := (g ((1 + 3 * e) + 2)) + 3) hx hb dX9_closeDepths_169 (by omega) ?_
                                refine zn_ne (tgt := 207) hx hb dX9_closeDepths_170 (by decide) (by omega) (by omega) (fun c_53 => ?_) (fun c_53 => ?_)
                                · skip
                                  refine lv_iinc (v := nI ((1 + 3 * c) + 3)) (lv' := [(3, .int (nI ((1 + 3 * c) + 3))), (4, .int (nI (f3 ((8 * (g ((1 + 3 * e) + 1))) + (g (1 + 3 * c)))))), (0, .ref m), (1, .int (bI (decide (b2 = true)))), (2, .int (nI (1 + 3 * e)))]) hx hb dX9_closeDepths_207 hl (k := 4) rfl (zinc (1 + 3 * c) 3) (by decide) rfl (fun ls hl => ?_)
                                  refine lv_goto (tgt := 96) hx hb dX9_closeDepths_210 (by decide) ?_
                                  have hl : lv_has ls 5 [(0, .ref m), (1, .int (bI (decide (b2 = true)))), (2, .int (nI (1 + 3 * e))), (3, .int (nI (1 + 3 * (c + 1))))] := by (rw [z13]); exact (lv_sub hl [2, 3, 4, 0] rfl)
                                  exact ih96 (c + 1) f3 b2 (by omega) (by rw [zIt_s, ← hq2]; unfold yPeC; first | (exfalso; omega) | (rw [if_pos (by dsimp only; omega)]; unfold yIm; dsimp only; first | rw [decide_eq_true (by omega), Bool.or_true] | rw [decide_eq_false (by omega), Bool.or_false]) | rw [if_neg (by dsimp only; omega)]) (by first | exact hf3 | exact mLdT_2 hf3 (by omega)) (Or.inr (by omega)) (by omega) _ _ _ hP hD hS hl
                                · skip
                                  refine lv_iload hx hb dX9_closeDepths_173 (lv_at hl 0 rfl) ?_
                                  refine lv_ldc (v := nI 2000000) hx hb hown (hts (.constant RX9 62 (2000000)) (by decide +kernel)) dX9_closeDepths_175 ?_
                                  refine zn_ge (tgt := 207) hx hb dX9_closeDepths_177 (by decide) (by omega) (by omega) (fun c_54 => ?_) (fun c_54 => ?_)
                                  · skip
                                    refine lv_iinc (v := nI ((1 + 3 * c) + 3)) (lv' := [(3, .int (nI ((1 + 3 * c) + 3))), (4, .int (nI (f3 ((8 * (g ((1 + 3 * e) + 1))) + (g (1 + 3 * c)))))), (0, .ref m), (1, .int (bI (decide (b2 = true)))), (2, .int (nI (1 + 3 * e)))]) hx hb dX9_closeDepths_207 hl (k := 4) rfl (zinc (1 + 3 * c) 3) (by decide) rfl (fun ls hl => ?_)
                                    refine lv_goto (tgt := 96) hx hb dX9_closeDepths_210 (by decide) ?_
                                    have hl : lv_has ls 5 [(0, .ref m), (1, .int (bI (decide (b2 = true)))), (2, .int (nI (1 + 3 * e))), (3, .int (nI (1 + 3 * (c + 1))))] := by (rw [z13]); exact (lv_sub hl [2, 3, 4, 0] rfl)
                                    exact ih96 (c + 1) f3 b2 (by omega) (by rw [zIt_s, ← hq2]; unfold yPeC; first | (exfalso; omega) | (rw [if_pos (by dsimp only; omega)]; unfold yIm; dsimp only; first | rw [decide_eq_true (by omega), Bool.or_true] | rw [decide_eq_false (by omega), Bool.or_false]) | rw [if_neg (by dsimp only; omega)]) (by first | exact hf3 | exact mLdT_2 hf3 (by omega)) (Or.inr (by omega)) (by omega) _ _ _ hP hD hS hl
                                  · skip
                                    refine lv_aload_n hx hb dX9_closeDepths_180 rfl (lv_at hl 1 rfl) ?_
                                    refine lv_aload_n hx hb dX9_closeDepths_181 rfl (lv_at hl 1 rfl) ?_
                                    refine va_get (D := G.1) (ci := 6) (v := .ref mg) (C := RX9) (T := TX9) (N := 21) hx hb hts hinX9 hown hK hP 0 rfl rfl 7 (by decide) hlk20 (fun _ h9 => h9) rfl dX9_closeDepths_182 ?_
                                    refine lv_iload_n hx hb dX9_closeDepths_185 rfl (lv_at hl 3 rfl) ?_
                                    refine zi_ald hx hb hK hP 2 rfl (by omega) (by omega) dX9_closeDepths_186 ?_
                                    have hb_55 := hg8 (1 + 3 * e) (by omega)
                                    refine lv_aload_n hx hb dX9_closeDepths_187 rfl (lv_at hl 1 rfl) ?_
                                    refine va_get (D := G.1) (ci := 6) (v := .ref mg) (C := RX9) (T := TX9) (N := 21) hx hb hts hinX9 hown hK hP 0 rfl rfl 7 (by decide) hlk20 (fun _ h9 => h9) rfl dX9_closeDepths_188 ?_
                                    refine lv_iload_n hx hb dX9_closeDepths_191 rfl (lv_at hl 4 rfl) ?_
                                    refine lv_iconst (v := nI 1) hx hb dX9_closeDepths_192 (by decide) ?_
                                    refine zi_addk (n := (1 + 3 * c) + 1) hx hb dX9_closeDepths_193 (by omega) ?_
                                    refine zi_ald hx hb hK hP 2 rfl (by omega) (by omega) dX9_closeDepths_194 ?_
                                    have hb_56 := hg8 ((1 + 3 * c) + 1) (by omega)
                                    refine lv_iload hx hb dX9_closeDepths_195 (lv_at hl 0 rfl) ?_
                                    refine lv_iconst (v := nI 1) hx hb dX9_closeDepths_197 (by decide) ?_
                                    refine zi_addk (n := (f3 ((8 * (g ((1 + 3 * e) + 1))) + (g (1 + 3 * c)))) + 1) hx hb dX9_closeDepths_198 (by omega) ?_
                                    refine zVi (W1 := [(m, .inr (6, [.int (nI th), .ref mt, .int (nI ts), .int (nI ps), .int pv, .ref mp, .int (nI V), .ref mg, .ref mc, .ref mh, .int (nI rm), .ref ms, .ref mu, .int (nI on), .ref of1, .ref ot1, .ref oi1, .long sd, .ref ml, .ref md, .ref mw])), zA G md 64 f3, zA G mg 49 g]) (W2 := [(m, .inr (6, [.int (nI th), .ref mt, .int (nI ts), .int (nI ps), .int pv, .ref mp, .int (nI V), .ref mg, .ref mc, .ref mh, .int (nI rm), .ref ms, .ref mu, .int (nI on), .ref of1, .ref ot1, .ref oi1, .long sd, .ref ml, .ref md, .ref mw])), zA G md 64 (mLdT (g (1 + 3 * e)) (g ((1 + 3 * c) + 1)) ((f3 ((8 * (g ((1 + 3 * e) + 1))) + (g (1 + 3 * c)))) + 1) f3), zA G mg 49 g]) (wr := [zA G mg 49 g]) (rest := []) SM (c_X9_lessDeep l G m mt mp mg mc mh ms mu of1 ot1 oi1 ml md mw th ts ps V rm on pv sd f3 (g (1 + 3 * e)) (g ((1 + 3 * c) + 1)) ((f3 ((8 * (g ((1 + 3 * e) + 1))) + (g (1 + 3 * c)))) + 1) hf3 (by omega) (by omega) (by omega)) (cwV 3 hts gX9_closeDepths_X9_lessDeep rfl rfl rfl (by decide +kernel) ⟨Nat.le_of_ble_eq_true rfl, Nat.le_of_ble_eq_true rfl⟩) hK hE hA hP hD hS hl.1 [0, 1] [2] [1, 2, 0] rfl rfl rfl (by decide) (ci := 6) rfl rfl rfl rfl rfl (Nat.le_of_ble_eq_true rfl) ⟨Nat.zero_le _, Nat.zero_le _⟩ dX9_closeDepths_199 (fun H locs hP hD hS => ?_)
                                    refine zb_eq (tgt := 207) hx hb dX9_closeDepths_202 (by decide) (fun c_57 => ?_) (fun c_57 => ?_)
                                    · skip
                                      refine lv_iinc (v := nI ((1 + 3 * c) + 3)) (lv' := [(3, .int (nI ((1 + 3 * c) + 3))), (4, .int (nI (f3 ((8 * (g ((1 + 3 * e) + 1))) + (g (1 + 3 * c)))))), (0, .ref m), (1, .int (bI (decide (b2 = true)))), (2, .int (nI (1 + 3 * e)))]) hx hb dX9_closeDepths_207 hl (k := 4) rfl (zinc (1 + 3 * c) 3) (by decide) rfl (fun ls hl => ?_)
                                      refine lv_goto (tgt := 96) hx hb dX9_closeDepths_210 (by decide) ?_
                                      have hl : lv_has ls 5 [(0, .ref m), (1, .int (bI (decide (b2 = true)))), (2, .int (nI (1 + 3 * e))), (3, .int (nI (1 + 3 * (c + 1))))] := by (rw [z13]); exact (lv_sub hl [2, 3, 4, 0] rfl)
                                      exact ih96 (c + 1) (mLdT (g (1 + 3 * e)) (g ((1 + 3 * c) + 1)) ((f3 ((8 * (g ((1 + 3 * e) + 1))) + (g (1 + 3 * c)))) + 1) f3) b2 (by omega) (by rw [zIt_s, ← hq2]; unfold yPeC; first | (exfalso; omega) | (rw [if_pos (by dsimp only; omega)]; unfold yIm; dsimp only; first | rw [decide_eq_true (by omega), Bool.or_true] | rw [decide_eq_false (by omega), Bool.or_false]) | rw [if_neg (by dsimp only; omega)]) (by first | exact hf3 | exact mLdT_2 hf3 (by omega)) (Or.inr (by omega)) (by omega) _ _ _ hP hD hS hl
                                    · skip
                                      refine lv_iconst (v := nI 1) hx hb dX9_closeDepths_205 (by decide) ?_
                                      refine lv_istore_n (lv' := [(1, .int (nI 1)), (4, .int (nI (f3 ((8 * (g ((1 + 3 * e) + 1))) + (g (1 + 3 * c)))))), (0, .ref m), (2, .int (nI (1 + 3 * e))), (3, .int (nI (1 + 3 * c)))]) hx hb dX9_closeDepths_206 rfl hl (by decide) rfl (fun ls hl => ?_)
                                      refine lv_iinc (v := nI ((1 + 3 * c) + 3)) (lv' := [(3, .int (nI ((1 + 3 * c) + 3))), (1, .int (nI 1)), (4, .int (nI (f3 ((8 * (g ((1 + 3 * e) + 1))) + (g (1 + 3 * c)))))), (0, .ref m), (2, .int (nI (1 + 3 * e)))]) hx hb dX9_closeDepths_207 hl (k := 4) rfl (zinc (1 + 3 * c) 3) (by decide) rfl (fun ls hl => ?_)
                                      refine lv_goto (tgt := 96) hx hb dX9_closeDepths_210 (by decide) ?_
                                      have hl : lv_has ls 5 [(0, .ref m), (1, .int (bI (decide (true = true)))), (2, .int (nI (1 + 3 * e))), (3, .int (nI (1 + 3 * (c + 1))))] := by (rw [z13]); exact (lv_sub hl [3, 1, 4, 0] rfl)
                                      exact ih96 (c + 1) (mLdT (g (1 + 3 * e)) (g ((1 + 3 * c) + 1)) ((f3 ((8 * (g ((1 + 3 * e) + 1))) + (g (1 + 3 * c)))) + 1) f3) true (by omega) (by rw [zIt_s, ← hq2]; unfold yPeC; first | (exfalso; omega) | (rw [if_pos (by dsimp only; omega)]; unfold yIm; dsimp only; first | rw [decide_eq_true (by omega), Bool.or_true] | rw [decide_eq_false (by omega), Bool.or_false]) | rw [if_neg (by dsimp only; omega)]) (by first | exact hf3 | exact mLdT_2 hf3 (by omega)) (Or.inr (by omega)) (by omega) _ _ _ hP hD hS hl
                        exact lp96 (g 0 - 0 + 1) 0 (mLdT (g (1 + 3 * e)) (g ((1 + 3 * e) + 1)) 0 f2) true (Nat.zero_le _) (by rw [zIt_0]; unfold yPeA; first | (rw [if_pos (by omega)]; unfold yIm; dsimp only; first | rw [decide_eq_true (by omega), Bool.or_true] | rw [decide_eq_false (by omega), Bool.or_false]) | rw [if_neg (by omega)]) (by first | exact hf2 | exact mLdT_2 hf2 (by omega)) (Or.inl rfl) (Nat.lt_succ_self _) _ _ _ hP hD hS (lv_sub hl [2, 1, 3, 0] rfl)
              exact lp47 (g 0 - 0 + 1) 0 f1 false (Nat.zero_le _) rfl hf1 (Nat.lt_succ_self _) _ _ _ hP hD hS (lv_sub hl [2, 1, 0] rfl)
        exact lp39 ((if true = true then zSum zC0 + 1 else 0) + 1) zFuel zC0 true (mDp_start g) (fun _ => zFuel_lt) zC0_2 (Nat.lt_succ_self _) _ _ _ hP hD hS (lv_sub hl [1, 0] rfl)
      · skip
        refine lv_aload_n hx hb dX9_closeDepths_8 rfl (lv_at hl 0 rfl) ?_
        refine va_get (D := G.1) (ci := 6) (v := .ref md) (C := RX9) (T := TX9) (N := 21) hx hb hts hinX9 hown hK hP 0 rfl rfl 19 (by decide) hlk48 (fun _ h9 => h9) rfl dX9_closeDepths_9 ?_
        refine lv_iload_n hx hb dX9_closeDepths_12 rfl (lv_at hl 1 rfl) ?_
        refine lv_iload_n hx hb dX9_closeDepths_13 rfl (lv_at hl 1 rfl) ?_
        refine lv_bipush (v := nI 8) hx hb dX9_closeDepths_14 (by decide) ?_
        refine zi_div hx hb dX9_closeDepths_16 (by omega) (by omega) (by omega) ?_
        refine lv_iload_n hx hb dX9_closeDepths_17 rfl (lv_at hl 1 rfl) ?_
        refine lv_bipush (v := nI 8) hx hb dX9_closeDepths_18 (by decide) ?_
        refine zi_rem hx hb dX9_closeDepths_20 (by omega) (by omega) (by omega) ?_
        refine zn_ne (tgt := 28) hx hb dX9_closeDepths_21 (by decide) (by omega) (by omega) (fun c_58 => ?_) (fun c_58 => ?_)
        · skip
          refine lv_ldc (v := nI 2000000) hx hb hown (hts (.constant RX9 62 (2000000)) (by decide +kernel)) dX9_closeDepths_28 ?_
          refine zi_ast hx hb hK hP hD hS 1 rfl (by omega) (by omega) dX9_closeDepths_30 (fun H locs hP hD hS => ?_)
          have hP : va_P G.1 vwCl [(m, .inr (6, [.int (nI th), .ref mt, .int (nI ts), .int (nI ps), .int pv, .ref mp, .int (nI V), .ref mg, .ref mc, .ref mh, .int (nI rm), .ref ms, .ref mu, .int (nI on), .ref of1, .ref ot1, .ref oi1, .long sd, .ref ml, .ref md, .ref mw])), zA G md 64 (zU f0 i 2000000), zA G mg 49 g] H := hP
          have hD : va_D AM [(m, .inr (6, [.int (nI th), .ref mt, .int (nI ts), .int (nI ps), .int pv, .ref mp, .int (nI V), .ref mg, .ref mc, .ref mh, .int (nI rm), .ref ms, .ref mu, .int (nI on), .ref of1, .ref ot1, .ref oi1, .long sd, .ref ml, .ref md, .ref mw])), zA G md 64 (zU f0 i 2000000), zA G mg 49 g] := hD
          refine lv_iinc (v := nI (i + 1)) (lv' := [(1, .int (nI (i + 1))), (0, .ref m)]) hx hb dX9_closeDepths_31 hl (k := 1) rfl (zinc i 1) (by decide) rfl (fun ls hl => ?_)
          refine lv_goto (tgt := 2) hx hb dX9_closeDepths_34 (by decide) ?_
          exact ih2 (i + 1) (zU f0 i 2000000) (by omega) (by rw [zIt_s, ← hq0]; unfold zC1 zC0; first | rw [if_pos (by omega)] | rw [if_neg (by omega)]) (by omega) _ _ _ hP hD hS (lv_sub hl [1, 0] rfl)
        · skip
          refine lv_iconst (v := nI 0) hx hb dX9_closeDepths_24 (by decide) ?_
          refine lv_goto (tgt := 30) hx hb dX9_closeDepths_25 (by decide) ?_
          refine zi_ast hx hb hK hP hD hS 1 rfl (by omega) (by omega) dX9_closeDepths_30 (fun H locs hP hD hS => ?_)
          have hP : va_P G.1 vwCl [(m, .inr (6, [.int (nI th), .ref mt, .int (nI ts), .int (nI ps), .int pv, .ref mp, .int (nI V), .ref mg, .ref mc, .ref mh, .int (nI rm), .ref ms, .ref mu, .int (nI on), .ref of1, .ref ot1, .ref oi1, .long sd, .ref ml, .ref md, .ref mw])), zA G md 64 (zU f0 i 0), zA G mg 49 g] H := hP
          have hD : va_D AM [(m, .inr (6, [.int (nI th), .ref mt, .int (nI ts), .int (nI ps), .int pv, .ref mp, .int (nI V), .ref mg, .ref mc, .ref mh, .int (nI rm), .ref ms, .ref mu, .int (nI on), .ref of1, .ref ot1, .ref oi1, .long sd, .ref ml, .ref md, .ref mw])), zA G md 64 (zU f0 i 0), zA G mg 49 g] := hD
          refine lv_iinc (v := nI (i + 1)) (lv' := [(1, .int (nI (i + 1))), (0, .ref m)]) hx hb dX9_closeDepths_31 hl (k := 1) rfl (zinc i 1) (by decide) rfl (fun ls hl => ?_)
          refine lv_goto (tgt := 2) hx hb dX9_closeDepths_34 (by decide) ?_
          exact ih2 (i + 1) (zU f0 i 0) (by omega) (by rw [zIt_s, ← hq0]; unfold zC1 zC0; first | rw [if_pos (by omega)] | rw [if_neg (by omega)]) (by omega) _ _ _ hP hD hS (lv_sub hl [1, 0] rfl)
  exact lp2 (64 - 0 + 1) 0 fd (by omega) rfl (Nat.lt_succ_self _) _ _ _ hP hD hS (lv_sub hl [1, 0] rfl)
set_option maxHeartbeats 1000000 in
set_option maxRecDepth 100000 in
theorem c_X9_depth_bad (l : Launch) (G : zG) (m mt mp mg mc mh ms mu of1 ot1 oi1 ml md mw th ts ps V rm on : Nat) (pv : Int32) (sd : Int64) (x y : Int32) (hV : V ≤ 8) (hV1 : 1 ≤ V) (hb0 : ¬ ((0 ≤ x.toInt ∧ x.toInt < V) ∧ (0 ≤ y.toInt ∧ y.toInt < V))) : MI l yX9_depth wsX9_depth ({ frames := 2, cells := 0, slots := 0, locals := 46 }) G [.ref m, .int x, .int y] [(m, .inr (6, [.int (nI th), .ref mt, .int (nI ts), .int (nI ps), .int pv, .ref mp, .int (nI V), .ref mg, .ref mc, .ref mh, .int (nI rm), .ref ms, .ref mu, .int (nI on), .ref of1, .ref ot1, .ref oi1, .long sd, .ref ml, .ref md, .ref mw]))] (-1) [(m, .inr (6, [.int (nI 0), .ref mt, .int (nI ts), .int (nI ps), .int pv, .ref mp, .int (nI V), .ref mg, .ref mc, .ref mh, .int (nI rm), .ref ms, .ref mu, .int (nI on), .ref of1, .ref ot1, .ref oi1, .long sd, .ref ml, .ref md, .ref mw]))] := by
  refine MI.enter (cc := cX9_depth) (maxL := 4) (by decide) rfl (Nat.le_of_ble_eq_true rfl) rfl ?_
  intro pM eM sM mM bM tM cM QM AM ls hat kret
  obtain ⟨SM, hA, hK, hE, hP, hD, hS, hl⟩ := hat
  have hx := SM.1
  have hb := SM.2.1
  have hown : sM.vm.findClass RX9 = some mM.cls := SM.2.2.2.1
  have hts := SM.2.2.2.2
  have hinX9 : ∀ w ∈ u_ws RX9 TX9 21, w ∈ wsX9_depth := by decide +kernel
  have hlk54 : (Cond.fieldLink RX9 54 "DyckReachabilityModel" "thrown" "I").before _ sM = true := hts _ (by decide +kernel)
  have hl : lv_has ls 4 [(0, .ref m), (1, .int x), (2, .int y)] := hl
  refine lv_aload_n hx hb dX9_depth_0 rfl (lv_at hl 0 rfl) ?_
  refine lv_iconst (v := nI 0) hx hb dX9_depth_1 (by decide) ?_
  refine va_put (D := G.1) (ci := 6) (v := .int (nI 0)) (ty := .int) (C := RX9) (T := TX9) (N := 21) hx hb hts hinX9 tyX9 tyX9_ok nmX9 hown hK hP hD hS 0 rfl rfl 0 (by decide) hlk54 (fun _ h9 => h9) rfl (by decide +kernel) rfl rfl (Nat.le_of_ble_eq_true rfl) dX9_depth_2 (fun H locs hP hD hS => ?_)
  have hP : va_P G.1 vwCl [(m, .inr (6, [.int (nI 0), .ref mt, .int (nI ts), .int (nI ps), .int pv, .ref mp, .int (nI V), .ref mg, .ref mc, .ref mh, .int (nI rm), .ref ms, .ref mu, .int (nI on), .ref of1, .ref ot1, .ref oi1, .long sd, .ref ml, .ref md, .ref mw]))] H := hP
  have hD : va_D AM [(m, .inr (6, [.int (nI 0), .ref mt, .int (nI ts), .int (nI ps), .int pv, .ref mp, .int (nI V), .ref mg, .ref mc, .ref mh, .int (nI rm), .ref ms, .ref mu, .int (nI on), .ref of1, .ref ot1, .ref oi1, .long sd, .ref ml, .ref md, .ref mw]))] := hD
  refine lv_aload_n hx hb dX9_depth_5 rfl (lv_at hl 0 rfl) ?_
  refine lv_iload_n hx hb dX9_depth_6 rfl (lv_at hl 1 rfl) ?_
  refine zVi (W1 := [(m, .inr (6, [.int (nI 0), .ref mt, .int (nI ts), .int (nI ps), .int pv, .ref mp, .int (nI V), .ref mg, .ref mc, .ref mh, .int (nI rm), .ref ms, .ref mu, .int (nI on), .ref of1, .ref ot1, .ref oi1, .long sd, .ref ml, .ref md, .ref mw]))]) (W2 := [(m, .inr (6, [.int (nI 0), .ref mt, .int (nI ts), .int (nI ps), .int pv, .ref mp, .int (nI V), .ref mg, .ref mc, .ref mh, .int (nI rm), .ref ms, .ref mu, .int (nI on), .ref of1, .ref ot1, .ref oi1, .long sd, .ref ml, .ref md, .ref mw]))]) (wr := []) (rest := []) SM (c_X9_noVertex l G m mt mp mg mc mh ms mu of1 ot1 oi1 ml md mw 0 ts ps V rm on pv sd x (by first | assumption | omega) (by first | assumption | omega)) (cwV 1 hts gX9_depth_X9_noVertex rfl rfl rfl (by decide +kernel) ⟨Nat.le_of_ble_eq_true rfl, Nat.le_of_ble_eq_true rfl⟩) hK hE hA hP hD hS hl.1 [0] [] [0] rfl rfl rfl (by decide) (ci := 6) rfl rfl rfl rfl rfl (Nat.le_of_ble_eq_true rfl) ⟨Nat.zero_le _, Nat.zero_le _⟩ dX9_depth_7 (fun H locs hP hD hS => ?_)
  refine zb_ne (tgt := 21) hx hb dX9_depth_10 (by decide) (fun c_1 => ?_) (fun c_1 => ?_)
  · skip
    refine lv_iconst (v := (-1)) hx hb dX9_depth_21 (by decide) ?_
    exact kret _ _ _ _ _ _ rfl rfl hP hD hS dX9_depth_22
  · skip
    refine lv_aload_n hx hb dX9_depth_13 rfl (lv_at hl 0 rfl) ?_
    refine lv_iload_n hx hb dX9_depth_14 rfl (lv_at hl 2 rfl) ?_
    refine zVi (W1 := [(m, .inr (6, [.int (nI 0), .ref mt, .int (nI ts), .int (nI ps), .int pv, .ref mp, .int (nI V), .ref mg, .ref mc, .ref mh, .int (nI rm), .ref ms, .ref mu, .int (nI on), .ref of1, .ref ot1, .ref oi1, .long sd, .ref ml, .ref md, .ref mw]))]) (W2 := [(m, .inr (6, [.int (nI 0), .ref mt, .int (nI ts), .int (nI ps), .int pv, .ref mp, .int (nI V), .ref mg, .ref mc, .ref mh, .int (nI rm), .ref ms, .ref mu, .int (nI on), .ref of1, .ref ot1, .ref oi1, .long sd, .ref ml, .ref md, .ref mw]))]) (wr := []) (rest := []) SM (c_X9_noVertex l G m mt mp mg mc mh ms mu of1 ot1 oi1 ml md mw 0 ts ps V rm on pv sd y (by first | assumption | omega) (by first | assumption | omega)) (cwV 1 hts gX9_depth_X9_noVertex rfl rfl rfl (by decide +kernel) ⟨Nat.le_of_ble_eq_true rfl, Nat.le_of_ble_eq_true rfl⟩) hK hE hA hP hD hS hl.1 [0] [] [0] rfl rfl rfl (by decide) (ci := 6) rfl rfl rfl rfl rfl (Nat.le_of_ble_eq_true rfl) ⟨Nat.zero_le _, Nat.zero_le _⟩ dX9_depth_15 (fun H locs hP hD hS => ?_)
    refine zb_eq (tgt := 23) hx hb dX9_depth_18 (by decide) (fun c_2 => ?_) (fun c_2 => ?_)
    · skip
      exfalso; omega
    · skip
      refine lv_iconst (v := (-1)) hx hb dX9_depth_21 (by decide) ?_
      exact kret _ _ _ _ _ _ rfl rfl hP hD hS dX9_depth_22
set_option maxHeartbeats 1000000 in
set_option maxRecDepth 100000 in
theorem c_X9_depth_ok (l : Launch) (G : zG) (m mt mp mg mc mh ms mu of1 ot1 oi1 ml md mw th ts ps V rm on : Nat) (pv : Int32) (sd : Int64) (fd g : Nat → Nat) (x y : Int32) (hV : V ≤ 8) (hV1 : 1 ≤ V) (hD2 : zL2 fd) (hg0 : g 0 ≤ 16) (hg8 : ∀ i, 1 ≤ i → g i < 8) (hx : 0 ≤ x.toInt ∧ x.toInt < V) (hy : 0 ≤ y.toInt ∧ y.toInt < V) : MI l yX9_depth wsX9_depth ({ frames := 2, cells := 0, slots := 0, locals := 49 }) G [.ref m, .int x, .int y] [(m, .inr (6, [.int (nI th), .ref mt, .int (nI ts), .int (nI ps), .int pv, .ref mp, .int (nI V), .ref mg, .ref mc, .ref mh, .int (nI rm), .ref ms, .ref mu, .int (nI on), .ref of1, .ref ot1, .ref oi1, .long sd, .ref ml, .ref md, .ref mw])), zA G md 64 fd, zA G mg 49 g] (mDe (mDp g) x.toInt.toNat y.toInt.toNat) [(m, .inr (6, [.int (nI 0), .ref mt, .int (nI ts), .int (nI ps), .int pv, .ref mp, .int (nI V), .ref mg, .ref mc, .ref mh, .int (nI rm), .ref ms, .ref mu, .int (nI on), .ref of1, .ref ot1, .ref oi1, .long sd, .ref ml, .ref md, .ref mw])), zA G md 64 (mDp g), zA G mg 49 g] := by
  refine MI.enter (cc := cX9_depth) (maxL := 4) (by decide) rfl (Nat.le_of_ble_eq_true rfl) rfl ?_
  intro pM eM sM mM bM tM cM QM AM ls hat kret
  obtain ⟨SM, hA, hK, hE, hP, hD, hS, hl⟩ := hat
  have hx := SM.1
  have hb := SM.2.1
  have hown : sM.vm.findClass RX9 = some mM.cls := SM.2.2.2.1
  have hts := SM.2.2.2.2
  have hinX9 : ∀ w ∈ u_ws RX9 TX9 21, w ∈ wsX9_depth := by decide +kernel
  have hlk54 : (Cond.fieldLink RX9 54 "DyckReachabilityModel" "thrown" "I").before _ sM = true := hts _ (by decide +kernel)
  have hlk48 : (Cond.fieldLink RX9 48 "DyckReachabilityModel" "depths" "[I").before _ sM = true := hts _ (by decide +kernel)
  have hl : lv_has ls 4 [(0, .ref m), (1, .int x), (2, .int y)] := hl
  refine lv_aload_n hx hb dX9_depth_0 rfl (lv_at hl 0 rfl) ?_
  refine lv_iconst (v := nI 0) hx hb dX9_depth_1 (by decide) ?_
  refine va_put (D := G.1) (ci := 6) (v := .int (nI 0)) (ty := .int) (C := RX9) (T := TX9) (N := 21) hx hb hts hinX9 tyX9 tyX9_ok nmX9 hown hK hP hD hS 0 rfl rfl 0 (by decide) hlk54 (fun _ h9 => h9) rfl (by decide +kernel) rfl rfl (Nat.le_of_ble_eq_true rfl) dX9_depth_2 (fun H locs hP hD hS => ?_)
  have hP : va_P G.1 vwCl [(m, .inr (6, [.int (nI 0), .ref mt, .int (nI ts), .int (nI ps), .int pv, .ref mp, .int (nI V), .ref mg, .ref mc, .ref mh, .int (nI rm), .ref ms, .ref mu, .int (nI on), .ref of1, .ref ot1, .ref oi1, .long sd, .ref ml, .ref md, .ref mw])), zA G md 64 fd, zA G mg 49 g] H := hP
  have hD : va_D AM [(m, .inr (6, [.int (nI 0), .ref mt, .int (nI ts), .int (nI ps), .int pv, .ref mp, .int (nI V), .ref mg, .ref mc, .ref mh, .int (nI rm), .ref ms, .ref mu, .int (nI on), .ref of1, .ref ot1, .ref oi1, .long sd, .ref ml, .ref md, .ref mw])), zA G md 64 fd, zA G mg 49 g] := hD
  refine lv_aload_n hx hb dX9_depth_5 rfl (lv_at hl 0 rfl) ?_
  refine lv_iload_n hx hb dX9_depth_6 rfl (lv_at hl 1 rfl) ?_
  refine zVi (W1 := [(m, .inr (6, [.int (nI 0), .ref mt, .int (nI ts), .int (nI ps), .int pv, .ref mp, .int (nI V), .ref mg, .ref mc, .ref mh, .int (nI rm), .ref ms, .ref mu, .int (nI on), .ref of1, .ref ot1, .ref oi1, .long sd, .ref ml, .ref md, .ref mw])), zA G md 64 fd, zA G mg 49 g]) (W2 := [(m, .inr (6, [.int (nI 0), .ref mt, .int (nI ts), .int (nI ps), .int pv, .ref mp, .int (nI V), .ref mg, .ref mc, .ref mh, .int (nI rm), .ref ms, .ref mu, .int (nI on), .ref of1, .ref ot1, .ref oi1, .long sd, .ref ml, .ref md, .ref mw])), zA G md 64 fd, zA G mg 49 g]) (wr := [zA G md 64 fd, zA G mg 49 g]) (rest := []) SM (c_X9_noVertex l G m mt mp mg mc mh ms mu of1 ot1 oi1 ml md mw 0 ts ps V rm on pv sd x (by omega) (by omega)) (cwV 1 hts gX9_depth_X9_noVertex rfl rfl rfl (by decide +kernel) ⟨Nat.le_of_ble_eq_true rfl, Nat.le_of_ble_eq_true rfl⟩) hK hE hA hP hD hS hl.1 [0] [1, 2] [2, 0, 1] rfl rfl rfl (by decide) (ci := 6) rfl rfl rfl rfl rfl (Nat.le_of_ble_eq_true rfl) ⟨Nat.zero_le _, Nat.zero_le _⟩ dX9_depth_7 (fun H locs hP hD hS => ?_)
  refine zb_ne (tgt := 21) hx hb dX9_depth_10 (by decide) (fun c_1 => ?_) (fun c_1 => ?_)
  · skip
    exfalso; omega
  · skip
    refine lv_aload_n hx hb dX9_depth_13 rfl (lv_at hl 0 rfl) ?_
    refine lv_iload_n hx hb dX9_depth_14 rfl (lv_at hl 2 rfl) ?_
    refine zVi (W1 := [(m, .inr (6, [.int (nI 0), .ref mt, .int (nI ts), .int (nI ps), .int pv, .ref mp, .int (nI V), .ref mg, .ref mc, .ref mh, .int (nI rm), .ref ms, .ref mu, .int (nI on), .ref of1, .ref ot1, .ref oi1, .long sd, .ref ml, .ref md, .ref mw])), zA G md 64 fd, zA G mg 49 g]) (W2 := [(m, .inr (6, [.int (nI 0), .ref mt, .int (nI ts), .int (nI ps), .int pv, .ref mp, .int (nI V), .ref mg, .ref mc, .ref mh, .int (nI rm), .ref ms, .ref mu, .int (nI on), .ref of1, .ref ot1, .ref oi1, .long sd, .ref ml, .ref md, .ref mw])), zA G md 64 fd, zA G mg 49 g]) (wr := [zA G md 64 fd, zA G mg 49 g]) (rest := []) SM (c_X9_noVertex l G m mt mp mg mc mh ms mu of1 ot1 oi1 ml md mw 0 ts ps V rm on pv sd y (by omega) (by omega)) (cwV 1 hts gX9_depth_X9_noVertex rfl rfl rfl (by decide +kernel) ⟨Nat.le_of_ble_eq_true rfl, Nat.le_of_ble_eq_true rfl⟩) hK hE hA hP hD hS hl.1 [0] [1, 2] [2, 0, 1] rfl rfl rfl (by decide) (ci := 6) rfl rfl rfl rfl rfl (Nat.le_of_ble_eq_true rfl) ⟨Nat.zero_le _, Nat.zero_le _⟩ dX9_depth_15 (fun H locs hP hD hS => ?_)
    refine zb_eq (tgt := 23) hx hb dX9_depth_18 (by decide) (fun c_2 => ?_) (fun c_2 => ?_)
    · skip
      have hl : lv_has ls 4 [(0, .ref m), (1, .int (nI x.toInt.toNat)), (2, .int (nI y.toInt.toNat))] := by rw [← xN_eq (x := x) (by omega), ← xN_eq (x := y) (by omega)]; exact hl
      refine lv_aload_n hx hb dX9_depth_23 rfl (lv_at hl 0 rfl) ?_
      refine zVv (W1 := [(m, .inr (6, [.int (nI 0), .ref mt, .int (nI ts), .int (nI ps), .int pv, .ref mp, .int (nI V), .ref mg, .ref mc, .ref mh, .int (nI rm), .ref ms, .ref mu, .int (nI on), .ref of1, .ref ot1, .ref oi1, .long sd, .ref ml, .ref md, .ref mw])), zA G md 64 fd, zA G mg 49 g]) (W2 := [(m, .inr (6, [.int (nI 0), .ref mt, .int (nI ts), .int (nI ps), .int pv, .ref mp, .int (nI V), .ref mg, .ref mc, .ref mh, .int (nI rm), .ref ms, .ref mu, .int (nI on), .ref of1, .ref ot1, .ref oi1, .long sd, .ref ml, .ref md, .ref mw])), zA G md 64 (mDp g), zA G mg 49 g]) (wr := []) (rest := []) SM (c_X9_closeDepths l G m mt mp mg mc mh ms mu of1 ot1 oi1 ml md mw 0 ts ps V rm on pv sd fd g hD2 (by omega) hg8) (cwV 0 hts gX9_depth_X9_closeDepths rfl rfl rfl (by decide +kernel) ⟨Nat.le_of_ble_eq_true rfl, Nat.le_of_ble_eq_true rfl⟩) hK hE hA hP hD hS hl.1 [0, 1, 2] [] [0, 1, 2] rfl rfl rfl (by decide) (ci := 6) rfl rfl rfl rfl rfl (Nat.le_of_ble_eq_true rfl) ⟨Nat.zero_le _, Nat.zero_le _⟩ dX9_depth_24 (fun H locs hP hD hS => ?_)
      refine lv_aload_n hx hb dX9_depth_27 rfl (lv_at hl 0 rfl) ?_
      refine va_get (D := G.1) (ci := 6) (v := .ref md) (C := RX9) (T := TX9) (N := 21) hx hb hts hinX9 hown hK hP 0 rfl rfl 19 (by decide) hlk48 (fun _ h9 => h9) rfl dX9_depth_28 ?_
      refine lv_bipush (v := nI 8) hx hb dX9_depth_31 (by decide) ?_
      refine lv_iload_n hx hb dX9_depth_33 rfl (lv_at hl 1 rfl) ?_
      refine zi_mul hx hb dX9_depth_34 ?_
      refine lv_iload_n hx hb dX9_depth_35 rfl (lv_at hl 2 rfl) ?_
      refine zi_add hx hb dX9_depth_36 ?_
      refine zi_ald hx hb hK hP 1 rfl (by omega) (by omega) dX9_depth_37 ?_
      have hb_3 := mDp_2 g ((8 * x.toInt.toNat) + y.toInt.toNat)
      refine lv_istore_n (lv' := [(3, .int (nI ((mDp g) ((8 * x.toInt.toNat) + y.toInt.toNat)))), (0, .ref m), (1, .int (nI x.toInt.toNat)), (2, .int (nI y.toInt.toNat))]) hx hb dX9_depth_38 rfl hl (by decide) rfl (fun ls hl => ?_)
      refine lv_iload_n hx hb dX9_depth_39 rfl (lv_at hl 0 rfl) ?_
      refine lv_ldc (v := nI 2000000) hx hb hown (hts (.constant RX9 62 (2000000)) (by decide +kernel)) dX9_depth_40 ?_
      refine zn_ne (tgt := 50) hx hb dX9_depth_42 (by decide) (by omega) (by omega) (fun c_4 => ?_) (fun c_4 => ?_)
      · skip
        refine lv_iload_n hx hb dX9_depth_50 rfl (lv_at hl 0 rfl) ?_
        exact kret _ _ _ _ _ _ (by unfold mDe; repeat (first | rw [if_pos (by first | assumption | omega)] | rw [if_neg (by first | assumption | omega)])) rfl hP hD hS dX9_depth_51
      · skip
        refine lv_bipush (v := (-9)) hx hb dX9_depth_45 (by decide) ?_
        refine lv_goto (tgt := 51) hx hb dX9_depth_47 (by decide) ?_
        exact kret _ _ _ _ _ _ (by unfold mDe; repeat (first | rw [if_pos (by first | assumption | omega)] | rw [if_neg (by first | assumption | omega)])) rfl hP hD hS dX9_depth_51
    · skip
      exfalso; omega
