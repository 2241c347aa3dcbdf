set_option maxHeartbeats 400000 in
set_option maxRecDepth 100000 in
theorem c_X9_errorPosition_ok (l : Launch) (G : zG) (m mt mp mg mc mh ms mu of1 ot1 oi1 ml md mw th ts ps V rm on : Nat) (pv : Int32) (sd : Int64) (tx pg : Nat → Nat) (n : Nat) (htx : ∀ i, tx i < 256) (hn : ts = 2 + 3 * n) (hn16 : n ≤ 16) (hfit : ∀ i, i < ts → zFit tx i = true) : MI l yX9_errorPosition wsX9_errorPosition ({ frames := 2, cells := 0, slots := 0, locals := 48 }) G [.ref m] [(m, .inr (6, [.int (nI th), .ref mt, .int (nI ts), .int (nI ps), .int pv, .ref mp, .int (nI V), .ref mg, .ref mc, .ref mh, .int (nI rm), .ref ms, .ref mu, .int (nI on), .ref of1, .ref ot1, .ref oi1, .long sd, .ref ml, .ref md, .ref mw])), zA G mt 60 tx, zA G mp 49 pg] (-9) [(m, .inr (6, [.int (nI 0), .ref mt, .int (nI ts), .int (nI (2 + 3 * n)), .int (nI (tx 1 - 48)), .ref mp, .int (nI V), .ref mg, .ref mc, .ref mh, .int (nI rm), .ref ms, .ref mu, .int (nI on), .ref of1, .ref ot1, .ref oi1, .long sd, .ref ml, .ref md, .ref mw])), zA G mt 60 tx, zA G mp 49 (zPa pg tx n)] := by
  refine MI.enter (cc := cX9_errorPosition) (maxL := 4) (by decide) rfl (Nat.le_of_ble_eq_true rfl) rfl ?_
  intro pM eM sM mM bM tM cM QM AM ls hat kret
  obtain ⟨SM, hA, hK, hE, hP, hD, hS, hl⟩ := hat
  have hx := SM.1
  have hb := SM.2.1
  have hown : sM.vm.findClass RX9 = some mM.cls := SM.2.2.2.1
  have hts := SM.2.2.2.2
  have hinX9 : ∀ w ∈ u_ws RX9 TX9 21, w ∈ wsX9_errorPosition := by decide +kernel
  have hlk54 : (Cond.fieldLink RX9 54 "DyckReachabilityModel" "thrown" "I").before _ sM = true := hts _ (by decide +kernel)
  have hlk90 : (Cond.fieldLink RX9 90 "DyckReachabilityModel" "pos" "I").before _ sM = true := hts _ (by decide +kernel)
  have hlk13 : (Cond.fieldLink RX9 13 "DyckReachabilityModel" "parsed" "[I").before _ sM = true := hts _ (by decide +kernel)
  have hlk87 : (Cond.fieldLink RX9 87 "DyckReachabilityModel" "textSize" "I").before _ sM = true := hts _ (by decide +kernel)
  have hlk7 : (Cond.fieldLink RX9 7 "DyckReachabilityModel" "text" "[I").before _ sM = true := hts _ (by decide +kernel)
  have hlk105 : (Cond.fieldLink RX9 105 "DyckReachabilityModel" "parsedVertices" "I").before _ sM = true := hts _ (by decide +kernel)
  have hf0 := zFit_0d (hfit 0 (by omega))
  have hf1 := zFit_1d (hfit 1 (by omega))
  have hl : lv_has ls 4 [(0, .ref m)] := hl
  refine lv_aload_n hx hb dX9_errorPosition_0 rfl (lv_at hl 0 rfl) ?_
  refine lv_iconst (v := nI 0) hx hb dX9_errorPosition_1 (by decide) ?_
  refine va_put (D := G.1) (ci := 6) (v := .int (nI 0)) (ty := .int) (C := RX9) (T := TX9) (N := 21) hx hb hts hinX9 tyX9 tyX9_ok nmX9 hown hK hP hD hS 0 rfl rfl 0 (by decide) hlk54 (fun _ h9 => h9) rfl (by decide +kernel) rfl rfl (Nat.le_of_ble_eq_true rfl) dX9_errorPosition_2 (fun H locs hP hD hS => ?_)
  have hP : va_P G.1 vwCl [(m, .inr (6, [.int (nI 0), .ref mt, .int (nI ts), .int (nI ps), .int pv, .ref mp, .int (nI V), .ref mg, .ref mc, .ref mh, .int (nI rm), .ref ms, .ref mu, .int (nI on), .ref of1, .ref ot1, .ref oi1, .long sd, .ref ml, .ref md, .ref mw])), zA G mt 60 tx, zA G mp 49 pg] H := hP
  have hD : va_D AM [(m, .inr (6, [.int (nI 0), .ref mt, .int (nI ts), .int (nI ps), .int pv, .ref mp, .int (nI V), .ref mg, .ref mc, .ref mh, .int (nI rm), .ref ms, .ref mu, .int (nI on), .ref of1, .ref ot1, .ref oi1, .long sd, .ref ml, .ref md, .ref mw])), zA G mt 60 tx, zA G mp 49 pg] := hD
  refine lv_aload_n hx hb dX9_errorPosition_5 rfl (lv_at hl 0 rfl) ?_
  refine lv_iconst (v := nI 0) hx hb dX9_errorPosition_6 (by decide) ?_
  refine va_put (D := G.1) (ci := 6) (v := .int (nI 0)) (ty := .int) (C := RX9) (T := TX9) (N := 21) hx hb hts hinX9 tyX9 tyX9_ok nmX9 hown hK hP hD hS 0 rfl rfl 3 (by decide) hlk90 (fun _ h9 => h9) rfl (by decide +kernel) rfl rfl (Nat.le_of_ble_eq_true rfl) dX9_errorPosition_7 (fun H locs hP hD hS => ?_)
  have hP : va_P G.1 vwCl [(m, .inr (6, [.int (nI 0), .ref mt, .int (nI ts), .int (nI 0), .int pv, .ref mp, .int (nI V), .ref mg, .ref mc, .ref mh, .int (nI rm), .ref ms, .ref mu, .int (nI on), .ref of1, .ref ot1, .ref oi1, .long sd, .ref ml, .ref md, .ref mw])), zA G mt 60 tx, zA G mp 49 pg] H := hP
  have hD : va_D AM [(m, .inr (6, [.int (nI 0), .ref mt, .int (nI ts), .int (nI 0), .int pv, .ref mp, .int (nI V), .ref mg, .ref mc, .ref mh, .int (nI rm), .ref ms, .ref mu, .int (nI on), .ref of1, .ref ot1, .ref oi1, .long sd, .ref ml, .ref md, .ref mw])), zA G mt 60 tx, zA G mp 49 pg] := hD
  refine lv_aload_n hx hb dX9_errorPosition_10 rfl (lv_at hl 0 rfl) ?_
  refine va_get (D := G.1) (ci := 6) (v := .ref mp) (C := RX9) (T := TX9) (N := 21) hx hb hts hinX9 hown hK hP 0 rfl rfl 5 (by decide) hlk13 (fun _ h9 => h9) rfl dX9_errorPosition_11 ?_
  refine lv_iconst (v := nI 0) hx hb dX9_errorPosition_14 (by decide) ?_
  refine lv_iconst (v := nI 0) hx hb dX9_errorPosition_15 (by decide) ?_
  refine zi_ast hx hb hK hP hD hS 2 rfl (by omega) (by omega) dX9_errorPosition_16 (fun H locs hP hD hS => ?_)
  have hP : va_P G.1 vwCl [(m, .inr (6, [.int (nI 0), .ref mt, .int (nI ts), .int (nI 0), .int pv, .ref mp, .int (nI V), .ref mg, .ref mc, .ref mh, .int (nI rm), .ref ms, .ref mu, .int (nI on), .ref of1, .ref ot1, .ref oi1, .long sd, .ref ml, .ref md, .ref mw])), zA G mt 60 tx, zA G mp 49 (zU pg 0 0)] H := hP
  have hD : va_D AM [(m, .inr (6, [.int (nI 0), .ref mt, .int (nI ts), .int (nI 0), .int pv, .ref mp, .int (nI V), .ref mg, .ref mc, .ref mh, .int (nI rm), .ref ms, .ref mu, .int (nI on), .ref of1, .ref ot1, .ref oi1, .long sd, .ref ml, .ref md, .ref mw])), zA G mt 60 tx, zA G mp 49 (zU pg 0 0)] := hD
  refine lv_aload_n hx hb dX9_errorPosition_17 rfl (lv_at hl 0 rfl) ?_
  refine va_get (D := G.1) (ci := 6) (v := .int (nI ts)) (C := RX9) (T := TX9) (N := 21) hx hb hts hinX9 hown hK hP 0 rfl rfl 2 (by decide) hlk87 (fun _ h9 => h9) rfl dX9_errorPosition_18 ?_
  refine zd_eq (a := (ts : Nat)) (tgt := 35) hx hb dX9_errorPosition_21 (by decide) (zI (by omega)) (fun c_1 => ?_) (fun c_1 => ?_)
  · skip
    exfalso; omega
  · skip
    refine lv_aload_n hx hb dX9_errorPosition_24 rfl (lv_at hl 0 rfl) ?_
    refine va_get (D := G.1) (ci := 6) (v := .ref mt) (C := RX9) (T := TX9) (N := 21) hx hb hts hinX9 hown hK hP 0 rfl rfl 1 (by decide) hlk7 (fun _ h9 => h9) rfl dX9_errorPosition_25 ?_
    refine lv_iconst (v := nI 0) hx hb dX9_errorPosition_28 (by decide) ?_
    refine zi_ald hx hb hK hP 1 rfl (by omega) (by omega) dX9_errorPosition_29 ?_
    have hb_2 := htx 0
    refine lv_bipush (v := nI 68) hx hb dX9_errorPosition_30 (by decide) ?_
    refine zn_eq (tgt := 37) hx hb dX9_errorPosition_32 (by decide) (by omega) (by omega) (fun c_3 => ?_) (fun c_3 => ?_)
    · skip
      refine lv_aload_n hx hb dX9_errorPosition_37 rfl (lv_at hl 0 rfl) ?_
      refine lv_iconst (v := nI 1) hx hb dX9_errorPosition_38 (by decide) ?_
      refine va_put (D := G.1) (ci := 6) (v := .int (nI 1)) (ty := .int) (C := RX9) (T := TX9) (N := 21) hx hb hts hinX9 tyX9 tyX9_ok nmX9 hown hK hP hD hS 0 rfl rfl 3 (by decide) hlk90 (fun _ h9 => h9) rfl (by decide +kernel) rfl rfl (Nat.le_of_ble_eq_true rfl) dX9_errorPosition_39 (fun H locs hP hD hS => ?_)
      have hP : va_P G.1 vwCl [(m, .inr (6, [.int (nI 0), .ref mt, .int (nI ts), .int (nI 1), .int pv, .ref mp, .int (nI V), .ref mg, .ref mc, .ref mh, .int (nI rm), .ref ms, .ref mu, .int (nI on), .ref of1, .ref ot1, .ref oi1, .long sd, .ref ml, .ref md, .ref mw])), zA G mt 60 tx, zA G mp 49 (zU pg 0 0)] H := hP
      have hD : va_D AM [(m, .inr (6, [.int (nI 0), .ref mt, .int (nI ts), .int (nI 1), .int pv, .ref mp, .int (nI V), .ref mg, .ref mc, .ref mh, .int (nI rm), .ref ms, .ref mu, .int (nI on), .ref of1, .ref ot1, .ref oi1, .long sd, .ref ml, .ref md, .ref mw])), zA G mt 60 tx, zA G mp 49 (zU pg 0 0)] := hD
      refine lv_aload_n hx hb dX9_errorPosition_42 rfl (lv_at hl 0 rfl) ?_
      refine lv_aload_n hx hb dX9_errorPosition_43 rfl (lv_at hl 0 rfl) ?_
      refine lv_iconst (v := nI 1) hx hb dX9_errorPosition_44 (by decide) ?_
      refine lv_bipush (v := nI 8) hx hb dX9_errorPosition_45 (by decide) ?_
      refine zVi (W1 := [(m, .inr (6, [.int (nI 0), .ref mt, .int (nI ts), .int (nI 1), .int pv, .ref mp, .int (nI V), .ref mg, .ref mc, .ref mh, .int (nI rm), .ref ms, .ref mu, .int (nI on), .ref of1, .ref ot1, .ref oi1, .long sd, .ref ml, .ref md, .ref mw])), zA G mt 60 tx, zA G mp 49 (zU pg 0 0)]) (W2 := [(m, .inr (6, [.int (nI 0), .ref mt, .int (nI ts), .int (nI (1 + 1)), .int pv, .ref mp, .int (nI V), .ref mg, .ref mc, .ref mh, .int (nI rm), .ref ms, .ref mu, .int (nI on), .ref of1, .ref ot1, .ref oi1, .long sd, .ref ml, .ref md, .ref mw])), zA G mt 60 tx, zA G mp 49 (zU pg 0 0)]) (wr := [zA G mp 49 (zU pg 0 0)]) (rest := [.ref m]) SM (c_X9_digit_ok l G m mt mp mg mc mh ms mu of1 ot1 oi1 ml md mw 0 ts 1 V rm on pv sd tx 1 8 htx (by omega) (by omega) (by omega) (by omega) (by omega)) (cwV 2 hts gX9_errorPosition_X9_digit rfl rfl rfl (by decide +kernel) ⟨Nat.le_of_ble_eq_true rfl, Nat.le_of_ble_eq_true rfl⟩) hK hE hA hP hD hS hl.1 [0, 1] [2] [1, 2, 0] rfl rfl rfl (by decide) (ci := 6) rfl rfl rfl rfl rfl (Nat.le_of_ble_eq_true rfl) ⟨Nat.zero_le _, Nat.zero_le _⟩ dX9_errorPosition_47 (fun H locs hP hD hS => ?_)
      refine va_put (D := G.1) (ci := 6) (v := .int (nI (tx 1 - 48))) (ty := .int) (C := RX9) (T := TX9) (N := 21) hx hb hts hinX9 tyX9 tyX9_ok nmX9 hown hK hP hD hS 0 rfl rfl 4 (by decide) hlk105 (fun _ h9 => h9) rfl (by decide +kernel) rfl rfl (Nat.le_of_ble_eq_true rfl) dX9_errorPosition_50 (fun H locs hP hD hS => ?_)
      have hP : va_P G.1 vwCl [(m, .inr (6, [.int (nI 0), .ref mt, .int (nI ts), .int (nI (1 + 1)), .int (nI (tx 1 - 48)), .ref mp, .int (nI V), .ref mg, .ref mc, .ref mh, .int (nI rm), .ref ms, .ref mu, .int (nI on), .ref of1, .ref ot1, .ref oi1, .long sd, .ref ml, .ref md, .ref mw])), zA G mt 60 tx, zA G mp 49 (zU pg 0 0)] H := hP
      have hD : va_D AM [(m, .inr (6, [.int (nI 0), .ref mt, .int (nI ts), .int (nI (1 + 1)), .int (nI (tx 1 - 48)), .ref mp, .int (nI V), .ref mg, .ref mc, .ref mh, .int (nI rm), .ref ms, .ref mu, .int (nI on), .ref of1, .ref ot1, .ref oi1, .long sd, .ref ml, .ref md, .ref mw])), zA G mt 60 tx, zA G mp 49 (zU pg 0 0)] := hD
      refine lv_aload_n hx hb dX9_errorPosition_53 rfl (lv_at hl 0 rfl) ?_
      refine va_get (D := G.1) (ci := 6) (v := .int (nI (tx 1 - 48))) (C := RX9) (T := TX9) (N := 21) hx hb hts hinX9 hown hK hP 0 rfl rfl 4 (by decide) hlk105 (fun _ h9 => h9) rfl dX9_errorPosition_54 ?_
      refine lv_bipush (v := (-9)) hx hb dX9_errorPosition_57 (by decide) ?_
      refine zc_ne (a := (tx 1 - 48 : Nat)) (b := (-9 : Int)) (tgt := 67) hx hb dX9_errorPosition_59 (by decide) (zI (by omega)) (by decide) (fun c_4 => ?_) (fun c_4 => ?_)
      · skip
        have lp67 : ∀ (n9 : Nat), ∀ (q : Nat), (q ≤ n) → (n - q) < n9 → ∀ (H : Heap) (locs : List Loc) (ls : Array Slot), va_P G.1 vwCl [(m, .inr (6, [.int (nI 0), .ref mt, .int (nI ts), .int (nI (2 + 3 * q)), .int (nI (tx 1 - 48)), .ref mp, .int (nI V), .ref mg, .ref mc, .ref mh, .int (nI rm), .ref ms, .ref mu, .int (nI on), .ref of1, .ref ot1, .ref oi1, .long sd, .ref ml, .ref md, .ref mw])), zA G mt 60 tx, zA G mp 49 (zPa pg tx q)] H → va_D AM [(m, .inr (6, [.int (nI 0), .ref mt, .int (nI ts), .int (nI (2 + 3 * q)), .int (nI (tx 1 - 48)), .ref mp, .int (nI V), .ref mg, .ref mc, .ref mh, .int (nI rm), .ref ms, .ref mu, .int (nI on), .ref of1, .ref ot1, .ref oi1, .long sd, .ref ml, .ref md, .ref mw])), zA G mt 60 tx, zA G mp 49 (zPa pg tx q)] → va_S AM sM.heap H locs → lv_has ls 4 [(0, .ref m)] → W pM l eM ({ frames := 2, cells := 0, slots := 0, locals := 48 }) sM mM (([.ref m] : List Value).toArray) bM tM cM H locs 0 0 QM (F0 mM 67 ls []) := by
          intro n9
          induction n9 with
          | zero =>
            intro _ _ h9
            exact absurd h9 (Nat.not_lt_zero _)
          | succ n9 ih9 =>
            intro q h1 hmu67 H locs ls hP hD hS hl
            have ih67 := ih9
            clear ih9
            refine lv_aload_n hx hb dX9_errorPosition_67 rfl (lv_at hl 0 rfl) ?_
            refine va_get (D := G.1) (ci := 6) (v := .int (nI (2 + 3 * q))) (C := RX9) (T := TX9) (N := 21) hx hb hts hinX9 hown hK hP 0 rfl rfl 3 (by decide) hlk90 (fun _ h9 => h9) rfl dX9_errorPosition_68 ?_
            refine lv_aload_n hx hb dX9_errorPosition_71 rfl (lv_at hl 0 rfl) ?_
            refine va_get (D := G.1) (ci := 6) (v := .int (nI ts)) (C := RX9) (T := TX9) (N := 21) hx hb hts hinX9 hown hK hP 0 rfl rfl 2 (by decide) hlk87 (fun _ h9 => h9) rfl dX9_errorPosition_72 ?_
            refine zn_ge (tgt := 169) hx hb dX9_errorPosition_75 (by decide) (by omega) (by omega) (fun c_5 => ?_) (fun c_5 => ?_)
            · skip
              refine lv_bipush (v := (-9)) hx hb dX9_errorPosition_169 (by decide) ?_
              exact kret _ _ _ _ _ _ rfl (by have hq9 : q = n := (by omega); rw [hq9]) hP hD hS dX9_errorPosition_171
            · skip
              have hds := zFit_sd (hfit (2 + 3 * q) (by omega))
              have hdt := zFit_td (hfit (2 + 3 * q + 1) (by omega))
              have hdl := zFit_ld (hfit (2 + 3 * q + 1 + 1) (by omega))
              refine lv_aload_n hx hb dX9_errorPosition_78 rfl (lv_at hl 0 rfl) ?_
              refine va_get (D := G.1) (ci := 6) (v := .ref mp) (C := RX9) (T := TX9) (N := 21) hx hb hts hinX9 hown hK hP 0 rfl rfl 5 (by decide) hlk13 (fun _ h9 => h9) rfl dX9_errorPosition_79 ?_
              refine lv_iconst (v := nI 0) hx hb dX9_errorPosition_82 (by decide) ?_
              refine zi_ald hx hb hK hP 2 rfl (by omega) (by omega) dX9_errorPosition_83 ?_
              have hb_6 := zPa_0 pg tx q
              refine lv_bipush (v := nI 16) hx hb dX9_errorPosition_84 (by decide) ?_
              refine zn_ne (tgt := 94) hx hb dX9_errorPosition_86 (by decide) (by omega) (by omega) (fun c_7 => ?_) (fun c_7 => ?_)
              · skip
                refine lv_aload_n hx hb dX9_errorPosition_94 rfl (lv_at hl 0 rfl) ?_
                refine lv_iconst (v := nI 0) hx hb dX9_errorPosition_95 (by decide) ?_
                refine lv_aload_n hx hb dX9_errorPosition_96 rfl (lv_at hl 0 rfl) ?_
                refine va_get (D := G.1) (ci := 6) (v := .int (nI (tx 1 - 48))) (C := RX9) (T := TX9) (N := 21) hx hb hts hinX9 hown hK hP 0 rfl rfl 4 (by decide) hlk105 (fun _ h9 => h9) rfl dX9_errorPosition_97 ?_
                refine lv_iconst (v := nI 1) hx hb dX9_errorPosition_100 (by decide) ?_
                refine zi_sub hx hb dX9_errorPosition_101 (by omega) ?_
                refine zVi (W1 := [(m, .inr (6, [.int (nI 0), .ref mt, .int (nI ts), .int (nI (2 + 3 * q)), .int (nI (tx 1 - 48)), .ref mp, .int (nI V), .ref mg, .ref mc, .ref mh, .int (nI rm), .ref ms, .ref mu, .int (nI on), .ref of1, .ref ot1, .ref oi1, .long sd, .ref ml, .ref md, .ref mw])), zA G mt 60 tx, zA G mp 49 (zPa pg tx q)]) (W2 := [(m, .inr (6, [.int (nI 0), .ref mt, .int (nI ts), .int (nI ((2 + 3 * q) + 1)), .int (nI (tx 1 - 48)), .ref mp, .int (nI V), .ref mg, .ref mc, .ref mh, .int (nI rm), .ref ms, .ref mu, .int (nI on), .ref of1, .ref ot1, .ref oi1, .long sd, .ref ml, .ref md, .ref mw])), zA G mt 60 tx, zA G mp 49 (zPa pg tx q)]) (wr := [zA G mp 49 (zPa pg tx q)]) (rest := []) SM (c_X9_digit_ok l G m mt mp mg mc mh ms mu of1 ot1 oi1 ml md mw 0 ts (2 + 3 * q) V rm on (nI (tx 1 - 48)) sd tx 0 ((tx 1 - 48) - 1) htx (by omega) (by omega) (by omega) (by omega) (by omega)) (cwV 2 hts gX9_errorPosition_X9_digit rfl rfl rfl (by decide +kernel) ⟨Nat.le_of_ble_eq_true rfl, Nat.le_of_ble_eq_true rfl⟩) hK hE hA hP hD hS hl.1 [0, 1] [2] [1, 2, 0] rfl rfl rfl (by decide) (ci := 6) rfl rfl rfl rfl rfl (Nat.le_of_ble_eq_true rfl) ⟨Nat.zero_le _, Nat.zero_le _⟩ dX9_errorPosition_102 (fun H locs hP hD hS => ?_)
                refine lv_istore_n (lv' := [(1, .int (nI (tx (2 + 3 * q) - 48))), (0, .ref m)]) hx hb dX9_errorPosition_105 rfl hl (by decide) rfl (fun ls hl => ?_)
                refine lv_iload_n hx hb dX9_errorPosition_106 rfl (lv_at hl 0 rfl) ?_
                refine lv_bipush (v := (-9)) hx hb dX9_errorPosition_107 (by decide) ?_
                refine zc_ne (a := (tx (2 + 3 * q) - 48 : Nat)) (b := (-9 : Int)) (tgt := 117) hx hb dX9_errorPosition_109 (by decide) (zI (by omega)) (by decide) (fun c_8 => ?_) (fun c_8 => ?_)
                · skip
                  refine lv_aload_n hx hb dX9_errorPosition_117 rfl (lv_at hl 1 rfl) ?_
                  refine lv_iconst (v := nI 0) hx hb dX9_errorPosition_118 (by decide) ?_
                  refine lv_aload_n hx hb dX9_errorPosition_119 rfl (lv_at hl 1 rfl) ?_
                  refine va_get (D := G.1) (ci := 6) (v := .int (nI (tx 1 - 48))) (C := RX9) (T := TX9) (N := 21) hx hb hts hinX9 hown hK hP 0 rfl rfl 4 (by decide) hlk105 (fun _ h9 => h9) rfl dX9_errorPosition_120 ?_
                  refine lv_iconst (v := nI 1) hx hb dX9_errorPosition_123 (by decide) ?_
                  refine zi_sub hx hb dX9_errorPosition_124 (by omega) ?_
                  refine zVi (W1 := [(m, .inr (6, [.int (nI 0), .ref mt, .int (nI ts), .int (nI ((2 + 3 * q) + 1)), .int (nI (tx 1 - 48)), .ref mp, .int (nI V), .ref mg, .ref mc, .ref mh, .int (nI rm), .ref ms, .ref mu, .int (nI on), .ref of1, .ref ot1, .ref oi1, .long sd, .ref ml, .ref md, .ref mw])), zA G mt 60 tx, zA G mp 49 (zPa pg tx q)]) (W2 := [(m, .inr (6, [.int (nI 0), .ref mt, .int (nI ts), .int (nI (((2 + 3 * q) + 1) + 1)), .int (nI (tx 1 - 48)), .ref mp, .int (nI V), .ref mg, .ref mc, .ref mh, .int (nI rm), .ref ms, .ref mu, .int (nI on), .ref of1, .ref ot1, .ref oi1, .long sd, .ref ml, .ref md, .ref mw])), zA G mt 60 tx, zA G mp 49 (zPa pg tx q)]) (wr := [zA G mp 49 (zPa pg tx q)]) (rest := []) SM (c_X9_digit_ok l G m mt mp mg mc mh ms mu of1 ot1 oi1 ml md mw 0 ts ((2 + 3 * q) + 1) V rm on (nI (tx 1 - 48)) sd tx 0 ((tx 1 - 48) - 1) htx (by omega) (by omega) (by omega) (by omega) (by omega)) (cwV 2 hts gX9_errorPosition_X9_digit rfl rfl rfl (by decide +kernel) ⟨Nat.le_of_ble_eq_true rfl, Nat.le_of_ble_eq_true rfl⟩) hK hE hA hP hD hS hl.1 [0, 1] [2] [1, 2, 0] rfl rfl rfl (by decide) (ci := 6) rfl rfl rfl rfl rfl (Nat.le_of_ble_eq_true rfl) ⟨Nat.zero_le _, Nat.zero_le _⟩ dX9_errorPosition_125 (fun H locs hP hD hS => ?_)
                  refine lv_istore_n (lv' := [(2, .int (nI (tx ((2 + 3 * q) + 1) - 48))), (1, .int (nI (tx (2 + 3 * q) - 48))), (0, .ref m)]) hx hb dX9_errorPosition_128 rfl hl (by decide) rfl (fun ls hl => ?_)
                  refine lv_iload_n hx hb dX9_errorPosition_129 rfl (lv_at hl 0 rfl) ?_
                  refine lv_bipush (v := (-9)) hx hb dX9_errorPosition_130 (by decide) ?_
                  refine zc_ne (a := (tx ((2 + 3 * q) + 1) - 48 : Nat)) (b := (-9 : Int)) (tgt := 140) hx hb dX9_errorPosition_132 (by decide) (zI (by omega)) (by decide) (fun c_9 => ?_) (fun c_9 => ?_)
                  · skip
                    refine lv_aload_n hx hb dX9_errorPosition_140 rfl (lv_at hl 2 rfl) ?_
                    refine zVi (W1 := [(m, .inr (6, [.int (nI 0), .ref mt, .int (nI ts), .int (nI (((2 + 3 * q) + 1) + 1)), .int (nI (tx 1 - 48)), .ref mp, .int (nI V), .ref mg, .ref mc, .ref mh, .int (nI rm), .ref ms, .ref mu, .int (nI on), .ref of1, .ref ot1, .ref oi1, .long sd, .ref ml, .ref md, .ref mw])), zA G mt 60 tx, zA G mp 49 (zPa pg tx q)]) (W2 := [(m, .inr (6, [.int (nI 0), .ref mt, .int (nI ts), .int (nI ((((2 + 3 * q) + 1) + 1) + 1)), .int (nI (tx 1 - 48)), .ref mp, .int (nI V), .ref mg, .ref mc, .ref mh, .int (nI rm), .ref ms, .ref mu, .int (nI on), .ref of1, .ref ot1, .ref oi1, .long sd, .ref ml, .ref md, .ref mw])), zA G mt 60 tx, zA G mp 49 (zPa pg tx q)]) (wr := [zA G mp 49 (zPa pg tx q)]) (rest := []) SM (c_X9_labelChar_ok l G m mt mp mg mc mh ms mu of1 ot1 oi1 ml md mw 0 ts (((2 + 3 * q) + 1) + 1) V rm on (nI (tx 1 - 48)) sd tx htx (by omega) (by omega) hdl) (cwV 0 hts gX9_errorPosition_X9_labelChar rfl rfl rfl (by decide +kernel) ⟨Nat.le_of_ble_eq_true rfl, Nat.le_of_ble_eq_true rfl⟩) hK hE hA hP hD hS hl.1 [0, 1] [2] [1, 2, 0] rfl rfl rfl (by decide) (ci := 6) rfl rfl rfl rfl rfl (Nat.le_of_ble_eq_true rfl) ⟨Nat.zero_le _, Nat.zero_le _⟩ dX9_errorPosition_141 (fun H locs hP hD hS => ?_)
                    refine lv_istore_n (lv' := [(3, .int (nI (zLo (tx (((2 + 3 * q) + 1) + 1))))), (2, .int (nI (tx ((2 + 3 * q) + 1) - 48))), (1, .int (nI (tx (2 + 3 * q) - 48))), (0, .ref m)]) hx hb dX9_errorPosition_144 rfl hl (by decide) rfl (fun ls hl => ?_)
                    refine lv_iload_n hx hb dX9_errorPosition_145 rfl (lv_at hl 0 rfl) ?_
                    refine lv_bipush (v := (-9)) hx hb dX9_errorPosition_146 (by decide) ?_
                    refine zc_ne (a := (zLo (tx (((2 + 3 * q) + 1) + 1)) : Nat)) (b := (-9 : Int)) (tgt := 156) hx hb dX9_errorPosition_148 (by decide) (zI (by omega)) (by decide) (fun c_10 => ?_) (fun c_10 => ?_)
                    · skip
                      refine lv_aload_n hx hb dX9_errorPosition_156 rfl (lv_at hl 3 rfl) ?_
                      refine va_get (D := G.1) (ci := 6) (v := .ref mp) (C := RX9) (T := TX9) (N := 21) hx hb hts hinX9 hown hK hP 0 rfl rfl 5 (by decide) hlk13 (fun _ h9 => h9) rfl dX9_errorPosition_157 ?_
                      refine lv_iload_n hx hb dX9_errorPosition_160 rfl (lv_at hl 2 rfl) ?_
                      refine lv_iload_n hx hb dX9_errorPosition_161 rfl (lv_at hl 1 rfl) ?_
                      refine lv_iload_n hx hb dX9_errorPosition_162 rfl (lv_at hl 0 rfl) ?_
                      refine zSv (W1 := [(m, .inr (6, [.int (nI 0), .ref mt, .int (nI ts), .int (nI ((((2 + 3 * q) + 1) + 1) + 1)), .int (nI (tx 1 - 48)), .ref mp, .int (nI V), .ref mg, .ref mc, .ref mh, .int (nI rm), .ref ms, .ref mu, .int (nI on), .ref of1, .ref ot1, .ref oi1, .long sd, .ref ml, .ref md, .ref mw])), zA G mt 60 tx, zA G mp 49 (zPa pg tx q)]) (W2 := [(m, .inr (6, [.int (nI 0), .ref mt, .int (nI ts), .int (nI ((((2 + 3 * q) + 1) + 1) + 1)), .int (nI (tx 1 - 48)), .ref mp, .int (nI V), .ref mg, .ref mc, .ref mh, .int (nI rm), .ref ms, .ref mu, .int (nI on), .ref of1, .ref ot1, .ref oi1, .long sd, .ref ml, .ref md, .ref mw])), zA G mt 60 tx, zA G mp 49 (zMp (zPa pg tx q) (tx (2 + 3 * q) - 48) (tx ((2 + 3 * q) + 1) - 48) (zLo (tx (((2 + 3 * q) + 1) + 1))))]) (wr := [(m, .inr (6, [.int (nI 0), .ref mt, .int (nI ts), .int (nI ((((2 + 3 * q) + 1) + 1) + 1)), .int (nI (tx 1 - 48)), .ref mp, .int (nI V), .ref mg, .ref mc, .ref mh, .int (nI rm), .ref ms, .ref mu, .int (nI on), .ref of1, .ref ot1, .ref oi1, .long sd, .ref ml, .ref md, .ref mw])), zA G mt 60 tx]) (rest := []) SM (c_X9_put l G mp (zPa pg tx q) (tx (2 + 3 * q) - 48) (tx ((2 + 3 * q) + 1) - 48) (zLo (tx (((2 + 3 * q) + 1) + 1))) (by omega)) (va_cwS 4 hts gX9_errorPosition_X9_put rfl rfl rfl (by decide +kernel) ⟨Nat.le_of_ble_eq_true rfl, Nat.le_of_ble_eq_true rfl⟩) hK hE hA hP hD hS hl.1 [2] [0, 1] [0, 1, 2] rfl rfl rfl (by decide) rfl rfl (Nat.le_of_ble_eq_true rfl) ⟨Nat.zero_le _, Nat.zero_le _⟩ dX9_errorPosition_163 (fun H locs hP hD hS => ?_)
                      refine lv_goto (tgt := 67) hx hb dX9_errorPosition_166 (by decide) ?_
                      have hP : va_P G.1 vwCl [(m, .inr (6, [.int (nI 0), .ref mt, .int (nI ts), .int (nI (2 + 3 * (q + 1))), .int (nI (tx 1 - 48)), .ref mp, .int (nI V), .ref mg, .ref mc, .ref mh, .int (nI rm), .ref ms, .ref mu, .int (nI on), .ref of1, .ref ot1, .ref oi1, .long sd, .ref ml, .ref md, .ref mw])), zA G mt 60 tx, zA G mp 49 (zPa pg tx (q + 1))] H := by (rw [zPa_s, zP3]); exact hP
                      have hD : va_D AM [(m, .inr (6, [.int (nI 0), .ref mt, .int (nI ts), .int (nI (2 + 3 * (q + 1))), .int (nI (tx 1 - 48)), .ref mp, .int (nI V), .ref mg, .ref mc, .ref mh, .int (nI rm), .ref ms, .ref mu, .int (nI on), .ref of1, .ref ot1, .ref oi1, .long sd, .ref ml, .ref md, .ref mw])), zA G mt 60 tx, zA G mp 49 (zPa pg tx (q + 1))] := by (rw [zPa_s, zP3]); exact hD
                      exact ih67 (q + 1) (by omega) (by omega) _ _ _ hP hD hS (lv_sub hl [3] rfl)
                    · skip
                      exfalso; omega
                  · skip
                    exfalso; omega
                · skip
                  exfalso; omega
              · skip
                exfalso; omega
        have hP : va_P G.1 vwCl [(m, .inr (6, [.int (nI 0), .ref mt, .int (nI ts), .int (nI (2 + 3 * 0)), .int (nI (tx 1 - 48)), .ref mp, .int (nI V), .ref mg, .ref mc, .ref mh, .int (nI rm), .ref ms, .ref mu, .int (nI on), .ref of1, .ref ot1, .ref oi1, .long sd, .ref ml, .ref md, .ref mw])), zA G mt 60 tx, zA G mp 49 (zPa pg tx 0)] H := by (rw [zPa_z]); exact hP
        have hD : va_D AM [(m, .inr (6, [.int (nI 0), .ref mt, .int (nI ts), .int (nI (2 + 3 * 0)), .int (nI (tx 1 - 48)), .ref mp, .int (nI V), .ref mg, .ref mc, .ref mh, .int (nI rm), .ref ms, .ref mu, .int (nI on), .ref of1, .ref ot1, .ref oi1, .long sd, .ref ml, .ref md, .ref mw])), zA G mt 60 tx, zA G mp 49 (zPa pg tx 0)] := by (rw [zPa_z]); exact hD
        exact lp67 (n - 0 + 1) 0 (by omega) (Nat.lt_succ_self _) _ _ _ hP hD hS (lv_sub hl [0] rfl)
      · skip
        exfalso; omega
    · skip
      exfalso; omega
set_option maxHeartbeats 400000 in
set_option maxRecDepth 100000 in
theorem c_X9_errorPosition_bad (l : Launch) (G : zG) (m mt mp mg mc mh ms mu of1 ot1 oi1 ml md mw th ts ps V rm on : Nat) (pv : Int32) (sd : Int64) (tx pg : Nat → Nat) (htx : ∀ i, tx i < 256) (hts60 : ts ≤ 60) (hpg : ∀ i, 1 ≤ i → pg i < 8) (hbad : ¬ (zFF tx ts).toInt = -9) : MX (Nat × Int32 × (Nat → Nat)) l yX9_errorPosition wsX9_errorPosition ({ frames := 2, cells := 0, slots := 0, locals := 48 }) G [.ref m] [(m, .inr (6, [.int (nI th), .ref mt, .int (nI ts), .int (nI ps), .int pv, .ref mp, .int (nI V), .ref mg, .ref mc, .ref mh, .int (nI rm), .ref ms, .ref mu, .int (nI on), .ref of1, .ref ot1, .ref oi1, .long sd, .ref ml, .ref md, .ref mw])), zA G mt 60 tx, zA G mp 49 pg] (zFF tx ts) (fun u : Nat × Int32 × (Nat → Nat) => [(m, .inr (6, [.int (nI 0), .ref mt, .int (nI ts), .int (nI u.1), .int u.2.1, .ref mp, .int (nI V), .ref mg, .ref mc, .ref mh, .int (nI rm), .ref ms, .ref mu, .int (nI on), .ref of1, .ref ot1, .ref oi1, .long sd, .ref ml, .ref md, .ref mw])), zA G mt 60 tx, zA G mp 49 u.2.2]) (fun u : Nat × Int32 × (Nat → Nat) => u.1 ≤ 60 ∧ ∀ i, 1 ≤ i → u.2.2 i < 8) := by
  refine MX.enter (cc := cX9_errorPosition) (maxL := 4) (by decide) rfl (Nat.le_of_ble_eq_true rfl) ?_
  intro pM eM sM mM bM tM cM QM AM ls hat kret
  obtain ⟨SM, hA, hK, hE, hP, hD, hS, hl⟩ := hat
  have hx := SM.1
  have hb := SM.2.1
  have hown : sM.vm.findClass RX9 = some mM.cls := SM.2.2.2.1
  have hts := SM.2.2.2.2
  have hinX9 : ∀ w ∈ u_ws RX9 TX9 21, w ∈ wsX9_errorPosition := by decide +kernel
  have hlk54 : (Cond.fieldLink RX9 54 "DyckReachabilityModel" "thrown" "I").before _ sM = true := hts _ (by decide +kernel)
  have hlk90 : (Cond.fieldLink RX9 90 "DyckReachabilityModel" "pos" "I").before _ sM = true := hts _ (by decide +kernel)
  have hlk13 : (Cond.fieldLink RX9 13 "DyckReachabilityModel" "parsed" "[I").before _ sM = true := hts _ (by decide +kernel)
  have hlk87 : (Cond.fieldLink RX9 87 "DyckReachabilityModel" "textSize" "I").before _ sM = true := hts _ (by decide +kernel)
  have hlk7 : (Cond.fieldLink RX9 7 "DyckReachabilityModel" "text" "[I").before _ sM = true := hts _ (by decide +kernel)
  have hlk105 : (Cond.fieldLink RX9 105 "DyckReachabilityModel" "parsedVertices" "I").before _ sM = true := hts _ (by decide +kernel)
  have hl : lv_has ls 4 [(0, .ref m)] := hl
  refine lv_aload_n hx hb dX9_errorPosition_0 rfl (lv_at hl 0 rfl) ?_
  refine lv_iconst (v := nI 0) hx hb dX9_errorPosition_1 (by decide) ?_
  refine va_put (D := G.1) (ci := 6) (v := .int (nI 0)) (ty := .int) (C := RX9) (T := TX9) (N := 21) hx hb hts hinX9 tyX9 tyX9_ok nmX9 hown hK hP hD hS 0 rfl rfl 0 (by decide) hlk54 (fun _ h9 => h9) rfl (by decide +kernel) rfl rfl (Nat.le_of_ble_eq_true rfl) dX9_errorPosition_2 (fun H locs hP hD hS => ?_)
  have hP : va_P G.1 vwCl [(m, .inr (6, [.int (nI 0), .ref mt, .int (nI ts), .int (nI ps), .int pv, .ref mp, .int (nI V), .ref mg, .ref mc, .ref mh, .int (nI rm), .ref ms, .ref mu, .int (nI on), .ref of1, .ref ot1, .ref oi1, .long sd, .ref ml, .ref md, .ref mw])), zA G mt 60 tx, zA G mp 49 pg] H := hP
  have hD : va_D AM [(m, .inr (6, [.int (nI 0), .ref mt, .int (nI ts), .int (nI ps), .int pv, .ref mp, .int (nI V), .ref mg, .ref mc, .ref mh, .int (nI rm), .ref ms, .ref mu, .int (nI on), .ref of1, .ref ot1, .ref oi1, .long sd, .ref ml, .ref md, .ref mw])), zA G mt 60 tx, zA G mp 49 pg] := hD
  refine lv_aload_n hx hb dX9_errorPosition_5 rfl (lv_at hl 0 rfl) ?_
  refine lv_iconst (v := nI 0) hx hb dX9_errorPosition_6 (by decide) ?_
  refine va_put (D := G.1) (ci := 6) (v := .int (nI 0)) (ty := .int) (C := RX9) (T := TX9) (N := 21) hx hb hts hinX9 tyX9 tyX9_ok nmX9 hown hK hP hD hS 0 rfl rfl 3 (by decide) hlk90 (fun _ h9 => h9) rfl (by decide +kernel) rfl rfl (Nat.le_of_ble_eq_true rfl) dX9_errorPosition_7 (fun H locs hP hD hS => ?_)
  have hP : va_P G.1 vwCl [(m, .inr (6, [.int (nI 0), .ref mt, .int (nI ts), .int (nI 0), .int pv, .ref mp, .int (nI V), .ref mg, .ref mc, .ref mh, .int (nI rm), .ref ms, .ref mu, .int (nI on), .ref of1, .ref ot1, .ref oi1, .long sd, .ref ml, .ref md, .ref mw])), zA G mt 60 tx, zA G mp 49 pg] H := hP
  have hD : va_D AM [(m, .inr (6, [.int (nI 0), .ref mt, .int (nI ts), .int (nI 0), .int pv, .ref mp, .int (nI V), .ref mg, .ref mc, .ref mh, .int (nI rm), .ref ms, .ref mu, .int (nI on), .ref of1, .ref ot1, .ref oi1, .long sd, .ref ml, .ref md, .ref mw])), zA G mt 60 tx, zA G mp 49 pg] := hD
  refine lv_aload_n hx hb dX9_errorPosition_10 rfl (lv_at hl 0 rfl) ?_
  refine va_get (D := G.1) (ci := 6) (v := .ref mp) (C := RX9) (T := TX9) (N := 21) hx hb hts hinX9 hown hK hP 0 rfl rfl 5 (by decide) hlk13 (fun _ h9 => h9) rfl dX9_errorPosition_11 ?_
  refine lv_iconst (v := nI 0) hx hb dX9_errorPosition_14 (by decide) ?_
  refine lv_iconst (v := nI 0) hx hb dX9_errorPosition_15 (by decide) ?_
  refine zi_ast hx hb hK hP hD hS 2 rfl (by omega) (by omega) dX9_errorPosition_16 (fun H locs hP hD hS => ?_)
  have hP : va_P G.1 vwCl [(m, .inr (6, [.int (nI 0), .ref mt, .int (nI ts), .int (nI 0), .int pv, .ref mp, .int (nI V), .ref mg, .ref mc, .ref mh, .int (nI rm), .ref ms, .ref mu, .int (nI on), .ref of1, .ref ot1, .ref oi1, .long sd, .ref ml, .ref md, .ref mw])), zA G mt 60 tx, zA G mp 49 (zU pg 0 0)] H := hP
  have hD : va_D AM [(m, .inr (6, [.int (nI 0), .ref mt, .int (nI ts), .int (nI 0), .int pv, .ref mp, .int (nI V), .ref mg, .ref mc, .ref mh, .int (nI rm), .ref ms, .ref mu, .int (nI on), .ref of1, .ref ot1, .ref oi1, .long sd, .ref ml, .ref md, .ref mw])), zA G mt 60 tx, zA G mp 49 (zU pg 0 0)] := hD
  refine lv_aload_n hx hb dX9_errorPosition_17 rfl (lv_at hl 0 rfl) ?_
  refine va_get (D := G.1) (ci := 6) (v := .int (nI ts)) (C := RX9) (T := TX9) (N := 21) hx hb hts hinX9 hown hK hP 0 rfl rfl 2 (by decide) hlk87 (fun _ h9 => h9) rfl dX9_errorPosition_18 ?_
  refine zd_eq (a := (ts : Nat)) (tgt := 35) hx hb dX9_errorPosition_21 (by decide) (zI (by omega)) (fun c_1 => ?_) (fun c_1 => ?_)
  · skip
    refine lv_iconst (v := nI 0) hx hb dX9_errorPosition_35 (by decide) ?_
    exact kret _ _ _ _ _ _ (0, pv, zU pg 0 0) (zEp_0 (by omega)).symm ⟨by omega, zU0_8 hpg⟩ rfl hP hD hS dX9_errorPosition_36
  · skip
    refine lv_aload_n hx hb dX9_errorPosition_24 rfl (lv_at hl 0 rfl) ?_
    refine va_get (D := G.1) (ci := 6) (v := .ref mt) (C := RX9) (T := TX9) (N := 21) hx hb hts hinX9 hown hK hP 0 rfl rfl 1 (by decide) hlk7 (fun _ h9 => h9) rfl dX9_errorPosition_25 ?_
    refine lv_iconst (v := nI 0) hx hb dX9_errorPosition_28 (by decide) ?_
    refine zi_ald hx hb hK hP 1 rfl (by omega) (by omega) dX9_errorPosition_29 ?_
    have hb_2 := htx 0
    refine lv_bipush (v := nI 68) hx hb dX9_errorPosition_30 (by decide) ?_
    refine zn_eq (tgt := 37) hx hb dX9_errorPosition_32 (by decide) (by omega) (by omega) (fun c_3 => ?_) (fun c_3 => ?_)
    · skip
      refine lv_aload_n hx hb dX9_errorPosition_37 rfl (lv_at hl 0 rfl) ?_
      refine lv_iconst (v := nI 1) hx hb dX9_errorPosition_38 (by decide) ?_
      refine va_put (D := G.1) (ci := 6) (v := .int (nI 1)) (ty := .int) (C := RX9) (T := TX9) (N := 21) hx hb hts hinX9 tyX9 tyX9_ok nmX9 hown hK hP hD hS 0 rfl rfl 3 (by decide) hlk90 (fun _ h9 => h9) rfl (by decide +kernel) rfl rfl (Nat.le_of_ble_eq_true rfl) dX9_errorPosition_39 (fun H locs hP hD hS => ?_)
      have hP : va_P G.1 vwCl [(m, .inr (6, [.int (nI 0), .ref mt, .int (nI ts), .int (nI 1), .int pv, .ref mp, .int (nI V), .ref mg, .ref mc, .ref mh, .int (nI rm), .ref ms, .ref mu, .int (nI on), .ref of1, .ref ot1, .ref oi1, .long sd, .ref ml, .ref md, .ref mw])), zA G mt 60 tx, zA G mp 49 (zU pg 0 0)] H := hP
      have hD : va_D AM [(m, .inr (6, [.int (nI 0), .ref mt, .int (nI ts), .int (nI 1), .int pv, .ref mp, .int (nI V), .ref mg, .ref mc, .ref mh, .int (nI rm), .ref ms, .ref mu, .int (nI on), .ref of1, .ref ot1, .ref oi1, .long sd, .ref ml, .ref md, .ref mw])), zA G mt 60 tx, zA G mp 49 (zU pg 0 0)] := hD
      refine lv_aload_n hx hb dX9_errorPosition_42 rfl (lv_at hl 0 rfl) ?_
      refine lv_aload_n hx hb dX9_errorPosition_43 rfl (lv_at hl 0 rfl) ?_
      refine lv_iconst (v := nI 1) hx hb dX9_errorPosition_44 (by decide) ?_
      refine lv_bipush (v := nI 8) hx hb dX9_errorPosition_45 (by decide) ?_
      by_cases hd0 : 1 < ts ∧ 1 + 48 ≤ tx (1) ∧ tx (1) ≤ 8 + 48
      · skip
        refine zVi (W1 := [(m, .inr (6, [.int (nI 0), .ref mt, .int (nI ts), .int (nI 1), .int pv, .ref mp, .int (nI V), .ref mg, .ref mc, .ref mh, .int (nI rm), .ref ms, .ref mu, .int (nI on), .ref of1, .ref ot1, .ref oi1, .long sd, .ref ml, .ref md, .ref mw])), zA G mt 60 tx, zA G mp 49 (zU pg 0 0)]) (W2 := [(m, .inr (6, [.int (nI 0), .ref mt, .int (nI ts), .int (nI (1 + 1)), .int pv, .ref mp, .int (nI V), .ref mg, .ref mc, .ref mh, .int (nI rm), .ref ms, .ref mu, .int (nI on), .ref of1, .ref ot1, .ref oi1, .long sd, .ref ml, .ref md, .ref mw])), zA G mt 60 tx, zA G mp 49 (zU pg 0 0)]) (wr := [zA G mp 49 (zU pg 0 0)]) (rest := [.ref m]) SM (c_X9_digit_ok l G m mt mp mg mc mh ms mu of1 ot1 oi1 ml md mw 0 ts 1 V rm on pv sd tx 1 8 htx (by omega) (by omega) (by omega) (by omega) (by omega)) (cwV 2 hts gX9_errorPosition_X9_digit rfl rfl rfl (by decide +kernel) ⟨Nat.le_of_ble_eq_true rfl, Nat.le_of_ble_eq_true rfl⟩) hK hE hA hP hD hS hl.1 [0, 1] [2] [1, 2, 0] rfl rfl rfl (by decide) (ci := 6) rfl rfl rfl rfl rfl (Nat.le_of_ble_eq_true rfl) ⟨Nat.zero_le _, Nat.zero_le _⟩ dX9_errorPosition_47 (fun H locs hP hD hS => ?_)
        refine va_put (D := G.1) (ci := 6) (v := .int (nI (tx 1 - 48))) (ty := .int) (C := RX9) (T := TX9) (N := 21) hx hb hts hinX9 tyX9 tyX9_ok nmX9 hown hK hP hD hS 0 rfl rfl 4 (by decide) hlk105 (fun _ h9 => h9) rfl (by decide +kernel) rfl rfl (Nat.le_of_ble_eq_true rfl) dX9_errorPosition_50 (fun H locs hP hD hS => ?_)
        have hP : va_P G.1 vwCl [(m, .inr (6, [.int (nI 0), .ref mt, .int (nI ts), .int (nI (1 + 1)), .int (nI (tx 1 - 48)), .ref mp, .int (nI V), .ref mg, .ref mc, .ref mh, .int (nI rm), .ref ms, .ref mu, .int (nI on), .ref of1, .ref ot1, .ref oi1, .long sd, .ref ml, .ref md, .ref mw])), zA G mt 60 tx, zA G mp 49 (zU pg 0 0)] H := hP
        have hD : va_D AM [(m, .inr (6, [.int (nI 0), .ref mt, .int (nI ts), .int (nI (1 + 1)), .int (nI (tx 1 - 48)), .ref mp, .int (nI V), .ref mg, .ref mc, .ref mh, .int (nI rm), .ref ms, .ref mu, .int (nI on), .ref of1, .ref ot1, .ref oi1, .long sd, .ref ml, .ref md, .ref mw])), zA G mt 60 tx, zA G mp 49 (zU pg 0 0)] := hD
        refine lv_aload_n hx hb dX9_errorPosition_53 rfl (lv_at hl 0 rfl) ?_
        refine va_get (D := G.1) (ci := 6) (v := .int (nI (tx 1 - 48))) (C := RX9) (T := TX9) (N := 21) hx hb hts hinX9 hown hK hP 0 rfl rfl 4 (by decide) hlk105 (fun _ h9 => h9) rfl dX9_errorPosition_54 ?_
        refine lv_bipush (v := (-9)) hx hb dX9_errorPosition_57 (by decide) ?_
        refine zc_ne (a := (tx 1 - 48 : Nat)) (b := (-9 : Int)) (tgt := 67) hx hb dX9_errorPosition_59 (by decide) (zI (by omega)) (by decide) (fun c_4 => ?_) (fun c_4 => ?_)
        · skip
          have lp67 : ∀ (n9 : Nat), ∀ (q : Nat), (q ≤ 16) → (2 + 3 * q ≤ ts) → (∀ i, i < 2 + 3 * q → zFit tx i = true) → (16 - q) < n9 → ∀ (H : Heap) (locs : List Loc) (ls : Array Slot), va_P G.1 vwCl [(m, .inr (6, [.int (nI 0), .ref mt, .int (nI ts), .int (nI (2 + 3 * q)), .int (nI (tx 1 - 48)), .ref mp, .int (nI V), .ref mg, .ref mc, .ref mh, .int (nI rm), .ref ms, .ref mu, .int (nI on), .ref of1, .ref ot1, .ref oi1, .long sd, .ref ml, .ref md, .ref mw])), zA G mt 60 tx, zA G mp 49 (zPa pg tx q)] H → va_D AM [(m, .inr (6, [.int (nI 0), .ref mt, .int (nI ts), .int (nI (2 + 3 * q)), .int (nI (tx 1 - 48)), .ref mp, .int (nI V), .ref mg, .ref mc, .ref mh, .int (nI rm), .ref ms, .ref mu, .int (nI on), .ref of1, .ref ot1, .ref oi1, .long sd, .ref ml, .ref md, .ref mw])), zA G mt 60 tx, zA G mp 49 (zPa pg tx q)] → va_S AM sM.heap H locs → lv_has ls 4 [(0, .ref m)] → W pM l eM ({ frames := 2, cells := 0, slots := 0, locals := 48 }) sM mM (([.ref m] : List Value).toArray) bM tM cM H locs 0 0 QM (F0 mM 67 ls []) := by
            intro n9
            induction n9 with
            | zero =>
              intro _ _ _ _ h9
              exact absurd h9 (Nat.not_lt_zero _)
            | succ n9 ih9 =>
              intro q h1 h2 hfq hmu67 H locs ls hP hD hS hl
              have ih67 := ih9
              clear ih9
              have hf1 := zFit_1d (hfq 1 (by omega))
              refine lv_aload_n hx hb dX9_errorPosition_67 rfl (lv_at hl 0 rfl) ?_
              refine va_get (D := G.1) (ci := 6) (v := .int (nI (2 + 3 * q))) (C := RX9) (T := TX9) (N := 21) hx hb hts hinX9 hown hK hP 0 rfl rfl 3 (by decide) hlk90 (fun _ h9 => h9) rfl dX9_errorPosition_68 ?_
              refine lv_aload_n hx hb dX9_errorPosition_71 rfl (lv_at hl 0 rfl) ?_
              refine va_get (D := G.1) (ci := 6) (v := .int (nI ts)) (C := RX9) (T := TX9) (N := 21) hx hb hts hinX9 hown hK hP 0 rfl rfl 2 (by decide) hlk87 (fun _ h9 => h9) rfl dX9_errorPosition_72 ?_
              refine zn_ge (tgt := 169) hx hb dX9_errorPosition_75 (by decide) (by omega) (by omega) (fun c_5 => ?_) (fun c_5 => ?_)
              · skip
                exact absurd (zFF_9 hfq (show ts = 2 + 3 * q by omega)) hbad
              · skip
                refine lv_aload_n hx hb dX9_errorPosition_78 rfl (lv_at hl 0 rfl) ?_
                refine va_get (D := G.1) (ci := 6) (v := .ref mp) (C := RX9) (T := TX9) (N := 21) hx hb hts hinX9 hown hK hP 0 rfl rfl 5 (by decide) hlk13 (fun _ h9 => h9) rfl dX9_errorPosition_79 ?_
                refine lv_iconst (v := nI 0) hx hb dX9_errorPosition_82 (by decide) ?_
                refine zi_ald hx hb hK hP 2 rfl (by omega) (by omega) dX9_errorPosition_83 ?_
                have hb_6 := zPa_0 pg tx q
                refine lv_bipush (v := nI 16) hx hb dX9_errorPosition_84 (by decide) ?_
                refine zn_ne (tgt := 94) hx hb dX9_errorPosition_86 (by decide) (by omega) (by omega) (fun c_7 => ?_) (fun c_7 => ?_)
                · skip
                  refine lv_aload_n hx hb dX9_errorPosition_94 rfl (lv_at hl 0 rfl) ?_
                  refine lv_iconst (v := nI 0) hx hb dX9_errorPosition_95 (by decide) ?_
                  refine lv_aload_n hx hb dX9_errorPosition_96 rfl (lv_at hl 0 rfl) ?_
                  refine va_get (D := G.1) (ci := 6) (v := .int (nI (tx 1 - 48))) (C := RX9) (T := TX9) (N := 21) hx hb hts hinX9 hown hK hP 0 rfl rfl 4 (by decide) hlk105 (fun _ h9 => h9) rfl dX9_errorPosition_97 ?_
                  refine lv_iconst (v := nI 1) hx hb dX9_errorPosition_100 (by decide) ?_
                  refine zi_sub hx hb dX9_errorPosition_101 (by omega) ?_
                  by_cases hd1 : 2 + 3 * q < ts ∧ 0 + 48 ≤ tx (2 + 3 * q) ∧ tx (2 + 3 * q) ≤ (tx 1 - 48 - 1) + 48
                  · skip
                    refine zVi (W1 := [(m, .inr (6, [.int (nI 0), .ref mt, .int (nI ts), .int (nI (2 + 3 * q)), .int (nI (tx 1 - 48)), .ref mp, .int (nI V), .ref mg, .ref mc, .ref mh, .int (nI rm), .ref ms, .ref mu, .int (nI on), .ref of1, .ref ot1, .ref oi1, .long sd, .ref ml, .ref md, .ref mw])), zA G mt 60 tx, zA G mp 49 (zPa pg tx q)]) (W2 := [(m, .inr (6, [.int (nI 0), .ref mt, .int (nI ts), .int (nI ((2 + 3 * q) + 1)), .int (nI (tx 1 - 48)), .ref mp, .int (nI V), .ref mg, .ref mc, .ref mh, .int (nI rm), .ref ms, .ref mu, .int (nI on), .ref of1, .ref ot1, .ref oi1, .long sd, .ref ml, .ref md, .ref mw])), zA G mt 60 tx, zA G mp 49 (zPa pg tx q)]) (wr := [zA G mp 49 (zPa pg tx q)]) (rest := []) SM (c_X9_digit_ok l G m mt mp mg mc mh ms mu of1 ot1 oi1 ml md mw 0 ts (2 + 3 * q) V rm on (nI (tx 1 - 48)) sd tx 0 ((tx 1 - 48) - 1) htx (by omega) (by omega) (by omega) (by omega) (by omega)) (cwV 2 hts gX9_errorPosition_X9_digit rfl rfl rfl (by decide +kernel) ⟨Nat.le_of_ble_eq_true rfl, Nat.le_of_ble_eq_true rfl⟩) hK hE hA hP hD hS hl.1 [0, 1] [2] [1, 2, 0] rfl rfl rfl (by decide) (ci := 6) rfl rfl rfl rfl rfl (Nat.le_of_ble_eq_true rfl) ⟨Nat.zero_le _, Nat.zero_le _⟩ dX9_errorPosition_102 (fun H locs hP hD hS => ?_)
                    refine lv_istore_n (lv' := [(1, .int (nI (tx (2 + 3 * q) - 48))), (0, .ref m)]) hx hb dX9_errorPosition_105 rfl hl (by decide) rfl (fun ls hl => ?_)
                    refine lv_iload_n hx hb dX9_errorPosition_106 rfl (lv_at hl 0 rfl) ?_
                    refine lv_bipush (v := (-9)) hx hb dX9_errorPosition_107 (by decide) ?_
                    refine zc_ne (a := (tx (2 + 3 * q) - 48 : Nat)) (b := (-9 : Int)) (tgt := 117) hx hb dX9_errorPosition_109 (by decide) (zI (by omega)) (by decide) (fun c_8 => ?_) (fun c_8 => ?_)
                    · skip
                      refine lv_aload_n hx hb dX9_errorPosition_117 rfl (lv_at hl 1 rfl) ?_
                      refine lv_iconst (v := nI 0) hx hb dX9_errorPosition_118 (by decide) ?_
                      refine lv_aload_n hx hb dX9_errorPosition_119 rfl (lv_at hl 1 rfl) ?_
                      refine va_get (D := G.1) (ci := 6) (v := .int (nI (tx 1 - 48))) (C := RX9) (T := TX9) (N := 21) hx hb hts hinX9 hown hK hP 0 rfl rfl 4 (by decide) hlk105 (fun _ h9 => h9) rfl dX9_errorPosition_120 ?_
                      refine lv_iconst (v := nI 1) hx hb dX9_errorPosition_123 (by decide) ?_
                      refine zi_sub hx hb dX9_errorPosition_124 (by omega) ?_
                      by_cases hd2 : 2 + 3 * q + 1 < ts ∧ 0 + 48 ≤ tx (2 + 3 * q + 1) ∧ tx (2 + 3 * q + 1) ≤ (tx 1 - 48 - 1) + 48
                      · skip
                        refine zVi (W1 := [(m, .inr (6, [.int (nI 0), .ref mt, .int (nI ts), .int (nI ((2 + 3 * q) + 1)), .int (nI (tx 1 - 48)), .ref mp, .int (nI V), .ref mg, .ref mc, .ref mh, .int (nI rm), .ref ms, .ref mu, .int (nI on), .ref of1, .ref ot1, .ref oi1, .long sd, .ref ml, .ref md, .ref mw])), zA G mt 60 tx, zA G mp 49 (zPa pg tx q)]) (W2 := [(m, .inr (6, [.int (nI 0), .ref mt, .int (nI ts), .int (nI (((2 + 3 * q) + 1) + 1)), .int (nI (tx 1 - 48)), .ref mp, .int (nI V), .ref mg, .ref mc, .ref mh, .int (nI rm), .ref ms, .ref mu, .int (nI on), .ref of1, .ref ot1, .ref oi1, .long sd, .ref ml, .ref md, .ref mw])), zA G mt 60 tx, zA G mp 49 (zPa pg tx q)]) (wr := [zA G mp 49 (zPa pg tx q)]) (rest := []) SM (c_X9_digit_ok l G m mt mp mg mc mh ms mu of1 ot1 oi1 ml md mw 0 ts ((2 + 3 * q) + 1) V rm on (nI (tx 1 - 48)) sd tx 0 ((tx 1 - 48) - 1) htx (by omega) (by omega) (by omega) (by omega) (by omega)) (cwV 2 hts gX9_errorPosition_X9_digit rfl rfl rfl (by decide +kernel) ⟨Nat.le_of_ble_eq_true rfl, Nat.le_of_ble_eq_true rfl⟩) hK hE hA hP hD hS hl.1 [0, 1] [2] [1, 2, 0] rfl rfl rfl (by decide) (ci := 6) rfl rfl rfl rfl rfl (Nat.le_of_ble_eq_true rfl) ⟨Nat.zero_le _, Nat.zero_le _⟩ dX9_errorPosition_125 (fun H locs hP hD hS => ?_)
                        refine lv_istore_n (lv' := [(2, .int (nI (tx ((2 + 3 * q) + 1) - 48))), (1, .int (nI (tx (2 + 3 * q) - 48))), (0, .ref m)]) hx hb dX9_errorPosition_128 rfl hl (by decide) rfl (fun ls hl => ?_)
                        refine lv_iload_n hx hb dX9_errorPosition_129 rfl (lv_at hl 0 rfl) ?_
                        refine lv_bipush (v := (-9)) hx hb dX9_errorPosition_130 (by decide) ?_
                        refine zc_ne (a := (tx ((2 + 3 * q) + 1) - 48 : Nat)) (b := (-9 : Int)) (tgt := 140) hx hb dX9_errorPosition_132 (by decide) (zI (by omega)) (by decide) (fun c_9 => ?_) (fun c_9 => ?_)
                        · skip
                          refine lv_aload_n hx hb dX9_errorPosition_140 rfl (lv_at hl 2 rfl) ?_
                          by_cases hd3 : 2 + 3 * q + 1 + 1 < ts ∧ zLo (tx (2 + 3 * q + 1 + 1)) < 7
                          · skip
                            refine zVi (W1 := [(m, .inr (6, [.int (nI 0), .ref mt, .int (nI ts), .int (nI (((2 + 3 * q) + 1) + 1)), .int (nI (tx 1 - 48)), .ref mp, .int (nI V), .ref mg, .ref mc, .ref mh, .int (nI rm), .ref ms, .ref mu, .int (nI on), .ref of1, .ref ot1, .ref oi1, .long sd, .ref ml, .ref md, .ref mw])), zA G mt 60 tx, zA G mp 49 (zPa pg tx q)]) (W2 := [(m, .inr (6, [.int (nI 0), .ref mt, .int (nI ts), .int (nI ((((2 + 3 * q) + 1) + 1) + 1)), .int (nI (tx 1 - 48)), .ref mp, .int (nI V), .ref mg, .ref mc, .ref mh, .int (nI rm), .ref ms, .ref mu, .int (nI on), .ref of1, .ref ot1, .ref oi1, .long sd, .ref ml, .ref md, .ref mw])), zA G mt 60 tx, zA G mp 49 (zPa pg tx q)]) (wr := [zA G mp 49 (zPa pg tx q)]) (rest := []) SM (c_X9_labelChar_ok l G m mt mp mg mc mh ms mu of1 ot1 oi1 ml md mw 0 ts (((2 + 3 * q) + 1) + 1) V rm on (nI (tx 1 - 48)) sd tx htx (by omega) hd3.1 hd3.2) (cwV 0 hts gX9_errorPosition_X9_labelChar rfl rfl rfl (by decide +kernel) ⟨Nat.le_of_ble_eq_true rfl, Nat.le_of_ble_eq_true rfl⟩) hK hE hA hP hD hS hl.1 [0, 1] [2] [1, 2, 0] rfl rfl rfl (by decide) (ci := 6) rfl rfl rfl rfl rfl (Nat.le_of_ble_eq_true rfl) ⟨Nat.zero_le _, Nat.zero_le _⟩ dX9_errorPosition_141 (fun H locs hP hD hS => ?_)
                            refine lv_istore_n (lv' := [(3, .int (nI (zLo (tx (((2 + 3 * q) + 1) + 1))))), (2, .int (nI (tx ((2 + 3 * q) + 1) - 48))), (1, .int (nI (tx (2 + 3 * q) - 48))), (0, .ref m)]) hx hb dX9_errorPosition_144 rfl hl (by decide) rfl (fun ls hl => ?_)
                            refine lv_iload_n hx hb dX9_errorPosition_145 rfl (lv_at hl 0 rfl) ?_
                            refine lv_bipush (v := (-9)) hx hb dX9_errorPosition_146 (by decide) ?_
                            refine zc_ne (a := (zLo (tx (((2 + 3 * q) + 1) + 1)) : Nat)) (b := (-9 : Int)) (tgt := 156) hx hb dX9_errorPosition_148 (by decide) (zI (by omega)) (by decide) (fun c_10 => ?_) (fun c_10 => ?_)
                            · skip
                              refine lv_aload_n hx hb dX9_errorPosition_156 rfl (lv_at hl 3 rfl) ?_
                              refine va_get (D := G.1) (ci := 6) (v := .ref mp) (C := RX9) (T := TX9) (N := 21) hx hb hts hinX9 hown hK hP 0 rfl rfl 5 (by decide) hlk13 (fun _ h9 => h9) rfl dX9_errorPosition_157 ?_
                              refine lv_iload_n hx hb dX9_errorPosition_160 rfl (lv_at hl 2 rfl) ?_
                              refine lv_iload_n hx hb dX9_errorPosition_161 rfl (lv_at hl 1 rfl) ?_
                              refine lv_iload_n hx hb dX9_errorPosition_162 rfl (lv_at hl 0 rfl) ?_
                              refine zSv (W1 := [(m, .inr (6, [.int (nI 0), .ref mt, .int (nI ts), .int (nI ((((2 + 3 * q) + 1) + 1) + 1)), .int (nI (tx 1 - 48)), .ref mp, .int (nI V), .ref mg, .ref mc, .ref mh, .int (nI rm), .ref ms, .ref mu, .int (nI on), .ref of1, .ref ot1, .ref oi1, .long sd, .ref ml, .ref md, .ref mw])), zA G mt 60 tx, zA G mp 49 (zPa pg tx q)]) (W2 := [(m, .inr (6, [.int (nI 0), .ref mt, .int (nI ts), .int (nI ((((2 + 3 * q) + 1) + 1) + 1)), .int (nI (tx 1 - 48)), .ref mp, .int (nI V), .ref mg, .ref mc, .ref mh, .int (nI rm), .ref ms, .ref mu, .int (nI on), .ref of1, .ref ot1, .ref oi1, .long sd, .ref ml, .ref md, .ref mw])), zA G mt 60 tx, zA G mp 49 (zMp (zPa pg tx q) (tx (2 + 3 * q) - 48) (tx ((2 + 3 * q) + 1) - 48) (zLo (tx (((2 + 3 * q) + 1) + 1))))]) (wr := [(m, .inr (6, [.int (nI 0), .ref mt, .int (nI ts), .int (nI ((((2 + 3 * q) + 1) + 1) + 1)), .int (nI (tx 1 - 48)), .ref mp, .int (nI V), .ref mg, .ref mc, .ref mh, .int (nI rm), .ref ms, .ref mu, .int (nI on), .ref of1, .ref ot1, .ref oi1, .long sd, .ref ml, .ref md, .ref mw])), zA G mt 60 tx]) (rest := []) SM (c_X9_put l G mp (zPa pg tx q) (tx (2 + 3 * q) - 48) (tx ((2 + 3 * q) + 1) - 48) (zLo (tx (((2 + 3 * q) + 1) + 1))) (by omega)) (va_cwS 4 hts gX9_errorPosition_X9_put rfl rfl rfl (by decide +kernel) ⟨Nat.le_of_ble_eq_true rfl, Nat.le_of_ble_eq_true rfl⟩) hK hE hA hP hD hS hl.1 [2] [0, 1] [0, 1, 2] rfl rfl rfl (by decide) rfl rfl (Nat.le_of_ble_eq_true rfl) ⟨Nat.zero_le _, Nat.zero_le _⟩ dX9_errorPosition_163 (fun H locs hP hD hS => ?_)
                              refine lv_goto (tgt := 67) hx hb dX9_errorPosition_166 (by decide) ?_
                              have hP : va_P G.1 vwCl [(m, .inr (6, [.int (nI 0), .ref mt, .int (nI ts), .int (nI (2 + 3 * (q + 1))), .int (nI (tx 1 - 48)), .ref mp, .int (nI V), .ref mg, .ref mc, .ref mh, .int (nI rm), .ref ms, .ref mu, .int (nI on), .ref of1, .ref ot1, .ref oi1, .long sd, .ref ml, .ref md, .ref mw])), zA G mt 60 tx, zA G mp 49 (zPa pg tx (q + 1))] H := by (rw [zPa_s, zP3]); exact hP
                              have hD : va_D AM [(m, .inr (6, [.int (nI 0), .ref mt, .int (nI ts), .int (nI (2 + 3 * (q + 1))), .int (nI (tx 1 - 48)), .ref mp, .int (nI V), .ref mg, .ref mc, .ref mh, .int (nI rm), .ref ms, .ref mu, .int (nI on), .ref of1, .ref ot1, .ref oi1, .long sd, .ref ml, .ref md, .ref mw])), zA G mt 60 tx, zA G mp 49 (zPa pg tx (q + 1))] := by (rw [zPa_s, zP3]); exact hD
                              exact ih67 (q + 1) (by omega) (by omega) (zFit_up hfq (by omega) (by omega) (by omega) hd3.2) (by omega) _ _ _ hP hD hS (lv_sub hl [3] rfl)
                            · skip
                              exfalso; omega
                          · skip
                            refine zVi (W1 := [(m, .inr (6, [.int (nI 0), .ref mt, .int (nI ts), .int (nI (((2 + 3 * q) + 1) + 1)), .int (nI (tx 1 - 48)), .ref mp, .int (nI V), .ref mg, .ref mc, .ref mh, .int (nI rm), .ref ms, .ref mu, .int (nI on), .ref of1, .ref ot1, .ref oi1, .long sd, .ref ml, .ref md, .ref mw])), zA G mt 60 tx, zA G mp 49 (zPa pg tx q)]) (W2 := [(m, .inr (6, [.int (nI 0), .ref mt, .int (nI ts), .int (nI (((2 + 3 * q) + 1) + 1)), .int (nI (tx 1 - 48)), .ref mp, .int (nI V), .ref mg, .ref mc, .ref mh, .int (nI rm), .ref ms, .ref mu, .int (nI on), .ref of1, .ref ot1, .ref oi1, .long sd, .ref ml, .ref md, .ref mw])), zA G mt 60 tx, zA G mp 49 (zPa pg tx q)]) (wr := [zA G mp 49 (zPa pg tx q)]) (rest := []) SM (c_X9_labelChar_bad l G m mt mp mg mc mh ms mu of1 ot1 oi1 ml md mw 0 ts (((2 + 3 * q) + 1) + 1) V rm on (nI (tx 1 - 48)) sd tx htx (by omega) (by omega) hd3) (cwV 0 hts gX9_errorPosition_X9_labelChar rfl rfl rfl (by decide +kernel) ⟨Nat.le_of_ble_eq_true rfl, Nat.le_of_ble_eq_true rfl⟩) hK hE hA hP hD hS hl.1 [0, 1] [2] [1, 2, 0] rfl rfl rfl (by decide) (ci := 6) rfl rfl rfl rfl rfl (Nat.le_of_ble_eq_true rfl) ⟨Nat.zero_le _, Nat.zero_le _⟩ dX9_errorPosition_141 (fun H locs hP hD hS => ?_)
                            refine lv_istore_n (lv' := [(3, .int (-9)), (2, .int (nI (tx ((2 + 3 * q) + 1) - 48))), (1, .int (nI (tx (2 + 3 * q) - 48))), (0, .ref m)]) hx hb dX9_errorPosition_144 rfl hl (by decide) rfl (fun ls hl => ?_)
                            refine lv_iload_n hx hb dX9_errorPosition_145 rfl (lv_at hl 0 rfl) ?_
                            refine lv_bipush (v := (-9)) hx hb dX9_errorPosition_146 (by decide) ?_
                            refine zky_ne_f hx hb dX9_errorPosition_148 (by decide) ?_
                            refine lv_aload_n hx hb dX9_errorPosition_151 rfl (lv_at hl 3 rfl) ?_
                            refine va_get (D := G.1) (ci := 6) (v := .int (nI (((2 + 3 * q) + 1) + 1))) (C := RX9) (T := TX9) (N := 21) hx hb hts hinX9 hown hK hP 0 rfl rfl 3 (by decide) hlk90 (fun _ h9 => h9) rfl dX9_errorPosition_152 ?_
                            exact kret _ _ _ _ _ _ ((((2 + 3 * q) + 1) + 1), nI (tx 1 - 48), zPa pg tx q) (by first | exact (zEp_s hfq h1 (by omega) (by omega)).symm | exact (zEp_t hfq (by omega) (by omega) (by omega) (by omega)).symm | exact (zEp_l hfq (by omega) (by omega) (by omega) (by omega) hd3).symm) ⟨by omega, zPa_8 hpg htx hfq⟩ rfl hP hD hS dX9_errorPosition_155
                        · skip
                          exfalso; omega
                      · skip
                        refine zVi (W1 := [(m, .inr (6, [.int (nI 0), .ref mt, .int (nI ts), .int (nI ((2 + 3 * q) + 1)), .int (nI (tx 1 - 48)), .ref mp, .int (nI V), .ref mg, .ref mc, .ref mh, .int (nI rm), .ref ms, .ref mu, .int (nI on), .ref of1, .ref ot1, .ref oi1, .long sd, .ref ml, .ref md, .ref mw])), zA G mt 60 tx, zA G mp 49 (zPa pg tx q)]) (W2 := [(m, .inr (6, [.int (nI 0), .ref mt, .int (nI ts), .int (nI ((2 + 3 * q) + 1)), .int (nI (tx 1 - 48)), .ref mp, .int (nI V), .ref mg, .ref mc, .ref mh, .int (nI rm), .ref ms, .ref mu, .int (nI on), .ref of1, .ref ot1, .ref oi1, .long sd, .ref ml, .ref md, .ref mw])), zA G mt 60 tx, zA G mp 49 (zPa pg tx q)]) (wr := [zA G mp 49 (zPa pg tx q)]) (rest := []) SM (c_X9_digit_bad l G m mt mp mg mc mh ms mu of1 ot1 oi1 ml md mw 0 ts ((2 + 3 * q) + 1) V rm on (nI (tx 1 - 48)) sd tx 0 ((tx 1 - 48) - 1) htx (by omega) (by omega) (by omega) (by omega) (by omega)) (cwV 2 hts gX9_errorPosition_X9_digit rfl rfl rfl (by decide +kernel) ⟨Nat.le_of_ble_eq_true rfl, Nat.le_of_ble_eq_true rfl⟩) hK hE hA hP hD hS hl.1 [0, 1] [2] [1, 2, 0] rfl rfl rfl (by decide) (ci := 6) rfl rfl rfl rfl rfl (Nat.le_of_ble_eq_true rfl) ⟨Nat.zero_le _, Nat.zero_le _⟩ dX9_errorPosition_125 (fun H locs hP hD hS => ?_)
                        refine lv_istore_n (lv' := [(2, .int (-9)), (1, .int (nI (tx (2 + 3 * q) - 48))), (0, .ref m)]) hx hb dX9_errorPosition_128 rfl hl (by decide) rfl (fun ls hl => ?_)
                        refine lv_iload_n hx hb dX9_errorPosition_129 rfl (lv_at hl 0 rfl) ?_
                        refine lv_bipush (v := (-9)) hx hb dX9_errorPosition_130 (by decide) ?_
                        refine zky_ne_f hx hb dX9_errorPosition_132 (by decide) ?_
                        refine lv_bipush (v := (-9)) hx hb dX9_errorPosition_135 (by decide) ?_
                        refine lv_goto (tgt := 144) hx hb dX9_errorPosition_137 (by decide) ?_
                        refine lv_istore_n (lv' := [(3, .int (-9)), (2, .int (-9)), (1, .int (nI (tx (2 + 3 * q) - 48))), (0, .ref m)]) hx hb dX9_errorPosition_144 rfl hl (by decide) rfl (fun ls hl => ?_)
                        refine lv_iload_n hx hb dX9_errorPosition_145 rfl (lv_at hl 0 rfl) ?_
                        refine lv_bipush (v := (-9)) hx hb dX9_errorPosition_146 (by decide) ?_
                        refine zky_ne_f hx hb dX9_errorPosition_148 (by decide) ?_
                        refine lv_aload_n hx hb dX9_errorPosition_151 rfl (lv_at hl 3 rfl) ?_
                        refine va_get (D := G.1) (ci := 6) (v := .int (nI ((2 + 3 * q) + 1))) (C := RX9) (T := TX9) (N := 21) hx hb hts hinX9 hown hK hP 0 rfl rfl 3 (by decide) hlk90 (fun _ h9 => h9) rfl dX9_errorPosition_152 ?_
                        exact kret _ _ _ _ _ _ (((2 + 3 * q) + 1), nI (tx 1 - 48), zPa pg tx q) (by first | exact (zEp_s hfq h1 (by omega) (by omega)).symm | exact (zEp_t hfq (by omega) (by omega) (by omega) (by omega)).symm | exact (zEp_l hfq (by omega) (by omega) (by omega) (by omega) hd3).symm) ⟨by omega, zPa_8 hpg htx hfq⟩ rfl hP hD hS dX9_errorPosition_155
                    · skip
                      exfalso; omega
                  · skip
                    refine zVi (W1 := [(m, .inr (6, [.int (nI 0), .ref mt, .int (nI ts), .int (nI (2 + 3 * q)), .int (nI (tx 1 - 48)), .ref mp, .int (nI V), .ref mg, .ref mc, .ref mh, .int (nI rm), .ref ms, .ref mu, .int (nI on), .ref of1, .ref ot1, .ref oi1, .long sd, .ref ml, .ref md, .ref mw])), zA G mt 60 tx, zA G mp 49 (zPa pg tx q)]) (W2 := [(m, .inr (6, [.int (nI 0), .ref mt, .int (nI ts), .int (nI (2 + 3 * q)), .int (nI (tx 1 - 48)), .ref mp, .int (nI V), .ref mg, .ref mc, .ref mh, .int (nI rm), .ref ms, .ref mu, .int (nI on), .ref of1, .ref ot1, .ref oi1, .long sd, .ref ml, .ref md, .ref mw])), zA G mt 60 tx, zA G mp 49 (zPa pg tx q)]) (wr := [zA G mp 49 (zPa pg tx q)]) (rest := []) SM (c_X9_digit_bad l G m mt mp mg mc mh ms mu of1 ot1 oi1 ml md mw 0 ts (2 + 3 * q) V rm on (nI (tx 1 - 48)) sd tx 0 ((tx 1 - 48) - 1) htx (by omega) (by omega) (by omega) (by omega) (by omega)) (cwV 2 hts gX9_errorPosition_X9_digit rfl rfl rfl (by decide +kernel) ⟨Nat.le_of_ble_eq_true rfl, Nat.le_of_ble_eq_true rfl⟩) hK hE hA hP hD hS hl.1 [0, 1] [2] [1, 2, 0] rfl rfl rfl (by decide) (ci := 6) rfl rfl rfl rfl rfl (Nat.le_of_ble_eq_true rfl) ⟨Nat.zero_le _, Nat.zero_le _⟩ dX9_errorPosition_102 (fun H locs hP hD hS => ?_)
                    refine lv_istore_n (lv' := [(1, .int (-9)), (0, .ref m)]) hx hb dX9_errorPosition_105 rfl hl (by decide) rfl (fun ls hl => ?_)
                    refine lv_iload_n hx hb dX9_errorPosition_106 rfl (lv_at hl 0 rfl) ?_
                    refine lv_bipush (v := (-9)) hx hb dX9_errorPosition_107 (by decide) ?_
                    refine zky_ne_f hx hb dX9_errorPosition_109 (by decide) ?_
                    refine lv_bipush (v := (-9)) hx hb dX9_errorPosition_112 (by decide) ?_
                    refine lv_goto (tgt := 128) hx hb dX9_errorPosition_114 (by decide) ?_
                    refine lv_istore_n (lv' := [(2, .int (-9)), (1, .int (-9)), (0, .ref m)]) hx hb dX9_errorPosition_128 rfl hl (by decide) rfl (fun ls hl => ?_)
                    refine lv_iload_n hx hb dX9_errorPosition_129 rfl (lv_at hl 0 rfl) ?_
                    refine lv_bipush (v := (-9)) hx hb dX9_errorPosition_130 (by decide) ?_
                    refine zky_ne_f hx hb dX9_errorPosition_132 (by decide) ?_
                    refine lv_bipush (v := (-9)) hx hb dX9_errorPosition_135 (by decide) ?_
                    refine lv_goto (tgt := 144) hx hb dX9_errorPosition_137 (by decide) ?_
                    refine lv_istore_n (lv' := [(3, .int (-9)), (2, .int (-9)), (1, .int (-9)), (0, .ref m)]) hx hb dX9_errorPosition_144 rfl hl (by decide) rfl (fun ls hl => ?_)
                    refine lv_iload_n hx hb dX9_errorPosition_145 rfl (lv_at hl 0 rfl) ?_
                    refine lv_bipush (v := (-9)) hx hb dX9_errorPosition_146 (by decide) ?_
                    refine zky_ne_f hx hb dX9_errorPosition_148 (by decide) ?_
                    refine lv_aload_n hx hb dX9_errorPosition_151 rfl (lv_at hl 3 rfl) ?_
                    refine va_get (D := G.1) (ci := 6) (v := .int (nI (2 + 3 * q))) (C := RX9) (T := TX9) (N := 21) hx hb hts hinX9 hown hK hP 0 rfl rfl 3 (by decide) hlk90 (fun _ h9 => h9) rfl dX9_errorPosition_152 ?_
                    exact kret _ _ _ _ _ _ ((2 + 3 * q), nI (tx 1 - 48), zPa pg tx q) (by first | exact (zEp_s hfq h1 (by omega) (by omega)).symm | exact (zEp_t hfq (by omega) (by omega) (by omega) (by omega)).symm | exact (zEp_l hfq (by omega) (by omega) (by omega) (by omega) hd3).symm) ⟨by omega, zPa_8 hpg htx hfq⟩ rfl hP hD hS dX9_errorPosition_155
                · skip
                  refine lv_bipush (v := (-9)) hx hb dX9_errorPosition_89 (by decide) ?_
                  refine lv_goto (tgt := 105) hx hb dX9_errorPosition_91 (by decide) ?_
                  refine lv_istore_n (lv' := [(1, .int (-9)), (0, .ref m)]) hx hb dX9_errorPosition_105 rfl hl (by decide) rfl (fun ls hl => ?_)
                  refine lv_iload_n hx hb dX9_errorPosition_106 rfl (lv_at hl 0 rfl) ?_
                  refine lv_bipush (v := (-9)) hx hb dX9_errorPosition_107 (by decide) ?_
                  refine zky_ne_f hx hb dX9_errorPosition_109 (by decide) ?_
                  refine lv_bipush (v := (-9)) hx hb dX9_errorPosition_112 (by decide) ?_
                  refine lv_goto (tgt := 128) hx hb dX9_errorPosition_114 (by decide) ?_
                  refine lv_istore_n (lv' := [(2, .int (-9)), (1, .int (-9)), (0, .ref m)]) hx hb dX9_errorPosition_128 rfl hl (by decide) rfl (fun ls hl => ?_)
                  refine lv_iload_n hx hb dX9_errorPosition_129 rfl (lv_at hl 0 rfl) ?_
                  refine lv_bipush (v := (-9)) hx hb dX9_errorPosition_130 (by decide) ?_
                  refine zky_ne_f hx hb dX9_errorPosition_132 (by decide) ?_
                  refine lv_bipush (v := (-9)) hx hb dX9_errorPosition_135 (by decide) ?_
                  refine lv_goto (tgt := 144) hx hb dX9_errorPosition_137 (by decide) ?_
                  refine lv_istore_n (lv' := [(3, .int (-9)), (2, .int (-9)), (1, .int (-9)), (0, .ref m)]) hx hb dX9_errorPosition_144 rfl hl (by decide) rfl (fun ls hl => ?_)
                  refine lv_iload_n hx hb dX9_errorPosition_145 rfl (lv_at hl 0 rfl) ?_
                  refine lv_bipush (v := (-9)) hx hb dX9_errorPosition_146 (by decide) ?_
                  refine zky_ne_f hx hb dX9_errorPosition_148 (by decide) ?_
                  refine lv_aload_n hx hb dX9_errorPosition_151 rfl (lv_at hl 3 rfl) ?_
                  refine va_get (D := G.1) (ci := 6) (v := .int (nI (2 + 3 * q))) (C := RX9) (T := TX9) (N := 21) hx hb hts hinX9 hown hK hP 0 rfl rfl 3 (by decide) hlk90 (fun _ h9 => h9) rfl dX9_errorPosition_152 ?_
                  exact kret _ _ _ _ _ _ (2 + 3 * q, nI (tx 1 - 48), zPa pg tx q) (by first | exact (zEp_s hfq h1 (by omega) (by omega)).symm | exact (zEp_t hfq (by omega) (by omega) (by omega) (by omega)).symm | exact (zEp_l hfq (by omega) (by omega) (by omega) (by omega) hd3).symm) ⟨by omega, zPa_8 hpg htx hfq⟩ rfl hP hD hS dX9_errorPosition_155
          have hP : va_P G.1 vwCl [(m, .inr (6, [.int (nI 0), .ref mt, .int (nI ts), .int (nI (2 + 3 * 0)), .int (nI (tx 1 - 48)), .ref mp, .int (nI V), .ref mg, .ref mc, .ref mh, .int (nI rm), .ref ms, .ref mu, .int (nI on), .ref of1, .ref ot1, .ref oi1, .long sd, .ref ml, .ref md, .ref mw])), zA G mt 60 tx, zA G mp 49 (zPa pg tx 0)] H := by (rw [zPa_z]); exact hP
          have hD : va_D AM [(m, .inr (6, [.int (nI 0), .ref mt, .int (nI ts), .int (nI (2 + 3 * 0)), .int (nI (tx 1 - 48)), .ref mp, .int (nI V), .ref mg, .ref mc, .ref mh, .int (nI rm), .ref ms, .ref mu, .int (nI on), .ref of1, .ref ot1, .ref oi1, .long sd, .ref ml, .ref md, .ref mw])), zA G mt 60 tx, zA G mp 49 (zPa pg tx 0)] := by (rw [zPa_z]); exact hD
          exact lp67 (16 - 0 + 1) 0 (by omega) (by omega) (zFit_01 (by omega) (by omega)) (Nat.lt_succ_self _) _ _ _ hP hD hS (lv_sub hl [0] rfl)
        · skip
          exfalso; omega
      · skip
        refine zVi (W1 := [(m, .inr (6, [.int (nI 0), .ref mt, .int (nI ts), .int (nI 1), .int pv, .ref mp, .int (nI V), .ref mg, .ref mc, .ref mh, .int (nI rm), .ref ms, .ref mu, .int (nI on), .ref of1, .ref ot1, .ref oi1, .long sd, .ref ml, .ref md, .ref mw])), zA G mt 60 tx, zA G mp 49 (zU pg 0 0)]) (W2 := [(m, .inr (6, [.int (nI 0), .ref mt, .int (nI ts), .int (nI 1), .int pv, .ref mp, .int (nI V), .ref mg, .ref mc, .ref mh, .int (nI rm), .ref ms, .ref mu, .int (nI on), .ref of1, .ref ot1, .ref oi1, .long sd, .ref ml, .ref md, .ref mw])), zA G mt 60 tx, zA G mp 49 (zU pg 0 0)]) (wr := [zA G mp 49 (zU pg 0 0)]) (rest := [.ref m]) SM (c_X9_digit_bad l G m mt mp mg mc mh ms mu of1 ot1 oi1 ml md mw 0 ts 1 V rm on pv sd tx 1 8 htx (by omega) (by omega) (by omega) (by omega) (by omega)) (cwV 2 hts gX9_errorPosition_X9_digit rfl rfl rfl (by decide +kernel) ⟨Nat.le_of_ble_eq_true rfl, Nat.le_of_ble_eq_true rfl⟩) hK hE hA hP hD hS hl.1 [0, 1] [2] [1, 2, 0] rfl rfl rfl (by decide) (ci := 6) rfl rfl rfl rfl rfl (Nat.le_of_ble_eq_true rfl) ⟨Nat.zero_le _, Nat.zero_le _⟩ dX9_errorPosition_47 (fun H locs hP hD hS => ?_)
        refine va_put (D := G.1) (ci := 6) (v := .int (-9)) (ty := .int) (C := RX9) (T := TX9) (N := 21) hx hb hts hinX9 tyX9 tyX9_ok nmX9 hown hK hP hD hS 0 rfl rfl 4 (by decide) hlk105 (fun _ h9 => h9) rfl (by decide +kernel) rfl rfl (Nat.le_of_ble_eq_true rfl) dX9_errorPosition_50 (fun H locs hP hD hS => ?_)
        have hP : va_P G.1 vwCl [(m, .inr (6, [.int (nI 0), .ref mt, .int (nI ts), .int (nI 1), .int (-9), .ref mp, .int (nI V), .ref mg, .ref mc, .ref mh, .int (nI rm), .ref ms, .ref mu, .int (nI on), .ref of1, .ref ot1, .ref oi1, .long sd, .ref ml, .ref md, .ref mw])), zA G mt 60 tx, zA G mp 49 (zU pg 0 0)] H := hP
        have hD : va_D AM [(m, .inr (6, [.int (nI 0), .ref mt, .int (nI ts), .int (nI 1), .int (-9), .ref mp, .int (nI V), .ref mg, .ref mc, .ref mh, .int (nI rm), .ref ms, .ref mu, .int (nI on), .ref of1, .ref ot1, .ref oi1, .long sd, .ref ml, .ref md, .ref mw])), zA G mt 60 tx, zA G mp 49 (zU pg 0 0)] := hD
        refine lv_aload_n hx hb dX9_errorPosition_53 rfl (lv_at hl 0 rfl) ?_
        refine va_get (D := G.1) (ci := 6) (v := .int (-9)) (C := RX9) (T := TX9) (N := 21) hx hb hts hinX9 hown hK hP 0 rfl rfl 4 (by decide) hlk105 (fun _ h9 => h9) rfl dX9_errorPosition_54 ?_
        refine lv_bipush (v := (-9)) hx hb dX9_errorPosition_57 (by decide) ?_
        refine zky_ne_f hx hb dX9_errorPosition_59 (by decide) ?_
        refine lv_aload_n hx hb dX9_errorPosition_62 rfl (lv_at hl 0 rfl) ?_
        refine va_get (D := G.1) (ci := 6) (v := .int (nI 1)) (C := RX9) (T := TX9) (N := 21) hx hb hts hinX9 hown hK hP 0 rfl rfl 3 (by decide) hlk90 (fun _ h9 => h9) rfl dX9_errorPosition_63 ?_
        exact kret _ _ _ _ _ _ (1, (-9), zU pg 0 0) (zEp_1 (by omega) (by omega)).symm ⟨by omega, zU0_8 hpg⟩ rfl hP hD hS dX9_errorPosition_66
    · skip
      refine lv_iconst (v := nI 0) hx hb dX9_errorPosition_35 (by decide) ?_
      exact kret _ _ _ _ _ _ (0, pv, zU pg 0 0) (zEp_0 (by omega)).symm ⟨by omega, zU0_8 hpg⟩ rfl hP hD hS dX9_errorPosition_36
set_option maxHeartbeats 400000 in
set_option maxRecDepth 100000 in
theorem c_X9_load_ok (l : Launch) (G : zG) (m mt mp mg mc mh ms mu of1 ot1 oi1 ml md mw th ts ps V rm on : Nat) (pv : Int32) (sd : Int64) (tx pg g su : Nat → Nat) (n : Nat) (htx : ∀ i, tx i < 256) (hn : ts = 2 + 3 * n) (hn16 : n ≤ 16) (hfit : ∀ i, i < ts → zFit tx i = true) : MI l yX9_load wsX9_load ({ frames := 3, cells := 0, slots := 0, locals := 71 }) G [.ref m] [(m, .inr (6, [.int (nI th), .ref mt, .int (nI ts), .int (nI ps), .int pv, .ref mp, .int (nI V), .ref mg, .ref mc, .ref mh, .int (nI rm), .ref ms, .ref mu, .int (nI on), .ref of1, .ref ot1, .ref oi1, .long sd, .ref ml, .ref md, .ref mw])), zA G mt 60 tx, zA G mp 49 pg, zA G mg 49 g, zB G mu 2 su] (nI n) [(m, .inr (6, [.int (nI 0), .ref mt, .int (nI ts), .int (nI (2 + 3 * n)), .int (nI (tx 1 - 48)), .ref mp, .int (nI (tx 1 - 48)), .ref mg, .ref mc, .ref mh, .int (nI 0), .ref ms, .ref mu, .int (nI on), .ref of1, .ref ot1, .ref oi1, .long sd, .ref ml, .ref md, .ref mw])), zA G mt 60 tx, zA G mp 49 (zPa pg tx n), zA G mg 49 (zPa pg tx n), zB G mu 2 (zU (zU su 0 0) 1 0)] := by
  refine MI.enter (cc := cX9_load) (maxL := 1) (by decide) rfl (Nat.le_of_ble_eq_true rfl) rfl ?_
  intro pM eM sM mM bM tM cM QM AM ls hat kret
  obtain ⟨SM, hA, hK, hE, hP, hD, hS, hl⟩ := hat
  have hx := SM.1
  have hb := SM.2.1
  have hown : sM.vm.findClass RX9 = some mM.cls := SM.2.2.2.1
  have hts := SM.2.2.2.2
  have hinX9 : ∀ w ∈ u_ws RX9 TX9 21, w ∈ wsX9_load := by decide +kernel
  have hlk54 : (Cond.fieldLink RX9 54 "DyckReachabilityModel" "thrown" "I").before _ sM = true := hts _ (by decide +kernel)
  have hlk105 : (Cond.fieldLink RX9 105 "DyckReachabilityModel" "parsedVertices" "I").before _ sM = true := hts _ (by decide +kernel)
  have hlk16 : (Cond.fieldLink RX9 16 "DyckReachabilityModel" "vertices" "I").before _ sM = true := hts _ (by decide +kernel)
  have hlk13 : (Cond.fieldLink RX9 13 "DyckReachabilityModel" "parsed" "[I").before _ sM = true := hts _ (by decide +kernel)
  have hlk20 : (Cond.fieldLink RX9 20 "DyckReachabilityModel" "graph" "[I").before _ sM = true := hts _ (by decide +kernel)
  have hlk122 : (Cond.fieldLink RX9 122 "DyckReachabilityModel" "remembered" "I").before _ sM = true := hts _ (by decide +kernel)
  have hlk32 : (Cond.fieldLink RX9 32 "DyckReachabilityModel" "slotUsed" "[Z").before _ sM = true := hts _ (by decide +kernel)
  have hl : lv_has ls 1 [(0, .ref m)] := hl
  refine lv_aload_n hx hb dX9_load_0 rfl (lv_at hl 0 rfl) ?_
  refine lv_iconst (v := nI 0) hx hb dX9_load_1 (by decide) ?_
  refine va_put (D := G.1) (ci := 6) (v := .int (nI 0)) (ty := .int) (C := RX9) (T := TX9) (N := 21) hx hb hts hinX9 tyX9 tyX9_ok nmX9 hown hK hP hD hS 0 rfl rfl 0 (by decide) hlk54 (fun _ h9 => h9) rfl (by decide +kernel) rfl rfl (Nat.le_of_ble_eq_true rfl) dX9_load_2 (fun H locs hP hD hS => ?_)
  have hP : va_P G.1 vwCl [(m, .inr (6, [.int (nI 0), .ref mt, .int (nI ts), .int (nI ps), .int pv, .ref mp, .int (nI V), .ref mg, .ref mc, .ref mh, .int (nI rm), .ref ms, .ref mu, .int (nI on), .ref of1, .ref ot1, .ref oi1, .long sd, .ref ml, .ref md, .ref mw])), zA G mt 60 tx, zA G mp 49 pg, zA G mg 49 g, zB G mu 2 su] H := hP
  have hD : va_D AM [(m, .inr (6, [.int (nI 0), .ref mt, .int (nI ts), .int (nI ps), .int pv, .ref mp, .int (nI V), .ref mg, .ref mc, .ref mh, .int (nI rm), .ref ms, .ref mu, .int (nI on), .ref of1, .ref ot1, .ref oi1, .long sd, .ref ml, .ref md, .ref mw])), zA G mt 60 tx, zA G mp 49 pg, zA G mg 49 g, zB G mu 2 su] := hD
  refine lv_aload_n hx hb dX9_load_5 rfl (lv_at hl 0 rfl) ?_
  refine zVi (W1 := [(m, .inr (6, [.int (nI 0), .ref mt, .int (nI ts), .int (nI ps), .int pv, .ref mp, .int (nI V), .ref mg, .ref mc, .ref mh, .int (nI rm), .ref ms, .ref mu, .int (nI on), .ref of1, .ref ot1, .ref oi1, .long sd, .ref ml, .ref md, .ref mw])), zA G mt 60 tx, zA G mp 49 pg, zA G mg 49 g, zB G mu 2 su]) (W2 := [(m, .inr (6, [.int (nI 0), .ref mt, .int (nI ts), .int (nI (2 + 3 * n)), .int (nI (tx 1 - 48)), .ref mp, .int (nI V), .ref mg, .ref mc, .ref mh, .int (nI rm), .ref ms, .ref mu, .int (nI on), .ref of1, .ref ot1, .ref oi1, .long sd, .ref ml, .ref md, .ref mw])), zA G mt 60 tx, zA G mp 49 (zPa pg tx n), zA G mg 49 g, zB G mu 2 su]) (wr := [zA G mg 49 g, zB G mu 2 su]) (rest := []) SM (c_X9_errorPosition_ok l G m mt mp mg mc mh ms mu of1 ot1 oi1 ml md mw 0 ts ps V rm on pv sd tx pg n htx (by omega) (by omega) hfit) (cwV 0 hts gX9_load_X9_errorPosition rfl rfl rfl (by decide +kernel) ⟨Nat.le_of_ble_eq_true rfl, Nat.le_of_ble_eq_true rfl⟩) hK hE hA hP hD hS hl.1 [0, 1, 2] [3, 4] [2, 3, 4, 0, 1] rfl rfl rfl (by decide) (ci := 6) rfl rfl rfl rfl rfl (Nat.le_of_ble_eq_true rfl) ⟨Nat.zero_le _, Nat.zero_le _⟩ dX9_load_6 (fun H locs hP hD hS => ?_)
  refine lv_bipush (v := (-9)) hx hb dX9_load_9 (by decide) ?_
  refine zky_eq_t (tgt := 17) hx hb dX9_load_11 (by decide) (by decide) ?_
  refine lv_aload_n hx hb dX9_load_17 rfl (lv_at hl 0 rfl) ?_
  refine lv_aload_n hx hb dX9_load_18 rfl (lv_at hl 0 rfl) ?_
  refine va_get (D := G.1) (ci := 6) (v := .int (nI (tx 1 - 48))) (C := RX9) (T := TX9) (N := 21) hx hb hts hinX9 hown hK hP 0 rfl rfl 4 (by decide) hlk105 (fun _ h9 => h9) rfl dX9_load_19 ?_
  refine va_put (D := G.1) (ci := 6) (v := .int (nI (tx 1 - 48))) (ty := .int) (C := RX9) (T := TX9) (N := 21) hx hb hts hinX9 tyX9 tyX9_ok nmX9 hown hK hP hD hS 0 rfl rfl 6 (by decide) hlk16 (fun _ h9 => h9) rfl (by decide +kernel) rfl rfl (Nat.le_of_ble_eq_true rfl) dX9_load_22 (fun H locs hP hD hS => ?_)
  have hP : va_P G.1 vwCl [(m, .inr (6, [.int (nI 0), .ref mt, .int (nI ts), .int (nI (2 + 3 * n)), .int (nI (tx 1 - 48)), .ref mp, .int (nI (tx 1 - 48)), .ref mg, .ref mc, .ref mh, .int (nI rm), .ref ms, .ref mu, .int (nI on), .ref of1, .ref ot1, .ref oi1, .long sd, .ref ml, .ref md, .ref mw])), zA G mt 60 tx, zA G mp 49 (zPa pg tx n), zA G mg 49 g, zB G mu 2 su] H := hP
  have hD : va_D AM [(m, .inr (6, [.int (nI 0), .ref mt, .int (nI ts), .int (nI (2 + 3 * n)), .int (nI (tx 1 - 48)), .ref mp, .int (nI (tx 1 - 48)), .ref mg, .ref mc, .ref mh, .int (nI rm), .ref ms, .ref mu, .int (nI on), .ref of1, .ref ot1, .ref oi1, .long sd, .ref ml, .ref md, .ref mw])), zA G mt 60 tx, zA G mp 49 (zPa pg tx n), zA G mg 49 g, zB G mu 2 su] := hD
  refine lv_aload_n hx hb dX9_load_25 rfl (lv_at hl 0 rfl) ?_
  refine va_get (D := G.1) (ci := 6) (v := .ref mp) (C := RX9) (T := TX9) (N := 21) hx hb hts hinX9 hown hK hP 0 rfl rfl 5 (by decide) hlk13 (fun _ h9 => h9) rfl dX9_load_26 ?_
  refine lv_aload_n hx hb dX9_load_29 rfl (lv_at hl 0 rfl) ?_
  refine va_get (D := G.1) (ci := 6) (v := .ref mg) (C := RX9) (T := TX9) (N := 21) hx hb hts hinX9 hown hK hP 0 rfl rfl 7 (by decide) hlk20 (fun _ h9 => h9) rfl dX9_load_30 ?_
  refine zSv (W1 := [(m, .inr (6, [.int (nI 0), .ref mt, .int (nI ts), .int (nI (2 + 3 * n)), .int (nI (tx 1 - 48)), .ref mp, .int (nI (tx 1 - 48)), .ref mg, .ref mc, .ref mh, .int (nI rm), .ref ms, .ref mu, .int (nI on), .ref of1, .ref ot1, .ref oi1, .long sd, .ref ml, .ref md, .ref mw])), zA G mt 60 tx, zA G mp 49 (zPa pg tx n), zA G mg 49 g, zB G mu 2 su]) (W2 := [(m, .inr (6, [.int (nI 0), .ref mt, .int (nI ts), .int (nI (2 + 3 * n)), .int (nI (tx 1 - 48)), .ref mp, .int (nI (tx 1 - 48)), .ref mg, .ref mc, .ref mh, .int (nI rm), .ref ms, .ref mu, .int (nI on), .ref of1, .ref ot1, .ref oi1, .long sd, .ref ml, .ref md, .ref mw])), zA G mt 60 tx, zA G mp 49 (zPa pg tx n), zA G mg 49 (zPa pg tx n), zB G mu 2 su]) (wr := [(m, .inr (6, [.int (nI 0), .ref mt, .int (nI ts), .int (nI (2 + 3 * n)), .int (nI (tx 1 - 48)), .ref mp, .int (nI (tx 1 - 48)), .ref mg, .ref mc, .ref mh, .int (nI rm), .ref ms, .ref mu, .int (nI on), .ref of1, .ref ot1, .ref oi1, .long sd, .ref ml, .ref md, .ref mw])), zA G mt 60 tx, zB G mu 2 su]) (rest := []) SM (c_X9_assign l G mp mg (zPa pg tx n) g ) (va_cwS 2 hts gX9_load_X9_assign rfl rfl rfl (by decide +kernel) ⟨Nat.le_of_ble_eq_true rfl, Nat.le_of_ble_eq_true rfl⟩) hK hE hA hP hD hS hl.1 [2, 3] [0, 1, 4] [0, 1, 3, 4, 2] rfl rfl rfl (by decide) rfl rfl (Nat.le_of_ble_eq_true rfl) ⟨Nat.zero_le _, Nat.zero_le _⟩ dX9_load_33 (fun H locs hP hD hS => ?_)
  refine lv_aload_n hx hb dX9_load_36 rfl (lv_at hl 0 rfl) ?_
  refine lv_iconst (v := nI 0) hx hb dX9_load_37 (by decide) ?_
  refine va_put (D := G.1) (ci := 6) (v := .int (nI 0)) (ty := .int) (C := RX9) (T := TX9) (N := 21) hx hb hts hinX9 tyX9 tyX9_ok nmX9 hown hK hP hD hS 0 rfl rfl 10 (by decide) hlk122 (fun _ h9 => h9) rfl (by decide +kernel) rfl rfl (Nat.le_of_ble_eq_true rfl) dX9_load_38 (fun H locs hP hD hS => ?_)
  have hP : va_P G.1 vwCl [(m, .inr (6, [.int (nI 0), .ref mt, .int (nI ts), .int (nI (2 + 3 * n)), .int (nI (tx 1 - 48)), .ref mp, .int (nI (tx 1 - 48)), .ref mg, .ref mc, .ref mh, .int (nI 0), .ref ms, .ref mu, .int (nI on), .ref of1, .ref ot1, .ref oi1, .long sd, .ref ml, .ref md, .ref mw])), zA G mt 60 tx, zA G mp 49 (zPa pg tx n), zA G mg 49 (zPa pg tx n), zB G mu 2 su] H := hP
  have hD : va_D AM [(m, .inr (6, [.int (nI 0), .ref mt, .int (nI ts), .int (nI (2 + 3 * n)), .int (nI (tx 1 - 48)), .ref mp, .int (nI (tx 1 - 48)), .ref mg, .ref mc, .ref mh, .int (nI 0), .ref ms, .ref mu, .int (nI on), .ref of1, .ref ot1, .ref oi1, .long sd, .ref ml, .ref md, .ref mw])), zA G mt 60 tx, zA G mp 49 (zPa pg tx n), zA G mg 49 (zPa pg tx n), zB G mu 2 su] := hD
  refine lv_aload_n hx hb dX9_load_41 rfl (lv_at hl 0 rfl) ?_
  refine va_get (D := G.1) (ci := 6) (v := .ref mu) (C := RX9) (T := TX9) (N := 21) hx hb hts hinX9 hown hK hP 0 rfl rfl 12 (by decide) hlk32 (fun _ h9 => h9) rfl dX9_load_42 ?_
  refine lv_iconst (v := nI 0) hx hb dX9_load_45 (by decide) ?_
  refine lv_iconst (v := nI 0) hx hb dX9_load_46 (by decide) ?_
  refine zz_ast hx hb hK hP hD hS 4 rfl (by omega) (by omega) (by omega) dX9_load_47 (fun H locs hP hD hS => ?_)
  have hP : va_P G.1 vwCl [(m, .inr (6, [.int (nI 0), .ref mt, .int (nI ts), .int (nI (2 + 3 * n)), .int (nI (tx 1 - 48)), .ref mp, .int (nI (tx 1 - 48)), .ref mg, .ref mc, .ref mh, .int (nI 0), .ref ms, .ref mu, .int (nI on), .ref of1, .ref ot1, .ref oi1, .long sd, .ref ml, .ref md, .ref mw])), zA G mt 60 tx, zA G mp 49 (zPa pg tx n), zA G mg 49 (zPa pg tx n), zB G mu 2 (zU su 0 0)] H := hP
  have hD : va_D AM [(m, .inr (6, [.int (nI 0), .ref mt, .int (nI ts), .int (nI (2 + 3 * n)), .int (nI (tx 1 - 48)), .ref mp, .int (nI (tx 1 - 48)), .ref mg, .ref mc, .ref mh, .int (nI 0), .ref ms, .ref mu, .int (nI on), .ref of1, .ref ot1, .ref oi1, .long sd, .ref ml, .ref md, .ref mw])), zA G mt 60 tx, zA G mp 49 (zPa pg tx n), zA G mg 49 (zPa pg tx n), zB G mu 2 (zU su 0 0)] := hD
  refine lv_aload_n hx hb dX9_load_48 rfl (lv_at hl 0 rfl) ?_
  refine va_get (D := G.1) (ci := 6) (v := .ref mu) (C := RX9) (T := TX9) (N := 21) hx hb hts hinX9 hown hK hP 0 rfl rfl 12 (by decide) hlk32 (fun _ h9 => h9) rfl dX9_load_49 ?_
  refine lv_iconst (v := nI 1) hx hb dX9_load_52 (by decide) ?_
  refine lv_iconst (v := nI 0) hx hb dX9_load_53 (by decide) ?_
  refine zz_ast hx hb hK hP hD hS 4 rfl (by omega) (by omega) (by omega) dX9_load_54 (fun H locs hP hD hS => ?_)
  have hP : va_P G.1 vwCl [(m, .inr (6, [.int (nI 0), .ref mt, .int (nI ts), .int (nI (2 + 3 * n)), .int (nI (tx 1 - 48)), .ref mp, .int (nI (tx 1 - 48)), .ref mg, .ref mc, .ref mh, .int (nI 0), .ref ms, .ref mu, .int (nI on), .ref of1, .ref ot1, .ref oi1, .long sd, .ref ml, .ref md, .ref mw])), zA G mt 60 tx, zA G mp 49 (zPa pg tx n), zA G mg 49 (zPa pg tx n), zB G mu 2 (zU (zU su 0 0) 1 0)] H := hP
  have hD : va_D AM [(m, .inr (6, [.int (nI 0), .ref mt, .int (nI ts), .int (nI (2 + 3 * n)), .int (nI (tx 1 - 48)), .ref mp, .int (nI (tx 1 - 48)), .ref mg, .ref mc, .ref mh, .int (nI 0), .ref ms, .ref mu, .int (nI on), .ref of1, .ref ot1, .ref oi1, .long sd, .ref ml, .ref md, .ref mw])), zA G mt 60 tx, zA G mp 49 (zPa pg tx n), zA G mg 49 (zPa pg tx n), zB G mu 2 (zU (zU su 0 0) 1 0)] := hD
  refine lv_aload_n hx hb dX9_load_55 rfl (lv_at hl 0 rfl) ?_
  refine va_get (D := G.1) (ci := 6) (v := .ref mg) (C := RX9) (T := TX9) (N := 21) hx hb hts hinX9 hown hK hP 0 rfl rfl 7 (by decide) hlk20 (fun _ h9 => h9) rfl dX9_load_56 ?_
  refine lv_iconst (v := nI 0) hx hb dX9_load_59 (by decide) ?_
  refine zi_ald hx hb hK hP 3 rfl (by omega) (by omega) dX9_load_60 ?_
  exact kret _ _ _ _ _ _ (congrArg nI (zPa_0 pg tx n)) rfl hP hD hS dX9_load_61
set_option maxHeartbeats 400000 in
set_option maxRecDepth 100000 in
theorem c_X9_load_bad (l : Launch) (G : zG) (m mt mp mg mc mh ms mu of1 ot1 oi1 ml md mw th ts ps V rm on : Nat) (pv : Int32) (sd : Int64) (tx pg : Nat → Nat) (htx : ∀ i, tx i < 256) (hts60 : ts ≤ 60) (hpg : ∀ i, 1 ≤ i → pg i < 8) (hbad : ¬ (zFF tx ts).toInt = -9) : MX (Nat × Int32 × (Nat → Nat)) l yX9_load wsX9_load ({ frames := 3, cells := 0, slots := 0, locals := 71 }) G [.ref m] [(m, .inr (6, [.int (nI th), .ref mt, .int (nI ts), .int (nI ps), .int pv, .ref mp, .int (nI V), .ref mg, .ref mc, .ref mh, .int (nI rm), .ref ms, .ref mu, .int (nI on), .ref of1, .ref ot1, .ref oi1, .long sd, .ref ml, .ref md, .ref mw])), zA G mt 60 tx, zA G mp 49 pg] (-3) (fun u : Nat × Int32 × (Nat → Nat) => [(m, .inr (6, [.int (nI 0), .ref mt, .int (nI ts), .int (nI u.1), .int u.2.1, .ref mp, .int (nI V), .ref mg, .ref mc, .ref mh, .int (nI rm), .ref ms, .ref mu, .int (nI on), .ref of1, .ref ot1, .ref oi1, .long sd, .ref ml, .ref md, .ref mw])), zA G mt 60 tx, zA G mp 49 u.2.2]) (fun u : Nat × Int32 × (Nat → Nat) => u.1 ≤ 60 ∧ ∀ i, 1 ≤ i → u.2.2 i < 8) := by
  refine MX.enter (cc := cX9_load) (maxL := 1) (by decide) rfl (Nat.le_of_ble_eq_true rfl) ?_
  intro pM eM sM mM bM tM cM QM AM ls hat kret
  obtain ⟨SM, hA, hK, hE, hP, hD, hS, hl⟩ := hat
  have hx := SM.1
  have hb := SM.2.1
  have hown : sM.vm.findClass RX9 = some mM.cls := SM.2.2.2.1
  have hts := SM.2.2.2.2
  have hinX9 : ∀ w ∈ u_ws RX9 TX9 21, w ∈ wsX9_load := by decide +kernel
  have hlk54 : (Cond.fieldLink RX9 54 "DyckReachabilityModel" "thrown" "I").before _ sM = true := hts _ (by decide +kernel)
  have hl : lv_has ls 1 [(0, .ref m)] := hl
  refine lv_aload_n hx hb dX9_load_0 rfl (lv_at hl 0 rfl) ?_
  refine lv_iconst (v := nI 0) hx hb dX9_load_1 (by decide) ?_
  refine va_put (D := G.1) (ci := 6) (v := .int (nI 0)) (ty := .int) (C := RX9) (T := TX9) (N := 21) hx hb hts hinX9 tyX9 tyX9_ok nmX9 hown hK hP hD hS 0 rfl rfl 0 (by decide) hlk54 (fun _ h9 => h9) rfl (by decide +kernel) rfl rfl (Nat.le_of_ble_eq_true rfl) dX9_load_2 (fun H locs hP hD hS => ?_)
  have hP : va_P G.1 vwCl [(m, .inr (6, [.int (nI 0), .ref mt, .int (nI ts), .int (nI ps), .int pv, .ref mp, .int (nI V), .ref mg, .ref mc, .ref mh, .int (nI rm), .ref ms, .ref mu, .int (nI on), .ref of1, .ref ot1, .ref oi1, .long sd, .ref ml, .ref md, .ref mw])), zA G mt 60 tx, zA G mp 49 pg] H := hP
  have hD : va_D AM [(m, .inr (6, [.int (nI 0), .ref mt, .int (nI ts), .int (nI ps), .int pv, .ref mp, .int (nI V), .ref mg, .ref mc, .ref mh, .int (nI rm), .ref ms, .ref mu, .int (nI on), .ref of1, .ref ot1, .ref oi1, .long sd, .ref ml, .ref md, .ref mw])), zA G mt 60 tx, zA G mp 49 pg] := hD
  refine lv_aload_n hx hb dX9_load_5 rfl (lv_at hl 0 rfl) ?_
  refine zVx (S := Nat × Int32 × (Nat → Nat)) (W1 := [(m, .inr (6, [.int (nI 0), .ref mt, .int (nI ts), .int (nI ps), .int pv, .ref mp, .int (nI V), .ref mg, .ref mc, .ref mh, .int (nI rm), .ref ms, .ref mu, .int (nI on), .ref of1, .ref ot1, .ref oi1, .long sd, .ref ml, .ref md, .ref mw])), zA G mt 60 tx, zA G mp 49 pg]) (W2 := fun u => [(m, .inr (6, [.int (nI 0), .ref mt, .int (nI ts), .int (nI u.1), .int u.2.1, .ref mp, .int (nI V), .ref mg, .ref mc, .ref mh, .int (nI rm), .ref ms, .ref mu, .int (nI on), .ref of1, .ref ot1, .ref oi1, .long sd, .ref ml, .ref md, .ref mw])), zA G mt 60 tx, zA G mp 49 u.2.2]) (wr := []) (rest := []) SM (c_X9_errorPosition_bad l G m mt mp mg mc mh ms mu of1 ot1 oi1 ml md mw 0 ts ps V rm on pv sd tx pg htx (by omega) hpg hbad) (cwV 0 hts gX9_load_X9_errorPosition rfl rfl rfl (by decide +kernel) ⟨Nat.le_of_ble_eq_true rfl, Nat.le_of_ble_eq_true rfl⟩) hK hE hA hP hD hS hl.1 [0, 1, 2] [] [0, 1, 2] rfl rfl (fun _ => rfl) (by decide) (ci := 6) rfl rfl rfl rfl rfl (Nat.le_of_ble_eq_true rfl) ⟨Nat.zero_le _, Nat.zero_le _⟩ dX9_load_6 (fun H locs u_1 hok_2 hP hD hS => ?_)
  have hP : va_P G.1 vwCl [(m, .inr (6, [.int (nI 0), .ref mt, .int (nI ts), .int (nI u_1.1), .int u_1.2.1, .ref mp, .int (nI V), .ref mg, .ref mc, .ref mh, .int (nI rm), .ref ms, .ref mu, .int (nI on), .ref of1, .ref ot1, .ref oi1, .long sd, .ref ml, .ref md, .ref mw])), zA G mt 60 tx, zA G mp 49 u_1.2.2] H := hP
  have hD : va_D AM [(m, .inr (6, [.int (nI 0), .ref mt, .int (nI ts), .int (nI u_1.1), .int u_1.2.1, .ref mp, .int (nI V), .ref mg, .ref mc, .ref mh, .int (nI rm), .ref ms, .ref mu, .int (nI on), .ref of1, .ref ot1, .ref oi1, .long sd, .ref ml, .ref md, .ref mw])), zA G mt 60 tx, zA G mp 49 u_1.2.2] := hD
  have hok_2 : u_1.1 ≤ 60 ∧ ∀ i, 1 ≤ i → u_1.2.2 i < 8 := hok_2
  have hokk := hok_2
  refine lv_bipush (v := (-9)) hx hb dX9_load_9 (by decide) ?_
  refine zc_eq (a := (zFF tx ts).toInt) (b := (-9 : Int)) (tgt := 17) hx hb dX9_load_11 (by decide) rfl (by decide) (fun c_3 => ?_) (fun c_3 => ?_)
  · skip
    exfalso; omega
  · skip
    refine lv_bipush (v := (-3)) hx hb dX9_load_14 (by decide) ?_
    exact kret _ _ _ _ _ _ (u_1.1, u_1.2.1, u_1.2.2) rfl hokk rfl hP hD hS dX9_load_16
