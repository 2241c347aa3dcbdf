set_option maxHeartbeats 400000 in
set_option maxRecDepth 100000 in
theorem c_X9_append_ok (l : Launch) (G : zG) (m mt mp mg mc mh ms mu of1 ot1 oi1 ml md mw th ts ps V rm on : Nat) (pv : Int32) (sd : Int64) (tx : Nat → Nat) (x : Int32) (hx : 0 ≤ x.toInt ∧ x.toInt < 256) (htl : ts < 60) : MI l yX9_append wsX9_append ({ frames := 1, cells := 0, slots := 0, locals := 25 }) G [.ref m, .int x] [(m, .inr (6, [.int (nI th), .ref mt, .int (nI ts), .int (nI ps), .int pv, .ref mp, .int (nI V), .ref mg, .ref mc, .ref mh, .int (nI rm), .ref ms, .ref mu, .int (nI on), .ref of1, .ref ot1, .ref oi1, .long sd, .ref ml, .ref md, .ref mw])), zA G mt 60 tx] (nI (ts + 1)) [(m, .inr (6, [.int (nI 0), .ref mt, .int (nI (ts + 1)), .int (nI ps), .int pv, .ref mp, .int (nI V), .ref mg, .ref mc, .ref mh, .int (nI rm), .ref ms, .ref mu, .int (nI on), .ref of1, .ref ot1, .ref oi1, .long sd, .ref ml, .ref md, .ref mw])), zA G mt 60 (zU tx ts x.toInt.toNat)] := by
  refine MI.enter (cc := cX9_append) (maxL := 2) (by decide) rfl (Nat.le_of_ble_eq_true rfl) rfl ?_
  intro pM eM sM mM bM tM cM QM AM ls hat kret
  obtain ⟨SM, hA, hK, hE, hP, hD, hS, hl⟩ := hat
  have hx := SM.1
  have hb := SM.2.1
  have hown : sM.vm.findClass RX9 = some mM.cls := SM.2.2.2.1
  have hts := SM.2.2.2.2
  have hinX9 : ∀ w ∈ u_ws RX9 TX9 21, w ∈ wsX9_append := by decide +kernel
  have hlk54 : (Cond.fieldLink RX9 54 "DyckReachabilityModel" "thrown" "I").before _ sM = true := hts _ (by decide +kernel)
  have hlk87 : (Cond.fieldLink RX9 87 "DyckReachabilityModel" "textSize" "I").before _ sM = true := hts _ (by decide +kernel)
  have hlk7 : (Cond.fieldLink RX9 7 "DyckReachabilityModel" "text" "[I").before _ sM = true := hts _ (by decide +kernel)
  have hl : lv_has ls 2 [(0, .ref m), (1, .int x)] := hl
  refine lv_aload_n hx hb dX9_append_0 rfl (lv_at hl 0 rfl) ?_
  refine lv_iconst (v := nI 0) hx hb dX9_append_1 (by decide) ?_
  refine va_put (D := G.1) (ci := 6) (v := .int (nI 0)) (ty := .int) (C := RX9) (T := TX9) (N := 21) hx hb hts hinX9 tyX9 tyX9_ok nmX9 hown hK hP hD hS 0 rfl rfl 0 (by decide) hlk54 (fun _ h9 => h9) rfl (by decide +kernel) rfl rfl (Nat.le_of_ble_eq_true rfl) dX9_append_2 (fun H locs hP hD hS => ?_)
  have hP : va_P G.1 vwCl [(m, .inr (6, [.int (nI 0), .ref mt, .int (nI ts), .int (nI ps), .int pv, .ref mp, .int (nI V), .ref mg, .ref mc, .ref mh, .int (nI rm), .ref ms, .ref mu, .int (nI on), .ref of1, .ref ot1, .ref oi1, .long sd, .ref ml, .ref md, .ref mw])), zA G mt 60 tx] H := hP
  have hD : va_D AM [(m, .inr (6, [.int (nI 0), .ref mt, .int (nI ts), .int (nI ps), .int pv, .ref mp, .int (nI V), .ref mg, .ref mc, .ref mh, .int (nI rm), .ref ms, .ref mu, .int (nI on), .ref of1, .ref ot1, .ref oi1, .long sd, .ref ml, .ref md, .ref mw])), zA G mt 60 tx] := hD
  refine lv_iload_n hx hb dX9_append_5 rfl (lv_at hl 1 rfl) ?_
  refine lv_i2l hx hb dX9_append_6 rfl ?_
  refine lv_lconst (v := lN 0) hx hb dX9_append_7 (by decide) ?_
  refine lv_ldc2 (v := lN 255) hx hb hown (hts (.constantLong RX9 85 (255)) (by decide +kernel)) dX9_append_8 ?_
  refine zSi (W1 := [(m, .inr (6, [.int (nI 0), .ref mt, .int (nI ts), .int (nI ps), .int pv, .ref mp, .int (nI V), .ref mg, .ref mc, .ref mh, .int (nI rm), .ref ms, .ref mu, .int (nI on), .ref of1, .ref ot1, .ref oi1, .long sd, .ref ml, .ref md, .ref mw])), zA G mt 60 tx]) (W2 := [(m, .inr (6, [.int (nI 0), .ref mt, .int (nI ts), .int (nI ps), .int pv, .ref mp, .int (nI V), .ref mg, .ref mc, .ref mh, .int (nI rm), .ref ms, .ref mu, .int (nI on), .ref of1, .ref ot1, .ref oi1, .long sd, .ref ml, .ref md, .ref mw])), zA G mt 60 tx]) (wr := [(m, .inr (6, [.int (nI 0), .ref mt, .int (nI ts), .int (nI ps), .int pv, .ref mp, .int (nI V), .ref mg, .ref mc, .ref mh, .int (nI rm), .ref ms, .ref mu, .int (nI on), .ref of1, .ref ot1, .ref oi1, .long sd, .ref ml, .ref md, .ref mw])), zA G mt 60 tx]) (rest := []) SM (c_X9_in_X l G (x) 0 255 (by first | assumption | omega) (by first | assumption | omega)) (va_cwS 3 hts gX9_append_X9_in rfl rfl rfl (by decide +kernel) ⟨Nat.le_of_ble_eq_true rfl, Nat.le_of_ble_eq_true rfl⟩) hK hE hA hP hD hS hl.1 [] [0, 1] [0, 1] rfl rfl rfl (by decide) rfl rfl (Nat.le_of_ble_eq_true rfl) ⟨Nat.zero_le _, Nat.zero_le _⟩ dX9_append_11 (fun H locs hP hD hS => ?_)
  refine zb_ne (tgt := 20) hx hb dX9_append_14 (by decide) (fun c_1 => ?_) (fun c_1 => ?_)
  · skip
    have hl : lv_has ls 2 [(0, .ref m), (1, .int (nI x.toInt.toNat))] := by rw [← xN_eq (x := x) (by omega)]; exact hl
    refine lv_aload_n hx hb dX9_append_20 rfl (lv_at hl 0 rfl) ?_
    refine va_get (D := G.1) (ci := 6) (v := .int (nI ts)) (C := RX9) (T := TX9) (N := 21) hx hb hts hinX9 hown hK hP 0 rfl rfl 2 (by decide) hlk87 (fun _ h9 => h9) rfl dX9_append_21 ?_
    refine lv_bipush (v := nI 60) hx hb dX9_append_24 (by decide) ?_
    refine zn_ne (tgt := 32) hx hb dX9_append_26 (by decide) (by omega) (by omega) (fun c_2 => ?_) (fun c_2 => ?_)
    · skip
      refine lv_aload_n hx hb dX9_append_32 rfl (lv_at hl 0 rfl) ?_
      refine va_get (D := G.1) (ci := 6) (v := .ref mt) (C := RX9) (T := TX9) (N := 21) hx hb hts hinX9 hown hK hP 0 rfl rfl 1 (by decide) hlk7 (fun _ h9 => h9) rfl dX9_append_33 ?_
      refine lv_aload_n hx hb dX9_append_36 rfl (lv_at hl 0 rfl) ?_
      refine va_get (D := G.1) (ci := 6) (v := .int (nI ts)) (C := RX9) (T := TX9) (N := 21) hx hb hts hinX9 hown hK hP 0 rfl rfl 2 (by decide) hlk87 (fun _ h9 => h9) rfl dX9_append_37 ?_
      refine lv_iload_n hx hb dX9_append_40 rfl (lv_at hl 1 rfl) ?_
      refine zi_ast hx hb hK hP hD hS 1 rfl (by omega) (by omega) dX9_append_41 (fun H locs hP hD hS => ?_)
      have hP : va_P G.1 vwCl [(m, .inr (6, [.int (nI 0), .ref mt, .int (nI ts), .int (nI ps), .int pv, .ref mp, .int (nI V), .ref mg, .ref mc, .ref mh, .int (nI rm), .ref ms, .ref mu, .int (nI on), .ref of1, .ref ot1, .ref oi1, .long sd, .ref ml, .ref md, .ref mw])), zA G mt 60 (zU tx ts x.toInt.toNat)] H := hP
      have hD : va_D AM [(m, .inr (6, [.int (nI 0), .ref mt, .int (nI ts), .int (nI ps), .int pv, .ref mp, .int (nI V), .ref mg, .ref mc, .ref mh, .int (nI rm), .ref ms, .ref mu, .int (nI on), .ref of1, .ref ot1, .ref oi1, .long sd, .ref ml, .ref md, .ref mw])), zA G mt 60 (zU tx ts x.toInt.toNat)] := hD
      refine lv_aload_n hx hb dX9_append_42 rfl (lv_at hl 0 rfl) ?_
      refine lv_dup hx hb dX9_append_43 rfl ?_
      refine va_get (D := G.1) (ci := 6) (v := .int (nI ts)) (C := RX9) (T := TX9) (N := 21) hx hb hts hinX9 hown hK hP 0 rfl rfl 2 (by decide) hlk87 (fun _ h9 => h9) rfl dX9_append_44 ?_
      refine lv_iconst (v := nI 1) hx hb dX9_append_47 (by decide) ?_
      refine zi_addk (n := ts + 1) hx hb dX9_append_48 (by omega) ?_
      refine va_put (D := G.1) (ci := 6) (v := .int (nI (ts + 1))) (ty := .int) (C := RX9) (T := TX9) (N := 21) hx hb hts hinX9 tyX9 tyX9_ok nmX9 hown hK hP hD hS 0 rfl rfl 2 (by decide) hlk87 (fun _ h9 => h9) rfl (by decide +kernel) rfl rfl (Nat.le_of_ble_eq_true rfl) dX9_append_49 (fun H locs hP hD hS => ?_)
      have hP : va_P G.1 vwCl [(m, .inr (6, [.int (nI 0), .ref mt, .int (nI (ts + 1)), .int (nI ps), .int pv, .ref mp, .int (nI V), .ref mg, .ref mc, .ref mh, .int (nI rm), .ref ms, .ref mu, .int (nI on), .ref of1, .ref ot1, .ref oi1, .long sd, .ref ml, .ref md, .ref mw])), zA G mt 60 (zU tx ts x.toInt.toNat)] H := hP
      have hD : va_D AM [(m, .inr (6, [.int (nI 0), .ref mt, .int (nI (ts + 1)), .int (nI ps), .int pv, .ref mp, .int (nI V), .ref mg, .ref mc, .ref mh, .int (nI rm), .ref ms, .ref mu, .int (nI on), .ref of1, .ref ot1, .ref oi1, .long sd, .ref ml, .ref md, .ref mw])), zA G mt 60 (zU tx ts x.toInt.toNat)] := hD
      refine lv_aload_n hx hb dX9_append_52 rfl (lv_at hl 0 rfl) ?_
      refine va_get (D := G.1) (ci := 6) (v := .int (nI (ts + 1))) (C := RX9) (T := TX9) (N := 21) hx hb hts hinX9 hown hK hP 0 rfl rfl 2 (by decide) hlk87 (fun _ h9 => h9) rfl dX9_append_53 ?_
      exact kret _ _ _ _ _ _ rfl rfl hP hD hS dX9_append_56
    · skip
      exfalso; omega
  · skip
    exfalso; omega
set_option maxHeartbeats 400000 in
set_option maxRecDepth 100000 in
theorem c_X9_append_bad (l : Launch) (G : zG) (m mt mp mg mc mh ms mu of1 ot1 oi1 ml md mw th ts ps V rm on : Nat) (pv : Int32) (sd : Int64) (x : Int32) (hts60 : ts ≤ 60) (hb0 : ¬ ((0 ≤ x.toInt ∧ x.toInt < 256) ∧ ts < 60)) : MI l yX9_append wsX9_append ({ frames := 1, cells := 0, slots := 0, locals := 25 }) G [.ref m, .int x] [(m, .inr (6, [.int (nI th), .ref mt, .int (nI ts), .int (nI ps), .int pv, .ref mp, .int (nI V), .ref mg, .ref mc, .ref mh, .int (nI rm), .ref ms, .ref mu, .int (nI on), .ref of1, .ref ot1, .ref oi1, .long sd, .ref ml, .ref md, .ref mw]))] (zApX ts x) [(m, .inr (6, [.int (nI 0), .ref mt, .int (nI ts), .int (nI ps), .int pv, .ref mp, .int (nI V), .ref mg, .ref mc, .ref mh, .int (nI rm), .ref ms, .ref mu, .int (nI on), .ref of1, .ref ot1, .ref oi1, .long sd, .ref ml, .ref md, .ref mw]))] := by
  refine MI.enter (cc := cX9_append) (maxL := 2) (by decide) rfl (Nat.le_of_ble_eq_true rfl) rfl ?_
  intro pM eM sM mM bM tM cM QM AM ls hat kret
  obtain ⟨SM, hA, hK, hE, hP, hD, hS, hl⟩ := hat
  have hx := SM.1
  have hb := SM.2.1
  have hown : sM.vm.findClass RX9 = some mM.cls := SM.2.2.2.1
  have hts := SM.2.2.2.2
  have hinX9 : ∀ w ∈ u_ws RX9 TX9 21, w ∈ wsX9_append := by decide +kernel
  have hlk54 : (Cond.fieldLink RX9 54 "DyckReachabilityModel" "thrown" "I").before _ sM = true := hts _ (by decide +kernel)
  have hlk87 : (Cond.fieldLink RX9 87 "DyckReachabilityModel" "textSize" "I").before _ sM = true := hts _ (by decide +kernel)
  have hl : lv_has ls 2 [(0, .ref m), (1, .int x)] := hl
  refine lv_aload_n hx hb dX9_append_0 rfl (lv_at hl 0 rfl) ?_
  refine lv_iconst (v := nI 0) hx hb dX9_append_1 (by decide) ?_
  refine va_put (D := G.1) (ci := 6) (v := .int (nI 0)) (ty := .int) (C := RX9) (T := TX9) (N := 21) hx hb hts hinX9 tyX9 tyX9_ok nmX9 hown hK hP hD hS 0 rfl rfl 0 (by decide) hlk54 (fun _ h9 => h9) rfl (by decide +kernel) rfl rfl (Nat.le_of_ble_eq_true rfl) dX9_append_2 (fun H locs hP hD hS => ?_)
  have hP : va_P G.1 vwCl [(m, .inr (6, [.int (nI 0), .ref mt, .int (nI ts), .int (nI ps), .int pv, .ref mp, .int (nI V), .ref mg, .ref mc, .ref mh, .int (nI rm), .ref ms, .ref mu, .int (nI on), .ref of1, .ref ot1, .ref oi1, .long sd, .ref ml, .ref md, .ref mw]))] H := hP
  have hD : va_D AM [(m, .inr (6, [.int (nI 0), .ref mt, .int (nI ts), .int (nI ps), .int pv, .ref mp, .int (nI V), .ref mg, .ref mc, .ref mh, .int (nI rm), .ref ms, .ref mu, .int (nI on), .ref of1, .ref ot1, .ref oi1, .long sd, .ref ml, .ref md, .ref mw]))] := hD
  refine lv_iload_n hx hb dX9_append_5 rfl (lv_at hl 1 rfl) ?_
  refine lv_i2l hx hb dX9_append_6 rfl ?_
  refine lv_lconst (v := lN 0) hx hb dX9_append_7 (by decide) ?_
  refine lv_ldc2 (v := lN 255) hx hb hown (hts (.constantLong RX9 85 (255)) (by decide +kernel)) dX9_append_8 ?_
  refine zSi (W1 := [(m, .inr (6, [.int (nI 0), .ref mt, .int (nI ts), .int (nI ps), .int pv, .ref mp, .int (nI V), .ref mg, .ref mc, .ref mh, .int (nI rm), .ref ms, .ref mu, .int (nI on), .ref of1, .ref ot1, .ref oi1, .long sd, .ref ml, .ref md, .ref mw]))]) (W2 := [(m, .inr (6, [.int (nI 0), .ref mt, .int (nI ts), .int (nI ps), .int pv, .ref mp, .int (nI V), .ref mg, .ref mc, .ref mh, .int (nI rm), .ref ms, .ref mu, .int (nI on), .ref of1, .ref ot1, .ref oi1, .long sd, .ref ml, .ref md, .ref mw]))]) (wr := [(m, .inr (6, [.int (nI 0), .ref mt, .int (nI ts), .int (nI ps), .int pv, .ref mp, .int (nI V), .ref mg, .ref mc, .ref mh, .int (nI rm), .ref ms, .ref mu, .int (nI on), .ref of1, .ref ot1, .ref oi1, .long sd, .ref ml, .ref md, .ref mw]))]) (rest := []) SM (c_X9_in_X l G (x) 0 255 (by first | assumption | omega) (by first | assumption | omega)) (va_cwS 3 hts gX9_append_X9_in rfl rfl rfl (by decide +kernel) ⟨Nat.le_of_ble_eq_true rfl, Nat.le_of_ble_eq_true rfl⟩) hK hE hA hP hD hS hl.1 [] [0] [0] rfl rfl rfl (by decide) rfl rfl (Nat.le_of_ble_eq_true rfl) ⟨Nat.zero_le _, Nat.zero_le _⟩ dX9_append_11 (fun H locs hP hD hS => ?_)
  refine zb_ne (tgt := 20) hx hb dX9_append_14 (by decide) (fun c_1 => ?_) (fun c_1 => ?_)
  · skip
    refine lv_aload_n hx hb dX9_append_20 rfl (lv_at hl 0 rfl) ?_
    refine va_get (D := G.1) (ci := 6) (v := .int (nI ts)) (C := RX9) (T := TX9) (N := 21) hx hb hts hinX9 hown hK hP 0 rfl rfl 2 (by decide) hlk87 (fun _ h9 => h9) rfl dX9_append_21 ?_
    refine lv_bipush (v := nI 60) hx hb dX9_append_24 (by decide) ?_
    refine zn_ne (tgt := 32) hx hb dX9_append_26 (by decide) (by omega) (by omega) (fun c_2 => ?_) (fun c_2 => ?_)
    · skip
      exfalso; omega
    · skip
      refine lv_bipush (v := (-4)) hx hb dX9_append_29 (by decide) ?_
      exact kret _ _ _ _ _ _ (by unfold zApX; repeat (first | rw [if_pos (by first | assumption | omega)] | rw [if_neg (by first | assumption | omega)])) rfl hP hD hS dX9_append_31
  · skip
    refine lv_bipush (v := (-2)) hx hb dX9_append_17 (by decide) ?_
    exact kret _ _ _ _ _ _ (by unfold zApX; repeat (first | rw [if_pos (by first | assumption | omega)] | rw [if_neg (by first | assumption | omega)])) rfl hP hD hS dX9_append_19
set_option maxHeartbeats 400000 in
set_option maxRecDepth 100000 in
theorem c_X9_clearText (l : Launch) (G : zG) (m mt mp mg mc mh ms mu of1 ot1 oi1 ml md mw th ts ps V rm on : Nat) (pv : Int32) (sd : Int64)  : MI l yX9_clearText wsX9_clearText ({ frames := 0, cells := 0, slots := 0, locals := 0 }) G [.ref m] [(m, .inr (6, [.int (nI th), .ref mt, .int (nI ts), .int (nI ps), .int pv, .ref mp, .int (nI V), .ref mg, .ref mc, .ref mh, .int (nI rm), .ref ms, .ref mu, .int (nI on), .ref of1, .ref ot1, .ref oi1, .long sd, .ref ml, .ref md, .ref mw]))] (nI ts) [(m, .inr (6, [.int (nI 0), .ref mt, .int (nI 0), .int (nI ps), .int pv, .ref mp, .int (nI V), .ref mg, .ref mc, .ref mh, .int (nI rm), .ref ms, .ref mu, .int (nI on), .ref of1, .ref ot1, .ref oi1, .long sd, .ref ml, .ref md, .ref mw]))] := by
  refine MI.enter (cc := cX9_clearText) (maxL := 2) (by decide) rfl (Nat.le_of_ble_eq_true rfl) rfl ?_
  intro pM eM sM mM bM tM cM QM AM ls hat kret
  obtain ⟨SM, hA, hK, hE, hP, hD, hS, hl⟩ := hat
  have hx := SM.1
  have hb := SM.2.1
  have hown : sM.vm.findClass RX9 = some mM.cls := SM.2.2.2.1
  have hts := SM.2.2.2.2
  have hinX9 : ∀ w ∈ u_ws RX9 TX9 21, w ∈ wsX9_clearText := by decide +kernel
  have hlk54 : (Cond.fieldLink RX9 54 "DyckReachabilityModel" "thrown" "I").before _ sM = true := hts _ (by decide +kernel)
  have hlk87 : (Cond.fieldLink RX9 87 "DyckReachabilityModel" "textSize" "I").before _ sM = true := hts _ (by decide +kernel)
  have hl : lv_has ls 2 [(0, .ref m)] := hl
  refine lv_aload_n hx hb dX9_clearText_0 rfl (lv_at hl 0 rfl) ?_
  refine lv_iconst (v := nI 0) hx hb dX9_clearText_1 (by decide) ?_
  refine va_put (D := G.1) (ci := 6) (v := .int (nI 0)) (ty := .int) (C := RX9) (T := TX9) (N := 21) hx hb hts hinX9 tyX9 tyX9_ok nmX9 hown hK hP hD hS 0 rfl rfl 0 (by decide) hlk54 (fun _ h9 => h9) rfl (by decide +kernel) rfl rfl (Nat.le_of_ble_eq_true rfl) dX9_clearText_2 (fun H locs hP hD hS => ?_)
  have hP : va_P G.1 vwCl [(m, .inr (6, [.int (nI 0), .ref mt, .int (nI ts), .int (nI ps), .int pv, .ref mp, .int (nI V), .ref mg, .ref mc, .ref mh, .int (nI rm), .ref ms, .ref mu, .int (nI on), .ref of1, .ref ot1, .ref oi1, .long sd, .ref ml, .ref md, .ref mw]))] H := hP
  have hD : va_D AM [(m, .inr (6, [.int (nI 0), .ref mt, .int (nI ts), .int (nI ps), .int pv, .ref mp, .int (nI V), .ref mg, .ref mc, .ref mh, .int (nI rm), .ref ms, .ref mu, .int (nI on), .ref of1, .ref ot1, .ref oi1, .long sd, .ref ml, .ref md, .ref mw]))] := hD
  refine lv_aload_n hx hb dX9_clearText_5 rfl (lv_at hl 0 rfl) ?_
  refine va_get (D := G.1) (ci := 6) (v := .int (nI ts)) (C := RX9) (T := TX9) (N := 21) hx hb hts hinX9 hown hK hP 0 rfl rfl 2 (by decide) hlk87 (fun _ h9 => h9) rfl dX9_clearText_6 ?_
  refine lv_istore_n (lv' := [(1, .int (nI ts)), (0, .ref m)]) hx hb dX9_clearText_9 rfl hl (by decide) rfl (fun ls hl => ?_)
  refine lv_aload_n hx hb dX9_clearText_10 rfl (lv_at hl 1 rfl) ?_
  refine lv_iconst (v := nI 0) hx hb dX9_clearText_11 (by decide) ?_
  refine va_put (D := G.1) (ci := 6) (v := .int (nI 0)) (ty := .int) (C := RX9) (T := TX9) (N := 21) hx hb hts hinX9 tyX9 tyX9_ok nmX9 hown hK hP hD hS 0 rfl rfl 2 (by decide) hlk87 (fun _ h9 => h9) rfl (by decide +kernel) rfl rfl (Nat.le_of_ble_eq_true rfl) dX9_clearText_12 (fun H locs hP hD hS => ?_)
  have hP : va_P G.1 vwCl [(m, .inr (6, [.int (nI 0), .ref mt, .int (nI 0), .int (nI ps), .int pv, .ref mp, .int (nI V), .ref mg, .ref mc, .ref mh, .int (nI rm), .ref ms, .ref mu, .int (nI on), .ref of1, .ref ot1, .ref oi1, .long sd, .ref ml, .ref md, .ref mw]))] H := hP
  have hD : va_D AM [(m, .inr (6, [.int (nI 0), .ref mt, .int (nI 0), .int (nI ps), .int pv, .ref mp, .int (nI V), .ref mg, .ref mc, .ref mh, .int (nI rm), .ref ms, .ref mu, .int (nI on), .ref of1, .ref ot1, .ref oi1, .long sd, .ref ml, .ref md, .ref mw]))] := hD
  refine lv_iload_n hx hb dX9_clearText_15 rfl (lv_at hl 0 rfl) ?_
  exact kret _ _ _ _ _ _ rfl rfl hP hD hS dX9_clearText_16
set_option maxHeartbeats 400000 in
set_option maxRecDepth 100000 in
theorem c_X9_digit_ok (l : Launch) (G : zG) (m mt mp mg mc mh ms mu of1 ot1 oi1 ml md mw th ts ps V rm on : Nat) (pv : Int32) (sd : Int64) (tx : Nat → Nat) (lo hi : Nat) (htx : ∀ i, tx i < 256) (hts60 : ts ≤ 60) (hp : ps < ts) (hd : lo + 48 ≤ tx ps ∧ tx ps ≤ hi + 48) (hhi : hi < 16) (hlo16 : lo < 16) : MI l yX9_digit wsX9_digit ({ frames := 1, cells := 0, slots := 0, locals := 25 }) G [.ref m, .int (nI lo), .int (nI hi)] [(m, .inr (6, [.int (nI th), .ref mt, .int (nI ts), .int (nI ps), .int pv, .ref mp, .int (nI V), .ref mg, .ref mc, .ref mh, .int (nI rm), .ref ms, .ref mu, .int (nI on), .ref of1, .ref ot1, .ref oi1, .long sd, .ref ml, .ref md, .ref mw])), zA G mt 60 tx] (nI (tx ps - 48)) [(m, .inr (6, [.int (nI th), .ref mt, .int (nI ts), .int (nI (ps + 1)), .int pv, .ref mp, .int (nI V), .ref mg, .ref mc, .ref mh, .int (nI rm), .ref ms, .ref mu, .int (nI on), .ref of1, .ref ot1, .ref oi1, .long sd, .ref ml, .ref md, .ref mw])), zA G mt 60 tx] := by
  refine MI.enter (cc := cX9_digit) (maxL := 4) (by decide) rfl (Nat.le_of_ble_eq_true rfl) rfl ?_
  intro pM eM sM mM bM tM cM QM AM ls hat kret
  obtain ⟨SM, hA, hK, hE, hP, hD, hS, hl⟩ := hat
  have hx := SM.1
  have hb := SM.2.1
  have hown : sM.vm.findClass RX9 = some mM.cls := SM.2.2.2.1
  have hts := SM.2.2.2.2
  have hinX9 : ∀ w ∈ u_ws RX9 TX9 21, w ∈ wsX9_digit := by decide +kernel
  have hlk90 : (Cond.fieldLink RX9 90 "DyckReachabilityModel" "pos" "I").before _ sM = true := hts _ (by decide +kernel)
  have hlk87 : (Cond.fieldLink RX9 87 "DyckReachabilityModel" "textSize" "I").before _ sM = true := hts _ (by decide +kernel)
  have hlk7 : (Cond.fieldLink RX9 7 "DyckReachabilityModel" "text" "[I").before _ sM = true := hts _ (by decide +kernel)
  have hl : lv_has ls 4 [(0, .ref m), (1, .int (nI lo)), (2, .int (nI hi))] := hl
  refine lv_aload_n hx hb dX9_digit_0 rfl (lv_at hl 0 rfl) ?_
  refine va_get (D := G.1) (ci := 6) (v := .int (nI ps)) (C := RX9) (T := TX9) (N := 21) hx hb hts hinX9 hown hK hP 0 rfl rfl 3 (by decide) hlk90 (fun _ h9 => h9) rfl dX9_digit_1 ?_
  refine lv_aload_n hx hb dX9_digit_4 rfl (lv_at hl 0 rfl) ?_
  refine va_get (D := G.1) (ci := 6) (v := .int (nI ts)) (C := RX9) (T := TX9) (N := 21) hx hb hts hinX9 hown hK hP 0 rfl rfl 2 (by decide) hlk87 (fun _ h9 => h9) rfl dX9_digit_5 ?_
  refine zn_ge (tgt := 26) hx hb dX9_digit_8 (by decide) (by omega) (by omega) (fun c_1 => ?_) (fun c_1 => ?_)
  · skip
    exfalso; omega
  · skip
    refine lv_aload_n hx hb dX9_digit_11 rfl (lv_at hl 0 rfl) ?_
    refine va_get (D := G.1) (ci := 6) (v := .ref mt) (C := RX9) (T := TX9) (N := 21) hx hb hts hinX9 hown hK hP 0 rfl rfl 1 (by decide) hlk7 (fun _ h9 => h9) rfl dX9_digit_12 ?_
    refine lv_aload_n hx hb dX9_digit_15 rfl (lv_at hl 0 rfl) ?_
    refine va_get (D := G.1) (ci := 6) (v := .int (nI ps)) (C := RX9) (T := TX9) (N := 21) hx hb hts hinX9 hown hK hP 0 rfl rfl 3 (by decide) hlk90 (fun _ h9 => h9) rfl dX9_digit_16 ?_
    refine zi_ald hx hb hK hP 1 rfl (by omega) (by omega) dX9_digit_19 ?_
    have hb_2 := htx ps
    refine lv_bipush (v := nI 48) hx hb dX9_digit_20 (by decide) ?_
    refine zi_sub hx hb dX9_digit_22 (by omega) ?_
    refine lv_goto (tgt := 28) hx hb dX9_digit_23 (by decide) ?_
    refine lv_istore_n (lv' := [(3, .int (nI ((tx ps) - 48))), (0, .ref m), (1, .int (nI lo)), (2, .int (nI hi))]) hx hb dX9_digit_28 rfl hl (by decide) rfl (fun ls hl => ?_)
    refine lv_iload_n hx hb dX9_digit_29 rfl (lv_at hl 0 rfl) ?_
    refine lv_i2l (v := lN ((tx ps) - 48)) hx hb dX9_digit_30 (nI_l (by omega)) ?_
    refine lv_iload_n hx hb dX9_digit_31 rfl (lv_at hl 2 rfl) ?_
    refine lv_i2l (v := lN lo) hx hb dX9_digit_32 (nI_l (by omega)) ?_
    refine lv_iload_n hx hb dX9_digit_33 rfl (lv_at hl 3 rfl) ?_
    refine lv_i2l (v := lN hi) hx hb dX9_digit_34 (nI_l (by omega)) ?_
    refine zSi (W1 := [(m, .inr (6, [.int (nI th), .ref mt, .int (nI ts), .int (nI ps), .int pv, .ref mp, .int (nI V), .ref mg, .ref mc, .ref mh, .int (nI rm), .ref ms, .ref mu, .int (nI on), .ref of1, .ref ot1, .ref oi1, .long sd, .ref ml, .ref md, .ref mw])), zA G mt 60 tx]) (W2 := [(m, .inr (6, [.int (nI th), .ref mt, .int (nI ts), .int (nI ps), .int pv, .ref mp, .int (nI V), .ref mg, .ref mc, .ref mh, .int (nI rm), .ref ms, .ref mu, .int (nI on), .ref of1, .ref ot1, .ref oi1, .long sd, .ref ml, .ref md, .ref mw])), zA G mt 60 tx]) (wr := [(m, .inr (6, [.int (nI th), .ref mt, .int (nI ts), .int (nI ps), .int pv, .ref mp, .int (nI V), .ref mg, .ref mc, .ref mh, .int (nI rm), .ref ms, .ref mu, .int (nI on), .ref of1, .ref ot1, .ref oi1, .long sd, .ref ml, .ref md, .ref mw])), zA G mt 60 tx]) (rest := []) SM (c_X9_in_N l G ((tx ps) - 48) lo hi (by first | assumption | omega) (by first | assumption | omega) (by first | assumption | omega)) (va_cwS 3 hts gX9_digit_X9_in rfl rfl rfl (by decide +kernel) ⟨Nat.le_of_ble_eq_true rfl, Nat.le_of_ble_eq_true rfl⟩) hK hE hA hP hD hS hl.1 [] [0, 1] [0, 1] rfl rfl rfl (by decide) rfl rfl (Nat.le_of_ble_eq_true rfl) ⟨Nat.zero_le _, Nat.zero_le _⟩ dX9_digit_35 (fun H locs hP hD hS => ?_)
    refine zb_ne (tgt := 44) hx hb dX9_digit_38 (by decide) (fun c_3 => ?_) (fun c_3 => ?_)
    · skip
      refine lv_aload_n hx hb dX9_digit_44 rfl (lv_at hl 1 rfl) ?_
      refine lv_dup hx hb dX9_digit_45 rfl ?_
      refine va_get (D := G.1) (ci := 6) (v := .int (nI ps)) (C := RX9) (T := TX9) (N := 21) hx hb hts hinX9 hown hK hP 0 rfl rfl 3 (by decide) hlk90 (fun _ h9 => h9) rfl dX9_digit_46 ?_
      refine lv_iconst (v := nI 1) hx hb dX9_digit_49 (by decide) ?_
      refine zi_addk (n := ps + 1) hx hb dX9_digit_50 (by omega) ?_
      refine va_put (D := G.1) (ci := 6) (v := .int (nI (ps + 1))) (ty := .int) (C := RX9) (T := TX9) (N := 21) hx hb hts hinX9 tyX9 tyX9_ok nmX9 hown hK hP hD hS 0 rfl rfl 3 (by decide) hlk90 (fun _ h9 => h9) rfl (by decide +kernel) rfl rfl (Nat.le_of_ble_eq_true rfl) dX9_digit_51 (fun H locs hP hD hS => ?_)
      have hP : va_P G.1 vwCl [(m, .inr (6, [.int (nI th), .ref mt, .int (nI ts), .int (nI (ps + 1)), .int pv, .ref mp, .int (nI V), .ref mg, .ref mc, .ref mh, .int (nI rm), .ref ms, .ref mu, .int (nI on), .ref of1, .ref ot1, .ref oi1, .long sd, .ref ml, .ref md, .ref mw])), zA G mt 60 tx] H := hP
      have hD : va_D AM [(m, .inr (6, [.int (nI th), .ref mt, .int (nI ts), .int (nI (ps + 1)), .int pv, .ref mp, .int (nI V), .ref mg, .ref mc, .ref mh, .int (nI rm), .ref ms, .ref mu, .int (nI on), .ref of1, .ref ot1, .ref oi1, .long sd, .ref ml, .ref md, .ref mw])), zA G mt 60 tx] := hD
      refine lv_iload_n hx hb dX9_digit_54 rfl (lv_at hl 0 rfl) ?_
      exact kret _ _ _ _ _ _ (congrArg nI (by omega)) rfl hP hD hS dX9_digit_55
    · skip
      exfalso; omega
set_option maxHeartbeats 400000 in
set_option maxRecDepth 100000 in
theorem c_X9_digit_bad (l : Launch) (G : zG) (m mt mp mg mc mh ms mu of1 ot1 oi1 ml md mw th ts ps V rm on : Nat) (pv : Int32) (sd : Int64) (tx : Nat → Nat) (lo hi : Nat) (htx : ∀ i, tx i < 256) (hts60 : ts ≤ 60) (hps : ps ≤ 60) (hd : ¬ (ps < ts ∧ lo + 48 ≤ tx ps ∧ tx ps ≤ hi + 48)) (hhi : hi < 16) (hlo16 : lo < 16) : MI l yX9_digit wsX9_digit ({ frames := 1, cells := 0, slots := 0, locals := 25 }) G [.ref m, .int (nI lo), .int (nI hi)] [(m, .inr (6, [.int (nI th), .ref mt, .int (nI ts), .int (nI ps), .int pv, .ref mp, .int (nI V), .ref mg, .ref mc, .ref mh, .int (nI rm), .ref ms, .ref mu, .int (nI on), .ref of1, .ref ot1, .ref oi1, .long sd, .ref ml, .ref md, .ref mw])), zA G mt 60 tx] (-9) [(m, .inr (6, [.int (nI th), .ref mt, .int (nI ts), .int (nI ps), .int pv, .ref mp, .int (nI V), .ref mg, .ref mc, .ref mh, .int (nI rm), .ref ms, .ref mu, .int (nI on), .ref of1, .ref ot1, .ref oi1, .long sd, .ref ml, .ref md, .ref mw])), zA G mt 60 tx] := by
  refine MI.enter (cc := cX9_digit) (maxL := 4) (by decide) rfl (Nat.le_of_ble_eq_true rfl) rfl ?_
  intro pM eM sM mM bM tM cM QM AM ls hat kret
  obtain ⟨SM, hA, hK, hE, hP, hD, hS, hl⟩ := hat
  have hx := SM.1
  have hb := SM.2.1
  have hown : sM.vm.findClass RX9 = some mM.cls := SM.2.2.2.1
  have hts := SM.2.2.2.2
  have hinX9 : ∀ w ∈ u_ws RX9 TX9 21, w ∈ wsX9_digit := by decide +kernel
  have hlk90 : (Cond.fieldLink RX9 90 "DyckReachabilityModel" "pos" "I").before _ sM = true := hts _ (by decide +kernel)
  have hlk87 : (Cond.fieldLink RX9 87 "DyckReachabilityModel" "textSize" "I").before _ sM = true := hts _ (by decide +kernel)
  have hlk7 : (Cond.fieldLink RX9 7 "DyckReachabilityModel" "text" "[I").before _ sM = true := hts _ (by decide +kernel)
  have hl : lv_has ls 4 [(0, .ref m), (1, .int (nI lo)), (2, .int (nI hi))] := hl
  refine lv_aload_n hx hb dX9_digit_0 rfl (lv_at hl 0 rfl) ?_
  refine va_get (D := G.1) (ci := 6) (v := .int (nI ps)) (C := RX9) (T := TX9) (N := 21) hx hb hts hinX9 hown hK hP 0 rfl rfl 3 (by decide) hlk90 (fun _ h9 => h9) rfl dX9_digit_1 ?_
  refine lv_aload_n hx hb dX9_digit_4 rfl (lv_at hl 0 rfl) ?_
  refine va_get (D := G.1) (ci := 6) (v := .int (nI ts)) (C := RX9) (T := TX9) (N := 21) hx hb hts hinX9 hown hK hP 0 rfl rfl 2 (by decide) hlk87 (fun _ h9 => h9) rfl dX9_digit_5 ?_
  refine zn_ge (tgt := 26) hx hb dX9_digit_8 (by decide) (by omega) (by omega) (fun c_1 => ?_) (fun c_1 => ?_)
  · skip
    refine lv_bipush (v := (-9)) hx hb dX9_digit_26 (by decide) ?_
    refine lv_istore_n (lv' := [(3, .int (-9)), (0, .ref m), (1, .int (nI lo)), (2, .int (nI hi))]) hx hb dX9_digit_28 rfl hl (by decide) rfl (fun ls hl => ?_)
    refine lv_iload_n hx hb dX9_digit_29 rfl (lv_at hl 0 rfl) ?_
    refine lv_i2l hx hb dX9_digit_30 rfl ?_
    refine lv_iload_n hx hb dX9_digit_31 rfl (lv_at hl 2 rfl) ?_
    refine lv_i2l (v := lN lo) hx hb dX9_digit_32 (nI_l (by omega)) ?_
    refine lv_iload_n hx hb dX9_digit_33 rfl (lv_at hl 3 rfl) ?_
    refine lv_i2l (v := lN hi) hx hb dX9_digit_34 (nI_l (by omega)) ?_
    have hbt9 := htx ps
    have hz9 : ((-9 : Int32)).toInt = -9 := by decide
    have hz8 : (nI (tx ps) - nI 48).toInt = (tx ps : Int) - 48 := zSubI (by omega) (by omega)
    refine zSi (W1 := [(m, .inr (6, [.int (nI th), .ref mt, .int (nI ts), .int (nI ps), .int pv, .ref mp, .int (nI V), .ref mg, .ref mc, .ref mh, .int (nI rm), .ref ms, .ref mu, .int (nI on), .ref of1, .ref ot1, .ref oi1, .long sd, .ref ml, .ref md, .ref mw])), zA G mt 60 tx]) (W2 := [(m, .inr (6, [.int (nI th), .ref mt, .int (nI ts), .int (nI ps), .int pv, .ref mp, .int (nI V), .ref mg, .ref mc, .ref mh, .int (nI rm), .ref ms, .ref mu, .int (nI on), .ref of1, .ref ot1, .ref oi1, .long sd, .ref ml, .ref md, .ref mw])), zA G mt 60 tx]) (wr := [(m, .inr (6, [.int (nI th), .ref mt, .int (nI ts), .int (nI ps), .int pv, .ref mp, .int (nI V), .ref mg, .ref mc, .ref mh, .int (nI rm), .ref ms, .ref mu, .int (nI on), .ref of1, .ref ot1, .ref oi1, .long sd, .ref ml, .ref md, .ref mw])), zA G mt 60 tx]) (rest := []) SM (c_X9_in_X l G ((-9)) lo hi (by first | assumption | omega) (by first | assumption | omega)) (va_cwS 3 hts gX9_digit_X9_in rfl rfl rfl (by decide +kernel) ⟨Nat.le_of_ble_eq_true rfl, Nat.le_of_ble_eq_true rfl⟩) hK hE hA hP hD hS hl.1 [] [0, 1] [0, 1] rfl rfl rfl (by decide) rfl rfl (Nat.le_of_ble_eq_true rfl) ⟨Nat.zero_le _, Nat.zero_le _⟩ dX9_digit_35 (fun H locs hP hD hS => ?_)
    refine zb_ne (tgt := 44) hx hb dX9_digit_38 (by decide) (fun c_2 => ?_) (fun c_2 => ?_)
    · skip
      exfalso; omega
    · skip
      refine lv_bipush (v := (-9)) hx hb dX9_digit_41 (by decide) ?_
      exact kret _ _ _ _ _ _ rfl rfl hP hD hS dX9_digit_43
  · skip
    refine lv_aload_n hx hb dX9_digit_11 rfl (lv_at hl 0 rfl) ?_
    refine va_get (D := G.1) (ci := 6) (v := .ref mt) (C := RX9) (T := TX9) (N := 21) hx hb hts hinX9 hown hK hP 0 rfl rfl 1 (by decide) hlk7 (fun _ h9 => h9) rfl dX9_digit_12 ?_
    refine lv_aload_n hx hb dX9_digit_15 rfl (lv_at hl 0 rfl) ?_
    refine va_get (D := G.1) (ci := 6) (v := .int (nI ps)) (C := RX9) (T := TX9) (N := 21) hx hb hts hinX9 hown hK hP 0 rfl rfl 3 (by decide) hlk90 (fun _ h9 => h9) rfl dX9_digit_16 ?_
    refine zi_ald hx hb hK hP 1 rfl (by omega) (by omega) dX9_digit_19 ?_
    have hb_3 := htx ps
    refine lv_bipush (v := nI 48) hx hb dX9_digit_20 (by decide) ?_
    refine lv_isub hx hb dX9_digit_22 ?_
    refine lv_goto (tgt := 28) hx hb dX9_digit_23 (by decide) ?_
    refine lv_istore_n (lv' := [(3, .int ((nI (tx ps)) - (nI 48))), (0, .ref m), (1, .int (nI lo)), (2, .int (nI hi))]) hx hb dX9_digit_28 rfl hl (by decide) rfl (fun ls hl => ?_)
    refine lv_iload_n hx hb dX9_digit_29 rfl (lv_at hl 0 rfl) ?_
    refine lv_i2l hx hb dX9_digit_30 rfl ?_
    refine lv_iload_n hx hb dX9_digit_31 rfl (lv_at hl 2 rfl) ?_
    refine lv_i2l (v := lN lo) hx hb dX9_digit_32 (nI_l (by omega)) ?_
    refine lv_iload_n hx hb dX9_digit_33 rfl (lv_at hl 3 rfl) ?_
    refine lv_i2l (v := lN hi) hx hb dX9_digit_34 (nI_l (by omega)) ?_
    have hbt9 := htx ps
    have hz9 : ((-9 : Int32)).toInt = -9 := by decide
    have hz8 : (nI (tx ps) - nI 48).toInt = (tx ps : Int) - 48 := zSubI (by omega) (by omega)
    refine zSi (W1 := [(m, .inr (6, [.int (nI th), .ref mt, .int (nI ts), .int (nI ps), .int pv, .ref mp, .int (nI V), .ref mg, .ref mc, .ref mh, .int (nI rm), .ref ms, .ref mu, .int (nI on), .ref of1, .ref ot1, .ref oi1, .long sd, .ref ml, .ref md, .ref mw])), zA G mt 60 tx]) (W2 := [(m, .inr (6, [.int (nI th), .ref mt, .int (nI ts), .int (nI ps), .int pv, .ref mp, .int (nI V), .ref mg, .ref mc, .ref mh, .int (nI rm), .ref ms, .ref mu, .int (nI on), .ref of1, .ref ot1, .ref oi1, .long sd, .ref ml, .ref md, .ref mw])), zA G mt 60 tx]) (wr := [(m, .inr (6, [.int (nI th), .ref mt, .int (nI ts), .int (nI ps), .int pv, .ref mp, .int (nI V), .ref mg, .ref mc, .ref mh, .int (nI rm), .ref ms, .ref mu, .int (nI on), .ref of1, .ref ot1, .ref oi1, .long sd, .ref ml, .ref md, .ref mw])), zA G mt 60 tx]) (rest := []) SM (c_X9_in_X l G ((nI (tx ps)) - (nI 48)) lo hi (by first | assumption | omega) (by first | assumption | omega)) (va_cwS 3 hts gX9_digit_X9_in rfl rfl rfl (by decide +kernel) ⟨Nat.le_of_ble_eq_true rfl, Nat.le_of_ble_eq_true rfl⟩) hK hE hA hP hD hS hl.1 [] [0, 1] [0, 1] rfl rfl rfl (by decide) rfl rfl (Nat.le_of_ble_eq_true rfl) ⟨Nat.zero_le _, Nat.zero_le _⟩ dX9_digit_35 (fun H locs hP hD hS => ?_)
    refine zb_ne (tgt := 44) hx hb dX9_digit_38 (by decide) (fun c_4 => ?_) (fun c_4 => ?_)
    · skip
      exfalso; omega
    · skip
      refine lv_bipush (v := (-9)) hx hb dX9_digit_41 (by decide) ?_
      exact kret _ _ _ _ _ _ rfl rfl hP hD hS dX9_digit_43
set_option maxHeartbeats 400000 in
set_option maxRecDepth 100000 in
theorem c_X9_labelChar_ok (l : Launch) (G : zG) (m mt mp mg mc mh ms mu of1 ot1 oi1 ml md mw th ts ps V rm on : Nat) (pv : Int32) (sd : Int64) (tx : Nat → Nat) (htx : ∀ i, tx i < 256) (hts60 : ts ≤ 60) (hp : ps < ts) (hd : zLo (tx ps) < 7) : MI l yX9_labelChar wsX9_labelChar ({ frames := 1, cells := 0, slots := 0, locals := 25 }) G [.ref m] [(m, .inr (6, [.int (nI th), .ref mt, .int (nI ts), .int (nI ps), .int pv, .ref mp, .int (nI V), .ref mg, .ref mc, .ref mh, .int (nI rm), .ref ms, .ref mu, .int (nI on), .ref of1, .ref ot1, .ref oi1, .long sd, .ref ml, .ref md, .ref mw])), zA G mt 60 tx] (nI (zLo (tx ps))) [(m, .inr (6, [.int (nI th), .ref mt, .int (nI ts), .int (nI (ps + 1)), .int pv, .ref mp, .int (nI V), .ref mg, .ref mc, .ref mh, .int (nI rm), .ref ms, .ref mu, .int (nI on), .ref of1, .ref ot1, .ref oi1, .long sd, .ref ml, .ref md, .ref mw])), zA G mt 60 tx] := by
  refine MI.enter (cc := cX9_labelChar) (maxL := 3) (by decide) rfl (Nat.le_of_ble_eq_true rfl) rfl ?_
  intro pM eM sM mM bM tM cM QM AM ls hat kret
  obtain ⟨SM, hA, hK, hE, hP, hD, hS, hl⟩ := hat
  have hx := SM.1
  have hb := SM.2.1
  have hown : sM.vm.findClass RX9 = some mM.cls := SM.2.2.2.1
  have hts := SM.2.2.2.2
  have hinX9 : ∀ w ∈ u_ws RX9 TX9 21, w ∈ wsX9_labelChar := by decide +kernel
  have hlk90 : (Cond.fieldLink RX9 90 "DyckReachabilityModel" "pos" "I").before _ sM = true := hts _ (by decide +kernel)
  have hlk87 : (Cond.fieldLink RX9 87 "DyckReachabilityModel" "textSize" "I").before _ sM = true := hts _ (by decide +kernel)
  have hlk7 : (Cond.fieldLink RX9 7 "DyckReachabilityModel" "text" "[I").before _ sM = true := hts _ (by decide +kernel)
  have hlc := zLo_c2 (tx ps) (htx ps)
  have hl : lv_has ls 3 [(0, .ref m)] := hl
  refine lv_aload_n hx hb dX9_labelChar_0 rfl (lv_at hl 0 rfl) ?_
  refine va_get (D := G.1) (ci := 6) (v := .int (nI ps)) (C := RX9) (T := TX9) (N := 21) hx hb hts hinX9 hown hK hP 0 rfl rfl 3 (by decide) hlk90 (fun _ h9 => h9) rfl dX9_labelChar_1 ?_
  refine lv_aload_n hx hb dX9_labelChar_4 rfl (lv_at hl 0 rfl) ?_
  refine va_get (D := G.1) (ci := 6) (v := .int (nI ts)) (C := RX9) (T := TX9) (N := 21) hx hb hts hinX9 hown hK hP 0 rfl rfl 2 (by decide) hlk87 (fun _ h9 => h9) rfl dX9_labelChar_5 ?_
  refine zn_ge (tgt := 23) hx hb dX9_labelChar_8 (by decide) (by omega) (by omega) (fun c_1 => ?_) (fun c_1 => ?_)
  · skip
    exfalso; omega
  · skip
    refine lv_aload_n hx hb dX9_labelChar_11 rfl (lv_at hl 0 rfl) ?_
    refine va_get (D := G.1) (ci := 6) (v := .ref mt) (C := RX9) (T := TX9) (N := 21) hx hb hts hinX9 hown hK hP 0 rfl rfl 1 (by decide) hlk7 (fun _ h9 => h9) rfl dX9_labelChar_12 ?_
    refine lv_aload_n hx hb dX9_labelChar_15 rfl (lv_at hl 0 rfl) ?_
    refine va_get (D := G.1) (ci := 6) (v := .int (nI ps)) (C := RX9) (T := TX9) (N := 21) hx hb hts hinX9 hown hK hP 0 rfl rfl 3 (by decide) hlk90 (fun _ h9 => h9) rfl dX9_labelChar_16 ?_
    refine zi_ald hx hb hK hP 1 rfl (by omega) (by omega) dX9_labelChar_19 ?_
    have hb_2 := htx ps
    refine lv_goto (tgt := 24) hx hb dX9_labelChar_20 (by decide) ?_
    refine lv_istore_n (lv' := [(1, .int (nI (tx ps))), (0, .ref m)]) hx hb dX9_labelChar_24 rfl hl (by decide) rfl (fun ls hl => ?_)
    refine lv_iload_n hx hb dX9_labelChar_25 rfl (lv_at hl 0 rfl) ?_
    refine lv_bipush (v := nI 46) hx hb dX9_labelChar_26 (by decide) ?_
    refine zn_ne (tgt := 35) hx hb dX9_labelChar_28 (by decide) (by omega) (by omega) (fun c_3 => ?_) (fun c_3 => ?_)
    · skip
      refine lv_iload_n hx hb dX9_labelChar_35 rfl (lv_at hl 0 rfl) ?_
      refine lv_i2l (v := lN (tx ps)) hx hb dX9_labelChar_36 (nI_l (by omega)) ?_
      refine lv_ldc2 (v := lN 97) hx hb hown (hts (.constantLong RX9 93 (97)) (by decide +kernel)) dX9_labelChar_37 ?_
      refine lv_ldc2 (v := lN 99) hx hb hown (hts (.constantLong RX9 95 (99)) (by decide +kernel)) dX9_labelChar_40 ?_
      refine zSi (W1 := [(m, .inr (6, [.int (nI th), .ref mt, .int (nI ts), .int (nI ps), .int pv, .ref mp, .int (nI V), .ref mg, .ref mc, .ref mh, .int (nI rm), .ref ms, .ref mu, .int (nI on), .ref of1, .ref ot1, .ref oi1, .long sd, .ref ml, .ref md, .ref mw])), zA G mt 60 tx]) (W2 := [(m, .inr (6, [.int (nI th), .ref mt, .int (nI ts), .int (nI ps), .int pv, .ref mp, .int (nI V), .ref mg, .ref mc, .ref mh, .int (nI rm), .ref ms, .ref mu, .int (nI on), .ref of1, .ref ot1, .ref oi1, .long sd, .ref ml, .ref md, .ref mw])), zA G mt 60 tx]) (wr := [(m, .inr (6, [.int (nI th), .ref mt, .int (nI ts), .int (nI ps), .int pv, .ref mp, .int (nI V), .ref mg, .ref mc, .ref mh, .int (nI rm), .ref ms, .ref mu, .int (nI on), .ref of1, .ref ot1, .ref oi1, .long sd, .ref ml, .ref md, .ref mw])), zA G mt 60 tx]) (rest := []) SM (c_X9_in_N l G (tx ps) 97 99 (by first | assumption | omega) (by first | assumption | omega) (by first | assumption | omega)) (va_cwS 3 hts gX9_labelChar_X9_in rfl rfl rfl (by decide +kernel) ⟨Nat.le_of_ble_eq_true rfl, Nat.le_of_ble_eq_true rfl⟩) hK hE hA hP hD hS hl.1 [] [0, 1] [0, 1] rfl rfl rfl (by decide) rfl rfl (Nat.le_of_ble_eq_true rfl) ⟨Nat.zero_le _, Nat.zero_le _⟩ dX9_labelChar_43 (fun H locs hP hD hS => ?_)
      refine zb_eq (tgt := 56) hx hb dX9_labelChar_46 (by decide) (fun c_4 => ?_) (fun c_4 => ?_)
      · skip
        refine lv_iload_n hx hb dX9_labelChar_56 rfl (lv_at hl 0 rfl) ?_
        refine lv_i2l (v := lN (tx ps)) hx hb dX9_labelChar_57 (nI_l (by omega)) ?_
        refine lv_ldc2 (v := lN 65) hx hb hown (hts (.constantLong RX9 97 (65)) (by decide +kernel)) dX9_labelChar_58 ?_
        refine lv_ldc2 (v := lN 67) hx hb hown (hts (.constantLong RX9 99 (67)) (by decide +kernel)) dX9_labelChar_61 ?_
        refine zSi (W1 := [(m, .inr (6, [.int (nI th), .ref mt, .int (nI ts), .int (nI ps), .int pv, .ref mp, .int (nI V), .ref mg, .ref mc, .ref mh, .int (nI rm), .ref ms, .ref mu, .int (nI on), .ref of1, .ref ot1, .ref oi1, .long sd, .ref ml, .ref md, .ref mw])), zA G mt 60 tx]) (W2 := [(m, .inr (6, [.int (nI th), .ref mt, .int (nI ts), .int (nI ps), .int pv, .ref mp, .int (nI V), .ref mg, .ref mc, .ref mh, .int (nI rm), .ref ms, .ref mu, .int (nI on), .ref of1, .ref ot1, .ref oi1, .long sd, .ref ml, .ref md, .ref mw])), zA G mt 60 tx]) (wr := [(m, .inr (6, [.int (nI th), .ref mt, .int (nI ts), .int (nI ps), .int pv, .ref mp, .int (nI V), .ref mg, .ref mc, .ref mh, .int (nI rm), .ref ms, .ref mu, .int (nI on), .ref of1, .ref ot1, .ref oi1, .long sd, .ref ml, .ref md, .ref mw])), zA G mt 60 tx]) (rest := []) SM (c_X9_in_N l G (tx ps) 65 67 (by first | assumption | omega) (by first | assumption | omega) (by first | assumption | omega)) (va_cwS 3 hts gX9_labelChar_X9_in rfl rfl rfl (by decide +kernel) ⟨Nat.le_of_ble_eq_true rfl, Nat.le_of_ble_eq_true rfl⟩) hK hE hA hP hD hS hl.1 [] [0, 1] [0, 1] rfl rfl rfl (by decide) rfl rfl (Nat.le_of_ble_eq_true rfl) ⟨Nat.zero_le _, Nat.zero_le _⟩ dX9_labelChar_64 (fun H locs hP hD hS => ?_)
        refine zb_eq (tgt := 77) hx hb dX9_labelChar_67 (by decide) (fun c_5 => ?_) (fun c_5 => ?_)
        · skip
          exfalso; omega
        · skip
          refine lv_iload_n hx hb dX9_labelChar_70 rfl (lv_at hl 0 rfl) ?_
          refine lv_bipush (v := nI 61) hx hb dX9_labelChar_71 (by decide) ?_
          refine zi_sub hx hb dX9_labelChar_73 (by omega) ?_
          refine lv_goto (tgt := 79) hx hb dX9_labelChar_74 (by decide) ?_
          refine lv_istore_n (lv' := [(2, .int (nI ((tx ps) - 61))), (1, .int (nI (tx ps))), (0, .ref m)]) hx hb dX9_labelChar_79 rfl hl (by decide) rfl (fun ls hl => ?_)
          refine lv_aload_n hx hb dX9_labelChar_80 rfl (lv_at hl 2 rfl) ?_
          refine lv_dup hx hb dX9_labelChar_81 rfl ?_
          refine va_get (D := G.1) (ci := 6) (v := .int (nI ps)) (C := RX9) (T := TX9) (N := 21) hx hb hts hinX9 hown hK hP 0 rfl rfl 3 (by decide) hlk90 (fun _ h9 => h9) rfl dX9_labelChar_82 ?_
          refine lv_iload_n hx hb dX9_labelChar_85 rfl (lv_at hl 0 rfl) ?_
          refine lv_bipush (v := (-9)) hx hb dX9_labelChar_86 (by decide) ?_
          refine zc_ne (a := ((tx ps) - 61 : Nat)) (b := (-9 : Int)) (tgt := 95) hx hb dX9_labelChar_88 (by decide) (zI (by omega)) (by decide) (fun c_6 => ?_) (fun c_6 => ?_)
          · skip
            refine lv_iconst (v := nI 1) hx hb dX9_labelChar_95 (by decide) ?_
            refine zi_addk (n := ps + 1) hx hb dX9_labelChar_96 (by omega) ?_
            refine va_put (D := G.1) (ci := 6) (v := .int (nI (ps + 1))) (ty := .int) (C := RX9) (T := TX9) (N := 21) hx hb hts hinX9 tyX9 tyX9_ok nmX9 hown hK hP hD hS 0 rfl rfl 3 (by decide) hlk90 (fun _ h9 => h9) rfl (by decide +kernel) rfl rfl (Nat.le_of_ble_eq_true rfl) dX9_labelChar_97 (fun H locs hP hD hS => ?_)
            have hP : va_P G.1 vwCl [(m, .inr (6, [.int (nI th), .ref mt, .int (nI ts), .int (nI (ps + 1)), .int pv, .ref mp, .int (nI V), .ref mg, .ref mc, .ref mh, .int (nI rm), .ref ms, .ref mu, .int (nI on), .ref of1, .ref ot1, .ref oi1, .long sd, .ref ml, .ref md, .ref mw])), zA G mt 60 tx] H := hP
            have hD : va_D AM [(m, .inr (6, [.int (nI th), .ref mt, .int (nI ts), .int (nI (ps + 1)), .int pv, .ref mp, .int (nI V), .ref mg, .ref mc, .ref mh, .int (nI rm), .ref ms, .ref mu, .int (nI on), .ref of1, .ref ot1, .ref oi1, .long sd, .ref ml, .ref md, .ref mw])), zA G mt 60 tx] := hD
            refine lv_iload_n hx hb dX9_labelChar_100 rfl (lv_at hl 0 rfl) ?_
            exact kret _ _ _ _ _ _ (congrArg nI (by omega)) rfl hP hD hS dX9_labelChar_101
          · skip
            exfalso; omega
      · skip
        refine lv_iload_n hx hb dX9_labelChar_49 rfl (lv_at hl 0 rfl) ?_
        refine lv_bipush (v := nI 96) hx hb dX9_labelChar_50 (by decide) ?_
        refine zi_sub hx hb dX9_labelChar_52 (by omega) ?_
        refine lv_goto (tgt := 79) hx hb dX9_labelChar_53 (by decide) ?_
        refine lv_istore_n (lv' := [(2, .int (nI ((tx ps) - 96))), (1, .int (nI (tx ps))), (0, .ref m)]) hx hb dX9_labelChar_79 rfl hl (by decide) rfl (fun ls hl => ?_)
        refine lv_aload_n hx hb dX9_labelChar_80 rfl (lv_at hl 2 rfl) ?_
        refine lv_dup hx hb dX9_labelChar_81 rfl ?_
        refine va_get (D := G.1) (ci := 6) (v := .int (nI ps)) (C := RX9) (T := TX9) (N := 21) hx hb hts hinX9 hown hK hP 0 rfl rfl 3 (by decide) hlk90 (fun _ h9 => h9) rfl dX9_labelChar_82 ?_
        refine lv_iload_n hx hb dX9_labelChar_85 rfl (lv_at hl 0 rfl) ?_
        refine lv_bipush (v := (-9)) hx hb dX9_labelChar_86 (by decide) ?_
        refine zc_ne (a := ((tx ps) - 96 : Nat)) (b := (-9 : Int)) (tgt := 95) hx hb dX9_labelChar_88 (by decide) (zI (by omega)) (by decide) (fun c_7 => ?_) (fun c_7 => ?_)
        · skip
          refine lv_iconst (v := nI 1) hx hb dX9_labelChar_95 (by decide) ?_
          refine zi_addk (n := ps + 1) hx hb dX9_labelChar_96 (by omega) ?_
          refine va_put (D := G.1) (ci := 6) (v := .int (nI (ps + 1))) (ty := .int) (C := RX9) (T := TX9) (N := 21) hx hb hts hinX9 tyX9 tyX9_ok nmX9 hown hK hP hD hS 0 rfl rfl 3 (by decide) hlk90 (fun _ h9 => h9) rfl (by decide +kernel) rfl rfl (Nat.le_of_ble_eq_true rfl) dX9_labelChar_97 (fun H locs hP hD hS => ?_)
          have hP : va_P G.1 vwCl [(m, .inr (6, [.int (nI th), .ref mt, .int (nI ts), .int (nI (ps + 1)), .int pv, .ref mp, .int (nI V), .ref mg, .ref mc, .ref mh, .int (nI rm), .ref ms, .ref mu, .int (nI on), .ref of1, .ref ot1, .ref oi1, .long sd, .ref ml, .ref md, .ref mw])), zA G mt 60 tx] H := hP
          have hD : va_D AM [(m, .inr (6, [.int (nI th), .ref mt, .int (nI ts), .int (nI (ps + 1)), .int pv, .ref mp, .int (nI V), .ref mg, .ref mc, .ref mh, .int (nI rm), .ref ms, .ref mu, .int (nI on), .ref of1, .ref ot1, .ref oi1, .long sd, .ref ml, .ref md, .ref mw])), zA G mt 60 tx] := hD
          refine lv_iload_n hx hb dX9_labelChar_100 rfl (lv_at hl 0 rfl) ?_
          exact kret _ _ _ _ _ _ (congrArg nI (by omega)) rfl hP hD hS dX9_labelChar_101
        · skip
          exfalso; omega
    · skip
      refine lv_iconst (v := nI 0) hx hb dX9_labelChar_31 (by decide) ?_
      refine lv_goto (tgt := 79) hx hb dX9_labelChar_32 (by decide) ?_
      refine lv_istore_n (lv' := [(2, .int (nI 0)), (1, .int (nI (tx ps))), (0, .ref m)]) hx hb dX9_labelChar_79 rfl hl (by decide) rfl (fun ls hl => ?_)
      refine lv_aload_n hx hb dX9_labelChar_80 rfl (lv_at hl 2 rfl) ?_
      refine lv_dup hx hb dX9_labelChar_81 rfl ?_
      refine va_get (D := G.1) (ci := 6) (v := .int (nI ps)) (C := RX9) (T := TX9) (N := 21) hx hb hts hinX9 hown hK hP 0 rfl rfl 3 (by decide) hlk90 (fun _ h9 => h9) rfl dX9_labelChar_82 ?_
      refine lv_iload_n hx hb dX9_labelChar_85 rfl (lv_at hl 0 rfl) ?_
      refine lv_bipush (v := (-9)) hx hb dX9_labelChar_86 (by decide) ?_
      refine zky_ne_t (tgt := 95) hx hb dX9_labelChar_88 (by decide) (by decide) ?_
      refine lv_iconst (v := nI 1) hx hb dX9_labelChar_95 (by decide) ?_
      refine zi_addk (n := ps + 1) hx hb dX9_labelChar_96 (by omega) ?_
      refine va_put (D := G.1) (ci := 6) (v := .int (nI (ps + 1))) (ty := .int) (C := RX9) (T := TX9) (N := 21) hx hb hts hinX9 tyX9 tyX9_ok nmX9 hown hK hP hD hS 0 rfl rfl 3 (by decide) hlk90 (fun _ h9 => h9) rfl (by decide +kernel) rfl rfl (Nat.le_of_ble_eq_true rfl) dX9_labelChar_97 (fun H locs hP hD hS => ?_)
      have hP : va_P G.1 vwCl [(m, .inr (6, [.int (nI th), .ref mt, .int (nI ts), .int (nI (ps + 1)), .int pv, .ref mp, .int (nI V), .ref mg, .ref mc, .ref mh, .int (nI rm), .ref ms, .ref mu, .int (nI on), .ref of1, .ref ot1, .ref oi1, .long sd, .ref ml, .ref md, .ref mw])), zA G mt 60 tx] H := hP
      have hD : va_D AM [(m, .inr (6, [.int (nI th), .ref mt, .int (nI ts), .int (nI (ps + 1)), .int pv, .ref mp, .int (nI V), .ref mg, .ref mc, .ref mh, .int (nI rm), .ref ms, .ref mu, .int (nI on), .ref of1, .ref ot1, .ref oi1, .long sd, .ref ml, .ref md, .ref mw])), zA G mt 60 tx] := hD
      refine lv_iload_n hx hb dX9_labelChar_100 rfl (lv_at hl 0 rfl) ?_
      exact kret _ _ _ _ _ _ (congrArg nI (by omega)) rfl hP hD hS dX9_labelChar_101
set_option maxHeartbeats 400000 in
set_option maxRecDepth 100000 in
theorem c_X9_labelChar_bad (l : Launch) (G : zG) (m mt mp mg mc mh ms mu of1 ot1 oi1 ml md mw th ts ps V rm on : Nat) (pv : Int32) (sd : Int64) (tx : Nat → Nat) (htx : ∀ i, tx i < 256) (hts60 : ts ≤ 60) (hps : ps ≤ 60) (hd : ¬ (ps < ts ∧ zLo (tx ps) < 7)) : MI l yX9_labelChar wsX9_labelChar ({ frames := 1, cells := 0, slots := 0, locals := 25 }) G [.ref m] [(m, .inr (6, [.int (nI th), .ref mt, .int (nI ts), .int (nI ps), .int pv, .ref mp, .int (nI V), .ref mg, .ref mc, .ref mh, .int (nI rm), .ref ms, .ref mu, .int (nI on), .ref of1, .ref ot1, .ref oi1, .long sd, .ref ml, .ref md, .ref mw])), zA G mt 60 tx] (-9) [(m, .inr (6, [.int (nI th), .ref mt, .int (nI ts), .int (nI ps), .int pv, .ref mp, .int (nI V), .ref mg, .ref mc, .ref mh, .int (nI rm), .ref ms, .ref mu, .int (nI on), .ref of1, .ref ot1, .ref oi1, .long sd, .ref ml, .ref md, .ref mw])), zA G mt 60 tx] := by
  refine MI.enter (cc := cX9_labelChar) (maxL := 3) (by decide) rfl (Nat.le_of_ble_eq_true rfl) rfl ?_
  intro pM eM sM mM bM tM cM QM AM ls hat kret
  obtain ⟨SM, hA, hK, hE, hP, hD, hS, hl⟩ := hat
  have hx := SM.1
  have hb := SM.2.1
  have hown : sM.vm.findClass RX9 = some mM.cls := SM.2.2.2.1
  have hts := SM.2.2.2.2
  have hinX9 : ∀ w ∈ u_ws RX9 TX9 21, w ∈ wsX9_labelChar := by decide +kernel
  have hlk90 : (Cond.fieldLink RX9 90 "DyckReachabilityModel" "pos" "I").before _ sM = true := hts _ (by decide +kernel)
  have hlk87 : (Cond.fieldLink RX9 87 "DyckReachabilityModel" "textSize" "I").before _ sM = true := hts _ (by decide +kernel)
  have hlk7 : (Cond.fieldLink RX9 7 "DyckReachabilityModel" "text" "[I").before _ sM = true := hts _ (by decide +kernel)
  have hlc := zLo_c2 (tx ps) (htx ps)
  have hl : lv_has ls 3 [(0, .ref m)] := hl
  refine lv_aload_n hx hb dX9_labelChar_0 rfl (lv_at hl 0 rfl) ?_
  refine va_get (D := G.1) (ci := 6) (v := .int (nI ps)) (C := RX9) (T := TX9) (N := 21) hx hb hts hinX9 hown hK hP 0 rfl rfl 3 (by decide) hlk90 (fun _ h9 => h9) rfl dX9_labelChar_1 ?_
  refine lv_aload_n hx hb dX9_labelChar_4 rfl (lv_at hl 0 rfl) ?_
  refine va_get (D := G.1) (ci := 6) (v := .int (nI ts)) (C := RX9) (T := TX9) (N := 21) hx hb hts hinX9 hown hK hP 0 rfl rfl 2 (by decide) hlk87 (fun _ h9 => h9) rfl dX9_labelChar_5 ?_
  refine zn_ge (tgt := 23) hx hb dX9_labelChar_8 (by decide) (by omega) (by omega) (fun c_1 => ?_) (fun c_1 => ?_)
  · skip
    refine lv_iconst (v := nI 0) hx hb dX9_labelChar_23 (by decide) ?_
    refine lv_istore_n (lv' := [(1, .int (nI 0)), (0, .ref m)]) hx hb dX9_labelChar_24 rfl hl (by decide) rfl (fun ls hl => ?_)
    refine lv_iload_n hx hb dX9_labelChar_25 rfl (lv_at hl 0 rfl) ?_
    refine lv_bipush (v := nI 46) hx hb dX9_labelChar_26 (by decide) ?_
    refine zkk_ne_t (tgt := 35) hx hb dX9_labelChar_28 (by decide) (by decide) ?_
    refine lv_iload_n hx hb dX9_labelChar_35 rfl (lv_at hl 0 rfl) ?_
    refine lv_i2l (v := lN 0) hx hb dX9_labelChar_36 (nI_l (by omega)) ?_
    refine lv_ldc2 (v := lN 97) hx hb hown (hts (.constantLong RX9 93 (97)) (by decide +kernel)) dX9_labelChar_37 ?_
    refine lv_ldc2 (v := lN 99) hx hb hown (hts (.constantLong RX9 95 (99)) (by decide +kernel)) dX9_labelChar_40 ?_
    refine zSi (W1 := [(m, .inr (6, [.int (nI th), .ref mt, .int (nI ts), .int (nI ps), .int pv, .ref mp, .int (nI V), .ref mg, .ref mc, .ref mh, .int (nI rm), .ref ms, .ref mu, .int (nI on), .ref of1, .ref ot1, .ref oi1, .long sd, .ref ml, .ref md, .ref mw])), zA G mt 60 tx]) (W2 := [(m, .inr (6, [.int (nI th), .ref mt, .int (nI ts), .int (nI ps), .int pv, .ref mp, .int (nI V), .ref mg, .ref mc, .ref mh, .int (nI rm), .ref ms, .ref mu, .int (nI on), .ref of1, .ref ot1, .ref oi1, .long sd, .ref ml, .ref md, .ref mw])), zA G mt 60 tx]) (wr := [(m, .inr (6, [.int (nI th), .ref mt, .int (nI ts), .int (nI ps), .int pv, .ref mp, .int (nI V), .ref mg, .ref mc, .ref mh, .int (nI rm), .ref ms, .ref mu, .int (nI on), .ref of1, .ref ot1, .ref oi1, .long sd, .ref ml, .ref md, .ref mw])), zA G mt 60 tx]) (rest := []) SM (c_X9_in_N l G 0 97 99 (by first | assumption | omega) (by first | assumption | omega) (by first | assumption | omega)) (va_cwS 3 hts gX9_labelChar_X9_in rfl rfl rfl (by decide +kernel) ⟨Nat.le_of_ble_eq_true rfl, Nat.le_of_ble_eq_true rfl⟩) hK hE hA hP hD hS hl.1 [] [0, 1] [0, 1] rfl rfl rfl (by decide) rfl rfl (Nat.le_of_ble_eq_true rfl) ⟨Nat.zero_le _, Nat.zero_le _⟩ dX9_labelChar_43 (fun H locs hP hD hS => ?_)
    refine zb_eq (tgt := 56) hx hb dX9_labelChar_46 (by decide) (fun c_3 => ?_) (fun c_3 => ?_)
    · skip
      refine lv_iload_n hx hb dX9_labelChar_56 rfl (lv_at hl 0 rfl) ?_
      refine lv_i2l (v := lN 0) hx hb dX9_labelChar_57 (nI_l (by omega)) ?_
      refine lv_ldc2 (v := lN 65) hx hb hown (hts (.constantLong RX9 97 (65)) (by decide +kernel)) dX9_labelChar_58 ?_
      refine lv_ldc2 (v := lN 67) hx hb hown (hts (.constantLong RX9 99 (67)) (by decide +kernel)) dX9_labelChar_61 ?_
      refine zSi (W1 := [(m, .inr (6, [.int (nI th), .ref mt, .int (nI ts), .int (nI ps), .int pv, .ref mp, .int (nI V), .ref mg, .ref mc, .ref mh, .int (nI rm), .ref ms, .ref mu, .int (nI on), .ref of1, .ref ot1, .ref oi1, .long sd, .ref ml, .ref md, .ref mw])), zA G mt 60 tx]) (W2 := [(m, .inr (6, [.int (nI th), .ref mt, .int (nI ts), .int (nI ps), .int pv, .ref mp, .int (nI V), .ref mg, .ref mc, .ref mh, .int (nI rm), .ref ms, .ref mu, .int (nI on), .ref of1, .ref ot1, .ref oi1, .long sd, .ref ml, .ref md, .ref mw])), zA G mt 60 tx]) (wr := [(m, .inr (6, [.int (nI th), .ref mt, .int (nI ts), .int (nI ps), .int pv, .ref mp, .int (nI V), .ref mg, .ref mc, .ref mh, .int (nI rm), .ref ms, .ref mu, .int (nI on), .ref of1, .ref ot1, .ref oi1, .long sd, .ref ml, .ref md, .ref mw])), zA G mt 60 tx]) (rest := []) SM (c_X9_in_N l G 0 65 67 (by first | assumption | omega) (by first | assumption | omega) (by first | assumption | omega)) (va_cwS 3 hts gX9_labelChar_X9_in rfl rfl rfl (by decide +kernel) ⟨Nat.le_of_ble_eq_true rfl, Nat.le_of_ble_eq_true rfl⟩) hK hE hA hP hD hS hl.1 [] [0, 1] [0, 1] rfl rfl rfl (by decide) rfl rfl (Nat.le_of_ble_eq_true rfl) ⟨Nat.zero_le _, Nat.zero_le _⟩ dX9_labelChar_64 (fun H locs hP hD hS => ?_)
      refine zb_eq (tgt := 77) hx hb dX9_labelChar_67 (by decide) (fun c_4 => ?_) (fun c_4 => ?_)
      · skip
        refine lv_bipush (v := (-9)) hx hb dX9_labelChar_77 (by decide) ?_
        refine lv_istore_n (lv' := [(2, .int (-9)), (1, .int (nI 0)), (0, .ref m)]) hx hb dX9_labelChar_79 rfl hl (by decide) rfl (fun ls hl => ?_)
        refine lv_aload_n hx hb dX9_labelChar_80 rfl (lv_at hl 2 rfl) ?_
        refine lv_dup hx hb dX9_labelChar_81 rfl ?_
        refine va_get (D := G.1) (ci := 6) (v := .int (nI ps)) (C := RX9) (T := TX9) (N := 21) hx hb hts hinX9 hown hK hP 0 rfl rfl 3 (by decide) hlk90 (fun _ h9 => h9) rfl dX9_labelChar_82 ?_
        refine lv_iload_n hx hb dX9_labelChar_85 rfl (lv_at hl 0 rfl) ?_
        refine lv_bipush (v := (-9)) hx hb dX9_labelChar_86 (by decide) ?_
        refine zky_ne_f hx hb dX9_labelChar_88 (by decide) ?_
        refine lv_iconst (v := nI 0) hx hb dX9_labelChar_91 (by decide) ?_
        refine lv_goto (tgt := 96) hx hb dX9_labelChar_92 (by decide) ?_
        refine zi_addk (n := ps) hx hb dX9_labelChar_96 (by omega) ?_
        refine va_put (D := G.1) (ci := 6) (v := .int (nI ps)) (ty := .int) (C := RX9) (T := TX9) (N := 21) hx hb hts hinX9 tyX9 tyX9_ok nmX9 hown hK hP hD hS 0 rfl rfl 3 (by decide) hlk90 (fun _ h9 => h9) rfl (by decide +kernel) rfl rfl (Nat.le_of_ble_eq_true rfl) dX9_labelChar_97 (fun H locs hP hD hS => ?_)
        have hP : va_P G.1 vwCl [(m, .inr (6, [.int (nI th), .ref mt, .int (nI ts), .int (nI ps), .int pv, .ref mp, .int (nI V), .ref mg, .ref mc, .ref mh, .int (nI rm), .ref ms, .ref mu, .int (nI on), .ref of1, .ref ot1, .ref oi1, .long sd, .ref ml, .ref md, .ref mw])), zA G mt 60 tx] H := hP
        have hD : va_D AM [(m, .inr (6, [.int (nI th), .ref mt, .int (nI ts), .int (nI ps), .int pv, .ref mp, .int (nI V), .ref mg, .ref mc, .ref mh, .int (nI rm), .ref ms, .ref mu, .int (nI on), .ref of1, .ref ot1, .ref oi1, .long sd, .ref ml, .ref md, .ref mw])), zA G mt 60 tx] := hD
        refine lv_iload_n hx hb dX9_labelChar_100 rfl (lv_at hl 0 rfl) ?_
        exact kret _ _ _ _ _ _ rfl rfl hP hD hS dX9_labelChar_101
      · skip
        exfalso; omega
    · skip
      exfalso; omega
  · skip
    refine lv_aload_n hx hb dX9_labelChar_11 rfl (lv_at hl 0 rfl) ?_
    refine va_get (D := G.1) (ci := 6) (v := .ref mt) (C := RX9) (T := TX9) (N := 21) hx hb hts hinX9 hown hK hP 0 rfl rfl 1 (by decide) hlk7 (fun _ h9 => h9) rfl dX9_labelChar_12 ?_
    refine lv_aload_n hx hb dX9_labelChar_15 rfl (lv_at hl 0 rfl) ?_
    refine va_get (D := G.1) (ci := 6) (v := .int (nI ps)) (C := RX9) (T := TX9) (N := 21) hx hb hts hinX9 hown hK hP 0 rfl rfl 3 (by decide) hlk90 (fun _ h9 => h9) rfl dX9_labelChar_16 ?_
    refine zi_ald hx hb hK hP 1 rfl (by omega) (by omega) dX9_labelChar_19 ?_
    have hb_6 := htx ps
    refine lv_goto (tgt := 24) hx hb dX9_labelChar_20 (by decide) ?_
    refine lv_istore_n (lv' := [(1, .int (nI (tx ps))), (0, .ref m)]) hx hb dX9_labelChar_24 rfl hl (by decide) rfl (fun ls hl => ?_)
    refine lv_iload_n hx hb dX9_labelChar_25 rfl (lv_at hl 0 rfl) ?_
    refine lv_bipush (v := nI 46) hx hb dX9_labelChar_26 (by decide) ?_
    refine zn_ne (tgt := 35) hx hb dX9_labelChar_28 (by decide) (by omega) (by omega) (fun c_7 => ?_) (fun c_7 => ?_)
    · skip
      refine lv_iload_n hx hb dX9_labelChar_35 rfl (lv_at hl 0 rfl) ?_
      refine lv_i2l (v := lN (tx ps)) hx hb dX9_labelChar_36 (nI_l (by omega)) ?_
      refine lv_ldc2 (v := lN 97) hx hb hown (hts (.constantLong RX9 93 (97)) (by decide +kernel)) dX9_labelChar_37 ?_
      refine lv_ldc2 (v := lN 99) hx hb hown (hts (.constantLong RX9 95 (99)) (by decide +kernel)) dX9_labelChar_40 ?_
      refine zSi (W1 := [(m, .inr (6, [.int (nI th), .ref mt, .int (nI ts), .int (nI ps), .int pv, .ref mp, .int (nI V), .ref mg, .ref mc, .ref mh, .int (nI rm), .ref ms, .ref mu, .int (nI on), .ref of1, .ref ot1, .ref oi1, .long sd, .ref ml, .ref md, .ref mw])), zA G mt 60 tx]) (W2 := [(m, .inr (6, [.int (nI th), .ref mt, .int (nI ts), .int (nI ps), .int pv, .ref mp, .int (nI V), .ref mg, .ref mc, .ref mh, .int (nI rm), .ref ms, .ref mu, .int (nI on), .ref of1, .ref ot1, .ref oi1, .long sd, .ref ml, .ref md, .ref mw])), zA G mt 60 tx]) (wr := [(m, .inr (6, [.int (nI th), .ref mt, .int (nI ts), .int (nI ps), .int pv, .ref mp, .int (nI V), .ref mg, .ref mc, .ref mh, .int (nI rm), .ref ms, .ref mu, .int (nI on), .ref of1, .ref ot1, .ref oi1, .long sd, .ref ml, .ref md, .ref mw])), zA G mt 60 tx]) (rest := []) SM (c_X9_in_N l G (tx ps) 97 99 (by first | assumption | omega) (by first | assumption | omega) (by first | assumption | omega)) (va_cwS 3 hts gX9_labelChar_X9_in rfl rfl rfl (by decide +kernel) ⟨Nat.le_of_ble_eq_true rfl, Nat.le_of_ble_eq_true rfl⟩) hK hE hA hP hD hS hl.1 [] [0, 1] [0, 1] rfl rfl rfl (by decide) rfl rfl (Nat.le_of_ble_eq_true rfl) ⟨Nat.zero_le _, Nat.zero_le _⟩ dX9_labelChar_43 (fun H locs hP hD hS => ?_)
      refine zb_eq (tgt := 56) hx hb dX9_labelChar_46 (by decide) (fun c_8 => ?_) (fun c_8 => ?_)
      · skip
        refine lv_iload_n hx hb dX9_labelChar_56 rfl (lv_at hl 0 rfl) ?_
        refine lv_i2l (v := lN (tx ps)) hx hb dX9_labelChar_57 (nI_l (by omega)) ?_
        refine lv_ldc2 (v := lN 65) hx hb hown (hts (.constantLong RX9 97 (65)) (by decide +kernel)) dX9_labelChar_58 ?_
        refine lv_ldc2 (v := lN 67) hx hb hown (hts (.constantLong RX9 99 (67)) (by decide +kernel)) dX9_labelChar_61 ?_
        refine zSi (W1 := [(m, .inr (6, [.int (nI th), .ref mt, .int (nI ts), .int (nI ps), .int pv, .ref mp, .int (nI V), .ref mg, .ref mc, .ref mh, .int (nI rm), .ref ms, .ref mu, .int (nI on), .ref of1, .ref ot1, .ref oi1, .long sd, .ref ml, .ref md, .ref mw])), zA G mt 60 tx]) (W2 := [(m, .inr (6, [.int (nI th), .ref mt, .int (nI ts), .int (nI ps), .int pv, .ref mp, .int (nI V), .ref mg, .ref mc, .ref mh, .int (nI rm), .ref ms, .ref mu, .int (nI on), .ref of1, .ref ot1, .ref oi1, .long sd, .ref ml, .ref md, .ref mw])), zA G mt 60 tx]) (wr := [(m, .inr (6, [.int (nI th), .ref mt, .int (nI ts), .int (nI ps), .int pv, .ref mp, .int (nI V), .ref mg, .ref mc, .ref mh, .int (nI rm), .ref ms, .ref mu, .int (nI on), .ref of1, .ref ot1, .ref oi1, .long sd, .ref ml, .ref md, .ref mw])), zA G mt 60 tx]) (rest := []) SM (c_X9_in_N l G (tx ps) 65 67 (by first | assumption | omega) (by first | assumption | omega) (by first | assumption | omega)) (va_cwS 3 hts gX9_labelChar_X9_in rfl rfl rfl (by decide +kernel) ⟨Nat.le_of_ble_eq_true rfl, Nat.le_of_ble_eq_true rfl⟩) hK hE hA hP hD hS hl.1 [] [0, 1] [0, 1] rfl rfl rfl (by decide) rfl rfl (Nat.le_of_ble_eq_true rfl) ⟨Nat.zero_le _, Nat.zero_le _⟩ dX9_labelChar_64 (fun H locs hP hD hS => ?_)
        refine zb_eq (tgt := 77) hx hb dX9_labelChar_67 (by decide) (fun c_9 => ?_) (fun c_9 => ?_)
        · skip
          refine lv_bipush (v := (-9)) hx hb dX9_labelChar_77 (by decide) ?_
          refine lv_istore_n (lv' := [(2, .int (-9)), (1, .int (nI (tx ps))), (0, .ref m)]) hx hb dX9_labelChar_79 rfl hl (by decide) rfl (fun ls hl => ?_)
          refine lv_aload_n hx hb dX9_labelChar_80 rfl (lv_at hl 2 rfl) ?_
          refine lv_dup hx hb dX9_labelChar_81 rfl ?_
          refine va_get (D := G.1) (ci := 6) (v := .int (nI ps)) (C := RX9) (T := TX9) (N := 21) hx hb hts hinX9 hown hK hP 0 rfl rfl 3 (by decide) hlk90 (fun _ h9 => h9) rfl dX9_labelChar_82 ?_
          refine lv_iload_n hx hb dX9_labelChar_85 rfl (lv_at hl 0 rfl) ?_
          refine lv_bipush (v := (-9)) hx hb dX9_labelChar_86 (by decide) ?_
          refine zky_ne_f hx hb dX9_labelChar_88 (by decide) ?_
          refine lv_iconst (v := nI 0) hx hb dX9_labelChar_91 (by decide) ?_
          refine lv_goto (tgt := 96) hx hb dX9_labelChar_92 (by decide) ?_
          refine zi_addk (n := ps) hx hb dX9_labelChar_96 (by omega) ?_
          refine va_put (D := G.1) (ci := 6) (v := .int (nI ps)) (ty := .int) (C := RX9) (T := TX9) (N := 21) hx hb hts hinX9 tyX9 tyX9_ok nmX9 hown hK hP hD hS 0 rfl rfl 3 (by decide) hlk90 (fun _ h9 => h9) rfl (by decide +kernel) rfl rfl (Nat.le_of_ble_eq_true rfl) dX9_labelChar_97 (fun H locs hP hD hS => ?_)
          have hP : va_P G.1 vwCl [(m, .inr (6, [.int (nI th), .ref mt, .int (nI ts), .int (nI ps), .int pv, .ref mp, .int (nI V), .ref mg, .ref mc, .ref mh, .int (nI rm), .ref ms, .ref mu, .int (nI on), .ref of1, .ref ot1, .ref oi1, .long sd, .ref ml, .ref md, .ref mw])), zA G mt 60 tx] H := hP
          have hD : va_D AM [(m, .inr (6, [.int (nI th), .ref mt, .int (nI ts), .int (nI ps), .int pv, .ref mp, .int (nI V), .ref mg, .ref mc, .ref mh, .int (nI rm), .ref ms, .ref mu, .int (nI on), .ref of1, .ref ot1, .ref oi1, .long sd, .ref ml, .ref md, .ref mw])), zA G mt 60 tx] := hD
          refine lv_iload_n hx hb dX9_labelChar_100 rfl (lv_at hl 0 rfl) ?_
          exact kret _ _ _ _ _ _ rfl rfl hP hD hS dX9_labelChar_101
        · skip
          exfalso; omega
      · skip
        exfalso; omega
    · skip
      exfalso; omega
set_option maxHeartbeats 400000 in
set_option maxRecDepth 100000 in
theorem c_X9_vertexCount (l : Launch) (G : zG) (m mt mp mg mc mh ms mu of1 ot1 oi1 ml md mw th ts ps V rm on : Nat) (pv : Int32) (sd : Int64)  : MI l yX9_vertexCount wsX9_vertexCount ({ frames := 0, cells := 0, slots := 0, locals := 0 }) G [.ref m] [(m, .inr (6, [.int (nI th), .ref mt, .int (nI ts), .int (nI ps), .int pv, .ref mp, .int (nI V), .ref mg, .ref mc, .ref mh, .int (nI rm), .ref ms, .ref mu, .int (nI on), .ref of1, .ref ot1, .ref oi1, .long sd, .ref ml, .ref md, .ref mw]))] (nI V) [(m, .inr (6, [.int (nI 0), .ref mt, .int (nI ts), .int (nI ps), .int pv, .ref mp, .int (nI V), .ref mg, .ref mc, .ref mh, .int (nI rm), .ref ms, .ref mu, .int (nI on), .ref of1, .ref ot1, .ref oi1, .long sd, .ref ml, .ref md, .ref mw]))] := by
  refine MI.enter (cc := cX9_vertexCount) (maxL := 1) (by decide) rfl (Nat.le_of_ble_eq_true rfl) rfl ?_
  intro pM eM sM mM bM tM cM QM AM ls hat kret
  obtain ⟨SM, hA, hK, hE, hP, hD, hS, hl⟩ := hat
  have hx := SM.1
  have hb := SM.2.1
  have hown : sM.vm.findClass RX9 = some mM.cls := SM.2.2.2.1
  have hts := SM.2.2.2.2
  have hinX9 : ∀ w ∈ u_ws RX9 TX9 21, w ∈ wsX9_vertexCount := by decide +kernel
  have hlk54 : (Cond.fieldLink RX9 54 "DyckReachabilityModel" "thrown" "I").before _ sM = true := hts _ (by decide +kernel)
  have hlk16 : (Cond.fieldLink RX9 16 "DyckReachabilityModel" "vertices" "I").before _ sM = true := hts _ (by decide +kernel)
  have hl : lv_has ls 1 [(0, .ref m)] := hl
  refine lv_aload_n hx hb dX9_vertexCount_0 rfl (lv_at hl 0 rfl) ?_
  refine lv_iconst (v := nI 0) hx hb dX9_vertexCount_1 (by decide) ?_
  refine va_put (D := G.1) (ci := 6) (v := .int (nI 0)) (ty := .int) (C := RX9) (T := TX9) (N := 21) hx hb hts hinX9 tyX9 tyX9_ok nmX9 hown hK hP hD hS 0 rfl rfl 0 (by decide) hlk54 (fun _ h9 => h9) rfl (by decide +kernel) rfl rfl (Nat.le_of_ble_eq_true rfl) dX9_vertexCount_2 (fun H locs hP hD hS => ?_)
  have hP : va_P G.1 vwCl [(m, .inr (6, [.int (nI 0), .ref mt, .int (nI ts), .int (nI ps), .int pv, .ref mp, .int (nI V), .ref mg, .ref mc, .ref mh, .int (nI rm), .ref ms, .ref mu, .int (nI on), .ref of1, .ref ot1, .ref oi1, .long sd, .ref ml, .ref md, .ref mw]))] H := hP
  have hD : va_D AM [(m, .inr (6, [.int (nI 0), .ref mt, .int (nI ts), .int (nI ps), .int pv, .ref mp, .int (nI V), .ref mg, .ref mc, .ref mh, .int (nI rm), .ref ms, .ref mu, .int (nI on), .ref of1, .ref ot1, .ref oi1, .long sd, .ref ml, .ref md, .ref mw]))] := hD
  refine lv_aload_n hx hb dX9_vertexCount_5 rfl (lv_at hl 0 rfl) ?_
  refine va_get (D := G.1) (ci := 6) (v := .int (nI V)) (C := RX9) (T := TX9) (N := 21) hx hb hts hinX9 hown hK hP 0 rfl rfl 6 (by decide) hlk16 (fun _ h9 => h9) rfl dX9_vertexCount_6 ?_
  exact kret _ _ _ _ _ _ rfl rfl hP hD hS dX9_vertexCount_9
set_option maxHeartbeats 400000 in
set_option maxRecDepth 100000 in
theorem c_X9_edgeCount (l : Launch) (G : zG) (m mt mp mg mc mh ms mu of1 ot1 oi1 ml md mw th ts ps V rm on : Nat) (pv : Int32) (sd : Int64) (g : Nat → Nat)  : MI l yX9_edgeCount wsX9_edgeCount ({ frames := 0, cells := 0, slots := 0, locals := 0 }) G [.ref m] [(m, .inr (6, [.int (nI th), .ref mt, .int (nI ts), .int (nI ps), .int pv, .ref mp, .int (nI V), .ref mg, .ref mc, .ref mh, .int (nI rm), .ref ms, .ref mu, .int (nI on), .ref of1, .ref ot1, .ref oi1, .long sd, .ref ml, .ref md, .ref mw])), zA G mg 49 g] (nI (g 0)) [(m, .inr (6, [.int (nI 0), .ref mt, .int (nI ts), .int (nI ps), .int pv, .ref mp, .int (nI V), .ref mg, .ref mc, .ref mh, .int (nI rm), .ref ms, .ref mu, .int (nI on), .ref of1, .ref ot1, .ref oi1, .long sd, .ref ml, .ref md, .ref mw])), zA G mg 49 g] := by
  refine MI.enter (cc := cX9_edgeCount) (maxL := 1) (by decide) rfl (Nat.le_of_ble_eq_true rfl) rfl ?_
  intro pM eM sM mM bM tM cM QM AM ls hat kret
  obtain ⟨SM, hA, hK, hE, hP, hD, hS, hl⟩ := hat
  have hx := SM.1
  have hb := SM.2.1
  have hown : sM.vm.findClass RX9 = some mM.cls := SM.2.2.2.1
  have hts := SM.2.2.2.2
  have hinX9 : ∀ w ∈ u_ws RX9 TX9 21, w ∈ wsX9_edgeCount := by decide +kernel
  have hlk54 : (Cond.fieldLink RX9 54 "DyckReachabilityModel" "thrown" "I").before _ sM = true := hts _ (by decide +kernel)
  have hlk20 : (Cond.fieldLink RX9 20 "DyckReachabilityModel" "graph" "[I").before _ sM = true := hts _ (by decide +kernel)
  have hl : lv_has ls 1 [(0, .ref m)] := hl
  refine lv_aload_n hx hb dX9_edgeCount_0 rfl (lv_at hl 0 rfl) ?_
  refine lv_iconst (v := nI 0) hx hb dX9_edgeCount_1 (by decide) ?_
  refine va_put (D := G.1) (ci := 6) (v := .int (nI 0)) (ty := .int) (C := RX9) (T := TX9) (N := 21) hx hb hts hinX9 tyX9 tyX9_ok nmX9 hown hK hP hD hS 0 rfl rfl 0 (by decide) hlk54 (fun _ h9 => h9) rfl (by decide +kernel) rfl rfl (Nat.le_of_ble_eq_true rfl) dX9_edgeCount_2 (fun H locs hP hD hS => ?_)
  have hP : va_P G.1 vwCl [(m, .inr (6, [.int (nI 0), .ref mt, .int (nI ts), .int (nI ps), .int pv, .ref mp, .int (nI V), .ref mg, .ref mc, .ref mh, .int (nI rm), .ref ms, .ref mu, .int (nI on), .ref of1, .ref ot1, .ref oi1, .long sd, .ref ml, .ref md, .ref mw])), zA G mg 49 g] H := hP
  have hD : va_D AM [(m, .inr (6, [.int (nI 0), .ref mt, .int (nI ts), .int (nI ps), .int pv, .ref mp, .int (nI V), .ref mg, .ref mc, .ref mh, .int (nI rm), .ref ms, .ref mu, .int (nI on), .ref of1, .ref ot1, .ref oi1, .long sd, .ref ml, .ref md, .ref mw])), zA G mg 49 g] := hD
  refine lv_aload_n hx hb dX9_edgeCount_5 rfl (lv_at hl 0 rfl) ?_
  refine va_get (D := G.1) (ci := 6) (v := .ref mg) (C := RX9) (T := TX9) (N := 21) hx hb hts hinX9 hown hK hP 0 rfl rfl 7 (by decide) hlk20 (fun _ h9 => h9) rfl dX9_edgeCount_6 ?_
  refine lv_iconst (v := nI 0) hx hb dX9_edgeCount_9 (by decide) ?_
  refine zi_ald hx hb hK hP 1 rfl (by omega) (by omega) dX9_edgeCount_10 ?_
  exact kret _ _ _ _ _ _ rfl rfl hP hD hS dX9_edgeCount_11
set_option maxHeartbeats 400000 in
set_option maxRecDepth 100000 in
theorem c_X9_source (l : Launch) (G : zG) (m mt mp mg mc mh ms mu of1 ot1 oi1 ml md mw th ts ps V rm on : Nat) (pv : Int32) (sd : Int64) (g : Nat → Nat) (x : Int32) (hg0 : g 0 ≤ 16) : MI l yX9_source wsX9_source ({ frames := 2, cells := 0, slots := 0, locals := 46 }) G [.ref m, .int x] [(m, .inr (6, [.int (nI th), .ref mt, .int (nI ts), .int (nI ps), .int pv, .ref mp, .int (nI V), .ref mg, .ref mc, .ref mh, .int (nI rm), .ref ms, .ref mu, .int (nI on), .ref of1, .ref ot1, .ref oi1, .long sd, .ref ml, .ref md, .ref mw])), zA G mg 49 g] (mGet g 1 x) [(m, .inr (6, [.int (nI 0), .ref mt, .int (nI ts), .int (nI ps), .int pv, .ref mp, .int (nI V), .ref mg, .ref mc, .ref mh, .int (nI rm), .ref ms, .ref mu, .int (nI on), .ref of1, .ref ot1, .ref oi1, .long sd, .ref ml, .ref md, .ref mw])), zA G mg 49 g] := by
  refine MI.enter (cc := cX9_source) (maxL := 2) (by decide) rfl (Nat.le_of_ble_eq_true rfl) rfl ?_
  intro pM eM sM mM bM tM cM QM AM ls hat kret
  obtain ⟨SM, hA, hK, hE, hP, hD, hS, hl⟩ := hat
  have hx := SM.1
  have hb := SM.2.1
  have hown : sM.vm.findClass RX9 = some mM.cls := SM.2.2.2.1
  have hts := SM.2.2.2.2
  have hinX9 : ∀ w ∈ u_ws RX9 TX9 21, w ∈ wsX9_source := by decide +kernel
  have hlk54 : (Cond.fieldLink RX9 54 "DyckReachabilityModel" "thrown" "I").before _ sM = true := hts _ (by decide +kernel)
  have hlk20 : (Cond.fieldLink RX9 20 "DyckReachabilityModel" "graph" "[I").before _ sM = true := hts _ (by decide +kernel)
  have hl : lv_has ls 2 [(0, .ref m), (1, .int x)] := hl
  refine lv_aload_n hx hb dX9_source_0 rfl (lv_at hl 0 rfl) ?_
  refine lv_iconst (v := nI 0) hx hb dX9_source_1 (by decide) ?_
  refine va_put (D := G.1) (ci := 6) (v := .int (nI 0)) (ty := .int) (C := RX9) (T := TX9) (N := 21) hx hb hts hinX9 tyX9 tyX9_ok nmX9 hown hK hP hD hS 0 rfl rfl 0 (by decide) hlk54 (fun _ h9 => h9) rfl (by decide +kernel) rfl rfl (Nat.le_of_ble_eq_true rfl) dX9_source_2 (fun H locs hP hD hS => ?_)
  have hP : va_P G.1 vwCl [(m, .inr (6, [.int (nI 0), .ref mt, .int (nI ts), .int (nI ps), .int pv, .ref mp, .int (nI V), .ref mg, .ref mc, .ref mh, .int (nI rm), .ref ms, .ref mu, .int (nI on), .ref of1, .ref ot1, .ref oi1, .long sd, .ref ml, .ref md, .ref mw])), zA G mg 49 g] H := hP
  have hD : va_D AM [(m, .inr (6, [.int (nI 0), .ref mt, .int (nI ts), .int (nI ps), .int pv, .ref mp, .int (nI V), .ref mg, .ref mc, .ref mh, .int (nI rm), .ref ms, .ref mu, .int (nI on), .ref of1, .ref ot1, .ref oi1, .long sd, .ref ml, .ref md, .ref mw])), zA G mg 49 g] := hD
  refine lv_aload_n hx hb dX9_source_5 rfl (lv_at hl 0 rfl) ?_
  refine lv_iload_n hx hb dX9_source_6 rfl (lv_at hl 1 rfl) ?_
  refine zVi (W1 := [(m, .inr (6, [.int (nI 0), .ref mt, .int (nI ts), .int (nI ps), .int pv, .ref mp, .int (nI V), .ref mg, .ref mc, .ref mh, .int (nI rm), .ref ms, .ref mu, .int (nI on), .ref of1, .ref ot1, .ref oi1, .long sd, .ref ml, .ref md, .ref mw])), zA G mg 49 g]) (W2 := [(m, .inr (6, [.int (nI 0), .ref mt, .int (nI ts), .int (nI ps), .int pv, .ref mp, .int (nI V), .ref mg, .ref mc, .ref mh, .int (nI rm), .ref ms, .ref mu, .int (nI on), .ref of1, .ref ot1, .ref oi1, .long sd, .ref ml, .ref md, .ref mw])), zA G mg 49 g]) (wr := []) (rest := []) SM (c_X9_noEdge l G m mt mp mg mc mh ms mu of1 ot1 oi1 ml md mw 0 ts ps V rm on pv sd g x (by first | assumption | omega)) (cwV 1 hts gX9_source_X9_noEdge rfl rfl rfl (by decide +kernel) ⟨Nat.le_of_ble_eq_true rfl, Nat.le_of_ble_eq_true rfl⟩) hK hE hA hP hD hS hl.1 [0, 1] [] [0, 1] rfl rfl rfl (by decide) (ci := 6) rfl rfl rfl rfl rfl (Nat.le_of_ble_eq_true rfl) ⟨Nat.zero_le _, Nat.zero_le _⟩ dX9_source_7 (fun H locs hP hD hS => ?_)
  refine zb_eq (tgt := 17) hx hb dX9_source_10 (by decide) (fun c_1 => ?_) (fun c_1 => ?_)
  · skip
    have hl : lv_has ls 2 [(0, .ref m), (1, .int (nI x.toInt.toNat))] := by rw [← xN_eq (x := x) (by omega)]; exact hl
    refine lv_aload_n hx hb dX9_source_17 rfl (lv_at hl 0 rfl) ?_
    refine va_get (D := G.1) (ci := 6) (v := .ref mg) (C := RX9) (T := TX9) (N := 21) hx hb hts hinX9 hown hK hP 0 rfl rfl 7 (by decide) hlk20 (fun _ h9 => h9) rfl dX9_source_18 ?_
    refine lv_iconst (v := nI 1) hx hb dX9_source_21 (by decide) ?_
    refine lv_iconst (v := nI 3) hx hb dX9_source_22 (by decide) ?_
    refine lv_iload_n hx hb dX9_source_23 rfl (lv_at hl 1 rfl) ?_
    refine zi_mul hx hb dX9_source_24 ?_
    refine zi_addk (n := 1 + (3 * x.toInt.toNat)) hx hb dX9_source_25 (by omega) ?_
    refine zi_ald hx hb hK hP 1 rfl (by omega) (by omega) dX9_source_26 ?_
    exact kret _ _ _ _ _ _ (by unfold mGet; repeat (first | rw [if_pos (by first | assumption | omega)] | rw [if_neg (by first | assumption | omega)])) rfl hP hD hS dX9_source_27
  · skip
    refine lv_iconst (v := (-1)) hx hb dX9_source_13 (by decide) ?_
    refine lv_goto (tgt := 27) hx hb dX9_source_14 (by decide) ?_
    exact kret _ _ _ _ _ _ (by unfold mGet; repeat (first | rw [if_pos (by first | assumption | omega)] | rw [if_neg (by first | assumption | omega)])) rfl hP hD hS dX9_source_27
set_option maxHeartbeats 400000 in
set_option maxRecDepth 100000 in
theorem c_X9_target (l : Launch) (G : zG) (m mt mp mg mc mh ms mu of1 ot1 oi1 ml md mw th ts ps V rm on : Nat) (pv : Int32) (sd : Int64) (g : Nat → Nat) (x : Int32) (hg0 : g 0 ≤ 16) : MI l yX9_target wsX9_target ({ frames := 2, cells := 0, slots := 0, locals := 46 }) G [.ref m, .int x] [(m, .inr (6, [.int (nI th), .ref mt, .int (nI ts), .int (nI ps), .int pv, .ref mp, .int (nI V), .ref mg, .ref mc, .ref mh, .int (nI rm), .ref ms, .ref mu, .int (nI on), .ref of1, .ref ot1, .ref oi1, .long sd, .ref ml, .ref md, .ref mw])), zA G mg 49 g] (mGet g 2 x) [(m, .inr (6, [.int (nI 0), .ref mt, .int (nI ts), .int (nI ps), .int pv, .ref mp, .int (nI V), .ref mg, .ref mc, .ref mh, .int (nI rm), .ref ms, .ref mu, .int (nI on), .ref of1, .ref ot1, .ref oi1, .long sd, .ref ml, .ref md, .ref mw])), zA G mg 49 g] := by
  refine MI.enter (cc := cX9_target) (maxL := 2) (by decide) rfl (Nat.le_of_ble_eq_true rfl) rfl ?_
  intro pM eM sM mM bM tM cM QM AM ls hat kret
  obtain ⟨SM, hA, hK, hE, hP, hD, hS, hl⟩ := hat
  have hx := SM.1
  have hb := SM.2.1
  have hown : sM.vm.findClass RX9 = some mM.cls := SM.2.2.2.1
  have hts := SM.2.2.2.2
  have hinX9 : ∀ w ∈ u_ws RX9 TX9 21, w ∈ wsX9_target := by decide +kernel
  have hlk54 : (Cond.fieldLink RX9 54 "DyckReachabilityModel" "thrown" "I").before _ sM = true := hts _ (by decide +kernel)
  have hlk20 : (Cond.fieldLink RX9 20 "DyckReachabilityModel" "graph" "[I").before _ sM = true := hts _ (by decide +kernel)
  have hl : lv_has ls 2 [(0, .ref m), (1, .int x)] := hl
  refine lv_aload_n hx hb dX9_target_0 rfl (lv_at hl 0 rfl) ?_
  refine lv_iconst (v := nI 0) hx hb dX9_target_1 (by decide) ?_
  refine va_put (D := G.1) (ci := 6) (v := .int (nI 0)) (ty := .int) (C := RX9) (T := TX9) (N := 21) hx hb hts hinX9 tyX9 tyX9_ok nmX9 hown hK hP hD hS 0 rfl rfl 0 (by decide) hlk54 (fun _ h9 => h9) rfl (by decide +kernel) rfl rfl (Nat.le_of_ble_eq_true rfl) dX9_target_2 (fun H locs hP hD hS => ?_)
  have hP : va_P G.1 vwCl [(m, .inr (6, [.int (nI 0), .ref mt, .int (nI ts), .int (nI ps), .int pv, .ref mp, .int (nI V), .ref mg, .ref mc, .ref mh, .int (nI rm), .ref ms, .ref mu, .int (nI on), .ref of1, .ref ot1, .ref oi1, .long sd, .ref ml, .ref md, .ref mw])), zA G mg 49 g] H := hP
  have hD : va_D AM [(m, .inr (6, [.int (nI 0), .ref mt, .int (nI ts), .int (nI ps), .int pv, .ref mp, .int (nI V), .ref mg, .ref mc, .ref mh, .int (nI rm), .ref ms, .ref mu, .int (nI on), .ref of1, .ref ot1, .ref oi1, .long sd, .ref ml, .ref md, .ref mw])), zA G mg 49 g] := hD
  refine lv_aload_n hx hb dX9_target_5 rfl (lv_at hl 0 rfl) ?_
  refine lv_iload_n hx hb dX9_target_6 rfl (lv_at hl 1 rfl) ?_
  refine zVi (W1 := [(m, .inr (6, [.int (nI 0), .ref mt, .int (nI ts), .int (nI ps), .int pv, .ref mp, .int (nI V), .ref mg, .ref mc, .ref mh, .int (nI rm), .ref ms, .ref mu, .int (nI on), .ref of1, .ref ot1, .ref oi1, .long sd, .ref ml, .ref md, .ref mw])), zA G mg 49 g]) (W2 := [(m, .inr (6, [.int (nI 0), .ref mt, .int (nI ts), .int (nI ps), .int pv, .ref mp, .int (nI V), .ref mg, .ref mc, .ref mh, .int (nI rm), .ref ms, .ref mu, .int (nI on), .ref of1, .ref ot1, .ref oi1, .long sd, .ref ml, .ref md, .ref mw])), zA G mg 49 g]) (wr := []) (rest := []) SM (c_X9_noEdge l G m mt mp mg mc mh ms mu of1 ot1 oi1 ml md mw 0 ts ps V rm on pv sd g x (by first | assumption | omega)) (cwV 1 hts gX9_target_X9_noEdge rfl rfl rfl (by decide +kernel) ⟨Nat.le_of_ble_eq_true rfl, Nat.le_of_ble_eq_true rfl⟩) hK hE hA hP hD hS hl.1 [0, 1] [] [0, 1] rfl rfl rfl (by decide) (ci := 6) rfl rfl rfl rfl rfl (Nat.le_of_ble_eq_true rfl) ⟨Nat.zero_le _, Nat.zero_le _⟩ dX9_target_7 (fun H locs hP hD hS => ?_)
  refine zb_eq (tgt := 17) hx hb dX9_target_10 (by decide) (fun c_1 => ?_) (fun c_1 => ?_)
  · skip
    have hl : lv_has ls 2 [(0, .ref m), (1, .int (nI x.toInt.toNat))] := by rw [← xN_eq (x := x) (by omega)]; exact hl
    refine lv_aload_n hx hb dX9_target_17 rfl (lv_at hl 0 rfl) ?_
    refine va_get (D := G.1) (ci := 6) (v := .ref mg) (C := RX9) (T := TX9) (N := 21) hx hb hts hinX9 hown hK hP 0 rfl rfl 7 (by decide) hlk20 (fun _ h9 => h9) rfl dX9_target_18 ?_
    refine lv_iconst (v := nI 2) hx hb dX9_target_21 (by decide) ?_
    refine lv_iconst (v := nI 3) hx hb dX9_target_22 (by decide) ?_
    refine lv_iload_n hx hb dX9_target_23 rfl (lv_at hl 1 rfl) ?_
    refine zi_mul hx hb dX9_target_24 ?_
    refine zi_addk (n := 2 + (3 * x.toInt.toNat)) hx hb dX9_target_25 (by omega) ?_
    refine zi_ald hx hb hK hP 1 rfl (by omega) (by omega) dX9_target_26 ?_
    exact kret _ _ _ _ _ _ (by unfold mGet; repeat (first | rw [if_pos (by first | assumption | omega)] | rw [if_neg (by first | assumption | omega)])) rfl hP hD hS dX9_target_27
  · skip
    refine lv_iconst (v := (-1)) hx hb dX9_target_13 (by decide) ?_
    refine lv_goto (tgt := 27) hx hb dX9_target_14 (by decide) ?_
    exact kret _ _ _ _ _ _ (by unfold mGet; repeat (first | rw [if_pos (by first | assumption | omega)] | rw [if_neg (by first | assumption | omega)])) rfl hP hD hS dX9_target_27
set_option maxHeartbeats 400000 in
set_option maxRecDepth 100000 in
theorem c_X9_label (l : Launch) (G : zG) (m mt mp mg mc mh ms mu of1 ot1 oi1 ml md mw th ts ps V rm on : Nat) (pv : Int32) (sd : Int64) (g : Nat → Nat) (x : Int32) (hg0 : g 0 ≤ 16) : MI l yX9_label wsX9_label ({ frames := 2, cells := 0, slots := 0, locals := 46 }) G [.ref m, .int x] [(m, .inr (6, [.int (nI th), .ref mt, .int (nI ts), .int (nI ps), .int pv, .ref mp, .int (nI V), .ref mg, .ref mc, .ref mh, .int (nI rm), .ref ms, .ref mu, .int (nI on), .ref of1, .ref ot1, .ref oi1, .long sd, .ref ml, .ref md, .ref mw])), zA G mg 49 g] (mGet g 3 x) [(m, .inr (6, [.int (nI 0), .ref mt, .int (nI ts), .int (nI ps), .int pv, .ref mp, .int (nI V), .ref mg, .ref mc, .ref mh, .int (nI rm), .ref ms, .ref mu, .int (nI on), .ref of1, .ref ot1, .ref oi1, .long sd, .ref ml, .ref md, .ref mw])), zA G mg 49 g] := by
  refine MI.enter (cc := cX9_label) (maxL := 2) (by decide) rfl (Nat.le_of_ble_eq_true rfl) rfl ?_
  intro pM eM sM mM bM tM cM QM AM ls hat kret
  obtain ⟨SM, hA, hK, hE, hP, hD, hS, hl⟩ := hat
  have hx := SM.1
  have hb := SM.2.1
  have hown : sM.vm.findClass RX9 = some mM.cls := SM.2.2.2.1
  have hts := SM.2.2.2.2
  have hinX9 : ∀ w ∈ u_ws RX9 TX9 21, w ∈ wsX9_label := by decide +kernel
  have hlk54 : (Cond.fieldLink RX9 54 "DyckReachabilityModel" "thrown" "I").before _ sM = true := hts _ (by decide +kernel)
  have hlk20 : (Cond.fieldLink RX9 20 "DyckReachabilityModel" "graph" "[I").before _ sM = true := hts _ (by decide +kernel)
  have hl : lv_has ls 2 [(0, .ref m), (1, .int x)] := hl
  refine lv_aload_n hx hb dX9_label_0 rfl (lv_at hl 0 rfl) ?_
  refine lv_iconst (v := nI 0) hx hb dX9_label_1 (by decide) ?_
  refine va_put (D := G.1) (ci := 6) (v := .int (nI 0)) (ty := .int) (C := RX9) (T := TX9) (N := 21) hx hb hts hinX9 tyX9 tyX9_ok nmX9 hown hK hP hD hS 0 rfl rfl 0 (by decide) hlk54 (fun _ h9 => h9) rfl (by decide +kernel) rfl rfl (Nat.le_of_ble_eq_true rfl) dX9_label_2 (fun H locs hP hD hS => ?_)
  have hP : va_P G.1 vwCl [(m, .inr (6, [.int (nI 0), .ref mt, .int (nI ts), .int (nI ps), .int pv, .ref mp, .int (nI V), .ref mg, .ref mc, .ref mh, .int (nI rm), .ref ms, .ref mu, .int (nI on), .ref of1, .ref ot1, .ref oi1, .long sd, .ref ml, .ref md, .ref mw])), zA G mg 49 g] H := hP
  have hD : va_D AM [(m, .inr (6, [.int (nI 0), .ref mt, .int (nI ts), .int (nI ps), .int pv, .ref mp, .int (nI V), .ref mg, .ref mc, .ref mh, .int (nI rm), .ref ms, .ref mu, .int (nI on), .ref of1, .ref ot1, .ref oi1, .long sd, .ref ml, .ref md, .ref mw])), zA G mg 49 g] := hD
  refine lv_aload_n hx hb dX9_label_5 rfl (lv_at hl 0 rfl) ?_
  refine lv_iload_n hx hb dX9_label_6 rfl (lv_at hl 1 rfl) ?_
  refine zVi (W1 := [(m, .inr (6, [.int (nI 0), .ref mt, .int (nI ts), .int (nI ps), .int pv, .ref mp, .int (nI V), .ref mg, .ref mc, .ref mh, .int (nI rm), .ref ms, .ref mu, .int (nI on), .ref of1, .ref ot1, .ref oi1, .long sd, .ref ml, .ref md, .ref mw])), zA G mg 49 g]) (W2 := [(m, .inr (6, [.int (nI 0), .ref mt, .int (nI ts), .int (nI ps), .int pv, .ref mp, .int (nI V), .ref mg, .ref mc, .ref mh, .int (nI rm), .ref ms, .ref mu, .int (nI on), .ref of1, .ref ot1, .ref oi1, .long sd, .ref ml, .ref md, .ref mw])), zA G mg 49 g]) (wr := []) (rest := []) SM (c_X9_noEdge l G m mt mp mg mc mh ms mu of1 ot1 oi1 ml md mw 0 ts ps V rm on pv sd g x (by first | assumption | omega)) (cwV 1 hts gX9_label_X9_noEdge rfl rfl rfl (by decide +kernel) ⟨Nat.le_of_ble_eq_true rfl, Nat.le_of_ble_eq_true rfl⟩) hK hE hA hP hD hS hl.1 [0, 1] [] [0, 1] rfl rfl rfl (by decide) (ci := 6) rfl rfl rfl rfl rfl (Nat.le_of_ble_eq_true rfl) ⟨Nat.zero_le _, Nat.zero_le _⟩ dX9_label_7 (fun H locs hP hD hS => ?_)
  refine zb_eq (tgt := 17) hx hb dX9_label_10 (by decide) (fun c_1 => ?_) (fun c_1 => ?_)
  · skip
    have hl : lv_has ls 2 [(0, .ref m), (1, .int (nI x.toInt.toNat))] := by rw [← xN_eq (x := x) (by omega)]; exact hl
    refine lv_aload_n hx hb dX9_label_17 rfl (lv_at hl 0 rfl) ?_
    refine va_get (D := G.1) (ci := 6) (v := .ref mg) (C := RX9) (T := TX9) (N := 21) hx hb hts hinX9 hown hK hP 0 rfl rfl 7 (by decide) hlk20 (fun _ h9 => h9) rfl dX9_label_18 ?_
    refine lv_iconst (v := nI 3) hx hb dX9_label_21 (by decide) ?_
    refine lv_iconst (v := nI 3) hx hb dX9_label_22 (by decide) ?_
    refine lv_iload_n hx hb dX9_label_23 rfl (lv_at hl 1 rfl) ?_
    refine zi_mul hx hb dX9_label_24 ?_
    refine zi_addk (n := 3 + (3 * x.toInt.toNat)) hx hb dX9_label_25 (by omega) ?_
    refine zi_ald hx hb hK hP 1 rfl (by omega) (by omega) dX9_label_26 ?_
    exact kret _ _ _ _ _ _ (by unfold mGet; repeat (first | rw [if_pos (by first | assumption | omega)] | rw [if_neg (by first | assumption | omega)])) rfl hP hD hS dX9_label_27
  · skip
    refine lv_iconst (v := (-1)) hx hb dX9_label_13 (by decide) ?_
    refine lv_goto (tgt := 27) hx hb dX9_label_14 (by decide) ?_
    exact kret _ _ _ _ _ _ (by unfold mGet; repeat (first | rw [if_pos (by first | assumption | omega)] | rw [if_neg (by first | assumption | omega)])) rfl hP hD hS dX9_label_27
set_option maxHeartbeats 400000 in
set_option maxRecDepth 100000 in
theorem c_X9_remember (l : Launch) (G : zG) (m mt mp mg mc mh ms mu of1 ot1 oi1 ml md mw th ts ps V rm on : Nat) (pv : Int32) (sd : Int64) (g : Nat → Nat) (hh : Nat → Nat) (hrm : rm ≤ 14) : MV l yX9_remember wsX9_remember ({ frames := 0, cells := 0, slots := 0, locals := 0 }) G [.ref m] [(m, .inr (6, [.int (nI th), .ref mt, .int (nI ts), .int (nI ps), .int pv, .ref mp, .int (nI V), .ref mg, .ref mc, .ref mh, .int (nI rm), .ref ms, .ref mu, .int (nI on), .ref of1, .ref ot1, .ref oi1, .long sd, .ref ml, .ref md, .ref mw])), zA G mg 49 g, zA G mh 686 hh] [(m, .inr (6, [.int (nI th), .ref mt, .int (nI ts), .int (nI ps), .int pv, .ref mp, .int (nI V), .ref mg, .ref mc, .ref mh, .int (nI (mRemN rm)), .ref ms, .ref mu, .int (nI on), .ref of1, .ref ot1, .ref oi1, .long sd, .ref ml, .ref md, .ref mw])), zA G mg 49 g, zA G mh 686 (mRemH hh g rm)] := by
  refine MV.enter (cc := cX9_remember) (maxL := 2) (by decide) rfl (Nat.le_of_ble_eq_true rfl) ?_
  intro pM eM sM mM bM tM cM QM AM ls hat kret
  obtain ⟨SM, hA, hK, hE, hP, hD, hS, hl⟩ := hat
  have hx := SM.1
  have hb := SM.2.1
  have hown : sM.vm.findClass RX9 = some mM.cls := SM.2.2.2.1
  have hts := SM.2.2.2.2
  have hinX9 : ∀ w ∈ u_ws RX9 TX9 21, w ∈ wsX9_remember := by decide +kernel
  have hlk122 : (Cond.fieldLink RX9 122 "DyckReachabilityModel" "remembered" "I").before _ sM = true := hts _ (by decide +kernel)
  have hlk26 : (Cond.fieldLink RX9 26 "DyckReachabilityModel" "history" "[I").before _ sM = true := hts _ (by decide +kernel)
  have hlk20 : (Cond.fieldLink RX9 20 "DyckReachabilityModel" "graph" "[I").before _ sM = true := hts _ (by decide +kernel)
  have hl : lv_has ls 2 [(0, .ref m)] := hl
  refine lv_aload_n hx hb dX9_remember_0 rfl (lv_at hl 0 rfl) ?_
  refine va_get (D := G.1) (ci := 6) (v := .int (nI rm)) (C := RX9) (T := TX9) (N := 21) hx hb hts hinX9 hown hK hP 0 rfl rfl 10 (by decide) hlk122 (fun _ h9 => h9) rfl dX9_remember_1 ?_
  refine lv_bipush (v := nI 14) hx hb dX9_remember_4 (by decide) ?_
  refine zn_ne (tgt := 49) hx hb dX9_remember_6 (by decide) (by omega) (by omega) (fun c_1 => ?_) (fun c_1 => ?_)
  · skip
    refine lv_iconst (v := nI 0) hx hb dX9_remember_49 (by decide) ?_
    refine lv_istore_n (lv' := [(1, .int (nI 0)), (0, .ref m)]) hx hb dX9_remember_50 rfl hl (by decide) rfl (fun ls hl => ?_)
    have lp51 : ∀ (n9 : Nat), ∀ (k r : Nat) (h2 : Nat → Nat), (k ≤ 49) → (r ≤ 13) → (zHp h2 g (49 * r) 49 = mRemH hh g rm) → (r + 1 = mRemN rm) → (49 - k) < n9 → ∀ (H : Heap) (locs : List Loc) (ls : Array Slot), va_P G.1 vwCl [(m, .inr (6, [.int (nI th), .ref mt, .int (nI ts), .int (nI ps), .int pv, .ref mp, .int (nI V), .ref mg, .ref mc, .ref mh, .int (nI r), .ref ms, .ref mu, .int (nI on), .ref of1, .ref ot1, .ref oi1, .long sd, .ref ml, .ref md, .ref mw])), zA G mg 49 g, zA G mh 686 (zHp h2 g (49 * r) k)] H → va_D AM [(m, .inr (6, [.int (nI th), .ref mt, .int (nI ts), .int (nI ps), .int pv, .ref mp, .int (nI V), .ref mg, .ref mc, .ref mh, .int (nI r), .ref ms, .ref mu, .int (nI on), .ref of1, .ref ot1, .ref oi1, .long sd, .ref ml, .ref md, .ref mw])), zA G mg 49 g, zA G mh 686 (zHp h2 g (49 * r) k)] → va_S AM sM.heap H locs → lv_has ls 2 [(0, .ref m), (1, .int (nI k))] → W pM l eM ({ frames := 0, cells := 0, slots := 0, locals := 0 }) sM mM (([.ref m] : List Value).toArray) bM tM cM H locs 0 0 QM (F0 mM 51 ls []) := by
      intro n9
      induction n9 with
      | zero =>
        intro _ _ _ _ _ _ _ h9
        exact absurd h9 (Nat.not_lt_zero _)
      | succ n9 ih9 =>
        intro k r h2 h3 h4 hr hr2 hmu51 H locs ls hP hD hS hl
        have ih51 := ih9
        clear ih9
        refine lv_iload_n hx hb dX9_remember_51 rfl (lv_at hl 1 rfl) ?_
        refine lv_bipush (v := nI 49) hx hb dX9_remember_52 (by decide) ?_
        refine zn_ge (tgt := 83) hx hb dX9_remember_54 (by decide) (by omega) (by omega) (fun c_2 => ?_) (fun c_2 => ?_)
        · skip
          refine lv_aload_n hx hb dX9_remember_83 rfl (lv_at hl 0 rfl) ?_
          refine lv_dup hx hb dX9_remember_84 rfl ?_
          refine va_get (D := G.1) (ci := 6) (v := .int (nI r)) (C := RX9) (T := TX9) (N := 21) hx hb hts hinX9 hown hK hP 0 rfl rfl 10 (by decide) hlk122 (fun _ h9 => h9) rfl dX9_remember_85 ?_
          refine lv_iconst (v := nI 1) hx hb dX9_remember_88 (by decide) ?_
          refine zi_addk (n := r + 1) hx hb dX9_remember_89 (by omega) ?_
          refine va_put (D := G.1) (ci := 6) (v := .int (nI (r + 1))) (ty := .int) (C := RX9) (T := TX9) (N := 21) hx hb hts hinX9 tyX9 tyX9_ok nmX9 hown hK hP hD hS 0 rfl rfl 10 (by decide) hlk122 (fun _ h9 => h9) rfl (by decide +kernel) rfl rfl (Nat.le_of_ble_eq_true rfl) dX9_remember_90 (fun H locs hP hD hS => ?_)
          have hP : va_P G.1 vwCl [(m, .inr (6, [.int (nI th), .ref mt, .int (nI ts), .int (nI ps), .int pv, .ref mp, .int (nI V), .ref mg, .ref mc, .ref mh, .int (nI (r + 1)), .ref ms, .ref mu, .int (nI on), .ref of1, .ref ot1, .ref oi1, .long sd, .ref ml, .ref md, .ref mw])), zA G mg 49 g, zA G mh 686 (zHp h2 g (49 * r) k)] H := hP
          have hD : va_D AM [(m, .inr (6, [.int (nI th), .ref mt, .int (nI ts), .int (nI ps), .int pv, .ref mp, .int (nI V), .ref mg, .ref mc, .ref mh, .int (nI (r + 1)), .ref ms, .ref mu, .int (nI on), .ref of1, .ref ot1, .ref oi1, .long sd, .ref ml, .ref md, .ref mw])), zA G mg 49 g, zA G mh 686 (zHp h2 g (49 * r) k)] := hD
          exact kret _ _ _ _ _ (by have hq9 : k = 49 := (by omega); rw [hq9, hr, ← hr2]) hP hD hS dX9_remember_93
        · skip
          refine lv_aload_n hx hb dX9_remember_57 rfl (lv_at hl 0 rfl) ?_
          refine va_get (D := G.1) (ci := 6) (v := .ref mh) (C := RX9) (T := TX9) (N := 21) hx hb hts hinX9 hown hK hP 0 rfl rfl 9 (by decide) hlk26 (fun _ h9 => h9) rfl dX9_remember_58 ?_
          refine lv_bipush (v := nI 49) hx hb dX9_remember_61 (by decide) ?_
          refine lv_aload_n hx hb dX9_remember_63 rfl (lv_at hl 0 rfl) ?_
          refine va_get (D := G.1) (ci := 6) (v := .int (nI r)) (C := RX9) (T := TX9) (N := 21) hx hb hts hinX9 hown hK hP 0 rfl rfl 10 (by decide) hlk122 (fun _ h9 => h9) rfl dX9_remember_64 ?_
          refine zi_mul hx hb dX9_remember_67 ?_
          refine lv_iload_n hx hb dX9_remember_68 rfl (lv_at hl 1 rfl) ?_
          refine zi_add hx hb dX9_remember_69 ?_
          refine lv_aload_n hx hb dX9_remember_70 rfl (lv_at hl 0 rfl) ?_
          refine va_get (D := G.1) (ci := 6) (v := .ref mg) (C := RX9) (T := TX9) (N := 21) hx hb hts hinX9 hown hK hP 0 rfl rfl 7 (by decide) hlk20 (fun _ h9 => h9) rfl dX9_remember_71 ?_
          refine lv_iload_n hx hb dX9_remember_74 rfl (lv_at hl 1 rfl) ?_
          refine zi_ald hx hb hK hP 1 rfl (by omega) (by omega) dX9_remember_75 ?_
          refine zi_ast hx hb hK hP hD hS 2 rfl (by omega) (by omega) dX9_remember_76 (fun H locs hP hD hS => ?_)
          have hP : va_P G.1 vwCl [(m, .inr (6, [.int (nI th), .ref mt, .int (nI ts), .int (nI ps), .int pv, .ref mp, .int (nI V), .ref mg, .ref mc, .ref mh, .int (nI r), .ref ms, .ref mu, .int (nI on), .ref of1, .ref ot1, .ref oi1, .long sd, .ref ml, .ref md, .ref mw])), zA G mg 49 g, zA G mh 686 (zU (zHp h2 g (49 * r) k) ((49 * r) + k) (g k))] H := hP
          have hD : va_D AM [(m, .inr (6, [.int (nI th), .ref mt, .int (nI ts), .int (nI ps), .int pv, .ref mp, .int (nI V), .ref mg, .ref mc, .ref mh, .int (nI r), .ref ms, .ref mu, .int (nI on), .ref of1, .ref ot1, .ref oi1, .long sd, .ref ml, .ref md, .ref mw])), zA G mg 49 g, zA G mh 686 (zU (zHp h2 g (49 * r) k) ((49 * r) + k) (g k))] := hD
          refine lv_iinc (v := nI (k + 1)) (lv' := [(1, .int (nI (k + 1))), (0, .ref m)]) hx hb dX9_remember_77 hl (k := 1) rfl (zinc k 1) (by decide) rfl (fun ls hl => ?_)
          refine lv_goto (tgt := 51) hx hb dX9_remember_80 (by decide) ?_
          have hP : va_P G.1 vwCl [(m, .inr (6, [.int (nI th), .ref mt, .int (nI ts), .int (nI ps), .int pv, .ref mp, .int (nI V), .ref mg, .ref mc, .ref mh, .int (nI r), .ref ms, .ref mu, .int (nI on), .ref of1, .ref ot1, .ref oi1, .long sd, .ref ml, .ref md, .ref mw])), zA G mg 49 g, zA G mh 686 (zHp h2 g (49 * r) (k + 1))] H := by (rw [zHp_s]); exact hP
          have hD : va_D AM [(m, .inr (6, [.int (nI th), .ref mt, .int (nI ts), .int (nI ps), .int pv, .ref mp, .int (nI V), .ref mg, .ref mc, .ref mh, .int (nI r), .ref ms, .ref mu, .int (nI on), .ref of1, .ref ot1, .ref oi1, .long sd, .ref ml, .ref md, .ref mw])), zA G mg 49 g, zA G mh 686 (zHp h2 g (49 * r) (k + 1))] := by (rw [zHp_s]); exact hD
          exact ih51 (k + 1) r h2 (by first | assumption | omega) (by first | assumption | omega) (by first | assumption | omega) (by first | assumption | omega) (by omega) _ _ _ hP hD hS (lv_sub hl [1, 0] rfl)
    have hP : va_P G.1 vwCl [(m, .inr (6, [.int (nI th), .ref mt, .int (nI ts), .int (nI ps), .int pv, .ref mp, .int (nI V), .ref mg, .ref mc, .ref mh, .int (nI rm), .ref ms, .ref mu, .int (nI on), .ref of1, .ref ot1, .ref oi1, .long sd, .ref ml, .ref md, .ref mw])), zA G mg 49 g, zA G mh 686 (zHp hh g (49 * rm) 0)] sM.heap := by (rw [zHp_0]); exact hP
    have hD : va_D AM [(m, .inr (6, [.int (nI th), .ref mt, .int (nI ts), .int (nI ps), .int pv, .ref mp, .int (nI V), .ref mg, .ref mc, .ref mh, .int (nI rm), .ref ms, .ref mu, .int (nI on), .ref of1, .ref ot1, .ref oi1, .long sd, .ref ml, .ref md, .ref mw])), zA G mg 49 g, zA G mh 686 (zHp hh g (49 * rm) 0)] := by (rw [zHp_0]); exact hD
    exact lp51 (49 - 0 + 1) 0 rm hh (by first | assumption | omega) (by first | assumption | omega) (by unfold mRemH; first | (rw [if_neg (by omega)]; done) | (have hi9 : i = 637 := (by omega); rw [if_pos (by omega), hi9, show rm - 1 = 13 by omega])) (by unfold mRemN; first | (rw [if_neg (by omega)]; done) | (rw [if_pos (by omega)]; omega)) (Nat.lt_succ_self _) _ _ _ hP hD hS (lv_sub hl [1, 0] rfl)
  · skip
    refine lv_iconst (v := nI 0) hx hb dX9_remember_9 (by decide) ?_
    refine lv_istore_n (lv' := [(1, .int (nI 0)), (0, .ref m)]) hx hb dX9_remember_10 rfl hl (by decide) rfl (fun ls hl => ?_)
    have lp11 : ∀ (n9 : Nat), ∀ (i : Nat), (i ≤ 637) → (637 - i) < n9 → ∀ (H : Heap) (locs : List Loc) (ls : Array Slot), va_P G.1 vwCl [(m, .inr (6, [.int (nI th), .ref mt, .int (nI ts), .int (nI ps), .int pv, .ref mp, .int (nI V), .ref mg, .ref mc, .ref mh, .int (nI rm), .ref ms, .ref mu, .int (nI on), .ref of1, .ref ot1, .ref oi1, .long sd, .ref ml, .ref md, .ref mw])), zA G mg 49 g, zA G mh 686 (zHs hh i)] H → va_D AM [(m, .inr (6, [.int (nI th), .ref mt, .int (nI ts), .int (nI ps), .int pv, .ref mp, .int (nI V), .ref mg, .ref mc, .ref mh, .int (nI rm), .ref ms, .ref mu, .int (nI on), .ref of1, .ref ot1, .ref oi1, .long sd, .ref ml, .ref md, .ref mw])), zA G mg 49 g, zA G mh 686 (zHs hh i)] → va_S AM sM.heap H locs → lv_has ls 2 [(0, .ref m), (1, .int (nI i))] → W pM l eM ({ frames := 0, cells := 0, slots := 0, locals := 0 }) sM mM (([.ref m] : List Value).toArray) bM tM cM H locs 0 0 QM (F0 mM 11 ls []) := by
      intro n9
      induction n9 with
      | zero =>
        intro _ _ h9
        exact absurd h9 (Nat.not_lt_zero _)
      | succ n9 ih9 =>
        intro i h1 hmu11 H locs ls hP hD hS hl
        have ih11 := ih9
        clear ih9
        refine lv_iload_n hx hb dX9_remember_11 rfl (lv_at hl 1 rfl) ?_
        refine lv_sipush (v := nI 637) hx hb dX9_remember_12 (by decide) ?_
        refine zn_ge (tgt := 39) hx hb dX9_remember_15 (by decide) (by omega) (by omega) (fun c_3 => ?_) (fun c_3 => ?_)
        · skip
          refine lv_aload_n hx hb dX9_remember_39 rfl (lv_at hl 0 rfl) ?_
          refine lv_dup hx hb dX9_remember_40 rfl ?_
          refine va_get (D := G.1) (ci := 6) (v := .int (nI rm)) (C := RX9) (T := TX9) (N := 21) hx hb hts hinX9 hown hK hP 0 rfl rfl 10 (by decide) hlk122 (fun _ h9 => h9) rfl dX9_remember_41 ?_
          refine lv_iconst (v := nI 1) hx hb dX9_remember_44 (by decide) ?_
          refine zi_sub hx hb dX9_remember_45 (by omega) ?_
          refine va_put (D := G.1) (ci := 6) (v := .int (nI (rm - 1))) (ty := .int) (C := RX9) (T := TX9) (N := 21) hx hb hts hinX9 tyX9 tyX9_ok nmX9 hown hK hP hD hS 0 rfl rfl 10 (by decide) hlk122 (fun _ h9 => h9) rfl (by decide +kernel) rfl rfl (Nat.le_of_ble_eq_true rfl) dX9_remember_46 (fun H locs hP hD hS => ?_)
          have hP : va_P G.1 vwCl [(m, .inr (6, [.int (nI th), .ref mt, .int (nI ts), .int (nI ps), .int pv, .ref mp, .int (nI V), .ref mg, .ref mc, .ref mh, .int (nI (rm - 1)), .ref ms, .ref mu, .int (nI on), .ref of1, .ref ot1, .ref oi1, .long sd, .ref ml, .ref md, .ref mw])), zA G mg 49 g, zA G mh 686 (zHs hh i)] H := hP
          have hD : va_D AM [(m, .inr (6, [.int (nI th), .ref mt, .int (nI ts), .int (nI ps), .int pv, .ref mp, .int (nI V), .ref mg, .ref mc, .ref mh, .int (nI (rm - 1)), .ref ms, .ref mu, .int (nI on), .ref of1, .ref ot1, .ref oi1, .long sd, .ref ml, .ref md, .ref mw])), zA G mg 49 g, zA G mh 686 (zHs hh i)] := hD
          refine lv_iconst (v := nI 0) hx hb dX9_remember_49 (by decide) ?_
          refine lv_istore_n (lv' := [(1, .int (nI 0)), (0, .ref m)]) hx hb dX9_remember_50 rfl hl (by decide) rfl (fun ls hl => ?_)
          have lp51 : ∀ (n9 : Nat), ∀ (k r : Nat) (h2 : Nat → Nat), (k ≤ 49) → (r ≤ 13) → (zHp h2 g (49 * r) 49 = mRemH hh g rm) → (r + 1 = mRemN rm) → (49 - k) < n9 → ∀ (H : Heap) (locs : List Loc) (ls : Array Slot), va_P G.1 vwCl [(m, .inr (6, [.int (nI th), .ref mt, .int (nI ts), .int (nI ps), .int pv, .ref mp, .int (nI V), .ref mg, .ref mc, .ref mh, .int (nI r), .ref ms, .ref mu, .int (nI on), .ref of1, .ref ot1, .ref oi1, .long sd, .ref ml, .ref md, .ref mw])), zA G mg 49 g, zA G mh 686 (zHp h2 g (49 * r) k)] H → va_D AM [(m, .inr (6, [.int (nI th), .ref mt, .int (nI ts), .int (nI ps), .int pv, .ref mp, .int (nI V), .ref mg, .ref mc, .ref mh, .int (nI r), .ref ms, .ref mu, .int (nI on), .ref of1, .ref ot1, .ref oi1, .long sd, .ref ml, .ref md, .ref mw])), zA G mg 49 g, zA G mh 686 (zHp h2 g (49 * r) k)] → va_S AM sM.heap H locs → lv_has ls 2 [(0, .ref m), (1, .int (nI k))] → W pM l eM ({ frames := 0, cells := 0, slots := 0, locals := 0 }) sM mM (([.ref m] : List Value).toArray) bM tM cM H locs 0 0 QM (F0 mM 51 ls []) := by
            intro n9
            induction n9 with
            | zero =>
              intro _ _ _ _ _ _ _ h9
              exact absurd h9 (Nat.not_lt_zero _)
            | succ n9 ih9 =>
              intro k r h2 h3 h4 hr hr2 hmu51 H locs ls hP hD hS hl
              have ih51 := ih9
              clear ih9
              refine lv_iload_n hx hb dX9_remember_51 rfl (lv_at hl 1 rfl) ?_
              refine lv_bipush (v := nI 49) hx hb dX9_remember_52 (by decide) ?_
              refine zn_ge (tgt := 83) hx hb dX9_remember_54 (by decide) (by omega) (by omega) (fun c_4 => ?_) (fun c_4 => ?_)
              · skip
                refine lv_aload_n hx hb dX9_remember_83 rfl (lv_at hl 0 rfl) ?_
                refine lv_dup hx hb dX9_remember_84 rfl ?_
                refine va_get (D := G.1) (ci := 6) (v := .int (nI r)) (C := RX9) (T := TX9) (N := 21) hx hb hts hinX9 hown hK hP 0 rfl rfl 10 (by decide) hlk122 (fun _ h9 => h9) rfl dX9_remember_85 ?_
                refine lv_iconst (v := nI 1) hx hb dX9_remember_88 (by decide) ?_
                refine zi_addk (n := r + 1) hx hb dX9_remember_89 (by omega) ?_
                refine va_put (D := G.1) (ci := 6) (v := .int (nI (r + 1))) (ty := .int) (C := RX9) (T := TX9) (N := 21) hx hb hts hinX9 tyX9 tyX9_ok nmX9 hown hK hP hD hS 0 rfl rfl 10 (by decide) hlk122 (fun _ h9 => h9) rfl (by decide +kernel) rfl rfl (Nat.le_of_ble_eq_true rfl) dX9_remember_90 (fun H locs hP hD hS => ?_)
                have hP : va_P G.1 vwCl [(m, .inr (6, [.int (nI th), .ref mt, .int (nI ts), .int (nI ps), .int pv, .ref mp, .int (nI V), .ref mg, .ref mc, .ref mh, .int (nI (r + 1)), .ref ms, .ref mu, .int (nI on), .ref of1, .ref ot1, .ref oi1, .long sd, .ref ml, .ref md, .ref mw])), zA G mg 49 g, zA G mh 686 (zHp h2 g (49 * r) k)] H := hP
                have hD : va_D AM [(m, .inr (6, [.int (nI th), .ref mt, .int (nI ts), .int (nI ps), .int pv, .ref mp, .int (nI V), .ref mg, .ref mc, .ref mh, .int (nI (r + 1)), .ref ms, .ref mu, .int (nI on), .ref of1, .ref ot1, .ref oi1, .long sd, .ref ml, .ref md, .ref mw])), zA G mg 49 g, zA G mh 686 (zHp h2 g (49 * r) k)] := hD
                exact kret _ _ _ _ _ (by have hq9 : k = 49 := (by omega); rw [hq9, hr, ← hr2]) hP hD hS dX9_remember_93
              · skip
                refine lv_aload_n hx hb dX9_remember_57 rfl (lv_at hl 0 rfl) ?_
                refine va_get (D := G.1) (ci := 6) (v := .ref mh) (C := RX9) (T := TX9) (N := 21) hx hb hts hinX9 hown hK hP 0 rfl rfl 9 (by decide) hlk26 (fun _ h9 => h9) rfl dX9_remember_58 ?_
                refine lv_bipush (v := nI 49) hx hb dX9_remember_61 (by decide) ?_
                refine lv_aload_n hx hb dX9_remember_63 rfl (lv_at hl 0 rfl) ?_
                refine va_get (D := G.1) (ci := 6) (v := .int (nI r)) (C := RX9) (T := TX9) (N := 21) hx hb hts hinX9 hown hK hP 0 rfl rfl 10 (by decide) hlk122 (fun _ h9 => h9) rfl dX9_remember_64 ?_
                refine zi_mul hx hb dX9_remember_67 ?_
                refine lv_iload_n hx hb dX9_remember_68 rfl (lv_at hl 1 rfl) ?_
                refine zi_add hx hb dX9_remember_69 ?_
                refine lv_aload_n hx hb dX9_remember_70 rfl (lv_at hl 0 rfl) ?_
                refine va_get (D := G.1) (ci := 6) (v := .ref mg) (C := RX9) (T := TX9) (N := 21) hx hb hts hinX9 hown hK hP 0 rfl rfl 7 (by decide) hlk20 (fun _ h9 => h9) rfl dX9_remember_71 ?_
                refine lv_iload_n hx hb dX9_remember_74 rfl (lv_at hl 1 rfl) ?_
                refine zi_ald hx hb hK hP 1 rfl (by omega) (by omega) dX9_remember_75 ?_
                refine zi_ast hx hb hK hP hD hS 2 rfl (by omega) (by omega) dX9_remember_76 (fun H locs hP hD hS => ?_)
                have hP : va_P G.1 vwCl [(m, .inr (6, [.int (nI th), .ref mt, .int (nI ts), .int (nI ps), .int pv, .ref mp, .int (nI V), .ref mg, .ref mc, .ref mh, .int (nI r), .ref ms, .ref mu, .int (nI on), .ref of1, .ref ot1, .ref oi1, .long sd, .ref ml, .ref md, .ref mw])), zA G mg 49 g, zA G mh 686 (zU (zHp h2 g (49 * r) k) ((49 * r) + k) (g k))] H := hP
                have hD : va_D AM [(m, .inr (6, [.int (nI th), .ref mt, .int (nI ts), .int (nI ps), .int pv, .ref mp, .int (nI V), .ref mg, .ref mc, .ref mh, .int (nI r), .ref ms, .ref mu, .int (nI on), .ref of1, .ref ot1, .ref oi1, .long sd, .ref ml, .ref md, .ref mw])), zA G mg 49 g, zA G mh 686 (zU (zHp h2 g (49 * r) k) ((49 * r) + k) (g k))] := hD
                refine lv_iinc (v := nI (k + 1)) (lv' := [(1, .int (nI (k + 1))), (0, .ref m)]) hx hb dX9_remember_77 hl (k := 1) rfl (zinc k 1) (by decide) rfl (fun ls hl => ?_)
                refine lv_goto (tgt := 51) hx hb dX9_remember_80 (by decide) ?_
                have hP : va_P G.1 vwCl [(m, .inr (6, [.int (nI th), .ref mt, .int (nI ts), .int (nI ps), .int pv, .ref mp, .int (nI V), .ref mg, .ref mc, .ref mh, .int (nI r), .ref ms, .ref mu, .int (nI on), .ref of1, .ref ot1, .ref oi1, .long sd, .ref ml, .ref md, .ref mw])), zA G mg 49 g, zA G mh 686 (zHp h2 g (49 * r) (k + 1))] H := by (rw [zHp_s]); exact hP
                have hD : va_D AM [(m, .inr (6, [.int (nI th), .ref mt, .int (nI ts), .int (nI ps), .int pv, .ref mp, .int (nI V), .ref mg, .ref mc, .ref mh, .int (nI r), .ref ms, .ref mu, .int (nI on), .ref of1, .ref ot1, .ref oi1, .long sd, .ref ml, .ref md, .ref mw])), zA G mg 49 g, zA G mh 686 (zHp h2 g (49 * r) (k + 1))] := by (rw [zHp_s]); exact hD
                exact ih51 (k + 1) r h2 (by first | assumption | omega) (by first | assumption | omega) (by first | assumption | omega) (by first | assumption | omega) (by omega) _ _ _ hP hD hS (lv_sub hl [1, 0] rfl)
          have hP : va_P G.1 vwCl [(m, .inr (6, [.int (nI th), .ref mt, .int (nI ts), .int (nI ps), .int pv, .ref mp, .int (nI V), .ref mg, .ref mc, .ref mh, .int (nI (rm - 1)), .ref ms, .ref mu, .int (nI on), .ref of1, .ref ot1, .ref oi1, .long sd, .ref ml, .ref md, .ref mw])), zA G mg 49 g, zA G mh 686 (zHp (zHs hh i) g (49 * (rm - 1)) 0)] H := by (rw [zHp_0]); exact hP
          have hD : va_D AM [(m, .inr (6, [.int (nI th), .ref mt, .int (nI ts), .int (nI ps), .int pv, .ref mp, .int (nI V), .ref mg, .ref mc, .ref mh, .int (nI (rm - 1)), .ref ms, .ref mu, .int (nI on), .ref of1, .ref ot1, .ref oi1, .long sd, .ref ml, .ref md, .ref mw])), zA G mg 49 g, zA G mh 686 (zHp (zHs hh i) g (49 * (rm - 1)) 0)] := by (rw [zHp_0]); exact hD
          exact lp51 (49 - 0 + 1) 0 (rm - 1) (zHs hh i) (by first | assumption | omega) (by first | assumption | omega) (by unfold mRemH; first | (rw [if_neg (by omega)]; done) | (have hi9 : i = 637 := (by omega); rw [if_pos (by omega), hi9, show rm - 1 = 13 by omega])) (by unfold mRemN; first | (rw [if_neg (by omega)]; done) | (rw [if_pos (by omega)]; omega)) (Nat.lt_succ_self _) _ _ _ hP hD hS (lv_sub hl [1, 0] rfl)
        · skip
          refine lv_aload_n hx hb dX9_remember_18 rfl (lv_at hl 0 rfl) ?_
          refine va_get (D := G.1) (ci := 6) (v := .ref mh) (C := RX9) (T := TX9) (N := 21) hx hb hts hinX9 hown hK hP 0 rfl rfl 9 (by decide) hlk26 (fun _ h9 => h9) rfl dX9_remember_19 ?_
          refine lv_iload_n hx hb dX9_remember_22 rfl (lv_at hl 1 rfl) ?_
          refine lv_aload_n hx hb dX9_remember_23 rfl (lv_at hl 0 rfl) ?_
          refine va_get (D := G.1) (ci := 6) (v := .ref mh) (C := RX9) (T := TX9) (N := 21) hx hb hts hinX9 hown hK hP 0 rfl rfl 9 (by decide) hlk26 (fun _ h9 => h9) rfl dX9_remember_24 ?_
          refine lv_iload_n hx hb dX9_remember_27 rfl (lv_at hl 1 rfl) ?_
          refine lv_bipush (v := nI 49) hx hb dX9_remember_28 (by decide) ?_
          refine zi_addk (n := i + 49) hx hb dX9_remember_30 (by omega) ?_
          refine zi_ald hx hb hK hP 2 rfl (by omega) (by omega) dX9_remember_31 ?_
          refine zi_ast hx hb hK hP hD hS 2 rfl (by omega) (by omega) dX9_remember_32 (fun H locs hP hD hS => ?_)
          have hP : va_P G.1 vwCl [(m, .inr (6, [.int (nI th), .ref mt, .int (nI ts), .int (nI ps), .int pv, .ref mp, .int (nI V), .ref mg, .ref mc, .ref mh, .int (nI rm), .ref ms, .ref mu, .int (nI on), .ref of1, .ref ot1, .ref oi1, .long sd, .ref ml, .ref md, .ref mw])), zA G mg 49 g, zA G mh 686 (zU (zHs hh i) i ((zHs hh i) (i + 49)))] H := hP
          have hD : va_D AM [(m, .inr (6, [.int (nI th), .ref mt, .int (nI ts), .int (nI ps), .int pv, .ref mp, .int (nI V), .ref mg, .ref mc, .ref mh, .int (nI rm), .ref ms, .ref mu, .int (nI on), .ref of1, .ref ot1, .ref oi1, .long sd, .ref ml, .ref md, .ref mw])), zA G mg 49 g, zA G mh 686 (zU (zHs hh i) i ((zHs hh i) (i + 49)))] := hD
          refine lv_iinc (v := nI (i + 1)) (lv' := [(1, .int (nI (i + 1))), (0, .ref m)]) hx hb dX9_remember_33 hl (k := 1) rfl (zinc i 1) (by decide) rfl (fun ls hl => ?_)
          refine lv_goto (tgt := 11) hx hb dX9_remember_36 (by decide) ?_
          have hP : va_P G.1 vwCl [(m, .inr (6, [.int (nI th), .ref mt, .int (nI ts), .int (nI ps), .int pv, .ref mp, .int (nI V), .ref mg, .ref mc, .ref mh, .int (nI rm), .ref ms, .ref mu, .int (nI on), .ref of1, .ref ot1, .ref oi1, .long sd, .ref ml, .ref md, .ref mw])), zA G mg 49 g, zA G mh 686 (zHs hh (i + 1))] H := by (rw [zHs_s]); exact hP
          have hD : va_D AM [(m, .inr (6, [.int (nI th), .ref mt, .int (nI ts), .int (nI ps), .int pv, .ref mp, .int (nI V), .ref mg, .ref mc, .ref mh, .int (nI rm), .ref ms, .ref mu, .int (nI on), .ref of1, .ref ot1, .ref oi1, .long sd, .ref ml, .ref md, .ref mw])), zA G mg 49 g, zA G mh 686 (zHs hh (i + 1))] := by (rw [zHs_s]); exact hD
          exact ih11 (i + 1) (by first | assumption | omega) (by omega) _ _ _ hP hD hS (lv_sub hl [1, 0] rfl)
    have hP : va_P G.1 vwCl [(m, .inr (6, [.int (nI th), .ref mt, .int (nI ts), .int (nI ps), .int pv, .ref mp, .int (nI V), .ref mg, .ref mc, .ref mh, .int (nI rm), .ref ms, .ref mu, .int (nI on), .ref of1, .ref ot1, .ref oi1, .long sd, .ref ml, .ref md, .ref mw])), zA G mg 49 g, zA G mh 686 (zHs hh 0)] sM.heap := by (rw [zHs_0]); exact hP
    have hD : va_D AM [(m, .inr (6, [.int (nI th), .ref mt, .int (nI ts), .int (nI ps), .int pv, .ref mp, .int (nI V), .ref mg, .ref mc, .ref mh, .int (nI rm), .ref ms, .ref mu, .int (nI on), .ref of1, .ref ot1, .ref oi1, .long sd, .ref ml, .ref md, .ref mw])), zA G mg 49 g, zA G mh 686 (zHs hh 0)] := by (rw [zHs_0]); exact hD
    exact lp11 (637 - 0 + 1) 0 (by first | assumption | omega) (Nat.lt_succ_self _) _ _ _ hP hD hS (lv_sub hl [1, 0] rfl)
set_option maxHeartbeats 400000 in
set_option maxRecDepth 100000 in
theorem c_X9_addEdge_ok (l : Launch) (G : zG) (m mt mp mg mc mh ms mu of1 ot1 oi1 ml md mw th ts ps V rm on : Nat) (pv : Int32) (sd : Int64) (g : Nat → Nat) (hh : Nat → Nat) (x y z : Int32) (hV : V ≤ 8) (hV1 : 1 ≤ V) (hrm : rm ≤ 14) (hgl : g 0 < 16) (hx : 0 ≤ x.toInt ∧ x.toInt < V) (hy : 0 ≤ y.toInt ∧ y.toInt < V) (hz : 0 ≤ z.toInt ∧ z.toInt < 7) : MI l yX9_addEdge wsX9_addEdge ({ frames := 2, cells := 0, slots := 0, locals := 46 }) G [.ref m, .int x, .int y, .int z] [(m, .inr (6, [.int (nI th), .ref mt, .int (nI ts), .int (nI ps), .int pv, .ref mp, .int (nI V), .ref mg, .ref mc, .ref mh, .int (nI rm), .ref ms, .ref mu, .int (nI on), .ref of1, .ref ot1, .ref oi1, .long sd, .ref ml, .ref md, .ref mw])), zA G mg 49 g, zA G mh 686 hh] (nI (g 0)) [(m, .inr (6, [.int (nI 0), .ref mt, .int (nI ts), .int (nI ps), .int pv, .ref mp, .int (nI V), .ref mg, .ref mc, .ref mh, .int (nI (mRemN rm)), .ref ms, .ref mu, .int (nI on), .ref of1, .ref ot1, .ref oi1, .long sd, .ref ml, .ref md, .ref mw])), zA G mg 49 (zMp g x.toInt.toNat y.toInt.toNat z.toInt.toNat), zA G mh 686 (mRemH hh g rm)] := by
  refine MI.enter (cc := cX9_addEdge) (maxL := 4) (by decide) rfl (Nat.le_of_ble_eq_true rfl) rfl ?_
  intro pM eM sM mM bM tM cM QM AM ls hat kret
  obtain ⟨SM, hA, hK, hE, hP, hD, hS, hl⟩ := hat
  have hx := SM.1
  have hb := SM.2.1
  have hown : sM.vm.findClass RX9 = some mM.cls := SM.2.2.2.1
  have hts := SM.2.2.2.2
  have hinX9 : ∀ w ∈ u_ws RX9 TX9 21, w ∈ wsX9_addEdge := by decide +kernel
  have hlk54 : (Cond.fieldLink RX9 54 "DyckReachabilityModel" "thrown" "I").before _ sM = true := hts _ (by decide +kernel)
  have hlk20 : (Cond.fieldLink RX9 20 "DyckReachabilityModel" "graph" "[I").before _ sM = true := hts _ (by decide +kernel)
  have hl : lv_has ls 4 [(0, .ref m), (1, .int x), (2, .int y), (3, .int z)] := hl
  refine lv_aload_n hx hb dX9_addEdge_0 rfl (lv_at hl 0 rfl) ?_
  refine lv_iconst (v := nI 0) hx hb dX9_addEdge_1 (by decide) ?_
  refine va_put (D := G.1) (ci := 6) (v := .int (nI 0)) (ty := .int) (C := RX9) (T := TX9) (N := 21) hx hb hts hinX9 tyX9 tyX9_ok nmX9 hown hK hP hD hS 0 rfl rfl 0 (by decide) hlk54 (fun _ h9 => h9) rfl (by decide +kernel) rfl rfl (Nat.le_of_ble_eq_true rfl) dX9_addEdge_2 (fun H locs hP hD hS => ?_)
  have hP : va_P G.1 vwCl [(m, .inr (6, [.int (nI 0), .ref mt, .int (nI ts), .int (nI ps), .int pv, .ref mp, .int (nI V), .ref mg, .ref mc, .ref mh, .int (nI rm), .ref ms, .ref mu, .int (nI on), .ref of1, .ref ot1, .ref oi1, .long sd, .ref ml, .ref md, .ref mw])), zA G mg 49 g, zA G mh 686 hh] H := hP
  have hD : va_D AM [(m, .inr (6, [.int (nI 0), .ref mt, .int (nI ts), .int (nI ps), .int pv, .ref mp, .int (nI V), .ref mg, .ref mc, .ref mh, .int (nI rm), .ref ms, .ref mu, .int (nI on), .ref of1, .ref ot1, .ref oi1, .long sd, .ref ml, .ref md, .ref mw])), zA G mg 49 g, zA G mh 686 hh] := hD
  refine lv_aload_n hx hb dX9_addEdge_5 rfl (lv_at hl 0 rfl) ?_
  refine lv_iload_n hx hb dX9_addEdge_6 rfl (lv_at hl 1 rfl) ?_
  refine zVi (W1 := [(m, .inr (6, [.int (nI 0), .ref mt, .int (nI ts), .int (nI ps), .int pv, .ref mp, .int (nI V), .ref mg, .ref mc, .ref mh, .int (nI rm), .ref ms, .ref mu, .int (nI on), .ref of1, .ref ot1, .ref oi1, .long sd, .ref ml, .ref md, .ref mw])), zA G mg 49 g, zA G mh 686 hh]) (W2 := [(m, .inr (6, [.int (nI 0), .ref mt, .int (nI ts), .int (nI ps), .int pv, .ref mp, .int (nI V), .ref mg, .ref mc, .ref mh, .int (nI rm), .ref ms, .ref mu, .int (nI on), .ref of1, .ref ot1, .ref oi1, .long sd, .ref ml, .ref md, .ref mw])), zA G mg 49 g, zA G mh 686 hh]) (wr := [zA G mg 49 g, zA G mh 686 hh]) (rest := []) SM (c_X9_noVertex l G m mt mp mg mc mh ms mu of1 ot1 oi1 ml md mw 0 ts ps V rm on pv sd x (by first | assumption | omega) (by first | assumption | omega)) (cwV 1 hts gX9_addEdge_X9_noVertex rfl rfl rfl (by decide +kernel) ⟨Nat.le_of_ble_eq_true rfl, Nat.le_of_ble_eq_true rfl⟩) hK hE hA hP hD hS hl.1 [0] [1, 2] [2, 0, 1] rfl rfl rfl (by decide) (ci := 6) rfl rfl rfl rfl rfl (Nat.le_of_ble_eq_true rfl) ⟨Nat.zero_le _, Nat.zero_le _⟩ dX9_addEdge_7 (fun H locs hP hD hS => ?_)
  refine zb_ne (tgt := 21) hx hb dX9_addEdge_10 (by decide) (fun c_1 => ?_) (fun c_1 => ?_)
  · skip
    exfalso; omega
  · skip
    refine lv_aload_n hx hb dX9_addEdge_13 rfl (lv_at hl 0 rfl) ?_
    refine lv_iload_n hx hb dX9_addEdge_14 rfl (lv_at hl 2 rfl) ?_
    refine zVi (W1 := [(m, .inr (6, [.int (nI 0), .ref mt, .int (nI ts), .int (nI ps), .int pv, .ref mp, .int (nI V), .ref mg, .ref mc, .ref mh, .int (nI rm), .ref ms, .ref mu, .int (nI on), .ref of1, .ref ot1, .ref oi1, .long sd, .ref ml, .ref md, .ref mw])), zA G mg 49 g, zA G mh 686 hh]) (W2 := [(m, .inr (6, [.int (nI 0), .ref mt, .int (nI ts), .int (nI ps), .int pv, .ref mp, .int (nI V), .ref mg, .ref mc, .ref mh, .int (nI rm), .ref ms, .ref mu, .int (nI on), .ref of1, .ref ot1, .ref oi1, .long sd, .ref ml, .ref md, .ref mw])), zA G mg 49 g, zA G mh 686 hh]) (wr := [zA G mg 49 g, zA G mh 686 hh]) (rest := []) SM (c_X9_noVertex l G m mt mp mg mc mh ms mu of1 ot1 oi1 ml md mw 0 ts ps V rm on pv sd y (by first | assumption | omega) (by first | assumption | omega)) (cwV 1 hts gX9_addEdge_X9_noVertex rfl rfl rfl (by decide +kernel) ⟨Nat.le_of_ble_eq_true rfl, Nat.le_of_ble_eq_true rfl⟩) hK hE hA hP hD hS hl.1 [0] [1, 2] [2, 0, 1] rfl rfl rfl (by decide) (ci := 6) rfl rfl rfl rfl rfl (Nat.le_of_ble_eq_true rfl) ⟨Nat.zero_le _, Nat.zero_le _⟩ dX9_addEdge_15 (fun H locs hP hD hS => ?_)
    refine zb_eq (tgt := 23) hx hb dX9_addEdge_18 (by decide) (fun c_2 => ?_) (fun c_2 => ?_)
    · skip
      refine lv_iload_n hx hb dX9_addEdge_23 rfl (lv_at hl 3 rfl) ?_
      refine lv_i2l hx hb dX9_addEdge_24 rfl ?_
      refine lv_lconst (v := lN 0) hx hb dX9_addEdge_25 (by decide) ?_
      refine lv_ldc2 (v := lN 6) hx hb hown (hts (.constantLong RX9 132 (6)) (by decide +kernel)) dX9_addEdge_26 ?_
      refine zSi (W1 := [(m, .inr (6, [.int (nI 0), .ref mt, .int (nI ts), .int (nI ps), .int pv, .ref mp, .int (nI V), .ref mg, .ref mc, .ref mh, .int (nI rm), .ref ms, .ref mu, .int (nI on), .ref of1, .ref ot1, .ref oi1, .long sd, .ref ml, .ref md, .ref mw])), zA G mg 49 g, zA G mh 686 hh]) (W2 := [(m, .inr (6, [.int (nI 0), .ref mt, .int (nI ts), .int (nI ps), .int pv, .ref mp, .int (nI V), .ref mg, .ref mc, .ref mh, .int (nI rm), .ref ms, .ref mu, .int (nI on), .ref of1, .ref ot1, .ref oi1, .long sd, .ref ml, .ref md, .ref mw])), zA G mg 49 g, zA G mh 686 hh]) (wr := [(m, .inr (6, [.int (nI 0), .ref mt, .int (nI ts), .int (nI ps), .int pv, .ref mp, .int (nI V), .ref mg, .ref mc, .ref mh, .int (nI rm), .ref ms, .ref mu, .int (nI on), .ref of1, .ref ot1, .ref oi1, .long sd, .ref ml, .ref md, .ref mw])), zA G mg 49 g, zA G mh 686 hh]) (rest := []) SM (c_X9_in_X l G (z) 0 6 (by first | assumption | omega) (by first | assumption | omega)) (va_cwS 3 hts gX9_addEdge_X9_in rfl rfl rfl (by decide +kernel) ⟨Nat.le_of_ble_eq_true rfl, Nat.le_of_ble_eq_true rfl⟩) hK hE hA hP hD hS hl.1 [] [0, 1, 2] [0, 1, 2] rfl rfl rfl (by decide) rfl rfl (Nat.le_of_ble_eq_true rfl) ⟨Nat.zero_le _, Nat.zero_le _⟩ dX9_addEdge_29 (fun H locs hP hD hS => ?_)
      refine zb_ne (tgt := 38) hx hb dX9_addEdge_32 (by decide) (fun c_3 => ?_) (fun c_3 => ?_)
      · skip
        refine lv_aload_n hx hb dX9_addEdge_38 rfl (lv_at hl 0 rfl) ?_
        refine va_get (D := G.1) (ci := 6) (v := .ref mg) (C := RX9) (T := TX9) (N := 21) hx hb hts hinX9 hown hK hP 0 rfl rfl 7 (by decide) hlk20 (fun _ h9 => h9) rfl dX9_addEdge_39 ?_
        refine lv_iconst (v := nI 0) hx hb dX9_addEdge_42 (by decide) ?_
        refine zi_ald hx hb hK hP 1 rfl (by omega) (by omega) dX9_addEdge_43 ?_
        refine lv_bipush (v := nI 16) hx hb dX9_addEdge_44 (by decide) ?_
        refine zn_ne (tgt := 52) hx hb dX9_addEdge_46 (by decide) (by omega) (by omega) (fun c_4 => ?_) (fun c_4 => ?_)
        · skip
          have hl : lv_has ls 4 [(0, .ref m), (1, .int (nI x.toInt.toNat)), (2, .int (nI y.toInt.toNat)), (3, .int (nI z.toInt.toNat))] := by rw [← xN_eq (x := x) (by omega), ← xN_eq (x := y) (by omega), ← xN_eq (x := z) (by omega)]; exact hl
          refine lv_aload_n hx hb dX9_addEdge_52 rfl (lv_at hl 0 rfl) ?_
          refine zVv (W1 := [(m, .inr (6, [.int (nI 0), .ref mt, .int (nI ts), .int (nI ps), .int pv, .ref mp, .int (nI V), .ref mg, .ref mc, .ref mh, .int (nI rm), .ref ms, .ref mu, .int (nI on), .ref of1, .ref ot1, .ref oi1, .long sd, .ref ml, .ref md, .ref mw])), zA G mg 49 g, zA G mh 686 hh]) (W2 := [(m, .inr (6, [.int (nI 0), .ref mt, .int (nI ts), .int (nI ps), .int pv, .ref mp, .int (nI V), .ref mg, .ref mc, .ref mh, .int (nI (mRemN rm)), .ref ms, .ref mu, .int (nI on), .ref of1, .ref ot1, .ref oi1, .long sd, .ref ml, .ref md, .ref mw])), zA G mg 49 g, zA G mh 686 (mRemH hh g rm)]) (wr := []) (rest := []) SM (c_X9_remember l G m mt mp mg mc mh ms mu of1 ot1 oi1 ml md mw 0 ts ps V rm on pv sd g hh (by first | assumption | omega)) (cwV 0 hts gX9_addEdge_X9_remember rfl rfl rfl (by decide +kernel) ⟨Nat.le_of_ble_eq_true rfl, Nat.le_of_ble_eq_true rfl⟩) hK hE hA hP hD hS hl.1 [0, 1, 2] [] [0, 1, 2] rfl rfl rfl (by decide) (ci := 6) rfl rfl rfl rfl rfl (Nat.le_of_ble_eq_true rfl) ⟨Nat.zero_le _, Nat.zero_le _⟩ dX9_addEdge_53 (fun H locs hP hD hS => ?_)
          refine lv_aload_n hx hb dX9_addEdge_56 rfl (lv_at hl 0 rfl) ?_
          refine va_get (D := G.1) (ci := 6) (v := .ref mg) (C := RX9) (T := TX9) (N := 21) hx hb hts hinX9 hown hK hP 0 rfl rfl 7 (by decide) hlk20 (fun _ h9 => h9) rfl dX9_addEdge_57 ?_
          refine lv_iload_n hx hb dX9_addEdge_60 rfl (lv_at hl 1 rfl) ?_
          refine lv_iload_n hx hb dX9_addEdge_61 rfl (lv_at hl 2 rfl) ?_
          refine lv_iload_n hx hb dX9_addEdge_62 rfl (lv_at hl 3 rfl) ?_
          refine zSv (W1 := [(m, .inr (6, [.int (nI 0), .ref mt, .int (nI ts), .int (nI ps), .int pv, .ref mp, .int (nI V), .ref mg, .ref mc, .ref mh, .int (nI (mRemN rm)), .ref ms, .ref mu, .int (nI on), .ref of1, .ref ot1, .ref oi1, .long sd, .ref ml, .ref md, .ref mw])), zA G mg 49 g, zA G mh 686 (mRemH hh g rm)]) (W2 := [(m, .inr (6, [.int (nI 0), .ref mt, .int (nI ts), .int (nI ps), .int pv, .ref mp, .int (nI V), .ref mg, .ref mc, .ref mh, .int (nI (mRemN rm)), .ref ms, .ref mu, .int (nI on), .ref of1, .ref ot1, .ref oi1, .long sd, .ref ml, .ref md, .ref mw])), zA G mg 49 (zMp g x.toInt.toNat y.toInt.toNat z.toInt.toNat), zA G mh 686 (mRemH hh g rm)]) (wr := [(m, .inr (6, [.int (nI 0), .ref mt, .int (nI ts), .int (nI ps), .int pv, .ref mp, .int (nI V), .ref mg, .ref mc, .ref mh, .int (nI (mRemN rm)), .ref ms, .ref mu, .int (nI on), .ref of1, .ref ot1, .ref oi1, .long sd, .ref ml, .ref md, .ref mw])), zA G mh 686 (mRemH hh g rm)]) (rest := []) SM (c_X9_put l G mg g x.toInt.toNat y.toInt.toNat z.toInt.toNat (by first | assumption | omega)) (va_cwS 4 hts gX9_addEdge_X9_put rfl rfl rfl (by decide +kernel) ⟨Nat.le_of_ble_eq_true rfl, Nat.le_of_ble_eq_true rfl⟩) hK hE hA hP hD hS hl.1 [1] [0, 2] [0, 2, 1] rfl rfl rfl (by decide) rfl rfl (Nat.le_of_ble_eq_true rfl) ⟨Nat.zero_le _, Nat.zero_le _⟩ dX9_addEdge_63 (fun H locs hP hD hS => ?_)
          refine lv_aload_n hx hb dX9_addEdge_66 rfl (lv_at hl 0 rfl) ?_
          refine va_get (D := G.1) (ci := 6) (v := .ref mg) (C := RX9) (T := TX9) (N := 21) hx hb hts hinX9 hown hK hP 0 rfl rfl 7 (by decide) hlk20 (fun _ h9 => h9) rfl dX9_addEdge_67 ?_
          refine lv_iconst (v := nI 0) hx hb dX9_addEdge_70 (by decide) ?_
          refine zi_ald hx hb hK hP 1 rfl (by omega) (by omega) dX9_addEdge_71 ?_
          have hm0 : zMp g x.toInt.toNat y.toInt.toNat z.toInt.toNat 0 = g 0 + 1 := by unfold zMp; rw [zU_same]
          refine lv_iconst (v := nI 1) hx hb dX9_addEdge_72 (by decide) ?_
          refine zi_sub hx hb dX9_addEdge_73 (by omega) ?_
          exact kret _ _ _ _ _ _ (congrArg nI (by omega)) rfl hP hD hS dX9_addEdge_74
        · skip
          exfalso; omega
      · skip
        exfalso; omega
    · skip
      exfalso; omega
set_option maxHeartbeats 400000 in
set_option maxRecDepth 100000 in
theorem c_X9_addEdge_bad (l : Launch) (G : zG) (m mt mp mg mc mh ms mu of1 ot1 oi1 ml md mw th ts ps V rm on : Nat) (pv : Int32) (sd : Int64) (g : Nat → Nat) (x y z : Int32) (hV : V ≤ 8) (hV1 : 1 ≤ V) (hg0 : g 0 ≤ 16) (hb0 : ¬ ((0 ≤ x.toInt ∧ x.toInt < V) ∧ (0 ≤ y.toInt ∧ y.toInt < V) ∧ (0 ≤ z.toInt ∧ z.toInt < 7) ∧ g 0 < 16)) : MI l yX9_addEdge wsX9_addEdge ({ frames := 2, cells := 0, slots := 0, locals := 46 }) G [.ref m, .int x, .int y, .int z] [(m, .inr (6, [.int (nI th), .ref mt, .int (nI ts), .int (nI ps), .int pv, .ref mp, .int (nI V), .ref mg, .ref mc, .ref mh, .int (nI rm), .ref ms, .ref mu, .int (nI on), .ref of1, .ref ot1, .ref oi1, .long sd, .ref ml, .ref md, .ref mw])), zA G mg 49 g] (zAdX (g 0) V x y z) [(m, .inr (6, [.int (nI 0), .ref mt, .int (nI ts), .int (nI ps), .int pv, .ref mp, .int (nI V), .ref mg, .ref mc, .ref mh, .int (nI rm), .ref ms, .ref mu, .int (nI on), .ref of1, .ref ot1, .ref oi1, .long sd, .ref ml, .ref md, .ref mw])), zA G mg 49 g] := by
  refine MI.enter (cc := cX9_addEdge) (maxL := 4) (by decide) rfl (Nat.le_of_ble_eq_true rfl) rfl ?_
  intro pM eM sM mM bM tM cM QM AM ls hat kret
  obtain ⟨SM, hA, hK, hE, hP, hD, hS, hl⟩ := hat
  have hx := SM.1
  have hb := SM.2.1
  have hown : sM.vm.findClass RX9 = some mM.cls := SM.2.2.2.1
  have hts := SM.2.2.2.2
  have hinX9 : ∀ w ∈ u_ws RX9 TX9 21, w ∈ wsX9_addEdge := by decide +kernel
  have hlk54 : (Cond.fieldLink RX9 54 "DyckReachabilityModel" "thrown" "I").before _ sM = true := hts _ (by decide +kernel)
  have hlk20 : (Cond.fieldLink RX9 20 "DyckReachabilityModel" "graph" "[I").before _ sM = true := hts _ (by decide +kernel)
  have hl : lv_has ls 4 [(0, .ref m), (1, .int x), (2, .int y), (3, .int z)] := hl
  refine lv_aload_n hx hb dX9_addEdge_0 rfl (lv_at hl 0 rfl) ?_
  refine lv_iconst (v := nI 0) hx hb dX9_addEdge_1 (by decide) ?_
  refine va_put (D := G.1) (ci := 6) (v := .int (nI 0)) (ty := .int) (C := RX9) (T := TX9) (N := 21) hx hb hts hinX9 tyX9 tyX9_ok nmX9 hown hK hP hD hS 0 rfl rfl 0 (by decide) hlk54 (fun _ h9 => h9) rfl (by decide +kernel) rfl rfl (Nat.le_of_ble_eq_true rfl) dX9_addEdge_2 (fun H locs hP hD hS => ?_)
  have hP : va_P G.1 vwCl [(m, .inr (6, [.int (nI 0), .ref mt, .int (nI ts), .int (nI ps), .int pv, .ref mp, .int (nI V), .ref mg, .ref mc, .ref mh, .int (nI rm), .ref ms, .ref mu, .int (nI on), .ref of1, .ref ot1, .ref oi1, .long sd, .ref ml, .ref md, .ref mw])), zA G mg 49 g] H := hP
  have hD : va_D AM [(m, .inr (6, [.int (nI 0), .ref mt, .int (nI ts), .int (nI ps), .int pv, .ref mp, .int (nI V), .ref mg, .ref mc, .ref mh, .int (nI rm), .ref ms, .ref mu, .int (nI on), .ref of1, .ref ot1, .ref oi1, .long sd, .ref ml, .ref md, .ref mw])), zA G mg 49 g] := hD
  refine lv_aload_n hx hb dX9_addEdge_5 rfl (lv_at hl 0 rfl) ?_
  refine lv_iload_n hx hb dX9_addEdge_6 rfl (lv_at hl 1 rfl) ?_
  refine zVi (W1 := [(m, .inr (6, [.int (nI 0), .ref mt, .int (nI ts), .int (nI ps), .int pv, .ref mp, .int (nI V), .ref mg, .ref mc, .ref mh, .int (nI rm), .ref ms, .ref mu, .int (nI on), .ref of1, .ref ot1, .ref oi1, .long sd, .ref ml, .ref md, .ref mw])), zA G mg 49 g]) (W2 := [(m, .inr (6, [.int (nI 0), .ref mt, .int (nI ts), .int (nI ps), .int pv, .ref mp, .int (nI V), .ref mg, .ref mc, .ref mh, .int (nI rm), .ref ms, .ref mu, .int (nI on), .ref of1, .ref ot1, .ref oi1, .long sd, .ref ml, .ref md, .ref mw])), zA G mg 49 g]) (wr := [zA G mg 49 g]) (rest := []) SM (c_X9_noVertex l G m mt mp mg mc mh ms mu of1 ot1 oi1 ml md mw 0 ts ps V rm on pv sd x (by first | assumption | omega) (by first | assumption | omega)) (cwV 1 hts gX9_addEdge_X9_noVertex rfl rfl rfl (by decide +kernel) ⟨Nat.le_of_ble_eq_true rfl, Nat.le_of_ble_eq_true rfl⟩) hK hE hA hP hD hS hl.1 [0] [1] [1, 0] rfl rfl rfl (by decide) (ci := 6) rfl rfl rfl rfl rfl (Nat.le_of_ble_eq_true rfl) ⟨Nat.zero_le _, Nat.zero_le _⟩ dX9_addEdge_7 (fun H locs hP hD hS => ?_)
  refine zb_ne (tgt := 21) hx hb dX9_addEdge_10 (by decide) (fun c_1 => ?_) (fun c_1 => ?_)
  · skip
    refine lv_iconst (v := (-1)) hx hb dX9_addEdge_21 (by decide) ?_
    exact kret _ _ _ _ _ _ (by unfold zAdX; repeat (first | rw [if_pos (by first | assumption | omega)] | rw [if_neg (by first | assumption | omega)])) rfl hP hD hS dX9_addEdge_22
  · skip
    refine lv_aload_n hx hb dX9_addEdge_13 rfl (lv_at hl 0 rfl) ?_
    refine lv_iload_n hx hb dX9_addEdge_14 rfl (lv_at hl 2 rfl) ?_
    refine zVi (W1 := [(m, .inr (6, [.int (nI 0), .ref mt, .int (nI ts), .int (nI ps), .int pv, .ref mp, .int (nI V), .ref mg, .ref mc, .ref mh, .int (nI rm), .ref ms, .ref mu, .int (nI on), .ref of1, .ref ot1, .ref oi1, .long sd, .ref ml, .ref md, .ref mw])), zA G mg 49 g]) (W2 := [(m, .inr (6, [.int (nI 0), .ref mt, .int (nI ts), .int (nI ps), .int pv, .ref mp, .int (nI V), .ref mg, .ref mc, .ref mh, .int (nI rm), .ref ms, .ref mu, .int (nI on), .ref of1, .ref ot1, .ref oi1, .long sd, .ref ml, .ref md, .ref mw])), zA G mg 49 g]) (wr := [zA G mg 49 g]) (rest := []) SM (c_X9_noVertex l G m mt mp mg mc mh ms mu of1 ot1 oi1 ml md mw 0 ts ps V rm on pv sd y (by first | assumption | omega) (by first | assumption | omega)) (cwV 1 hts gX9_addEdge_X9_noVertex rfl rfl rfl (by decide +kernel) ⟨Nat.le_of_ble_eq_true rfl, Nat.le_of_ble_eq_true rfl⟩) hK hE hA hP hD hS hl.1 [0] [1] [1, 0] rfl rfl rfl (by decide) (ci := 6) rfl rfl rfl rfl rfl (Nat.le_of_ble_eq_true rfl) ⟨Nat.zero_le _, Nat.zero_le _⟩ dX9_addEdge_15 (fun H locs hP hD hS => ?_)
    refine zb_eq (tgt := 23) hx hb dX9_addEdge_18 (by decide) (fun c_2 => ?_) (fun c_2 => ?_)
    · skip
      refine lv_iload_n hx hb dX9_addEdge_23 rfl (lv_at hl 3 rfl) ?_
      refine lv_i2l hx hb dX9_addEdge_24 rfl ?_
      refine lv_lconst (v := lN 0) hx hb dX9_addEdge_25 (by decide) ?_
      refine lv_ldc2 (v := lN 6) hx hb hown (hts (.constantLong RX9 132 (6)) (by decide +kernel)) dX9_addEdge_26 ?_
      refine zSi (W1 := [(m, .inr (6, [.int (nI 0), .ref mt, .int (nI ts), .int (nI ps), .int pv, .ref mp, .int (nI V), .ref mg, .ref mc, .ref mh, .int (nI rm), .ref ms, .ref mu, .int (nI on), .ref of1, .ref ot1, .ref oi1, .long sd, .ref ml, .ref md, .ref mw])), zA G mg 49 g]) (W2 := [(m, .inr (6, [.int (nI 0), .ref mt, .int (nI ts), .int (nI ps), .int pv, .ref mp, .int (nI V), .ref mg, .ref mc, .ref mh, .int (nI rm), .ref ms, .ref mu, .int (nI on), .ref of1, .ref ot1, .ref oi1, .long sd, .ref ml, .ref md, .ref mw])), zA G mg 49 g]) (wr := [(m, .inr (6, [.int (nI 0), .ref mt, .int (nI ts), .int (nI ps), .int pv, .ref mp, .int (nI V), .ref mg, .ref mc, .ref mh, .int (nI rm), .ref ms, .ref mu, .int (nI on), .ref of1, .ref ot1, .ref oi1, .long sd, .ref ml, .ref md, .ref mw])), zA G mg 49 g]) (rest := []) SM (c_X9_in_X l G (z) 0 6 (by first | assumption | omega) (by first | assumption | omega)) (va_cwS 3 hts gX9_addEdge_X9_in rfl rfl rfl (by decide +kernel) ⟨Nat.le_of_ble_eq_true rfl, Nat.le_of_ble_eq_true rfl⟩) hK hE hA hP hD hS hl.1 [] [0, 1] [0, 1] rfl rfl rfl (by decide) rfl rfl (Nat.le_of_ble_eq_true rfl) ⟨Nat.zero_le _, Nat.zero_le _⟩ dX9_addEdge_29 (fun H locs hP hD hS => ?_)
      refine zb_ne (tgt := 38) hx hb dX9_addEdge_32 (by decide) (fun c_3 => ?_) (fun c_3 => ?_)
      · skip
        refine lv_aload_n hx hb dX9_addEdge_38 rfl (lv_at hl 0 rfl) ?_
        refine va_get (D := G.1) (ci := 6) (v := .ref mg) (C := RX9) (T := TX9) (N := 21) hx hb hts hinX9 hown hK hP 0 rfl rfl 7 (by decide) hlk20 (fun _ h9 => h9) rfl dX9_addEdge_39 ?_
        refine lv_iconst (v := nI 0) hx hb dX9_addEdge_42 (by decide) ?_
        refine zi_ald hx hb hK hP 1 rfl (by omega) (by omega) dX9_addEdge_43 ?_
        refine lv_bipush (v := nI 16) hx hb dX9_addEdge_44 (by decide) ?_
        refine zn_ne (tgt := 52) hx hb dX9_addEdge_46 (by decide) (by omega) (by omega) (fun c_4 => ?_) (fun c_4 => ?_)
        · skip
          exfalso; omega
        · skip
          refine lv_bipush (v := (-4)) hx hb dX9_addEdge_49 (by decide) ?_
          exact kret _ _ _ _ _ _ (by unfold zAdX; repeat (first | rw [if_pos (by first | assumption | omega)] | rw [if_neg (by first | assumption | omega)])) rfl hP hD hS dX9_addEdge_51
      · skip
        refine lv_bipush (v := (-2)) hx hb dX9_addEdge_35 (by decide) ?_
        exact kret _ _ _ _ _ _ (by unfold zAdX; repeat (first | rw [if_pos (by first | assumption | omega)] | rw [if_neg (by first | assumption | omega)])) rfl hP hD hS dX9_addEdge_37
    · skip
      refine lv_iconst (v := (-1)) hx hb dX9_addEdge_21 (by decide) ?_
      exact kret _ _ _ _ _ _ (by unfold zAdX; repeat (first | rw [if_pos (by first | assumption | omega)] | rw [if_neg (by first | assumption | omega)])) rfl hP hD hS dX9_addEdge_22
set_option maxHeartbeats 400000 in
set_option maxRecDepth 100000 in
theorem c_X9_removeEdge_ok (l : Launch) (G : zG) (m mt mp mg mc mh ms mu of1 ot1 oi1 ml md mw th ts ps V rm on : Nat) (pv : Int32) (sd : Int64) (g : Nat → Nat) (hh : Nat → Nat) (x : Int32) (hrm : rm ≤ 14) (hg0 : g 0 ≤ 16) (hx : 0 ≤ x.toInt ∧ x.toInt < g 0) : MI l yX9_removeEdge wsX9_removeEdge ({ frames := 2, cells := 0, slots := 0, locals := 46 }) G [.ref m, .int x] [(m, .inr (6, [.int (nI th), .ref mt, .int (nI ts), .int (nI ps), .int pv, .ref mp, .int (nI V), .ref mg, .ref mc, .ref mh, .int (nI rm), .ref ms, .ref mu, .int (nI on), .ref of1, .ref ot1, .ref oi1, .long sd, .ref ml, .ref md, .ref mw])), zA G mg 49 g, zA G mh 686 hh] (nI (g 0 - 1)) [(m, .inr (6, [.int (nI 0), .ref mt, .int (nI ts), .int (nI ps), .int pv, .ref mp, .int (nI V), .ref mg, .ref mc, .ref mh, .int (nI (mRemN rm)), .ref ms, .ref mu, .int (nI on), .ref of1, .ref ot1, .ref oi1, .long sd, .ref ml, .ref md, .ref mw])), zA G mg 49 (zMd g x.toInt.toNat), zA G mh 686 (mRemH hh g rm)] := by
  refine MI.enter (cc := cX9_removeEdge) (maxL := 2) (by decide) rfl (Nat.le_of_ble_eq_true rfl) rfl ?_
  intro pM eM sM mM bM tM cM QM AM ls hat kret
  obtain ⟨SM, hA, hK, hE, hP, hD, hS, hl⟩ := hat
  have hx := SM.1
  have hb := SM.2.1
  have hown : sM.vm.findClass RX9 = some mM.cls := SM.2.2.2.1
  have hts := SM.2.2.2.2
  have hinX9 : ∀ w ∈ u_ws RX9 TX9 21, w ∈ wsX9_removeEdge := by decide +kernel
  have hlk54 : (Cond.fieldLink RX9 54 "DyckReachabilityModel" "thrown" "I").before _ sM = true := hts _ (by decide +kernel)
  have hlk20 : (Cond.fieldLink RX9 20 "DyckReachabilityModel" "graph" "[I").before _ sM = true := hts _ (by decide +kernel)
  have hl : lv_has ls 2 [(0, .ref m), (1, .int x)] := hl
  refine lv_aload_n hx hb dX9_removeEdge_0 rfl (lv_at hl 0 rfl) ?_
  refine lv_iconst (v := nI 0) hx hb dX9_removeEdge_1 (by decide) ?_
  refine va_put (D := G.1) (ci := 6) (v := .int (nI 0)) (ty := .int) (C := RX9) (T := TX9) (N := 21) hx hb hts hinX9 tyX9 tyX9_ok nmX9 hown hK hP hD hS 0 rfl rfl 0 (by decide) hlk54 (fun _ h9 => h9) rfl (by decide +kernel) rfl rfl (Nat.le_of_ble_eq_true rfl) dX9_removeEdge_2 (fun H locs hP hD hS => ?_)
  have hP : va_P G.1 vwCl [(m, .inr (6, [.int (nI 0), .ref mt, .int (nI ts), .int (nI ps), .int pv, .ref mp, .int (nI V), .ref mg, .ref mc, .ref mh, .int (nI rm), .ref ms, .ref mu, .int (nI on), .ref of1, .ref ot1, .ref oi1, .long sd, .ref ml, .ref md, .ref mw])), zA G mg 49 g, zA G mh 686 hh] H := hP
  have hD : va_D AM [(m, .inr (6, [.int (nI 0), .ref mt, .int (nI ts), .int (nI ps), .int pv, .ref mp, .int (nI V), .ref mg, .ref mc, .ref mh, .int (nI rm), .ref ms, .ref mu, .int (nI on), .ref of1, .ref ot1, .ref oi1, .long sd, .ref ml, .ref md, .ref mw])), zA G mg 49 g, zA G mh 686 hh] := hD
  refine lv_aload_n hx hb dX9_removeEdge_5 rfl (lv_at hl 0 rfl) ?_
  refine lv_iload_n hx hb dX9_removeEdge_6 rfl (lv_at hl 1 rfl) ?_
  refine zVi (W1 := [(m, .inr (6, [.int (nI 0), .ref mt, .int (nI ts), .int (nI ps), .int pv, .ref mp, .int (nI V), .ref mg, .ref mc, .ref mh, .int (nI rm), .ref ms, .ref mu, .int (nI on), .ref of1, .ref ot1, .ref oi1, .long sd, .ref ml, .ref md, .ref mw])), zA G mg 49 g, zA G mh 686 hh]) (W2 := [(m, .inr (6, [.int (nI 0), .ref mt, .int (nI ts), .int (nI ps), .int pv, .ref mp, .int (nI V), .ref mg, .ref mc, .ref mh, .int (nI rm), .ref ms, .ref mu, .int (nI on), .ref of1, .ref ot1, .ref oi1, .long sd, .ref ml, .ref md, .ref mw])), zA G mg 49 g, zA G mh 686 hh]) (wr := [zA G mh 686 hh]) (rest := []) SM (c_X9_noEdge l G m mt mp mg mc mh ms mu of1 ot1 oi1 ml md mw 0 ts ps V rm on pv sd g x (by first | assumption | omega)) (cwV 1 hts gX9_removeEdge_X9_noEdge rfl rfl rfl (by decide +kernel) ⟨Nat.le_of_ble_eq_true rfl, Nat.le_of_ble_eq_true rfl⟩) hK hE hA hP hD hS hl.1 [0, 1] [2] [1, 2, 0] rfl rfl rfl (by decide) (ci := 6) rfl rfl rfl rfl rfl (Nat.le_of_ble_eq_true rfl) ⟨Nat.zero_le _, Nat.zero_le _⟩ dX9_removeEdge_7 (fun H locs hP hD hS => ?_)
  refine zb_eq (tgt := 15) hx hb dX9_removeEdge_10 (by decide) (fun c_1 => ?_) (fun c_1 => ?_)
  · skip
    have hl : lv_has ls 2 [(0, .ref m), (1, .int (nI x.toInt.toNat))] := by rw [← xN_eq (x := x) (by omega)]; exact hl
    refine lv_aload_n hx hb dX9_removeEdge_15 rfl (lv_at hl 0 rfl) ?_
    refine zVv (W1 := [(m, .inr (6, [.int (nI 0), .ref mt, .int (nI ts), .int (nI ps), .int pv, .ref mp, .int (nI V), .ref mg, .ref mc, .ref mh, .int (nI rm), .ref ms, .ref mu, .int (nI on), .ref of1, .ref ot1, .ref oi1, .long sd, .ref ml, .ref md, .ref mw])), zA G mg 49 g, zA G mh 686 hh]) (W2 := [(m, .inr (6, [.int (nI 0), .ref mt, .int (nI ts), .int (nI ps), .int pv, .ref mp, .int (nI V), .ref mg, .ref mc, .ref mh, .int (nI (mRemN rm)), .ref ms, .ref mu, .int (nI on), .ref of1, .ref ot1, .ref oi1, .long sd, .ref ml, .ref md, .ref mw])), zA G mg 49 g, zA G mh 686 (mRemH hh g rm)]) (wr := []) (rest := []) SM (c_X9_remember l G m mt mp mg mc mh ms mu of1 ot1 oi1 ml md mw 0 ts ps V rm on pv sd g hh (by first | assumption | omega)) (cwV 0 hts gX9_removeEdge_X9_remember rfl rfl rfl (by decide +kernel) ⟨Nat.le_of_ble_eq_true rfl, Nat.le_of_ble_eq_true rfl⟩) hK hE hA hP hD hS hl.1 [0, 1, 2] [] [0, 1, 2] rfl rfl rfl (by decide) (ci := 6) rfl rfl rfl rfl rfl (Nat.le_of_ble_eq_true rfl) ⟨Nat.zero_le _, Nat.zero_le _⟩ dX9_removeEdge_16 (fun H locs hP hD hS => ?_)
    refine lv_aload_n hx hb dX9_removeEdge_19 rfl (lv_at hl 0 rfl) ?_
    refine va_get (D := G.1) (ci := 6) (v := .ref mg) (C := RX9) (T := TX9) (N := 21) hx hb hts hinX9 hown hK hP 0 rfl rfl 7 (by decide) hlk20 (fun _ h9 => h9) rfl dX9_removeEdge_20 ?_
    refine lv_iload_n hx hb dX9_removeEdge_23 rfl (lv_at hl 1 rfl) ?_
    refine zSv (W1 := [(m, .inr (6, [.int (nI 0), .ref mt, .int (nI ts), .int (nI ps), .int pv, .ref mp, .int (nI V), .ref mg, .ref mc, .ref mh, .int (nI (mRemN rm)), .ref ms, .ref mu, .int (nI on), .ref of1, .ref ot1, .ref oi1, .long sd, .ref ml, .ref md, .ref mw])), zA G mg 49 g, zA G mh 686 (mRemH hh g rm)]) (W2 := [(m, .inr (6, [.int (nI 0), .ref mt, .int (nI ts), .int (nI ps), .int pv, .ref mp, .int (nI V), .ref mg, .ref mc, .ref mh, .int (nI (mRemN rm)), .ref ms, .ref mu, .int (nI on), .ref of1, .ref ot1, .ref oi1, .long sd, .ref ml, .ref md, .ref mw])), zA G mg 49 (zMd g x.toInt.toNat), zA G mh 686 (mRemH hh g rm)]) (wr := [(m, .inr (6, [.int (nI 0), .ref mt, .int (nI ts), .int (nI ps), .int pv, .ref mp, .int (nI V), .ref mg, .ref mc, .ref mh, .int (nI (mRemN rm)), .ref ms, .ref mu, .int (nI on), .ref of1, .ref ot1, .ref oi1, .long sd, .ref ml, .ref md, .ref mw])), zA G mh 686 (mRemH hh g rm)]) (rest := []) SM (c_X9_drop l G mg g x.toInt.toNat (by first | assumption | omega) (by first | assumption | omega)) (va_cwS 2 hts gX9_removeEdge_X9_drop rfl rfl rfl (by decide +kernel) ⟨Nat.le_of_ble_eq_true rfl, Nat.le_of_ble_eq_true rfl⟩) hK hE hA hP hD hS hl.1 [1] [0, 2] [0, 2, 1] rfl rfl rfl (by decide) rfl rfl (Nat.le_of_ble_eq_true rfl) ⟨Nat.zero_le _, Nat.zero_le _⟩ dX9_removeEdge_24 (fun H locs hP hD hS => ?_)
    refine lv_aload_n hx hb dX9_removeEdge_27 rfl (lv_at hl 0 rfl) ?_
    refine va_get (D := G.1) (ci := 6) (v := .ref mg) (C := RX9) (T := TX9) (N := 21) hx hb hts hinX9 hown hK hP 0 rfl rfl 7 (by decide) hlk20 (fun _ h9 => h9) rfl dX9_removeEdge_28 ?_
    refine lv_iconst (v := nI 0) hx hb dX9_removeEdge_31 (by decide) ?_
    refine zi_ald hx hb hK hP 1 rfl (by omega) (by omega) dX9_removeEdge_32 ?_
    exact kret _ _ _ _ _ _ (congrArg nI (by unfold zMd; rw [zU_same])) rfl hP hD hS dX9_removeEdge_33
  · skip
    exfalso; omega
set_option maxHeartbeats 400000 in
set_option maxRecDepth 100000 in
theorem c_X9_removeEdge_bad (l : Launch) (G : zG) (m mt mp mg mc mh ms mu of1 ot1 oi1 ml md mw th ts ps V rm on : Nat) (pv : Int32) (sd : Int64) (g : Nat → Nat) (x : Int32) (hg0 : g 0 ≤ 16) (hb0 : ¬ (0 ≤ x.toInt ∧ x.toInt < g 0)) : MI l yX9_removeEdge wsX9_removeEdge ({ frames := 2, cells := 0, slots := 0, locals := 46 }) G [.ref m, .int x] [(m, .inr (6, [.int (nI th), .ref mt, .int (nI ts), .int (nI ps), .int pv, .ref mp, .int (nI V), .ref mg, .ref mc, .ref mh, .int (nI rm), .ref ms, .ref mu, .int (nI on), .ref of1, .ref ot1, .ref oi1, .long sd, .ref ml, .ref md, .ref mw])), zA G mg 49 g] (-1) [(m, .inr (6, [.int (nI 0), .ref mt, .int (nI ts), .int (nI ps), .int pv, .ref mp, .int (nI V), .ref mg, .ref mc, .ref mh, .int (nI rm), .ref ms, .ref mu, .int (nI on), .ref of1, .ref ot1, .ref oi1, .long sd, .ref ml, .ref md, .ref mw])), zA G mg 49 g] := by
  refine MI.enter (cc := cX9_removeEdge) (maxL := 2) (by decide) rfl (Nat.le_of_ble_eq_true rfl) rfl ?_
  intro pM eM sM mM bM tM cM QM AM ls hat kret
  obtain ⟨SM, hA, hK, hE, hP, hD, hS, hl⟩ := hat
  have hx := SM.1
  have hb := SM.2.1
  have hown : sM.vm.findClass RX9 = some mM.cls := SM.2.2.2.1
  have hts := SM.2.2.2.2
  have hinX9 : ∀ w ∈ u_ws RX9 TX9 21, w ∈ wsX9_removeEdge := by decide +kernel
  have hlk54 : (Cond.fieldLink RX9 54 "DyckReachabilityModel" "thrown" "I").before _ sM = true := hts _ (by decide +kernel)
  have hl : lv_has ls 2 [(0, .ref m), (1, .int x)] := hl
  refine lv_aload_n hx hb dX9_removeEdge_0 rfl (lv_at hl 0 rfl) ?_
  refine lv_iconst (v := nI 0) hx hb dX9_removeEdge_1 (by decide) ?_
  refine va_put (D := G.1) (ci := 6) (v := .int (nI 0)) (ty := .int) (C := RX9) (T := TX9) (N := 21) hx hb hts hinX9 tyX9 tyX9_ok nmX9 hown hK hP hD hS 0 rfl rfl 0 (by decide) hlk54 (fun _ h9 => h9) rfl (by decide +kernel) rfl rfl (Nat.le_of_ble_eq_true rfl) dX9_removeEdge_2 (fun H locs hP hD hS => ?_)
  have hP : va_P G.1 vwCl [(m, .inr (6, [.int (nI 0), .ref mt, .int (nI ts), .int (nI ps), .int pv, .ref mp, .int (nI V), .ref mg, .ref mc, .ref mh, .int (nI rm), .ref ms, .ref mu, .int (nI on), .ref of1, .ref ot1, .ref oi1, .long sd, .ref ml, .ref md, .ref mw])), zA G mg 49 g] H := hP
  have hD : va_D AM [(m, .inr (6, [.int (nI 0), .ref mt, .int (nI ts), .int (nI ps), .int pv, .ref mp, .int (nI V), .ref mg, .ref mc, .ref mh, .int (nI rm), .ref ms, .ref mu, .int (nI on), .ref of1, .ref ot1, .ref oi1, .long sd, .ref ml, .ref md, .ref mw])), zA G mg 49 g] := hD
  refine lv_aload_n hx hb dX9_removeEdge_5 rfl (lv_at hl 0 rfl) ?_
  refine lv_iload_n hx hb dX9_removeEdge_6 rfl (lv_at hl 1 rfl) ?_
  refine zVi (W1 := [(m, .inr (6, [.int (nI 0), .ref mt, .int (nI ts), .int (nI ps), .int pv, .ref mp, .int (nI V), .ref mg, .ref mc, .ref mh, .int (nI rm), .ref ms, .ref mu, .int (nI on), .ref of1, .ref ot1, .ref oi1, .long sd, .ref ml, .ref md, .ref mw])), zA G mg 49 g]) (W2 := [(m, .inr (6, [.int (nI 0), .ref mt, .int (nI ts), .int (nI ps), .int pv, .ref mp, .int (nI V), .ref mg, .ref mc, .ref mh, .int (nI rm), .ref ms, .ref mu, .int (nI on), .ref of1, .ref ot1, .ref oi1, .long sd, .ref ml, .ref md, .ref mw])), zA G mg 49 g]) (wr := []) (rest := []) SM (c_X9_noEdge l G m mt mp mg mc mh ms mu of1 ot1 oi1 ml md mw 0 ts ps V rm on pv sd g x (by first | assumption | omega)) (cwV 1 hts gX9_removeEdge_X9_noEdge rfl rfl rfl (by decide +kernel) ⟨Nat.le_of_ble_eq_true rfl, Nat.le_of_ble_eq_true rfl⟩) hK hE hA hP hD hS hl.1 [0, 1] [] [0, 1] rfl rfl rfl (by decide) (ci := 6) rfl rfl rfl rfl rfl (Nat.le_of_ble_eq_true rfl) ⟨Nat.zero_le _, Nat.zero_le _⟩ dX9_removeEdge_7 (fun H locs hP hD hS => ?_)
  refine zb_eq (tgt := 15) hx hb dX9_removeEdge_10 (by decide) (fun c_1 => ?_) (fun c_1 => ?_)
  · skip
    exfalso; omega
  · skip
    refine lv_iconst (v := (-1)) hx hb dX9_removeEdge_13 (by decide) ?_
    exact kret _ _ _ _ _ _ rfl rfl hP hD hS dX9_removeEdge_14
set_option maxHeartbeats 400000 in
set_option maxRecDepth 100000 in
theorem c_X9_setLabel_ok (l : Launch) (G : zG) (m mt mp mg mc mh ms mu of1 ot1 oi1 ml md mw th ts ps V rm on : Nat) (pv : Int32) (sd : Int64) (g : Nat → Nat) (hh : Nat → Nat) (x z : Int32) (hrm : rm ≤ 14) (hg0 : g 0 ≤ 16) (hx : 0 ≤ x.toInt ∧ x.toInt < g 0) (hz : 0 ≤ z.toInt ∧ z.toInt < 7) : MI l yX9_setLabel wsX9_setLabel ({ frames := 2, cells := 0, slots := 0, locals := 46 }) G [.ref m, .int x, .int z] [(m, .inr (6, [.int (nI th), .ref mt, .int (nI ts), .int (nI ps), .int pv, .ref mp, .int (nI V), .ref mg, .ref mc, .ref mh, .int (nI rm), .ref ms, .ref mu, .int (nI on), .ref of1, .ref ot1, .ref oi1, .long sd, .ref ml, .ref md, .ref mw])), zA G mg 49 g, zA G mh 686 hh] (nI (g (3 + 3 * x.toInt.toNat))) [(m, .inr (6, [.int (nI 0), .ref mt, .int (nI ts), .int (nI ps), .int pv, .ref mp, .int (nI V), .ref mg, .ref mc, .ref mh, .int (nI (mRemN rm)), .ref ms, .ref mu, .int (nI on), .ref of1, .ref ot1, .ref oi1, .long sd, .ref ml, .ref md, .ref mw])), zA G mg 49 (zU g (3 + 3 * x.toInt.toNat) z.toInt.toNat), zA G mh 686 (mRemH hh g rm)] := by
  refine MI.enter (cc := cX9_setLabel) (maxL := 4) (by decide) rfl (Nat.le_of_ble_eq_true rfl) rfl ?_
  intro pM eM sM mM bM tM cM QM AM ls hat kret
  obtain ⟨SM, hA, hK, hE, hP, hD, hS, hl⟩ := hat
  have hx := SM.1
  have hb := SM.2.1
  have hown : sM.vm.findClass RX9 = some mM.cls := SM.2.2.2.1
  have hts := SM.2.2.2.2
  have hinX9 : ∀ w ∈ u_ws RX9 TX9 21, w ∈ wsX9_setLabel := by decide +kernel
  have hlk54 : (Cond.fieldLink RX9 54 "DyckReachabilityModel" "thrown" "I").before _ sM = true := hts _ (by decide +kernel)
  have hlk20 : (Cond.fieldLink RX9 20 "DyckReachabilityModel" "graph" "[I").before _ sM = true := hts _ (by decide +kernel)
  have hl : lv_has ls 4 [(0, .ref m), (1, .int x), (2, .int z)] := hl
  refine lv_aload_n hx hb dX9_setLabel_0 rfl (lv_at hl 0 rfl) ?_
  refine lv_iconst (v := nI 0) hx hb dX9_setLabel_1 (by decide) ?_
  refine va_put (D := G.1) (ci := 6) (v := .int (nI 0)) (ty := .int) (C := RX9) (T := TX9) (N := 21) hx hb hts hinX9 tyX9 tyX9_ok nmX9 hown hK hP hD hS 0 rfl rfl 0 (by decide) hlk54 (fun _ h9 => h9) rfl (by decide +kernel) rfl rfl (Nat.le_of_ble_eq_true rfl) dX9_setLabel_2 (fun H locs hP hD hS => ?_)
  have hP : va_P G.1 vwCl [(m, .inr (6, [.int (nI 0), .ref mt, .int (nI ts), .int (nI ps), .int pv, .ref mp, .int (nI V), .ref mg, .ref mc, .ref mh, .int (nI rm), .ref ms, .ref mu, .int (nI on), .ref of1, .ref ot1, .ref oi1, .long sd, .ref ml, .ref md, .ref mw])), zA G mg 49 g, zA G mh 686 hh] H := hP
  have hD : va_D AM [(m, .inr (6, [.int (nI 0), .ref mt, .int (nI ts), .int (nI ps), .int pv, .ref mp, .int (nI V), .ref mg, .ref mc, .ref mh, .int (nI rm), .ref ms, .ref mu, .int (nI on), .ref of1, .ref ot1, .ref oi1, .long sd, .ref ml, .ref md, .ref mw])), zA G mg 49 g, zA G mh 686 hh] := hD
  refine lv_aload_n hx hb dX9_setLabel_5 rfl (lv_at hl 0 rfl) ?_
  refine lv_iload_n hx hb dX9_setLabel_6 rfl (lv_at hl 1 rfl) ?_
  refine zVi (W1 := [(m, .inr (6, [.int (nI 0), .ref mt, .int (nI ts), .int (nI ps), .int pv, .ref mp, .int (nI V), .ref mg, .ref mc, .ref mh, .int (nI rm), .ref ms, .ref mu, .int (nI on), .ref of1, .ref ot1, .ref oi1, .long sd, .ref ml, .ref md, .ref mw])), zA G mg 49 g, zA G mh 686 hh]) (W2 := [(m, .inr (6, [.int (nI 0), .ref mt, .int (nI ts), .int (nI ps), .int pv, .ref mp, .int (nI V), .ref mg, .ref mc, .ref mh, .int (nI rm), .ref ms, .ref mu, .int (nI on), .ref of1, .ref ot1, .ref oi1, .long sd, .ref ml, .ref md, .ref mw])), zA G mg 49 g, zA G mh 686 hh]) (wr := [zA G mh 686 hh]) (rest := []) SM (c_X9_noEdge l G m mt mp mg mc mh ms mu of1 ot1 oi1 ml md mw 0 ts ps V rm on pv sd g x (by first | assumption | omega)) (cwV 1 hts gX9_setLabel_X9_noEdge rfl rfl rfl (by decide +kernel) ⟨Nat.le_of_ble_eq_true rfl, Nat.le_of_ble_eq_true rfl⟩) hK hE hA hP hD hS hl.1 [0, 1] [2] [1, 2, 0] rfl rfl rfl (by decide) (ci := 6) rfl rfl rfl rfl rfl (Nat.le_of_ble_eq_true rfl) ⟨Nat.zero_le _, Nat.zero_le _⟩ dX9_setLabel_7 (fun H locs hP hD hS => ?_)
  refine zb_eq (tgt := 15) hx hb dX9_setLabel_10 (by decide) (fun c_1 => ?_) (fun c_1 => ?_)
  · skip
    refine lv_iload_n hx hb dX9_setLabel_15 rfl (lv_at hl 2 rfl) ?_
    refine lv_i2l hx hb dX9_setLabel_16 rfl ?_
    refine lv_lconst (v := lN 0) hx hb dX9_setLabel_17 (by decide) ?_
    refine lv_ldc2 (v := lN 6) hx hb hown (hts (.constantLong RX9 132 (6)) (by decide +kernel)) dX9_setLabel_18 ?_
    refine zSi (W1 := [(m, .inr (6, [.int (nI 0), .ref mt, .int (nI ts), .int (nI ps), .int pv, .ref mp, .int (nI V), .ref mg, .ref mc, .ref mh, .int (nI rm), .ref ms, .ref mu, .int (nI on), .ref of1, .ref ot1, .ref oi1, .long sd, .ref ml, .ref md, .ref mw])), zA G mg 49 g, zA G mh 686 hh]) (W2 := [(m, .inr (6, [.int (nI 0), .ref mt, .int (nI ts), .int (nI ps), .int pv, .ref mp, .int (nI V), .ref mg, .ref mc, .ref mh, .int (nI rm), .ref ms, .ref mu, .int (nI on), .ref of1, .ref ot1, .ref oi1, .long sd, .ref ml, .ref md, .ref mw])), zA G mg 49 g, zA G mh 686 hh]) (wr := [(m, .inr (6, [.int (nI 0), .ref mt, .int (nI ts), .int (nI ps), .int pv, .ref mp, .int (nI V), .ref mg, .ref mc, .ref mh, .int (nI rm), .ref ms, .ref mu, .int (nI on), .ref of1, .ref ot1, .ref oi1, .long sd, .ref ml, .ref md, .ref mw])), zA G mg 49 g, zA G mh 686 hh]) (rest := []) SM (c_X9_in_X l G (z) 0 6 (by first | assumption | omega) (by first | assumption | omega)) (va_cwS 3 hts gX9_setLabel_X9_in rfl rfl rfl (by decide +kernel) ⟨Nat.le_of_ble_eq_true rfl, Nat.le_of_ble_eq_true rfl⟩) hK hE hA hP hD hS hl.1 [] [0, 1, 2] [0, 1, 2] rfl rfl rfl (by decide) rfl rfl (Nat.le_of_ble_eq_true rfl) ⟨Nat.zero_le _, Nat.zero_le _⟩ dX9_setLabel_21 (fun H locs hP hD hS => ?_)
    refine zb_ne (tgt := 30) hx hb dX9_setLabel_24 (by decide) (fun c_2 => ?_) (fun c_2 => ?_)
    · skip
      have hl : lv_has ls 4 [(0, .ref m), (1, .int (nI x.toInt.toNat)), (2, .int (nI z.toInt.toNat))] := by rw [← xN_eq (x := x) (by omega), ← xN_eq (x := z) (by omega)]; exact hl
      refine lv_aload_n hx hb dX9_setLabel_30 rfl (lv_at hl 0 rfl) ?_
      refine zVv (W1 := [(m, .inr (6, [.int (nI 0), .ref mt, .int (nI ts), .int (nI ps), .int pv, .ref mp, .int (nI V), .ref mg, .ref mc, .ref mh, .int (nI rm), .ref ms, .ref mu, .int (nI on), .ref of1, .ref ot1, .ref oi1, .long sd, .ref ml, .ref md, .ref mw])), zA G mg 49 g, zA G mh 686 hh]) (W2 := [(m, .inr (6, [.int (nI 0), .ref mt, .int (nI ts), .int (nI ps), .int pv, .ref mp, .int (nI V), .ref mg, .ref mc, .ref mh, .int (nI (mRemN rm)), .ref ms, .ref mu, .int (nI on), .ref of1, .ref ot1, .ref oi1, .long sd, .ref ml, .ref md, .ref mw])), zA G mg 49 g, zA G mh 686 (mRemH hh g rm)]) (wr := []) (rest := []) SM (c_X9_remember l G m mt mp mg mc mh ms mu of1 ot1 oi1 ml md mw 0 ts ps V rm on pv sd g hh (by first | assumption | omega)) (cwV 0 hts gX9_setLabel_X9_remember rfl rfl rfl (by decide +kernel) ⟨Nat.le_of_ble_eq_true rfl, Nat.le_of_ble_eq_true rfl⟩) hK hE hA hP hD hS hl.1 [0, 1, 2] [] [0, 1, 2] rfl rfl rfl (by decide) (ci := 6) rfl rfl rfl rfl rfl (Nat.le_of_ble_eq_true rfl) ⟨Nat.zero_le _, Nat.zero_le _⟩ dX9_setLabel_31 (fun H locs hP hD hS => ?_)
      refine lv_aload_n hx hb dX9_setLabel_34 rfl (lv_at hl 0 rfl) ?_
      refine va_get (D := G.1) (ci := 6) (v := .ref mg) (C := RX9) (T := TX9) (N := 21) hx hb hts hinX9 hown hK hP 0 rfl rfl 7 (by decide) hlk20 (fun _ h9 => h9) rfl dX9_setLabel_35 ?_
      refine lv_iconst (v := nI 3) hx hb dX9_setLabel_38 (by decide) ?_
      refine lv_iconst (v := nI 3) hx hb dX9_setLabel_39 (by decide) ?_
      refine lv_iload_n hx hb dX9_setLabel_40 rfl (lv_at hl 1 rfl) ?_
      refine zi_mul hx hb dX9_setLabel_41 ?_
      refine zi_addk (n := 3 + (3 * x.toInt.toNat)) hx hb dX9_setLabel_42 (by omega) ?_
      refine zi_ald hx hb hK hP 1 rfl (by omega) (by omega) dX9_setLabel_43 ?_
      refine lv_istore_n (lv' := [(3, .int (nI (g (3 + (3 * x.toInt.toNat))))), (0, .ref m), (1, .int (nI x.toInt.toNat)), (2, .int (nI z.toInt.toNat))]) hx hb dX9_setLabel_44 rfl hl (by decide) rfl (fun ls hl => ?_)
      refine lv_aload_n hx hb dX9_setLabel_45 rfl (lv_at hl 1 rfl) ?_
      refine va_get (D := G.1) (ci := 6) (v := .ref mg) (C := RX9) (T := TX9) (N := 21) hx hb hts hinX9 hown hK hP 0 rfl rfl 7 (by decide) hlk20 (fun _ h9 => h9) rfl dX9_setLabel_46 ?_
      refine lv_iconst (v := nI 3) hx hb dX9_setLabel_49 (by decide) ?_
      refine lv_iconst (v := nI 3) hx hb dX9_setLabel_50 (by decide) ?_
      refine lv_iload_n hx hb dX9_setLabel_51 rfl (lv_at hl 2 rfl) ?_
      refine zi_mul hx hb dX9_setLabel_52 ?_
      refine zi_addk (n := 3 + (3 * x.toInt.toNat)) hx hb dX9_setLabel_53 (by omega) ?_
      refine lv_iload_n hx hb dX9_setLabel_54 rfl (lv_at hl 3 rfl) ?_
      refine zi_ast hx hb hK hP hD hS 1 rfl (by omega) (by omega) dX9_setLabel_55 (fun H locs hP hD hS => ?_)
      have hP : va_P G.1 vwCl [(m, .inr (6, [.int (nI 0), .ref mt, .int (nI ts), .int (nI ps), .int pv, .ref mp, .int (nI V), .ref mg, .ref mc, .ref mh, .int (nI (mRemN rm)), .ref ms, .ref mu, .int (nI on), .ref of1, .ref ot1, .ref oi1, .long sd, .ref ml, .ref md, .ref mw])), zA G mg 49 (zU g (3 + (3 * x.toInt.toNat)) z.toInt.toNat), zA G mh 686 (mRemH hh g rm)] H := hP
      have hD : va_D AM [(m, .inr (6, [.int (nI 0), .ref mt, .int (nI ts), .int (nI ps), .int pv, .ref mp, .int (nI V), .ref mg, .ref mc, .ref mh, .int (nI (mRemN rm)), .ref ms, .ref mu, .int (nI on), .ref of1, .ref ot1, .ref oi1, .long sd, .ref ml, .ref md, .ref mw])), zA G mg 49 (zU g (3 + (3 * x.toInt.toNat)) z.toInt.toNat), zA G mh 686 (mRemH hh g rm)] := hD
      refine lv_iload_n hx hb dX9_setLabel_56 rfl (lv_at hl 0 rfl) ?_
      exact kret _ _ _ _ _ _ (congrArg nI (by omega)) rfl hP hD hS dX9_setLabel_57
    · skip
      exfalso; omega
  · skip
    exfalso; omega
set_option maxHeartbeats 400000 in
set_option maxRecDepth 100000 in
theorem c_X9_setLabel_bad (l : Launch) (G : zG) (m mt mp mg mc mh ms mu of1 ot1 oi1 ml md mw th ts ps V rm on : Nat) (pv : Int32) (sd : Int64) (g : Nat → Nat) (x z : Int32) (hg0 : g 0 ≤ 16) (hb0 : ¬ ((0 ≤ x.toInt ∧ x.toInt < g 0) ∧ (0 ≤ z.toInt ∧ z.toInt < 7))) : MI l yX9_setLabel wsX9_setLabel ({ frames := 2, cells := 0, slots := 0, locals := 46 }) G [.ref m, .int x, .int z] [(m, .inr (6, [.int (nI th), .ref mt, .int (nI ts), .int (nI ps), .int pv, .ref mp, .int (nI V), .ref mg, .ref mc, .ref mh, .int (nI rm), .ref ms, .ref mu, .int (nI on), .ref of1, .ref ot1, .ref oi1, .long sd, .ref ml, .ref md, .ref mw])), zA G mg 49 g] (zSlX (g 0) x z) [(m, .inr (6, [.int (nI 0), .ref mt, .int (nI ts), .int (nI ps), .int pv, .ref mp, .int (nI V), .ref mg, .ref mc, .ref mh, .int (nI rm), .ref ms, .ref mu, .int (nI on), .ref of1, .ref ot1, .ref oi1, .long sd, .ref ml, .ref md, .ref mw])), zA G mg 49 g] := by
  refine MI.enter (cc := cX9_setLabel) (maxL := 4) (by decide) rfl (Nat.le_of_ble_eq_true rfl) rfl ?_
  intro pM eM sM mM bM tM cM QM AM ls hat kret
  obtain ⟨SM, hA, hK, hE, hP, hD, hS, hl⟩ := hat
  have hx := SM.1
  have hb := SM.2.1
  have hown : sM.vm.findClass RX9 = some mM.cls := SM.2.2.2.1
  have hts := SM.2.2.2.2
  have hinX9 : ∀ w ∈ u_ws RX9 TX9 21, w ∈ wsX9_setLabel := by decide +kernel
  have hlk54 : (Cond.fieldLink RX9 54 "DyckReachabilityModel" "thrown" "I").before _ sM = true := hts _ (by decide +kernel)
  have hl : lv_has ls 4 [(0, .ref m), (1, .int x), (2, .int z)] := hl
  refine lv_aload_n hx hb dX9_setLabel_0 rfl (lv_at hl 0 rfl) ?_
  refine lv_iconst (v := nI 0) hx hb dX9_setLabel_1 (by decide) ?_
  refine va_put (D := G.1) (ci := 6) (v := .int (nI 0)) (ty := .int) (C := RX9) (T := TX9) (N := 21) hx hb hts hinX9 tyX9 tyX9_ok nmX9 hown hK hP hD hS 0 rfl rfl 0 (by decide) hlk54 (fun _ h9 => h9) rfl (by decide +kernel) rfl rfl (Nat.le_of_ble_eq_true rfl) dX9_setLabel_2 (fun H locs hP hD hS => ?_)
  have hP : va_P G.1 vwCl [(m, .inr (6, [.int (nI 0), .ref mt, .int (nI ts), .int (nI ps), .int pv, .ref mp, .int (nI V), .ref mg, .ref mc, .ref mh, .int (nI rm), .ref ms, .ref mu, .int (nI on), .ref of1, .ref ot1, .ref oi1, .long sd, .ref ml, .ref md, .ref mw])), zA G mg 49 g] H := hP
  have hD : va_D AM [(m, .inr (6, [.int (nI 0), .ref mt, .int (nI ts), .int (nI ps), .int pv, .ref mp, .int (nI V), .ref mg, .ref mc, .ref mh, .int (nI rm), .ref ms, .ref mu, .int (nI on), .ref of1, .ref ot1, .ref oi1, .long sd, .ref ml, .ref md, .ref mw])), zA G mg 49 g] := hD
  refine lv_aload_n hx hb dX9_setLabel_5 rfl (lv_at hl 0 rfl) ?_
  refine lv_iload_n hx hb dX9_setLabel_6 rfl (lv_at hl 1 rfl) ?_
  refine zVi (W1 := [(m, .inr (6, [.int (nI 0), .ref mt, .int (nI ts), .int (nI ps), .int pv, .ref mp, .int (nI V), .ref mg, .ref mc, .ref mh, .int (nI rm), .ref ms, .ref mu, .int (nI on), .ref of1, .ref ot1, .ref oi1, .long sd, .ref ml, .ref md, .ref mw])), zA G mg 49 g]) (W2 := [(m, .inr (6, [.int (nI 0), .ref mt, .int (nI ts), .int (nI ps), .int pv, .ref mp, .int (nI V), .ref mg, .ref mc, .ref mh, .int (nI rm), .ref ms, .ref mu, .int (nI on), .ref of1, .ref ot1, .ref oi1, .long sd, .ref ml, .ref md, .ref mw])), zA G mg 49 g]) (wr := []) (rest := []) SM (c_X9_noEdge l G m mt mp mg mc mh ms mu of1 ot1 oi1 ml md mw 0 ts ps V rm on pv sd g x (by first | assumption | omega)) (cwV 1 hts gX9_setLabel_X9_noEdge rfl rfl rfl (by decide +kernel) ⟨Nat.le_of_ble_eq_true rfl, Nat.le_of_ble_eq_true rfl⟩) hK hE hA hP hD hS hl.1 [0, 1] [] [0, 1] rfl rfl rfl (by decide) (ci := 6) rfl rfl rfl rfl rfl (Nat.le_of_ble_eq_true rfl) ⟨Nat.zero_le _, Nat.zero_le _⟩ dX9_setLabel_7 (fun H locs hP hD hS => ?_)
  refine zb_eq (tgt := 15) hx hb dX9_setLabel_10 (by decide) (fun c_1 => ?_) (fun c_1 => ?_)
  · skip
    refine lv_iload_n hx hb dX9_setLabel_15 rfl (lv_at hl 2 rfl) ?_
    refine lv_i2l hx hb dX9_setLabel_16 rfl ?_
    refine lv_lconst (v := lN 0) hx hb dX9_setLabel_17 (by decide) ?_
    refine lv_ldc2 (v := lN 6) hx hb hown (hts (.constantLong RX9 132 (6)) (by decide +kernel)) dX9_setLabel_18 ?_
    refine zSi (W1 := [(m, .inr (6, [.int (nI 0), .ref mt, .int (nI ts), .int (nI ps), .int pv, .ref mp, .int (nI V), .ref mg, .ref mc, .ref mh, .int (nI rm), .ref ms, .ref mu, .int (nI on), .ref of1, .ref ot1, .ref oi1, .long sd, .ref ml, .ref md, .ref mw])), zA G mg 49 g]) (W2 := [(m, .inr (6, [.int (nI 0), .ref mt, .int (nI ts), .int (nI ps), .int pv, .ref mp, .int (nI V), .ref mg, .ref mc, .ref mh, .int (nI rm), .ref ms, .ref mu, .int (nI on), .ref of1, .ref ot1, .ref oi1, .long sd, .ref ml, .ref md, .ref mw])), zA G mg 49 g]) (wr := [(m, .inr (6, [.int (nI 0), .ref mt, .int (nI ts), .int (nI ps), .int pv, .ref mp, .int (nI V), .ref mg, .ref mc, .ref mh, .int (nI rm), .ref ms, .ref mu, .int (nI on), .ref of1, .ref ot1, .ref oi1, .long sd, .ref ml, .ref md, .ref mw])), zA G mg 49 g]) (rest := []) SM (c_X9_in_X l G (z) 0 6 (by first | assumption | omega) (by first | assumption | omega)) (va_cwS 3 hts gX9_setLabel_X9_in rfl rfl rfl (by decide +kernel) ⟨Nat.le_of_ble_eq_true rfl, Nat.le_of_ble_eq_true rfl⟩) hK hE hA hP hD hS hl.1 [] [0, 1] [0, 1] rfl rfl rfl (by decide) rfl rfl (Nat.le_of_ble_eq_true rfl) ⟨Nat.zero_le _, Nat.zero_le _⟩ dX9_setLabel_21 (fun H locs hP hD hS => ?_)
    refine zb_ne (tgt := 30) hx hb dX9_setLabel_24 (by decide) (fun c_2 => ?_) (fun c_2 => ?_)
    · skip
      exfalso; omega
    · skip
      refine lv_bipush (v := (-2)) hx hb dX9_setLabel_27 (by decide) ?_
      exact kret _ _ _ _ _ _ (by unfold zSlX; repeat (first | rw [if_pos (by first | assumption | omega)] | rw [if_neg (by first | assumption | omega)])) rfl hP hD hS dX9_setLabel_29
  · skip
    refine lv_iconst (v := (-1)) hx hb dX9_setLabel_13 (by decide) ?_
    exact kret _ _ _ _ _ _ (by unfold zSlX; repeat (first | rw [if_pos (by first | assumption | omega)] | rw [if_neg (by first | assumption | omega)])) rfl hP hD hS dX9_setLabel_14
set_option maxHeartbeats 400000 in
set_option maxRecDepth 100000 in
theorem c_X9_undo_bad (l : Launch) (G : zG) (m mt mp mg mc mh ms mu of1 ot1 oi1 ml md mw th ts ps V rm on : Nat) (pv : Int32) (sd : Int64) (hr0 : rm = 0) : MI l yX9_undo wsX9_undo ({ frames := 0, cells := 0, slots := 0, locals := 0 }) G [.ref m] [(m, .inr (6, [.int (nI th), .ref mt, .int (nI ts), .int (nI ps), .int pv, .ref mp, .int (nI V), .ref mg, .ref mc, .ref mh, .int (nI rm), .ref ms, .ref mu, .int (nI on), .ref of1, .ref ot1, .ref oi1, .long sd, .ref ml, .ref md, .ref mw]))] (-3) [(m, .inr (6, [.int (nI 0), .ref mt, .int (nI ts), .int (nI ps), .int pv, .ref mp, .int (nI V), .ref mg, .ref mc, .ref mh, .int (nI rm), .ref ms, .ref mu, .int (nI on), .ref of1, .ref ot1, .ref oi1, .long sd, .ref ml, .ref md, .ref mw]))] := by
  refine MI.enter (cc := cX9_undo) (maxL := 2) (by decide) rfl (Nat.le_of_ble_eq_true rfl) rfl ?_
  intro pM eM sM mM bM tM cM QM AM ls hat kret
  obtain ⟨SM, hA, hK, hE, hP, hD, hS, hl⟩ := hat
  have hx := SM.1
  have hb := SM.2.1
  have hown : sM.vm.findClass RX9 = some mM.cls := SM.2.2.2.1
  have hts := SM.2.2.2.2
  have hinX9 : ∀ w ∈ u_ws RX9 TX9 21, w ∈ wsX9_undo := by decide +kernel
  have hlk54 : (Cond.fieldLink RX9 54 "DyckReachabilityModel" "thrown" "I").before _ sM = true := hts _ (by decide +kernel)
  have hlk122 : (Cond.fieldLink RX9 122 "DyckReachabilityModel" "remembered" "I").before _ sM = true := hts _ (by decide +kernel)
  have hl : lv_has ls 2 [(0, .ref m)] := hl
  refine lv_aload_n hx hb dX9_undo_0 rfl (lv_at hl 0 rfl) ?_
  refine lv_iconst (v := nI 0) hx hb dX9_undo_1 (by decide) ?_
  refine va_put (D := G.1) (ci := 6) (v := .int (nI 0)) (ty := .int) (C := RX9) (T := TX9) (N := 21) hx hb hts hinX9 tyX9 tyX9_ok nmX9 hown hK hP hD hS 0 rfl rfl 0 (by decide) hlk54 (fun _ h9 => h9) rfl (by decide +kernel) rfl rfl (Nat.le_of_ble_eq_true rfl) dX9_undo_2 (fun H locs hP hD hS => ?_)
  have hP : va_P G.1 vwCl [(m, .inr (6, [.int (nI 0), .ref mt, .int (nI ts), .int (nI ps), .int pv, .ref mp, .int (nI V), .ref mg, .ref mc, .ref mh, .int (nI rm), .ref ms, .ref mu, .int (nI on), .ref of1, .ref ot1, .ref oi1, .long sd, .ref ml, .ref md, .ref mw]))] H := hP
  have hD : va_D AM [(m, .inr (6, [.int (nI 0), .ref mt, .int (nI ts), .int (nI ps), .int pv, .ref mp, .int (nI V), .ref mg, .ref mc, .ref mh, .int (nI rm), .ref ms, .ref mu, .int (nI on), .ref of1, .ref ot1, .ref oi1, .long sd, .ref ml, .ref md, .ref mw]))] := hD
  refine lv_aload_n hx hb dX9_undo_5 rfl (lv_at hl 0 rfl) ?_
  refine va_get (D := G.1) (ci := 6) (v := .int (nI rm)) (C := RX9) (T := TX9) (N := 21) hx hb hts hinX9 hown hK hP 0 rfl rfl 10 (by decide) hlk122 (fun _ h9 => h9) rfl dX9_undo_6 ?_
  refine zd_ne (a := (rm : Nat)) (tgt := 15) hx hb dX9_undo_9 (by decide) (zI (by omega)) (fun c_1 => ?_) (fun c_1 => ?_)
  · skip
    exfalso; omega
  · skip
    refine lv_bipush (v := (-3)) hx hb dX9_undo_12 (by decide) ?_
    exact kret _ _ _ _ _ _ rfl rfl hP hD hS dX9_undo_14
set_option maxHeartbeats 400000 in
set_option maxRecDepth 100000 in
theorem c_X9_undo_ok (l : Launch) (G : zG) (m mt mp mg mc mh ms mu of1 ot1 oi1 ml md mw th ts ps V rm on : Nat) (pv : Int32) (sd : Int64) (g : Nat → Nat) (hh : Nat → Nat) (hrm : rm ≤ 14) (hr1 : 0 < rm) : MI l yX9_undo wsX9_undo ({ frames := 0, cells := 0, slots := 0, locals := 0 }) G [.ref m] [(m, .inr (6, [.int (nI th), .ref mt, .int (nI ts), .int (nI ps), .int pv, .ref mp, .int (nI V), .ref mg, .ref mc, .ref mh, .int (nI rm), .ref ms, .ref mu, .int (nI on), .ref of1, .ref ot1, .ref oi1, .long sd, .ref ml, .ref md, .ref mw])), zA G mg 49 g, zA G mh 686 hh] (nI (rm - 1)) [(m, .inr (6, [.int (nI 0), .ref mt, .int (nI ts), .int (nI ps), .int pv, .ref mp, .int (nI V), .ref mg, .ref mc, .ref mh, .int (nI (rm - 1)), .ref ms, .ref mu, .int (nI on), .ref of1, .ref ot1, .ref oi1, .long sd, .ref ml, .ref md, .ref mw])), zA G mg 49 (zBk hh (49 * (rm - 1))), zA G mh 686 hh] := by
  refine MI.enter (cc := cX9_undo) (maxL := 2) (by decide) rfl (Nat.le_of_ble_eq_true rfl) rfl ?_
  intro pM eM sM mM bM tM cM QM AM ls hat kret
  obtain ⟨SM, hA, hK, hE, hP, hD, hS, hl⟩ := hat
  have hx := SM.1
  have hb := SM.2.1
  have hown : sM.vm.findClass RX9 = some mM.cls := SM.2.2.2.1
  have hts := SM.2.2.2.2
  have hinX9 : ∀ w ∈ u_ws RX9 TX9 21, w ∈ wsX9_undo := by decide +kernel
  have hlk54 : (Cond.fieldLink RX9 54 "DyckReachabilityModel" "thrown" "I").before _ sM = true := hts _ (by decide +kernel)
  have hlk122 : (Cond.fieldLink RX9 122 "DyckReachabilityModel" "remembered" "I").before _ sM = true := hts _ (by decide +kernel)
  have hlk20 : (Cond.fieldLink RX9 20 "DyckReachabilityModel" "graph" "[I").before _ sM = true := hts _ (by decide +kernel)
  have hlk26 : (Cond.fieldLink RX9 26 "DyckReachabilityModel" "history" "[I").before _ sM = true := hts _ (by decide +kernel)
  have hl : lv_has ls 2 [(0, .ref m)] := hl
  refine lv_aload_n hx hb dX9_undo_0 rfl (lv_at hl 0 rfl) ?_
  refine lv_iconst (v := nI 0) hx hb dX9_undo_1 (by decide) ?_
  refine va_put (D := G.1) (ci := 6) (v := .int (nI 0)) (ty := .int) (C := RX9) (T := TX9) (N := 21) hx hb hts hinX9 tyX9 tyX9_ok nmX9 hown hK hP hD hS 0 rfl rfl 0 (by decide) hlk54 (fun _ h9 => h9) rfl (by decide +kernel) rfl rfl (Nat.le_of_ble_eq_true rfl) dX9_undo_2 (fun H locs hP hD hS => ?_)
  have hP : va_P G.1 vwCl [(m, .inr (6, [.int (nI 0), .ref mt, .int (nI ts), .int (nI ps), .int pv, .ref mp, .int (nI V), .ref mg, .ref mc, .ref mh, .int (nI rm), .ref ms, .ref mu, .int (nI on), .ref of1, .ref ot1, .ref oi1, .long sd, .ref ml, .ref md, .ref mw])), zA G mg 49 g, zA G mh 686 hh] H := hP
  have hD : va_D AM [(m, .inr (6, [.int (nI 0), .ref mt, .int (nI ts), .int (nI ps), .int pv, .ref mp, .int (nI V), .ref mg, .ref mc, .ref mh, .int (nI rm), .ref ms, .ref mu, .int (nI on), .ref of1, .ref ot1, .ref oi1, .long sd, .ref ml, .ref md, .ref mw])), zA G mg 49 g, zA G mh 686 hh] := hD
  refine lv_aload_n hx hb dX9_undo_5 rfl (lv_at hl 0 rfl) ?_
  refine va_get (D := G.1) (ci := 6) (v := .int (nI rm)) (C := RX9) (T := TX9) (N := 21) hx hb hts hinX9 hown hK hP 0 rfl rfl 10 (by decide) hlk122 (fun _ h9 => h9) rfl dX9_undo_6 ?_
  refine zd_ne (a := (rm : Nat)) (tgt := 15) hx hb dX9_undo_9 (by decide) (zI (by omega)) (fun c_1 => ?_) (fun c_1 => ?_)
  · skip
    refine lv_aload_n hx hb dX9_undo_15 rfl (lv_at hl 0 rfl) ?_
    refine lv_dup hx hb dX9_undo_16 rfl ?_
    refine va_get (D := G.1) (ci := 6) (v := .int (nI rm)) (C := RX9) (T := TX9) (N := 21) hx hb hts hinX9 hown hK hP 0 rfl rfl 10 (by decide) hlk122 (fun _ h9 => h9) rfl dX9_undo_17 ?_
    refine lv_iconst (v := nI 1) hx hb dX9_undo_20 (by decide) ?_
    refine zi_sub hx hb dX9_undo_21 (by omega) ?_
    refine va_put (D := G.1) (ci := 6) (v := .int (nI (rm - 1))) (ty := .int) (C := RX9) (T := TX9) (N := 21) hx hb hts hinX9 tyX9 tyX9_ok nmX9 hown hK hP hD hS 0 rfl rfl 10 (by decide) hlk122 (fun _ h9 => h9) rfl (by decide +kernel) rfl rfl (Nat.le_of_ble_eq_true rfl) dX9_undo_22 (fun H locs hP hD hS => ?_)
    have hP : va_P G.1 vwCl [(m, .inr (6, [.int (nI 0), .ref mt, .int (nI ts), .int (nI ps), .int pv, .ref mp, .int (nI V), .ref mg, .ref mc, .ref mh, .int (nI (rm - 1)), .ref ms, .ref mu, .int (nI on), .ref of1, .ref ot1, .ref oi1, .long sd, .ref ml, .ref md, .ref mw])), zA G mg 49 g, zA G mh 686 hh] H := hP
    have hD : va_D AM [(m, .inr (6, [.int (nI 0), .ref mt, .int (nI ts), .int (nI ps), .int pv, .ref mp, .int (nI V), .ref mg, .ref mc, .ref mh, .int (nI (rm - 1)), .ref ms, .ref mu, .int (nI on), .ref of1, .ref ot1, .ref oi1, .long sd, .ref ml, .ref md, .ref mw])), zA G mg 49 g, zA G mh 686 hh] := hD
    refine lv_iconst (v := nI 0) hx hb dX9_undo_25 (by decide) ?_
    refine lv_istore_n (lv' := [(1, .int (nI 0)), (0, .ref m)]) hx hb dX9_undo_26 rfl hl (by decide) rfl (fun ls hl => ?_)
    have lp27 : ∀ (n9 : Nat), ∀ (i : Nat), (i ≤ 49) → (49 - i) < n9 → ∀ (H : Heap) (locs : List Loc) (ls : Array Slot), va_P G.1 vwCl [(m, .inr (6, [.int (nI 0), .ref mt, .int (nI ts), .int (nI ps), .int pv, .ref mp, .int (nI V), .ref mg, .ref mc, .ref mh, .int (nI (rm - 1)), .ref ms, .ref mu, .int (nI on), .ref of1, .ref ot1, .ref oi1, .long sd, .ref ml, .ref md, .ref mw])), zA G mg 49 (zTk g (zBk hh (49 * (rm - 1))) i), zA G mh 686 hh] H → va_D AM [(m, .inr (6, [.int (nI 0), .ref mt, .int (nI ts), .int (nI ps), .int pv, .ref mp, .int (nI V), .ref mg, .ref mc, .ref mh, .int (nI (rm - 1)), .ref ms, .ref mu, .int (nI on), .ref of1, .ref ot1, .ref oi1, .long sd, .ref ml, .ref md, .ref mw])), zA G mg 49 (zTk g (zBk hh (49 * (rm - 1))) i), zA G mh 686 hh] → va_S AM sM.heap H locs → lv_has ls 2 [(0, .ref m), (1, .int (nI i))] → W pM l eM ({ frames := 0, cells := 0, slots := 0, locals := 0 }) sM mM (([.ref m] : List Value).toArray) bM tM cM H locs 0 0 QM (F0 mM 27 ls []) := by
      intro n9
      induction n9 with
      | zero =>
        intro _ _ h9
        exact absurd h9 (Nat.not_lt_zero _)
      | succ n9 ih9 =>
        intro i h1 hmu27 H locs ls hP hD hS hl
        have ih27 := ih9
        clear ih9
        refine lv_iload_n hx hb dX9_undo_27 rfl (lv_at hl 1 rfl) ?_
        refine lv_bipush (v := nI 49) hx hb dX9_undo_28 (by decide) ?_
        refine zn_ge (tgt := 59) hx hb dX9_undo_30 (by decide) (by omega) (by omega) (fun c_2 => ?_) (fun c_2 => ?_)
        · skip
          obtain ⟨hP, hD⟩ := zcanon hP hD 1 rfl (zBk hh (49 * (rm - 1))) (fun j h9 => by have hq9 : i = 49 := (by omega); rw [hq9]; unfold zTk; rw [if_pos h9])
          have hP : va_P G.1 vwCl [(m, .inr (6, [.int (nI 0), .ref mt, .int (nI ts), .int (nI ps), .int pv, .ref mp, .int (nI V), .ref mg, .ref mc, .ref mh, .int (nI (rm - 1)), .ref ms, .ref mu, .int (nI on), .ref of1, .ref ot1, .ref oi1, .long sd, .ref ml, .ref md, .ref mw])), zA G mg 49 (zBk hh (49 * (rm - 1))), zA G mh 686 hh] H := hP
          have hD : va_D AM [(m, .inr (6, [.int (nI 0), .ref mt, .int (nI ts), .int (nI ps), .int pv, .ref mp, .int (nI V), .ref mg, .ref mc, .ref mh, .int (nI (rm - 1)), .ref ms, .ref mu, .int (nI on), .ref of1, .ref ot1, .ref oi1, .long sd, .ref ml, .ref md, .ref mw])), zA G mg 49 (zBk hh (49 * (rm - 1))), zA G mh 686 hh] := hD
          refine lv_aload_n hx hb dX9_undo_59 rfl (lv_at hl 0 rfl) ?_
          refine va_get (D := G.1) (ci := 6) (v := .int (nI (rm - 1))) (C := RX9) (T := TX9) (N := 21) hx hb hts hinX9 hown hK hP 0 rfl rfl 10 (by decide) hlk122 (fun _ h9 => h9) rfl dX9_undo_60 ?_
          exact kret _ _ _ _ _ _ rfl rfl hP hD hS dX9_undo_63
        · skip
          refine lv_aload_n hx hb dX9_undo_33 rfl (lv_at hl 0 rfl) ?_
          refine va_get (D := G.1) (ci := 6) (v := .ref mg) (C := RX9) (T := TX9) (N := 21) hx hb hts hinX9 hown hK hP 0 rfl rfl 7 (by decide) hlk20 (fun _ h9 => h9) rfl dX9_undo_34 ?_
          refine lv_iload_n hx hb dX9_undo_37 rfl (lv_at hl 1 rfl) ?_
          refine lv_aload_n hx hb dX9_undo_38 rfl (lv_at hl 0 rfl) ?_
          refine va_get (D := G.1) (ci := 6) (v := .ref mh) (C := RX9) (T := TX9) (N := 21) hx hb hts hinX9 hown hK hP 0 rfl rfl 9 (by decide) hlk26 (fun _ h9 => h9) rfl dX9_undo_39 ?_
          refine lv_bipush (v := nI 49) hx hb dX9_undo_42 (by decide) ?_
          refine lv_aload_n hx hb dX9_undo_44 rfl (lv_at hl 0 rfl) ?_
          refine va_get (D := G.1) (ci := 6) (v := .int (nI (rm - 1))) (C := RX9) (T := TX9) (N := 21) hx hb hts hinX9 hown hK hP 0 rfl rfl 10 (by decide) hlk122 (fun _ h9 => h9) rfl dX9_undo_45 ?_
          refine zi_mul hx hb dX9_undo_48 ?_
          refine lv_iload_n hx hb dX9_undo_49 rfl (lv_at hl 1 rfl) ?_
          refine zi_add hx hb dX9_undo_50 ?_
          refine zi_ald hx hb hK hP 2 rfl (by omega) (by omega) dX9_undo_51 ?_
          refine zi_ast hx hb hK hP hD hS 1 rfl (by omega) (by omega) dX9_undo_52 (fun H locs hP hD hS => ?_)
          have hP : va_P G.1 vwCl [(m, .inr (6, [.int (nI 0), .ref mt, .int (nI ts), .int (nI ps), .int pv, .ref mp, .int (nI V), .ref mg, .ref mc, .ref mh, .int (nI (rm - 1)), .ref ms, .ref mu, .int (nI on), .ref of1, .ref ot1, .ref oi1, .long sd, .ref ml, .ref md, .ref mw])), zA G mg 49 (zU (zTk g (zBk hh (49 * (rm - 1))) i) i (hh ((49 * (rm - 1)) + i))), zA G mh 686 hh] H := hP
          have hD : va_D AM [(m, .inr (6, [.int (nI 0), .ref mt, .int (nI ts), .int (nI ps), .int pv, .ref mp, .int (nI V), .ref mg, .ref mc, .ref mh, .int (nI (rm - 1)), .ref ms, .ref mu, .int (nI on), .ref of1, .ref ot1, .ref oi1, .long sd, .ref ml, .ref md, .ref mw])), zA G mg 49 (zU (zTk g (zBk hh (49 * (rm - 1))) i) i (hh ((49 * (rm - 1)) + i))), zA G mh 686 hh] := hD
          refine lv_iinc (v := nI (i + 1)) (lv' := [(1, .int (nI (i + 1))), (0, .ref m)]) hx hb dX9_undo_53 hl (k := 1) rfl (zinc i 1) (by decide) rfl (fun ls hl => ?_)
          refine lv_goto (tgt := 27) hx hb dX9_undo_56 (by decide) ?_
          have hP : va_P G.1 vwCl [(m, .inr (6, [.int (nI 0), .ref mt, .int (nI ts), .int (nI ps), .int pv, .ref mp, .int (nI V), .ref mg, .ref mc, .ref mh, .int (nI (rm - 1)), .ref ms, .ref mu, .int (nI on), .ref of1, .ref ot1, .ref oi1, .long sd, .ref ml, .ref md, .ref mw])), zA G mg 49 (zTk g (zBk hh (49 * (rm - 1))) (i + 1)), zA G mh 686 hh] H := by (rw [zTk_bk]); exact hP
          have hD : va_D AM [(m, .inr (6, [.int (nI 0), .ref mt, .int (nI ts), .int (nI ps), .int pv, .ref mp, .int (nI V), .ref mg, .ref mc, .ref mh, .int (nI (rm - 1)), .ref ms, .ref mu, .int (nI on), .ref of1, .ref ot1, .ref oi1, .long sd, .ref ml, .ref md, .ref mw])), zA G mg 49 (zTk g (zBk hh (49 * (rm - 1))) (i + 1)), zA G mh 686 hh] := by (rw [zTk_bk]); exact hD
          exact ih27 (i + 1) (by first | assumption | omega) (by omega) _ _ _ hP hD hS (lv_sub hl [1, 0] rfl)
    have hP : va_P G.1 vwCl [(m, .inr (6, [.int (nI 0), .ref mt, .int (nI ts), .int (nI ps), .int pv, .ref mp, .int (nI V), .ref mg, .ref mc, .ref mh, .int (nI (rm - 1)), .ref ms, .ref mu, .int (nI on), .ref of1, .ref ot1, .ref oi1, .long sd, .ref ml, .ref md, .ref mw])), zA G mg 49 (zTk g (zBk hh (49 * (rm - 1))) 0), zA G mh 686 hh] H := by (rw [zTk_0]); exact hP
    have hD : va_D AM [(m, .inr (6, [.int (nI 0), .ref mt, .int (nI ts), .int (nI ps), .int pv, .ref mp, .int (nI V), .ref mg, .ref mc, .ref mh, .int (nI (rm - 1)), .ref ms, .ref mu, .int (nI on), .ref of1, .ref ot1, .ref oi1, .long sd, .ref ml, .ref md, .ref mw])), zA G mg 49 (zTk g (zBk hh (49 * (rm - 1))) 0), zA G mh 686 hh] := by (rw [zTk_0]); exact hD
    exact lp27 (49 - 0 + 1) 0 (by first | assumption | omega) (Nat.lt_succ_self _) _ _ _ hP hD hS (lv_sub hl [1, 0] rfl)
  · skip
    exfalso; omega
set_option maxHeartbeats 400000 in
set_option maxRecDepth 100000 in
theorem c_X9_reachableFrom_bad (l : Launch) (G : zG) (m mt mp mg mc mh ms mu of1 ot1 oi1 ml md mw th ts ps V rm on : Nat) (pv : Int32) (sd : Int64) (x : Int32) (hV : V ≤ 8) (hV1 : 1 ≤ V) (hb0 : ¬ (0 ≤ x.toInt ∧ x.toInt < V)) : MI l yX9_reachableFrom wsX9_reachableFrom ({ frames := 2, cells := 0, slots := 0, locals := 46 }) G [.ref m, .int x] [(m, .inr (6, [.int (nI th), .ref mt, .int (nI ts), .int (nI ps), .int pv, .ref mp, .int (nI V), .ref mg, .ref mc, .ref mh, .int (nI rm), .ref ms, .ref mu, .int (nI on), .ref of1, .ref ot1, .ref oi1, .long sd, .ref ml, .ref md, .ref mw]))] (-1) [(m, .inr (6, [.int (nI 0), .ref mt, .int (nI ts), .int (nI ps), .int pv, .ref mp, .int (nI V), .ref mg, .ref mc, .ref mh, .int (nI rm), .ref ms, .ref mu, .int (nI on), .ref of1, .ref ot1, .ref oi1, .long sd, .ref ml, .ref md, .ref mw]))] := by
  refine MI.enter (cc := cX9_reachableFrom) (maxL := 4) (by decide) rfl (Nat.le_of_ble_eq_true rfl) rfl ?_
  intro pM eM sM mM bM tM cM QM AM ls hat kret
  obtain ⟨SM, hA, hK, hE, hP, hD, hS, hl⟩ := hat
  have hx := SM.1
  have hb := SM.2.1
  have hown : sM.vm.findClass RX9 = some mM.cls := SM.2.2.2.1
  have hts := SM.2.2.2.2
  have hinX9 : ∀ w ∈ u_ws RX9 TX9 21, w ∈ wsX9_reachableFrom := by decide +kernel
  have hlk54 : (Cond.fieldLink RX9 54 "DyckReachabilityModel" "thrown" "I").before _ sM = true := hts _ (by decide +kernel)
  have hl : lv_has ls 4 [(0, .ref m), (1, .int x)] := hl
  refine lv_aload_n hx hb dX9_reachableFrom_0 rfl (lv_at hl 0 rfl) ?_
  refine lv_iconst (v := nI 0) hx hb dX9_reachableFrom_1 (by decide) ?_
  refine va_put (D := G.1) (ci := 6) (v := .int (nI 0)) (ty := .int) (C := RX9) (T := TX9) (N := 21) hx hb hts hinX9 tyX9 tyX9_ok nmX9 hown hK hP hD hS 0 rfl rfl 0 (by decide) hlk54 (fun _ h9 => h9) rfl (by decide +kernel) rfl rfl (Nat.le_of_ble_eq_true rfl) dX9_reachableFrom_2 (fun H locs hP hD hS => ?_)
  have hP : va_P G.1 vwCl [(m, .inr (6, [.int (nI 0), .ref mt, .int (nI ts), .int (nI ps), .int pv, .ref mp, .int (nI V), .ref mg, .ref mc, .ref mh, .int (nI rm), .ref ms, .ref mu, .int (nI on), .ref of1, .ref ot1, .ref oi1, .long sd, .ref ml, .ref md, .ref mw]))] H := hP
  have hD : va_D AM [(m, .inr (6, [.int (nI 0), .ref mt, .int (nI ts), .int (nI ps), .int pv, .ref mp, .int (nI V), .ref mg, .ref mc, .ref mh, .int (nI rm), .ref ms, .ref mu, .int (nI on), .ref of1, .ref ot1, .ref oi1, .long sd, .ref ml, .ref md, .ref mw]))] := hD
  refine lv_aload_n hx hb dX9_reachableFrom_5 rfl (lv_at hl 0 rfl) ?_
  refine lv_iload_n hx hb dX9_reachableFrom_6 rfl (lv_at hl 1 rfl) ?_
  refine zVi (W1 := [(m, .inr (6, [.int (nI 0), .ref mt, .int (nI ts), .int (nI ps), .int pv, .ref mp, .int (nI V), .ref mg, .ref mc, .ref mh, .int (nI rm), .ref ms, .ref mu, .int (nI on), .ref of1, .ref ot1, .ref oi1, .long sd, .ref ml, .ref md, .ref mw]))]) (W2 := [(m, .inr (6, [.int (nI 0), .ref mt, .int (nI ts), .int (nI ps), .int pv, .ref mp, .int (nI V), .ref mg, .ref mc, .ref mh, .int (nI rm), .ref ms, .ref mu, .int (nI on), .ref of1, .ref ot1, .ref oi1, .long sd, .ref ml, .ref md, .ref mw]))]) (wr := []) (rest := []) SM (c_X9_noVertex l G m mt mp mg mc mh ms mu of1 ot1 oi1 ml md mw 0 ts ps V rm on pv sd x (by first | assumption | omega) (by first | assumption | omega)) (cwV 1 hts gX9_reachableFrom_X9_noVertex rfl rfl rfl (by decide +kernel) ⟨Nat.le_of_ble_eq_true rfl, Nat.le_of_ble_eq_true rfl⟩) hK hE hA hP hD hS hl.1 [0] [] [0] rfl rfl rfl (by decide) (ci := 6) rfl rfl rfl rfl rfl (Nat.le_of_ble_eq_true rfl) ⟨Nat.zero_le _, Nat.zero_le _⟩ dX9_reachableFrom_7 (fun H locs hP hD hS => ?_)
  refine zb_eq (tgt := 15) hx hb dX9_reachableFrom_10 (by decide) (fun c_1 => ?_) (fun c_1 => ?_)
  · skip
    exfalso; omega
  · skip
    refine lv_iconst (v := (-1)) hx hb dX9_reachableFrom_13 (by decide) ?_
    exact kret _ _ _ _ _ _ rfl rfl hP hD hS dX9_reachableFrom_14
set_option maxHeartbeats 400000 in
set_option maxRecDepth 100000 in
theorem c_X9_reachableFrom_ok (l : Launch) (G : zG) (m mt mp mg mc mh ms mu of1 ot1 oi1 ml md mw th ts ps V rm on : Nat) (pv : Int32) (sd : Int64) (f wd g : Nat → Nat) (x : Int32) (hV : V ≤ 8) (hV1 : 1 ≤ V) (hL : zL2 f) (hw8 : ∀ i, wd i < 8) (hg0 : g 0 ≤ 16) (hg8 : ∀ i, 1 ≤ i → g i < 8) (hx : 0 ≤ x.toInt ∧ x.toInt < V) : MI l yX9_reachableFrom wsX9_reachableFrom ({ frames := 3, cells := 0, slots := 0, locals := 76 }) G [.ref m, .int x] [(m, .inr (6, [.int (nI th), .ref mt, .int (nI ts), .int (nI ps), .int pv, .ref mp, .int (nI V), .ref mg, .ref mc, .ref mh, .int (nI rm), .ref ms, .ref mu, .int (nI on), .ref of1, .ref ot1, .ref oi1, .long sd, .ref ml, .ref md, .ref mw])), zA G ml 64 f, zA G mw 96 wd, zA G mg 49 g] (nI (mRf g V x.toInt.toNat)) [(m, .inr (6, [.int (nI 0), .ref mt, .int (nI ts), .int (nI ps), .int pv, .ref mp, .int (nI V), .ref mg, .ref mc, .ref mh, .int (nI rm), .ref ms, .ref mu, .int (nI on), .ref of1, .ref ot1, .ref oi1, .long sd, .ref ml, .ref md, .ref mw])), zA G ml 64 (mT g 65535), zA G mw 96 (zWd 65535 g wd (g 0)), zA G mg 49 g] := by
  refine MI.enter (cc := cX9_reachableFrom) (maxL := 4) (by decide) rfl (Nat.le_of_ble_eq_true rfl) rfl ?_
  intro pM eM sM mM bM tM cM QM AM ls hat kret
  obtain ⟨SM, hA, hK, hE, hP, hD, hS, hl⟩ := hat
  have hx := SM.1
  have hb := SM.2.1
  have hown : sM.vm.findClass RX9 = some mM.cls := SM.2.2.2.1
  have hts := SM.2.2.2.2
  have hinX9 : ∀ w ∈ u_ws RX9 TX9 21, w ∈ wsX9_reachableFrom := by decide +kernel
  have hlk54 : (Cond.fieldLink RX9 54 "DyckReachabilityModel" "thrown" "I").before _ sM = true := hts _ (by decide +kernel)
  have hlk20 : (Cond.fieldLink RX9 20 "DyckReachabilityModel" "graph" "[I").before _ sM = true := hts _ (by decide +kernel)
  have hlk16 : (Cond.fieldLink RX9 16 "DyckReachabilityModel" "vertices" "I").before _ sM = true := hts _ (by decide +kernel)
  have hl : lv_has ls 4 [(0, .ref m), (1, .int x)] := hl
  refine lv_aload_n hx hb dX9_reachableFrom_0 rfl (lv_at hl 0 rfl) ?_
  refine lv_iconst (v := nI 0) hx hb dX9_reachableFrom_1 (by decide) ?_
  refine va_put (D := G.1) (ci := 6) (v := .int (nI 0)) (ty := .int) (C := RX9) (T := TX9) (N := 21) hx hb hts hinX9 tyX9 tyX9_ok nmX9 hown hK hP hD hS 0 rfl rfl 0 (by decide) hlk54 (fun _ h9 => h9) rfl (by decide +kernel) rfl rfl (Nat.le_of_ble_eq_true rfl) dX9_reachableFrom_2 (fun H locs hP hD hS => ?_)
  have hP : va_P G.1 vwCl [(m, .inr (6, [.int (nI 0), .ref mt, .int (nI ts), .int (nI ps), .int pv, .ref mp, .int (nI V), .ref mg, .ref mc, .ref mh, .int (nI rm), .ref ms, .ref mu, .int (nI on), .ref of1, .ref ot1, .ref oi1, .long sd, .ref ml, .ref md, .ref mw])), zA G ml 64 f, zA G mw 96 wd, zA G mg 49 g] H := hP
  have hD : va_D AM [(m, .inr (6, [.int (nI 0), .ref mt, .int (nI ts), .int (nI ps), .int pv, .ref mp, .int (nI V), .ref mg, .ref mc, .ref mh, .int (nI rm), .ref ms, .ref mu, .int (nI on), .ref of1, .ref ot1, .ref oi1, .long sd, .ref ml, .ref md, .ref mw])), zA G ml 64 f, zA G mw 96 wd, zA G mg 49 g] := hD
  refine lv_aload_n hx hb dX9_reachableFrom_5 rfl (lv_at hl 0 rfl) ?_
  refine lv_iload_n hx hb dX9_reachableFrom_6 rfl (lv_at hl 1 rfl) ?_
  refine zVi (W1 := [(m, .inr (6, [.int (nI 0), .ref mt, .int (nI ts), .int (nI ps), .int pv, .ref mp, .int (nI V), .ref mg, .ref mc, .ref mh, .int (nI rm), .ref ms, .ref mu, .int (nI on), .ref of1, .ref ot1, .ref oi1, .long sd, .ref ml, .ref md, .ref mw])), zA G ml 64 f, zA G mw 96 wd, zA G mg 49 g]) (W2 := [(m, .inr (6, [.int (nI 0), .ref mt, .int (nI ts), .int (nI ps), .int pv, .ref mp, .int (nI V), .ref mg, .ref mc, .ref mh, .int (nI rm), .ref ms, .ref mu, .int (nI on), .ref of1, .ref ot1, .ref oi1, .long sd, .ref ml, .ref md, .ref mw])), zA G ml 64 f, zA G mw 96 wd, zA G mg 49 g]) (wr := [zA G ml 64 f, zA G mw 96 wd, zA G mg 49 g]) (rest := []) SM (c_X9_noVertex l G m mt mp mg mc mh ms mu of1 ot1 oi1 ml md mw 0 ts ps V rm on pv sd x (by first | assumption | omega) (by first | assumption | omega)) (cwV 1 hts gX9_reachableFrom_X9_noVertex rfl rfl rfl (by decide +kernel) ⟨Nat.le_of_ble_eq_true rfl, Nat.le_of_ble_eq_true rfl⟩) hK hE hA hP hD hS hl.1 [0] [1, 2, 3] [3, 0, 1, 2] rfl rfl rfl (by decide) (ci := 6) rfl rfl rfl rfl rfl (Nat.le_of_ble_eq_true rfl) ⟨Nat.zero_le _, Nat.zero_le _⟩ dX9_reachableFrom_7 (fun H locs hP hD hS => ?_)
  refine zb_eq (tgt := 15) hx hb dX9_reachableFrom_10 (by decide) (fun c_1 => ?_) (fun c_1 => ?_)
  · skip
    have hl : lv_has ls 4 [(0, .ref m), (1, .int (nI x.toInt.toNat))] := by rw [← xN_eq (x := x) (by omega)]; exact hl
    refine lv_aload_n hx hb dX9_reachableFrom_15 rfl (lv_at hl 0 rfl) ?_
    refine lv_aload_n hx hb dX9_reachableFrom_16 rfl (lv_at hl 0 rfl) ?_
    refine va_get (D := G.1) (ci := 6) (v := .ref mg) (C := RX9) (T := TX9) (N := 21) hx hb hts hinX9 hown hK hP 0 rfl rfl 7 (by decide) hlk20 (fun _ h9 => h9) rfl dX9_reachableFrom_17 ?_
    refine lv_ldc (v := nI 65535) hx hb hown (hts (.constant RX9 140 (65535)) (by decide +kernel)) dX9_reachableFrom_20 ?_
    refine zVv (W1 := [(m, .inr (6, [.int (nI 0), .ref mt, .int (nI ts), .int (nI ps), .int pv, .ref mp, .int (nI V), .ref mg, .ref mc, .ref mh, .int (nI rm), .ref ms, .ref mu, .int (nI on), .ref of1, .ref ot1, .ref oi1, .long sd, .ref ml, .ref md, .ref mw])), zA G ml 64 f, zA G mw 96 wd, zA G mg 49 g]) (W2 := [(m, .inr (6, [.int (nI 0), .ref mt, .int (nI ts), .int (nI ps), .int pv, .ref mp, .int (nI V), .ref mg, .ref mc, .ref mh, .int (nI rm), .ref ms, .ref mu, .int (nI on), .ref of1, .ref ot1, .ref oi1, .long sd, .ref ml, .ref md, .ref mw])), zA G ml 64 (mT g 65535), zA G mw 96 (zWd 65535 g wd (g 0)), zA G mg 49 g]) (wr := []) (rest := []) SM (c_X9_closeOf l G m mt mp mg mc mh ms mu of1 ot1 oi1 ml md mw 0 ts ps V rm on pv sd f wd mg g 65535 (by first | assumption | omega) (by first | assumption | omega) (by first | assumption | omega) (by first | assumption | omega) (by first | assumption | omega)) (cwV 2 hts gX9_reachableFrom_X9_closeOf rfl rfl rfl (by decide +kernel) ⟨Nat.le_of_ble_eq_true rfl, Nat.le_of_ble_eq_true rfl⟩) hK hE hA hP hD hS hl.1 [0, 1, 2, 3] [] [0, 1, 2, 3] rfl rfl rfl (by decide) (ci := 6) rfl rfl rfl rfl rfl (Nat.le_of_ble_eq_true rfl) ⟨Nat.zero_le _, Nat.zero_le _⟩ dX9_reachableFrom_22 (fun H locs hP hD hS => ?_)
    refine lv_iconst (v := nI 0) hx hb dX9_reachableFrom_25 (by decide) ?_
    refine lv_istore_n (lv' := [(2, .int (nI 0)), (0, .ref m), (1, .int (nI x.toInt.toNat))]) hx hb dX9_reachableFrom_26 rfl hl (by decide) rfl (fun ls hl => ?_)
    refine lv_iconst (v := nI 0) hx hb dX9_reachableFrom_27 (by decide) ?_
    refine lv_istore_n (lv' := [(3, .int (nI 0)), (2, .int (nI 0)), (0, .ref m), (1, .int (nI x.toInt.toNat))]) hx hb dX9_reachableFrom_28 rfl hl (by decide) rfl (fun ls hl => ?_)
    have lp29 : ∀ (n9 : Nat), ∀ (v a : Nat), (v ≤ V) → (a = zIt (mRfF (mT g 65535) x.toInt.toNat) v 0) → (V - v) < n9 → ∀ (H : Heap) (locs : List Loc) (ls : Array Slot), va_P G.1 vwCl [(m, .inr (6, [.int (nI 0), .ref mt, .int (nI ts), .int (nI ps), .int pv, .ref mp, .int (nI V), .ref mg, .ref mc, .ref mh, .int (nI rm), .ref ms, .ref mu, .int (nI on), .ref of1, .ref ot1, .ref oi1, .long sd, .ref ml, .ref md, .ref mw])), zA G ml 64 (mT g 65535), zA G mw 96 (zWd 65535 g wd (g 0)), zA G mg 49 g] H → va_D AM [(m, .inr (6, [.int (nI 0), .ref mt, .int (nI ts), .int (nI ps), .int pv, .ref mp, .int (nI V), .ref mg, .ref mc, .ref mh, .int (nI rm), .ref ms, .ref mu, .int (nI on), .ref of1, .ref ot1, .ref oi1, .long sd, .ref ml, .ref md, .ref mw])), zA G ml 64 (mT g 65535), zA G mw 96 (zWd 65535 g wd (g 0)), zA G mg 49 g] → va_S AM sM.heap H locs → lv_has ls 4 [(0, .ref m), (1, .int (nI x.toInt.toNat)), (2, .int (nI a)), (3, .int (nI v))] → W pM l eM ({ frames := 3, cells := 0, slots := 0, locals := 76 }) sM mM (([.ref m, .int x] : List Value).toArray) bM tM cM H locs 0 0 QM (F0 mM 29 ls []) := by
      intro n9
      induction n9 with
      | zero =>
        intro _ _ _ _ h9
        exact absurd h9 (Nat.not_lt_zero _)
      | succ n9 ih9 =>
        intro v a h1 hq hmu29 H locs ls hP hD hS hl
        have ih29 := ih9
        clear ih9
        refine lv_iload_n hx hb dX9_reachableFrom_29 rfl (lv_at hl 3 rfl) ?_
        refine lv_aload_n hx hb dX9_reachableFrom_30 rfl (lv_at hl 0 rfl) ?_
        refine va_get (D := G.1) (ci := 6) (v := .int (nI V)) (C := RX9) (T := TX9) (N := 21) hx hb hts hinX9 hown hK hP 0 rfl rfl 6 (by decide) hlk16 (fun _ h9 => h9) rfl dX9_reachableFrom_31 ?_
        refine zn_ge (tgt := 62) hx hb dX9_reachableFrom_34 (by decide) (by omega) (by omega) (fun c_2 => ?_) (fun c_2 => ?_)
        · skip
          refine lv_iload_n hx hb dX9_reachableFrom_62 rfl (lv_at hl 2 rfl) ?_
          exact kret _ _ _ _ _ _ (congrArg nI (by have hq9 : v = V := (by omega); rw [hq9] at hq; exact hq)) rfl hP hD hS dX9_reachableFrom_63
        · skip
          refine lv_iload_n hx hb dX9_reachableFrom_37 rfl (lv_at hl 2 rfl) ?_
          refine lv_aload_n hx hb dX9_reachableFrom_38 rfl (lv_at hl 0 rfl) ?_
          refine lv_iload_n hx hb dX9_reachableFrom_39 rfl (lv_at hl 1 rfl) ?_
          refine lv_iload_n hx hb dX9_reachableFrom_40 rfl (lv_at hl 3 rfl) ?_
          refine zVi (W1 := [(m, .inr (6, [.int (nI 0), .ref mt, .int (nI ts), .int (nI ps), .int pv, .ref mp, .int (nI V), .ref mg, .ref mc, .ref mh, .int (nI rm), .ref ms, .ref mu, .int (nI on), .ref of1, .ref ot1, .ref oi1, .long sd, .ref ml, .ref md, .ref mw])), zA G ml 64 (mT g 65535), zA G mw 96 (zWd 65535 g wd (g 0)), zA G mg 49 g]) (W2 := [(m, .inr (6, [.int (nI 0), .ref mt, .int (nI ts), .int (nI ps), .int pv, .ref mp, .int (nI V), .ref mg, .ref mc, .ref mh, .int (nI rm), .ref ms, .ref mu, .int (nI on), .ref of1, .ref ot1, .ref oi1, .long sd, .ref ml, .ref md, .ref mw])), zA G ml 64 (mT g 65535), zA G mw 96 (zWd 65535 g wd (g 0)), zA G mg 49 g]) (wr := [zA G mw 96 (zWd 65535 g wd (g 0)), zA G mg 49 g]) (rest := [.int (nI a)]) SM (c_X9_reaches l G m mt mp mg mc mh ms mu of1 ot1 oi1 ml md mw 0 ts ps V rm on pv sd (mT g 65535) x.toInt.toNat v (mT_2 g 65535) (by first | assumption | omega) (by first | assumption | omega)) (cwV 2 hts gX9_reachableFrom_X9_reaches rfl rfl rfl (by decide +kernel) ⟨Nat.le_of_ble_eq_true rfl, Nat.le_of_ble_eq_true rfl⟩) hK hE hA hP hD hS hl.1 [0, 1] [2, 3] [2, 3, 0, 1] rfl rfl rfl (by decide) (ci := 6) rfl rfl rfl rfl rfl (Nat.le_of_ble_eq_true rfl) ⟨Nat.zero_le _, Nat.zero_le _⟩ dX9_reachableFrom_41 (fun H locs hP hD hS => ?_)
          refine zb_eq (tgt := 53) hx hb dX9_reachableFrom_44 (by decide) (fun c_3 => ?_) (fun c_3 => ?_)
          · skip
            refine lv_iconst (v := nI 0) hx hb dX9_reachableFrom_53 (by decide) ?_
            refine zi_or hx hb dX9_reachableFrom_54 ?_
            refine lv_istore_n (lv' := [(2, .int (nI (a ||| 0))), (0, .ref m), (1, .int (nI x.toInt.toNat)), (3, .int (nI v))]) hx hb dX9_reachableFrom_55 rfl hl (by decide) rfl (fun ls hl => ?_)
            refine lv_iinc (v := nI (v + 1)) (lv' := [(3, .int (nI (v + 1))), (2, .int (nI (a ||| 0))), (0, .ref m), (1, .int (nI x.toInt.toNat))]) hx hb dX9_reachableFrom_56 hl (k := 3) rfl (zinc v 1) (by decide) rfl (fun ls hl => ?_)
            refine lv_goto (tgt := 29) hx hb dX9_reachableFrom_59 (by decide) ?_
            exact ih29 (v + 1) (a ||| 0) (by omega) (by rw [zIt_s, ← hq]; unfold mRfF; first | rw [if_pos (by omega)] | rw [if_neg (by omega)]) (by omega) _ _ _ hP hD hS (lv_sub hl [2, 3, 1, 0] rfl)
          · skip
            refine lv_iconst (v := nI 1) hx hb dX9_reachableFrom_47 (by decide) ?_
            refine lv_iload_n hx hb dX9_reachableFrom_48 rfl (lv_at hl 3 rfl) ?_
            refine zi_shl1 hx hb dX9_reachableFrom_49 (by omega) ?_
            refine lv_goto (tgt := 54) hx hb dX9_reachableFrom_50 (by decide) ?_
            refine zi_or hx hb dX9_reachableFrom_54 ?_
            refine lv_istore_n (lv' := [(2, .int (nI (a ||| (2 ^ v)))), (0, .ref m), (1, .int (nI x.toInt.toNat)), (3, .int (nI v))]) hx hb dX9_reachableFrom_55 rfl hl (by decide) rfl (fun ls hl => ?_)
            refine lv_iinc (v := nI (v + 1)) (lv' := [(3, .int (nI (v + 1))), (2, .int (nI (a ||| (2 ^ v)))), (0, .ref m), (1, .int (nI x.toInt.toNat))]) hx hb dX9_reachableFrom_56 hl (k := 3) rfl (zinc v 1) (by decide) rfl (fun ls hl => ?_)
            refine lv_goto (tgt := 29) hx hb dX9_reachableFrom_59 (by decide) ?_
            exact ih29 (v + 1) (a ||| (2 ^ v)) (by omega) (by rw [zIt_s, ← hq]; unfold mRfF; first | rw [if_pos (by omega)] | rw [if_neg (by omega)]) (by omega) _ _ _ hP hD hS (lv_sub hl [2, 3, 1, 0] rfl)
    exact lp29 (V - 0 + 1) 0 0 (by first | assumption | omega) rfl (Nat.lt_succ_self _) _ _ _ hP hD hS (lv_sub hl [2, 3, 1, 0] rfl)
  · skip
    exfalso; omega
set_option maxHeartbeats 400000 in
set_option maxRecDepth 100000 in
theorem c_X9_pairCount (l : Launch) (G : zG) (m mt mp mg mc mh ms mu of1 ot1 oi1 ml md mw th ts ps V rm on : Nat) (pv : Int32) (sd : Int64) (f wd g : Nat → Nat) (hV : V ≤ 8) (hV1 : 1 ≤ V) (hL : zL2 f) (hw8 : ∀ i, wd i < 8) (hg0 : g 0 ≤ 16) (hg8 : ∀ i, 1 ≤ i → g i < 8) : MI l yX9_pairCount wsX9_pairCount ({ frames := 4, cells := 0, slots := 0, locals := 98 }) G [.ref m] [(m, .inr (6, [.int (nI th), .ref mt, .int (nI ts), .int (nI ps), .int pv, .ref mp, .int (nI V), .ref mg, .ref mc, .ref mh, .int (nI rm), .ref ms, .ref mu, .int (nI on), .ref of1, .ref ot1, .ref oi1, .long sd, .ref ml, .ref md, .ref mw])), zA G ml 64 f, zA G mw 96 wd, zA G mg 49 g] (nI (mPr V g 65535)) [(m, .inr (6, [.int (nI 0), .ref mt, .int (nI ts), .int (nI ps), .int pv, .ref mp, .int (nI V), .ref mg, .ref mc, .ref mh, .int (nI rm), .ref ms, .ref mu, .int (nI on), .ref of1, .ref ot1, .ref oi1, .long sd, .ref ml, .ref md, .ref mw])), zA G ml 64 (mT g 65535), zA G mw 96 (zWd 65535 g wd (g 0)), zA G mg 49 g] := by
  refine MI.enter (cc := cX9_pairCount) (maxL := 1) (by decide) rfl (Nat.le_of_ble_eq_true rfl) rfl ?_
  intro pM eM sM mM bM tM cM QM AM ls hat kret
  obtain ⟨SM, hA, hK, hE, hP, hD, hS, hl⟩ := hat
  have hx := SM.1
  have hb := SM.2.1
  have hown : sM.vm.findClass RX9 = some mM.cls := SM.2.2.2.1
  have hts := SM.2.2.2.2
  have hinX9 : ∀ w ∈ u_ws RX9 TX9 21, w ∈ wsX9_pairCount := by decide +kernel
  have hlk54 : (Cond.fieldLink RX9 54 "DyckReachabilityModel" "thrown" "I").before _ sM = true := hts _ (by decide +kernel)
  have hlk20 : (Cond.fieldLink RX9 20 "DyckReachabilityModel" "graph" "[I").before _ sM = true := hts _ (by decide +kernel)
  have hl : lv_has ls 1 [(0, .ref m)] := hl
  refine lv_aload_n hx hb dX9_pairCount_0 rfl (lv_at hl 0 rfl) ?_
  refine lv_iconst (v := nI 0) hx hb dX9_pairCount_1 (by decide) ?_
  refine va_put (D := G.1) (ci := 6) (v := .int (nI 0)) (ty := .int) (C := RX9) (T := TX9) (N := 21) hx hb hts hinX9 tyX9 tyX9_ok nmX9 hown hK hP hD hS 0 rfl rfl 0 (by decide) hlk54 (fun _ h9 => h9) rfl (by decide +kernel) rfl rfl (Nat.le_of_ble_eq_true rfl) dX9_pairCount_2 (fun H locs hP hD hS => ?_)
  have hP : va_P G.1 vwCl [(m, .inr (6, [.int (nI 0), .ref mt, .int (nI ts), .int (nI ps), .int pv, .ref mp, .int (nI V), .ref mg, .ref mc, .ref mh, .int (nI rm), .ref ms, .ref mu, .int (nI on), .ref of1, .ref ot1, .ref oi1, .long sd, .ref ml, .ref md, .ref mw])), zA G ml 64 f, zA G mw 96 wd, zA G mg 49 g] H := hP
  have hD : va_D AM [(m, .inr (6, [.int (nI 0), .ref mt, .int (nI ts), .int (nI ps), .int pv, .ref mp, .int (nI V), .ref mg, .ref mc, .ref mh, .int (nI rm), .ref ms, .ref mu, .int (nI on), .ref of1, .ref ot1, .ref oi1, .long sd, .ref ml, .ref md, .ref mw])), zA G ml 64 f, zA G mw 96 wd, zA G mg 49 g] := hD
  refine lv_aload_n hx hb dX9_pairCount_5 rfl (lv_at hl 0 rfl) ?_
  refine lv_aload_n hx hb dX9_pairCount_6 rfl (lv_at hl 0 rfl) ?_
  refine va_get (D := G.1) (ci := 6) (v := .ref mg) (C := RX9) (T := TX9) (N := 21) hx hb hts hinX9 hown hK hP 0 rfl rfl 7 (by decide) hlk20 (fun _ h9 => h9) rfl dX9_pairCount_7 ?_
  refine lv_ldc (v := nI 65535) hx hb hown (hts (.constant RX9 140 (65535)) (by decide +kernel)) dX9_pairCount_10 ?_
  refine zVi (W1 := [(m, .inr (6, [.int (nI 0), .ref mt, .int (nI ts), .int (nI ps), .int pv, .ref mp, .int (nI V), .ref mg, .ref mc, .ref mh, .int (nI rm), .ref ms, .ref mu, .int (nI on), .ref of1, .ref ot1, .ref oi1, .long sd, .ref ml, .ref md, .ref mw])), zA G ml 64 f, zA G mw 96 wd, zA G mg 49 g]) (W2 := [(m, .inr (6, [.int (nI 0), .ref mt, .int (nI ts), .int (nI ps), .int pv, .ref mp, .int (nI V), .ref mg, .ref mc, .ref mh, .int (nI rm), .ref ms, .ref mu, .int (nI on), .ref of1, .ref ot1, .ref oi1, .long sd, .ref ml, .ref md, .ref mw])), zA G ml 64 (mT g 65535), zA G mw 96 (zWd 65535 g wd (g 0)), zA G mg 49 g]) (wr := []) (rest := []) SM (c_X9_pairsOf l G m mt mp mg mc mh ms mu of1 ot1 oi1 ml md mw 0 ts ps V rm on pv sd f wd mg g 65535 (by first | assumption | omega) (by first | assumption | omega) (by first | assumption | omega) (by first | assumption | omega) (by first | assumption | omega) (by first | assumption | omega)) (cwV 2 hts gX9_pairCount_X9_pairsOf rfl rfl rfl (by decide +kernel) ⟨Nat.le_of_ble_eq_true rfl, Nat.le_of_ble_eq_true rfl⟩) hK hE hA hP hD hS hl.1 [0, 1, 2, 3] [] [0, 1, 2, 3] rfl rfl rfl (by decide) (ci := 6) rfl rfl rfl rfl rfl (Nat.le_of_ble_eq_true rfl) ⟨Nat.zero_le _, Nat.zero_le _⟩ dX9_pairCount_12 (fun H locs hP hD hS => ?_)
  exact kret _ _ _ _ _ _ rfl rfl hP hD hS dX9_pairCount_15
set_option maxHeartbeats 400000 in
set_option maxRecDepth 100000 in
theorem c_X9_distance_bad (l : Launch) (G : zG) (m mt mp mg mc mh ms mu of1 ot1 oi1 ml md mw th ts ps V rm on : Nat) (pv : Int32) (sd : Int64) (x y : Int32) (hV : V ≤ 8) (hV1 : 1 ≤ V) (hb0 : ¬ ((0 ≤ x.toInt ∧ x.toInt < V) ∧ (0 ≤ y.toInt ∧ y.toInt < V))) : MI l yX9_distance wsX9_distance ({ frames := 2, cells := 0, slots := 0, locals := 46 }) G [.ref m, .int x, .int y] [(m, .inr (6, [.int (nI th), .ref mt, .int (nI ts), .int (nI ps), .int pv, .ref mp, .int (nI V), .ref mg, .ref mc, .ref mh, .int (nI rm), .ref ms, .ref mu, .int (nI on), .ref of1, .ref ot1, .ref oi1, .long sd, .ref ml, .ref md, .ref mw]))] (-1) [(m, .inr (6, [.int (nI 0), .ref mt, .int (nI ts), .int (nI ps), .int pv, .ref mp, .int (nI V), .ref mg, .ref mc, .ref mh, .int (nI rm), .ref ms, .ref mu, .int (nI on), .ref of1, .ref ot1, .ref oi1, .long sd, .ref ml, .ref md, .ref mw]))] := by
  refine MI.enter (cc := cX9_distance) (maxL := 3) (by decide) rfl (Nat.le_of_ble_eq_true rfl) rfl ?_
  intro pM eM sM mM bM tM cM QM AM ls hat kret
  obtain ⟨SM, hA, hK, hE, hP, hD, hS, hl⟩ := hat
  have hx := SM.1
  have hb := SM.2.1
  have hown : sM.vm.findClass RX9 = some mM.cls := SM.2.2.2.1
  have hts := SM.2.2.2.2
  have hinX9 : ∀ w ∈ u_ws RX9 TX9 21, w ∈ wsX9_distance := by decide +kernel
  have hlk54 : (Cond.fieldLink RX9 54 "DyckReachabilityModel" "thrown" "I").before _ sM = true := hts _ (by decide +kernel)
  have hl : lv_has ls 3 [(0, .ref m), (1, .int x), (2, .int y)] := hl
  refine lv_aload_n hx hb dX9_distance_0 rfl (lv_at hl 0 rfl) ?_
  refine lv_iconst (v := nI 0) hx hb dX9_distance_1 (by decide) ?_
  refine va_put (D := G.1) (ci := 6) (v := .int (nI 0)) (ty := .int) (C := RX9) (T := TX9) (N := 21) hx hb hts hinX9 tyX9 tyX9_ok nmX9 hown hK hP hD hS 0 rfl rfl 0 (by decide) hlk54 (fun _ h9 => h9) rfl (by decide +kernel) rfl rfl (Nat.le_of_ble_eq_true rfl) dX9_distance_2 (fun H locs hP hD hS => ?_)
  have hP : va_P G.1 vwCl [(m, .inr (6, [.int (nI 0), .ref mt, .int (nI ts), .int (nI ps), .int pv, .ref mp, .int (nI V), .ref mg, .ref mc, .ref mh, .int (nI rm), .ref ms, .ref mu, .int (nI on), .ref of1, .ref ot1, .ref oi1, .long sd, .ref ml, .ref md, .ref mw]))] H := hP
  have hD : va_D AM [(m, .inr (6, [.int (nI 0), .ref mt, .int (nI ts), .int (nI ps), .int pv, .ref mp, .int (nI V), .ref mg, .ref mc, .ref mh, .int (nI rm), .ref ms, .ref mu, .int (nI on), .ref of1, .ref ot1, .ref oi1, .long sd, .ref ml, .ref md, .ref mw]))] := hD
  refine lv_aload_n hx hb dX9_distance_5 rfl (lv_at hl 0 rfl) ?_
  refine lv_iload_n hx hb dX9_distance_6 rfl (lv_at hl 1 rfl) ?_
  refine zVi (W1 := [(m, .inr (6, [.int (nI 0), .ref mt, .int (nI ts), .int (nI ps), .int pv, .ref mp, .int (nI V), .ref mg, .ref mc, .ref mh, .int (nI rm), .ref ms, .ref mu, .int (nI on), .ref of1, .ref ot1, .ref oi1, .long sd, .ref ml, .ref md, .ref mw]))]) (W2 := [(m, .inr (6, [.int (nI 0), .ref mt, .int (nI ts), .int (nI ps), .int pv, .ref mp, .int (nI V), .ref mg, .ref mc, .ref mh, .int (nI rm), .ref ms, .ref mu, .int (nI on), .ref of1, .ref ot1, .ref oi1, .long sd, .ref ml, .ref md, .ref mw]))]) (wr := []) (rest := []) SM (c_X9_noVertex l G m mt mp mg mc mh ms mu of1 ot1 oi1 ml md mw 0 ts ps V rm on pv sd x (by first | assumption | omega) (by first | assumption | omega)) (cwV 1 hts gX9_distance_X9_noVertex rfl rfl rfl (by decide +kernel) ⟨Nat.le_of_ble_eq_true rfl, Nat.le_of_ble_eq_true rfl⟩) hK hE hA hP hD hS hl.1 [0] [] [0] rfl rfl rfl (by decide) (ci := 6) rfl rfl rfl rfl rfl (Nat.le_of_ble_eq_true rfl) ⟨Nat.zero_le _, Nat.zero_le _⟩ dX9_distance_7 (fun H locs hP hD hS => ?_)
  refine zb_ne (tgt := 21) hx hb dX9_distance_10 (by decide) (fun c_1 => ?_) (fun c_1 => ?_)
  · skip
    refine lv_iconst (v := (-1)) hx hb dX9_distance_21 (by decide) ?_
    exact kret _ _ _ _ _ _ rfl rfl hP hD hS dX9_distance_22
  · skip
    refine lv_aload_n hx hb dX9_distance_13 rfl (lv_at hl 0 rfl) ?_
    refine lv_iload_n hx hb dX9_distance_14 rfl (lv_at hl 2 rfl) ?_
    refine zVi (W1 := [(m, .inr (6, [.int (nI 0), .ref mt, .int (nI ts), .int (nI ps), .int pv, .ref mp, .int (nI V), .ref mg, .ref mc, .ref mh, .int (nI rm), .ref ms, .ref mu, .int (nI on), .ref of1, .ref ot1, .ref oi1, .long sd, .ref ml, .ref md, .ref mw]))]) (W2 := [(m, .inr (6, [.int (nI 0), .ref mt, .int (nI ts), .int (nI ps), .int pv, .ref mp, .int (nI V), .ref mg, .ref mc, .ref mh, .int (nI rm), .ref ms, .ref mu, .int (nI on), .ref of1, .ref ot1, .ref oi1, .long sd, .ref ml, .ref md, .ref mw]))]) (wr := []) (rest := []) SM (c_X9_noVertex l G m mt mp mg mc mh ms mu of1 ot1 oi1 ml md mw 0 ts ps V rm on pv sd y (by first | assumption | omega) (by first | assumption | omega)) (cwV 1 hts gX9_distance_X9_noVertex rfl rfl rfl (by decide +kernel) ⟨Nat.le_of_ble_eq_true rfl, Nat.le_of_ble_eq_true rfl⟩) hK hE hA hP hD hS hl.1 [0] [] [0] rfl rfl rfl (by decide) (ci := 6) rfl rfl rfl rfl rfl (Nat.le_of_ble_eq_true rfl) ⟨Nat.zero_le _, Nat.zero_le _⟩ dX9_distance_15 (fun H locs hP hD hS => ?_)
    refine zb_eq (tgt := 23) hx hb dX9_distance_18 (by decide) (fun c_2 => ?_) (fun c_2 => ?_)
    · skip
      exfalso; omega
    · skip
      refine lv_iconst (v := (-1)) hx hb dX9_distance_21 (by decide) ?_
      exact kret _ _ _ _ _ _ rfl rfl hP hD hS dX9_distance_22
set_option maxHeartbeats 400000 in
set_option maxRecDepth 100000 in
theorem c_X9_distance_ok (l : Launch) (G : zG) (m mt mp mg mc mh ms mu of1 ot1 oi1 ml md mw th ts ps V rm on : Nat) (pv : Int32) (sd : Int64) (f wd g : Nat → Nat) (x y : Int32) (hV : V ≤ 8) (hV1 : 1 ≤ V) (hL : zL2 f) (hw8 : ∀ i, wd i < 8) (hg0 : g 0 ≤ 16) (hg8 : ∀ i, 1 ≤ i → g i < 8) (hx : 0 ≤ x.toInt ∧ x.toInt < V) (hy : 0 ≤ y.toInt ∧ y.toInt < V) : MI l yX9_distance wsX9_distance ({ frames := 3, cells := 0, slots := 0, locals := 76 }) G [.ref m, .int x, .int y] [(m, .inr (6, [.int (nI th), .ref mt, .int (nI ts), .int (nI ps), .int pv, .ref mp, .int (nI V), .ref mg, .ref mc, .ref mh, .int (nI rm), .ref ms, .ref mu, .int (nI on), .ref of1, .ref ot1, .ref oi1, .long sd, .ref ml, .ref md, .ref mw])), zA G ml 64 f, zA G mw 96 wd, zA G mg 49 g] (mDi (mT g 65535) x.toInt.toNat y.toInt.toNat) [(m, .inr (6, [.int (nI 0), .ref mt, .int (nI ts), .int (nI ps), .int pv, .ref mp, .int (nI V), .ref mg, .ref mc, .ref mh, .int (nI rm), .ref ms, .ref mu, .int (nI on), .ref of1, .ref ot1, .ref oi1, .long sd, .ref ml, .ref md, .ref mw])), zA G ml 64 (mT g 65535), zA G mw 96 (zWd 65535 g wd (g 0)), zA G mg 49 g] := by
  refine MI.enter (cc := cX9_distance) (maxL := 3) (by decide) rfl (Nat.le_of_ble_eq_true rfl) rfl ?_
  intro pM eM sM mM bM tM cM QM AM ls hat kret
  obtain ⟨SM, hA, hK, hE, hP, hD, hS, hl⟩ := hat
  have hx := SM.1
  have hb := SM.2.1
  have hown : sM.vm.findClass RX9 = some mM.cls := SM.2.2.2.1
  have hts := SM.2.2.2.2
  have hinX9 : ∀ w ∈ u_ws RX9 TX9 21, w ∈ wsX9_distance := by decide +kernel
  have hlk54 : (Cond.fieldLink RX9 54 "DyckReachabilityModel" "thrown" "I").before _ sM = true := hts _ (by decide +kernel)
  have hlk20 : (Cond.fieldLink RX9 20 "DyckReachabilityModel" "graph" "[I").before _ sM = true := hts _ (by decide +kernel)
  have hlk45 : (Cond.fieldLink RX9 45 "DyckReachabilityModel" "lengths" "[I").before _ sM = true := hts _ (by decide +kernel)
  have hl : lv_has ls 3 [(0, .ref m), (1, .int x), (2, .int y)] := hl
  refine lv_aload_n hx hb dX9_distance_0 rfl (lv_at hl 0 rfl) ?_
  refine lv_iconst (v := nI 0) hx hb dX9_distance_1 (by decide) ?_
  refine va_put (D := G.1) (ci := 6) (v := .int (nI 0)) (ty := .int) (C := RX9) (T := TX9) (N := 21) hx hb hts hinX9 tyX9 tyX9_ok nmX9 hown hK hP hD hS 0 rfl rfl 0 (by decide) hlk54 (fun _ h9 => h9) rfl (by decide +kernel) rfl rfl (Nat.le_of_ble_eq_true rfl) dX9_distance_2 (fun H locs hP hD hS => ?_)
  have hP : va_P G.1 vwCl [(m, .inr (6, [.int (nI 0), .ref mt, .int (nI ts), .int (nI ps), .int pv, .ref mp, .int (nI V), .ref mg, .ref mc, .ref mh, .int (nI rm), .ref ms, .ref mu, .int (nI on), .ref of1, .ref ot1, .ref oi1, .long sd, .ref ml, .ref md, .ref mw])), zA G ml 64 f, zA G mw 96 wd, zA G mg 49 g] H := hP
  have hD : va_D AM [(m, .inr (6, [.int (nI 0), .ref mt, .int (nI ts), .int (nI ps), .int pv, .ref mp, .int (nI V), .ref mg, .ref mc, .ref mh, .int (nI rm), .ref ms, .ref mu, .int (nI on), .ref of1, .ref ot1, .ref oi1, .long sd, .ref ml, .ref md, .ref mw])), zA G ml 64 f, zA G mw 96 wd, zA G mg 49 g] := hD
  refine lv_aload_n hx hb dX9_distance_5 rfl (lv_at hl 0 rfl) ?_
  refine lv_iload_n hx hb dX9_distance_6 rfl (lv_at hl 1 rfl) ?_
  refine zVi (W1 := [(m, .inr (6, [.int (nI 0), .ref mt, .int (nI ts), .int (nI ps), .int pv, .ref mp, .int (nI V), .ref mg, .ref mc, .ref mh, .int (nI rm), .ref ms, .ref mu, .int (nI on), .ref of1, .ref ot1, .ref oi1, .long sd, .ref ml, .ref md, .ref mw])), zA G ml 64 f, zA G mw 96 wd, zA G mg 49 g]) (W2 := [(m, .inr (6, [.int (nI 0), .ref mt, .int (nI ts), .int (nI ps), .int pv, .ref mp, .int (nI V), .ref mg, .ref mc, .ref mh, .int (nI rm), .ref ms, .ref mu, .int (nI on), .ref of1, .ref ot1, .ref oi1, .long sd, .ref ml, .ref md, .ref mw])), zA G ml 64 f, zA G mw 96 wd, zA G mg 49 g]) (wr := [zA G ml 64 f, zA G mw 96 wd, zA G mg 49 g]) (rest := []) SM (c_X9_noVertex l G m mt mp mg mc mh ms mu of1 ot1 oi1 ml md mw 0 ts ps V rm on pv sd x (by first | assumption | omega) (by first | assumption | omega)) (cwV 1 hts gX9_distance_X9_noVertex rfl rfl rfl (by decide +kernel) ⟨Nat.le_of_ble_eq_true rfl, Nat.le_of_ble_eq_true rfl⟩) hK hE hA hP hD hS hl.1 [0] [1, 2, 3] [3, 0, 1, 2] rfl rfl rfl (by decide) (ci := 6) rfl rfl rfl rfl rfl (Nat.le_of_ble_eq_true rfl) ⟨Nat.zero_le _, Nat.zero_le _⟩ dX9_distance_7 (fun H locs hP hD hS => ?_)
  refine zb_ne (tgt := 21) hx hb dX9_distance_10 (by decide) (fun c_1 => ?_) (fun c_1 => ?_)
  · skip
    exfalso; omega
  · skip
    refine lv_aload_n hx hb dX9_distance_13 rfl (lv_at hl 0 rfl) ?_
    refine lv_iload_n hx hb dX9_distance_14 rfl (lv_at hl 2 rfl) ?_
    refine zVi (W1 := [(m, .inr (6, [.int (nI 0), .ref mt, .int (nI ts), .int (nI ps), .int pv, .ref mp, .int (nI V), .ref mg, .ref mc, .ref mh, .int (nI rm), .ref ms, .ref mu, .int (nI on), .ref of1, .ref ot1, .ref oi1, .long sd, .ref ml, .ref md, .ref mw])), zA G ml 64 f, zA G mw 96 wd, zA G mg 49 g]) (W2 := [(m, .inr (6, [.int (nI 0), .ref mt, .int (nI ts), .int (nI ps), .int pv, .ref mp, .int (nI V), .ref mg, .ref mc, .ref mh, .int (nI rm), .ref ms, .ref mu, .int (nI on), .ref of1, .ref ot1, .ref oi1, .long sd, .ref ml, .ref md, .ref mw])), zA G ml 64 f, zA G mw 96 wd, zA G mg 49 g]) (wr := [zA G ml 64 f, zA G mw 96 wd, zA G mg 49 g]) (rest := []) SM (c_X9_noVertex l G m mt mp mg mc mh ms mu of1 ot1 oi1 ml md mw 0 ts ps V rm on pv sd y (by first | assumption | omega) (by first | assumption | omega)) (cwV 1 hts gX9_distance_X9_noVertex rfl rfl rfl (by decide +kernel) ⟨Nat.le_of_ble_eq_true rfl, Nat.le_of_ble_eq_true rfl⟩) hK hE hA hP hD hS hl.1 [0] [1, 2, 3] [3, 0, 1, 2] rfl rfl rfl (by decide) (ci := 6) rfl rfl rfl rfl rfl (Nat.le_of_ble_eq_true rfl) ⟨Nat.zero_le _, Nat.zero_le _⟩ dX9_distance_15 (fun H locs hP hD hS => ?_)
    refine zb_eq (tgt := 23) hx hb dX9_distance_18 (by decide) (fun c_2 => ?_) (fun c_2 => ?_)
    · skip
      have hl : lv_has ls 3 [(0, .ref m), (1, .int (nI x.toInt.toNat)), (2, .int (nI y.toInt.toNat))] := by rw [← xN_eq (x := x) (by omega), ← xN_eq (x := y) (by omega)]; exact hl
      refine lv_aload_n hx hb dX9_distance_23 rfl (lv_at hl 0 rfl) ?_
      refine lv_aload_n hx hb dX9_distance_24 rfl (lv_at hl 0 rfl) ?_
      refine va_get (D := G.1) (ci := 6) (v := .ref mg) (C := RX9) (T := TX9) (N := 21) hx hb hts hinX9 hown hK hP 0 rfl rfl 7 (by decide) hlk20 (fun _ h9 => h9) rfl dX9_distance_25 ?_
      refine lv_ldc (v := nI 65535) hx hb hown (hts (.constant RX9 140 (65535)) (by decide +kernel)) dX9_distance_28 ?_
      refine zVv (W1 := [(m, .inr (6, [.int (nI 0), .ref mt, .int (nI ts), .int (nI ps), .int pv, .ref mp, .int (nI V), .ref mg, .ref mc, .ref mh, .int (nI rm), .ref ms, .ref mu, .int (nI on), .ref of1, .ref ot1, .ref oi1, .long sd, .ref ml, .ref md, .ref mw])), zA G ml 64 f, zA G mw 96 wd, zA G mg 49 g]) (W2 := [(m, .inr (6, [.int (nI 0), .ref mt, .int (nI ts), .int (nI ps), .int pv, .ref mp, .int (nI V), .ref mg, .ref mc, .ref mh, .int (nI rm), .ref ms, .ref mu, .int (nI on), .ref of1, .ref ot1, .ref oi1, .long sd, .ref ml, .ref md, .ref mw])), zA G ml 64 (mT g 65535), zA G mw 96 (zWd 65535 g wd (g 0)), zA G mg 49 g]) (wr := []) (rest := []) SM (c_X9_closeOf l G m mt mp mg mc mh ms mu of1 ot1 oi1 ml md mw 0 ts ps V rm on pv sd f wd mg g 65535 (by first | assumption | omega) (by first | assumption | omega) (by first | assumption | omega) (by first | assumption | omega) (by first | assumption | omega)) (cwV 2 hts gX9_distance_X9_closeOf rfl rfl rfl (by decide +kernel) ⟨Nat.le_of_ble_eq_true rfl, Nat.le_of_ble_eq_true rfl⟩) hK hE hA hP hD hS hl.1 [0, 1, 2, 3] [] [0, 1, 2, 3] rfl rfl rfl (by decide) (ci := 6) rfl rfl rfl rfl rfl (Nat.le_of_ble_eq_true rfl) ⟨Nat.zero_le _, Nat.zero_le _⟩ dX9_distance_30 (fun H locs hP hD hS => ?_)
      refine lv_aload_n hx hb dX9_distance_33 rfl (lv_at hl 0 rfl) ?_
      refine lv_iload_n hx hb dX9_distance_34 rfl (lv_at hl 1 rfl) ?_
      refine lv_iload_n hx hb dX9_distance_35 rfl (lv_at hl 2 rfl) ?_
      refine zVi (W1 := [(m, .inr (6, [.int (nI 0), .ref mt, .int (nI ts), .int (nI ps), .int pv, .ref mp, .int (nI V), .ref mg, .ref mc, .ref mh, .int (nI rm), .ref ms, .ref mu, .int (nI on), .ref of1, .ref ot1, .ref oi1, .long sd, .ref ml, .ref md, .ref mw])), zA G ml 64 (mT g 65535), zA G mw 96 (zWd 65535 g wd (g 0)), zA G mg 49 g]) (W2 := [(m, .inr (6, [.int (nI 0), .ref mt, .int (nI ts), .int (nI ps), .int pv, .ref mp, .int (nI V), .ref mg, .ref mc, .ref mh, .int (nI rm), .ref ms, .ref mu, .int (nI on), .ref of1, .ref ot1, .ref oi1, .long sd, .ref ml, .ref md, .ref mw])), zA G ml 64 (mT g 65535), zA G mw 96 (zWd 65535 g wd (g 0)), zA G mg 49 g]) (wr := [zA G mw 96 (zWd 65535 g wd (g 0)), zA G mg 49 g]) (rest := []) SM (c_X9_reaches l G m mt mp mg mc mh ms mu of1 ot1 oi1 ml md mw 0 ts ps V rm on pv sd (mT g 65535) x.toInt.toNat y.toInt.toNat (mT_2 g 65535) (by first | assumption | omega) (by first | assumption | omega)) (cwV 2 hts gX9_distance_X9_reaches rfl rfl rfl (by decide +kernel) ⟨Nat.le_of_ble_eq_true rfl, Nat.le_of_ble_eq_true rfl⟩) hK hE hA hP hD hS hl.1 [0, 1] [2, 3] [2, 3, 0, 1] rfl rfl rfl (by decide) (ci := 6) rfl rfl rfl rfl rfl (Nat.le_of_ble_eq_true rfl) ⟨Nat.zero_le _, Nat.zero_le _⟩ dX9_distance_36 (fun H locs hP hD hS => ?_)
      refine zb_eq (tgt := 56) hx hb dX9_distance_39 (by decide) (fun c_3 => ?_) (fun c_3 => ?_)
      · skip
        refine lv_bipush (v := (-9)) hx hb dX9_distance_56 (by decide) ?_
        exact kret _ _ _ _ _ _ (by unfold mDi; repeat (first | rw [if_pos (by first | assumption | omega)] | rw [if_neg (by first | assumption | omega)])) rfl hP hD hS dX9_distance_58
      · skip
        refine lv_aload_n hx hb dX9_distance_42 rfl (lv_at hl 0 rfl) ?_
        refine va_get (D := G.1) (ci := 6) (v := .ref ml) (C := RX9) (T := TX9) (N := 21) hx hb hts hinX9 hown hK hP 0 rfl rfl 18 (by decide) hlk45 (fun _ h9 => h9) rfl dX9_distance_43 ?_
        refine lv_bipush (v := nI 8) hx hb dX9_distance_46 (by decide) ?_
        refine lv_iload_n hx hb dX9_distance_48 rfl (lv_at hl 1 rfl) ?_
        refine zi_mul hx hb dX9_distance_49 ?_
        refine lv_iload_n hx hb dX9_distance_50 rfl (lv_at hl 2 rfl) ?_
        refine zi_add hx hb dX9_distance_51 ?_
        refine zi_ald hx hb hK hP 1 rfl (by omega) (by omega) dX9_distance_52 ?_
        refine lv_goto (tgt := 58) hx hb dX9_distance_53 (by decide) ?_
        exact kret _ _ _ _ _ _ (by unfold mDi; repeat (first | rw [if_pos (by first | assumption | omega)] | rw [if_neg (by first | assumption | omega)])) rfl hP hD hS dX9_distance_58
    · skip
      exfalso; omega
set_option maxHeartbeats 400000 in
set_option maxRecDepth 100000 in
theorem c_X9_observe_ok (l : Launch) (G : zG) (m mt mp mg mc mh ms mu of1 ot1 oi1 ml md mw th ts ps V rm on : Nat) (pv : Int32) (sd : Int64) (os oe oa : Nat → Nat) (x y z : Int32) (hx : 0 ≤ x.toInt ∧ x.toInt < 8) (hy : 0 ≤ y.toInt ∧ y.toInt < 8) (hz : 0 ≤ z.toInt ∧ z.toInt < 2) (hn : on < 6) : MI l yX9_observe wsX9_observe ({ frames := 1, cells := 0, slots := 0, locals := 25 }) G [.ref m, .int x, .int y, .int z] [(m, .inr (6, [.int (nI th), .ref mt, .int (nI ts), .int (nI ps), .int pv, .ref mp, .int (nI V), .ref mg, .ref mc, .ref mh, .int (nI rm), .ref ms, .ref mu, .int (nI on), .ref of1, .ref ot1, .ref oi1, .long sd, .ref ml, .ref md, .ref mw])), zA G of1 6 os, zA G ot1 6 oe, zA G oi1 6 oa] (nI (on + 1)) [(m, .inr (6, [.int (nI 0), .ref mt, .int (nI ts), .int (nI ps), .int pv, .ref mp, .int (nI V), .ref mg, .ref mc, .ref mh, .int (nI rm), .ref ms, .ref mu, .int (nI (on + 1)), .ref of1, .ref ot1, .ref oi1, .long sd, .ref ml, .ref md, .ref mw])), zA G of1 6 (zU os on x.toInt.toNat), zA G ot1 6 (zU oe on y.toInt.toNat), zA G oi1 6 (zU oa on z.toInt.toNat)] := by
  refine MI.enter (cc := cX9_observe) (maxL := 4) (by decide) rfl (Nat.le_of_ble_eq_true rfl) rfl ?_
  intro pM eM sM mM bM tM cM QM AM ls hat kret
  obtain ⟨SM, hA, hK, hE, hP, hD, hS, hl⟩ := hat
  have hx := SM.1
  have hb := SM.2.1
  have hown : sM.vm.findClass RX9 = some mM.cls := SM.2.2.2.1
  have hts := SM.2.2.2.2
  have hinX9 : ∀ w ∈ u_ws RX9 TX9 21, w ∈ wsX9_observe := by decide +kernel
  have hlk54 : (Cond.fieldLink RX9 54 "DyckReachabilityModel" "thrown" "I").before _ sM = true := hts _ (by decide +kernel)
  have hlk179 : (Cond.fieldLink RX9 179 "DyckReachabilityModel" "observed" "I").before _ sM = true := hts _ (by decide +kernel)
  have hlk36 : (Cond.fieldLink RX9 36 "DyckReachabilityModel" "observedFrom" "[I").before _ sM = true := hts _ (by decide +kernel)
  have hlk39 : (Cond.fieldLink RX9 39 "DyckReachabilityModel" "observedTo" "[I").before _ sM = true := hts _ (by decide +kernel)
  have hlk42 : (Cond.fieldLink RX9 42 "DyckReachabilityModel" "observedIs" "[I").before _ sM = true := hts _ (by decide +kernel)
  have hl : lv_has ls 4 [(0, .ref m), (1, .int x), (2, .int y), (3, .int z)] := hl
  refine lv_aload_n hx hb dX9_observe_0 rfl (lv_at hl 0 rfl) ?_
  refine lv_iconst (v := nI 0) hx hb dX9_observe_1 (by decide) ?_
  refine va_put (D := G.1) (ci := 6) (v := .int (nI 0)) (ty := .int) (C := RX9) (T := TX9) (N := 21) hx hb hts hinX9 tyX9 tyX9_ok nmX9 hown hK hP hD hS 0 rfl rfl 0 (by decide) hlk54 (fun _ h9 => h9) rfl (by decide +kernel) rfl rfl (Nat.le_of_ble_eq_true rfl) dX9_observe_2 (fun H locs hP hD hS => ?_)
  have hP : va_P G.1 vwCl [(m, .inr (6, [.int (nI 0), .ref mt, .int (nI ts), .int (nI ps), .int pv, .ref mp, .int (nI V), .ref mg, .ref mc, .ref mh, .int (nI rm), .ref ms, .ref mu, .int (nI on), .ref of1, .ref ot1, .ref oi1, .long sd, .ref ml, .ref md, .ref mw])), zA G of1 6 os, zA G ot1 6 oe, zA G oi1 6 oa] H := hP
  have hD : va_D AM [(m, .inr (6, [.int (nI 0), .ref mt, .int (nI ts), .int (nI ps), .int pv, .ref mp, .int (nI V), .ref mg, .ref mc, .ref mh, .int (nI rm), .ref ms, .ref mu, .int (nI on), .ref of1, .ref ot1, .ref oi1, .long sd, .ref ml, .ref md, .ref mw])), zA G of1 6 os, zA G ot1 6 oe, zA G oi1 6 oa] := hD
  refine lv_iload_n hx hb dX9_observe_5 rfl (lv_at hl 1 rfl) ?_
  refine lv_i2l hx hb dX9_observe_6 rfl ?_
  refine lv_lconst (v := lN 0) hx hb dX9_observe_7 (by decide) ?_
  refine lv_ldc2 (v := lN 7) hx hb hown (hts (.constantLong RX9 177 (7)) (by decide +kernel)) dX9_observe_8 ?_
  refine zSi (W1 := [(m, .inr (6, [.int (nI 0), .ref mt, .int (nI ts), .int (nI ps), .int pv, .ref mp, .int (nI V), .ref mg, .ref mc, .ref mh, .int (nI rm), .ref ms, .ref mu, .int (nI on), .ref of1, .ref ot1, .ref oi1, .long sd, .ref ml, .ref md, .ref mw])), zA G of1 6 os, zA G ot1 6 oe, zA G oi1 6 oa]) (W2 := [(m, .inr (6, [.int (nI 0), .ref mt, .int (nI ts), .int (nI ps), .int pv, .ref mp, .int (nI V), .ref mg, .ref mc, .ref mh, .int (nI rm), .ref ms, .ref mu, .int (nI on), .ref of1, .ref ot1, .ref oi1, .long sd, .ref ml, .ref md, .ref mw])), zA G of1 6 os, zA G ot1 6 oe, zA G oi1 6 oa]) (wr := [(m, .inr (6, [.int (nI 0), .ref mt, .int (nI ts), .int (nI ps), .int pv, .ref mp, .int (nI V), .ref mg, .ref mc, .ref mh, .int (nI rm), .ref ms, .ref mu, .int (nI on), .ref of1, .ref ot1, .ref oi1, .long sd, .ref ml, .ref md, .ref mw])), zA G of1 6 os, zA G ot1 6 oe, zA G oi1 6 oa]) (rest := []) SM (c_X9_in_X l G (x) 0 7 (by first | assumption | omega) (by first | assumption | omega)) (va_cwS 3 hts gX9_observe_X9_in rfl rfl rfl (by decide +kernel) ⟨Nat.le_of_ble_eq_true rfl, Nat.le_of_ble_eq_true rfl⟩) hK hE hA hP hD hS hl.1 [] [0, 1, 2, 3] [0, 1, 2, 3] rfl rfl rfl (by decide) rfl rfl (Nat.le_of_ble_eq_true rfl) ⟨Nat.zero_le _, Nat.zero_le _⟩ dX9_observe_11 (fun H locs hP hD hS => ?_)
  refine zb_eq (tgt := 39) hx hb dX9_observe_14 (by decide) (fun c_1 => ?_) (fun c_1 => ?_)
  · skip
    exfalso; omega
  · skip
    refine lv_iload_n hx hb dX9_observe_17 rfl (lv_at hl 2 rfl) ?_
    refine lv_i2l hx hb dX9_observe_18 rfl ?_
    refine lv_lconst (v := lN 0) hx hb dX9_observe_19 (by decide) ?_
    refine lv_ldc2 (v := lN 7) hx hb hown (hts (.constantLong RX9 177 (7)) (by decide +kernel)) dX9_observe_20 ?_
    refine zSi (W1 := [(m, .inr (6, [.int (nI 0), .ref mt, .int (nI ts), .int (nI ps), .int pv, .ref mp, .int (nI V), .ref mg, .ref mc, .ref mh, .int (nI rm), .ref ms, .ref mu, .int (nI on), .ref of1, .ref ot1, .ref oi1, .long sd, .ref ml, .ref md, .ref mw])), zA G of1 6 os, zA G ot1 6 oe, zA G oi1 6 oa]) (W2 := [(m, .inr (6, [.int (nI 0), .ref mt, .int (nI ts), .int (nI ps), .int pv, .ref mp, .int (nI V), .ref mg, .ref mc, .ref mh, .int (nI rm), .ref ms, .ref mu, .int (nI on), .ref of1, .ref ot1, .ref oi1, .long sd, .ref ml, .ref md, .ref mw])), zA G of1 6 os, zA G ot1 6 oe, zA G oi1 6 oa]) (wr := [(m, .inr (6, [.int (nI 0), .ref mt, .int (nI ts), .int (nI ps), .int pv, .ref mp, .int (nI V), .ref mg, .ref mc, .ref mh, .int (nI rm), .ref ms, .ref mu, .int (nI on), .ref of1, .ref ot1, .ref oi1, .long sd, .ref ml, .ref md, .ref mw])), zA G of1 6 os, zA G ot1 6 oe, zA G oi1 6 oa]) (rest := []) SM (c_X9_in_X l G (y) 0 7 (by first | assumption | omega) (by first | assumption | omega)) (va_cwS 3 hts gX9_observe_X9_in rfl rfl rfl (by decide +kernel) ⟨Nat.le_of_ble_eq_true rfl, Nat.le_of_ble_eq_true rfl⟩) hK hE hA hP hD hS hl.1 [] [0, 1, 2, 3] [0, 1, 2, 3] rfl rfl rfl (by decide) rfl rfl (Nat.le_of_ble_eq_true rfl) ⟨Nat.zero_le _, Nat.zero_le _⟩ dX9_observe_23 (fun H locs hP hD hS => ?_)
    refine zb_eq (tgt := 39) hx hb dX9_observe_26 (by decide) (fun c_2 => ?_) (fun c_2 => ?_)
    · skip
      exfalso; omega
    · skip
      refine lv_iload_n hx hb dX9_observe_29 rfl (lv_at hl 3 rfl) ?_
      refine lv_i2l hx hb dX9_observe_30 rfl ?_
      refine lv_lconst (v := lN 0) hx hb dX9_observe_31 (by decide) ?_
      refine lv_lconst (v := lN 1) hx hb dX9_observe_32 (by decide) ?_
      refine zSi (W1 := [(m, .inr (6, [.int (nI 0), .ref mt, .int (nI ts), .int (nI ps), .int pv, .ref mp, .int (nI V), .ref mg, .ref mc, .ref mh, .int (nI rm), .ref ms, .ref mu, .int (nI on), .ref of1, .ref ot1, .ref oi1, .long sd, .ref ml, .ref md, .ref mw])), zA G of1 6 os, zA G ot1 6 oe, zA G oi1 6 oa]) (W2 := [(m, .inr (6, [.int (nI 0), .ref mt, .int (nI ts), .int (nI ps), .int pv, .ref mp, .int (nI V), .ref mg, .ref mc, .ref mh, .int (nI rm), .ref ms, .ref mu, .int (nI on), .ref of1, .ref ot1, .ref oi1, .long sd, .ref ml, .ref md, .ref mw])), zA G of1 6 os, zA G ot1 6 oe, zA G oi1 6 oa]) (wr := [(m, .inr (6, [.int (nI 0), .ref mt, .int (nI ts), .int (nI ps), .int pv, .ref mp, .int (nI V), .ref mg, .ref mc, .ref mh, .int (nI rm), .ref ms, .ref mu, .int (nI on), .ref of1, .ref ot1, .ref oi1, .long sd, .ref ml, .ref md, .ref mw])), zA G of1 6 os, zA G ot1 6 oe, zA G oi1 6 oa]) (rest := []) SM (c_X9_in_X l G (z) 0 1 (by first | assumption | omega) (by first | assumption | omega)) (va_cwS 3 hts gX9_observe_X9_in rfl rfl rfl (by decide +kernel) ⟨Nat.le_of_ble_eq_true rfl, Nat.le_of_ble_eq_true rfl⟩) hK hE hA hP hD hS hl.1 [] [0, 1, 2, 3] [0, 1, 2, 3] rfl rfl rfl (by decide) rfl rfl (Nat.le_of_ble_eq_true rfl) ⟨Nat.zero_le _, Nat.zero_le _⟩ dX9_observe_33 (fun H locs hP hD hS => ?_)
      refine zb_ne (tgt := 42) hx hb dX9_observe_36 (by decide) (fun c_3 => ?_) (fun c_3 => ?_)
      · skip
        refine lv_aload_n hx hb dX9_observe_42 rfl (lv_at hl 0 rfl) ?_
        refine va_get (D := G.1) (ci := 6) (v := .int (nI on)) (C := RX9) (T := TX9) (N := 21) hx hb hts hinX9 hown hK hP 0 rfl rfl 13 (by decide) hlk179 (fun _ h9 => h9) rfl dX9_observe_43 ?_
        refine lv_bipush (v := nI 6) hx hb dX9_observe_46 (by decide) ?_
        refine zn_ne (tgt := 54) hx hb dX9_observe_48 (by decide) (by omega) (by omega) (fun c_4 => ?_) (fun c_4 => ?_)
        · skip
          have hl : lv_has ls 4 [(0, .ref m), (1, .int (nI x.toInt.toNat)), (2, .int (nI y.toInt.toNat)), (3, .int (nI z.toInt.toNat))] := by rw [← xN_eq (x := x) (by omega), ← xN_eq (x := y) (by omega), ← xN_eq (x := z) (by omega)]; exact hl
          refine lv_aload_n hx hb dX9_observe_54 rfl (lv_at hl 0 rfl) ?_
          refine va_get (D := G.1) (ci := 6) (v := .ref of1) (C := RX9) (T := TX9) (N := 21) hx hb hts hinX9 hown hK hP 0 rfl rfl 14 (by decide) hlk36 (fun _ h9 => h9) rfl dX9_observe_55 ?_
          refine lv_aload_n hx hb dX9_observe_58 rfl (lv_at hl 0 rfl) ?_
          refine va_get (D := G.1) (ci := 6) (v := .int (nI on)) (C := RX9) (T := TX9) (N := 21) hx hb hts hinX9 hown hK hP 0 rfl rfl 13 (by decide) hlk179 (fun _ h9 => h9) rfl dX9_observe_59 ?_
          refine lv_iload_n hx hb dX9_observe_62 rfl (lv_at hl 1 rfl) ?_
          refine zi_ast hx hb hK hP hD hS 1 rfl (by omega) (by omega) dX9_observe_63 (fun H locs hP hD hS => ?_)
          have hP : va_P G.1 vwCl [(m, .inr (6, [.int (nI 0), .ref mt, .int (nI ts), .int (nI ps), .int pv, .ref mp, .int (nI V), .ref mg, .ref mc, .ref mh, .int (nI rm), .ref ms, .ref mu, .int (nI on), .ref of1, .ref ot1, .ref oi1, .long sd, .ref ml, .ref md, .ref mw])), zA G of1 6 (zU os on x.toInt.toNat), zA G ot1 6 oe, zA G oi1 6 oa] H := hP
          have hD : va_D AM [(m, .inr (6, [.int (nI 0), .ref mt, .int (nI ts), .int (nI ps), .int pv, .ref mp, .int (nI V), .ref mg, .ref mc, .ref mh, .int (nI rm), .ref ms, .ref mu, .int (nI on), .ref of1, .ref ot1, .ref oi1, .long sd, .ref ml, .ref md, .ref mw])), zA G of1 6 (zU os on x.toInt.toNat), zA G ot1 6 oe, zA G oi1 6 oa] := hD
          refine lv_aload_n hx hb dX9_observe_64 rfl (lv_at hl 0 rfl) ?_
          refine va_get (D := G.1) (ci := 6) (v := .ref ot1) (C := RX9) (T := TX9) (N := 21) hx hb hts hinX9 hown hK hP 0 rfl rfl 15 (by decide) hlk39 (fun _ h9 => h9) rfl dX9_observe_65 ?_
          refine lv_aload_n hx hb dX9_observe_68 rfl (lv_at hl 0 rfl) ?_
          refine va_get (D := G.1) (ci := 6) (v := .int (nI on)) (C := RX9) (T := TX9) (N := 21) hx hb hts hinX9 hown hK hP 0 rfl rfl 13 (by decide) hlk179 (fun _ h9 => h9) rfl dX9_observe_69 ?_
          refine lv_iload_n hx hb dX9_observe_72 rfl (lv_at hl 2 rfl) ?_
          refine zi_ast hx hb hK hP hD hS 2 rfl (by omega) (by omega) dX9_observe_73 (fun H locs hP hD hS => ?_)
          have hP : va_P G.1 vwCl [(m, .inr (6, [.int (nI 0), .ref mt, .int (nI ts), .int (nI ps), .int pv, .ref mp, .int (nI V), .ref mg, .ref mc, .ref mh, .int (nI rm), .ref ms, .ref mu, .int (nI on), .ref of1, .ref ot1, .ref oi1, .long sd, .ref ml, .ref md, .ref mw])), zA G of1 6 (zU os on x.toInt.toNat), zA G ot1 6 (zU oe on y.toInt.toNat), zA G oi1 6 oa] H := hP
          have hD : va_D AM [(m, .inr (6, [.int (nI 0), .ref mt, .int (nI ts), .int (nI ps), .int pv, .ref mp, .int (nI V), .ref mg, .ref mc, .ref mh, .int (nI rm), .ref ms, .ref mu, .int (nI on), .ref of1, .ref ot1, .ref oi1, .long sd, .ref ml, .ref md, .ref mw])), zA G of1 6 (zU os on x.toInt.toNat), zA G ot1 6 (zU oe on y.toInt.toNat), zA G oi1 6 oa] := hD
          refine lv_aload_n hx hb dX9_observe_74 rfl (lv_at hl 0 rfl) ?_
          refine va_get (D := G.1) (ci := 6) (v := .ref oi1) (C := RX9) (T := TX9) (N := 21) hx hb hts hinX9 hown hK hP 0 rfl rfl 16 (by decide) hlk42 (fun _ h9 => h9) rfl dX9_observe_75 ?_
          refine lv_aload_n hx hb dX9_observe_78 rfl (lv_at hl 0 rfl) ?_
          refine va_get (D := G.1) (ci := 6) (v := .int (nI on)) (C := RX9) (T := TX9) (N := 21) hx hb hts hinX9 hown hK hP 0 rfl rfl 13 (by decide) hlk179 (fun _ h9 => h9) rfl dX9_observe_79 ?_
          refine lv_iload_n hx hb dX9_observe_82 rfl (lv_at hl 3 rfl) ?_
          refine zi_ast hx hb hK hP hD hS 3 rfl (by omega) (by omega) dX9_observe_83 (fun H locs hP hD hS => ?_)
          have hP : va_P G.1 vwCl [(m, .inr (6, [.int (nI 0), .ref mt, .int (nI ts), .int (nI ps), .int pv, .ref mp, .int (nI V), .ref mg, .ref mc, .ref mh, .int (nI rm), .ref ms, .ref mu, .int (nI on), .ref of1, .ref ot1, .ref oi1, .long sd, .ref ml, .ref md, .ref mw])), zA G of1 6 (zU os on x.toInt.toNat), zA G ot1 6 (zU oe on y.toInt.toNat), zA G oi1 6 (zU oa on z.toInt.toNat)] H := hP
          have hD : va_D AM [(m, .inr (6, [.int (nI 0), .ref mt, .int (nI ts), .int (nI ps), .int pv, .ref mp, .int (nI V), .ref mg, .ref mc, .ref mh, .int (nI rm), .ref ms, .ref mu, .int (nI on), .ref of1, .ref ot1, .ref oi1, .long sd, .ref ml, .ref md, .ref mw])), zA G of1 6 (zU os on x.toInt.toNat), zA G ot1 6 (zU oe on y.toInt.toNat), zA G oi1 6 (zU oa on z.toInt.toNat)] := hD
          refine lv_aload_n hx hb dX9_observe_84 rfl (lv_at hl 0 rfl) ?_
          refine lv_dup hx hb dX9_observe_85 rfl ?_
          refine va_get (D := G.1) (ci := 6) (v := .int (nI on)) (C := RX9) (T := TX9) (N := 21) hx hb hts hinX9 hown hK hP 0 rfl rfl 13 (by decide) hlk179 (fun _ h9 => h9) rfl dX9_observe_86 ?_
          refine lv_iconst (v := nI 1) hx hb dX9_observe_89 (by decide) ?_
          refine zi_addk (n := on + 1) hx hb dX9_observe_90 (by omega) ?_
          refine va_put (D := G.1) (ci := 6) (v := .int (nI (on + 1))) (ty := .int) (C := RX9) (T := TX9) (N := 21) hx hb hts hinX9 tyX9 tyX9_ok nmX9 hown hK hP hD hS 0 rfl rfl 13 (by decide) hlk179 (fun _ h9 => h9) rfl (by decide +kernel) rfl rfl (Nat.le_of_ble_eq_true rfl) dX9_observe_91 (fun H locs hP hD hS => ?_)
          have hP : va_P G.1 vwCl [(m, .inr (6, [.int (nI 0), .ref mt, .int (nI ts), .int (nI ps), .int pv, .ref mp, .int (nI V), .ref mg, .ref mc, .ref mh, .int (nI rm), .ref ms, .ref mu, .int (nI (on + 1)), .ref of1, .ref ot1, .ref oi1, .long sd, .ref ml, .ref md, .ref mw])), zA G of1 6 (zU os on x.toInt.toNat), zA G ot1 6 (zU oe on y.toInt.toNat), zA G oi1 6 (zU oa on z.toInt.toNat)] H := hP
          have hD : va_D AM [(m, .inr (6, [.int (nI 0), .ref mt, .int (nI ts), .int (nI ps), .int pv, .ref mp, .int (nI V), .ref mg, .ref mc, .ref mh, .int (nI rm), .ref ms, .ref mu, .int (nI (on + 1)), .ref of1, .ref ot1, .ref oi1, .long sd, .ref ml, .ref md, .ref mw])), zA G of1 6 (zU os on x.toInt.toNat), zA G ot1 6 (zU oe on y.toInt.toNat), zA G oi1 6 (zU oa on z.toInt.toNat)] := hD
          refine lv_aload_n hx hb dX9_observe_94 rfl (lv_at hl 0 rfl) ?_
          refine va_get (D := G.1) (ci := 6) (v := .int (nI (on + 1))) (C := RX9) (T := TX9) (N := 21) hx hb hts hinX9 hown hK hP 0 rfl rfl 13 (by decide) hlk179 (fun _ h9 => h9) rfl dX9_observe_95 ?_
          exact kret _ _ _ _ _ _ rfl rfl hP hD hS dX9_observe_98
        · skip
          exfalso; omega
      · skip
        exfalso; omega
set_option maxHeartbeats 400000 in
set_option maxRecDepth 100000 in
theorem c_X9_observe_bad (l : Launch) (G : zG) (m mt mp mg mc mh ms mu of1 ot1 oi1 ml md mw th ts ps V rm on : Nat) (pv : Int32) (sd : Int64) (x y z : Int32) (hn : on ≤ 6) (hb0 : ¬ ((0 ≤ x.toInt ∧ x.toInt < 8) ∧ (0 ≤ y.toInt ∧ y.toInt < 8) ∧ (0 ≤ z.toInt ∧ z.toInt < 2) ∧ on < 6)) : MI l yX9_observe wsX9_observe ({ frames := 1, cells := 0, slots := 0, locals := 25 }) G [.ref m, .int x, .int y, .int z] [(m, .inr (6, [.int (nI th), .ref mt, .int (nI ts), .int (nI ps), .int pv, .ref mp, .int (nI V), .ref mg, .ref mc, .ref mh, .int (nI rm), .ref ms, .ref mu, .int (nI on), .ref of1, .ref ot1, .ref oi1, .long sd, .ref ml, .ref md, .ref mw]))] (zObX on x y z) [(m, .inr (6, [.int (nI 0), .ref mt, .int (nI ts), .int (nI ps), .int pv, .ref mp, .int (nI V), .ref mg, .ref mc, .ref mh, .int (nI rm), .ref ms, .ref mu, .int (nI on), .ref of1, .ref ot1, .ref oi1, .long sd, .ref ml, .ref md, .ref mw]))] := by
  refine MI.enter (cc := cX9_observe) (maxL := 4) (by decide) rfl (Nat.le_of_ble_eq_true rfl) rfl ?_
  intro pM eM sM mM bM tM cM QM AM ls hat kret
  obtain ⟨SM, hA, hK, hE, hP, hD, hS, hl⟩ := hat
  have hx := SM.1
  have hb := SM.2.1
  have hown : sM.vm.findClass RX9 = some mM.cls := SM.2.2.2.1
  have hts := SM.2.2.2.2
  have hinX9 : ∀ w ∈ u_ws RX9 TX9 21, w ∈ wsX9_observe := by decide +kernel
  have hlk54 : (Cond.fieldLink RX9 54 "DyckReachabilityModel" "thrown" "I").before _ sM = true := hts _ (by decide +kernel)
  have hlk179 : (Cond.fieldLink RX9 179 "DyckReachabilityModel" "observed" "I").before _ sM = true := hts _ (by decide +kernel)
  have hl : lv_has ls 4 [(0, .ref m), (1, .int x), (2, .int y), (3, .int z)] := hl
  refine lv_aload_n hx hb dX9_observe_0 rfl (lv_at hl 0 rfl) ?_
  refine lv_iconst (v := nI 0) hx hb dX9_observe_1 (by decide) ?_
  refine va_put (D := G.1) (ci := 6) (v := .int (nI 0)) (ty := .int) (C := RX9) (T := TX9) (N := 21) hx hb hts hinX9 tyX9 tyX9_ok nmX9 hown hK hP hD hS 0 rfl rfl 0 (by decide) hlk54 (fun _ h9 => h9) rfl (by decide +kernel) rfl rfl (Nat.le_of_ble_eq_true rfl) dX9_observe_2 (fun H locs hP hD hS => ?_)
  have hP : va_P G.1 vwCl [(m, .inr (6, [.int (nI 0), .ref mt, .int (nI ts), .int (nI ps), .int pv, .ref mp, .int (nI V), .ref mg, .ref mc, .ref mh, .int (nI rm), .ref ms, .ref mu, .int (nI on), .ref of1, .ref ot1, .ref oi1, .long sd, .ref ml, .ref md, .ref mw]))] H := hP
  have hD : va_D AM [(m, .inr (6, [.int (nI 0), .ref mt, .int (nI ts), .int (nI ps), .int pv, .ref mp, .int (nI V), .ref mg, .ref mc, .ref mh, .int (nI rm), .ref ms, .ref mu, .int (nI on), .ref of1, .ref ot1, .ref oi1, .long sd, .ref ml, .ref md, .ref mw]))] := hD
  refine lv_iload_n hx hb dX9_observe_5 rfl (lv_at hl 1 rfl) ?_
  refine lv_i2l hx hb dX9_observe_6 rfl ?_
  refine lv_lconst (v := lN 0) hx hb dX9_observe_7 (by decide) ?_
  refine lv_ldc2 (v := lN 7) hx hb hown (hts (.constantLong RX9 177 (7)) (by decide +kernel)) dX9_observe_8 ?_
  refine zSi (W1 := [(m, .inr (6, [.int (nI 0), .ref mt, .int (nI ts), .int (nI ps), .int pv, .ref mp, .int (nI V), .ref mg, .ref mc, .ref mh, .int (nI rm), .ref ms, .ref mu, .int (nI on), .ref of1, .ref ot1, .ref oi1, .long sd, .ref ml, .ref md, .ref mw]))]) (W2 := [(m, .inr (6, [.int (nI 0), .ref mt, .int (nI ts), .int (nI ps), .int pv, .ref mp, .int (nI V), .ref mg, .ref mc, .ref mh, .int (nI rm), .ref ms, .ref mu, .int (nI on), .ref of1, .ref ot1, .ref oi1, .long sd, .ref ml, .ref md, .ref mw]))]) (wr := [(m, .inr (6, [.int (nI 0), .ref mt, .int (nI ts), .int (nI ps), .int pv, .ref mp, .int (nI V), .ref mg, .ref mc, .ref mh, .int (nI rm), .ref ms, .ref mu, .int (nI on), .ref of1, .ref ot1, .ref oi1, .long sd, .ref ml, .ref md, .ref mw]))]) (rest := []) SM (c_X9_in_X l G (x) 0 7 (by first | assumption | omega) (by first | assumption | omega)) (va_cwS 3 hts gX9_observe_X9_in rfl rfl rfl (by decide +kernel) ⟨Nat.le_of_ble_eq_true rfl, Nat.le_of_ble_eq_true rfl⟩) hK hE hA hP hD hS hl.1 [] [0] [0] rfl rfl rfl (by decide) rfl rfl (Nat.le_of_ble_eq_true rfl) ⟨Nat.zero_le _, Nat.zero_le _⟩ dX9_observe_11 (fun H locs hP hD hS => ?_)
  refine zb_eq (tgt := 39) hx hb dX9_observe_14 (by decide) (fun c_1 => ?_) (fun c_1 => ?_)
  · skip
    refine lv_bipush (v := (-2)) hx hb dX9_observe_39 (by decide) ?_
    exact kret _ _ _ _ _ _ (by unfold zObX; repeat (first | rw [if_pos (by first | assumption | omega)] | rw [if_neg (by first | assumption | omega)])) rfl hP hD hS dX9_observe_41
  · skip
    refine lv_iload_n hx hb dX9_observe_17 rfl (lv_at hl 2 rfl) ?_
    refine lv_i2l hx hb dX9_observe_18 rfl ?_
    refine lv_lconst (v := lN 0) hx hb dX9_observe_19 (by decide) ?_
    refine lv_ldc2 (v := lN 7) hx hb hown (hts (.constantLong RX9 177 (7)) (by decide +kernel)) dX9_observe_20 ?_
    refine zSi (W1 := [(m, .inr (6, [.int (nI 0), .ref mt, .int (nI ts), .int (nI ps), .int pv, .ref mp, .int (nI V), .ref mg, .ref mc, .ref mh, .int (nI rm), .ref ms, .ref mu, .int (nI on), .ref of1, .ref ot1, .ref oi1, .long sd, .ref ml, .ref md, .ref mw]))]) (W2 := [(m, .inr (6, [.int (nI 0), .ref mt, .int (nI ts), .int (nI ps), .int pv, .ref mp, .int (nI V), .ref mg, .ref mc, .ref mh, .int (nI rm), .ref ms, .ref mu, .int (nI on), .ref of1, .ref ot1, .ref oi1, .long sd, .ref ml, .ref md, .ref mw]))]) (wr := [(m, .inr (6, [.int (nI 0), .ref mt, .int (nI ts), .int (nI ps), .int pv, .ref mp, .int (nI V), .ref mg, .ref mc, .ref mh, .int (nI rm), .ref ms, .ref mu, .int (nI on), .ref of1, .ref ot1, .ref oi1, .long sd, .ref ml, .ref md, .ref mw]))]) (rest := []) SM (c_X9_in_X l G (y) 0 7 (by first | assumption | omega) (by first | assumption | omega)) (va_cwS 3 hts gX9_observe_X9_in rfl rfl rfl (by decide +kernel) ⟨Nat.le_of_ble_eq_true rfl, Nat.le_of_ble_eq_true rfl⟩) hK hE hA hP hD hS hl.1 [] [0] [0] rfl rfl rfl (by decide) rfl rfl (Nat.le_of_ble_eq_true rfl) ⟨Nat.zero_le _, Nat.zero_le _⟩ dX9_observe_23 (fun H locs hP hD hS => ?_)
    refine zb_eq (tgt := 39) hx hb dX9_observe_26 (by decide) (fun c_2 => ?_) (fun c_2 => ?_)
    · skip
      refine lv_bipush (v := (-2)) hx hb dX9_observe_39 (by decide) ?_
      exact kret _ _ _ _ _ _ (by unfold zObX; repeat (first | rw [if_pos (by first | assumption | omega)] | rw [if_neg (by first | assumption | omega)])) rfl hP hD hS dX9_observe_41
    · skip
      refine lv_iload_n hx hb dX9_observe_29 rfl (lv_at hl 3 rfl) ?_
      refine lv_i2l hx hb dX9_observe_30 rfl ?_
      refine lv_lconst (v := lN 0) hx hb dX9_observe_31 (by decide) ?_
      refine lv_lconst (v := lN 1) hx hb dX9_observe_32 (by decide) ?_
      refine zSi (W1 := [(m, .inr (6, [.int (nI 0), .ref mt, .int (nI ts), .int (nI ps), .int pv, .ref mp, .int (nI V), .ref mg, .ref mc, .ref mh, .int (nI rm), .ref ms, .ref mu, .int (nI on), .ref of1, .ref ot1, .ref oi1, .long sd, .ref ml, .ref md, .ref mw]))]) (W2 := [(m, .inr (6, [.int (nI 0), .ref mt, .int (nI ts), .int (nI ps), .int pv, .ref mp, .int (nI V), .ref mg, .ref mc, .ref mh, .int (nI rm), .ref ms, .ref mu, .int (nI on), .ref of1, .ref ot1, .ref oi1, .long sd, .ref ml, .ref md, .ref mw]))]) (wr := [(m, .inr (6, [.int (nI 0), .ref mt, .int (nI ts), .int (nI ps), .int pv, .ref mp, .int (nI V), .ref mg, .ref mc, .ref mh, .int (nI rm), .ref ms, .ref mu, .int (nI on), .ref of1, .ref ot1, .ref oi1, .long sd, .ref ml, .ref md, .ref mw]))]) (rest := []) SM (c_X9_in_X l G (z) 0 1 (by first | assumption | omega) (by first | assumption | omega)) (va_cwS 3 hts gX9_observe_X9_in rfl rfl rfl (by decide +kernel) ⟨Nat.le_of_ble_eq_true rfl, Nat.le_of_ble_eq_true rfl⟩) hK hE hA hP hD hS hl.1 [] [0] [0] rfl rfl rfl (by decide) rfl rfl (Nat.le_of_ble_eq_true rfl) ⟨Nat.zero_le _, Nat.zero_le _⟩ dX9_observe_33 (fun H locs hP hD hS => ?_)
      refine zb_ne (tgt := 42) hx hb dX9_observe_36 (by decide) (fun c_3 => ?_) (fun c_3 => ?_)
      · skip
        refine lv_aload_n hx hb dX9_observe_42 rfl (lv_at hl 0 rfl) ?_
        refine va_get (D := G.1) (ci := 6) (v := .int (nI on)) (C := RX9) (T := TX9) (N := 21) hx hb hts hinX9 hown hK hP 0 rfl rfl 13 (by decide) hlk179 (fun _ h9 => h9) rfl dX9_observe_43 ?_
        refine lv_bipush (v := nI 6) hx hb dX9_observe_46 (by decide) ?_
        refine zn_ne (tgt := 54) hx hb dX9_observe_48 (by decide) (by omega) (by omega) (fun c_4 => ?_) (fun c_4 => ?_)
        · skip
          exfalso; omega
        · skip
          refine lv_bipush (v := (-4)) hx hb dX9_observe_51 (by decide) ?_
          exact kret _ _ _ _ _ _ (by unfold zObX; repeat (first | rw [if_pos (by first | assumption | omega)] | rw [if_neg (by first | assumption | omega)])) rfl hP hD hS dX9_observe_53
      · skip
        refine lv_bipush (v := (-2)) hx hb dX9_observe_39 (by decide) ?_
        exact kret _ _ _ _ _ _ (by unfold zObX; repeat (first | rw [if_pos (by first | assumption | omega)] | rw [if_neg (by first | assumption | omega)])) rfl hP hD hS dX9_observe_41
set_option maxHeartbeats 400000 in
set_option maxRecDepth 100000 in
theorem c_X9_clearObservations (l : Launch) (G : zG) (m mt mp mg mc mh ms mu of1 ot1 oi1 ml md mw th ts ps V rm on : Nat) (pv : Int32) (sd : Int64)  : MI l yX9_clearObservations wsX9_clearObservations ({ frames := 0, cells := 0, slots := 0, locals := 0 }) G [.ref m] [(m, .inr (6, [.int (nI th), .ref mt, .int (nI ts), .int (nI ps), .int pv, .ref mp, .int (nI V), .ref mg, .ref mc, .ref mh, .int (nI rm), .ref ms, .ref mu, .int (nI on), .ref of1, .ref ot1, .ref oi1, .long sd, .ref ml, .ref md, .ref mw]))] (nI on) [(m, .inr (6, [.int (nI 0), .ref mt, .int (nI ts), .int (nI ps), .int pv, .ref mp, .int (nI V), .ref mg, .ref mc, .ref mh, .int (nI rm), .ref ms, .ref mu, .int (nI 0), .ref of1, .ref ot1, .ref oi1, .long sd, .ref ml, .ref md, .ref mw]))] := by
  refine MI.enter (cc := cX9_clearObservations) (maxL := 2) (by decide) rfl (Nat.le_of_ble_eq_true rfl) rfl ?_
  intro pM eM sM mM bM tM cM QM AM ls hat kret
  obtain ⟨SM, hA, hK, hE, hP, hD, hS, hl⟩ := hat
  have hx := SM.1
  have hb := SM.2.1
  have hown : sM.vm.findClass RX9 = some mM.cls := SM.2.2.2.1
  have hts := SM.2.2.2.2
  have hinX9 : ∀ w ∈ u_ws RX9 TX9 21, w ∈ wsX9_clearObservations := by decide +kernel
  have hlk54 : (Cond.fieldLink RX9 54 "DyckReachabilityModel" "thrown" "I").before _ sM = true := hts _ (by decide +kernel)
  have hlk179 : (Cond.fieldLink RX9 179 "DyckReachabilityModel" "observed" "I").before _ sM = true := hts _ (by decide +kernel)
  have hl : lv_has ls 2 [(0, .ref m)] := hl
  refine lv_aload_n hx hb dX9_clearObservations_0 rfl (lv_at hl 0 rfl) ?_
  refine lv_iconst (v := nI 0) hx hb dX9_clearObservations_1 (by decide) ?_
  refine va_put (D := G.1) (ci := 6) (v := .int (nI 0)) (ty := .int) (C := RX9) (T := TX9) (N := 21) hx hb hts hinX9 tyX9 tyX9_ok nmX9 hown hK hP hD hS 0 rfl rfl 0 (by decide) hlk54 (fun _ h9 => h9) rfl (by decide +kernel) rfl rfl (Nat.le_of_ble_eq_true rfl) dX9_clearObservations_2 (fun H locs hP hD hS => ?_)
  have hP : va_P G.1 vwCl [(m, .inr (6, [.int (nI 0), .ref mt, .int (nI ts), .int (nI ps), .int pv, .ref mp, .int (nI V), .ref mg, .ref mc, .ref mh, .int (nI rm), .ref ms, .ref mu, .int (nI on), .ref of1, .ref ot1, .ref oi1, .long sd, .ref ml, .ref md, .ref mw]))] H := hP
  have hD : va_D AM [(m, .inr (6, [.int (nI 0), .ref mt, .int (nI ts), .int (nI ps), .int pv, .ref mp, .int (nI V), .ref mg, .ref mc, .ref mh, .int (nI rm), .ref ms, .ref mu, .int (nI on), .ref of1, .ref ot1, .ref oi1, .long sd, .ref ml, .ref md, .ref mw]))] := hD
  refine lv_aload_n hx hb dX9_clearObservations_5 rfl (lv_at hl 0 rfl) ?_
  refine va_get (D := G.1) (ci := 6) (v := .int (nI on)) (C := RX9) (T := TX9) (N := 21) hx hb hts hinX9 hown hK hP 0 rfl rfl 13 (by decide) hlk179 (fun _ h9 => h9) rfl dX9_clearObservations_6 ?_
  refine lv_istore_n (lv' := [(1, .int (nI on)), (0, .ref m)]) hx hb dX9_clearObservations_9 rfl hl (by decide) rfl (fun ls hl => ?_)
  refine lv_aload_n hx hb dX9_clearObservations_10 rfl (lv_at hl 1 rfl) ?_
  refine lv_iconst (v := nI 0) hx hb dX9_clearObservations_11 (by decide) ?_
  refine va_put (D := G.1) (ci := 6) (v := .int (nI 0)) (ty := .int) (C := RX9) (T := TX9) (N := 21) hx hb hts hinX9 tyX9 tyX9_ok nmX9 hown hK hP hD hS 0 rfl rfl 13 (by decide) hlk179 (fun _ h9 => h9) rfl (by decide +kernel) rfl rfl (Nat.le_of_ble_eq_true rfl) dX9_clearObservations_12 (fun H locs hP hD hS => ?_)
  have hP : va_P G.1 vwCl [(m, .inr (6, [.int (nI 0), .ref mt, .int (nI ts), .int (nI ps), .int pv, .ref mp, .int (nI V), .ref mg, .ref mc, .ref mh, .int (nI rm), .ref ms, .ref mu, .int (nI 0), .ref of1, .ref ot1, .ref oi1, .long sd, .ref ml, .ref md, .ref mw]))] H := hP
  have hD : va_D AM [(m, .inr (6, [.int (nI 0), .ref mt, .int (nI ts), .int (nI ps), .int pv, .ref mp, .int (nI V), .ref mg, .ref mc, .ref mh, .int (nI rm), .ref ms, .ref mu, .int (nI 0), .ref of1, .ref ot1, .ref oi1, .long sd, .ref ml, .ref md, .ref mw]))] := hD
  refine lv_iload_n hx hb dX9_clearObservations_15 rfl (lv_at hl 0 rfl) ?_
  exact kret _ _ _ _ _ _ rfl rfl hP hD hS dX9_clearObservations_16
set_option maxHeartbeats 400000 in
set_option maxRecDepth 100000 in
theorem c_X9_setSeed (l : Launch) (G : zG) (m mt mp mg mc mh ms mu of1 ot1 oi1 ml md mw th ts ps V rm on : Nat) (pv : Int32) (sd : Int64) (v : Int64)  : ML l yX9_setSeed wsX9_setSeed ({ frames := 0, cells := 0, slots := 0, locals := 0 }) G [.ref m, .long v] [(m, .inr (6, [.int (nI th), .ref mt, .int (nI ts), .int (nI ps), .int pv, .ref mp, .int (nI V), .ref mg, .ref mc, .ref mh, .int (nI rm), .ref ms, .ref mu, .int (nI on), .ref of1, .ref ot1, .ref oi1, .long sd, .ref ml, .ref md, .ref mw]))] sd [(m, .inr (6, [.int (nI 0), .ref mt, .int (nI ts), .int (nI ps), .int pv, .ref mp, .int (nI V), .ref mg, .ref mc, .ref mh, .int (nI rm), .ref ms, .ref mu, .int (nI on), .ref of1, .ref ot1, .ref oi1, .long v, .ref ml, .ref md, .ref mw]))] := by
  refine ML.enter (cc := cX9_setSeed) (maxL := 5) (by decide) rfl (Nat.le_of_ble_eq_true rfl) ?_
  intro pM eM sM mM bM tM cM QM AM ls hat kret
  obtain ⟨SM, hA, hK, hE, hP, hD, hS, hl⟩ := hat
  have hx := SM.1
  have hb := SM.2.1
  have hown : sM.vm.findClass RX9 = some mM.cls := SM.2.2.2.1
  have hts := SM.2.2.2.2
  have hinX9 : ∀ w ∈ u_ws RX9 TX9 21, w ∈ wsX9_setSeed := by decide +kernel
  have hlk54 : (Cond.fieldLink RX9 54 "DyckReachabilityModel" "thrown" "I").before _ sM = true := hts _ (by decide +kernel)
  have hlk191 : (Cond.fieldLink RX9 191 "DyckReachabilityModel" "seed" "J").before _ sM = true := hts _ (by decide +kernel)
  have hl : lv_has ls 5 [(0, .ref m), (1, .long v)] := hl
  refine lv_aload_n hx hb dX9_setSeed_0 rfl (lv_at hl 0 rfl) ?_
  refine lv_iconst (v := nI 0) hx hb dX9_setSeed_1 (by decide) ?_
  refine va_put (D := G.1) (ci := 6) (v := .int (nI 0)) (ty := .int) (C := RX9) (T := TX9) (N := 21) hx hb hts hinX9 tyX9 tyX9_ok nmX9 hown hK hP hD hS 0 rfl rfl 0 (by decide) hlk54 (fun _ h9 => h9) rfl (by decide +kernel) rfl rfl (Nat.le_of_ble_eq_true rfl) dX9_setSeed_2 (fun H locs hP hD hS => ?_)
  have hP : va_P G.1 vwCl [(m, .inr (6, [.int (nI 0), .ref mt, .int (nI ts), .int (nI ps), .int pv, .ref mp, .int (nI V), .ref mg, .ref mc, .ref mh, .int (nI rm), .ref ms, .ref mu, .int (nI on), .ref of1, .ref ot1, .ref oi1, .long sd, .ref ml, .ref md, .ref mw]))] H := hP
  have hD : va_D AM [(m, .inr (6, [.int (nI 0), .ref mt, .int (nI ts), .int (nI ps), .int pv, .ref mp, .int (nI V), .ref mg, .ref mc, .ref mh, .int (nI rm), .ref ms, .ref mu, .int (nI on), .ref of1, .ref ot1, .ref oi1, .long sd, .ref ml, .ref md, .ref mw]))] := hD
  refine lv_aload_n hx hb dX9_setSeed_5 rfl (lv_at hl 0 rfl) ?_
  refine va_get (D := G.1) (ci := 6) (v := .long sd) (C := RX9) (T := TX9) (N := 21) hx hb hts hinX9 hown hK hP 0 rfl rfl 17 (by decide) hlk191 (fun _ h9 => h9) rfl dX9_setSeed_6 ?_
  refine lv_lstore_n (lv' := [(3, .long sd), (0, .ref m), (1, .long v)]) hx hb dX9_setSeed_9 rfl hl (by decide) rfl (fun ls hl => ?_)
  refine lv_aload_n hx hb dX9_setSeed_10 rfl (lv_at hl 1 rfl) ?_
  refine lv_lload_n hx hb dX9_setSeed_11 rfl (lv_at hl 2 rfl) ?_
  refine va_put (D := G.1) (ci := 6) (v := .long v) (ty := .long) (C := RX9) (T := TX9) (N := 21) hx hb hts hinX9 tyX9 tyX9_ok nmX9 hown hK hP hD hS 0 rfl rfl 17 (by decide) hlk191 (fun _ h9 => h9) rfl (by decide +kernel) rfl rfl (Nat.le_of_ble_eq_true rfl) dX9_setSeed_12 (fun H locs hP hD hS => ?_)
  have hP : va_P G.1 vwCl [(m, .inr (6, [.int (nI 0), .ref mt, .int (nI ts), .int (nI ps), .int pv, .ref mp, .int (nI V), .ref mg, .ref mc, .ref mh, .int (nI rm), .ref ms, .ref mu, .int (nI on), .ref of1, .ref ot1, .ref oi1, .long v, .ref ml, .ref md, .ref mw]))] H := hP
  have hD : va_D AM [(m, .inr (6, [.int (nI 0), .ref mt, .int (nI ts), .int (nI ps), .int pv, .ref mp, .int (nI V), .ref mg, .ref mc, .ref mh, .int (nI rm), .ref ms, .ref mu, .int (nI on), .ref of1, .ref ot1, .ref oi1, .long v, .ref ml, .ref md, .ref mw]))] := hD
  refine lv_lload_n hx hb dX9_setSeed_15 rfl (lv_at hl 0 rfl) ?_
  exact kret _ _ _ _ _ _ rfl rfl hP hD hS dX9_setSeed_16
set_option maxHeartbeats 400000 in
set_option maxRecDepth 100000 in
theorem c_X9_save_bad (l : Launch) (G : zG) (m mt mp mg mc mh ms mu of1 ot1 oi1 ml md mw th ts ps V rm on : Nat) (pv : Int32) (sd : Int64) (x : Int32) (hb0 : ¬ (0 ≤ x.toInt ∧ x.toInt < 2)) : MI l yX9_save wsX9_save ({ frames := 1, cells := 0, slots := 0, locals := 25 }) G [.ref m, .int x] [(m, .inr (6, [.int (nI th), .ref mt, .int (nI ts), .int (nI ps), .int pv, .ref mp, .int (nI V), .ref mg, .ref mc, .ref mh, .int (nI rm), .ref ms, .ref mu, .int (nI on), .ref of1, .ref ot1, .ref oi1, .long sd, .ref ml, .ref md, .ref mw]))] (-1) [(m, .inr (6, [.int (nI 0), .ref mt, .int (nI ts), .int (nI ps), .int pv, .ref mp, .int (nI V), .ref mg, .ref mc, .ref mh, .int (nI rm), .ref ms, .ref mu, .int (nI on), .ref of1, .ref ot1, .ref oi1, .long sd, .ref ml, .ref md, .ref mw]))] := by
  refine MI.enter (cc := cX9_save) (maxL := 3) (by decide) rfl (Nat.le_of_ble_eq_true rfl) rfl ?_
  intro pM eM sM mM bM tM cM QM AM ls hat kret
  obtain ⟨SM, hA, hK, hE, hP, hD, hS, hl⟩ := hat
  have hx := SM.1
  have hb := SM.2.1
  have hown : sM.vm.findClass RX9 = some mM.cls := SM.2.2.2.1
  have hts := SM.2.2.2.2
  have hinX9 : ∀ w ∈ u_ws RX9 TX9 21, w ∈ wsX9_save := by decide +kernel
  have hlk54 : (Cond.fieldLink RX9 54 "DyckReachabilityModel" "thrown" "I").before _ sM = true := hts _ (by decide +kernel)
  have hl : lv_has ls 3 [(0, .ref m), (1, .int x)] := hl
  refine lv_aload_n hx hb dX9_save_0 rfl (lv_at hl 0 rfl) ?_
  refine lv_iconst (v := nI 0) hx hb dX9_save_1 (by decide) ?_
  refine va_put (D := G.1) (ci := 6) (v := .int (nI 0)) (ty := .int) (C := RX9) (T := TX9) (N := 21) hx hb hts hinX9 tyX9 tyX9_ok nmX9 hown hK hP hD hS 0 rfl rfl 0 (by decide) hlk54 (fun _ h9 => h9) rfl (by decide +kernel) rfl rfl (Nat.le_of_ble_eq_true rfl) dX9_save_2 (fun H locs hP hD hS => ?_)
  have hP : va_P G.1 vwCl [(m, .inr (6, [.int (nI 0), .ref mt, .int (nI ts), .int (nI ps), .int pv, .ref mp, .int (nI V), .ref mg, .ref mc, .ref mh, .int (nI rm), .ref ms, .ref mu, .int (nI on), .ref of1, .ref ot1, .ref oi1, .long sd, .ref ml, .ref md, .ref mw]))] H := hP
  have hD : va_D AM [(m, .inr (6, [.int (nI 0), .ref mt, .int (nI ts), .int (nI ps), .int pv, .ref mp, .int (nI V), .ref mg, .ref mc, .ref mh, .int (nI rm), .ref ms, .ref mu, .int (nI on), .ref of1, .ref ot1, .ref oi1, .long sd, .ref ml, .ref md, .ref mw]))] := hD
  refine lv_iload_n hx hb dX9_save_5 rfl (lv_at hl 1 rfl) ?_
  refine lv_i2l hx hb dX9_save_6 rfl ?_
  refine lv_lconst (v := lN 0) hx hb dX9_save_7 (by decide) ?_
  refine lv_lconst (v := lN 1) hx hb dX9_save_8 (by decide) ?_
  refine zSi (W1 := [(m, .inr (6, [.int (nI 0), .ref mt, .int (nI ts), .int (nI ps), .int pv, .ref mp, .int (nI V), .ref mg, .ref mc, .ref mh, .int (nI rm), .ref ms, .ref mu, .int (nI on), .ref of1, .ref ot1, .ref oi1, .long sd, .ref ml, .ref md, .ref mw]))]) (W2 := [(m, .inr (6, [.int (nI 0), .ref mt, .int (nI ts), .int (nI ps), .int pv, .ref mp, .int (nI V), .ref mg, .ref mc, .ref mh, .int (nI rm), .ref ms, .ref mu, .int (nI on), .ref of1, .ref ot1, .ref oi1, .long sd, .ref ml, .ref md, .ref mw]))]) (wr := [(m, .inr (6, [.int (nI 0), .ref mt, .int (nI ts), .int (nI ps), .int pv, .ref mp, .int (nI V), .ref mg, .ref mc, .ref mh, .int (nI rm), .ref ms, .ref mu, .int (nI on), .ref of1, .ref ot1, .ref oi1, .long sd, .ref ml, .ref md, .ref mw]))]) (rest := []) SM (c_X9_in_X l G (x) 0 1 (by first | assumption | omega) (by first | assumption | omega)) (va_cwS 3 hts gX9_save_X9_in rfl rfl rfl (by decide +kernel) ⟨Nat.le_of_ble_eq_true rfl, Nat.le_of_ble_eq_true rfl⟩) hK hE hA hP hD hS hl.1 [] [0] [0] rfl rfl rfl (by decide) rfl rfl (Nat.le_of_ble_eq_true rfl) ⟨Nat.zero_le _, Nat.zero_le _⟩ dX9_save_9 (fun H locs hP hD hS => ?_)
  refine zb_ne (tgt := 17) hx hb dX9_save_12 (by decide) (fun c_1 => ?_) (fun c_1 => ?_)
  · skip
    exfalso; omega
  · skip
    refine lv_iconst (v := (-1)) hx hb dX9_save_15 (by decide) ?_
    exact kret _ _ _ _ _ _ rfl rfl hP hD hS dX9_save_16
set_option maxHeartbeats 400000 in
set_option maxRecDepth 100000 in
theorem c_X9_save_ok (l : Launch) (G : zG) (m mt mp mg mc mh ms mu of1 ot1 oi1 ml md mw th ts ps V rm on : Nat) (pv : Int32) (sd : Int64) (g : Nat → Nat) (sl su : Nat → Nat) (x : Int32) (hx : 0 ≤ x.toInt ∧ x.toInt < 2) : MI l yX9_save wsX9_save ({ frames := 1, cells := 0, slots := 0, locals := 25 }) G [.ref m, .int x] [(m, .inr (6, [.int (nI th), .ref mt, .int (nI ts), .int (nI ps), .int pv, .ref mp, .int (nI V), .ref mg, .ref mc, .ref mh, .int (nI rm), .ref ms, .ref mu, .int (nI on), .ref of1, .ref ot1, .ref oi1, .long sd, .ref ml, .ref md, .ref mw])), zA G mg 49 g, zA G ms 98 sl, zB G mu 2 su] (nI (g 0)) [(m, .inr (6, [.int (nI 0), .ref mt, .int (nI ts), .int (nI ps), .int pv, .ref mp, .int (nI V), .ref mg, .ref mc, .ref mh, .int (nI rm), .ref ms, .ref mu, .int (nI on), .ref of1, .ref ot1, .ref oi1, .long sd, .ref ml, .ref md, .ref mw])), zA G mg 49 g, zA G ms 98 (zHp sl g (49 * x.toInt.toNat) 49), zB G mu 2 (zU su x.toInt.toNat 1)] := by
  refine MI.enter (cc := cX9_save) (maxL := 3) (by decide) rfl (Nat.le_of_ble_eq_true rfl) rfl ?_
  intro pM eM sM mM bM tM cM QM AM ls hat kret
  obtain ⟨SM, hA, hK, hE, hP, hD, hS, hl⟩ := hat
  have hx := SM.1
  have hb := SM.2.1
  have hown : sM.vm.findClass RX9 = some mM.cls := SM.2.2.2.1
  have hts := SM.2.2.2.2
  have hinX9 : ∀ w ∈ u_ws RX9 TX9 21, w ∈ wsX9_save := by decide +kernel
  have hlk54 : (Cond.fieldLink RX9 54 "DyckReachabilityModel" "thrown" "I").before _ sM = true := hts _ (by decide +kernel)
  have hlk32 : (Cond.fieldLink RX9 32 "DyckReachabilityModel" "slotUsed" "[Z").before _ sM = true := hts _ (by decide +kernel)
  have hlk20 : (Cond.fieldLink RX9 20 "DyckReachabilityModel" "graph" "[I").before _ sM = true := hts _ (by decide +kernel)
  have hlk29 : (Cond.fieldLink RX9 29 "DyckReachabilityModel" "slots" "[I").before _ sM = true := hts _ (by decide +kernel)
  have hl : lv_has ls 3 [(0, .ref m), (1, .int x)] := hl
  refine lv_aload_n hx hb dX9_save_0 rfl (lv_at hl 0 rfl) ?_
  refine lv_iconst (v := nI 0) hx hb dX9_save_1 (by decide) ?_
  refine va_put (D := G.1) (ci := 6) (v := .int (nI 0)) (ty := .int) (C := RX9) (T := TX9) (N := 21) hx hb hts hinX9 tyX9 tyX9_ok nmX9 hown hK hP hD hS 0 rfl rfl 0 (by decide) hlk54 (fun _ h9 => h9) rfl (by decide +kernel) rfl rfl (Nat.le_of_ble_eq_true rfl) dX9_save_2 (fun H locs hP hD hS => ?_)
  have hP : va_P G.1 vwCl [(m, .inr (6, [.int (nI 0), .ref mt, .int (nI ts), .int (nI ps), .int pv, .ref mp, .int (nI V), .ref mg, .ref mc, .ref mh, .int (nI rm), .ref ms, .ref mu, .int (nI on), .ref of1, .ref ot1, .ref oi1, .long sd, .ref ml, .ref md, .ref mw])), zA G mg 49 g, zA G ms 98 sl, zB G mu 2 su] H := hP
  have hD : va_D AM [(m, .inr (6, [.int (nI 0), .ref mt, .int (nI ts), .int (nI ps), .int pv, .ref mp, .int (nI V), .ref mg, .ref mc, .ref mh, .int (nI rm), .ref ms, .ref mu, .int (nI on), .ref of1, .ref ot1, .ref oi1, .long sd, .ref ml, .ref md, .ref mw])), zA G mg 49 g, zA G ms 98 sl, zB G mu 2 su] := hD
  refine lv_iload_n hx hb dX9_save_5 rfl (lv_at hl 1 rfl) ?_
  refine lv_i2l hx hb dX9_save_6 rfl ?_
  refine lv_lconst (v := lN 0) hx hb dX9_save_7 (by decide) ?_
  refine lv_lconst (v := lN 1) hx hb dX9_save_8 (by decide) ?_
  refine zSi (W1 := [(m, .inr (6, [.int (nI 0), .ref mt, .int (nI ts), .int (nI ps), .int pv, .ref mp, .int (nI V), .ref mg, .ref mc, .ref mh, .int (nI rm), .ref ms, .ref mu, .int (nI on), .ref of1, .ref ot1, .ref oi1, .long sd, .ref ml, .ref md, .ref mw])), zA G mg 49 g, zA G ms 98 sl, zB G mu 2 su]) (W2 := [(m, .inr (6, [.int (nI 0), .ref mt, .int (nI ts), .int (nI ps), .int pv, .ref mp, .int (nI V), .ref mg, .ref mc, .ref mh, .int (nI rm), .ref ms, .ref mu, .int (nI on), .ref of1, .ref ot1, .ref oi1, .long sd, .ref ml, .ref md, .ref mw])), zA G mg 49 g, zA G ms 98 sl, zB G mu 2 su]) (wr := [(m, .inr (6, [.int (nI 0), .ref mt, .int (nI ts), .int (nI ps), .int pv, .ref mp, .int (nI V), .ref mg, .ref mc, .ref mh, .int (nI rm), .ref ms, .ref mu, .int (nI on), .ref of1, .ref ot1, .ref oi1, .long sd, .ref ml, .ref md, .ref mw])), zA G mg 49 g, zA G ms 98 sl, zB G mu 2 su]) (rest := []) SM (c_X9_in_X l G (x) 0 1 (by first | assumption | omega) (by first | assumption | omega)) (va_cwS 3 hts gX9_save_X9_in rfl rfl rfl (by decide +kernel) ⟨Nat.le_of_ble_eq_true rfl, Nat.le_of_ble_eq_true rfl⟩) hK hE hA hP hD hS hl.1 [] [0, 1, 2, 3] [0, 1, 2, 3] rfl rfl rfl (by decide) rfl rfl (Nat.le_of_ble_eq_true rfl) ⟨Nat.zero_le _, Nat.zero_le _⟩ dX9_save_9 (fun H locs hP hD hS => ?_)
  refine zb_ne (tgt := 17) hx hb dX9_save_12 (by decide) (fun c_1 => ?_) (fun c_1 => ?_)
  · skip
    have hl : lv_has ls 3 [(0, .ref m), (1, .int (nI x.toInt.toNat))] := by rw [← xN_eq (x := x) (by omega)]; exact hl
    refine lv_aload_n hx hb dX9_save_17 rfl (lv_at hl 0 rfl) ?_
    refine va_get (D := G.1) (ci := 6) (v := .ref mu) (C := RX9) (T := TX9) (N := 21) hx hb hts hinX9 hown hK hP 0 rfl rfl 12 (by decide) hlk32 (fun _ h9 => h9) rfl dX9_save_18 ?_
    refine lv_iload_n hx hb dX9_save_21 rfl (lv_at hl 1 rfl) ?_
    refine lv_iconst (v := nI 1) hx hb dX9_save_22 (by decide) ?_
    refine zz_ast hx hb hK hP hD hS 3 rfl (by omega) (by omega) (by omega) dX9_save_23 (fun H locs hP hD hS => ?_)
    have hP : va_P G.1 vwCl [(m, .inr (6, [.int (nI 0), .ref mt, .int (nI ts), .int (nI ps), .int pv, .ref mp, .int (nI V), .ref mg, .ref mc, .ref mh, .int (nI rm), .ref ms, .ref mu, .int (nI on), .ref of1, .ref ot1, .ref oi1, .long sd, .ref ml, .ref md, .ref mw])), zA G mg 49 g, zA G ms 98 sl, zB G mu 2 (zU su x.toInt.toNat 1)] H := hP
    have hD : va_D AM [(m, .inr (6, [.int (nI 0), .ref mt, .int (nI ts), .int (nI ps), .int pv, .ref mp, .int (nI V), .ref mg, .ref mc, .ref mh, .int (nI rm), .ref ms, .ref mu, .int (nI on), .ref of1, .ref ot1, .ref oi1, .long sd, .ref ml, .ref md, .ref mw])), zA G mg 49 g, zA G ms 98 sl, zB G mu 2 (zU su x.toInt.toNat 1)] := hD
    refine lv_iconst (v := nI 0) hx hb dX9_save_24 (by decide) ?_
    refine lv_istore_n (lv' := [(2, .int (nI 0)), (0, .ref m), (1, .int (nI x.toInt.toNat))]) hx hb dX9_save_25 rfl hl (by decide) rfl (fun ls hl => ?_)
    have lp26 : ∀ (n9 : Nat), ∀ (i : Nat), (i ≤ 49) → (49 - i) < n9 → ∀ (H : Heap) (locs : List Loc) (ls : Array Slot), va_P G.1 vwCl [(m, .inr (6, [.int (nI 0), .ref mt, .int (nI ts), .int (nI ps), .int pv, .ref mp, .int (nI V), .ref mg, .ref mc, .ref mh, .int (nI rm), .ref ms, .ref mu, .int (nI on), .ref of1, .ref ot1, .ref oi1, .long sd, .ref ml, .ref md, .ref mw])), zA G mg 49 g, zA G ms 98 (zHp sl g (49 * x.toInt.toNat) i), zB G mu 2 (zU su x.toInt.toNat 1)] H → va_D AM [(m, .inr (6, [.int (nI 0), .ref mt, .int (nI ts), .int (nI ps), .int pv, .ref mp, .int (nI V), .ref mg, .ref mc, .ref mh, .int (nI rm), .ref ms, .ref mu, .int (nI on), .ref of1, .ref ot1, .ref oi1, .long sd, .ref ml, .ref md, .ref mw])), zA G mg 49 g, zA G ms 98 (zHp sl g (49 * x.toInt.toNat) i), zB G mu 2 (zU su x.toInt.toNat 1)] → va_S AM sM.heap H locs → lv_has ls 3 [(0, .ref m), (1, .int (nI x.toInt.toNat)), (2, .int (nI i))] → W pM l eM ({ frames := 1, cells := 0, slots := 0, locals := 25 }) sM mM (([.ref m, .int x] : List Value).toArray) bM tM cM H locs 0 0 QM (F0 mM 26 ls []) := by
      intro n9
      induction n9 with
      | zero =>
        intro _ _ h9
        exact absurd h9 (Nat.not_lt_zero _)
      | succ n9 ih9 =>
        intro i h1 hmu26 H locs ls hP hD hS hl
        have ih26 := ih9
        clear ih9
        refine lv_iload_n hx hb dX9_save_26 rfl (lv_at hl 2 rfl) ?_
        refine lv_bipush (v := nI 49) hx hb dX9_save_27 (by decide) ?_
        refine zn_ge (tgt := 55) hx hb dX9_save_29 (by decide) (by omega) (by omega) (fun c_2 => ?_) (fun c_2 => ?_)
        · skip
          refine lv_aload_n hx hb dX9_save_55 rfl (lv_at hl 0 rfl) ?_
          refine va_get (D := G.1) (ci := 6) (v := .ref mg) (C := RX9) (T := TX9) (N := 21) hx hb hts hinX9 hown hK hP 0 rfl rfl 7 (by decide) hlk20 (fun _ h9 => h9) rfl dX9_save_56 ?_
          refine lv_iconst (v := nI 0) hx hb dX9_save_59 (by decide) ?_
          refine zi_ald hx hb hK hP 1 rfl (by omega) (by omega) dX9_save_60 ?_
          exact kret _ _ _ _ _ _ rfl (by have hq9 : i = 49 := (by omega); rw [hq9]) hP hD hS dX9_save_61
        · skip
          refine lv_aload_n hx hb dX9_save_32 rfl (lv_at hl 0 rfl) ?_
          refine va_get (D := G.1) (ci := 6) (v := .ref ms) (C := RX9) (T := TX9) (N := 21) hx hb hts hinX9 hown hK hP 0 rfl rfl 11 (by decide) hlk29 (fun _ h9 => h9) rfl dX9_save_33 ?_
          refine lv_bipush (v := nI 49) hx hb dX9_save_36 (by decide) ?_
          refine lv_iload_n hx hb dX9_save_38 rfl (lv_at hl 1 rfl) ?_
          refine zi_mul hx hb dX9_save_39 ?_
          refine lv_iload_n hx hb dX9_save_40 rfl (lv_at hl 2 rfl) ?_
          refine zi_add hx hb dX9_save_41 ?_
          refine lv_aload_n hx hb dX9_save_42 rfl (lv_at hl 0 rfl) ?_
          refine va_get (D := G.1) (ci := 6) (v := .ref mg) (C := RX9) (T := TX9) (N := 21) hx hb hts hinX9 hown hK hP 0 rfl rfl 7 (by decide) hlk20 (fun _ h9 => h9) rfl dX9_save_43 ?_
          refine lv_iload_n hx hb dX9_save_46 rfl (lv_at hl 2 rfl) ?_
          refine zi_ald hx hb hK hP 1 rfl (by omega) (by omega) dX9_save_47 ?_
          refine zi_ast hx hb hK hP hD hS 2 rfl (by omega) (by omega) dX9_save_48 (fun H locs hP hD hS => ?_)
          have hP : va_P G.1 vwCl [(m, .inr (6, [.int (nI 0), .ref mt, .int (nI ts), .int (nI ps), .int pv, .ref mp, .int (nI V), .ref mg, .ref mc, .ref mh, .int (nI rm), .ref ms, .ref mu, .int (nI on), .ref of1, .ref ot1, .ref oi1, .long sd, .ref ml, .ref md, .ref mw])), zA G mg 49 g, zA G ms 98 (zU (zHp sl g (49 * x.toInt.toNat) i) ((49 * x.toInt.toNat) + i) (g i)), zB G mu 2 (zU su x.toInt.toNat 1)] H := hP
          have hD : va_D AM [(m, .inr (6, [.int (nI 0), .ref mt, .int (nI ts), .int (nI ps), .int pv, .ref mp, .int (nI V), .ref mg, .ref mc, .ref mh, .int (nI rm), .ref ms, .ref mu, .int (nI on), .ref of1, .ref ot1, .ref oi1, .long sd, .ref ml, .ref md, .ref mw])), zA G mg 49 g, zA G ms 98 (zU (zHp sl g (49 * x.toInt.toNat) i) ((49 * x.toInt.toNat) + i) (g i)), zB G mu 2 (zU su x.toInt.toNat 1)] := hD
          refine lv_iinc (v := nI (i + 1)) (lv' := [(2, .int (nI (i + 1))), (0, .ref m), (1, .int (nI x.toInt.toNat))]) hx hb dX9_save_49 hl (k := 2) rfl (zinc i 1) (by decide) rfl (fun ls hl => ?_)
          refine lv_goto (tgt := 26) hx hb dX9_save_52 (by decide) ?_
          have hP : va_P G.1 vwCl [(m, .inr (6, [.int (nI 0), .ref mt, .int (nI ts), .int (nI ps), .int pv, .ref mp, .int (nI V), .ref mg, .ref mc, .ref mh, .int (nI rm), .ref ms, .ref mu, .int (nI on), .ref of1, .ref ot1, .ref oi1, .long sd, .ref ml, .ref md, .ref mw])), zA G mg 49 g, zA G ms 98 (zHp sl g (49 * x.toInt.toNat) (i + 1)), zB G mu 2 (zU su x.toInt.toNat 1)] H := by (rw [zHp_s]); exact hP
          have hD : va_D AM [(m, .inr (6, [.int (nI 0), .ref mt, .int (nI ts), .int (nI ps), .int pv, .ref mp, .int (nI V), .ref mg, .ref mc, .ref mh, .int (nI rm), .ref ms, .ref mu, .int (nI on), .ref of1, .ref ot1, .ref oi1, .long sd, .ref ml, .ref md, .ref mw])), zA G mg 49 g, zA G ms 98 (zHp sl g (49 * x.toInt.toNat) (i + 1)), zB G mu 2 (zU su x.toInt.toNat 1)] := by (rw [zHp_s]); exact hD
          exact ih26 (i + 1) (by first | assumption | omega) (by omega) _ _ _ hP hD hS (lv_sub hl [1, 2, 0] rfl)
    have hP : va_P G.1 vwCl [(m, .inr (6, [.int (nI 0), .ref mt, .int (nI ts), .int (nI ps), .int pv, .ref mp, .int (nI V), .ref mg, .ref mc, .ref mh, .int (nI rm), .ref ms, .ref mu, .int (nI on), .ref of1, .ref ot1, .ref oi1, .long sd, .ref ml, .ref md, .ref mw])), zA G mg 49 g, zA G ms 98 (zHp sl g (49 * x.toInt.toNat) 0), zB G mu 2 (zU su x.toInt.toNat 1)] H := by (rw [zHp_0]); exact hP
    have hD : va_D AM [(m, .inr (6, [.int (nI 0), .ref mt, .int (nI ts), .int (nI ps), .int pv, .ref mp, .int (nI V), .ref mg, .ref mc, .ref mh, .int (nI rm), .ref ms, .ref mu, .int (nI on), .ref of1, .ref ot1, .ref oi1, .long sd, .ref ml, .ref md, .ref mw])), zA G mg 49 g, zA G ms 98 (zHp sl g (49 * x.toInt.toNat) 0), zB G mu 2 (zU su x.toInt.toNat 1)] := by (rw [zHp_0]); exact hD
    exact lp26 (49 - 0 + 1) 0 (by first | assumption | omega) (Nat.lt_succ_self _) _ _ _ hP hD hS (lv_sub hl [1, 2, 0] rfl)
  · skip
    exfalso; omega
set_option maxHeartbeats 400000 in
set_option maxRecDepth 100000 in
theorem c_X9_restore_bad (l : Launch) (G : zG) (m mt mp mg mc mh ms mu of1 ot1 oi1 ml md mw th ts ps V rm on : Nat) (pv : Int32) (sd : Int64) (su : Nat → Nat) (x : Int32) (hsf : ∀ i, su i < 2) (hb0 : ¬ ((0 ≤ x.toInt ∧ x.toInt < 2) ∧ ¬ su (x.toInt.toNat) = 0)) : MI l yX9_restore wsX9_restore ({ frames := 1, cells := 0, slots := 0, locals := 25 }) G [.ref m, .int x] [(m, .inr (6, [.int (nI th), .ref mt, .int (nI ts), .int (nI ps), .int pv, .ref mp, .int (nI V), .ref mg, .ref mc, .ref mh, .int (nI rm), .ref ms, .ref mu, .int (nI on), .ref of1, .ref ot1, .ref oi1, .long sd, .ref ml, .ref md, .ref mw])), zB G mu 2 su] (zRtX su x) [(m, .inr (6, [.int (nI 0), .ref mt, .int (nI ts), .int (nI ps), .int pv, .ref mp, .int (nI V), .ref mg, .ref mc, .ref mh, .int (nI rm), .ref ms, .ref mu, .int (nI on), .ref of1, .ref ot1, .ref oi1, .long sd, .ref ml, .ref md, .ref mw])), zB G mu 2 su] := by
  refine MI.enter (cc := cX9_restore) (maxL := 3) (by decide) rfl (Nat.le_of_ble_eq_true rfl) rfl ?_
  intro pM eM sM mM bM tM cM QM AM ls hat kret
  obtain ⟨SM, hA, hK, hE, hP, hD, hS, hl⟩ := hat
  have hx := SM.1
  have hb := SM.2.1
  have hown : sM.vm.findClass RX9 = some mM.cls := SM.2.2.2.1
  have hts := SM.2.2.2.2
  have hinX9 : ∀ w ∈ u_ws RX9 TX9 21, w ∈ wsX9_restore := by decide +kernel
  have hlk54 : (Cond.fieldLink RX9 54 "DyckReachabilityModel" "thrown" "I").before _ sM = true := hts _ (by decide +kernel)
  have hlk32 : (Cond.fieldLink RX9 32 "DyckReachabilityModel" "slotUsed" "[Z").before _ sM = true := hts _ (by decide +kernel)
  have hl : lv_has ls 3 [(0, .ref m), (1, .int x)] := hl
  refine lv_aload_n hx hb dX9_restore_0 rfl (lv_at hl 0 rfl) ?_
  refine lv_iconst (v := nI 0) hx hb dX9_restore_1 (by decide) ?_
  refine va_put (D := G.1) (ci := 6) (v := .int (nI 0)) (ty := .int) (C := RX9) (T := TX9) (N := 21) hx hb hts hinX9 tyX9 tyX9_ok nmX9 hown hK hP hD hS 0 rfl rfl 0 (by decide) hlk54 (fun _ h9 => h9) rfl (by decide +kernel) rfl rfl (Nat.le_of_ble_eq_true rfl) dX9_restore_2 (fun H locs hP hD hS => ?_)
  have hP : va_P G.1 vwCl [(m, .inr (6, [.int (nI 0), .ref mt, .int (nI ts), .int (nI ps), .int pv, .ref mp, .int (nI V), .ref mg, .ref mc, .ref mh, .int (nI rm), .ref ms, .ref mu, .int (nI on), .ref of1, .ref ot1, .ref oi1, .long sd, .ref ml, .ref md, .ref mw])), zB G mu 2 su] H := hP
  have hD : va_D AM [(m, .inr (6, [.int (nI 0), .ref mt, .int (nI ts), .int (nI ps), .int pv, .ref mp, .int (nI V), .ref mg, .ref mc, .ref mh, .int (nI rm), .ref ms, .ref mu, .int (nI on), .ref of1, .ref ot1, .ref oi1, .long sd, .ref ml, .ref md, .ref mw])), zB G mu 2 su] := hD
  refine lv_iload_n hx hb dX9_restore_5 rfl (lv_at hl 1 rfl) ?_
  refine lv_i2l hx hb dX9_restore_6 rfl ?_
  refine lv_lconst (v := lN 0) hx hb dX9_restore_7 (by decide) ?_
  refine lv_lconst (v := lN 1) hx hb dX9_restore_8 (by decide) ?_
  refine zSi (W1 := [(m, .inr (6, [.int (nI 0), .ref mt, .int (nI ts), .int (nI ps), .int pv, .ref mp, .int (nI V), .ref mg, .ref mc, .ref mh, .int (nI rm), .ref ms, .ref mu, .int (nI on), .ref of1, .ref ot1, .ref oi1, .long sd, .ref ml, .ref md, .ref mw])), zB G mu 2 su]) (W2 := [(m, .inr (6, [.int (nI 0), .ref mt, .int (nI ts), .int (nI ps), .int pv, .ref mp, .int (nI V), .ref mg, .ref mc, .ref mh, .int (nI rm), .ref ms, .ref mu, .int (nI on), .ref of1, .ref ot1, .ref oi1, .long sd, .ref ml, .ref md, .ref mw])), zB G mu 2 su]) (wr := [(m, .inr (6, [.int (nI 0), .ref mt, .int (nI ts), .int (nI ps), .int pv, .ref mp, .int (nI V), .ref mg, .ref mc, .ref mh, .int (nI rm), .ref ms, .ref mu, .int (nI on), .ref of1, .ref ot1, .ref oi1, .long sd, .ref ml, .ref md, .ref mw])), zB G mu 2 su]) (rest := []) SM (c_X9_in_X l G (x) 0 1 (by first | assumption | omega) (by first | assumption | omega)) (va_cwS 3 hts gX9_restore_X9_in rfl rfl rfl (by decide +kernel) ⟨Nat.le_of_ble_eq_true rfl, Nat.le_of_ble_eq_true rfl⟩) hK hE hA hP hD hS hl.1 [] [0, 1] [0, 1] rfl rfl rfl (by decide) rfl rfl (Nat.le_of_ble_eq_true rfl) ⟨Nat.zero_le _, Nat.zero_le _⟩ dX9_restore_9 (fun H locs hP hD hS => ?_)
  refine zb_ne (tgt := 17) hx hb dX9_restore_12 (by decide) (fun c_1 => ?_) (fun c_1 => ?_)
  · skip
    have hl : lv_has ls 3 [(0, .ref m), (1, .int (nI x.toInt.toNat))] := by rw [← xN_eq (x := x) (by omega)]; exact hl
    refine lv_aload_n hx hb dX9_restore_17 rfl (lv_at hl 0 rfl) ?_
    refine va_get (D := G.1) (ci := 6) (v := .ref mu) (C := RX9) (T := TX9) (N := 21) hx hb hts hinX9 hown hK hP 0 rfl rfl 12 (by decide) hlk32 (fun _ h9 => h9) rfl dX9_restore_18 ?_
    refine lv_iload_n hx hb dX9_restore_21 rfl (lv_at hl 1 rfl) ?_
    refine zz_ald hx hb hK hP 1 rfl (by omega) (by omega) dX9_restore_22 ?_
    have hb_2 := hsf x.toInt.toNat
    refine zd_ne (a := (su x.toInt.toNat : Nat)) (tgt := 29) hx hb dX9_restore_23 (by decide) (zI (by omega)) (fun c_3 => ?_) (fun c_3 => ?_)
    · skip
      exfalso; omega
    · skip
      refine lv_bipush (v := (-3)) hx hb dX9_restore_26 (by decide) ?_
      exact kret _ _ _ _ _ _ (by unfold zRtX; repeat (first | rw [if_pos (by first | assumption | omega)] | rw [if_neg (by first | assumption | omega)])) rfl hP hD hS dX9_restore_28
  · skip
    refine lv_iconst (v := (-1)) hx hb dX9_restore_15 (by decide) ?_
    exact kret _ _ _ _ _ _ (by unfold zRtX; repeat (first | rw [if_pos (by first | assumption | omega)] | rw [if_neg (by first | assumption | omega)])) rfl hP hD hS dX9_restore_16
set_option maxHeartbeats 400000 in
set_option maxRecDepth 100000 in
theorem c_X9_restore_ok (l : Launch) (G : zG) (m mt mp mg mc mh ms mu of1 ot1 oi1 ml md mw th ts ps V rm on : Nat) (pv : Int32) (sd : Int64) (g : Nat → Nat) (sl su : Nat → Nat) (x : Int32) (hx : 0 ≤ x.toInt ∧ x.toInt < 2) (hsf : ∀ i, su i < 2) (hs1 : ¬ su (x.toInt.toNat) = 0) : MI l yX9_restore wsX9_restore ({ frames := 1, cells := 0, slots := 0, locals := 25 }) G [.ref m, .int x] [(m, .inr (6, [.int (nI th), .ref mt, .int (nI ts), .int (nI ps), .int pv, .ref mp, .int (nI V), .ref mg, .ref mc, .ref mh, .int (nI rm), .ref ms, .ref mu, .int (nI on), .ref of1, .ref ot1, .ref oi1, .long sd, .ref ml, .ref md, .ref mw])), zA G mg 49 g, zA G ms 98 sl, zB G mu 2 su] (nI (zBk sl (49 * x.toInt.toNat) 0)) [(m, .inr (6, [.int (nI 0), .ref mt, .int (nI ts), .int (nI ps), .int pv, .ref mp, .int (nI V), .ref mg, .ref mc, .ref mh, .int (nI 0), .ref ms, .ref mu, .int (nI on), .ref of1, .ref ot1, .ref oi1, .long sd, .ref ml, .ref md, .ref mw])), zA G mg 49 (zBk sl (49 * x.toInt.toNat)), zA G ms 98 sl, zB G mu 2 su] := by
  refine MI.enter (cc := cX9_restore) (maxL := 3) (by decide) rfl (Nat.le_of_ble_eq_true rfl) rfl ?_
  intro pM eM sM mM bM tM cM QM AM ls hat kret
  obtain ⟨SM, hA, hK, hE, hP, hD, hS, hl⟩ := hat
  have hx := SM.1
  have hb := SM.2.1
  have hown : sM.vm.findClass RX9 = some mM.cls := SM.2.2.2.1
  have hts := SM.2.2.2.2
  have hinX9 : ∀ w ∈ u_ws RX9 TX9 21, w ∈ wsX9_restore := by decide +kernel
  have hlk54 : (Cond.fieldLink RX9 54 "DyckReachabilityModel" "thrown" "I").before _ sM = true := hts _ (by decide +kernel)
  have hlk32 : (Cond.fieldLink RX9 32 "DyckReachabilityModel" "slotUsed" "[Z").before _ sM = true := hts _ (by decide +kernel)
  have hlk122 : (Cond.fieldLink RX9 122 "DyckReachabilityModel" "remembered" "I").before _ sM = true := hts _ (by decide +kernel)
  have hlk20 : (Cond.fieldLink RX9 20 "DyckReachabilityModel" "graph" "[I").before _ sM = true := hts _ (by decide +kernel)
  have hlk29 : (Cond.fieldLink RX9 29 "DyckReachabilityModel" "slots" "[I").before _ sM = true := hts _ (by decide +kernel)
  have hl : lv_has ls 3 [(0, .ref m), (1, .int x)] := hl
  refine lv_aload_n hx hb dX9_restore_0 rfl (lv_at hl 0 rfl) ?_
  refine lv_iconst (v := nI 0) hx hb dX9_restore_1 (by decide) ?_
  refine va_put (D := G.1) (ci := 6) (v := .int (nI 0)) (ty := .int) (C := RX9) (T := TX9) (N := 21) hx hb hts hinX9 tyX9 tyX9_ok nmX9 hown hK hP hD hS 0 rfl rfl 0 (by decide) hlk54 (fun _ h9 => h9) rfl (by decide +kernel) rfl rfl (Nat.le_of_ble_eq_true rfl) dX9_restore_2 (fun H locs hP hD hS => ?_)
  have hP : va_P G.1 vwCl [(m, .inr (6, [.int (nI 0), .ref mt, .int (nI ts), .int (nI ps), .int pv, .ref mp, .int (nI V), .ref mg, .ref mc, .ref mh, .int (nI rm), .ref ms, .ref mu, .int (nI on), .ref of1, .ref ot1, .ref oi1, .long sd, .ref ml, .ref md, .ref mw])), zA G mg 49 g, zA G ms 98 sl, zB G mu 2 su] H := hP
  have hD : va_D AM [(m, .inr (6, [.int (nI 0), .ref mt, .int (nI ts), .int (nI ps), .int pv, .ref mp, .int (nI V), .ref mg, .ref mc, .ref mh, .int (nI rm), .ref ms, .ref mu, .int (nI on), .ref of1, .ref ot1, .ref oi1, .long sd, .ref ml, .ref md, .ref mw])), zA G mg 49 g, zA G ms 98 sl, zB G mu 2 su] := hD
  refine lv_iload_n hx hb dX9_restore_5 rfl (lv_at hl 1 rfl) ?_
  refine lv_i2l hx hb dX9_restore_6 rfl ?_
  refine lv_lconst (v := lN 0) hx hb dX9_restore_7 (by decide) ?_
  refine lv_lconst (v := lN 1) hx hb dX9_restore_8 (by decide) ?_
  refine zSi (W1 := [(m, .inr (6, [.int (nI 0), .ref mt, .int (nI ts), .int (nI ps), .int pv, .ref mp, .int (nI V), .ref mg, .ref mc, .ref mh, .int (nI rm), .ref ms, .ref mu, .int (nI on), .ref of1, .ref ot1, .ref oi1, .long sd, .ref ml, .ref md, .ref mw])), zA G mg 49 g, zA G ms 98 sl, zB G mu 2 su]) (W2 := [(m, .inr (6, [.int (nI 0), .ref mt, .int (nI ts), .int (nI ps), .int pv, .ref mp, .int (nI V), .ref mg, .ref mc, .ref mh, .int (nI rm), .ref ms, .ref mu, .int (nI on), .ref of1, .ref ot1, .ref oi1, .long sd, .ref ml, .ref md, .ref mw])), zA G mg 49 g, zA G ms 98 sl, zB G mu 2 su]) (wr := [(m, .inr (6, [.int (nI 0), .ref mt, .int (nI ts), .int (nI ps), .int pv, .ref mp, .int (nI V), .ref mg, .ref mc, .ref mh, .int (nI rm), .ref ms, .ref mu, .int (nI on), .ref of1, .ref ot1, .ref oi1, .long sd, .ref ml, .ref md, .ref mw])), zA G mg 49 g, zA G ms 98 sl, zB G mu 2 su]) (rest := []) SM (c_X9_in_X l G (x) 0 1 (by first | assumption | omega) (by first | assumption | omega)) (va_cwS 3 hts gX9_restore_X9_in rfl rfl rfl (by decide +kernel) ⟨Nat.le_of_ble_eq_true rfl, Nat.le_of_ble_eq_true rfl⟩) hK hE hA hP hD hS hl.1 [] [0, 1, 2, 3] [0, 1, 2, 3] rfl rfl rfl (by decide) rfl rfl (Nat.le_of_ble_eq_true rfl) ⟨Nat.zero_le _, Nat.zero_le _⟩ dX9_restore_9 (fun H locs hP hD hS => ?_)
  refine zb_ne (tgt := 17) hx hb dX9_restore_12 (by decide) (fun c_1 => ?_) (fun c_1 => ?_)
  · skip
    have hl : lv_has ls 3 [(0, .ref m), (1, .int (nI x.toInt.toNat))] := by rw [← xN_eq (x := x) (by omega)]; exact hl
    refine lv_aload_n hx hb dX9_restore_17 rfl (lv_at hl 0 rfl) ?_
    refine va_get (D := G.1) (ci := 6) (v := .ref mu) (C := RX9) (T := TX9) (N := 21) hx hb hts hinX9 hown hK hP 0 rfl rfl 12 (by decide) hlk32 (fun _ h9 => h9) rfl dX9_restore_18 ?_
    refine lv_iload_n hx hb dX9_restore_21 rfl (lv_at hl 1 rfl) ?_
    refine zz_ald hx hb hK hP 3 rfl (by omega) (by omega) dX9_restore_22 ?_
    have hb_2 := hsf x.toInt.toNat
    refine zd_ne (a := (su x.toInt.toNat : Nat)) (tgt := 29) hx hb dX9_restore_23 (by decide) (zI (by omega)) (fun c_3 => ?_) (fun c_3 => ?_)
    · skip
      refine lv_iconst (v := nI 0) hx hb dX9_restore_29 (by decide) ?_
      refine lv_istore_n (lv' := [(2, .int (nI 0)), (0, .ref m), (1, .int (nI x.toInt.toNat))]) hx hb dX9_restore_30 rfl hl (by decide) rfl (fun ls hl => ?_)
      have lp31 : ∀ (n9 : Nat), ∀ (i : Nat), (i ≤ 49) → (49 - i) < n9 → ∀ (H : Heap) (locs : List Loc) (ls : Array Slot), va_P G.1 vwCl [(m, .inr (6, [.int (nI 0), .ref mt, .int (nI ts), .int (nI ps), .int pv, .ref mp, .int (nI V), .ref mg, .ref mc, .ref mh, .int (nI rm), .ref ms, .ref mu, .int (nI on), .ref of1, .ref ot1, .ref oi1, .long sd, .ref ml, .ref md, .ref mw])), zA G mg 49 (zTk g (zBk sl (49 * x.toInt.toNat)) i), zA G ms 98 sl, zB G mu 2 su] H → va_D AM [(m, .inr (6, [.int (nI 0), .ref mt, .int (nI ts), .int (nI ps), .int pv, .ref mp, .int (nI V), .ref mg, .ref mc, .ref mh, .int (nI rm), .ref ms, .ref mu, .int (nI on), .ref of1, .ref ot1, .ref oi1, .long sd, .ref ml, .ref md, .ref mw])), zA G mg 49 (zTk g (zBk sl (49 * x.toInt.toNat)) i), zA G ms 98 sl, zB G mu 2 su] → va_S AM sM.heap H locs → lv_has ls 3 [(0, .ref m), (1, .int (nI x.toInt.toNat)), (2, .int (nI i))] → W pM l eM ({ frames := 1, cells := 0, slots := 0, locals := 25 }) sM mM (([.ref m, .int x] : List Value).toArray) bM tM cM H locs 0 0 QM (F0 mM 31 ls []) := by
        intro n9
        induction n9 with
        | zero =>
          intro _ _ h9
          exact absurd h9 (Nat.not_lt_zero _)
        | succ n9 ih9 =>
          intro i h1 hmu31 H locs ls hP hD hS hl
          have ih31 := ih9
          clear ih9
          refine lv_iload_n hx hb dX9_restore_31 rfl (lv_at hl 2 rfl) ?_
          refine lv_bipush (v := nI 49) hx hb dX9_restore_32 (by decide) ?_
          refine zn_ge (tgt := 60) hx hb dX9_restore_34 (by decide) (by omega) (by omega) (fun c_4 => ?_) (fun c_4 => ?_)
          · skip
            obtain ⟨hP, hD⟩ := zcanon hP hD 1 rfl (zBk sl (49 * x.toInt.toNat)) (fun j h9 => by have hq9 : i = 49 := (by omega); rw [hq9]; unfold zTk; rw [if_pos h9])
            have hP : va_P G.1 vwCl [(m, .inr (6, [.int (nI 0), .ref mt, .int (nI ts), .int (nI ps), .int pv, .ref mp, .int (nI V), .ref mg, .ref mc, .ref mh, .int (nI rm), .ref ms, .ref mu, .int (nI on), .ref of1, .ref ot1, .ref oi1, .long sd, .ref ml, .ref md, .ref mw])), zA G mg 49 (zBk sl (49 * x.toInt.toNat)), zA G ms 98 sl, zB G mu 2 su] H := hP
            have hD : va_D AM [(m, .inr (6, [.int (nI 0), .ref mt, .int (nI ts), .int (nI ps), .int pv, .ref mp, .int (nI V), .ref mg, .ref mc, .ref mh, .int (nI rm), .ref ms, .ref mu, .int (nI on), .ref of1, .ref ot1, .ref oi1, .long sd, .ref ml, .ref md, .ref mw])), zA G mg 49 (zBk sl (49 * x.toInt.toNat)), zA G ms 98 sl, zB G mu 2 su] := hD
            refine lv_aload_n hx hb dX9_restore_60 rfl (lv_at hl 0 rfl) ?_
            refine lv_iconst (v := nI 0) hx hb dX9_restore_61 (by decide) ?_
            refine va_put (D := G.1) (ci := 6) (v := .int (nI 0)) (ty := .int) (C := RX9) (T := TX9) (N := 21) hx hb hts hinX9 tyX9 tyX9_ok nmX9 hown hK hP hD hS 0 rfl rfl 10 (by decide) hlk122 (fun _ h9 => h9) rfl (by decide +kernel) rfl rfl (Nat.le_of_ble_eq_true rfl) dX9_restore_62 (fun H locs hP hD hS => ?_)
            have hP : va_P G.1 vwCl [(m, .inr (6, [.int (nI 0), .ref mt, .int (nI ts), .int (nI ps), .int pv, .ref mp, .int (nI V), .ref mg, .ref mc, .ref mh, .int (nI 0), .ref ms, .ref mu, .int (nI on), .ref of1, .ref ot1, .ref oi1, .long sd, .ref ml, .ref md, .ref mw])), zA G mg 49 (zBk sl (49 * x.toInt.toNat)), zA G ms 98 sl, zB G mu 2 su] H := hP
            have hD : va_D AM [(m, .inr (6, [.int (nI 0), .ref mt, .int (nI ts), .int (nI ps), .int pv, .ref mp, .int (nI V), .ref mg, .ref mc, .ref mh, .int (nI 0), .ref ms, .ref mu, .int (nI on), .ref of1, .ref ot1, .ref oi1, .long sd, .ref ml, .ref md, .ref mw])), zA G mg 49 (zBk sl (49 * x.toInt.toNat)), zA G ms 98 sl, zB G mu 2 su] := hD
            refine lv_aload_n hx hb dX9_restore_65 rfl (lv_at hl 0 rfl) ?_
            refine va_get (D := G.1) (ci := 6) (v := .ref mg) (C := RX9) (T := TX9) (N := 21) hx hb hts hinX9 hown hK hP 0 rfl rfl 7 (by decide) hlk20 (fun _ h9 => h9) rfl dX9_restore_66 ?_
            refine lv_iconst (v := nI 0) hx hb dX9_restore_69 (by decide) ?_
            refine zi_ald hx hb hK hP 1 rfl (by omega) (by omega) dX9_restore_70 ?_
            exact kret _ _ _ _ _ _ (congrArg nI (by omega)) rfl hP hD hS dX9_restore_71
          · skip
            refine lv_aload_n hx hb dX9_restore_37 rfl (lv_at hl 0 rfl) ?_
            refine va_get (D := G.1) (ci := 6) (v := .ref mg) (C := RX9) (T := TX9) (N := 21) hx hb hts hinX9 hown hK hP 0 rfl rfl 7 (by decide) hlk20 (fun _ h9 => h9) rfl dX9_restore_38 ?_
            refine lv_iload_n hx hb dX9_restore_41 rfl (lv_at hl 2 rfl) ?_
            refine lv_aload_n hx hb dX9_restore_42 rfl (lv_at hl 0 rfl) ?_
            refine va_get (D := G.1) (ci := 6) (v := .ref ms) (C := RX9) (T := TX9) (N := 21) hx hb hts hinX9 hown hK hP 0 rfl rfl 11 (by decide) hlk29 (fun _ h9 => h9) rfl dX9_restore_43 ?_
            refine lv_bipush (v := nI 49) hx hb dX9_restore_46 (by decide) ?_
            refine lv_iload_n hx hb dX9_restore_48 rfl (lv_at hl 1 rfl) ?_
            refine zi_mul hx hb dX9_restore_49 ?_
            refine lv_iload_n hx hb dX9_restore_50 rfl (lv_at hl 2 rfl) ?_
            refine zi_add hx hb dX9_restore_51 ?_
            refine zi_ald hx hb hK hP 2 rfl (by omega) (by omega) dX9_restore_52 ?_
            refine zi_ast hx hb hK hP hD hS 1 rfl (by omega) (by omega) dX9_restore_53 (fun H locs hP hD hS => ?_)
            have hP : va_P G.1 vwCl [(m, .inr (6, [.int (nI 0), .ref mt, .int (nI ts), .int (nI ps), .int pv, .ref mp, .int (nI V), .ref mg, .ref mc, .ref mh, .int (nI rm), .ref ms, .ref mu, .int (nI on), .ref of1, .ref ot1, .ref oi1, .long sd, .ref ml, .ref md, .ref mw])), zA G mg 49 (zU (zTk g (zBk sl (49 * x.toInt.toNat)) i) i (sl ((49 * x.toInt.toNat) + i))), zA G ms 98 sl, zB G mu 2 su] H := hP
            have hD : va_D AM [(m, .inr (6, [.int (nI 0), .ref mt, .int (nI ts), .int (nI ps), .int pv, .ref mp, .int (nI V), .ref mg, .ref mc, .ref mh, .int (nI rm), .ref ms, .ref mu, .int (nI on), .ref of1, .ref ot1, .ref oi1, .long sd, .ref ml, .ref md, .ref mw])), zA G mg 49 (zU (zTk g (zBk sl (49 * x.toInt.toNat)) i) i (sl ((49 * x.toInt.toNat) + i))), zA G ms 98 sl, zB G mu 2 su] := hD
            refine lv_iinc (v := nI (i + 1)) (lv' := [(2, .int (nI (i + 1))), (0, .ref m), (1, .int (nI x.toInt.toNat))]) hx hb dX9_restore_54 hl (k := 2) rfl (zinc i 1) (by decide) rfl (fun ls hl => ?_)
            refine lv_goto (tgt := 31) hx hb dX9_restore_57 (by decide) ?_
            have hP : va_P G.1 vwCl [(m, .inr (6, [.int (nI 0), .ref mt, .int (nI ts), .int (nI ps), .int pv, .ref mp, .int (nI V), .ref mg, .ref mc, .ref mh, .int (nI rm), .ref ms, .ref mu, .int (nI on), .ref of1, .ref ot1, .ref oi1, .long sd, .ref ml, .ref md, .ref mw])), zA G mg 49 (zTk g (zBk sl (49 * x.toInt.toNat)) (i + 1)), zA G ms 98 sl, zB G mu 2 su] H := by (rw [zTk_bk]); exact hP
            have hD : va_D AM [(m, .inr (6, [.int (nI 0), .ref mt, .int (nI ts), .int (nI ps), .int pv, .ref mp, .int (nI V), .ref mg, .ref mc, .ref mh, .int (nI rm), .ref ms, .ref mu, .int (nI on), .ref of1, .ref ot1, .ref oi1, .long sd, .ref ml, .ref md, .ref mw])), zA G mg 49 (zTk g (zBk sl (49 * x.toInt.toNat)) (i + 1)), zA G ms 98 sl, zB G mu 2 su] := by (rw [zTk_bk]); exact hD
            exact ih31 (i + 1) (by first | assumption | omega) (by omega) _ _ _ hP hD hS (lv_sub hl [1, 2, 0] rfl)
      have hP : va_P G.1 vwCl [(m, .inr (6, [.int (nI 0), .ref mt, .int (nI ts), .int (nI ps), .int pv, .ref mp, .int (nI V), .ref mg, .ref mc, .ref mh, .int (nI rm), .ref ms, .ref mu, .int (nI on), .ref of1, .ref ot1, .ref oi1, .long sd, .ref ml, .ref md, .ref mw])), zA G mg 49 (zTk g (zBk sl (49 * x.toInt.toNat)) 0), zA G ms 98 sl, zB G mu 2 su] H := by (rw [zTk_0]); exact hP
      have hD : va_D AM [(m, .inr (6, [.int (nI 0), .ref mt, .int (nI ts), .int (nI ps), .int pv, .ref mp, .int (nI V), .ref mg, .ref mc, .ref mh, .int (nI rm), .ref ms, .ref mu, .int (nI on), .ref of1, .ref ot1, .ref oi1, .long sd, .ref ml, .ref md, .ref mw])), zA G mg 49 (zTk g (zBk sl (49 * x.toInt.toNat)) 0), zA G ms 98 sl, zB G mu 2 su] := by (rw [zTk_0]); exact hD
      exact lp31 (49 - 0 + 1) 0 (by first | assumption | omega) (Nat.lt_succ_self _) _ _ _ hP hD hS (lv_sub hl [1, 2, 0] rfl)
    · skip
      exfalso; omega
  · skip
    exfalso; omega
set_option maxHeartbeats 400000 in
set_option maxRecDepth 100000 in
theorem c_X9_factorial (l : Launch) (G : zG) (n : Nat) (hn : n ≤ 8) : MI l yX9_factorial wsX9_factorial ({ frames := 0, cells := 0, slots := 0, locals := 0 }) G [.int (nI n)] [] (nI (mFac n)) [] := by
  refine MI.enter (cc := cX9_factorial) (maxL := 3) (by decide) rfl (Nat.le_of_ble_eq_true rfl) rfl ?_
  intro pM eM sM mM bM tM cM QM AM ls hat kret
  obtain ⟨SM, hA, hK, hE, hP, hD, hS, hl⟩ := hat
  have hx := SM.1
  have hb := SM.2.1
  have hown : sM.vm.findClass RX9 = some mM.cls := SM.2.2.2.1
  have hts := SM.2.2.2.2
  have hl : lv_has ls 3 [(0, .int (nI n))] := hl
  refine lv_iconst (v := nI 1) hx hb dX9_factorial_0 (by decide) ?_
  refine lv_istore_n (lv' := [(1, .int (nI 1)), (0, .int (nI n))]) hx hb dX9_factorial_1 rfl hl (by decide) rfl (fun ls hl => ?_)
  refine lv_iconst (v := nI 2) hx hb dX9_factorial_2 (by decide) ?_
  refine lv_istore_n (lv' := [(2, .int (nI 2)), (1, .int (nI 1)), (0, .int (nI n))]) hx hb dX9_factorial_3 rfl hl (by decide) rfl (fun ls hl => ?_)
  have lp4 : ∀ (n9 : Nat), ∀ (i a : Nat), (2 ≤ i) → (i ≤ n + 1 ∨ i = 2) → (a = zIt mFacF (i - 2) 1) → (n + 2 - i) < n9 → ∀ (H : Heap) (locs : List Loc) (ls : Array Slot), va_P G.1 vwCl [] H → va_D AM [] → va_S AM sM.heap H locs → lv_has ls 3 [(0, .int (nI n)), (1, .int (nI a)), (2, .int (nI i))] → W pM l eM ({ frames := 0, cells := 0, slots := 0, locals := 0 }) sM mM (([.int (nI n)] : List Value).toArray) bM tM cM H locs 0 0 QM (F0 mM 4 ls []) := by
    intro n9
    induction n9 with
    | zero =>
      intro _ _ _ _ _ h9
      exact absurd h9 (Nat.not_lt_zero _)
    | succ n9 ih9 =>
      intro i a h1 h2 hq hmu4 H locs ls hP hD hS hl
      have ih4 := ih9
      clear ih9
      refine lv_iload_n hx hb dX9_factorial_4 rfl (lv_at hl 2 rfl) ?_
      refine lv_iload_n hx hb dX9_factorial_5 rfl (lv_at hl 0 rfl) ?_
      refine zn_gt (tgt := 19) hx hb dX9_factorial_6 (by decide) (by omega) (by omega) (fun c_1 => ?_) (fun c_1 => ?_)
      · skip
        refine lv_iload_n hx hb dX9_factorial_19 rfl (lv_at hl 1 rfl) ?_
        exact kret _ _ _ _ _ _ (congrArg nI (by unfold mFac; rw [show n - 1 = i - 2 by omega]; exact hq)) rfl hP hD hS dX9_factorial_20
      · skip
        refine lv_iload_n hx hb dX9_factorial_9 rfl (lv_at hl 1 rfl) ?_
        refine lv_iload_n hx hb dX9_factorial_10 rfl (lv_at hl 2 rfl) ?_
        refine zi_mul hx hb dX9_factorial_11 ?_
        refine lv_istore_n (lv' := [(1, .int (nI (a * i))), (0, .int (nI n)), (2, .int (nI i))]) hx hb dX9_factorial_12 rfl hl (by decide) rfl (fun ls hl => ?_)
        refine lv_iinc (v := nI (i + 1)) (lv' := [(2, .int (nI (i + 1))), (1, .int (nI (a * i))), (0, .int (nI n))]) hx hb dX9_factorial_13 hl (k := 2) rfl (zinc i 1) (by decide) rfl (fun ls hl => ?_)
        refine lv_goto (tgt := 4) hx hb dX9_factorial_16 (by decide) ?_
        exact ih4 (i + 1) (a * i) (by first | assumption | omega) (by first | assumption | omega) (by rw [show i + 1 - 2 = (i - 2) + 1 by omega, zIt_s, ← hq]; unfold mFacF; rw [show i - 2 + 2 = i by omega]) (by omega) _ _ _ hP hD hS (lv_sub hl [2, 1, 0] rfl)
  exact lp4 (n + 2 - 2 + 1) 2 1 (by first | assumption | omega) (by first | assumption | omega) rfl (Nat.lt_succ_self _) _ _ _ hP hD hS (lv_sub hl [2, 1, 0] rfl)
set_option maxHeartbeats 400000 in
set_option maxRecDepth 100000 in
theorem c_X9_tenThousands (l : Launch) (G : zG) (n : Nat) (hn : n ≤ 4) : ML l yX9_tenThousands wsX9_tenThousands ({ frames := 0, cells := 0, slots := 0, locals := 0 }) G [.int (nI n)] [] (lN (10000 ^ n)) [] := by
  refine ML.enter (cc := cX9_tenThousands) (maxL := 4) (by decide) rfl (Nat.le_of_ble_eq_true rfl) ?_
  intro pM eM sM mM bM tM cM QM AM ls hat kret
  obtain ⟨SM, hA, hK, hE, hP, hD, hS, hl⟩ := hat
  have hx := SM.1
  have hb := SM.2.1
  have hown : sM.vm.findClass RX9 = some mM.cls := SM.2.2.2.1
  have hts := SM.2.2.2.2
  have hl : lv_has ls 4 [(0, .int (nI n))] := hl
  refine lv_lconst (v := lN 1) hx hb dX9_tenThousands_0 (by decide) ?_
  refine lv_lstore_n (lv' := [(1, .long (lN 1)), (0, .int (nI n))]) hx hb dX9_tenThousands_1 rfl hl (by decide) rfl (fun ls hl => ?_)
  refine lv_iconst (v := nI 0) hx hb dX9_tenThousands_2 (by decide) ?_
  refine lv_istore_n (lv' := [(3, .int (nI 0)), (1, .long (lN 1)), (0, .int (nI n))]) hx hb dX9_tenThousands_3 rfl hl (by decide) rfl (fun ls hl => ?_)
  have lp4 : ∀ (n9 : Nat), ∀ (i a : Nat), (i ≤ n) → (a = 10000 ^ i) → (n - i) < n9 → ∀ (H : Heap) (locs : List Loc) (ls : Array Slot), va_P G.1 vwCl [] H → va_D AM [] → va_S AM sM.heap H locs → lv_has ls 4 [(0, .int (nI n)), (1, .long (lN a)), (3, .int (nI i))] → W pM l eM ({ frames := 0, cells := 0, slots := 0, locals := 0 }) sM mM (([.int (nI n)] : List Value).toArray) bM tM cM H locs 0 0 QM (F0 mM 4 ls []) := by
    intro n9
    induction n9 with
    | zero =>
      intro _ _ _ _ h9
      exact absurd h9 (Nat.not_lt_zero _)
    | succ n9 ih9 =>
      intro i a h1 hq hmu4 H locs ls hP hD hS hl
      have ih4 := ih9
      clear ih9
      refine lv_iload_n hx hb dX9_tenThousands_4 rfl (lv_at hl 2 rfl) ?_
      refine lv_iload_n hx hb dX9_tenThousands_5 rfl (lv_at hl 0 rfl) ?_
      refine zn_ge (tgt := 21) hx hb dX9_tenThousands_6 (by decide) (by omega) (by omega) (fun c_1 => ?_) (fun c_1 => ?_)
      · skip
        refine lv_lload_n hx hb dX9_tenThousands_21 rfl (lv_at hl 1 rfl) ?_
        exact kret _ _ _ _ _ _ (congrArg lN (by have hq9 : i = n := (by omega); rw [← hq9]; exact hq)) rfl hP hD hS dX9_tenThousands_22
      · skip
        refine lv_lload_n hx hb dX9_tenThousands_9 rfl (lv_at hl 1 rfl) ?_
        refine lv_ldc2 (v := lN 10000) hx hb hown (hts (.constantLong RX9 165 (10000)) (by decide +kernel)) dX9_tenThousands_10 ?_
        refine zl_mul hx hb dX9_tenThousands_13 ?_
        refine lv_lstore_n (lv' := [(1, .long (lN (a * 10000))), (0, .int (nI n)), (3, .int (nI i))]) hx hb dX9_tenThousands_14 rfl hl (by decide) rfl (fun ls hl => ?_)
        refine lv_iinc (v := nI (i + 1)) (lv' := [(3, .int (nI (i + 1))), (1, .long (lN (a * 10000))), (0, .int (nI n))]) hx hb dX9_tenThousands_15 hl (k := 2) rfl (zinc i 1) (by decide) rfl (fun ls hl => ?_)
        refine lv_goto (tgt := 4) hx hb dX9_tenThousands_18 (by decide) ?_
        exact ih4 (i + 1) (a * 10000) (by first | assumption | omega) (by rw [Nat.pow_succ, ← hq]) (by omega) _ _ _ hP hD hS (lv_sub hl [2, 1, 0] rfl)
  exact lp4 (n - 0 + 1) 0 1 (by first | assumption | omega) rfl (Nat.lt_succ_self _) _ _ _ hP hD hS (lv_sub hl [2, 1, 0] rfl)
