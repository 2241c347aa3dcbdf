set_option maxHeartbeats 400000 in
set_option maxRecDepth 100000 in
theorem c_X9_witnessEdge_bad (l : Launch) (G : zG) (m mt mp mg mc mh ms mu of1 ot1 oi1 ml md mw th ts ps V rm on : Nat) (pv : Int32) (sd : Int64) (x y z : Int32) (hV : V ≤ 8) (hV1 : 1 ≤ V) (hb0 : ¬ ((0 ≤ x.toInt ∧ x.toInt < V) ∧ (0 ≤ y.toInt ∧ y.toInt < V))) : MI l yX9_witnessEdge wsX9_witnessEdge ({ frames := 2, cells := 0, slots := 0, locals := 46 }) G [.ref m, .int x, .int y, .int z] [(m, .inr (6, [.int (nI th), .ref mt, .int (nI ts), .int (nI ps), .int pv, .ref mp, .int (nI V), .ref mg, .ref mc, .ref mh, .int (nI rm), .ref ms, .ref mu, .int (nI on), .ref of1, .ref ot1, .ref oi1, .long sd, .ref ml, .ref md, .ref mw]))] (-1) [(m, .inr (6, [.int (nI 0), .ref mt, .int (nI ts), .int (nI ps), .int pv, .ref mp, .int (nI V), .ref mg, .ref mc, .ref mh, .int (nI rm), .ref ms, .ref mu, .int (nI on), .ref of1, .ref ot1, .ref oi1, .long sd, .ref ml, .ref md, .ref mw]))] := by
  refine MI.enter (cc := cX9_witnessEdge) (maxL := 13) (by decide) rfl (Nat.le_of_ble_eq_true rfl) rfl ?_
  intro pM eM sM mM bM tM cM QM AM ls hat kret
  obtain ⟨SM, hA, hK, hE, hP, hD, hS, hl⟩ := hat
  have hx := SM.1
  have hb := SM.2.1
  have hown : sM.vm.findClass RX9 = some mM.cls := SM.2.2.2.1
  have hts := SM.2.2.2.2
  have hinX9 : ∀ w ∈ u_ws RX9 TX9 21, w ∈ wsX9_witnessEdge := by decide +kernel
  have hlk54 : (Cond.fieldLink RX9 54 "DyckReachabilityModel" "thrown" "I").before _ sM = true := hts _ (by decide +kernel)
  have hl : lv_has ls 13 [(0, .ref m), (1, .int x), (2, .int y), (3, .int z)] := hl
  refine lv_aload_n hx hb dX9_witnessEdge_0 rfl (lv_at hl 0 rfl) ?_
  refine lv_iconst (v := nI 0) hx hb dX9_witnessEdge_1 (by decide) ?_
  refine va_put (D := G.1) (ci := 6) (v := .int (nI 0)) (ty := .int) (C := RX9) (T := TX9) (N := 21) hx hb hts hinX9 tyX9 tyX9_ok nmX9 hown hK hP hD hS 0 rfl rfl 0 (by decide) hlk54 (fun _ h9 => h9) rfl (by decide +kernel) rfl rfl (Nat.le_of_ble_eq_true rfl) dX9_witnessEdge_2 (fun H locs hP hD hS => ?_)
  have hP : va_P G.1 vwCl [(m, .inr (6, [.int (nI 0), .ref mt, .int (nI ts), .int (nI ps), .int pv, .ref mp, .int (nI V), .ref mg, .ref mc, .ref mh, .int (nI rm), .ref ms, .ref mu, .int (nI on), .ref of1, .ref ot1, .ref oi1, .long sd, .ref ml, .ref md, .ref mw]))] H := hP
  have hD : va_D AM [(m, .inr (6, [.int (nI 0), .ref mt, .int (nI ts), .int (nI ps), .int pv, .ref mp, .int (nI V), .ref mg, .ref mc, .ref mh, .int (nI rm), .ref ms, .ref mu, .int (nI on), .ref of1, .ref ot1, .ref oi1, .long sd, .ref ml, .ref md, .ref mw]))] := hD
  refine lv_aload_n hx hb dX9_witnessEdge_5 rfl (lv_at hl 0 rfl) ?_
  refine lv_iload_n hx hb dX9_witnessEdge_6 rfl (lv_at hl 1 rfl) ?_
  refine zVi (W1 := [(m, .inr (6, [.int (nI 0), .ref mt, .int (nI ts), .int (nI ps), .int pv, .ref mp, .int (nI V), .ref mg, .ref mc, .ref mh, .int (nI rm), .ref ms, .ref mu, .int (nI on), .ref of1, .ref ot1, .ref oi1, .long sd, .ref ml, .ref md, .ref mw]))]) (W2 := [(m, .inr (6, [.int (nI 0), .ref mt, .int (nI ts), .int (nI ps), .int pv, .ref mp, .int (nI V), .ref mg, .ref mc, .ref mh, .int (nI rm), .ref ms, .ref mu, .int (nI on), .ref of1, .ref ot1, .ref oi1, .long sd, .ref ml, .ref md, .ref mw]))]) (wr := []) (rest := []) SM (c_X9_noVertex l G m mt mp mg mc mh ms mu of1 ot1 oi1 ml md mw 0 ts ps V rm on pv sd x (by first | assumption | omega) (by first | assumption | omega)) (cwV 1 hts gX9_witnessEdge_X9_noVertex rfl rfl rfl (by decide +kernel) ⟨Nat.le_of_ble_eq_true rfl, Nat.le_of_ble_eq_true rfl⟩) hK hE hA hP hD hS hl.1 [0] [] [0] rfl rfl rfl (by decide) (ci := 6) rfl rfl rfl rfl rfl (Nat.le_of_ble_eq_true rfl) ⟨Nat.zero_le _, Nat.zero_le _⟩ dX9_witnessEdge_7 (fun H locs hP hD hS => ?_)
  refine zb_ne (tgt := 21) hx hb dX9_witnessEdge_10 (by decide) (fun c_1 => ?_) (fun c_1 => ?_)
  · skip
    refine lv_iconst (v := (-1)) hx hb dX9_witnessEdge_21 (by decide) ?_
    exact kret _ _ _ _ _ _ rfl rfl hP hD hS dX9_witnessEdge_22
  · skip
    refine lv_aload_n hx hb dX9_witnessEdge_13 rfl (lv_at hl 0 rfl) ?_
    refine lv_iload_n hx hb dX9_witnessEdge_14 rfl (lv_at hl 2 rfl) ?_
    refine zVi (W1 := [(m, .inr (6, [.int (nI 0), .ref mt, .int (nI ts), .int (nI ps), .int pv, .ref mp, .int (nI V), .ref mg, .ref mc, .ref mh, .int (nI rm), .ref ms, .ref mu, .int (nI on), .ref of1, .ref ot1, .ref oi1, .long sd, .ref ml, .ref md, .ref mw]))]) (W2 := [(m, .inr (6, [.int (nI 0), .ref mt, .int (nI ts), .int (nI ps), .int pv, .ref mp, .int (nI V), .ref mg, .ref mc, .ref mh, .int (nI rm), .ref ms, .ref mu, .int (nI on), .ref of1, .ref ot1, .ref oi1, .long sd, .ref ml, .ref md, .ref mw]))]) (wr := []) (rest := []) SM (c_X9_noVertex l G m mt mp mg mc mh ms mu of1 ot1 oi1 ml md mw 0 ts ps V rm on pv sd y (by first | assumption | omega) (by first | assumption | omega)) (cwV 1 hts gX9_witnessEdge_X9_noVertex rfl rfl rfl (by decide +kernel) ⟨Nat.le_of_ble_eq_true rfl, Nat.le_of_ble_eq_true rfl⟩) hK hE hA hP hD hS hl.1 [0] [] [0] rfl rfl rfl (by decide) (ci := 6) rfl rfl rfl rfl rfl (Nat.le_of_ble_eq_true rfl) ⟨Nat.zero_le _, Nat.zero_le _⟩ dX9_witnessEdge_15 (fun H locs hP hD hS => ?_)
    refine zb_eq (tgt := 23) hx hb dX9_witnessEdge_18 (by decide) (fun c_2 => ?_) (fun c_2 => ?_)
    · skip
      exfalso; omega
    · skip
      refine lv_iconst (v := (-1)) hx hb dX9_witnessEdge_21 (by decide) ?_
      exact kret _ _ _ _ _ _ rfl rfl hP hD hS dX9_witnessEdge_22
set_option maxHeartbeats 400000 in
set_option maxRecDepth 100000 in
theorem c_X9_witnessEdge_ok (l : Launch) (G : zG) (m mt mp mg mc mh ms mu of1 ot1 oi1 ml md mw th ts ps V rm on : Nat) (pv : Int32) (sd : Int64) (f wd g : Nat → Nat) (K : Nat → Nat → Nat → Prop) (x y z : Int32) (hV : V ≤ 8) (hV1 : 1 ≤ V) (hL : zL2 f) (hw8 : ∀ i, wd i < 8) (hg0 : g 0 ≤ 16) (hg8 : ∀ i, 1 ≤ i → g i < 8) (hx : 0 ≤ x.toInt ∧ x.toInt < V) (hy : 0 ≤ y.toInt ∧ y.toInt < V) (hKw : mWk g (mT g 65535) K) (hK0 : mT g 65535 (8 * x.toInt.toNat + y.toInt.toNat) < 1000000 ∧ 0 ≤ z.toInt ∧ z.toInt < mT g 65535 (8 * x.toInt.toNat + y.toInt.toNat) → K (x.toInt.toNat) (y.toInt.toNat) (z.toInt.toNat)) : MI l yX9_witnessEdge wsX9_witnessEdge ({ frames := 3, cells := 0, slots := 0, locals := 76 }) G [.ref m, .int x, .int y, .int z] [(m, .inr (6, [.int (nI th), .ref mt, .int (nI ts), .int (nI ps), .int pv, .ref mp, .int (nI V), .ref mg, .ref mc, .ref mh, .int (nI rm), .ref ms, .ref mu, .int (nI on), .ref of1, .ref ot1, .ref oi1, .long sd, .ref ml, .ref md, .ref mw])), zA G ml 64 f, zA G mw 96 wd, zA G mg 49 g] (mWeA g (mT g 65535) x.toInt.toNat y.toInt.toNat z) [(m, .inr (6, [.int (nI 0), .ref mt, .int (nI ts), .int (nI ps), .int pv, .ref mp, .int (nI V), .ref mg, .ref mc, .ref mh, .int (nI rm), .ref ms, .ref mu, .int (nI on), .ref of1, .ref ot1, .ref oi1, .long sd, .ref ml, .ref md, .ref mw])), zA G ml 64 (mT g 65535), zA G mw 96 (zWd 65535 g wd (g 0)), zA G mg 49 g] := by
  refine MI.enter (cc := cX9_witnessEdge) (maxL := 13) (by decide) rfl (Nat.le_of_ble_eq_true rfl) rfl ?_
  intro pM eM sM mM bM tM cM QM AM ls hat kret
  obtain ⟨SM, hA, hK, hE, hP, hD, hS, hl⟩ := hat
  have hx := SM.1
  have hb := SM.2.1
  have hown : sM.vm.findClass RX9 = some mM.cls := SM.2.2.2.1
  have hts := SM.2.2.2.2
  have hinX9 : ∀ w ∈ u_ws RX9 TX9 21, w ∈ wsX9_witnessEdge := by decide +kernel
  have hlk54 : (Cond.fieldLink RX9 54 "DyckReachabilityModel" "thrown" "I").before _ sM = true := hts _ (by decide +kernel)
  have hlk20 : (Cond.fieldLink RX9 20 "DyckReachabilityModel" "graph" "[I").before _ sM = true := hts _ (by decide +kernel)
  have hlk45 : (Cond.fieldLink RX9 45 "DyckReachabilityModel" "lengths" "[I").before _ sM = true := hts _ (by decide +kernel)
  have hl : lv_has ls 13 [(0, .ref m), (1, .int x), (2, .int y), (3, .int z)] := hl
  refine lv_aload_n hx hb dX9_witnessEdge_0 rfl (lv_at hl 0 rfl) ?_
  refine lv_iconst (v := nI 0) hx hb dX9_witnessEdge_1 (by decide) ?_
  refine va_put (D := G.1) (ci := 6) (v := .int (nI 0)) (ty := .int) (C := RX9) (T := TX9) (N := 21) hx hb hts hinX9 tyX9 tyX9_ok nmX9 hown hK hP hD hS 0 rfl rfl 0 (by decide) hlk54 (fun _ h9 => h9) rfl (by decide +kernel) rfl rfl (Nat.le_of_ble_eq_true rfl) dX9_witnessEdge_2 (fun H locs hP hD hS => ?_)
  have hP : va_P G.1 vwCl [(m, .inr (6, [.int (nI 0), .ref mt, .int (nI ts), .int (nI ps), .int pv, .ref mp, .int (nI V), .ref mg, .ref mc, .ref mh, .int (nI rm), .ref ms, .ref mu, .int (nI on), .ref of1, .ref ot1, .ref oi1, .long sd, .ref ml, .ref md, .ref mw])), zA G ml 64 f, zA G mw 96 wd, zA G mg 49 g] H := hP
  have hD : va_D AM [(m, .inr (6, [.int (nI 0), .ref mt, .int (nI ts), .int (nI ps), .int pv, .ref mp, .int (nI V), .ref mg, .ref mc, .ref mh, .int (nI rm), .ref ms, .ref mu, .int (nI on), .ref of1, .ref ot1, .ref oi1, .long sd, .ref ml, .ref md, .ref mw])), zA G ml 64 f, zA G mw 96 wd, zA G mg 49 g] := hD
  refine lv_aload_n hx hb dX9_witnessEdge_5 rfl (lv_at hl 0 rfl) ?_
  refine lv_iload_n hx hb dX9_witnessEdge_6 rfl (lv_at hl 1 rfl) ?_
  refine zVi (W1 := [(m, .inr (6, [.int (nI 0), .ref mt, .int (nI ts), .int (nI ps), .int pv, .ref mp, .int (nI V), .ref mg, .ref mc, .ref mh, .int (nI rm), .ref ms, .ref mu, .int (nI on), .ref of1, .ref ot1, .ref oi1, .long sd, .ref ml, .ref md, .ref mw])), zA G ml 64 f, zA G mw 96 wd, zA G mg 49 g]) (W2 := [(m, .inr (6, [.int (nI 0), .ref mt, .int (nI ts), .int (nI ps), .int pv, .ref mp, .int (nI V), .ref mg, .ref mc, .ref mh, .int (nI rm), .ref ms, .ref mu, .int (nI on), .ref of1, .ref ot1, .ref oi1, .long sd, .ref ml, .ref md, .ref mw])), zA G ml 64 f, zA G mw 96 wd, zA G mg 49 g]) (wr := [zA G ml 64 f, zA G mw 96 wd, zA G mg 49 g]) (rest := []) SM (c_X9_noVertex l G m mt mp mg mc mh ms mu of1 ot1 oi1 ml md mw 0 ts ps V rm on pv sd x (by omega) (by omega)) (cwV 1 hts gX9_witnessEdge_X9_noVertex rfl rfl rfl (by decide +kernel) ⟨Nat.le_of_ble_eq_true rfl, Nat.le_of_ble_eq_true rfl⟩) hK hE hA hP hD hS hl.1 [0] [1, 2, 3] [3, 0, 1, 2] rfl rfl rfl (by decide) (ci := 6) rfl rfl rfl rfl rfl (Nat.le_of_ble_eq_true rfl) ⟨Nat.zero_le _, Nat.zero_le _⟩ dX9_witnessEdge_7 (fun H locs hP hD hS => ?_)
  refine zb_ne (tgt := 21) hx hb dX9_witnessEdge_10 (by decide) (fun c_1 => ?_) (fun c_1 => ?_)
  · skip
    exfalso; omega
  · skip
    refine lv_aload_n hx hb dX9_witnessEdge_13 rfl (lv_at hl 0 rfl) ?_
    refine lv_iload_n hx hb dX9_witnessEdge_14 rfl (lv_at hl 2 rfl) ?_
    refine zVi (W1 := [(m, .inr (6, [.int (nI 0), .ref mt, .int (nI ts), .int (nI ps), .int pv, .ref mp, .int (nI V), .ref mg, .ref mc, .ref mh, .int (nI rm), .ref ms, .ref mu, .int (nI on), .ref of1, .ref ot1, .ref oi1, .long sd, .ref ml, .ref md, .ref mw])), zA G ml 64 f, zA G mw 96 wd, zA G mg 49 g]) (W2 := [(m, .inr (6, [.int (nI 0), .ref mt, .int (nI ts), .int (nI ps), .int pv, .ref mp, .int (nI V), .ref mg, .ref mc, .ref mh, .int (nI rm), .ref ms, .ref mu, .int (nI on), .ref of1, .ref ot1, .ref oi1, .long sd, .ref ml, .ref md, .ref mw])), zA G ml 64 f, zA G mw 96 wd, zA G mg 49 g]) (wr := [zA G ml 64 f, zA G mw 96 wd, zA G mg 49 g]) (rest := []) SM (c_X9_noVertex l G m mt mp mg mc mh ms mu of1 ot1 oi1 ml md mw 0 ts ps V rm on pv sd y (by omega) (by omega)) (cwV 1 hts gX9_witnessEdge_X9_noVertex rfl rfl rfl (by decide +kernel) ⟨Nat.le_of_ble_eq_true rfl, Nat.le_of_ble_eq_true rfl⟩) hK hE hA hP hD hS hl.1 [0] [1, 2, 3] [3, 0, 1, 2] rfl rfl rfl (by decide) (ci := 6) rfl rfl rfl rfl rfl (Nat.le_of_ble_eq_true rfl) ⟨Nat.zero_le _, Nat.zero_le _⟩ dX9_witnessEdge_15 (fun H locs hP hD hS => ?_)
    refine zb_eq (tgt := 23) hx hb dX9_witnessEdge_18 (by decide) (fun c_2 => ?_) (fun c_2 => ?_)
    · skip
      have hl : lv_has ls 13 [(0, .ref m), (1, .int (nI x.toInt.toNat)), (2, .int (nI y.toInt.toNat)), (3, .int z)] := by rw [← xN_eq (x := x) (by omega), ← xN_eq (x := y) (by omega)]; exact hl
      refine lv_aload_n hx hb dX9_witnessEdge_23 rfl (lv_at hl 0 rfl) ?_
      refine lv_aload_n hx hb dX9_witnessEdge_24 rfl (lv_at hl 0 rfl) ?_
      refine va_get (D := G.1) (ci := 6) (v := .ref mg) (C := RX9) (T := TX9) (N := 21) hx hb hts hinX9 hown hK hP 0 rfl rfl 7 (by decide) hlk20 (fun _ h9 => h9) rfl dX9_witnessEdge_25 ?_
      refine lv_ldc (v := nI 65535) hx hb hown (hts (.constant RX9 140 (65535)) (by decide +kernel)) dX9_witnessEdge_28 ?_
      refine zVv (W1 := [(m, .inr (6, [.int (nI 0), .ref mt, .int (nI ts), .int (nI ps), .int pv, .ref mp, .int (nI V), .ref mg, .ref mc, .ref mh, .int (nI rm), .ref ms, .ref mu, .int (nI on), .ref of1, .ref ot1, .ref oi1, .long sd, .ref ml, .ref md, .ref mw])), zA G ml 64 f, zA G mw 96 wd, zA G mg 49 g]) (W2 := [(m, .inr (6, [.int (nI 0), .ref mt, .int (nI ts), .int (nI ps), .int pv, .ref mp, .int (nI V), .ref mg, .ref mc, .ref mh, .int (nI rm), .ref ms, .ref mu, .int (nI on), .ref of1, .ref ot1, .ref oi1, .long sd, .ref ml, .ref md, .ref mw])), zA G ml 64 (mT g 65535), zA G mw 96 (zWd 65535 g wd (g 0)), zA G mg 49 g]) (wr := []) (rest := []) SM (c_X9_closeOf l G m mt mp mg mc mh ms mu of1 ot1 oi1 ml md mw 0 ts ps V rm on pv sd f wd mg g 65535 hL hw8 (by omega) hg8 (by omega)) (cwV 2 hts gX9_witnessEdge_X9_closeOf rfl rfl rfl (by decide +kernel) ⟨Nat.le_of_ble_eq_true rfl, Nat.le_of_ble_eq_true rfl⟩) hK hE hA hP hD hS hl.1 [0, 1, 2, 3] [] [0, 1, 2, 3] rfl rfl rfl (by decide) (ci := 6) rfl rfl rfl rfl rfl (Nat.le_of_ble_eq_true rfl) ⟨Nat.zero_le _, Nat.zero_le _⟩ dX9_witnessEdge_30 (fun H locs hP hD hS => ?_)
      refine lv_aload_n hx hb dX9_witnessEdge_33 rfl (lv_at hl 0 rfl) ?_
      refine va_get (D := G.1) (ci := 6) (v := .ref ml) (C := RX9) (T := TX9) (N := 21) hx hb hts hinX9 hown hK hP 0 rfl rfl 18 (by decide) hlk45 (fun _ h9 => h9) rfl dX9_witnessEdge_34 ?_
      refine lv_bipush (v := nI 8) hx hb dX9_witnessEdge_37 (by decide) ?_
      refine lv_iload_n hx hb dX9_witnessEdge_39 rfl (lv_at hl 1 rfl) ?_
      refine zi_mul hx hb dX9_witnessEdge_40 ?_
      refine lv_iload_n hx hb dX9_witnessEdge_41 rfl (lv_at hl 2 rfl) ?_
      refine zi_add hx hb dX9_witnessEdge_42 ?_
      refine zi_ald hx hb hK hP 1 rfl (by omega) (by omega) dX9_witnessEdge_43 ?_
      have hb_3 := mT_2 g 65535 ((8 * x.toInt.toNat) + y.toInt.toNat)
      refine lv_istore (lv' := [(4, .int (nI ((mT g 65535) ((8 * x.toInt.toNat) + y.toInt.toNat)))), (0, .ref m), (1, .int (nI x.toInt.toNat)), (2, .int (nI y.toInt.toNat)), (3, .int z)]) hx hb dX9_witnessEdge_44 hl (by decide) rfl (fun ls hl => ?_)
      refine lv_iload hx hb dX9_witnessEdge_46 (lv_at hl 0 rfl) ?_
      refine lv_ldc (v := nI 1000000) hx hb hown (hts (.constant RX9 61 (1000000)) (by decide +kernel)) dX9_witnessEdge_48 ?_
      refine zn_ge (tgt := 63) hx hb dX9_witnessEdge_50 (by decide) (by omega) (by omega) (fun c_4 => ?_) (fun c_4 => ?_)
      · skip
        refine lv_bipush (v := (-9)) hx hb dX9_witnessEdge_63 (by decide) ?_
        exact kret _ _ _ _ _ _ (by unfold mWeA; rw [if_neg (by omega)]) rfl hP hD hS dX9_witnessEdge_65
      · skip
        refine lv_iload_n hx hb dX9_witnessEdge_53 rfl (lv_at hl 4 rfl) ?_
        refine zd_lt (a := (z).toInt) (tgt := 63) hx hb dX9_witnessEdge_54 (by decide) rfl (fun c_5 => ?_) (fun c_5 => ?_)
        · skip
          refine lv_bipush (v := (-9)) hx hb dX9_witnessEdge_63 (by decide) ?_
          exact kret _ _ _ _ _ _ (by unfold mWeA; rw [if_neg (by omega)]) rfl hP hD hS dX9_witnessEdge_65
        · skip
          refine lv_iload_n hx hb dX9_witnessEdge_57 rfl (lv_at hl 4 rfl) ?_
          refine lv_iload hx hb dX9_witnessEdge_58 (lv_at hl 0 rfl) ?_
          refine zc_lt (a := (z).toInt) (b := ((mT g 65535) ((8 * x.toInt.toNat) + y.toInt.toNat) : Nat)) (tgt := 66) hx hb dX9_witnessEdge_60 (by decide) rfl (zI (by omega)) (fun c_6 => ?_) (fun c_6 => ?_)
          · skip
            have hl : lv_has ls 13 [(4, .int (nI ((mT g 65535) ((8 * x.toInt.toNat) + y.toInt.toNat)))), (0, .ref m), (1, .int (nI x.toInt.toNat)), (2, .int (nI y.toInt.toNat)), (3, .int (nI z.toInt.toNat))] := by rw [← xN_eq (x := z) (by omega)]; exact hl
            have hcz : mT g 65535 (8 * x.toInt.toNat + y.toInt.toNat) < 1000000 ∧ 0 ≤ z.toInt ∧ z.toInt < mT g 65535 (8 * x.toInt.toNat + y.toInt.toNat) := by omega
            refine lv_iload_n hx hb dX9_witnessEdge_66 rfl (lv_at hl 2 rfl) ?_
            refine lv_istore (lv' := [(5, .int (nI x.toInt.toNat)), (4, .int (nI ((mT g 65535) ((8 * x.toInt.toNat) + y.toInt.toNat)))), (0, .ref m), (1, .int (nI x.toInt.toNat)), (2, .int (nI y.toInt.toNat)), (3, .int (nI z.toInt.toNat))]) hx hb dX9_witnessEdge_67 hl (by decide) rfl (fun ls hl => ?_)
            refine lv_iload_n hx hb dX9_witnessEdge_69 rfl (lv_at hl 4 rfl) ?_
            refine lv_istore (lv' := [(6, .int (nI y.toInt.toNat)), (5, .int (nI x.toInt.toNat)), (4, .int (nI ((mT g 65535) ((8 * x.toInt.toNat) + y.toInt.toNat)))), (0, .ref m), (1, .int (nI x.toInt.toNat)), (2, .int (nI y.toInt.toNat)), (3, .int (nI z.toInt.toNat))]) hx hb dX9_witnessEdge_70 hl (by decide) rfl (fun ls hl => ?_)
            refine lv_iload_n hx hb dX9_witnessEdge_72 rfl (lv_at hl 6 rfl) ?_
            refine lv_istore (lv' := [(7, .int (nI z.toInt.toNat)), (6, .int (nI y.toInt.toNat)), (5, .int (nI x.toInt.toNat)), (4, .int (nI ((mT g 65535) ((8 * x.toInt.toNat) + y.toInt.toNat)))), (0, .ref m), (1, .int (nI x.toInt.toNat)), (2, .int (nI y.toInt.toNat)), (3, .int (nI z.toInt.toNat))]) hx hb dX9_witnessEdge_73 hl (by decide) rfl (fun ls hl => ?_)
            have lp75 : ∀ (n9 : Nat), ∀ (u v left fu : Nat), (K u v left) → (left < fu) → (mWe g (mT g 65535) (z.toInt.toNat + 1) (x.toInt.toNat) (y.toInt.toNat) (z.toInt.toNat) = mWe g (mT g 65535) fu u v left) → left < n9 → ∀ (H : Heap) (locs : List Loc) (ls : Array Slot), va_P G.1 vwCl [(m, .inr (6, [.int (nI 0), .ref mt, .int (nI ts), .int (nI ps), .int pv, .ref mp, .int (nI V), .ref mg, .ref mc, .ref mh, .int (nI rm), .ref ms, .ref mu, .int (nI on), .ref of1, .ref ot1, .ref oi1, .long sd, .ref ml, .ref md, .ref mw])), zA G ml 64 (mT g 65535), zA G mw 96 (zWd 65535 g wd (g 0)), zA G mg 49 g] H → va_D AM [(m, .inr (6, [.int (nI 0), .ref mt, .int (nI ts), .int (nI ps), .int pv, .ref mp, .int (nI V), .ref mg, .ref mc, .ref mh, .int (nI rm), .ref ms, .ref mu, .int (nI on), .ref of1, .ref ot1, .ref oi1, .long sd, .ref ml, .ref md, .ref mw])), zA G ml 64 (mT g 65535), zA G mw 96 (zWd 65535 g wd (g 0)), zA G mg 49 g] → va_S AM sM.heap H locs → lv_has ls 13 [(0, .ref m), (5, .int (nI u)), (6, .int (nI v)), (7, .int (nI left))] → W pM l eM ({ frames := 3, cells := 0, slots := 0, locals := 76 }) sM mM (([.ref m, .int x, .int y, .int z] : List Value).toArray) bM tM cM H locs 0 0 QM (F0 mM 75 ls []) := by
              intro n9
              induction n9 with
              | zero =>
                intro _ _ _ _ _ _ _ h9
                exact absurd h9 (Nat.not_lt_zero _)
              | succ n9 ih9 =>
                intro u v left fu hk hfu hq hmu75 H locs ls hP hD hS hl
                have ih75 := ih9
                clear ih9
                obtain ⟨⟨hu8, hv8, hll, hex⟩, hka, hkb, hkc⟩ := hKw u v left hk
                refine lv_aload_n hx hb dX9_witnessEdge_75 rfl (lv_at hl 0 rfl) ?_
                refine lv_iload hx hb dX9_witnessEdge_76 (lv_at hl 1 rfl) ?_
                refine lv_iload hx hb dX9_witnessEdge_78 (lv_at hl 2 rfl) ?_
                refine zVi (W1 := [(m, .inr (6, [.int (nI 0), .ref mt, .int (nI ts), .int (nI ps), .int pv, .ref mp, .int (nI V), .ref mg, .ref mc, .ref mh, .int (nI rm), .ref ms, .ref mu, .int (nI on), .ref of1, .ref ot1, .ref oi1, .long sd, .ref ml, .ref md, .ref mw])), zA G ml 64 (mT g 65535), zA G mw 96 (zWd 65535 g wd (g 0)), zA G mg 49 g]) (W2 := [(m, .inr (6, [.int (nI 0), .ref mt, .int (nI ts), .int (nI ps), .int pv, .ref mp, .int (nI V), .ref mg, .ref mc, .ref mh, .int (nI rm), .ref ms, .ref mu, .int (nI on), .ref of1, .ref ot1, .ref oi1, .long sd, .ref ml, .ref md, .ref mw])), zA G ml 64 (mT g 65535), zA G mw 96 (zWd 65535 g wd (g 0)), zA G mg 49 g]) (wr := [zA G mw 96 (zWd 65535 g wd (g 0))]) (rest := []) SM (c_X9_firstStep l G m mt mp mg mc mh ms mu of1 ot1 oi1 ml md mw 0 ts ps V rm on pv sd (mT g 65535) g u v (mT_2 _ _) (by omega) hg8 (by omega) (by omega) hex) (cwV 2 hts gX9_witnessEdge_X9_firstStep rfl rfl rfl (by decide +kernel) ⟨Nat.le_of_ble_eq_true rfl, Nat.le_of_ble_eq_true rfl⟩) hK hE hA hP hD hS hl.1 [0, 1, 3] [2] [1, 2, 0, 3] rfl rfl rfl (by decide) (ci := 6) rfl rfl rfl rfl rfl (Nat.le_of_ble_eq_true rfl) ⟨Nat.zero_le _, Nat.zero_le _⟩ dX9_witnessEdge_80 (fun H locs hP hD hS => ?_)
                refine lv_istore (lv' := [(8, .int (nI (mFs g (mT g 65535) u v))), (0, .ref m), (5, .int (nI u)), (6, .int (nI v)), (7, .int (nI left))]) hx hb dX9_witnessEdge_83 hl (by decide) rfl (fun ls hl => ?_)
                refine lv_iconst (v := nI 1) hx hb dX9_witnessEdge_85 (by decide) ?_
                refine lv_iconst (v := nI 3) hx hb dX9_witnessEdge_86 (by decide) ?_
                refine lv_iload hx hb dX9_witnessEdge_87 (lv_at hl 0 rfl) ?_
                refine lv_bipush (v := nI 16) hx hb dX9_witnessEdge_89 (by decide) ?_
                refine zi_div hx hb dX9_witnessEdge_91 (by omega) (by omega) (by omega) ?_
                refine zi_mul hx hb dX9_witnessEdge_92 ?_
                refine zi_addk (n := 1 + (3 * ((mFs g (mT g 65535) u v) / 16))) hx hb dX9_witnessEdge_93 (by omega) ?_
                refine lv_istore (lv' := [(9, .int (nI (1 + (3 * ((mFs g (mT g 65535) u v) / 16))))), (8, .int (nI (mFs g (mT g 65535) u v))), (0, .ref m), (5, .int (nI u)), (6, .int (nI v)), (7, .int (nI left))]) hx hb dX9_witnessEdge_94 hl (by decide) rfl (fun ls hl => ?_)
                refine lv_iconst (v := nI 1) hx hb dX9_witnessEdge_96 (by decide) ?_
                refine lv_iconst (v := nI 3) hx hb dX9_witnessEdge_97 (by decide) ?_
                refine lv_iload hx hb dX9_witnessEdge_98 (lv_at hl 1 rfl) ?_
                refine lv_bipush (v := nI 16) hx hb dX9_witnessEdge_100 (by decide) ?_
                refine zi_rem hx hb dX9_witnessEdge_102 (by omega) (by omega) (by omega) ?_
                refine zi_mul hx hb dX9_witnessEdge_103 ?_
                refine zi_addk (n := 1 + (3 * ((mFs g (mT g 65535) u v) % 16))) hx hb dX9_witnessEdge_104 (by omega) ?_
                refine lv_istore (lv' := [(10, .int (nI (1 + (3 * ((mFs g (mT g 65535) u v) % 16))))), (9, .int (nI (1 + (3 * ((mFs g (mT g 65535) u v) / 16))))), (8, .int (nI (mFs g (mT g 65535) u v))), (0, .ref m), (5, .int (nI u)), (6, .int (nI v)), (7, .int (nI left))]) hx hb dX9_witnessEdge_105 hl (by decide) rfl (fun ls hl => ?_)
                refine lv_iload hx hb dX9_witnessEdge_107 (lv_at hl 6 rfl) ?_
                refine zd_ne (a := (left : Nat)) (tgt := 118) hx hb dX9_witnessEdge_109 (by decide) (zI (by omega)) (fun c_7 => ?_) (fun c_7 => ?_)
                · skip
                  have hl0 : ¬ left = 0 := by omega
                  refine lv_iinc (v := nI (left - 1)) (lv' := [(7, .int (nI (left - 1))), (10, .int (nI (1 + (3 * ((mFs g (mT g 65535) u v) % 16))))), (9, .int (nI (1 + (3 * ((mFs g (mT g 65535) u v) / 16))))), (8, .int (nI (mFs g (mT g 65535) u v))), (0, .ref m), (5, .int (nI u)), (6, .int (nI v))]) hx hb dX9_witnessEdge_118 hl (k := 6) rfl (zdec (by omega)) (by decide) rfl (fun ls hl => ?_)
                  refine lv_aload_n hx hb dX9_witnessEdge_121 rfl (lv_at hl 4 rfl) ?_
                  refine va_get (D := G.1) (ci := 6) (v := .ref mg) (C := RX9) (T := TX9) (N := 21) hx hb hts hinX9 hown hK hP 0 rfl rfl 7 (by decide) hlk20 (fun _ h9 => h9) rfl dX9_witnessEdge_122 ?_
                  refine lv_iload hx hb dX9_witnessEdge_125 (lv_at hl 2 rfl) ?_
                  refine lv_iconst (v := nI 2) hx hb dX9_witnessEdge_127 (by decide) ?_
                  refine zi_addk (n := (1 + (3 * ((mFs g (mT g 65535) u v) / 16))) + 2) hx hb dX9_witnessEdge_128 (by omega) ?_
                  refine zi_ald hx hb hK hP 3 rfl (by omega) (by omega) dX9_witnessEdge_129 ?_
                  have hb_8 := hg8 ((1 + (3 * ((mFs g (mT g 65535) u v) / 16))) + 2) (by omega)
                  refine zd_ne (a := (g ((1 + (3 * ((mFs g (mT g 65535) u v) / 16))) + 2) : Nat)) (tgt := 147) hx hb dX9_witnessEdge_130 (by decide) (zI (by omega)) (fun c_9 => ?_) (fun c_9 => ?_)
                  · skip
                    have hlab : ¬ g (1 + 3 * (mFs g (mT g 65535) u v / 16) + 2) = 0 := by omega
                    refine lv_aload_n hx hb dX9_witnessEdge_147 rfl (lv_at hl 4 rfl) ?_
                    refine va_get (D := G.1) (ci := 6) (v := .ref ml) (C := RX9) (T := TX9) (N := 21) hx hb hts hinX9 hown hK hP 0 rfl rfl 18 (by decide) hlk45 (fun _ h9 => h9) rfl dX9_witnessEdge_148 ?_
                    refine lv_bipush (v := nI 8) hx hb dX9_witnessEdge_151 (by decide) ?_
                    refine lv_aload_n hx hb dX9_witnessEdge_153 rfl (lv_at hl 4 rfl) ?_
                    refine va_get (D := G.1) (ci := 6) (v := .ref mg) (C := RX9) (T := TX9) (N := 21) hx hb hts hinX9 hown hK hP 0 rfl rfl 7 (by decide) hlk20 (fun _ h9 => h9) rfl dX9_witnessEdge_154 ?_
                    refine lv_iload hx hb dX9_witnessEdge_157 (lv_at hl 2 rfl) ?_
                    refine lv_iconst (v := nI 1) hx hb dX9_witnessEdge_159 (by decide) ?_
                    refine zi_addk (n := (1 + (3 * ((mFs g (mT g 65535) u v) / 16))) + 1) hx hb dX9_witnessEdge_160 (by omega) ?_
                    refine zi_ald hx hb hK hP 3 rfl (by omega) (by omega) dX9_witnessEdge_161 ?_
                    have hb_10 := hg8 ((1 + (3 * ((mFs g (mT g 65535) u v) / 16))) + 1) (by omega)
                    refine zi_mul hx hb dX9_witnessEdge_162 ?_
                    refine lv_aload_n hx hb dX9_witnessEdge_163 rfl (lv_at hl 4 rfl) ?_
                    refine va_get (D := G.1) (ci := 6) (v := .ref mg) (C := RX9) (T := TX9) (N := 21) hx hb hts hinX9 hown hK hP 0 rfl rfl 7 (by decide) hlk20 (fun _ h9 => h9) rfl dX9_witnessEdge_164 ?_
                    refine lv_iload hx hb dX9_witnessEdge_167 (lv_at hl 1 rfl) ?_
                    refine zi_ald hx hb hK hP 3 rfl (by omega) (by omega) dX9_witnessEdge_169 ?_
                    have hb_11 := hg8 (1 + (3 * ((mFs g (mT g 65535) u v) % 16))) (by omega)
                    refine zi_add hx hb dX9_witnessEdge_170 ?_
                    refine zi_ald hx hb hK hP 1 rfl (by omega) (by omega) dX9_witnessEdge_171 ?_
                    have hb_12 := mT_2 g 65535 ((8 * (g ((1 + (3 * ((mFs g (mT g 65535) u v) / 16))) + 1))) + (g (1 + (3 * ((mFs g (mT g 65535) u v) % 16)))))
                    refine lv_istore (lv' := [(11, .int (nI ((mT g 65535) ((8 * (g ((1 + (3 * ((mFs g (mT g 65535) u v) / 16))) + 1))) + (g (1 + (3 * ((mFs g (mT g 65535) u v) % 16)))))))), (7, .int (nI (left - 1))), (10, .int (nI (1 + (3 * ((mFs g (mT g 65535) u v) % 16))))), (9, .int (nI (1 + (3 * ((mFs g (mT g 65535) u v) / 16))))), (8, .int (nI (mFs g (mT g 65535) u v))), (0, .ref m), (5, .int (nI u)), (6, .int (nI v))]) hx hb dX9_witnessEdge_172 hl (by decide) rfl (fun ls hl => ?_)
                    refine lv_iload hx hb dX9_witnessEdge_174 (lv_at hl 1 rfl) ?_
                    refine lv_iload hx hb dX9_witnessEdge_176 (lv_at hl 0 rfl) ?_
                    refine zn_ne (tgt := 187) hx hb dX9_witnessEdge_178 (by decide) (by omega) (by omega) (fun c_13 => ?_) (fun c_13 => ?_)
                    · skip
                      have hne : ¬ left - 1 = mT g 65535 (8 * g (1 + 3 * (mFs g (mT g 65535) u v / 16) + 1) + g (1 + 3 * (mFs g (mT g 65535) u v % 16))) := by omega
                      refine lv_iload hx hb dX9_witnessEdge_187 (lv_at hl 1 rfl) ?_
                      refine lv_iload hx hb dX9_witnessEdge_189 (lv_at hl 0 rfl) ?_
                      refine zn_ge (tgt := 198) hx hb dX9_witnessEdge_191 (by decide) (by omega) (by omega) (fun c_14 => ?_) (fun c_14 => ?_)
                      · skip
                        refine lv_iconst (v := nI 0) hx hb dX9_witnessEdge_198 (by decide) ?_
                        refine lv_istore (lv' := [(12, .int (nI 0)), (11, .int (nI ((mT g 65535) ((8 * (g ((1 + (3 * ((mFs g (mT g 65535) u v) / 16))) + 1))) + (g (1 + (3 * ((mFs g (mT g 65535) u v) % 16)))))))), (7, .int (nI (left - 1))), (10, .int (nI (1 + (3 * ((mFs g (mT g 65535) u v) % 16))))), (9, .int (nI (1 + (3 * ((mFs g (mT g 65535) u v) / 16))))), (8, .int (nI (mFs g (mT g 65535) u v))), (0, .ref m), (5, .int (nI u)), (6, .int (nI v))]) hx hb dX9_witnessEdge_199 hl (by decide) rfl (fun ls hl => ?_)
                        refine lv_iload hx hb dX9_witnessEdge_201 (lv_at hl 0 rfl) ?_
                        refine zk_eq_t (tgt := 218) hx hb dX9_witnessEdge_203 (by decide) (by decide) ?_
                        refine lv_aload_n hx hb dX9_witnessEdge_218 rfl (lv_at hl 6 rfl) ?_
                        refine va_get (D := G.1) (ci := 6) (v := .ref mg) (C := RX9) (T := TX9) (N := 21) hx hb hts hinX9 hown hK hP 0 rfl rfl 7 (by decide) hlk20 (fun _ h9 => h9) rfl dX9_witnessEdge_219 ?_
                        refine lv_iload hx hb dX9_witnessEdge_222 (lv_at hl 3 rfl) ?_
                        refine lv_iconst (v := nI 1) hx hb dX9_witnessEdge_224 (by decide) ?_
                        refine zi_addk (n := (1 + (3 * ((mFs g (mT g 65535) u v) % 16))) + 1) hx hb dX9_witnessEdge_225 (by omega) ?_
                        refine zi_ald hx hb hK hP 3 rfl (by omega) (by omega) dX9_witnessEdge_226 ?_
                        have hb_16 := hg8 ((1 + (3 * ((mFs g (mT g 65535) u v) % 16))) + 1) (by omega)
                        refine lv_istore (lv' := [(5, .int (nI (g ((1 + (3 * ((mFs g (mT g 65535) u v) % 16))) + 1)))), (12, .int (nI 0)), (11, .int (nI ((mT g 65535) ((8 * (g ((1 + (3 * ((mFs g (mT g 65535) u v) / 16))) + 1))) + (g (1 + (3 * ((mFs g (mT g 65535) u v) % 16)))))))), (7, .int (nI (left - 1))), (10, .int (nI (1 + (3 * ((mFs g (mT g 65535) u v) % 16))))), (9, .int (nI (1 + (3 * ((mFs g (mT g 65535) u v) / 16))))), (8, .int (nI (mFs g (mT g 65535) u v))), (0, .ref m), (6, .int (nI v))]) hx hb dX9_witnessEdge_227 hl (by decide) rfl (fun ls hl => ?_)
                        refine lv_iload hx hb dX9_witnessEdge_229 (lv_at hl 1 rfl) ?_
                        refine zk_eq_t (tgt := 244) hx hb dX9_witnessEdge_231 (by decide) (by decide) ?_
                        refine lv_iload hx hb dX9_witnessEdge_244 (lv_at hl 8 rfl) ?_
                        refine lv_istore (lv' := [(6, .int (nI v)), (5, .int (nI (g ((1 + (3 * ((mFs g (mT g 65535) u v) % 16))) + 1)))), (12, .int (nI 0)), (11, .int (nI ((mT g 65535) ((8 * (g ((1 + (3 * ((mFs g (mT g 65535) u v) / 16))) + 1))) + (g (1 + (3 * ((mFs g (mT g 65535) u v) % 16)))))))), (7, .int (nI (left - 1))), (10, .int (nI (1 + (3 * ((mFs g (mT g 65535) u v) % 16))))), (9, .int (nI (1 + (3 * ((mFs g (mT g 65535) u v) / 16))))), (8, .int (nI (mFs g (mT g 65535) u v))), (0, .ref m)]) hx hb dX9_witnessEdge_246 hl (by decide) rfl (fun ls hl => ?_)
                        refine lv_iload hx hb dX9_witnessEdge_248 (lv_at hl 4 rfl) ?_
                        refine lv_iload hx hb dX9_witnessEdge_250 (lv_at hl 2 rfl) ?_
                        refine zk_eq_t (tgt := 259) hx hb dX9_witnessEdge_252 (by decide) (by decide) ?_
                        refine lv_iload hx hb dX9_witnessEdge_259 (lv_at hl 3 rfl) ?_
                        refine lv_iconst (v := nI 1) hx hb dX9_witnessEdge_261 (by decide) ?_
                        refine zi_addk (n := ((mT g 65535) ((8 * (g ((1 + (3 * ((mFs g (mT g 65535) u v) / 16))) + 1))) + (g (1 + (3 * ((mFs g (mT g 65535) u v) % 16)))))) + 1) hx hb dX9_witnessEdge_262 (by omega) ?_
                        refine zi_sub hx hb dX9_witnessEdge_263 (by omega) ?_
                        refine lv_istore (lv' := [(7, .int (nI ((left - 1) - (((mT g 65535) ((8 * (g ((1 + (3 * ((mFs g (mT g 65535) u v) / 16))) + 1))) + (g (1 + (3 * ((mFs g (mT g 65535) u v) % 16)))))) + 1)))), (6, .int (nI v)), (5, .int (nI (g ((1 + (3 * ((mFs g (mT g 65535) u v) % 16))) + 1)))), (12, .int (nI 0)), (11, .int (nI ((mT g 65535) ((8 * (g ((1 + (3 * ((mFs g (mT g 65535) u v) / 16))) + 1))) + (g (1 + (3 * ((mFs g (mT g 65535) u v) % 16)))))))), (10, .int (nI (1 + (3 * ((mFs g (mT g 65535) u v) % 16))))), (9, .int (nI (1 + (3 * ((mFs g (mT g 65535) u v) / 16))))), (8, .int (nI (mFs g (mT g 65535) u v))), (0, .ref m)]) hx hb dX9_witnessEdge_264 hl (by decide) rfl (fun ls hl => ?_)
                        refine lv_goto (tgt := 75) hx hb dX9_witnessEdge_266 (by decide) ?_
                        exact ih75 (g ((1 + (3 * ((mFs g (mT g 65535) u v) % 16))) + 1)) v ((left - 1) - (((mT g 65535) ((8 * (g ((1 + (3 * ((mFs g (mT g 65535) u v) / 16))) + 1))) + (g (1 + (3 * ((mFs g (mT g 65535) u v) % 16)))))) + 1)) (fu - 1) (by first | exact hka hl0 hlab | exact hkb hl0 hlab (by omega) | exact hkc hl0 hlab (by omega)) (by omega) (by rw [hq, mWe_u (g := g) (T := mT g 65535) (fu := fu) (u := u) (v := v) (left := left) (by omega)]; first | rw [if_neg hl0, if_pos hlab] | rw [if_neg hl0, if_neg hlab, if_neg hne, if_pos (by omega), Nat.sub_zero] | rw [if_neg hl0, if_neg hlab, if_neg hne, if_neg (by omega)]) (by omega) _ _ _ hP hD hS (lv_sub hl [8, 2, 1, 0] rfl)
                      · skip
                        refine lv_iconst (v := nI 1) hx hb dX9_witnessEdge_194 (by decide) ?_
                        refine lv_goto (tgt := 199) hx hb dX9_witnessEdge_195 (by decide) ?_
                        refine lv_istore (lv' := [(12, .int (nI 1)), (11, .int (nI ((mT g 65535) ((8 * (g ((1 + (3 * ((mFs g (mT g 65535) u v) / 16))) + 1))) + (g (1 + (3 * ((mFs g (mT g 65535) u v) % 16)))))))), (7, .int (nI (left - 1))), (10, .int (nI (1 + (3 * ((mFs g (mT g 65535) u v) % 16))))), (9, .int (nI (1 + (3 * ((mFs g (mT g 65535) u v) / 16))))), (8, .int (nI (mFs g (mT g 65535) u v))), (0, .ref m), (5, .int (nI u)), (6, .int (nI v))]) hx hb dX9_witnessEdge_199 hl (by decide) rfl (fun ls hl => ?_)
                        refine lv_iload hx hb dX9_witnessEdge_201 (lv_at hl 0 rfl) ?_
                        refine zk_eq_f hx hb dX9_witnessEdge_203 (by decide) ?_
                        refine lv_aload_n hx hb dX9_witnessEdge_206 rfl (lv_at hl 6 rfl) ?_
                        refine va_get (D := G.1) (ci := 6) (v := .ref mg) (C := RX9) (T := TX9) (N := 21) hx hb hts hinX9 hown hK hP 0 rfl rfl 7 (by decide) hlk20 (fun _ h9 => h9) rfl dX9_witnessEdge_207 ?_
                        refine lv_iload hx hb dX9_witnessEdge_210 (lv_at hl 4 rfl) ?_
                        refine lv_iconst (v := nI 1) hx hb dX9_witnessEdge_212 (by decide) ?_
                        refine zi_addk (n := (1 + (3 * ((mFs g (mT g 65535) u v) / 16))) + 1) hx hb dX9_witnessEdge_213 (by omega) ?_
                        refine zi_ald hx hb hK hP 3 rfl (by omega) (by omega) dX9_witnessEdge_214 ?_
                        have hb_20 := hg8 ((1 + (3 * ((mFs g (mT g 65535) u v) / 16))) + 1) (by omega)
                        refine lv_goto (tgt := 227) hx hb dX9_witnessEdge_215 (by decide) ?_
                        refine lv_istore (lv' := [(5, .int (nI (g ((1 + (3 * ((mFs g (mT g 65535) u v) / 16))) + 1)))), (12, .int (nI 1)), (11, .int (nI ((mT g 65535) ((8 * (g ((1 + (3 * ((mFs g (mT g 65535) u v) / 16))) + 1))) + (g (1 + (3 * ((mFs g (mT g 65535) u v) % 16)))))))), (7, .int (nI (left - 1))), (10, .int (nI (1 + (3 * ((mFs g (mT g 65535) u v) % 16))))), (9, .int (nI (1 + (3 * ((mFs g (mT g 65535) u v) / 16))))), (8, .int (nI (mFs g (mT g 65535) u v))), (0, .ref m), (6, .int (nI v))]) hx hb dX9_witnessEdge_227 hl (by decide) rfl (fun ls hl => ?_)
                        refine lv_iload hx hb dX9_witnessEdge_229 (lv_at hl 1 rfl) ?_
                        refine zk_eq_f hx hb dX9_witnessEdge_231 (by decide) ?_
                        refine lv_aload_n hx hb dX9_witnessEdge_234 rfl (lv_at hl 7 rfl) ?_
                        refine va_get (D := G.1) (ci := 6) (v := .ref mg) (C := RX9) (T := TX9) (N := 21) hx hb hts hinX9 hown hK hP 0 rfl rfl 7 (by decide) hlk20 (fun _ h9 => h9) rfl dX9_witnessEdge_235 ?_
                        refine lv_iload hx hb dX9_witnessEdge_238 (lv_at hl 4 rfl) ?_
                        refine zi_ald hx hb hK hP 3 rfl (by omega) (by omega) dX9_witnessEdge_240 ?_
                        have hb_22 := hg8 (1 + (3 * ((mFs g (mT g 65535) u v) % 16))) (by omega)
                        refine lv_goto (tgt := 246) hx hb dX9_witnessEdge_241 (by decide) ?_
                        refine lv_istore (lv' := [(6, .int (nI (g (1 + (3 * ((mFs g (mT g 65535) u v) % 16)))))), (5, .int (nI (g ((1 + (3 * ((mFs g (mT g 65535) u v) / 16))) + 1)))), (12, .int (nI 1)), (11, .int (nI ((mT g 65535) ((8 * (g ((1 + (3 * ((mFs g (mT g 65535) u v) / 16))) + 1))) + (g (1 + (3 * ((mFs g (mT g 65535) u v) % 16)))))))), (7, .int (nI (left - 1))), (10, .int (nI (1 + (3 * ((mFs g (mT g 65535) u v) % 16))))), (9, .int (nI (1 + (3 * ((mFs g (mT g 65535) u v) / 16))))), (8, .int (nI (mFs g (mT g 65535) u v))), (0, .ref m)]) hx hb dX9_witnessEdge_246 hl (by decide) rfl (fun ls hl => ?_)
                        refine lv_iload hx hb dX9_witnessEdge_248 (lv_at hl 4 rfl) ?_
                        refine lv_iload hx hb dX9_witnessEdge_250 (lv_at hl 2 rfl) ?_
                        refine zk_eq_f hx hb dX9_witnessEdge_252 (by decide) ?_
                        refine lv_iconst (v := nI 0) hx hb dX9_witnessEdge_255 (by decide) ?_
                        refine lv_goto (tgt := 263) hx hb dX9_witnessEdge_256 (by decide) ?_
                        refine zi_sub hx hb dX9_witnessEdge_263 (by omega) ?_
                        refine lv_istore (lv' := [(7, .int (nI ((left - 1) - 0))), (6, .int (nI (g (1 + (3 * ((mFs g (mT g 65535) u v) % 16)))))), (5, .int (nI (g ((1 + (3 * ((mFs g (mT g 65535) u v) / 16))) + 1)))), (12, .int (nI 1)), (11, .int (nI ((mT g 65535) ((8 * (g ((1 + (3 * ((mFs g (mT g 65535) u v) / 16))) + 1))) + (g (1 + (3 * ((mFs g (mT g 65535) u v) % 16)))))))), (10, .int (nI (1 + (3 * ((mFs g (mT g 65535) u v) % 16))))), (9, .int (nI (1 + (3 * ((mFs g (mT g 65535) u v) / 16))))), (8, .int (nI (mFs g (mT g 65535) u v))), (0, .ref m)]) hx hb dX9_witnessEdge_264 hl (by decide) rfl (fun ls hl => ?_)
                        refine lv_goto (tgt := 75) hx hb dX9_witnessEdge_266 (by decide) ?_
                        exact ih75 (g ((1 + (3 * ((mFs g (mT g 65535) u v) / 16))) + 1)) (g (1 + (3 * ((mFs g (mT g 65535) u v) % 16)))) ((left - 1) - 0) (fu - 1) (by first | exact hka hl0 hlab | exact hkb hl0 hlab (by omega) | exact hkc hl0 hlab (by omega)) (by omega) (by rw [hq, mWe_u (g := g) (T := mT g 65535) (fu := fu) (u := u) (v := v) (left := left) (by omega)]; first | rw [if_neg hl0, if_pos hlab] | rw [if_neg hl0, if_neg hlab, if_neg hne, if_pos (by omega), Nat.sub_zero] | rw [if_neg hl0, if_neg hlab, if_neg hne, if_neg (by omega)]) (by omega) _ _ _ hP hD hS (lv_sub hl [8, 2, 1, 0] rfl)
                    · skip
                      have heq : left - 1 = mT g 65535 (8 * g (1 + 3 * (mFs g (mT g 65535) u v / 16) + 1) + g (1 + 3 * (mFs g (mT g 65535) u v % 16))) := by omega
                      refine lv_iload hx hb dX9_witnessEdge_181 (lv_at hl 4 rfl) ?_
                      refine lv_bipush (v := nI 16) hx hb dX9_witnessEdge_183 (by decide) ?_
                      refine zi_rem hx hb dX9_witnessEdge_185 (by omega) (by omega) (by omega) ?_
                      exact kret _ _ _ _ _ _ (by unfold mWeA; rw [if_pos hcz, hq, mWe_u (g := g) (T := mT g 65535) (fu := fu) (u := u) (v := v) (left := left) (by omega), if_neg hl0, if_neg hlab, if_pos heq]) rfl hP hD hS dX9_witnessEdge_186
                  · skip
                    have hlab : g (1 + 3 * (mFs g (mT g 65535) u v / 16) + 2) = 0 := by omega
                    refine lv_aload_n hx hb dX9_witnessEdge_133 rfl (lv_at hl 4 rfl) ?_
                    refine va_get (D := G.1) (ci := 6) (v := .ref mg) (C := RX9) (T := TX9) (N := 21) hx hb hts hinX9 hown hK hP 0 rfl rfl 7 (by decide) hlk20 (fun _ h9 => h9) rfl dX9_witnessEdge_134 ?_
                    refine lv_iload hx hb dX9_witnessEdge_137 (lv_at hl 2 rfl) ?_
                    refine lv_iconst (v := nI 1) hx hb dX9_witnessEdge_139 (by decide) ?_
                    refine zi_addk (n := (1 + (3 * ((mFs g (mT g 65535) u v) / 16))) + 1) hx hb dX9_witnessEdge_140 (by omega) ?_
                    refine zi_ald hx hb hK hP 3 rfl (by omega) (by omega) dX9_witnessEdge_141 ?_
                    have hb_24 := hg8 ((1 + (3 * ((mFs g (mT g 65535) u v) / 16))) + 1) (by omega)
                    refine lv_istore (lv' := [(5, .int (nI (g ((1 + (3 * ((mFs g (mT g 65535) u v) / 16))) + 1)))), (7, .int (nI (left - 1))), (10, .int (nI (1 + (3 * ((mFs g (mT g 65535) u v) % 16))))), (9, .int (nI (1 + (3 * ((mFs g (mT g 65535) u v) / 16))))), (8, .int (nI (mFs g (mT g 65535) u v))), (0, .ref m), (6, .int (nI v))]) hx hb dX9_witnessEdge_142 hl (by decide) rfl (fun ls hl => ?_)
                    refine lv_goto (tgt := 266) hx hb dX9_witnessEdge_144 (by decide) ?_
                    refine lv_goto (tgt := 75) hx hb dX9_witnessEdge_266 (by decide) ?_
                    exact ih75 (g ((1 + (3 * ((mFs g (mT g 65535) u v) / 16))) + 1)) v (left - 1) (fu - 1) (by first | exact hka hl0 hlab | exact hkb hl0 hlab (by omega) | exact hkc hl0 hlab (by omega)) (by omega) (by rw [hq, mWe_u (g := g) (T := mT g 65535) (fu := fu) (u := u) (v := v) (left := left) (by omega)]; first | rw [if_neg hl0, if_pos hlab] | rw [if_neg hl0, if_neg hlab, if_neg hne, if_pos (by omega), Nat.sub_zero] | rw [if_neg hl0, if_neg hlab, if_neg hne, if_neg (by omega)]) (by omega) _ _ _ hP hD hS (lv_sub hl [5, 0, 6, 1] rfl)
                · skip
                  have hl0 : left = 0 := by omega
                  refine lv_iload hx hb dX9_witnessEdge_112 (lv_at hl 2 rfl) ?_
                  refine lv_bipush (v := nI 16) hx hb dX9_witnessEdge_114 (by decide) ?_
                  refine zi_div hx hb dX9_witnessEdge_116 (by omega) (by omega) (by omega) ?_
                  exact kret _ _ _ _ _ _ (by unfold mWeA; rw [if_pos hcz, hq, mWe_u (g := g) (T := mT g 65535) (fu := fu) (u := u) (v := v) (left := left) (by omega), if_pos hl0]) rfl hP hD hS dX9_witnessEdge_117
            exact lp75 (z.toInt.toNat + 1) x.toInt.toNat y.toInt.toNat z.toInt.toNat (z.toInt.toNat + 1) (hK0 hcz) (Nat.lt_succ_self _) rfl (Nat.lt_succ_self _) _ _ _ hP hD hS (lv_sub hl [4, 2, 1, 0] rfl)
          · skip
            refine lv_bipush (v := (-9)) hx hb dX9_witnessEdge_63 (by decide) ?_
            exact kret _ _ _ _ _ _ (by unfold mWeA; rw [if_neg (by omega)]) rfl hP hD hS dX9_witnessEdge_65
    · skip
      exfalso; omega
