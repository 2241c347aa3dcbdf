set_option maxHeartbeats 400000 in
set_option maxRecDepth 100000 in
theorem c_X9_lossOf (l : Launch) (G : zG) (m mt mp mg mc mh ms mu of1 ot1 oi1 ml md mw th ts ps V rm on : Nat) (pv : Int32) (sd : Int64) (f wd g : Nat → Nat) (j : Nat) (hV : V ≤ 8) (hV1 : 1 ≤ V) (hL : zL2 f) (hw8 : ∀ i, wd i < 8) (hg0 : g 0 ≤ 16) (hg8 : ∀ i, 1 ≤ i → g i < 8) (hj : j < 16) : MX ((Nat → Nat) × (Nat → Nat)) l yX9_lossOf wsX9_lossOf ({ frames := 4, cells := 0, slots := 0, locals := 98 }) G [.ref m, .int (nI j)] [(m, .inr (6, [.int (nI th), .ref mt, .int (nI ts), .int (nI ps), .int pv, .ref mp, .int (nI V), .ref mg, .ref mc, .ref mh, .int (nI rm), .ref ms, .ref mu, .int (nI on), .ref of1, .ref ot1, .ref oi1, .long sd, .ref ml, .ref md, .ref mw])), zA G ml 64 f, zA G mw 96 wd, zA G mg 49 g] (mLo V g j) (fun u : (Nat → Nat) × (Nat → Nat) => [(m, .inr (6, [.int (nI th), .ref mt, .int (nI ts), .int (nI ps), .int pv, .ref mp, .int (nI V), .ref mg, .ref mc, .ref mh, .int (nI rm), .ref ms, .ref mu, .int (nI on), .ref of1, .ref ot1, .ref oi1, .long sd, .ref ml, .ref md, .ref mw])), zA G ml 64 u.1, zA G mw 96 u.2, zA G mg 49 g]) (fun u : (Nat → Nat) × (Nat → Nat) => zL2 u.1 ∧ ∀ i, u.2 i < 8) := by
  refine MX.enter (cc := cX9_lossOf) (maxL := 2) (by decide) rfl (Nat.le_of_ble_eq_true rfl) ?_
  intro pM eM sM mM bM tM cM QM AM ls hat kret
  obtain ⟨SM, hA, hK, hE, hP, hD, hS, hl⟩ := hat
  have hx := SM.1
  have hb := SM.2.1
  have hown : sM.vm.findClass RX9 = some mM.cls := SM.2.2.2.1
  have hts := SM.2.2.2.2
  have hinX9 : ∀ w ∈ u_ws RX9 TX9 21, w ∈ wsX9_lossOf := by decide +kernel
  have hlk20 : (Cond.fieldLink RX9 20 "DyckReachabilityModel" "graph" "[I").before _ sM = true := hts _ (by decide +kernel)
  have hl : lv_has ls 2 [(0, .ref m), (1, .int (nI j))] := hl
  refine lv_aload_n hx hb dX9_lossOf_0 rfl (lv_at hl 0 rfl) ?_
  refine lv_aload_n hx hb dX9_lossOf_1 rfl (lv_at hl 0 rfl) ?_
  refine va_get (D := G.1) (ci := 6) (v := .ref mg) (C := RX9) (T := TX9) (N := 21) hx hb hts hinX9 hown hK hP 0 rfl rfl 7 (by decide) hlk20 (fun _ h9 => h9) rfl dX9_lossOf_2 ?_
  refine lv_ldc (v := nI 65535) hx hb hown (hts (.constant RX9 140 (65535)) (by decide +kernel)) dX9_lossOf_5 ?_
  refine zVi (W1 := [(m, .inr (6, [.int (nI th), .ref mt, .int (nI ts), .int (nI ps), .int pv, .ref mp, .int (nI V), .ref mg, .ref mc, .ref mh, .int (nI rm), .ref ms, .ref mu, .int (nI on), .ref of1, .ref ot1, .ref oi1, .long sd, .ref ml, .ref md, .ref mw])), zA G ml 64 f, zA G mw 96 wd, zA G mg 49 g]) (W2 := [(m, .inr (6, [.int (nI th), .ref mt, .int (nI ts), .int (nI ps), .int pv, .ref mp, .int (nI V), .ref mg, .ref mc, .ref mh, .int (nI rm), .ref ms, .ref mu, .int (nI on), .ref of1, .ref ot1, .ref oi1, .long sd, .ref ml, .ref md, .ref mw])), zA G ml 64 (mT g 65535), zA G mw 96 (zWd 65535 g wd (g 0)), zA G mg 49 g]) (wr := []) (rest := []) SM (c_X9_pairsOf l G m mt mp mg mc mh ms mu of1 ot1 oi1 ml md mw th ts ps V rm on pv sd f wd mg g 65535 (by omega) hL hw8 (by omega) hg8 (by omega)) (cwV 2 hts gX9_lossOf_X9_pairsOf rfl rfl rfl (by decide +kernel) ⟨Nat.le_of_ble_eq_true rfl, Nat.le_of_ble_eq_true rfl⟩) hK hE hA hP hD hS hl.1 [0, 1, 2, 3] [] [0, 1, 2, 3] rfl rfl rfl (by decide) (ci := 6) rfl rfl rfl rfl rfl (Nat.le_of_ble_eq_true rfl) ⟨Nat.zero_le _, Nat.zero_le _⟩ dX9_lossOf_7 (fun H locs hP hD hS => ?_)
  refine lv_aload_n hx hb dX9_lossOf_10 rfl (lv_at hl 0 rfl) ?_
  refine lv_aload_n hx hb dX9_lossOf_11 rfl (lv_at hl 0 rfl) ?_
  refine va_get (D := G.1) (ci := 6) (v := .ref mg) (C := RX9) (T := TX9) (N := 21) hx hb hts hinX9 hown hK hP 0 rfl rfl 7 (by decide) hlk20 (fun _ h9 => h9) rfl dX9_lossOf_12 ?_
  refine lv_ldc (v := nI 65535) hx hb hown (hts (.constant RX9 140 (65535)) (by decide +kernel)) dX9_lossOf_15 ?_
  refine lv_iconst (v := nI 1) hx hb dX9_lossOf_17 (by decide) ?_
  refine lv_iload_n hx hb dX9_lossOf_18 rfl (lv_at hl 1 rfl) ?_
  have h2j := m2p16 j hj
  refine zi_shl1 hx hb dX9_lossOf_19 (by omega) ?_
  refine lv_iconst (v := (-1)) hx hb dX9_lossOf_20 (by decide) ?_
  refine lv_ixor hx hb dX9_lossOf_21 ?_
  refine lv_iand hx hb dX9_lossOf_22 ?_
  refine zti (y := nI (65535 - 2 ^ j)) (mMask j hj) ?_
  refine zVi (W1 := [(m, .inr (6, [.int (nI th), .ref mt, .int (nI ts), .int (nI ps), .int pv, .ref mp, .int (nI V), .ref mg, .ref mc, .ref mh, .int (nI rm), .ref ms, .ref mu, .int (nI on), .ref of1, .ref ot1, .ref oi1, .long sd, .ref ml, .ref md, .ref mw])), zA G ml 64 (mT g 65535), zA G mw 96 (zWd 65535 g wd (g 0)), zA G mg 49 g]) (W2 := [(m, .inr (6, [.int (nI th), .ref mt, .int (nI ts), .int (nI ps), .int pv, .ref mp, .int (nI V), .ref mg, .ref mc, .ref mh, .int (nI rm), .ref ms, .ref mu, .int (nI on), .ref of1, .ref ot1, .ref oi1, .long sd, .ref ml, .ref md, .ref mw])), zA G ml 64 (mT g (65535 - 2 ^ j)), zA G mw 96 (zWd (65535 - 2 ^ j) g (zWd 65535 g wd (g 0)) (g 0)), zA G mg 49 g]) (wr := []) (rest := [.int (nI (mPr V g 65535))]) SM (c_X9_pairsOf l G m mt mp mg mc mh ms mu of1 ot1 oi1 ml md mw th ts ps V rm on pv sd (mT g 65535) (zWd 65535 g wd (g 0)) mg g (65535 - 2 ^ j) (by omega) (mT_2 _ _) (zWd_8 hw8 hg8 _) (by omega) hg8 (Nat.lt_of_le_of_lt (Nat.sub_le _ _) (by decide))) (cwV 2 hts gX9_lossOf_X9_pairsOf rfl rfl rfl (by decide +kernel) ⟨Nat.le_of_ble_eq_true rfl, Nat.le_of_ble_eq_true rfl⟩) hK hE hA hP hD hS hl.1 [0, 1, 2, 3] [] [0, 1, 2, 3] rfl rfl rfl (by decide) (ci := 6) rfl rfl rfl rfl rfl (Nat.le_of_ble_eq_true rfl) ⟨Nat.zero_le _, Nat.zero_le _⟩ dX9_lossOf_23 (fun H locs hP hD hS => ?_)
  refine lv_isub hx hb dX9_lossOf_26 ?_
  exact kret _ _ _ _ _ _ (mT g (65535 - 2 ^ j), zWd (65535 - 2 ^ j) g (zWd 65535 g wd (g 0)) (g 0)) (mLo_def V g j).symm ⟨mT_2 _ _, zWd_8 (zWd_8 hw8 hg8 _) hg8 _⟩ rfl hP hD hS dX9_lossOf_27
set_option maxHeartbeats 400000 in
set_option maxRecDepth 100000 in
theorem c_X9_loss_bad (l : Launch) (G : zG) (m mt mp mg mc mh ms mu of1 ot1 oi1 ml md mw th ts ps V rm on : Nat) (pv : Int32) (sd : Int64) (g : Nat → Nat) (x : Int32) (hg0 : g 0 ≤ 16) (hb0 : ¬ (0 ≤ x.toInt ∧ x.toInt < g 0)) : MI l yX9_loss wsX9_loss ({ frames := 2, cells := 0, slots := 0, locals := 46 }) G [.ref m, .int x] [(m, .inr (6, [.int (nI th), .ref mt, .int (nI ts), .int (nI ps), .int pv, .ref mp, .int (nI V), .ref mg, .ref mc, .ref mh, .int (nI rm), .ref ms, .ref mu, .int (nI on), .ref of1, .ref ot1, .ref oi1, .long sd, .ref ml, .ref md, .ref mw])), zA G mg 49 g] (-1) [(m, .inr (6, [.int (nI 0), .ref mt, .int (nI ts), .int (nI ps), .int pv, .ref mp, .int (nI V), .ref mg, .ref mc, .ref mh, .int (nI rm), .ref ms, .ref mu, .int (nI on), .ref of1, .ref ot1, .ref oi1, .long sd, .ref ml, .ref md, .ref mw])), zA G mg 49 g] := by
  refine MI.enter (cc := cX9_loss) (maxL := 2) (by decide) rfl (Nat.le_of_ble_eq_true rfl) rfl ?_
  intro pM eM sM mM bM tM cM QM AM ls hat kret
  obtain ⟨SM, hA, hK, hE, hP, hD, hS, hl⟩ := hat
  have hx := SM.1
  have hb := SM.2.1
  have hown : sM.vm.findClass RX9 = some mM.cls := SM.2.2.2.1
  have hts := SM.2.2.2.2
  have hinX9 : ∀ w ∈ u_ws RX9 TX9 21, w ∈ wsX9_loss := by decide +kernel
  have hlk54 : (Cond.fieldLink RX9 54 "DyckReachabilityModel" "thrown" "I").before _ sM = true := hts _ (by decide +kernel)
  have hl : lv_has ls 2 [(0, .ref m), (1, .int x)] := hl
  refine lv_aload_n hx hb dX9_loss_0 rfl (lv_at hl 0 rfl) ?_
  refine lv_iconst (v := nI 0) hx hb dX9_loss_1 (by decide) ?_
  refine va_put (D := G.1) (ci := 6) (v := .int (nI 0)) (ty := .int) (C := RX9) (T := TX9) (N := 21) hx hb hts hinX9 tyX9 tyX9_ok nmX9 hown hK hP hD hS 0 rfl rfl 0 (by decide) hlk54 (fun _ h9 => h9) rfl (by decide +kernel) rfl rfl (Nat.le_of_ble_eq_true rfl) dX9_loss_2 (fun H locs hP hD hS => ?_)
  have hP : va_P G.1 vwCl [(m, .inr (6, [.int (nI 0), .ref mt, .int (nI ts), .int (nI ps), .int pv, .ref mp, .int (nI V), .ref mg, .ref mc, .ref mh, .int (nI rm), .ref ms, .ref mu, .int (nI on), .ref of1, .ref ot1, .ref oi1, .long sd, .ref ml, .ref md, .ref mw])), zA G mg 49 g] H := hP
  have hD : va_D AM [(m, .inr (6, [.int (nI 0), .ref mt, .int (nI ts), .int (nI ps), .int pv, .ref mp, .int (nI V), .ref mg, .ref mc, .ref mh, .int (nI rm), .ref ms, .ref mu, .int (nI on), .ref of1, .ref ot1, .ref oi1, .long sd, .ref ml, .ref md, .ref mw])), zA G mg 49 g] := hD
  refine lv_aload_n hx hb dX9_loss_5 rfl (lv_at hl 0 rfl) ?_
  refine lv_iload_n hx hb dX9_loss_6 rfl (lv_at hl 1 rfl) ?_
  refine zVi (W1 := [(m, .inr (6, [.int (nI 0), .ref mt, .int (nI ts), .int (nI ps), .int pv, .ref mp, .int (nI V), .ref mg, .ref mc, .ref mh, .int (nI rm), .ref ms, .ref mu, .int (nI on), .ref of1, .ref ot1, .ref oi1, .long sd, .ref ml, .ref md, .ref mw])), zA G mg 49 g]) (W2 := [(m, .inr (6, [.int (nI 0), .ref mt, .int (nI ts), .int (nI ps), .int pv, .ref mp, .int (nI V), .ref mg, .ref mc, .ref mh, .int (nI rm), .ref ms, .ref mu, .int (nI on), .ref of1, .ref ot1, .ref oi1, .long sd, .ref ml, .ref md, .ref mw])), zA G mg 49 g]) (wr := []) (rest := []) SM (c_X9_noEdge l G m mt mp mg mc mh ms mu of1 ot1 oi1 ml md mw 0 ts ps V rm on pv sd g x (by first | assumption | omega)) (cwV 1 hts gX9_loss_X9_noEdge rfl rfl rfl (by decide +kernel) ⟨Nat.le_of_ble_eq_true rfl, Nat.le_of_ble_eq_true rfl⟩) hK hE hA hP hD hS hl.1 [0, 1] [] [0, 1] rfl rfl rfl (by decide) (ci := 6) rfl rfl rfl rfl rfl (Nat.le_of_ble_eq_true rfl) ⟨Nat.zero_le _, Nat.zero_le _⟩ dX9_loss_7 (fun H locs hP hD hS => ?_)
  refine zb_eq (tgt := 17) hx hb dX9_loss_10 (by decide) (fun c_1 => ?_) (fun c_1 => ?_)
  · skip
    exfalso; omega
  · skip
    refine lv_iconst (v := (-1)) hx hb dX9_loss_13 (by decide) ?_
    refine lv_goto (tgt := 22) hx hb dX9_loss_14 (by decide) ?_
    exact kret _ _ _ _ _ _ rfl rfl hP hD hS dX9_loss_22
set_option maxHeartbeats 400000 in
set_option maxRecDepth 100000 in
theorem c_X9_loss_ok (l : Launch) (G : zG) (m mt mp mg mc mh ms mu of1 ot1 oi1 ml md mw th ts ps V rm on : Nat) (pv : Int32) (sd : Int64) (f wd g : Nat → Nat) (x : Int32) (hV : V ≤ 8) (hV1 : 1 ≤ V) (hL : zL2 f) (hw8 : ∀ i, wd i < 8) (hg0 : g 0 ≤ 16) (hg8 : ∀ i, 1 ≤ i → g i < 8) (hx : 0 ≤ x.toInt ∧ x.toInt < g 0) : MX ((Nat → Nat) × (Nat → Nat)) l yX9_loss wsX9_loss ({ frames := 5, cells := 0, slots := 0, locals := 119 }) G [.ref m, .int x] [(m, .inr (6, [.int (nI th), .ref mt, .int (nI ts), .int (nI ps), .int pv, .ref mp, .int (nI V), .ref mg, .ref mc, .ref mh, .int (nI rm), .ref ms, .ref mu, .int (nI on), .ref of1, .ref ot1, .ref oi1, .long sd, .ref ml, .ref md, .ref mw])), zA G ml 64 f, zA G mw 96 wd, zA G mg 49 g] (mLo V g x.toInt.toNat) (fun u : (Nat → Nat) × (Nat → Nat) => [(m, .inr (6, [.int (nI 0), .ref mt, .int (nI ts), .int (nI ps), .int pv, .ref mp, .int (nI V), .ref mg, .ref mc, .ref mh, .int (nI rm), .ref ms, .ref mu, .int (nI on), .ref of1, .ref ot1, .ref oi1, .long sd, .ref ml, .ref md, .ref mw])), zA G ml 64 u.1, zA G mw 96 u.2, zA G mg 49 g]) (fun u : (Nat → Nat) × (Nat → Nat) => zL2 u.1 ∧ ∀ i, u.2 i < 8) := by
  refine MX.enter (cc := cX9_loss) (maxL := 2) (by decide) rfl (Nat.le_of_ble_eq_true rfl) ?_
  intro pM eM sM mM bM tM cM QM AM ls hat kret
  obtain ⟨SM, hA, hK, hE, hP, hD, hS, hl⟩ := hat
  have hx := SM.1
  have hb := SM.2.1
  have hown : sM.vm.findClass RX9 = some mM.cls := SM.2.2.2.1
  have hts := SM.2.2.2.2
  have hinX9 : ∀ w ∈ u_ws RX9 TX9 21, w ∈ wsX9_loss := by decide +kernel
  have hlk54 : (Cond.fieldLink RX9 54 "DyckReachabilityModel" "thrown" "I").before _ sM = true := hts _ (by decide +kernel)
  have hl : lv_has ls 2 [(0, .ref m), (1, .int x)] := hl
  refine lv_aload_n hx hb dX9_loss_0 rfl (lv_at hl 0 rfl) ?_
  refine lv_iconst (v := nI 0) hx hb dX9_loss_1 (by decide) ?_
  refine va_put (D := G.1) (ci := 6) (v := .int (nI 0)) (ty := .int) (C := RX9) (T := TX9) (N := 21) hx hb hts hinX9 tyX9 tyX9_ok nmX9 hown hK hP hD hS 0 rfl rfl 0 (by decide) hlk54 (fun _ h9 => h9) rfl (by decide +kernel) rfl rfl (Nat.le_of_ble_eq_true rfl) dX9_loss_2 (fun H locs hP hD hS => ?_)
  have hP : va_P G.1 vwCl [(m, .inr (6, [.int (nI 0), .ref mt, .int (nI ts), .int (nI ps), .int pv, .ref mp, .int (nI V), .ref mg, .ref mc, .ref mh, .int (nI rm), .ref ms, .ref mu, .int (nI on), .ref of1, .ref ot1, .ref oi1, .long sd, .ref ml, .ref md, .ref mw])), zA G ml 64 f, zA G mw 96 wd, zA G mg 49 g] H := hP
  have hD : va_D AM [(m, .inr (6, [.int (nI 0), .ref mt, .int (nI ts), .int (nI ps), .int pv, .ref mp, .int (nI V), .ref mg, .ref mc, .ref mh, .int (nI rm), .ref ms, .ref mu, .int (nI on), .ref of1, .ref ot1, .ref oi1, .long sd, .ref ml, .ref md, .ref mw])), zA G ml 64 f, zA G mw 96 wd, zA G mg 49 g] := hD
  refine lv_aload_n hx hb dX9_loss_5 rfl (lv_at hl 0 rfl) ?_
  refine lv_iload_n hx hb dX9_loss_6 rfl (lv_at hl 1 rfl) ?_
  refine zVi (W1 := [(m, .inr (6, [.int (nI 0), .ref mt, .int (nI ts), .int (nI ps), .int pv, .ref mp, .int (nI V), .ref mg, .ref mc, .ref mh, .int (nI rm), .ref ms, .ref mu, .int (nI on), .ref of1, .ref ot1, .ref oi1, .long sd, .ref ml, .ref md, .ref mw])), zA G ml 64 f, zA G mw 96 wd, zA G mg 49 g]) (W2 := [(m, .inr (6, [.int (nI 0), .ref mt, .int (nI ts), .int (nI ps), .int pv, .ref mp, .int (nI V), .ref mg, .ref mc, .ref mh, .int (nI rm), .ref ms, .ref mu, .int (nI on), .ref of1, .ref ot1, .ref oi1, .long sd, .ref ml, .ref md, .ref mw])), zA G ml 64 f, zA G mw 96 wd, zA G mg 49 g]) (wr := [zA G ml 64 f, zA G mw 96 wd]) (rest := []) SM (c_X9_noEdge l G m mt mp mg mc mh ms mu of1 ot1 oi1 ml md mw 0 ts ps V rm on pv sd g x (by omega)) (cwV 1 hts gX9_loss_X9_noEdge rfl rfl rfl (by decide +kernel) ⟨Nat.le_of_ble_eq_true rfl, Nat.le_of_ble_eq_true rfl⟩) hK hE hA hP hD hS hl.1 [0, 3] [1, 2] [2, 0, 1, 3] rfl rfl rfl (by decide) (ci := 6) rfl rfl rfl rfl rfl (Nat.le_of_ble_eq_true rfl) ⟨Nat.zero_le _, Nat.zero_le _⟩ dX9_loss_7 (fun H locs hP hD hS => ?_)
  refine zb_eq (tgt := 17) hx hb dX9_loss_10 (by decide) (fun c_1 => ?_) (fun c_1 => ?_)
  · skip
    have hl : lv_has ls 2 [(0, .ref m), (1, .int (nI x.toInt.toNat))] := by rw [← xN_eq (x := x) (by omega)]; exact hl
    refine lv_aload_n hx hb dX9_loss_17 rfl (lv_at hl 0 rfl) ?_
    refine lv_iload_n hx hb dX9_loss_18 rfl (lv_at hl 1 rfl) ?_
    refine zVx (S := (Nat → Nat) × (Nat → Nat)) (W1 := [(m, .inr (6, [.int (nI 0), .ref mt, .int (nI ts), .int (nI ps), .int pv, .ref mp, .int (nI V), .ref mg, .ref mc, .ref mh, .int (nI rm), .ref ms, .ref mu, .int (nI on), .ref of1, .ref ot1, .ref oi1, .long sd, .ref ml, .ref md, .ref mw])), zA G ml 64 f, zA G mw 96 wd, zA G mg 49 g]) (W2 := fun u => [(m, .inr (6, [.int (nI 0), .ref mt, .int (nI ts), .int (nI ps), .int pv, .ref mp, .int (nI V), .ref mg, .ref mc, .ref mh, .int (nI rm), .ref ms, .ref mu, .int (nI on), .ref of1, .ref ot1, .ref oi1, .long sd, .ref ml, .ref md, .ref mw])), zA G ml 64 u.1, zA G mw 96 u.2, zA G mg 49 g]) (wr := []) (rest := []) SM (c_X9_lossOf l G m mt mp mg mc mh ms mu of1 ot1 oi1 ml md mw 0 ts ps V rm on pv sd f wd g x.toInt.toNat (by omega) (by omega) hL hw8 (by omega) hg8 (by omega)) (cwV 1 hts gX9_loss_X9_lossOf rfl rfl rfl (by decide +kernel) ⟨Nat.le_of_ble_eq_true rfl, Nat.le_of_ble_eq_true rfl⟩) hK hE hA hP hD hS hl.1 [0, 1, 2, 3] [] [0, 1, 2, 3] rfl rfl (fun _ => rfl) (by decide) (ci := 6) rfl rfl rfl rfl rfl (Nat.le_of_ble_eq_true rfl) ⟨Nat.zero_le _, Nat.zero_le _⟩ dX9_loss_19 (fun H locs u_2 hok_3 hP hD hS => ?_)
    have hP : va_P G.1 vwCl [(m, .inr (6, [.int (nI 0), .ref mt, .int (nI ts), .int (nI ps), .int pv, .ref mp, .int (nI V), .ref mg, .ref mc, .ref mh, .int (nI rm), .ref ms, .ref mu, .int (nI on), .ref of1, .ref ot1, .ref oi1, .long sd, .ref ml, .ref md, .ref mw])), zA G ml 64 u_2.1, zA G mw 96 u_2.2, zA G mg 49 g] H := hP
    have hD : va_D AM [(m, .inr (6, [.int (nI 0), .ref mt, .int (nI ts), .int (nI ps), .int pv, .ref mp, .int (nI V), .ref mg, .ref mc, .ref mh, .int (nI rm), .ref ms, .ref mu, .int (nI on), .ref of1, .ref ot1, .ref oi1, .long sd, .ref ml, .ref md, .ref mw])), zA G ml 64 u_2.1, zA G mw 96 u_2.2, zA G mg 49 g] := hD
    have hok_3 : zL2 u_2.1 ∧ ∀ i, u_2.2 i < 8 := hok_3
    have hokk := hok_3
    exact kret _ _ _ _ _ _ (u_2.1, u_2.2) rfl hokk rfl hP hD hS dX9_loss_22
  · skip
    exfalso; omega
set_option maxHeartbeats 400000 in
set_option maxRecDepth 100000 in
theorem c_X9_criticalEdge (l : Launch) (G : zG) (m mt mp mg mc mh ms mu of1 ot1 oi1 ml md mw th ts ps V rm on : Nat) (pv : Int32) (sd : Int64) (f wd g : Nat → Nat) (hV : V ≤ 8) (hV1 : 1 ≤ V) (hL : zL2 f) (hw8 : ∀ i, wd i < 8) (hg0 : g 0 ≤ 16) (hg8 : ∀ i, 1 ≤ i → g i < 8) : MX ((Nat → Nat) × (Nat → Nat)) l yX9_criticalEdge wsX9_criticalEdge ({ frames := 5, cells := 0, slots := 0, locals := 119 }) G [.ref m] [(m, .inr (6, [.int (nI th), .ref mt, .int (nI ts), .int (nI ps), .int pv, .ref mp, .int (nI V), .ref mg, .ref mc, .ref mh, .int (nI rm), .ref ms, .ref mu, .int (nI on), .ref of1, .ref ot1, .ref oi1, .long sd, .ref ml, .ref md, .ref mw])), zA G ml 64 f, zA G mw 96 wd, zA G mg 49 g] (mCr V g) (fun u : (Nat → Nat) × (Nat → Nat) => [(m, .inr (6, [.int (nI 0), .ref mt, .int (nI ts), .int (nI ps), .int pv, .ref mp, .int (nI V), .ref mg, .ref mc, .ref mh, .int (nI rm), .ref ms, .ref mu, .int (nI on), .ref of1, .ref ot1, .ref oi1, .long sd, .ref ml, .ref md, .ref mw])), zA G ml 64 u.1, zA G mw 96 u.2, zA G mg 49 g]) (fun u : (Nat → Nat) × (Nat → Nat) => zL2 u.1 ∧ ∀ i, u.2 i < 8) := by
  refine MX.enter (cc := cX9_criticalEdge) (maxL := 5) (by decide) rfl (Nat.le_of_ble_eq_true rfl) ?_
  intro pM eM sM mM bM tM cM QM AM ls hat kret
  obtain ⟨SM, hA, hK, hE, hP, hD, hS, hl⟩ := hat
  have hx := SM.1
  have hb := SM.2.1
  have hown : sM.vm.findClass RX9 = some mM.cls := SM.2.2.2.1
  have hts := SM.2.2.2.2
  have hinX9 : ∀ w ∈ u_ws RX9 TX9 21, w ∈ wsX9_criticalEdge := by decide +kernel
  have hlk54 : (Cond.fieldLink RX9 54 "DyckReachabilityModel" "thrown" "I").before _ sM = true := hts _ (by decide +kernel)
  have hlk20 : (Cond.fieldLink RX9 20 "DyckReachabilityModel" "graph" "[I").before _ sM = true := hts _ (by decide +kernel)
  have hl : lv_has ls 5 [(0, .ref m)] := hl
  refine lv_aload_n hx hb dX9_criticalEdge_0 rfl (lv_at hl 0 rfl) ?_
  refine lv_iconst (v := nI 0) hx hb dX9_criticalEdge_1 (by decide) ?_
  refine va_put (D := G.1) (ci := 6) (v := .int (nI 0)) (ty := .int) (C := RX9) (T := TX9) (N := 21) hx hb hts hinX9 tyX9 tyX9_ok nmX9 hown hK hP hD hS 0 rfl rfl 0 (by decide) hlk54 (fun _ h9 => h9) rfl (by decide +kernel) rfl rfl (Nat.le_of_ble_eq_true rfl) dX9_criticalEdge_2 (fun H locs hP hD hS => ?_)
  have hP : va_P G.1 vwCl [(m, .inr (6, [.int (nI 0), .ref mt, .int (nI ts), .int (nI ps), .int pv, .ref mp, .int (nI V), .ref mg, .ref mc, .ref mh, .int (nI rm), .ref ms, .ref mu, .int (nI on), .ref of1, .ref ot1, .ref oi1, .long sd, .ref ml, .ref md, .ref mw])), zA G ml 64 f, zA G mw 96 wd, zA G mg 49 g] H := hP
  have hD : va_D AM [(m, .inr (6, [.int (nI 0), .ref mt, .int (nI ts), .int (nI ps), .int pv, .ref mp, .int (nI V), .ref mg, .ref mc, .ref mh, .int (nI rm), .ref ms, .ref mu, .int (nI on), .ref of1, .ref ot1, .ref oi1, .long sd, .ref ml, .ref md, .ref mw])), zA G ml 64 f, zA G mw 96 wd, zA G mg 49 g] := hD
  refine lv_bipush (v := (-9)) hx hb dX9_criticalEdge_5 (by decide) ?_
  refine lv_istore_n (lv' := [(1, .int (-9)), (0, .ref m)]) hx hb dX9_criticalEdge_7 rfl hl (by decide) rfl (fun ls hl => ?_)
  refine lv_iconst (v := (-1)) hx hb dX9_criticalEdge_8 (by decide) ?_
  refine lv_istore_n (lv' := [(2, .int (-1)), (1, .int (-9)), (0, .ref m)]) hx hb dX9_criticalEdge_9 rfl hl (by decide) rfl (fun ls hl => ?_)
  refine lv_iconst (v := nI 0) hx hb dX9_criticalEdge_10 (by decide) ?_
  refine lv_istore_n (lv' := [(3, .int (nI 0)), (2, .int (-1)), (1, .int (-9)), (0, .ref m)]) hx hb dX9_criticalEdge_11 rfl hl (by decide) rfl (fun ls hl => ?_)
  have lp12 : ∀ (n9 : Nat), ∀ (j : Nat) (a b : Int32) (fl wl : Nat → Nat), (j ≤ g 0) → ((a, b) = zIt (mCrF V g) j ((-9), (-1))) → (zL2 fl) → (∀ i, wl i < 8) → (g 0 - j) < n9 → ∀ (H : Heap) (locs : List Loc) (ls : Array Slot), va_P G.1 vwCl [(m, .inr (6, [.int (nI 0), .ref mt, .int (nI ts), .int (nI ps), .int pv, .ref mp, .int (nI V), .ref mg, .ref mc, .ref mh, .int (nI rm), .ref ms, .ref mu, .int (nI on), .ref of1, .ref ot1, .ref oi1, .long sd, .ref ml, .ref md, .ref mw])), zA G ml 64 fl, zA G mw 96 wl, zA G mg 49 g] H → va_D AM [(m, .inr (6, [.int (nI 0), .ref mt, .int (nI ts), .int (nI ps), .int pv, .ref mp, .int (nI V), .ref mg, .ref mc, .ref mh, .int (nI rm), .ref ms, .ref mu, .int (nI on), .ref of1, .ref ot1, .ref oi1, .long sd, .ref ml, .ref md, .ref mw])), zA G ml 64 fl, zA G mw 96 wl, zA G mg 49 g] → va_S AM sM.heap H locs → lv_has ls 5 [(0, .ref m), (1, .int a), (2, .int b), (3, .int (nI j))] → W pM l eM ({ frames := 5, cells := 0, slots := 0, locals := 119 }) sM mM (([.ref m] : List Value).toArray) bM tM cM H locs 0 0 QM (F0 mM 12 ls []) := by
    intro n9
    induction n9 with
    | zero =>
      intro _ _ _ _ _ _ _ _ _ h9
      exact absurd h9 (Nat.not_lt_zero _)
    | succ n9 ih9 =>
      intro j a b fl wl h1 hq hfl hwl hmu12 H locs ls hP hD hS hl
      have ih12 := ih9
      clear ih9
      refine lv_iload_n hx hb dX9_criticalEdge_12 rfl (lv_at hl 3 rfl) ?_
      refine lv_aload_n hx hb dX9_criticalEdge_13 rfl (lv_at hl 0 rfl) ?_
      refine va_get (D := G.1) (ci := 6) (v := .ref mg) (C := RX9) (T := TX9) (N := 21) hx hb hts hinX9 hown hK hP 0 rfl rfl 7 (by decide) hlk20 (fun _ h9 => h9) rfl dX9_criticalEdge_14 ?_
      refine lv_iconst (v := nI 0) hx hb dX9_criticalEdge_17 (by decide) ?_
      refine zi_ald hx hb hK hP 3 rfl (by omega) (by omega) dX9_criticalEdge_18 ?_
      refine zn_ge (tgt := 60) hx hb dX9_criticalEdge_19 (by decide) (by omega) (by omega) (fun c_1 => ?_) (fun c_1 => ?_)
      · skip
        refine lv_iload_n hx hb dX9_criticalEdge_60 rfl (lv_at hl 1 rfl) ?_
        exact kret _ _ _ _ _ _ (fl, wl) (by have hq9 : j = g 0 := (by omega); unfold mCr; rw [← hq9, ← hq]) ⟨hfl, hwl⟩ rfl hP hD hS dX9_criticalEdge_61
      · skip
        refine lv_aload_n hx hb dX9_criticalEdge_22 rfl (lv_at hl 0 rfl) ?_
        refine lv_iload_n hx hb dX9_criticalEdge_23 rfl (lv_at hl 3 rfl) ?_
        refine zVx (S := (Nat → Nat) × (Nat → Nat)) (W1 := [(m, .inr (6, [.int (nI 0), .ref mt, .int (nI ts), .int (nI ps), .int pv, .ref mp, .int (nI V), .ref mg, .ref mc, .ref mh, .int (nI rm), .ref ms, .ref mu, .int (nI on), .ref of1, .ref ot1, .ref oi1, .long sd, .ref ml, .ref md, .ref mw])), zA G ml 64 fl, zA G mw 96 wl, zA G mg 49 g]) (W2 := fun u => [(m, .inr (6, [.int (nI 0), .ref mt, .int (nI ts), .int (nI ps), .int pv, .ref mp, .int (nI V), .ref mg, .ref mc, .ref mh, .int (nI rm), .ref ms, .ref mu, .int (nI on), .ref of1, .ref ot1, .ref oi1, .long sd, .ref ml, .ref md, .ref mw])), zA G ml 64 u.1, zA G mw 96 u.2, zA G mg 49 g]) (wr := []) (rest := []) SM (c_X9_lossOf l G m mt mp mg mc mh ms mu of1 ot1 oi1 ml md mw 0 ts ps V rm on pv sd fl wl g j (by omega) (by omega) hfl hwl (by omega) hg8 (by omega)) (cwV 1 hts gX9_criticalEdge_X9_lossOf rfl rfl rfl (by decide +kernel) ⟨Nat.le_of_ble_eq_true rfl, Nat.le_of_ble_eq_true rfl⟩) hK hE hA hP hD hS hl.1 [0, 1, 2, 3] [] [0, 1, 2, 3] rfl rfl (fun _ => rfl) (by decide) (ci := 6) rfl rfl rfl rfl rfl (Nat.le_of_ble_eq_true rfl) ⟨Nat.zero_le _, Nat.zero_le _⟩ dX9_criticalEdge_24 (fun H locs u_2 hok_3 hP hD hS => ?_)
        have hP : va_P G.1 vwCl [(m, .inr (6, [.int (nI 0), .ref mt, .int (nI ts), .int (nI ps), .int pv, .ref mp, .int (nI V), .ref mg, .ref mc, .ref mh, .int (nI rm), .ref ms, .ref mu, .int (nI on), .ref of1, .ref ot1, .ref oi1, .long sd, .ref ml, .ref md, .ref mw])), zA G ml 64 u_2.1, zA G mw 96 u_2.2, zA G mg 49 g] H := hP
        have hD : va_D AM [(m, .inr (6, [.int (nI 0), .ref mt, .int (nI ts), .int (nI ps), .int pv, .ref mp, .int (nI V), .ref mg, .ref mc, .ref mh, .int (nI rm), .ref ms, .ref mu, .int (nI on), .ref of1, .ref ot1, .ref oi1, .long sd, .ref ml, .ref md, .ref mw])), zA G ml 64 u_2.1, zA G mw 96 u_2.2, zA G mg 49 g] := hD
        have hok_3 : zL2 u_2.1 ∧ ∀ i, u_2.2 i < 8 := hok_3
        have hokk := hok_3
        refine lv_istore (lv' := [(4, .int (mLo V g j)), (0, .ref m), (1, .int a), (2, .int b), (3, .int (nI j))]) hx hb dX9_criticalEdge_27 hl (by decide) rfl (fun ls hl => ?_)
        refine lv_iload hx hb dX9_criticalEdge_29 (lv_at hl 0 rfl) ?_
        refine lv_iload_n hx hb dX9_criticalEdge_31 rfl (lv_at hl 3 rfl) ?_
        refine zc_le (a := (mLo V g j).toInt) (b := (b).toInt) (tgt := 39) hx hb dX9_criticalEdge_32 (by decide) rfl rfl (fun c_4 => ?_) (fun c_4 => ?_)
        · skip
          refine lv_iload_n hx hb dX9_criticalEdge_39 rfl (lv_at hl 2 rfl) ?_
          refine lv_istore_n (lv' := [(1, .int a), (4, .int (mLo V g j)), (0, .ref m), (2, .int b), (3, .int (nI j))]) hx hb dX9_criticalEdge_40 rfl hl (by decide) rfl (fun ls hl => ?_)
          refine lv_iload hx hb dX9_criticalEdge_41 (lv_at hl 1 rfl) ?_
          refine lv_iload_n hx hb dX9_criticalEdge_43 rfl (lv_at hl 3 rfl) ?_
          refine zc_le (a := (mLo V g j).toInt) (b := (b).toInt) (tgt := 52) hx hb dX9_criticalEdge_44 (by decide) rfl rfl (fun c_5 => ?_) (fun c_5 => ?_)
          · skip
            refine lv_iload_n hx hb dX9_criticalEdge_52 rfl (lv_at hl 3 rfl) ?_
            refine lv_istore_n (lv' := [(2, .int b), (1, .int a), (4, .int (mLo V g j)), (0, .ref m), (3, .int (nI j))]) hx hb dX9_criticalEdge_53 rfl hl (by decide) rfl (fun ls hl => ?_)
            refine lv_iinc (v := nI (j + 1)) (lv' := [(3, .int (nI (j + 1))), (2, .int b), (1, .int a), (4, .int (mLo V g j)), (0, .ref m)]) hx hb dX9_criticalEdge_54 hl (k := 4) rfl (zinc j 1) (by decide) rfl (fun ls hl => ?_)
            refine lv_goto (tgt := 12) hx hb dX9_criticalEdge_57 (by decide) ?_
            exact ih12 (j + 1) a b u_2.1 u_2.2 (by omega) (by rw [zIt_s, ← hq]; unfold mCrF; dsimp only; first | rw [if_pos (by omega)] | rw [if_neg (by omega)]) hokk.1 hokk.2 (by omega) _ _ _ hP hD hS (lv_sub hl [4, 2, 1, 0] rfl)
          · skip
            exfalso; omega
        · skip
          refine lv_iload_n hx hb dX9_criticalEdge_35 rfl (lv_at hl 4 rfl) ?_
          refine lv_goto (tgt := 40) hx hb dX9_criticalEdge_36 (by decide) ?_
          refine lv_istore_n (lv' := [(1, .int (nI j)), (4, .int (mLo V g j)), (0, .ref m), (2, .int b), (3, .int (nI j))]) hx hb dX9_criticalEdge_40 rfl hl (by decide) rfl (fun ls hl => ?_)
          refine lv_iload hx hb dX9_criticalEdge_41 (lv_at hl 1 rfl) ?_
          refine lv_iload_n hx hb dX9_criticalEdge_43 rfl (lv_at hl 3 rfl) ?_
          refine zc_le (a := (mLo V g j).toInt) (b := (b).toInt) (tgt := 52) hx hb dX9_criticalEdge_44 (by decide) rfl rfl (fun c_6 => ?_) (fun c_6 => ?_)
          · skip
            exfalso; omega
          · skip
            refine lv_iload hx hb dX9_criticalEdge_47 (lv_at hl 1 rfl) ?_
            refine lv_goto (tgt := 53) hx hb dX9_criticalEdge_49 (by decide) ?_
            refine lv_istore_n (lv' := [(2, .int (mLo V g j)), (1, .int (nI j)), (4, .int (mLo V g j)), (0, .ref m), (3, .int (nI j))]) hx hb dX9_criticalEdge_53 rfl hl (by decide) rfl (fun ls hl => ?_)
            refine lv_iinc (v := nI (j + 1)) (lv' := [(3, .int (nI (j + 1))), (2, .int (mLo V g j)), (1, .int (nI j)), (4, .int (mLo V g j)), (0, .ref m)]) hx hb dX9_criticalEdge_54 hl (k := 4) rfl (zinc j 1) (by decide) rfl (fun ls hl => ?_)
            refine lv_goto (tgt := 12) hx hb dX9_criticalEdge_57 (by decide) ?_
            exact ih12 (j + 1) (nI j) (mLo V g j) u_2.1 u_2.2 (by omega) (by rw [zIt_s, ← hq]; unfold mCrF; dsimp only; first | rw [if_pos (by omega)] | rw [if_neg (by omega)]) hokk.1 hokk.2 (by omega) _ _ _ hP hD hS (lv_sub hl [4, 2, 1, 0] rfl)
  exact lp12 (g 0 - 0 + 1) 0 (-9) (-1) f wd (by omega) rfl hL hw8 (Nat.lt_succ_self _) _ _ _ hP hD hS (lv_sub hl [3, 2, 1, 0] rfl)
set_option maxHeartbeats 400000 in
set_option maxRecDepth 100000 in
theorem c_X9_share_bad (l : Launch) (G : zG) (m mt mp mg mc mh ms mu of1 ot1 oi1 ml md mw th ts ps V rm on : Nat) (pv : Int32) (sd : Int64) (g : Nat → Nat) (x : Int32) (hg0 : g 0 ≤ 16) (hb0 : ¬ ((0 ≤ x.toInt ∧ x.toInt < g 0) ∧ g 0 ≤ 8)) : MI l yX9_share wsX9_share ({ frames := 2, cells := 0, slots := 0, locals := 46 }) G [.ref m, .int x] [(m, .inr (6, [.int (nI th), .ref mt, .int (nI ts), .int (nI ps), .int pv, .ref mp, .int (nI V), .ref mg, .ref mc, .ref mh, .int (nI rm), .ref ms, .ref mu, .int (nI on), .ref of1, .ref ot1, .ref oi1, .long sd, .ref ml, .ref md, .ref mw])), zA G mg 49 g] (zShE (g 0) x) [(m, .inr (6, [.int (nI 0), .ref mt, .int (nI ts), .int (nI ps), .int pv, .ref mp, .int (nI V), .ref mg, .ref mc, .ref mh, .int (nI rm), .ref ms, .ref mu, .int (nI on), .ref of1, .ref ot1, .ref oi1, .long sd, .ref ml, .ref md, .ref mw])), zA G mg 49 g] := by
  refine MI.enter (cc := cX9_share) (maxL := 6) (by decide) rfl (Nat.le_of_ble_eq_true rfl) rfl ?_
  intro pM eM sM mM bM tM cM QM AM ls hat kret
  obtain ⟨SM, hA, hK, hE, hP, hD, hS, hl⟩ := hat
  have hx := SM.1
  have hb := SM.2.1
  have hown : sM.vm.findClass RX9 = some mM.cls := SM.2.2.2.1
  have hts := SM.2.2.2.2
  have hinX9 : ∀ w ∈ u_ws RX9 TX9 21, w ∈ wsX9_share := by decide +kernel
  have hlk54 : (Cond.fieldLink RX9 54 "DyckReachabilityModel" "thrown" "I").before _ sM = true := hts _ (by decide +kernel)
  have hlk20 : (Cond.fieldLink RX9 20 "DyckReachabilityModel" "graph" "[I").before _ sM = true := hts _ (by decide +kernel)
  have hl : lv_has ls 6 [(0, .ref m), (1, .int x)] := hl
  refine lv_aload_n hx hb dX9_share_0 rfl (lv_at hl 0 rfl) ?_
  refine lv_iconst (v := nI 0) hx hb dX9_share_1 (by decide) ?_
  refine va_put (D := G.1) (ci := 6) (v := .int (nI 0)) (ty := .int) (C := RX9) (T := TX9) (N := 21) hx hb hts hinX9 tyX9 tyX9_ok nmX9 hown hK hP hD hS 0 rfl rfl 0 (by decide) hlk54 (fun _ h9 => h9) rfl (by decide +kernel) rfl rfl (Nat.le_of_ble_eq_true rfl) dX9_share_2 (fun H locs hP hD hS => ?_)
  have hP : va_P G.1 vwCl [(m, .inr (6, [.int (nI 0), .ref mt, .int (nI ts), .int (nI ps), .int pv, .ref mp, .int (nI V), .ref mg, .ref mc, .ref mh, .int (nI rm), .ref ms, .ref mu, .int (nI on), .ref of1, .ref ot1, .ref oi1, .long sd, .ref ml, .ref md, .ref mw])), zA G mg 49 g] H := hP
  have hD : va_D AM [(m, .inr (6, [.int (nI 0), .ref mt, .int (nI ts), .int (nI ps), .int pv, .ref mp, .int (nI V), .ref mg, .ref mc, .ref mh, .int (nI rm), .ref ms, .ref mu, .int (nI on), .ref of1, .ref ot1, .ref oi1, .long sd, .ref ml, .ref md, .ref mw])), zA G mg 49 g] := hD
  refine lv_aload_n hx hb dX9_share_5 rfl (lv_at hl 0 rfl) ?_
  refine lv_iload_n hx hb dX9_share_6 rfl (lv_at hl 1 rfl) ?_
  refine zVi (W1 := [(m, .inr (6, [.int (nI 0), .ref mt, .int (nI ts), .int (nI ps), .int pv, .ref mp, .int (nI V), .ref mg, .ref mc, .ref mh, .int (nI rm), .ref ms, .ref mu, .int (nI on), .ref of1, .ref ot1, .ref oi1, .long sd, .ref ml, .ref md, .ref mw])), zA G mg 49 g]) (W2 := [(m, .inr (6, [.int (nI 0), .ref mt, .int (nI ts), .int (nI ps), .int pv, .ref mp, .int (nI V), .ref mg, .ref mc, .ref mh, .int (nI rm), .ref ms, .ref mu, .int (nI on), .ref of1, .ref ot1, .ref oi1, .long sd, .ref ml, .ref md, .ref mw])), zA G mg 49 g]) (wr := []) (rest := []) SM (c_X9_noEdge l G m mt mp mg mc mh ms mu of1 ot1 oi1 ml md mw 0 ts ps V rm on pv sd g x (by first | assumption | omega)) (cwV 1 hts gX9_share_X9_noEdge rfl rfl rfl (by decide +kernel) ⟨Nat.le_of_ble_eq_true rfl, Nat.le_of_ble_eq_true rfl⟩) hK hE hA hP hD hS hl.1 [0, 1] [] [0, 1] rfl rfl rfl (by decide) (ci := 6) rfl rfl rfl rfl rfl (Nat.le_of_ble_eq_true rfl) ⟨Nat.zero_le _, Nat.zero_le _⟩ dX9_share_7 (fun H locs hP hD hS => ?_)
  refine zb_eq (tgt := 15) hx hb dX9_share_10 (by decide) (fun c_1 => ?_) (fun c_1 => ?_)
  · skip
    refine lv_aload_n hx hb dX9_share_15 rfl (lv_at hl 0 rfl) ?_
    refine va_get (D := G.1) (ci := 6) (v := .ref mg) (C := RX9) (T := TX9) (N := 21) hx hb hts hinX9 hown hK hP 0 rfl rfl 7 (by decide) hlk20 (fun _ h9 => h9) rfl dX9_share_16 ?_
    refine lv_iconst (v := nI 0) hx hb dX9_share_19 (by decide) ?_
    refine zi_ald hx hb hK hP 1 rfl (by omega) (by omega) dX9_share_20 ?_
    refine lv_istore_n (lv' := [(2, .int (nI (g 0))), (0, .ref m), (1, .int x)]) hx hb dX9_share_21 rfl hl (by decide) rfl (fun ls hl => ?_)
    refine lv_iload_n hx hb dX9_share_22 rfl (lv_at hl 0 rfl) ?_
    refine lv_bipush (v := nI 8) hx hb dX9_share_23 (by decide) ?_
    refine zn_le (tgt := 31) hx hb dX9_share_25 (by decide) (by omega) (by omega) (fun c_2 => ?_) (fun c_2 => ?_)
    · skip
      exfalso; omega
    · skip
      refine lv_bipush (v := (-3)) hx hb dX9_share_28 (by decide) ?_
      exact kret _ _ _ _ _ _ (by unfold zShE; repeat (first | rw [if_pos (by first | assumption | omega)] | rw [if_neg (by first | assumption | omega)])) rfl hP hD hS dX9_share_30
  · skip
    refine lv_iconst (v := (-1)) hx hb dX9_share_13 (by decide) ?_
    exact kret _ _ _ _ _ _ (by unfold zShE; repeat (first | rw [if_pos (by first | assumption | omega)] | rw [if_neg (by first | assumption | omega)])) rfl hP hD hS dX9_share_14
set_option maxHeartbeats 400000 in
set_option maxRecDepth 100000 in
theorem c_X9_share_ok (l : Launch) (G : zG) (m mt mp mg mc mh ms mu of1 ot1 oi1 ml md mw th ts ps V rm on : Nat) (pv : Int32) (sd : Int64) (f wd g : Nat → Nat) (x : Int32) (hV : V ≤ 8) (hV1 : 1 ≤ V) (hL : zL2 f) (hw8 : ∀ i, wd i < 8) (hg0 : g 0 ≤ 16) (hg8 : ∀ i, 1 ≤ i → g i < 8) (hx : 0 ≤ x.toInt ∧ x.toInt < g 0) (hk8 : g 0 ≤ 8) : MX ((Nat → Nat) × (Nat → Nat)) l yX9_share wsX9_share ({ frames := 4, cells := 0, slots := 0, locals := 98 }) G [.ref m, .int x] [(m, .inr (6, [.int (nI th), .ref mt, .int (nI ts), .int (nI ps), .int pv, .ref mp, .int (nI V), .ref mg, .ref mc, .ref mh, .int (nI rm), .ref ms, .ref mu, .int (nI on), .ref of1, .ref ot1, .ref oi1, .long sd, .ref ml, .ref md, .ref mw])), zA G ml 64 f, zA G mw 96 wd, zA G mg 49 g] (mSh V g x.toInt.toNat) (fun u : (Nat → Nat) × (Nat → Nat) => [(m, .inr (6, [.int (nI 0), .ref mt, .int (nI ts), .int (nI ps), .int pv, .ref mp, .int (nI V), .ref mg, .ref mc, .ref mh, .int (nI rm), .ref ms, .ref mu, .int (nI on), .ref of1, .ref ot1, .ref oi1, .long sd, .ref ml, .ref md, .ref mw])), zA G ml 64 u.1, zA G mw 96 u.2, zA G mg 49 g]) (fun u : (Nat → Nat) × (Nat → Nat) => zL2 u.1 ∧ ∀ i, u.2 i < 8) := by
  refine MX.enter (cc := cX9_share) (maxL := 6) (by decide) rfl (Nat.le_of_ble_eq_true rfl) ?_
  intro pM eM sM mM bM tM cM QM AM ls hat kret
  obtain ⟨SM, hA, hK, hE, hP, hD, hS, hl⟩ := hat
  have hx := SM.1
  have hb := SM.2.1
  have hown : sM.vm.findClass RX9 = some mM.cls := SM.2.2.2.1
  have hts := SM.2.2.2.2
  have hinX9 : ∀ w ∈ u_ws RX9 TX9 21, w ∈ wsX9_share := by decide +kernel
  have hlk54 : (Cond.fieldLink RX9 54 "DyckReachabilityModel" "thrown" "I").before _ sM = true := hts _ (by decide +kernel)
  have hlk20 : (Cond.fieldLink RX9 20 "DyckReachabilityModel" "graph" "[I").before _ sM = true := hts _ (by decide +kernel)
  have h2k := z2pk (g 0) hk8
  have h2x : 2 ^ x.toInt.toNat ≤ 128 := Nat.le_trans (Nat.pow_le_pow_right (by decide) (show x.toInt.toNat ≤ 7 by omega)) (by decide)
  have hfk := mFac_b (g 0) hk8
  have hl : lv_has ls 6 [(0, .ref m), (1, .int x)] := hl
  refine lv_aload_n hx hb dX9_share_0 rfl (lv_at hl 0 rfl) ?_
  refine lv_iconst (v := nI 0) hx hb dX9_share_1 (by decide) ?_
  refine va_put (D := G.1) (ci := 6) (v := .int (nI 0)) (ty := .int) (C := RX9) (T := TX9) (N := 21) hx hb hts hinX9 tyX9 tyX9_ok nmX9 hown hK hP hD hS 0 rfl rfl 0 (by decide) hlk54 (fun _ h9 => h9) rfl (by decide +kernel) rfl rfl (Nat.le_of_ble_eq_true rfl) dX9_share_2 (fun H locs hP hD hS => ?_)
  have hP : va_P G.1 vwCl [(m, .inr (6, [.int (nI 0), .ref mt, .int (nI ts), .int (nI ps), .int pv, .ref mp, .int (nI V), .ref mg, .ref mc, .ref mh, .int (nI rm), .ref ms, .ref mu, .int (nI on), .ref of1, .ref ot1, .ref oi1, .long sd, .ref ml, .ref md, .ref mw])), zA G ml 64 f, zA G mw 96 wd, zA G mg 49 g] H := hP
  have hD : va_D AM [(m, .inr (6, [.int (nI 0), .ref mt, .int (nI ts), .int (nI ps), .int pv, .ref mp, .int (nI V), .ref mg, .ref mc, .ref mh, .int (nI rm), .ref ms, .ref mu, .int (nI on), .ref of1, .ref ot1, .ref oi1, .long sd, .ref ml, .ref md, .ref mw])), zA G ml 64 f, zA G mw 96 wd, zA G mg 49 g] := hD
  refine lv_aload_n hx hb dX9_share_5 rfl (lv_at hl 0 rfl) ?_
  refine lv_iload_n hx hb dX9_share_6 rfl (lv_at hl 1 rfl) ?_
  refine zVi (W1 := [(m, .inr (6, [.int (nI 0), .ref mt, .int (nI ts), .int (nI ps), .int pv, .ref mp, .int (nI V), .ref mg, .ref mc, .ref mh, .int (nI rm), .ref ms, .ref mu, .int (nI on), .ref of1, .ref ot1, .ref oi1, .long sd, .ref ml, .ref md, .ref mw])), zA G ml 64 f, zA G mw 96 wd, zA G mg 49 g]) (W2 := [(m, .inr (6, [.int (nI 0), .ref mt, .int (nI ts), .int (nI ps), .int pv, .ref mp, .int (nI V), .ref mg, .ref mc, .ref mh, .int (nI rm), .ref ms, .ref mu, .int (nI on), .ref of1, .ref ot1, .ref oi1, .long sd, .ref ml, .ref md, .ref mw])), zA G ml 64 f, zA G mw 96 wd, zA G mg 49 g]) (wr := [zA G ml 64 f, zA G mw 96 wd]) (rest := []) SM (c_X9_noEdge l G m mt mp mg mc mh ms mu of1 ot1 oi1 ml md mw 0 ts ps V rm on pv sd g x (by omega)) (cwV 1 hts gX9_share_X9_noEdge rfl rfl rfl (by decide +kernel) ⟨Nat.le_of_ble_eq_true rfl, Nat.le_of_ble_eq_true rfl⟩) hK hE hA hP hD hS hl.1 [0, 3] [1, 2] [2, 0, 1, 3] rfl rfl rfl (by decide) (ci := 6) rfl rfl rfl rfl rfl (Nat.le_of_ble_eq_true rfl) ⟨Nat.zero_le _, Nat.zero_le _⟩ dX9_share_7 (fun H locs hP hD hS => ?_)
  refine zb_eq (tgt := 15) hx hb dX9_share_10 (by decide) (fun c_1 => ?_) (fun c_1 => ?_)
  · skip
    have hl : lv_has ls 6 [(0, .ref m), (1, .int (nI x.toInt.toNat))] := by rw [← xN_eq (x := x) (by omega)]; exact hl
    refine lv_aload_n hx hb dX9_share_15 rfl (lv_at hl 0 rfl) ?_
    refine va_get (D := G.1) (ci := 6) (v := .ref mg) (C := RX9) (T := TX9) (N := 21) hx hb hts hinX9 hown hK hP 0 rfl rfl 7 (by decide) hlk20 (fun _ h9 => h9) rfl dX9_share_16 ?_
    refine lv_iconst (v := nI 0) hx hb dX9_share_19 (by decide) ?_
    refine zi_ald hx hb hK hP 3 rfl (by omega) (by omega) dX9_share_20 ?_
    refine lv_istore_n (lv' := [(2, .int (nI (g 0))), (0, .ref m), (1, .int (nI x.toInt.toNat))]) hx hb dX9_share_21 rfl hl (by decide) rfl (fun ls hl => ?_)
    refine lv_iload_n hx hb dX9_share_22 rfl (lv_at hl 0 rfl) ?_
    refine lv_bipush (v := nI 8) hx hb dX9_share_23 (by decide) ?_
    refine zn_le (tgt := 31) hx hb dX9_share_25 (by decide) (by omega) (by omega) (fun c_2 => ?_) (fun c_2 => ?_)
    · skip
      refine lv_iconst (v := nI 0) hx hb dX9_share_31 (by decide) ?_
      refine lv_istore_n (lv' := [(3, .int (nI 0)), (2, .int (nI (g 0))), (0, .ref m), (1, .int (nI x.toInt.toNat))]) hx hb dX9_share_32 rfl hl (by decide) rfl (fun ls hl => ?_)
      refine lv_iconst (v := nI 0) hx hb dX9_share_33 (by decide) ?_
      refine lv_istore (lv' := [(4, .int (nI 0)), (3, .int (nI 0)), (2, .int (nI (g 0))), (0, .ref m), (1, .int (nI x.toInt.toNat))]) hx hb dX9_share_34 hl (by decide) rfl (fun ls hl => ?_)
      have lp36 : ∀ (n9 : Nat), ∀ (b : Nat) (a : Int32) (fl wl : Nat → Nat), (b ≤ 2 ^ g 0) → (a = zIt (mShF V g x.toInt.toNat) b (nI 0)) → (zL2 fl) → (∀ i, wl i < 8) → (2 ^ g 0 - b) < n9 → ∀ (H : Heap) (locs : List Loc) (ls : Array Slot), va_P G.1 vwCl [(m, .inr (6, [.int (nI 0), .ref mt, .int (nI ts), .int (nI ps), .int pv, .ref mp, .int (nI V), .ref mg, .ref mc, .ref mh, .int (nI rm), .ref ms, .ref mu, .int (nI on), .ref of1, .ref ot1, .ref oi1, .long sd, .ref ml, .ref md, .ref mw])), zA G ml 64 fl, zA G mw 96 wl, zA G mg 49 g] H → va_D AM [(m, .inr (6, [.int (nI 0), .ref mt, .int (nI ts), .int (nI ps), .int pv, .ref mp, .int (nI V), .ref mg, .ref mc, .ref mh, .int (nI rm), .ref ms, .ref mu, .int (nI on), .ref of1, .ref ot1, .ref oi1, .long sd, .ref ml, .ref md, .ref mw])), zA G ml 64 fl, zA G mw 96 wl, zA G mg 49 g] → va_S AM sM.heap H locs → lv_has ls 6 [(0, .ref m), (1, .int (nI x.toInt.toNat)), (2, .int (nI (g 0))), (3, .int a), (4, .int (nI b))] → W pM l eM ({ frames := 4, cells := 0, slots := 0, locals := 98 }) sM mM (([.ref m, .int x] : List Value).toArray) bM tM cM H locs 0 0 QM (F0 mM 36 ls []) := by
        intro n9
        induction n9 with
        | zero =>
          intro _ _ _ _ _ _ _ _ h9
          exact absurd h9 (Nat.not_lt_zero _)
        | succ n9 ih9 =>
          intro b a fl wl h1 hq hfl hwl hmu36 H locs ls hP hD hS hl
          have ih36 := ih9
          clear ih9
          refine lv_iload hx hb dX9_share_36 (lv_at hl 4 rfl) ?_
          refine lv_iconst (v := nI 1) hx hb dX9_share_38 (by decide) ?_
          refine lv_iload_n hx hb dX9_share_39 rfl (lv_at hl 2 rfl) ?_
          refine zi_shl1 hx hb dX9_share_40 (by omega) ?_
          refine zn_ge (tgt := 110) hx hb dX9_share_41 (by decide) (by omega) (by omega) (fun c_3 => ?_) (fun c_3 => ?_)
          · skip
            refine lv_iload_n hx hb dX9_share_110 rfl (lv_at hl 3 rfl) ?_
            refine lv_ldc (v := nI 40320) hx hb hown (hts (.constant RX9 188 (40320)) (by decide +kernel)) dX9_share_111 ?_
            refine lv_iload_n hx hb dX9_share_113 rfl (lv_at hl 2 rfl) ?_
            refine zSi (W1 := [(m, .inr (6, [.int (nI 0), .ref mt, .int (nI ts), .int (nI ps), .int pv, .ref mp, .int (nI V), .ref mg, .ref mc, .ref mh, .int (nI rm), .ref ms, .ref mu, .int (nI on), .ref of1, .ref ot1, .ref oi1, .long sd, .ref ml, .ref md, .ref mw])), zA G ml 64 fl, zA G mw 96 wl, zA G mg 49 g]) (W2 := [(m, .inr (6, [.int (nI 0), .ref mt, .int (nI ts), .int (nI ps), .int pv, .ref mp, .int (nI V), .ref mg, .ref mc, .ref mh, .int (nI rm), .ref ms, .ref mu, .int (nI on), .ref of1, .ref ot1, .ref oi1, .long sd, .ref ml, .ref md, .ref mw])), zA G ml 64 fl, zA G mw 96 wl, zA G mg 49 g]) (wr := [(m, .inr (6, [.int (nI 0), .ref mt, .int (nI ts), .int (nI ps), .int pv, .ref mp, .int (nI V), .ref mg, .ref mc, .ref mh, .int (nI rm), .ref ms, .ref mu, .int (nI on), .ref of1, .ref ot1, .ref oi1, .long sd, .ref ml, .ref md, .ref mw])), zA G ml 64 fl, zA G mw 96 wl, zA G mg 49 g]) (rest := [.int (nI 40320), .int a]) SM (c_X9_factorial l G (g 0) (by omega)) (va_cwS 1 hts gX9_share_X9_factorial rfl rfl rfl (by decide +kernel) ⟨Nat.le_of_ble_eq_true rfl, Nat.le_of_ble_eq_true rfl⟩) hK hE hA hP hD hS hl.1 [] [0, 1, 2, 3] [0, 1, 2, 3] rfl rfl rfl (by decide) rfl rfl (Nat.le_of_ble_eq_true rfl) ⟨Nat.zero_le _, Nat.zero_le _⟩ dX9_share_114 (fun H locs hP hD hS => ?_)
            refine zi_div hx hb dX9_share_117 (by omega) (by omega) (by omega) ?_
            refine lv_imul hx hb dX9_share_118 ?_
            exact kret _ _ _ _ _ _ (fl, wl) (by have hq9 : b = 2 ^ g 0 := (by omega); unfold mSh; rw [hq, hq9]) ⟨hfl, hwl⟩ rfl hP hD hS dX9_share_119
          · skip
            refine lv_iload hx hb dX9_share_44 (lv_at hl 4 rfl) ?_
            refine lv_iload_n hx hb dX9_share_46 rfl (lv_at hl 1 rfl) ?_
            refine zSi (W1 := [(m, .inr (6, [.int (nI 0), .ref mt, .int (nI ts), .int (nI ps), .int pv, .ref mp, .int (nI V), .ref mg, .ref mc, .ref mh, .int (nI rm), .ref ms, .ref mu, .int (nI on), .ref of1, .ref ot1, .ref oi1, .long sd, .ref ml, .ref md, .ref mw])), zA G ml 64 fl, zA G mw 96 wl, zA G mg 49 g]) (W2 := [(m, .inr (6, [.int (nI 0), .ref mt, .int (nI ts), .int (nI ps), .int pv, .ref mp, .int (nI V), .ref mg, .ref mc, .ref mh, .int (nI rm), .ref ms, .ref mu, .int (nI on), .ref of1, .ref ot1, .ref oi1, .long sd, .ref ml, .ref md, .ref mw])), zA G ml 64 fl, zA G mw 96 wl, zA G mg 49 g]) (wr := [(m, .inr (6, [.int (nI 0), .ref mt, .int (nI ts), .int (nI ps), .int pv, .ref mp, .int (nI V), .ref mg, .ref mc, .ref mh, .int (nI rm), .ref ms, .ref mu, .int (nI on), .ref of1, .ref ot1, .ref oi1, .long sd, .ref ml, .ref md, .ref mw])), zA G ml 64 fl, zA G mw 96 wl, zA G mg 49 g]) (rest := []) SM (c_X9_has l G b x.toInt.toNat (by omega) (by omega)) (va_cwS 2 hts gX9_share_X9_has rfl rfl rfl (by decide +kernel) ⟨Nat.le_of_ble_eq_true rfl, Nat.le_of_ble_eq_true rfl⟩) hK hE hA hP hD hS hl.1 [] [0, 1, 2, 3] [0, 1, 2, 3] rfl rfl rfl (by decide) rfl rfl (Nat.le_of_ble_eq_true rfl) ⟨Nat.zero_le _, Nat.zero_le _⟩ dX9_share_47 (fun H locs hP hD hS => ?_)
            refine zb_ne (tgt := 104) hx hb dX9_share_50 (by decide) (fun c_4 => ?_) (fun c_4 => ?_)
            · skip
              refine lv_iinc (v := nI (b + 1)) (lv' := [(4, .int (nI (b + 1))), (0, .ref m), (1, .int (nI x.toInt.toNat)), (2, .int (nI (g 0))), (3, .int a)]) hx hb dX9_share_104 hl (k := 4) rfl (zinc b 1) (by decide) rfl (fun ls hl => ?_)
              refine lv_goto (tgt := 36) hx hb dX9_share_107 (by decide) ?_
              exact ih36 (b + 1) a fl wl (by omega) (by rw [zIt_s, ← hq]; unfold mShF; first | rw [if_pos (by assumption)] | rw [if_neg (by assumption)]) (by first | exact hfl | exact mT_2 _ _) (by first | exact hwl | exact zWd_8 (zWd_8 hwl hg8 _) hg8 _) (by omega) _ _ _ hP hD hS (lv_sub hl [1, 2, 3, 4, 0] rfl)
            · skip
              have hbo := mBits_own (g 0) hk8 (x.toInt.toNat) (by omega) b (by omega) (by omega)
              refine lv_iload hx hb dX9_share_53 (lv_at hl 4 rfl) ?_
              refine zSi (W1 := [(m, .inr (6, [.int (nI 0), .ref mt, .int (nI ts), .int (nI ps), .int pv, .ref mp, .int (nI V), .ref mg, .ref mc, .ref mh, .int (nI rm), .ref ms, .ref mu, .int (nI on), .ref of1, .ref ot1, .ref oi1, .long sd, .ref ml, .ref md, .ref mw])), zA G ml 64 fl, zA G mw 96 wl, zA G mg 49 g]) (W2 := [(m, .inr (6, [.int (nI 0), .ref mt, .int (nI ts), .int (nI ps), .int pv, .ref mp, .int (nI V), .ref mg, .ref mc, .ref mh, .int (nI rm), .ref ms, .ref mu, .int (nI on), .ref of1, .ref ot1, .ref oi1, .long sd, .ref ml, .ref md, .ref mw])), zA G ml 64 fl, zA G mw 96 wl, zA G mg 49 g]) (wr := [(m, .inr (6, [.int (nI 0), .ref mt, .int (nI ts), .int (nI ps), .int pv, .ref mp, .int (nI V), .ref mg, .ref mc, .ref mh, .int (nI rm), .ref ms, .ref mu, .int (nI on), .ref of1, .ref ot1, .ref oi1, .long sd, .ref ml, .ref md, .ref mw])), zA G ml 64 fl, zA G mw 96 wl, zA G mg 49 g]) (rest := []) SM (c_X9_bits l G b (by omega)) (va_cwS 1 hts gX9_share_X9_bits rfl rfl rfl (by decide +kernel) ⟨Nat.le_of_ble_eq_true rfl, Nat.le_of_ble_eq_true rfl⟩) hK hE hA hP hD hS hl.1 [] [0, 1, 2, 3] [0, 1, 2, 3] rfl rfl rfl (by decide) rfl rfl (Nat.le_of_ble_eq_true rfl) ⟨Nat.zero_le _, Nat.zero_le _⟩ dX9_share_55 (fun H locs hP hD hS => ?_)
              refine lv_istore (lv' := [(5, .int (nI (zBits b))), (0, .ref m), (1, .int (nI x.toInt.toNat)), (2, .int (nI (g 0))), (3, .int a), (4, .int (nI b))]) hx hb dX9_share_58 hl (by decide) rfl (fun ls hl => ?_)
              refine lv_iload_n hx hb dX9_share_60 rfl (lv_at hl 4 rfl) ?_
              refine lv_iload hx hb dX9_share_61 (lv_at hl 0 rfl) ?_
              refine zSi (W1 := [(m, .inr (6, [.int (nI 0), .ref mt, .int (nI ts), .int (nI ps), .int pv, .ref mp, .int (nI V), .ref mg, .ref mc, .ref mh, .int (nI rm), .ref ms, .ref mu, .int (nI on), .ref of1, .ref ot1, .ref oi1, .long sd, .ref ml, .ref md, .ref mw])), zA G ml 64 fl, zA G mw 96 wl, zA G mg 49 g]) (W2 := [(m, .inr (6, [.int (nI 0), .ref mt, .int (nI ts), .int (nI ps), .int pv, .ref mp, .int (nI V), .ref mg, .ref mc, .ref mh, .int (nI rm), .ref ms, .ref mu, .int (nI on), .ref of1, .ref ot1, .ref oi1, .long sd, .ref ml, .ref md, .ref mw])), zA G ml 64 fl, zA G mw 96 wl, zA G mg 49 g]) (wr := [(m, .inr (6, [.int (nI 0), .ref mt, .int (nI ts), .int (nI ps), .int pv, .ref mp, .int (nI V), .ref mg, .ref mc, .ref mh, .int (nI rm), .ref ms, .ref mu, .int (nI on), .ref of1, .ref ot1, .ref oi1, .long sd, .ref ml, .ref md, .ref mw])), zA G ml 64 fl, zA G mw 96 wl, zA G mg 49 g]) (rest := [.int a]) SM (c_X9_factorial l G (zBits b) (by omega)) (va_cwS 1 hts gX9_share_X9_factorial rfl rfl rfl (by decide +kernel) ⟨Nat.le_of_ble_eq_true rfl, Nat.le_of_ble_eq_true rfl⟩) hK hE hA hP hD hS hl.1 [] [0, 1, 2, 3] [0, 1, 2, 3] rfl rfl rfl (by decide) rfl rfl (Nat.le_of_ble_eq_true rfl) ⟨Nat.zero_le _, Nat.zero_le _⟩ dX9_share_63 (fun H locs hP hD hS => ?_)
              refine lv_iload_n hx hb dX9_share_66 rfl (lv_at hl 3 rfl) ?_
              refine lv_iconst (v := nI 1) hx hb dX9_share_67 (by decide) ?_
              refine zi_sub hx hb dX9_share_68 (by omega) ?_
              refine lv_iload hx hb dX9_share_69 (lv_at hl 0 rfl) ?_
              refine zi_sub hx hb dX9_share_71 (by omega) ?_
              refine zSi (W1 := [(m, .inr (6, [.int (nI 0), .ref mt, .int (nI ts), .int (nI ps), .int pv, .ref mp, .int (nI V), .ref mg, .ref mc, .ref mh, .int (nI rm), .ref ms, .ref mu, .int (nI on), .ref of1, .ref ot1, .ref oi1, .long sd, .ref ml, .ref md, .ref mw])), zA G ml 64 fl, zA G mw 96 wl, zA G mg 49 g]) (W2 := [(m, .inr (6, [.int (nI 0), .ref mt, .int (nI ts), .int (nI ps), .int pv, .ref mp, .int (nI V), .ref mg, .ref mc, .ref mh, .int (nI rm), .ref ms, .ref mu, .int (nI on), .ref of1, .ref ot1, .ref oi1, .long sd, .ref ml, .ref md, .ref mw])), zA G ml 64 fl, zA G mw 96 wl, zA G mg 49 g]) (wr := [(m, .inr (6, [.int (nI 0), .ref mt, .int (nI ts), .int (nI ps), .int pv, .ref mp, .int (nI V), .ref mg, .ref mc, .ref mh, .int (nI rm), .ref ms, .ref mu, .int (nI on), .ref of1, .ref ot1, .ref oi1, .long sd, .ref ml, .ref md, .ref mw])), zA G ml 64 fl, zA G mw 96 wl, zA G mg 49 g]) (rest := [.int (nI (mFac (zBits b))), .int a]) SM (c_X9_factorial l G (((g 0) - 1) - (zBits b)) (by omega)) (va_cwS 1 hts gX9_share_X9_factorial rfl rfl rfl (by decide +kernel) ⟨Nat.le_of_ble_eq_true rfl, Nat.le_of_ble_eq_true rfl⟩) hK hE hA hP hD hS hl.1 [] [0, 1, 2, 3] [0, 1, 2, 3] rfl rfl rfl (by decide) rfl rfl (Nat.le_of_ble_eq_true rfl) ⟨Nat.zero_le _, Nat.zero_le _⟩ dX9_share_72 (fun H locs hP hD hS => ?_)
              refine zi_mul hx hb dX9_share_75 ?_
              refine lv_aload_n hx hb dX9_share_76 rfl (lv_at hl 1 rfl) ?_
              refine lv_aload_n hx hb dX9_share_77 rfl (lv_at hl 1 rfl) ?_
              refine va_get (D := G.1) (ci := 6) (v := .ref mg) (C := RX9) (T := TX9) (N := 21) hx hb hts hinX9 hown hK hP 0 rfl rfl 7 (by decide) hlk20 (fun _ h9 => h9) rfl dX9_share_78 ?_
              refine lv_iload hx hb dX9_share_81 (lv_at hl 5 rfl) ?_
              refine lv_iconst (v := nI 1) hx hb dX9_share_83 (by decide) ?_
              refine lv_iload_n hx hb dX9_share_84 rfl (lv_at hl 2 rfl) ?_
              refine zi_shl1 hx hb dX9_share_85 (by omega) ?_
              have hbo2 := Nat.or_lt_two_pow (n := 8) (show b < 2 ^ 8 by omega) (show 2 ^ (x.toInt.toNat) < 2 ^ 8 by omega)
              refine zi_or hx hb dX9_share_86 ?_
              refine zVi (W1 := [(m, .inr (6, [.int (nI 0), .ref mt, .int (nI ts), .int (nI ps), .int pv, .ref mp, .int (nI V), .ref mg, .ref mc, .ref mh, .int (nI rm), .ref ms, .ref mu, .int (nI on), .ref of1, .ref ot1, .ref oi1, .long sd, .ref ml, .ref md, .ref mw])), zA G ml 64 fl, zA G mw 96 wl, zA G mg 49 g]) (W2 := [(m, .inr (6, [.int (nI 0), .ref mt, .int (nI ts), .int (nI ps), .int pv, .ref mp, .int (nI V), .ref mg, .ref mc, .ref mh, .int (nI rm), .ref ms, .ref mu, .int (nI on), .ref of1, .ref ot1, .ref oi1, .long sd, .ref ml, .ref md, .ref mw])), zA G ml 64 (mT g (b ||| (2 ^ x.toInt.toNat))), zA G mw 96 (zWd (b ||| (2 ^ x.toInt.toNat)) g wl (g 0)), zA G mg 49 g]) (wr := []) (rest := [.int (nI ((mFac (zBits b)) * (mFac (((g 0) - 1) - (zBits b))))), .int a]) SM (c_X9_pairsOf l G m mt mp mg mc mh ms mu of1 ot1 oi1 ml md mw 0 ts ps V rm on pv sd fl wl mg g (b ||| (2 ^ x.toInt.toNat)) (by omega) hfl hwl (by omega) hg8 (by omega)) (cwV 2 hts gX9_share_X9_pairsOf rfl rfl rfl (by decide +kernel) ⟨Nat.le_of_ble_eq_true rfl, Nat.le_of_ble_eq_true rfl⟩) hK hE hA hP hD hS hl.1 [0, 1, 2, 3] [] [0, 1, 2, 3] rfl rfl rfl (by decide) (ci := 6) rfl rfl rfl rfl rfl (Nat.le_of_ble_eq_true rfl) ⟨Nat.zero_le _, Nat.zero_le _⟩ dX9_share_87 (fun H locs hP hD hS => ?_)
              refine lv_aload_n hx hb dX9_share_90 rfl (lv_at hl 1 rfl) ?_
              refine lv_aload_n hx hb dX9_share_91 rfl (lv_at hl 1 rfl) ?_
              refine va_get (D := G.1) (ci := 6) (v := .ref mg) (C := RX9) (T := TX9) (N := 21) hx hb hts hinX9 hown hK hP 0 rfl rfl 7 (by decide) hlk20 (fun _ h9 => h9) rfl dX9_share_92 ?_
              refine lv_iload hx hb dX9_share_95 (lv_at hl 5 rfl) ?_
              refine zVi (W1 := [(m, .inr (6, [.int (nI 0), .ref mt, .int (nI ts), .int (nI ps), .int pv, .ref mp, .int (nI V), .ref mg, .ref mc, .ref mh, .int (nI rm), .ref ms, .ref mu, .int (nI on), .ref of1, .ref ot1, .ref oi1, .long sd, .ref ml, .ref md, .ref mw])), zA G ml 64 (mT g (b ||| (2 ^ x.toInt.toNat))), zA G mw 96 (zWd (b ||| (2 ^ x.toInt.toNat)) g wl (g 0)), zA G mg 49 g]) (W2 := [(m, .inr (6, [.int (nI 0), .ref mt, .int (nI ts), .int (nI ps), .int pv, .ref mp, .int (nI V), .ref mg, .ref mc, .ref mh, .int (nI rm), .ref ms, .ref mu, .int (nI on), .ref of1, .ref ot1, .ref oi1, .long sd, .ref ml, .ref md, .ref mw])), zA G ml 64 (mT g b), zA G mw 96 (zWd b g (zWd (b ||| (2 ^ x.toInt.toNat)) g wl (g 0)) (g 0)), zA G mg 49 g]) (wr := []) (rest := [.int (nI (mPr V g (b ||| (2 ^ x.toInt.toNat)))), .int (nI ((mFac (zBits b)) * (mFac (((g 0) - 1) - (zBits b))))), .int a]) SM (c_X9_pairsOf l G m mt mp mg mc mh ms mu of1 ot1 oi1 ml md mw 0 ts ps V rm on pv sd (mT g (b ||| (2 ^ x.toInt.toNat))) (zWd (b ||| (2 ^ x.toInt.toNat)) g wl (g 0)) mg g b (by omega) (mT_2 _ _) (zWd_8 hwl hg8 _) (by omega) hg8 (by omega)) (cwV 2 hts gX9_share_X9_pairsOf rfl rfl rfl (by decide +kernel) ⟨Nat.le_of_ble_eq_true rfl, Nat.le_of_ble_eq_true rfl⟩) hK hE hA hP hD hS hl.1 [0, 1, 2, 3] [] [0, 1, 2, 3] rfl rfl rfl (by decide) (ci := 6) rfl rfl rfl rfl rfl (Nat.le_of_ble_eq_true rfl) ⟨Nat.zero_le _, Nat.zero_le _⟩ dX9_share_97 (fun H locs hP hD hS => ?_)
              refine lv_isub hx hb dX9_share_100 ?_
              refine lv_imul hx hb dX9_share_101 ?_
              refine lv_iadd hx hb dX9_share_102 ?_
              refine lv_istore_n (lv' := [(3, .int (a + ((nI ((mFac (zBits b)) * (mFac (((g 0) - 1) - (zBits b))))) * ((nI (mPr V g (b ||| (2 ^ x.toInt.toNat)))) - (nI (mPr V g b)))))), (5, .int (nI (zBits b))), (0, .ref m), (1, .int (nI x.toInt.toNat)), (2, .int (nI (g 0))), (4, .int (nI b))]) hx hb dX9_share_103 rfl hl (by decide) rfl (fun ls hl => ?_)
              refine lv_iinc (v := nI (b + 1)) (lv' := [(4, .int (nI (b + 1))), (3, .int (a + ((nI ((mFac (zBits b)) * (mFac (((g 0) - 1) - (zBits b))))) * ((nI (mPr V g (b ||| (2 ^ x.toInt.toNat)))) - (nI (mPr V g b)))))), (5, .int (nI (zBits b))), (0, .ref m), (1, .int (nI x.toInt.toNat)), (2, .int (nI (g 0)))]) hx hb dX9_share_104 hl (k := 5) rfl (zinc b 1) (by decide) rfl (fun ls hl => ?_)
              refine lv_goto (tgt := 36) hx hb dX9_share_107 (by decide) ?_
              exact ih36 (b + 1) (a + ((nI ((mFac (zBits b)) * (mFac (((g 0) - 1) - (zBits b))))) * ((nI (mPr V g (b ||| (2 ^ x.toInt.toNat)))) - (nI (mPr V g b))))) (mT g b) (zWd b g (zWd (b ||| (2 ^ x.toInt.toNat)) g wl (g 0)) (g 0)) (by omega) (by rw [zIt_s, ← hq]; unfold mShF; first | rw [if_pos (by assumption)] | rw [if_neg (by assumption)]) (by first | exact hfl | exact mT_2 _ _) (by first | exact hwl | exact zWd_8 (zWd_8 hwl hg8 _) hg8 _) (by omega) _ _ _ hP hD hS (lv_sub hl [3, 4, 5, 1, 0] rfl)
      exact lp36 (2 ^ g 0 - 0 + 1) 0 (nI 0) f wd (Nat.zero_le _) rfl hL hw8 (Nat.lt_succ_self _) _ _ _ hP hD hS (lv_sub hl [3, 4, 2, 1, 0] rfl)
    · skip
      exfalso; omega
  · skip
    exfalso; omega
set_option maxHeartbeats 400000 in
set_option maxRecDepth 100000 in
theorem c_X9_reliability_bad (l : Launch) (G : zG) (m mt mp mg mc mh ms mu of1 ot1 oi1 ml md mw th ts ps V rm on : Nat) (pv : Int32) (sd : Int64) (g : Nat → Nat) (x y z : Int32) (hV : V ≤ 8) (hV1 : 1 ≤ V) (hg0 : g 0 ≤ 16) (hb0 : ¬ ((0 ≤ x.toInt ∧ x.toInt < V) ∧ (0 ≤ y.toInt ∧ y.toInt < V) ∧ (0 ≤ z.toInt ∧ z.toInt < 11) ∧ g 0 ≤ 8)) : MI l yX9_reliability wsX9_reliability ({ frames := 2, cells := 0, slots := 0, locals := 46 }) G [.ref m, .int x, .int y, .int z] [(m, .inr (6, [.int (nI th), .ref mt, .int (nI ts), .int (nI ps), .int pv, .ref mp, .int (nI V), .ref mg, .ref mc, .ref mh, .int (nI rm), .ref ms, .ref mu, .int (nI on), .ref of1, .ref ot1, .ref oi1, .long sd, .ref ml, .ref md, .ref mw])), zA G mg 49 g] (zReE (g 0) V x y z) [(m, .inr (6, [.int (nI 0), .ref mt, .int (nI ts), .int (nI ps), .int pv, .ref mp, .int (nI V), .ref mg, .ref mc, .ref mh, .int (nI rm), .ref ms, .ref mu, .int (nI on), .ref of1, .ref ot1, .ref oi1, .long sd, .ref ml, .ref md, .ref mw])), zA G mg 49 g] := by
  refine MI.enter (cc := cX9_reliability) (maxL := 9) (by decide) rfl (Nat.le_of_ble_eq_true rfl) rfl ?_
  intro pM eM sM mM bM tM cM QM AM ls hat kret
  obtain ⟨SM, hA, hK, hE, hP, hD, hS, hl⟩ := hat
  have hx := SM.1
  have hb := SM.2.1
  have hown : sM.vm.findClass RX9 = some mM.cls := SM.2.2.2.1
  have hts := SM.2.2.2.2
  have hinX9 : ∀ w ∈ u_ws RX9 TX9 21, w ∈ wsX9_reliability := by decide +kernel
  have hlk54 : (Cond.fieldLink RX9 54 "DyckReachabilityModel" "thrown" "I").before _ sM = true := hts _ (by decide +kernel)
  have hlk20 : (Cond.fieldLink RX9 20 "DyckReachabilityModel" "graph" "[I").before _ sM = true := hts _ (by decide +kernel)
  have hl : lv_has ls 9 [(0, .ref m), (1, .int x), (2, .int y), (3, .int z)] := hl
  refine lv_aload_n hx hb dX9_reliability_0 rfl (lv_at hl 0 rfl) ?_
  refine lv_iconst (v := nI 0) hx hb dX9_reliability_1 (by decide) ?_
  refine va_put (D := G.1) (ci := 6) (v := .int (nI 0)) (ty := .int) (C := RX9) (T := TX9) (N := 21) hx hb hts hinX9 tyX9 tyX9_ok nmX9 hown hK hP hD hS 0 rfl rfl 0 (by decide) hlk54 (fun _ h9 => h9) rfl (by decide +kernel) rfl rfl (Nat.le_of_ble_eq_true rfl) dX9_reliability_2 (fun H locs hP hD hS => ?_)
  have hP : va_P G.1 vwCl [(m, .inr (6, [.int (nI 0), .ref mt, .int (nI ts), .int (nI ps), .int pv, .ref mp, .int (nI V), .ref mg, .ref mc, .ref mh, .int (nI rm), .ref ms, .ref mu, .int (nI on), .ref of1, .ref ot1, .ref oi1, .long sd, .ref ml, .ref md, .ref mw])), zA G mg 49 g] H := hP
  have hD : va_D AM [(m, .inr (6, [.int (nI 0), .ref mt, .int (nI ts), .int (nI ps), .int pv, .ref mp, .int (nI V), .ref mg, .ref mc, .ref mh, .int (nI rm), .ref ms, .ref mu, .int (nI on), .ref of1, .ref ot1, .ref oi1, .long sd, .ref ml, .ref md, .ref mw])), zA G mg 49 g] := hD
  refine lv_aload_n hx hb dX9_reliability_5 rfl (lv_at hl 0 rfl) ?_
  refine lv_iload_n hx hb dX9_reliability_6 rfl (lv_at hl 1 rfl) ?_
  refine zVi (W1 := [(m, .inr (6, [.int (nI 0), .ref mt, .int (nI ts), .int (nI ps), .int pv, .ref mp, .int (nI V), .ref mg, .ref mc, .ref mh, .int (nI rm), .ref ms, .ref mu, .int (nI on), .ref of1, .ref ot1, .ref oi1, .long sd, .ref ml, .ref md, .ref mw])), zA G mg 49 g]) (W2 := [(m, .inr (6, [.int (nI 0), .ref mt, .int (nI ts), .int (nI ps), .int pv, .ref mp, .int (nI V), .ref mg, .ref mc, .ref mh, .int (nI rm), .ref ms, .ref mu, .int (nI on), .ref of1, .ref ot1, .ref oi1, .long sd, .ref ml, .ref md, .ref mw])), zA G mg 49 g]) (wr := [zA G mg 49 g]) (rest := []) SM (c_X9_noVertex l G m mt mp mg mc mh ms mu of1 ot1 oi1 ml md mw 0 ts ps V rm on pv sd x (by first | assumption | omega) (by first | assumption | omega)) (cwV 1 hts gX9_reliability_X9_noVertex rfl rfl rfl (by decide +kernel) ⟨Nat.le_of_ble_eq_true rfl, Nat.le_of_ble_eq_true rfl⟩) hK hE hA hP hD hS hl.1 [0] [1] [1, 0] rfl rfl rfl (by decide) (ci := 6) rfl rfl rfl rfl rfl (Nat.le_of_ble_eq_true rfl) ⟨Nat.zero_le _, Nat.zero_le _⟩ dX9_reliability_7 (fun H locs hP hD hS => ?_)
  refine zb_ne (tgt := 21) hx hb dX9_reliability_10 (by decide) (fun c_1 => ?_) (fun c_1 => ?_)
  · skip
    refine lv_iconst (v := (-1)) hx hb dX9_reliability_21 (by decide) ?_
    exact kret _ _ _ _ _ _ (by unfold zReE; repeat (first | rw [if_pos (by first | assumption | omega)] | rw [if_neg (by first | assumption | omega)])) rfl hP hD hS dX9_reliability_22
  · skip
    refine lv_aload_n hx hb dX9_reliability_13 rfl (lv_at hl 0 rfl) ?_
    refine lv_iload_n hx hb dX9_reliability_14 rfl (lv_at hl 2 rfl) ?_
    refine zVi (W1 := [(m, .inr (6, [.int (nI 0), .ref mt, .int (nI ts), .int (nI ps), .int pv, .ref mp, .int (nI V), .ref mg, .ref mc, .ref mh, .int (nI rm), .ref ms, .ref mu, .int (nI on), .ref of1, .ref ot1, .ref oi1, .long sd, .ref ml, .ref md, .ref mw])), zA G mg 49 g]) (W2 := [(m, .inr (6, [.int (nI 0), .ref mt, .int (nI ts), .int (nI ps), .int pv, .ref mp, .int (nI V), .ref mg, .ref mc, .ref mh, .int (nI rm), .ref ms, .ref mu, .int (nI on), .ref of1, .ref ot1, .ref oi1, .long sd, .ref ml, .ref md, .ref mw])), zA G mg 49 g]) (wr := [zA G mg 49 g]) (rest := []) SM (c_X9_noVertex l G m mt mp mg mc mh ms mu of1 ot1 oi1 ml md mw 0 ts ps V rm on pv sd y (by first | assumption | omega) (by first | assumption | omega)) (cwV 1 hts gX9_reliability_X9_noVertex rfl rfl rfl (by decide +kernel) ⟨Nat.le_of_ble_eq_true rfl, Nat.le_of_ble_eq_true rfl⟩) hK hE hA hP hD hS hl.1 [0] [1] [1, 0] rfl rfl rfl (by decide) (ci := 6) rfl rfl rfl rfl rfl (Nat.le_of_ble_eq_true rfl) ⟨Nat.zero_le _, Nat.zero_le _⟩ dX9_reliability_15 (fun H locs hP hD hS => ?_)
    refine zb_eq (tgt := 23) hx hb dX9_reliability_18 (by decide) (fun c_2 => ?_) (fun c_2 => ?_)
    · skip
      refine lv_iload_n hx hb dX9_reliability_23 rfl (lv_at hl 3 rfl) ?_
      refine lv_i2l hx hb dX9_reliability_24 rfl ?_
      refine lv_lconst (v := lN 0) hx hb dX9_reliability_25 (by decide) ?_
      refine lv_ldc2 (v := lN 10) hx hb hown (hts (.constantLong RX9 189 (10)) (by decide +kernel)) dX9_reliability_26 ?_
      refine zSi (W1 := [(m, .inr (6, [.int (nI 0), .ref mt, .int (nI ts), .int (nI ps), .int pv, .ref mp, .int (nI V), .ref mg, .ref mc, .ref mh, .int (nI rm), .ref ms, .ref mu, .int (nI on), .ref of1, .ref ot1, .ref oi1, .long sd, .ref ml, .ref md, .ref mw])), zA G mg 49 g]) (W2 := [(m, .inr (6, [.int (nI 0), .ref mt, .int (nI ts), .int (nI ps), .int pv, .ref mp, .int (nI V), .ref mg, .ref mc, .ref mh, .int (nI rm), .ref ms, .ref mu, .int (nI on), .ref of1, .ref ot1, .ref oi1, .long sd, .ref ml, .ref md, .ref mw])), zA G mg 49 g]) (wr := [(m, .inr (6, [.int (nI 0), .ref mt, .int (nI ts), .int (nI ps), .int pv, .ref mp, .int (nI V), .ref mg, .ref mc, .ref mh, .int (nI rm), .ref ms, .ref mu, .int (nI on), .ref of1, .ref ot1, .ref oi1, .long sd, .ref ml, .ref md, .ref mw])), zA G mg 49 g]) (rest := []) SM (c_X9_in_X l G (z) 0 10 (by first | assumption | omega) (by first | assumption | omega)) (va_cwS 3 hts gX9_reliability_X9_in rfl rfl rfl (by decide +kernel) ⟨Nat.le_of_ble_eq_true rfl, Nat.le_of_ble_eq_true rfl⟩) hK hE hA hP hD hS hl.1 [] [0, 1] [0, 1] rfl rfl rfl (by decide) rfl rfl (Nat.le_of_ble_eq_true rfl) ⟨Nat.zero_le _, Nat.zero_le _⟩ dX9_reliability_29 (fun H locs hP hD hS => ?_)
      refine zb_ne (tgt := 38) hx hb dX9_reliability_32 (by decide) (fun c_3 => ?_) (fun c_3 => ?_)
      · skip
        refine lv_aload_n hx hb dX9_reliability_38 rfl (lv_at hl 0 rfl) ?_
        refine va_get (D := G.1) (ci := 6) (v := .ref mg) (C := RX9) (T := TX9) (N := 21) hx hb hts hinX9 hown hK hP 0 rfl rfl 7 (by decide) hlk20 (fun _ h9 => h9) rfl dX9_reliability_39 ?_
        refine lv_iconst (v := nI 0) hx hb dX9_reliability_42 (by decide) ?_
        refine zi_ald hx hb hK hP 1 rfl (by omega) (by omega) dX9_reliability_43 ?_
        refine lv_istore (lv' := [(4, .int (nI (g 0))), (0, .ref m), (1, .int x), (2, .int y), (3, .int z)]) hx hb dX9_reliability_44 hl (by decide) rfl (fun ls hl => ?_)
        refine lv_iload hx hb dX9_reliability_46 (lv_at hl 0 rfl) ?_
        refine lv_bipush (v := nI 8) hx hb dX9_reliability_48 (by decide) ?_
        refine zn_le (tgt := 56) hx hb dX9_reliability_50 (by decide) (by omega) (by omega) (fun c_4 => ?_) (fun c_4 => ?_)
        · skip
          exfalso; omega
        · skip
          refine lv_bipush (v := (-3)) hx hb dX9_reliability_53 (by decide) ?_
          exact kret _ _ _ _ _ _ (by unfold zReE; repeat (first | rw [if_pos (by first | assumption | omega)] | rw [if_neg (by first | assumption | omega)])) rfl hP hD hS dX9_reliability_55
      · skip
        refine lv_bipush (v := (-2)) hx hb dX9_reliability_35 (by decide) ?_
        exact kret _ _ _ _ _ _ (by unfold zReE; repeat (first | rw [if_pos (by first | assumption | omega)] | rw [if_neg (by first | assumption | omega)])) rfl hP hD hS dX9_reliability_37
    · skip
      refine lv_iconst (v := (-1)) hx hb dX9_reliability_21 (by decide) ?_
      exact kret _ _ _ _ _ _ (by unfold zReE; repeat (first | rw [if_pos (by first | assumption | omega)] | rw [if_neg (by first | assumption | omega)])) rfl hP hD hS dX9_reliability_22
set_option maxHeartbeats 400000 in
set_option maxRecDepth 100000 in
theorem c_X9_reliability_ok (l : Launch) (G : zG) (m mt mp mg mc mh ms mu of1 ot1 oi1 ml md mw th ts ps V rm on : Nat) (pv : Int32) (sd : Int64) (f wd g : Nat → Nat) (x y z : Int32) (hV : V ≤ 8) (hV1 : 1 ≤ V) (hL : zL2 f) (hw8 : ∀ i, wd i < 8) (hg0 : g 0 ≤ 16) (hg8 : ∀ i, 1 ≤ i → g i < 8) (hx : 0 ≤ x.toInt ∧ x.toInt < V) (hy : 0 ≤ y.toInt ∧ y.toInt < V) (hz : 0 ≤ z.toInt ∧ z.toInt < 11) (hk8 : g 0 ≤ 8) : MX ((Nat → Nat) × (Nat → Nat)) l yX9_reliability wsX9_reliability ({ frames := 3, cells := 0, slots := 0, locals := 76 }) G [.ref m, .int x, .int y, .int z] [(m, .inr (6, [.int (nI th), .ref mt, .int (nI ts), .int (nI ps), .int pv, .ref mp, .int (nI V), .ref mg, .ref mc, .ref mh, .int (nI rm), .ref ms, .ref mu, .int (nI on), .ref of1, .ref ot1, .ref oi1, .long sd, .ref ml, .ref md, .ref mw])), zA G ml 64 f, zA G mw 96 wd, zA G mg 49 g] (nI (mRe g x.toInt.toNat y.toInt.toNat z.toInt.toNat)) (fun u : (Nat → Nat) × (Nat → Nat) => [(m, .inr (6, [.int (nI 0), .ref mt, .int (nI ts), .int (nI ps), .int pv, .ref mp, .int (nI V), .ref mg, .ref mc, .ref mh, .int (nI rm), .ref ms, .ref mu, .int (nI on), .ref of1, .ref ot1, .ref oi1, .long sd, .ref ml, .ref md, .ref mw])), zA G ml 64 u.1, zA G mw 96 u.2, zA G mg 49 g]) (fun u : (Nat → Nat) × (Nat → Nat) => zL2 u.1 ∧ ∀ i, u.2 i < 8) := by
  refine MX.enter (cc := cX9_reliability) (maxL := 9) (by decide) rfl (Nat.le_of_ble_eq_true rfl) ?_
  intro pM eM sM mM bM tM cM QM AM ls hat kret
  obtain ⟨SM, hA, hK, hE, hP, hD, hS, hl⟩ := hat
  have hx := SM.1
  have hb := SM.2.1
  have hown : sM.vm.findClass RX9 = some mM.cls := SM.2.2.2.1
  have hts := SM.2.2.2.2
  have hinX9 : ∀ w ∈ u_ws RX9 TX9 21, w ∈ wsX9_reliability := by decide +kernel
  have hlk54 : (Cond.fieldLink RX9 54 "DyckReachabilityModel" "thrown" "I").before _ sM = true := hts _ (by decide +kernel)
  have hlk20 : (Cond.fieldLink RX9 20 "DyckReachabilityModel" "graph" "[I").before _ sM = true := hts _ (by decide +kernel)
  have h2k := z2pk (g 0) hk8
  have hl : lv_has ls 9 [(0, .ref m), (1, .int x), (2, .int y), (3, .int z)] := hl
  refine lv_aload_n hx hb dX9_reliability_0 rfl (lv_at hl 0 rfl) ?_
  refine lv_iconst (v := nI 0) hx hb dX9_reliability_1 (by decide) ?_
  refine va_put (D := G.1) (ci := 6) (v := .int (nI 0)) (ty := .int) (C := RX9) (T := TX9) (N := 21) hx hb hts hinX9 tyX9 tyX9_ok nmX9 hown hK hP hD hS 0 rfl rfl 0 (by decide) hlk54 (fun _ h9 => h9) rfl (by decide +kernel) rfl rfl (Nat.le_of_ble_eq_true rfl) dX9_reliability_2 (fun H locs hP hD hS => ?_)
  have hP : va_P G.1 vwCl [(m, .inr (6, [.int (nI 0), .ref mt, .int (nI ts), .int (nI ps), .int pv, .ref mp, .int (nI V), .ref mg, .ref mc, .ref mh, .int (nI rm), .ref ms, .ref mu, .int (nI on), .ref of1, .ref ot1, .ref oi1, .long sd, .ref ml, .ref md, .ref mw])), zA G ml 64 f, zA G mw 96 wd, zA G mg 49 g] H := hP
  have hD : va_D AM [(m, .inr (6, [.int (nI 0), .ref mt, .int (nI ts), .int (nI ps), .int pv, .ref mp, .int (nI V), .ref mg, .ref mc, .ref mh, .int (nI rm), .ref ms, .ref mu, .int (nI on), .ref of1, .ref ot1, .ref oi1, .long sd, .ref ml, .ref md, .ref mw])), zA G ml 64 f, zA G mw 96 wd, zA G mg 49 g] := hD
  refine lv_aload_n hx hb dX9_reliability_5 rfl (lv_at hl 0 rfl) ?_
  refine lv_iload_n hx hb dX9_reliability_6 rfl (lv_at hl 1 rfl) ?_
  refine zVi (W1 := [(m, .inr (6, [.int (nI 0), .ref mt, .int (nI ts), .int (nI ps), .int pv, .ref mp, .int (nI V), .ref mg, .ref mc, .ref mh, .int (nI rm), .ref ms, .ref mu, .int (nI on), .ref of1, .ref ot1, .ref oi1, .long sd, .ref ml, .ref md, .ref mw])), zA G ml 64 f, zA G mw 96 wd, zA G mg 49 g]) (W2 := [(m, .inr (6, [.int (nI 0), .ref mt, .int (nI ts), .int (nI ps), .int pv, .ref mp, .int (nI V), .ref mg, .ref mc, .ref mh, .int (nI rm), .ref ms, .ref mu, .int (nI on), .ref of1, .ref ot1, .ref oi1, .long sd, .ref ml, .ref md, .ref mw])), zA G ml 64 f, zA G mw 96 wd, zA G mg 49 g]) (wr := [zA G ml 64 f, zA G mw 96 wd, zA G mg 49 g]) (rest := []) SM (c_X9_noVertex l G m mt mp mg mc mh ms mu of1 ot1 oi1 ml md mw 0 ts ps V rm on pv sd x (by omega) (by omega)) (cwV 1 hts gX9_reliability_X9_noVertex rfl rfl rfl (by decide +kernel) ⟨Nat.le_of_ble_eq_true rfl, Nat.le_of_ble_eq_true rfl⟩) hK hE hA hP hD hS hl.1 [0] [1, 2, 3] [3, 0, 1, 2] rfl rfl rfl (by decide) (ci := 6) rfl rfl rfl rfl rfl (Nat.le_of_ble_eq_true rfl) ⟨Nat.zero_le _, Nat.zero_le _⟩ dX9_reliability_7 (fun H locs hP hD hS => ?_)
  refine zb_ne (tgt := 21) hx hb dX9_reliability_10 (by decide) (fun c_1 => ?_) (fun c_1 => ?_)
  · skip
    exfalso; omega
  · skip
    refine lv_aload_n hx hb dX9_reliability_13 rfl (lv_at hl 0 rfl) ?_
    refine lv_iload_n hx hb dX9_reliability_14 rfl (lv_at hl 2 rfl) ?_
    refine zVi (W1 := [(m, .inr (6, [.int (nI 0), .ref mt, .int (nI ts), .int (nI ps), .int pv, .ref mp, .int (nI V), .ref mg, .ref mc, .ref mh, .int (nI rm), .ref ms, .ref mu, .int (nI on), .ref of1, .ref ot1, .ref oi1, .long sd, .ref ml, .ref md, .ref mw])), zA G ml 64 f, zA G mw 96 wd, zA G mg 49 g]) (W2 := [(m, .inr (6, [.int (nI 0), .ref mt, .int (nI ts), .int (nI ps), .int pv, .ref mp, .int (nI V), .ref mg, .ref mc, .ref mh, .int (nI rm), .ref ms, .ref mu, .int (nI on), .ref of1, .ref ot1, .ref oi1, .long sd, .ref ml, .ref md, .ref mw])), zA G ml 64 f, zA G mw 96 wd, zA G mg 49 g]) (wr := [zA G ml 64 f, zA G mw 96 wd, zA G mg 49 g]) (rest := []) SM (c_X9_noVertex l G m mt mp mg mc mh ms mu of1 ot1 oi1 ml md mw 0 ts ps V rm on pv sd y (by omega) (by omega)) (cwV 1 hts gX9_reliability_X9_noVertex rfl rfl rfl (by decide +kernel) ⟨Nat.le_of_ble_eq_true rfl, Nat.le_of_ble_eq_true rfl⟩) hK hE hA hP hD hS hl.1 [0] [1, 2, 3] [3, 0, 1, 2] rfl rfl rfl (by decide) (ci := 6) rfl rfl rfl rfl rfl (Nat.le_of_ble_eq_true rfl) ⟨Nat.zero_le _, Nat.zero_le _⟩ dX9_reliability_15 (fun H locs hP hD hS => ?_)
    refine zb_eq (tgt := 23) hx hb dX9_reliability_18 (by decide) (fun c_2 => ?_) (fun c_2 => ?_)
    · skip
      refine lv_iload_n hx hb dX9_reliability_23 rfl (lv_at hl 3 rfl) ?_
      refine lv_i2l hx hb dX9_reliability_24 rfl ?_
      refine lv_lconst (v := lN 0) hx hb dX9_reliability_25 (by decide) ?_
      refine lv_ldc2 (v := lN 10) hx hb hown (hts (.constantLong RX9 189 (10)) (by decide +kernel)) dX9_reliability_26 ?_
      refine zSi (W1 := [(m, .inr (6, [.int (nI 0), .ref mt, .int (nI ts), .int (nI ps), .int pv, .ref mp, .int (nI V), .ref mg, .ref mc, .ref mh, .int (nI rm), .ref ms, .ref mu, .int (nI on), .ref of1, .ref ot1, .ref oi1, .long sd, .ref ml, .ref md, .ref mw])), zA G ml 64 f, zA G mw 96 wd, zA G mg 49 g]) (W2 := [(m, .inr (6, [.int (nI 0), .ref mt, .int (nI ts), .int (nI ps), .int pv, .ref mp, .int (nI V), .ref mg, .ref mc, .ref mh, .int (nI rm), .ref ms, .ref mu, .int (nI on), .ref of1, .ref ot1, .ref oi1, .long sd, .ref ml, .ref md, .ref mw])), zA G ml 64 f, zA G mw 96 wd, zA G mg 49 g]) (wr := [(m, .inr (6, [.int (nI 0), .ref mt, .int (nI ts), .int (nI ps), .int pv, .ref mp, .int (nI V), .ref mg, .ref mc, .ref mh, .int (nI rm), .ref ms, .ref mu, .int (nI on), .ref of1, .ref ot1, .ref oi1, .long sd, .ref ml, .ref md, .ref mw])), zA G ml 64 f, zA G mw 96 wd, zA G mg 49 g]) (rest := []) SM (c_X9_in_X l G (z) 0 10 (by omega) (by omega)) (va_cwS 3 hts gX9_reliability_X9_in rfl rfl rfl (by decide +kernel) ⟨Nat.le_of_ble_eq_true rfl, Nat.le_of_ble_eq_true rfl⟩) hK hE hA hP hD hS hl.1 [] [0, 1, 2, 3] [0, 1, 2, 3] rfl rfl rfl (by decide) rfl rfl (Nat.le_of_ble_eq_true rfl) ⟨Nat.zero_le _, Nat.zero_le _⟩ dX9_reliability_29 (fun H locs hP hD hS => ?_)
      refine zb_ne (tgt := 38) hx hb dX9_reliability_32 (by decide) (fun c_3 => ?_) (fun c_3 => ?_)
      · skip
        have hl : lv_has ls 9 [(0, .ref m), (1, .int (nI x.toInt.toNat)), (2, .int (nI y.toInt.toNat)), (3, .int (nI z.toInt.toNat))] := by rw [← xN_eq (x := x) (by omega), ← xN_eq (x := y) (by omega), ← xN_eq (x := z) (by omega)]; exact hl
        refine lv_aload_n hx hb dX9_reliability_38 rfl (lv_at hl 0 rfl) ?_
        refine va_get (D := G.1) (ci := 6) (v := .ref mg) (C := RX9) (T := TX9) (N := 21) hx hb hts hinX9 hown hK hP 0 rfl rfl 7 (by decide) hlk20 (fun _ h9 => h9) rfl dX9_reliability_39 ?_
        refine lv_iconst (v := nI 0) hx hb dX9_reliability_42 (by decide) ?_
        refine zi_ald hx hb hK hP 3 rfl (by omega) (by omega) dX9_reliability_43 ?_
        refine lv_istore (lv' := [(4, .int (nI (g 0))), (0, .ref m), (1, .int (nI x.toInt.toNat)), (2, .int (nI y.toInt.toNat)), (3, .int (nI z.toInt.toNat))]) hx hb dX9_reliability_44 hl (by decide) rfl (fun ls hl => ?_)
        refine lv_iload hx hb dX9_reliability_46 (lv_at hl 0 rfl) ?_
        refine lv_bipush (v := nI 8) hx hb dX9_reliability_48 (by decide) ?_
        refine zn_le (tgt := 56) hx hb dX9_reliability_50 (by decide) (by omega) (by omega) (fun c_4 => ?_) (fun c_4 => ?_)
        · skip
          refine lv_iconst (v := nI 0) hx hb dX9_reliability_56 (by decide) ?_
          refine lv_istore (lv' := [(5, .int (nI 0)), (4, .int (nI (g 0))), (0, .ref m), (1, .int (nI x.toInt.toNat)), (2, .int (nI y.toInt.toNat)), (3, .int (nI z.toInt.toNat))]) hx hb dX9_reliability_57 hl (by decide) rfl (fun ls hl => ?_)
          refine lv_iconst (v := nI 0) hx hb dX9_reliability_59 (by decide) ?_
          refine lv_istore (lv' := [(6, .int (nI 0)), (5, .int (nI 0)), (4, .int (nI (g 0))), (0, .ref m), (1, .int (nI x.toInt.toNat)), (2, .int (nI y.toInt.toNat)), (3, .int (nI z.toInt.toNat))]) hx hb dX9_reliability_60 hl (by decide) rfl (fun ls hl => ?_)
          have lp62 : ∀ (n9 : Nat), ∀ (p a : Nat) (fl wl : Nat → Nat), (p ≤ 2 ^ g 0) → (a = zIt (mReF g x.toInt.toNat y.toInt.toNat z.toInt.toNat) p 0) → (zL2 fl) → (∀ i, wl i < 8) → (2 ^ g 0 - p) < n9 → ∀ (H : Heap) (locs : List Loc) (ls : Array Slot), va_P G.1 vwCl [(m, .inr (6, [.int (nI 0), .ref mt, .int (nI ts), .int (nI ps), .int pv, .ref mp, .int (nI V), .ref mg, .ref mc, .ref mh, .int (nI rm), .ref ms, .ref mu, .int (nI on), .ref of1, .ref ot1, .ref oi1, .long sd, .ref ml, .ref md, .ref mw])), zA G ml 64 fl, zA G mw 96 wl, zA G mg 49 g] H → va_D AM [(m, .inr (6, [.int (nI 0), .ref mt, .int (nI ts), .int (nI ps), .int pv, .ref mp, .int (nI V), .ref mg, .ref mc, .ref mh, .int (nI rm), .ref ms, .ref mu, .int (nI on), .ref of1, .ref ot1, .ref oi1, .long sd, .ref ml, .ref md, .ref mw])), zA G ml 64 fl, zA G mw 96 wl, zA G mg 49 g] → va_S AM sM.heap H locs → lv_has ls 9 [(0, .ref m), (1, .int (nI x.toInt.toNat)), (2, .int (nI y.toInt.toNat)), (3, .int (nI z.toInt.toNat)), (4, .int (nI (g 0))), (5, .int (nI a)), (6, .int (nI p))] → W pM l eM ({ frames := 3, cells := 0, slots := 0, locals := 76 }) sM mM (([.ref m, .int x, .int y, .int z] : List Value).toArray) bM tM cM H locs 0 0 QM (F0 mM 62 ls []) := by
            intro n9
            induction n9 with
            | zero =>
              intro _ _ _ _ _ _ _ _ h9
              exact absurd h9 (Nat.not_lt_zero _)
            | succ n9 ih9 =>
              intro p a fl wl h1 hq hfl hwl hmu62 H locs ls hP hD hS hl
              have ih62 := ih9
              clear ih9
              refine lv_iload hx hb dX9_reliability_62 (lv_at hl 6 rfl) ?_
              refine lv_iconst (v := nI 1) hx hb dX9_reliability_64 (by decide) ?_
              refine lv_iload hx hb dX9_reliability_65 (lv_at hl 4 rfl) ?_
              refine zi_shl1 hx hb dX9_reliability_67 (by omega) ?_
              refine zn_ge (tgt := 149) hx hb dX9_reliability_68 (by decide) (by omega) (by omega) (fun c_5 => ?_) (fun c_5 => ?_)
              · skip
                refine lv_iload hx hb dX9_reliability_149 (lv_at hl 5 rfl) ?_
                exact kret _ _ _ _ _ _ (fl, wl) (congrArg nI (by have hq9 : p = 2 ^ g 0 := (by omega); unfold mRe; rw [← hq9]; exact hq)) ⟨hfl, hwl⟩ rfl hP hD hS dX9_reliability_151
              · skip
                refine lv_aload_n hx hb dX9_reliability_71 rfl (lv_at hl 0 rfl) ?_
                refine lv_aload_n hx hb dX9_reliability_72 rfl (lv_at hl 0 rfl) ?_
                refine va_get (D := G.1) (ci := 6) (v := .ref mg) (C := RX9) (T := TX9) (N := 21) hx hb hts hinX9 hown hK hP 0 rfl rfl 7 (by decide) hlk20 (fun _ h9 => h9) rfl dX9_reliability_73 ?_
                refine lv_iload hx hb dX9_reliability_76 (lv_at hl 6 rfl) ?_
                refine zVv (W1 := [(m, .inr (6, [.int (nI 0), .ref mt, .int (nI ts), .int (nI ps), .int pv, .ref mp, .int (nI V), .ref mg, .ref mc, .ref mh, .int (nI rm), .ref ms, .ref mu, .int (nI on), .ref of1, .ref ot1, .ref oi1, .long sd, .ref ml, .ref md, .ref mw])), zA G ml 64 fl, zA G mw 96 wl, zA G mg 49 g]) (W2 := [(m, .inr (6, [.int (nI 0), .ref mt, .int (nI ts), .int (nI ps), .int pv, .ref mp, .int (nI V), .ref mg, .ref mc, .ref mh, .int (nI rm), .ref ms, .ref mu, .int (nI on), .ref of1, .ref ot1, .ref oi1, .long sd, .ref ml, .ref md, .ref mw])), zA G ml 64 (mT g p), zA G mw 96 (zWd p g wl (g 0)), zA G mg 49 g]) (wr := []) (rest := []) SM (c_X9_closeOf l G m mt mp mg mc mh ms mu of1 ot1 oi1 ml md mw 0 ts ps V rm on pv sd fl wl mg g p hfl hwl (by omega) hg8 (by omega)) (cwV 2 hts gX9_reliability_X9_closeOf rfl rfl rfl (by decide +kernel) ⟨Nat.le_of_ble_eq_true rfl, Nat.le_of_ble_eq_true rfl⟩) hK hE hA hP hD hS hl.1 [0, 1, 2, 3] [] [0, 1, 2, 3] rfl rfl rfl (by decide) (ci := 6) rfl rfl rfl rfl rfl (Nat.le_of_ble_eq_true rfl) ⟨Nat.zero_le _, Nat.zero_le _⟩ dX9_reliability_78 (fun H locs hP hD hS => ?_)
                refine lv_iconst (v := nI 1) hx hb dX9_reliability_81 (by decide) ?_
                refine lv_istore (lv' := [(7, .int (nI 1)), (0, .ref m), (1, .int (nI x.toInt.toNat)), (2, .int (nI y.toInt.toNat)), (3, .int (nI z.toInt.toNat)), (4, .int (nI (g 0))), (5, .int (nI a)), (6, .int (nI p))]) hx hb dX9_reliability_82 hl (by decide) rfl (fun ls hl => ?_)
                refine lv_iconst (v := nI 0) hx hb dX9_reliability_84 (by decide) ?_
                refine lv_istore (lv' := [(8, .int (nI 0)), (7, .int (nI 1)), (0, .ref m), (1, .int (nI x.toInt.toNat)), (2, .int (nI y.toInt.toNat)), (3, .int (nI z.toInt.toNat)), (4, .int (nI (g 0))), (5, .int (nI a)), (6, .int (nI p))]) hx hb dX9_reliability_85 hl (by decide) rfl (fun ls hl => ?_)
                have lp87 : ∀ (n9 : Nat), ∀ (i w : Nat), (i ≤ g 0) → (w = zIt (mReW z.toInt.toNat p) i 1) → (g 0 - i) < n9 → ∀ (H : Heap) (locs : List Loc) (ls : Array Slot), va_P G.1 vwCl [(m, .inr (6, [.int (nI 0), .ref mt, .int (nI ts), .int (nI ps), .int pv, .ref mp, .int (nI V), .ref mg, .ref mc, .ref mh, .int (nI rm), .ref ms, .ref mu, .int (nI on), .ref of1, .ref ot1, .ref oi1, .long sd, .ref ml, .ref md, .ref mw])), zA G ml 64 (mT g p), zA G mw 96 (zWd p g wl (g 0)), zA G mg 49 g] H → va_D AM [(m, .inr (6, [.int (nI 0), .ref mt, .int (nI ts), .int (nI ps), .int pv, .ref mp, .int (nI V), .ref mg, .ref mc, .ref mh, .int (nI rm), .ref ms, .ref mu, .int (nI on), .ref of1, .ref ot1, .ref oi1, .long sd, .ref ml, .ref md, .ref mw])), zA G ml 64 (mT g p), zA G mw 96 (zWd p g wl (g 0)), zA G mg 49 g] → va_S AM sM.heap H locs → lv_has ls 9 [(0, .ref m), (1, .int (nI x.toInt.toNat)), (2, .int (nI y.toInt.toNat)), (3, .int (nI z.toInt.toNat)), (4, .int (nI (g 0))), (5, .int (nI a)), (6, .int (nI p)), (7, .int (nI w)), (8, .int (nI i))] → W pM l eM ({ frames := 3, cells := 0, slots := 0, locals := 76 }) sM mM (([.ref m, .int x, .int y, .int z] : List Value).toArray) bM tM cM H locs 0 0 QM (F0 mM 87 ls []) := by
                  intro n9
                  induction n9 with
                  | zero =>
                    intro _ _ _ _ h9
                    exact absurd h9 (Nat.not_lt_zero _)
                  | succ n9 ih9 =>
                    intro i w h3 hw hmu87 H locs ls hP hD hS hl
                    have ih87 := ih9
                    clear ih9
                    refine lv_iload hx hb dX9_reliability_87 (lv_at hl 8 rfl) ?_
                    refine lv_iload hx hb dX9_reliability_89 (lv_at hl 4 rfl) ?_
                    refine zn_ge (tgt := 123) hx hb dX9_reliability_91 (by decide) (by omega) (by omega) (fun c_6 => ?_) (fun c_6 => ?_)
                    · skip
                      refine lv_iload hx hb dX9_reliability_123 (lv_at hl 5 rfl) ?_
                      refine lv_aload_n hx hb dX9_reliability_125 rfl (lv_at hl 0 rfl) ?_
                      refine lv_iload_n hx hb dX9_reliability_126 rfl (lv_at hl 1 rfl) ?_
                      refine lv_iload_n hx hb dX9_reliability_127 rfl (lv_at hl 2 rfl) ?_
                      refine zVi (W1 := [(m, .inr (6, [.int (nI 0), .ref mt, .int (nI ts), .int (nI ps), .int pv, .ref mp, .int (nI V), .ref mg, .ref mc, .ref mh, .int (nI rm), .ref ms, .ref mu, .int (nI on), .ref of1, .ref ot1, .ref oi1, .long sd, .ref ml, .ref md, .ref mw])), zA G ml 64 (mT g p), zA G mw 96 (zWd p g wl (g 0)), zA G mg 49 g]) (W2 := [(m, .inr (6, [.int (nI 0), .ref mt, .int (nI ts), .int (nI ps), .int pv, .ref mp, .int (nI V), .ref mg, .ref mc, .ref mh, .int (nI rm), .ref ms, .ref mu, .int (nI on), .ref of1, .ref ot1, .ref oi1, .long sd, .ref ml, .ref md, .ref mw])), zA G ml 64 (mT g p), zA G mw 96 (zWd p g wl (g 0)), zA G mg 49 g]) (wr := [zA G mw 96 (zWd p g wl (g 0)), zA G mg 49 g]) (rest := [.int (nI a)]) SM (c_X9_reaches l G m mt mp mg mc mh ms mu of1 ot1 oi1 ml md mw 0 ts ps V rm on pv sd (mT g p) x.toInt.toNat y.toInt.toNat (mT_2 _ _) (by omega) (by omega)) (cwV 2 hts gX9_reliability_X9_reaches rfl rfl rfl (by decide +kernel) ⟨Nat.le_of_ble_eq_true rfl, Nat.le_of_ble_eq_true rfl⟩) hK hE hA hP hD hS hl.1 [0, 1] [2, 3] [2, 3, 0, 1] rfl rfl rfl (by decide) (ci := 6) rfl rfl rfl rfl rfl (Nat.le_of_ble_eq_true rfl) ⟨Nat.zero_le _, Nat.zero_le _⟩ dX9_reliability_128 (fun H locs hP hD hS => ?_)
                      refine zb_eq (tgt := 139) hx hb dX9_reliability_131 (by decide) (fun c_7 => ?_) (fun c_7 => ?_)
                      · skip
                        refine lv_iconst (v := nI 0) hx hb dX9_reliability_139 (by decide) ?_
                        refine zi_addk (n := a) hx hb dX9_reliability_140 (by omega) ?_
                        refine lv_istore (lv' := [(5, .int (nI a)), (0, .ref m), (1, .int (nI x.toInt.toNat)), (2, .int (nI y.toInt.toNat)), (3, .int (nI z.toInt.toNat)), (4, .int (nI (g 0))), (6, .int (nI p)), (7, .int (nI w)), (8, .int (nI i))]) hx hb dX9_reliability_141 hl (by decide) rfl (fun ls hl => ?_)
                        refine lv_iinc (v := nI (p + 1)) (lv' := [(6, .int (nI (p + 1))), (5, .int (nI a)), (0, .ref m), (1, .int (nI x.toInt.toNat)), (2, .int (nI y.toInt.toNat)), (3, .int (nI z.toInt.toNat)), (4, .int (nI (g 0))), (7, .int (nI w)), (8, .int (nI i))]) hx hb dX9_reliability_143 hl (k := 6) rfl (zinc p 1) (by decide) rfl (fun ls hl => ?_)
                        refine lv_goto (tgt := 62) hx hb dX9_reliability_146 (by decide) ?_
                        exact ih62 (p + 1) a (mT g p) (zWd p g wl (g 0)) (by omega) (by have hq9 : i = g 0 := (by omega); rw [zIt_s, ← hq]; unfold mReF; first | rw [if_pos (by omega), hw, hq9] | rw [if_neg (by omega)]) (mT_2 _ _) (zWd_8 hwl hg8 _) (by omega) _ _ _ hP hD hS (lv_sub hl [2, 3, 4, 5, 6, 1, 0] rfl)
                      · skip
                        refine lv_iload hx hb dX9_reliability_134 (lv_at hl 7 rfl) ?_
                        refine lv_goto (tgt := 140) hx hb dX9_reliability_136 (by decide) ?_
                        refine zi_add hx hb dX9_reliability_140 ?_
                        refine lv_istore (lv' := [(5, .int (nI (a + w))), (0, .ref m), (1, .int (nI x.toInt.toNat)), (2, .int (nI y.toInt.toNat)), (3, .int (nI z.toInt.toNat)), (4, .int (nI (g 0))), (6, .int (nI p)), (7, .int (nI w)), (8, .int (nI i))]) hx hb dX9_reliability_141 hl (by decide) rfl (fun ls hl => ?_)
                        refine lv_iinc (v := nI (p + 1)) (lv' := [(6, .int (nI (p + 1))), (5, .int (nI (a + w))), (0, .ref m), (1, .int (nI x.toInt.toNat)), (2, .int (nI y.toInt.toNat)), (3, .int (nI z.toInt.toNat)), (4, .int (nI (g 0))), (7, .int (nI w)), (8, .int (nI i))]) hx hb dX9_reliability_143 hl (k := 6) rfl (zinc p 1) (by decide) rfl (fun ls hl => ?_)
                        refine lv_goto (tgt := 62) hx hb dX9_reliability_146 (by decide) ?_
                        exact ih62 (p + 1) (a + w) (mT g p) (zWd p g wl (g 0)) (by omega) (by have hq9 : i = g 0 := (by omega); rw [zIt_s, ← hq]; unfold mReF; first | rw [if_pos (by omega), hw, hq9] | rw [if_neg (by omega)]) (mT_2 _ _) (zWd_8 hwl hg8 _) (by omega) _ _ _ hP hD hS (lv_sub hl [2, 3, 4, 5, 6, 1, 0] rfl)
                    · skip
                      refine lv_iload hx hb dX9_reliability_94 (lv_at hl 7 rfl) ?_
                      refine lv_iload hx hb dX9_reliability_96 (lv_at hl 6 rfl) ?_
                      refine lv_iload hx hb dX9_reliability_98 (lv_at hl 8 rfl) ?_
                      refine zSi (W1 := [(m, .inr (6, [.int (nI 0), .ref mt, .int (nI ts), .int (nI ps), .int pv, .ref mp, .int (nI V), .ref mg, .ref mc, .ref mh, .int (nI rm), .ref ms, .ref mu, .int (nI on), .ref of1, .ref ot1, .ref oi1, .long sd, .ref ml, .ref md, .ref mw])), zA G ml 64 (mT g p), zA G mw 96 (zWd p g wl (g 0)), zA G mg 49 g]) (W2 := [(m, .inr (6, [.int (nI 0), .ref mt, .int (nI ts), .int (nI ps), .int pv, .ref mp, .int (nI V), .ref mg, .ref mc, .ref mh, .int (nI rm), .ref ms, .ref mu, .int (nI on), .ref of1, .ref ot1, .ref oi1, .long sd, .ref ml, .ref md, .ref mw])), zA G ml 64 (mT g p), zA G mw 96 (zWd p g wl (g 0)), zA G mg 49 g]) (wr := [(m, .inr (6, [.int (nI 0), .ref mt, .int (nI ts), .int (nI ps), .int pv, .ref mp, .int (nI V), .ref mg, .ref mc, .ref mh, .int (nI rm), .ref ms, .ref mu, .int (nI on), .ref of1, .ref ot1, .ref oi1, .long sd, .ref ml, .ref md, .ref mw])), zA G ml 64 (mT g p), zA G mw 96 (zWd p g wl (g 0)), zA G mg 49 g]) (rest := [.int (nI w)]) SM (c_X9_has l G p i (by omega) (by omega)) (va_cwS 2 hts gX9_reliability_X9_has rfl rfl rfl (by decide +kernel) ⟨Nat.le_of_ble_eq_true rfl, Nat.le_of_ble_eq_true rfl⟩) hK hE hA hP hD hS hl.1 [] [0, 1, 2, 3] [0, 1, 2, 3] rfl rfl rfl (by decide) rfl rfl (Nat.le_of_ble_eq_true rfl) ⟨Nat.zero_le _, Nat.zero_le _⟩ dX9_reliability_100 (fun H locs hP hD hS => ?_)
                      refine zb_eq (tgt := 113) hx hb dX9_reliability_103 (by decide) (fun c_8 => ?_) (fun c_8 => ?_)
                      · skip
                        refine lv_iload_n hx hb dX9_reliability_113 rfl (lv_at hl 3 rfl) ?_
                        refine zi_mul hx hb dX9_reliability_114 ?_
                        refine lv_istore (lv' := [(7, .int (nI (w * z.toInt.toNat))), (0, .ref m), (1, .int (nI x.toInt.toNat)), (2, .int (nI y.toInt.toNat)), (3, .int (nI z.toInt.toNat)), (4, .int (nI (g 0))), (5, .int (nI a)), (6, .int (nI p)), (8, .int (nI i))]) hx hb dX9_reliability_115 hl (by decide) rfl (fun ls hl => ?_)
                        refine lv_iinc (v := nI (i + 1)) (lv' := [(8, .int (nI (i + 1))), (7, .int (nI (w * z.toInt.toNat))), (0, .ref m), (1, .int (nI x.toInt.toNat)), (2, .int (nI y.toInt.toNat)), (3, .int (nI z.toInt.toNat)), (4, .int (nI (g 0))), (5, .int (nI a)), (6, .int (nI p))]) hx hb dX9_reliability_117 hl (k := 8) rfl (zinc i 1) (by decide) rfl (fun ls hl => ?_)
                        refine lv_goto (tgt := 87) hx hb dX9_reliability_120 (by decide) ?_
                        exact ih87 (i + 1) (w * z.toInt.toNat) (by omega) (by rw [zIt_s, ← hw]; unfold mReW; first | rw [if_pos (by omega)] | rw [if_neg (by omega)]) (by omega) _ _ _ hP hD hS (lv_sub hl [2, 3, 4, 5, 6, 7, 8, 1, 0] rfl)
                      · skip
                        refine lv_bipush (v := nI 10) hx hb dX9_reliability_106 (by decide) ?_
                        refine lv_iload_n hx hb dX9_reliability_108 rfl (lv_at hl 3 rfl) ?_
                        refine zi_sub hx hb dX9_reliability_109 (by omega) ?_
                        refine lv_goto (tgt := 114) hx hb dX9_reliability_110 (by decide) ?_
                        refine zi_mul hx hb dX9_reliability_114 ?_
                        refine lv_istore (lv' := [(7, .int (nI (w * (10 - z.toInt.toNat)))), (0, .ref m), (1, .int (nI x.toInt.toNat)), (2, .int (nI y.toInt.toNat)), (3, .int (nI z.toInt.toNat)), (4, .int (nI (g 0))), (5, .int (nI a)), (6, .int (nI p)), (8, .int (nI i))]) hx hb dX9_reliability_115 hl (by decide) rfl (fun ls hl => ?_)
                        refine lv_iinc (v := nI (i + 1)) (lv' := [(8, .int (nI (i + 1))), (7, .int (nI (w * (10 - z.toInt.toNat)))), (0, .ref m), (1, .int (nI x.toInt.toNat)), (2, .int (nI y.toInt.toNat)), (3, .int (nI z.toInt.toNat)), (4, .int (nI (g 0))), (5, .int (nI a)), (6, .int (nI p))]) hx hb dX9_reliability_117 hl (k := 8) rfl (zinc i 1) (by decide) rfl (fun ls hl => ?_)
                        refine lv_goto (tgt := 87) hx hb dX9_reliability_120 (by decide) ?_
                        exact ih87 (i + 1) (w * (10 - z.toInt.toNat)) (by omega) (by rw [zIt_s, ← hw]; unfold mReW; first | rw [if_pos (by omega)] | rw [if_neg (by omega)]) (by omega) _ _ _ hP hD hS (lv_sub hl [2, 3, 4, 5, 6, 7, 8, 1, 0] rfl)
                exact lp87 (g 0 - 0 + 1) 0 1 (by omega) rfl (Nat.lt_succ_self _) _ _ _ hP hD hS (lv_sub hl [2, 3, 4, 5, 6, 7, 8, 1, 0] rfl)
          exact lp62 (2 ^ g 0 - 0 + 1) 0 0 f wd (Nat.zero_le _) rfl hL hw8 (Nat.lt_succ_self _) _ _ _ hP hD hS (lv_sub hl [3, 4, 5, 6, 2, 1, 0] rfl)
        · skip
          exfalso; omega
      · skip
        exfalso; omega
    · skip
      exfalso; omega
set_option maxHeartbeats 400000 in
set_option maxRecDepth 100000 in
theorem c_X9_toggle (l : Launch) (G : zG) (m mt mp mg mc mh ms mu of1 ot1 oi1 ml md mw th ts ps V rm on : Nat) (pv : Int32) (sd : Int64) (gc : Nat → Nat) (x y z : Nat) (hc0 : gc 0 ≤ 16) (hc8 : ∀ i, 1 ≤ i → gc i < 8) (hx8 : x < 8) (hy8 : y < 8) (hz8 : z < 8) : MV l yX9_toggle wsX9_toggle ({ frames := 1, cells := 0, slots := 0, locals := 24 }) G [.ref m, .int (nI x), .int (nI y), .int (nI z)] [(m, .inr (6, [.int (nI th), .ref mt, .int (nI ts), .int (nI ps), .int pv, .ref mp, .int (nI V), .ref mg, .ref mc, .ref mh, .int (nI rm), .ref ms, .ref mu, .int (nI on), .ref of1, .ref ot1, .ref oi1, .long sd, .ref ml, .ref md, .ref mw])), zA G mc 49 gc] [(m, .inr (6, [.int (nI th), .ref mt, .int (nI ts), .int (nI ps), .int pv, .ref mp, .int (nI V), .ref mg, .ref mc, .ref mh, .int (nI rm), .ref ms, .ref mu, .int (nI on), .ref of1, .ref ot1, .ref oi1, .long sd, .ref ml, .ref md, .ref mw])), zA G mc 49 (mTg gc x y z)] := by
  refine MV.enter (cc := cX9_toggle) (maxL := 6) (by decide) rfl (Nat.le_of_ble_eq_true rfl) ?_
  intro pM eM sM mM bM tM cM QM AM ls hat kret
  obtain ⟨SM, hA, hK, hE, hP, hD, hS, hl⟩ := hat
  have hx := SM.1
  have hb := SM.2.1
  have hown : sM.vm.findClass RX9 = some mM.cls := SM.2.2.2.1
  have hts := SM.2.2.2.2
  have hinX9 : ∀ w ∈ u_ws RX9 TX9 21, w ∈ wsX9_toggle := by decide +kernel
  have hlk23 : (Cond.fieldLink RX9 23 "DyckReachabilityModel" "copy" "[I").before _ sM = true := hts _ (by decide +kernel)
  have hl : lv_has ls 6 [(0, .ref m), (1, .int (nI x)), (2, .int (nI y)), (3, .int (nI z))] := hl
  refine lv_iconst (v := nI 0) hx hb dX9_toggle_0 (by decide) ?_
  refine lv_istore (lv' := [(4, .int (nI 0)), (0, .ref m), (1, .int (nI x)), (2, .int (nI y)), (3, .int (nI z))]) hx hb dX9_toggle_1 hl (by decide) rfl (fun ls hl => ?_)
  have lp3 : ∀ (n9 : Nat), ∀ (i : Nat), (i ≤ gc 0) → (∀ j, j < i → mTgP gc x y z j = false) → (gc 0 - i) < n9 → ∀ (H : Heap) (locs : List Loc) (ls : Array Slot), va_P G.1 vwCl [(m, .inr (6, [.int (nI th), .ref mt, .int (nI ts), .int (nI ps), .int pv, .ref mp, .int (nI V), .ref mg, .ref mc, .ref mh, .int (nI rm), .ref ms, .ref mu, .int (nI on), .ref of1, .ref ot1, .ref oi1, .long sd, .ref ml, .ref md, .ref mw])), zA G mc 49 gc] H → va_D AM [(m, .inr (6, [.int (nI th), .ref mt, .int (nI ts), .int (nI ps), .int pv, .ref mp, .int (nI V), .ref mg, .ref mc, .ref mh, .int (nI rm), .ref ms, .ref mu, .int (nI on), .ref of1, .ref ot1, .ref oi1, .long sd, .ref ml, .ref md, .ref mw])), zA G mc 49 gc] → va_S AM sM.heap H locs → lv_has ls 6 [(0, .ref m), (1, .int (nI x)), (2, .int (nI y)), (3, .int (nI z)), (4, .int (nI i))] → W pM l eM ({ frames := 1, cells := 0, slots := 0, locals := 24 }) sM mM (([.ref m, .int (nI x), .int (nI y), .int (nI z)] : List Value).toArray) bM tM cM H locs 0 0 QM (F0 mM 3 ls []) := by
    intro n9
    induction n9 with
    | zero =>
      intro _ _ _ h9
      exact absurd h9 (Nat.not_lt_zero _)
    | succ n9 ih9 =>
      intro i h1 hn hmu3 H locs ls hP hD hS hl
      have ih3 := ih9
      clear ih9
      refine lv_iload hx hb dX9_toggle_3 (lv_at hl 4 rfl) ?_
      refine lv_aload_n hx hb dX9_toggle_5 rfl (lv_at hl 0 rfl) ?_
      refine va_get (D := G.1) (ci := 6) (v := .ref mc) (C := RX9) (T := TX9) (N := 21) hx hb hts hinX9 hown hK hP 0 rfl rfl 8 (by decide) hlk23 (fun _ h9 => h9) rfl dX9_toggle_6 ?_
      refine lv_iconst (v := nI 0) hx hb dX9_toggle_9 (by decide) ?_
      refine zi_ald hx hb hK hP 1 rfl (by omega) (by omega) dX9_toggle_10 ?_
      have hb_1 := hc0
      refine zn_ge (tgt := 75) hx hb dX9_toggle_11 (by decide) (by omega) (by omega) (fun c_2 => ?_) (fun c_2 => ?_)
      · skip
        refine lv_aload_n hx hb dX9_toggle_75 rfl (lv_at hl 0 rfl) ?_
        refine va_get (D := G.1) (ci := 6) (v := .ref mc) (C := RX9) (T := TX9) (N := 21) hx hb hts hinX9 hown hK hP 0 rfl rfl 8 (by decide) hlk23 (fun _ h9 => h9) rfl dX9_toggle_76 ?_
        refine lv_iconst (v := nI 0) hx hb dX9_toggle_79 (by decide) ?_
        refine zi_ald hx hb hK hP 1 rfl (by omega) (by omega) dX9_toggle_80 ?_
        have hb_3 := hc0
        refine lv_bipush (v := nI 16) hx hb dX9_toggle_81 (by decide) ?_
        refine zn_ge (tgt := 96) hx hb dX9_toggle_83 (by decide) (by omega) (by omega) (fun c_4 => ?_) (fun c_4 => ?_)
        · skip
          exact kret _ _ _ _ _ (by first | rw [mTg_put hn (by omega) (by omega)] | rw [← mTg_no hn (by omega) (by omega)]) hP hD hS dX9_toggle_96
        · skip
          refine lv_aload_n hx hb dX9_toggle_86 rfl (lv_at hl 0 rfl) ?_
          refine va_get (D := G.1) (ci := 6) (v := .ref mc) (C := RX9) (T := TX9) (N := 21) hx hb hts hinX9 hown hK hP 0 rfl rfl 8 (by decide) hlk23 (fun _ h9 => h9) rfl dX9_toggle_87 ?_
          refine lv_iload_n hx hb dX9_toggle_90 rfl (lv_at hl 1 rfl) ?_
          refine lv_iload_n hx hb dX9_toggle_91 rfl (lv_at hl 2 rfl) ?_
          refine lv_iload_n hx hb dX9_toggle_92 rfl (lv_at hl 3 rfl) ?_
          refine zSv (W1 := [(m, .inr (6, [.int (nI th), .ref mt, .int (nI ts), .int (nI ps), .int pv, .ref mp, .int (nI V), .ref mg, .ref mc, .ref mh, .int (nI rm), .ref ms, .ref mu, .int (nI on), .ref of1, .ref ot1, .ref oi1, .long sd, .ref ml, .ref md, .ref mw])), zA G mc 49 gc]) (W2 := [(m, .inr (6, [.int (nI th), .ref mt, .int (nI ts), .int (nI ps), .int pv, .ref mp, .int (nI V), .ref mg, .ref mc, .ref mh, .int (nI rm), .ref ms, .ref mu, .int (nI on), .ref of1, .ref ot1, .ref oi1, .long sd, .ref ml, .ref md, .ref mw])), zA G mc 49 (zMp gc x y z)]) (wr := [(m, .inr (6, [.int (nI th), .ref mt, .int (nI ts), .int (nI ps), .int pv, .ref mp, .int (nI V), .ref mg, .ref mc, .ref mh, .int (nI rm), .ref ms, .ref mu, .int (nI on), .ref of1, .ref ot1, .ref oi1, .long sd, .ref ml, .ref md, .ref mw]))]) (rest := []) SM (c_X9_put l G mc gc x y z (by omega)) (va_cwS 4 hts gX9_toggle_X9_put rfl rfl rfl (by decide +kernel) ⟨Nat.le_of_ble_eq_true rfl, Nat.le_of_ble_eq_true rfl⟩) hK hE hA hP hD hS hl.1 [1] [0] [0, 1] rfl rfl rfl (by decide) rfl rfl (Nat.le_of_ble_eq_true rfl) ⟨Nat.zero_le _, Nat.zero_le _⟩ dX9_toggle_93 (fun H locs hP hD hS => ?_)
          exact kret _ _ _ _ _ (by first | rw [mTg_put hn (by omega) (by omega)] | rw [← mTg_no hn (by omega) (by omega)]) hP hD hS dX9_toggle_96
      · skip
        refine lv_iconst (v := nI 1) hx hb dX9_toggle_14 (by decide) ?_
        refine lv_iconst (v := nI 3) hx hb dX9_toggle_15 (by decide) ?_
        refine lv_iload hx hb dX9_toggle_16 (lv_at hl 4 rfl) ?_
        refine zi_mul hx hb dX9_toggle_18 ?_
        refine zi_addk (n := 1 + (3 * i)) hx hb dX9_toggle_19 (by omega) ?_
        refine lv_istore (lv' := [(5, .int (nI (1 + (3 * i)))), (0, .ref m), (1, .int (nI x)), (2, .int (nI y)), (3, .int (nI z)), (4, .int (nI i))]) hx hb dX9_toggle_20 hl (by decide) rfl (fun ls hl => ?_)
        refine lv_aload_n hx hb dX9_toggle_22 rfl (lv_at hl 1 rfl) ?_
        refine va_get (D := G.1) (ci := 6) (v := .ref mc) (C := RX9) (T := TX9) (N := 21) hx hb hts hinX9 hown hK hP 0 rfl rfl 8 (by decide) hlk23 (fun _ h9 => h9) rfl dX9_toggle_23 ?_
        refine lv_iload hx hb dX9_toggle_26 (lv_at hl 0 rfl) ?_
        refine zi_ald hx hb hK hP 1 rfl (by omega) (by omega) dX9_toggle_28 ?_
        have hb_5 := hc8 (1 + (3 * i)) (by omega)
        refine lv_iload_n hx hb dX9_toggle_29 rfl (lv_at hl 2 rfl) ?_
        refine zn_ne (tgt := 69) hx hb dX9_toggle_30 (by decide) (by omega) (by omega) (fun c_6 => ?_) (fun c_6 => ?_)
        · skip
          refine lv_iinc (v := nI (i + 1)) (lv' := [(4, .int (nI (i + 1))), (5, .int (nI (1 + (3 * i)))), (0, .ref m), (1, .int (nI x)), (2, .int (nI y)), (3, .int (nI z))]) hx hb dX9_toggle_69 hl (k := 5) rfl (zinc i 1) (by decide) rfl (fun ls hl => ?_)
          refine lv_goto (tgt := 3) hx hb dX9_toggle_72 (by decide) ?_
          exact ih3 (i + 1) (by omega) (mTgP_s hn (by omega)) (by omega) _ _ _ hP hD hS (lv_sub hl [2, 3, 4, 5, 0] rfl)
        · skip
          refine lv_aload_n hx hb dX9_toggle_33 rfl (lv_at hl 1 rfl) ?_
          refine va_get (D := G.1) (ci := 6) (v := .ref mc) (C := RX9) (T := TX9) (N := 21) hx hb hts hinX9 hown hK hP 0 rfl rfl 8 (by decide) hlk23 (fun _ h9 => h9) rfl dX9_toggle_34 ?_
          refine lv_iload hx hb dX9_toggle_37 (lv_at hl 0 rfl) ?_
          refine lv_iconst (v := nI 1) hx hb dX9_toggle_39 (by decide) ?_
          refine zi_addk (n := (1 + (3 * i)) + 1) hx hb dX9_toggle_40 (by omega) ?_
          refine zi_ald hx hb hK hP 1 rfl (by omega) (by omega) dX9_toggle_41 ?_
          have hb_7 := hc8 ((1 + (3 * i)) + 1) (by omega)
          refine lv_iload_n hx hb dX9_toggle_42 rfl (lv_at hl 3 rfl) ?_
          refine zn_ne (tgt := 69) hx hb dX9_toggle_43 (by decide) (by omega) (by omega) (fun c_8 => ?_) (fun c_8 => ?_)
          · skip
            refine lv_iinc (v := nI (i + 1)) (lv' := [(4, .int (nI (i + 1))), (5, .int (nI (1 + (3 * i)))), (0, .ref m), (1, .int (nI x)), (2, .int (nI y)), (3, .int (nI z))]) hx hb dX9_toggle_69 hl (k := 5) rfl (zinc i 1) (by decide) rfl (fun ls hl => ?_)
            refine lv_goto (tgt := 3) hx hb dX9_toggle_72 (by decide) ?_
            exact ih3 (i + 1) (by omega) (mTgP_s hn (by omega)) (by omega) _ _ _ hP hD hS (lv_sub hl [2, 3, 4, 5, 0] rfl)
          · skip
            refine lv_aload_n hx hb dX9_toggle_46 rfl (lv_at hl 1 rfl) ?_
            refine va_get (D := G.1) (ci := 6) (v := .ref mc) (C := RX9) (T := TX9) (N := 21) hx hb hts hinX9 hown hK hP 0 rfl rfl 8 (by decide) hlk23 (fun _ h9 => h9) rfl dX9_toggle_47 ?_
            refine lv_iload hx hb dX9_toggle_50 (lv_at hl 0 rfl) ?_
            refine lv_iconst (v := nI 2) hx hb dX9_toggle_52 (by decide) ?_
            refine zi_addk (n := (1 + (3 * i)) + 2) hx hb dX9_toggle_53 (by omega) ?_
            refine zi_ald hx hb hK hP 1 rfl (by omega) (by omega) dX9_toggle_54 ?_
            have hb_9 := hc8 ((1 + (3 * i)) + 2) (by omega)
            refine lv_iload_n hx hb dX9_toggle_55 rfl (lv_at hl 4 rfl) ?_
            refine zn_ne (tgt := 69) hx hb dX9_toggle_56 (by decide) (by omega) (by omega) (fun c_10 => ?_) (fun c_10 => ?_)
            · skip
              refine lv_iinc (v := nI (i + 1)) (lv' := [(4, .int (nI (i + 1))), (5, .int (nI (1 + (3 * i)))), (0, .ref m), (1, .int (nI x)), (2, .int (nI y)), (3, .int (nI z))]) hx hb dX9_toggle_69 hl (k := 5) rfl (zinc i 1) (by decide) rfl (fun ls hl => ?_)
              refine lv_goto (tgt := 3) hx hb dX9_toggle_72 (by decide) ?_
              exact ih3 (i + 1) (by omega) (mTgP_s hn (by omega)) (by omega) _ _ _ hP hD hS (lv_sub hl [2, 3, 4, 5, 0] rfl)
            · skip
              refine lv_aload_n hx hb dX9_toggle_59 rfl (lv_at hl 1 rfl) ?_
              refine va_get (D := G.1) (ci := 6) (v := .ref mc) (C := RX9) (T := TX9) (N := 21) hx hb hts hinX9 hown hK hP 0 rfl rfl 8 (by decide) hlk23 (fun _ h9 => h9) rfl dX9_toggle_60 ?_
              refine lv_iload hx hb dX9_toggle_63 (lv_at hl 5 rfl) ?_
              refine zSv (W1 := [(m, .inr (6, [.int (nI th), .ref mt, .int (nI ts), .int (nI ps), .int pv, .ref mp, .int (nI V), .ref mg, .ref mc, .ref mh, .int (nI rm), .ref ms, .ref mu, .int (nI on), .ref of1, .ref ot1, .ref oi1, .long sd, .ref ml, .ref md, .ref mw])), zA G mc 49 gc]) (W2 := [(m, .inr (6, [.int (nI th), .ref mt, .int (nI ts), .int (nI ps), .int pv, .ref mp, .int (nI V), .ref mg, .ref mc, .ref mh, .int (nI rm), .ref ms, .ref mu, .int (nI on), .ref of1, .ref ot1, .ref oi1, .long sd, .ref ml, .ref md, .ref mw])), zA G mc 49 (zMd gc i)]) (wr := [(m, .inr (6, [.int (nI th), .ref mt, .int (nI ts), .int (nI ps), .int pv, .ref mp, .int (nI V), .ref mg, .ref mc, .ref mh, .int (nI rm), .ref ms, .ref mu, .int (nI on), .ref of1, .ref ot1, .ref oi1, .long sd, .ref ml, .ref md, .ref mw]))]) (rest := []) SM (c_X9_drop l G mc gc i (by omega) (by omega)) (va_cwS 2 hts gX9_toggle_X9_drop rfl rfl rfl (by decide +kernel) ⟨Nat.le_of_ble_eq_true rfl, Nat.le_of_ble_eq_true rfl⟩) hK hE hA hP hD hS hl.1 [1] [0] [0, 1] rfl rfl rfl (by decide) rfl rfl (Nat.le_of_ble_eq_true rfl) ⟨Nat.zero_le _, Nat.zero_le _⟩ dX9_toggle_65 (fun H locs hP hD hS => ?_)
              exact kret _ _ _ _ _ (by rw [mTg_hit hn (by omega) (by omega)]) hP hD hS dX9_toggle_68
  exact lp3 (gc 0 - 0 + 1) 0 (by omega) (fun j hj => absurd hj (Nat.not_lt_zero j)) (Nat.lt_succ_self _) _ _ _ hP hD hS (lv_sub hl [1, 2, 3, 4, 0] rfl)
set_option maxHeartbeats 400000 in
set_option maxRecDepth 100000 in
theorem c_X9_simulate_bad (l : Launch) (G : zG) (m mt mp mg mc mh ms mu of1 ot1 oi1 ml md mw th ts ps V rm on : Nat) (pv : Int32) (sd : Int64) (x : Int32) (hb0 : ¬ (1 ≤ x.toInt ∧ x.toInt ≤ 40)) : MI l yX9_simulate wsX9_simulate ({ frames := 1, cells := 0, slots := 0, locals := 25 }) G [.ref m, .int x] [(m, .inr (6, [.int (nI th), .ref mt, .int (nI ts), .int (nI ps), .int pv, .ref mp, .int (nI V), .ref mg, .ref mc, .ref mh, .int (nI rm), .ref ms, .ref mu, .int (nI on), .ref of1, .ref ot1, .ref oi1, .long sd, .ref ml, .ref md, .ref mw]))] (-2) [(m, .inr (6, [.int (nI 0), .ref mt, .int (nI ts), .int (nI ps), .int pv, .ref mp, .int (nI V), .ref mg, .ref mc, .ref mh, .int (nI rm), .ref ms, .ref mu, .int (nI on), .ref of1, .ref ot1, .ref oi1, .long sd, .ref ml, .ref md, .ref mw]))] := by
  refine MI.enter (cc := cX9_simulate) (maxL := 5) (by decide) rfl (Nat.le_of_ble_eq_true rfl) rfl ?_
  intro pM eM sM mM bM tM cM QM AM ls hat kret
  obtain ⟨SM, hA, hK, hE, hP, hD, hS, hl⟩ := hat
  have hx := SM.1
  have hb := SM.2.1
  have hown : sM.vm.findClass RX9 = some mM.cls := SM.2.2.2.1
  have hts := SM.2.2.2.2
  have hinX9 : ∀ w ∈ u_ws RX9 TX9 21, w ∈ wsX9_simulate := by decide +kernel
  have hlk54 : (Cond.fieldLink RX9 54 "DyckReachabilityModel" "thrown" "I").before _ sM = true := hts _ (by decide +kernel)
  have hl : lv_has ls 5 [(0, .ref m), (1, .int x)] := hl
  refine lv_aload_n hx hb dX9_simulate_0 rfl (lv_at hl 0 rfl) ?_
  refine lv_iconst (v := nI 0) hx hb dX9_simulate_1 (by decide) ?_
  refine va_put (D := G.1) (ci := 6) (v := .int (nI 0)) (ty := .int) (C := RX9) (T := TX9) (N := 21) hx hb hts hinX9 tyX9 tyX9_ok nmX9 hown hK hP hD hS 0 rfl rfl 0 (by decide) hlk54 (fun _ h9 => h9) rfl (by decide +kernel) rfl rfl (Nat.le_of_ble_eq_true rfl) dX9_simulate_2 (fun H locs hP hD hS => ?_)
  have hP : va_P G.1 vwCl [(m, .inr (6, [.int (nI 0), .ref mt, .int (nI ts), .int (nI ps), .int pv, .ref mp, .int (nI V), .ref mg, .ref mc, .ref mh, .int (nI rm), .ref ms, .ref mu, .int (nI on), .ref of1, .ref ot1, .ref oi1, .long sd, .ref ml, .ref md, .ref mw]))] H := hP
  have hD : va_D AM [(m, .inr (6, [.int (nI 0), .ref mt, .int (nI ts), .int (nI ps), .int pv, .ref mp, .int (nI V), .ref mg, .ref mc, .ref mh, .int (nI rm), .ref ms, .ref mu, .int (nI on), .ref of1, .ref ot1, .ref oi1, .long sd, .ref ml, .ref md, .ref mw]))] := hD
  refine lv_iload_n hx hb dX9_simulate_5 rfl (lv_at hl 1 rfl) ?_
  refine lv_i2l hx hb dX9_simulate_6 rfl ?_
  refine lv_lconst (v := lN 1) hx hb dX9_simulate_7 (by decide) ?_
  refine lv_ldc2 (v := lN 40) hx hb hown (hts (.constantLong RX9 195 (40)) (by decide +kernel)) dX9_simulate_8 ?_
  refine zSi (W1 := [(m, .inr (6, [.int (nI 0), .ref mt, .int (nI ts), .int (nI ps), .int pv, .ref mp, .int (nI V), .ref mg, .ref mc, .ref mh, .int (nI rm), .ref ms, .ref mu, .int (nI on), .ref of1, .ref ot1, .ref oi1, .long sd, .ref ml, .ref md, .ref mw]))]) (W2 := [(m, .inr (6, [.int (nI 0), .ref mt, .int (nI ts), .int (nI ps), .int pv, .ref mp, .int (nI V), .ref mg, .ref mc, .ref mh, .int (nI rm), .ref ms, .ref mu, .int (nI on), .ref of1, .ref ot1, .ref oi1, .long sd, .ref ml, .ref md, .ref mw]))]) (wr := [(m, .inr (6, [.int (nI 0), .ref mt, .int (nI ts), .int (nI ps), .int pv, .ref mp, .int (nI V), .ref mg, .ref mc, .ref mh, .int (nI rm), .ref ms, .ref mu, .int (nI on), .ref of1, .ref ot1, .ref oi1, .long sd, .ref ml, .ref md, .ref mw]))]) (rest := []) SM (c_X9_in_X l G (x) 1 40 (by first | assumption | omega) (by first | assumption | omega)) (va_cwS 3 hts gX9_simulate_X9_in rfl rfl rfl (by decide +kernel) ⟨Nat.le_of_ble_eq_true rfl, Nat.le_of_ble_eq_true rfl⟩) hK hE hA hP hD hS hl.1 [] [0] [0] rfl rfl rfl (by decide) rfl rfl (Nat.le_of_ble_eq_true rfl) ⟨Nat.zero_le _, Nat.zero_le _⟩ dX9_simulate_11 (fun H locs hP hD hS => ?_)
  refine zb_ne (tgt := 20) hx hb dX9_simulate_14 (by decide) (fun c_1 => ?_) (fun c_1 => ?_)
  · skip
    exfalso; omega
  · skip
    refine lv_bipush (v := (-2)) hx hb dX9_simulate_17 (by decide) ?_
    exact kret _ _ _ _ _ _ rfl rfl hP hD hS dX9_simulate_19
set_option maxHeartbeats 400000 in
set_option maxRecDepth 100000 in
theorem c_X9_simulate_ok (l : Launch) (G : zG) (m mt mp mg mc mh ms mu of1 ot1 oi1 ml md mw th ts ps V rm on : Nat) (pv : Int32) (sd : Int64) (f wd g : Nat → Nat) (gc : Nat → Nat) (x : Int32) (hV : V ≤ 8) (hV1 : 1 ≤ V) (hL : zL2 f) (hw8 : ∀ i, wd i < 8) (hg0 : g 0 ≤ 16) (hg8 : ∀ i, 1 ≤ i → g i < 8) (hx : 1 ≤ x.toInt ∧ x.toInt ≤ 40) : MX ((Nat → Nat) × (Nat → Nat)) l yX9_simulate wsX9_simulate ({ frames := 4, cells := 0, slots := 0, locals := 98 }) G [.ref m, .int x] [(m, .inr (6, [.int (nI th), .ref mt, .int (nI ts), .int (nI ps), .int pv, .ref mp, .int (nI V), .ref mg, .ref mc, .ref mh, .int (nI rm), .ref ms, .ref mu, .int (nI on), .ref of1, .ref ot1, .ref oi1, .long sd, .ref ml, .ref md, .ref mw])), zA G ml 64 f, zA G mw 96 wd, zA G mg 49 g, zA G mc 49 gc] (nI ((zIt (mSmF V) x.toInt.toNat (g, sd, 0)).2.2)) (fun u : (Nat → Nat) × (Nat → Nat) => [(m, .inr (6, [.int (nI 0), .ref mt, .int (nI ts), .int (nI ps), .int pv, .ref mp, .int (nI V), .ref mg, .ref mc, .ref mh, .int (nI rm), .ref ms, .ref mu, .int (nI on), .ref of1, .ref ot1, .ref oi1, .long ((zIt (mSmF V) x.toInt.toNat (g, sd, 0)).2.1), .ref ml, .ref md, .ref mw])), zA G ml 64 u.1, zA G mw 96 u.2, zA G mg 49 g, zA G mc 49 ((zIt (mSmF V) x.toInt.toNat (g, sd, 0)).1)]) (fun u : (Nat → Nat) × (Nat → Nat) => zL2 u.1 ∧ ∀ i, u.2 i < 8) := by
  refine MX.enter (cc := cX9_simulate) (maxL := 5) (by decide) rfl (Nat.le_of_ble_eq_true rfl) ?_
  intro pM eM sM mM bM tM cM QM AM ls hat kret
  obtain ⟨SM, hA, hK, hE, hP, hD, hS, hl⟩ := hat
  have hx := SM.1
  have hb := SM.2.1
  have hown : sM.vm.findClass RX9 = some mM.cls := SM.2.2.2.1
  have hts := SM.2.2.2.2
  have hinX9 : ∀ w ∈ u_ws RX9 TX9 21, w ∈ wsX9_simulate := by decide +kernel
  have hlk54 : (Cond.fieldLink RX9 54 "DyckReachabilityModel" "thrown" "I").before _ sM = true := hts _ (by decide +kernel)
  have hlk20 : (Cond.fieldLink RX9 20 "DyckReachabilityModel" "graph" "[I").before _ sM = true := hts _ (by decide +kernel)
  have hlk23 : (Cond.fieldLink RX9 23 "DyckReachabilityModel" "copy" "[I").before _ sM = true := hts _ (by decide +kernel)
  have hlk191 : (Cond.fieldLink RX9 191 "DyckReachabilityModel" "seed" "J").before _ sM = true := hts _ (by decide +kernel)
  have hlk16 : (Cond.fieldLink RX9 16 "DyckReachabilityModel" "vertices" "I").before _ sM = true := hts _ (by decide +kernel)
  have hl : lv_has ls 5 [(0, .ref m), (1, .int x)] := hl
  refine lv_aload_n hx hb dX9_simulate_0 rfl (lv_at hl 0 rfl) ?_
  refine lv_iconst (v := nI 0) hx hb dX9_simulate_1 (by decide) ?_
  refine va_put (D := G.1) (ci := 6) (v := .int (nI 0)) (ty := .int) (C := RX9) (T := TX9) (N := 21) hx hb hts hinX9 tyX9 tyX9_ok nmX9 hown hK hP hD hS 0 rfl rfl 0 (by decide) hlk54 (fun _ h9 => h9) rfl (by decide +kernel) rfl rfl (Nat.le_of_ble_eq_true rfl) dX9_simulate_2 (fun H locs hP hD hS => ?_)
  have hP : va_P G.1 vwCl [(m, .inr (6, [.int (nI 0), .ref mt, .int (nI ts), .int (nI ps), .int pv, .ref mp, .int (nI V), .ref mg, .ref mc, .ref mh, .int (nI rm), .ref ms, .ref mu, .int (nI on), .ref of1, .ref ot1, .ref oi1, .long sd, .ref ml, .ref md, .ref mw])), zA G ml 64 f, zA G mw 96 wd, zA G mg 49 g, zA G mc 49 gc] H := hP
  have hD : va_D AM [(m, .inr (6, [.int (nI 0), .ref mt, .int (nI ts), .int (nI ps), .int pv, .ref mp, .int (nI V), .ref mg, .ref mc, .ref mh, .int (nI rm), .ref ms, .ref mu, .int (nI on), .ref of1, .ref ot1, .ref oi1, .long sd, .ref ml, .ref md, .ref mw])), zA G ml 64 f, zA G mw 96 wd, zA G mg 49 g, zA G mc 49 gc] := hD
  refine lv_iload_n hx hb dX9_simulate_5 rfl (lv_at hl 1 rfl) ?_
  refine lv_i2l hx hb dX9_simulate_6 rfl ?_
  refine lv_lconst (v := lN 1) hx hb dX9_simulate_7 (by decide) ?_
  refine lv_ldc2 (v := lN 40) hx hb hown (hts (.constantLong RX9 195 (40)) (by decide +kernel)) dX9_simulate_8 ?_
  refine zSi (W1 := [(m, .inr (6, [.int (nI 0), .ref mt, .int (nI ts), .int (nI ps), .int pv, .ref mp, .int (nI V), .ref mg, .ref mc, .ref mh, .int (nI rm), .ref ms, .ref mu, .int (nI on), .ref of1, .ref ot1, .ref oi1, .long sd, .ref ml, .ref md, .ref mw])), zA G ml 64 f, zA G mw 96 wd, zA G mg 49 g, zA G mc 49 gc]) (W2 := [(m, .inr (6, [.int (nI 0), .ref mt, .int (nI ts), .int (nI ps), .int pv, .ref mp, .int (nI V), .ref mg, .ref mc, .ref mh, .int (nI rm), .ref ms, .ref mu, .int (nI on), .ref of1, .ref ot1, .ref oi1, .long sd, .ref ml, .ref md, .ref mw])), zA G ml 64 f, zA G mw 96 wd, zA G mg 49 g, zA G mc 49 gc]) (wr := [(m, .inr (6, [.int (nI 0), .ref mt, .int (nI ts), .int (nI ps), .int pv, .ref mp, .int (nI V), .ref mg, .ref mc, .ref mh, .int (nI rm), .ref ms, .ref mu, .int (nI on), .ref of1, .ref ot1, .ref oi1, .long sd, .ref ml, .ref md, .ref mw])), zA G ml 64 f, zA G mw 96 wd, zA G mg 49 g, zA G mc 49 gc]) (rest := []) SM (c_X9_in_X l G (x) 1 40 (by omega) (by omega)) (va_cwS 3 hts gX9_simulate_X9_in rfl rfl rfl (by decide +kernel) ⟨Nat.le_of_ble_eq_true rfl, Nat.le_of_ble_eq_true rfl⟩) hK hE hA hP hD hS hl.1 [] [0, 1, 2, 3, 4] [0, 1, 2, 3, 4] rfl rfl rfl (by decide) rfl rfl (Nat.le_of_ble_eq_true rfl) ⟨Nat.zero_le _, Nat.zero_le _⟩ dX9_simulate_11 (fun H locs hP hD hS => ?_)
  refine zb_ne (tgt := 20) hx hb dX9_simulate_14 (by decide) (fun c_1 => ?_) (fun c_1 => ?_)
  · skip
    have hl : lv_has ls 5 [(0, .ref m), (1, .int (nI x.toInt.toNat))] := by rw [← xN_eq (x := x) (by omega)]; exact hl
    refine lv_aload_n hx hb dX9_simulate_20 rfl (lv_at hl 0 rfl) ?_
    refine va_get (D := G.1) (ci := 6) (v := .ref mg) (C := RX9) (T := TX9) (N := 21) hx hb hts hinX9 hown hK hP 0 rfl rfl 7 (by decide) hlk20 (fun _ h9 => h9) rfl dX9_simulate_21 ?_
    refine lv_aload_n hx hb dX9_simulate_24 rfl (lv_at hl 0 rfl) ?_
    refine va_get (D := G.1) (ci := 6) (v := .ref mc) (C := RX9) (T := TX9) (N := 21) hx hb hts hinX9 hown hK hP 0 rfl rfl 8 (by decide) hlk23 (fun _ h9 => h9) rfl dX9_simulate_25 ?_
    refine zSv (W1 := [(m, .inr (6, [.int (nI 0), .ref mt, .int (nI ts), .int (nI ps), .int pv, .ref mp, .int (nI V), .ref mg, .ref mc, .ref mh, .int (nI rm), .ref ms, .ref mu, .int (nI on), .ref of1, .ref ot1, .ref oi1, .long sd, .ref ml, .ref md, .ref mw])), zA G ml 64 f, zA G mw 96 wd, zA G mg 49 g, zA G mc 49 gc]) (W2 := [(m, .inr (6, [.int (nI 0), .ref mt, .int (nI ts), .int (nI ps), .int pv, .ref mp, .int (nI V), .ref mg, .ref mc, .ref mh, .int (nI rm), .ref ms, .ref mu, .int (nI on), .ref of1, .ref ot1, .ref oi1, .long sd, .ref ml, .ref md, .ref mw])), zA G ml 64 f, zA G mw 96 wd, zA G mg 49 g, zA G mc 49 g]) (wr := [(m, .inr (6, [.int (nI 0), .ref mt, .int (nI ts), .int (nI ps), .int pv, .ref mp, .int (nI V), .ref mg, .ref mc, .ref mh, .int (nI rm), .ref ms, .ref mu, .int (nI on), .ref of1, .ref ot1, .ref oi1, .long sd, .ref ml, .ref md, .ref mw])), zA G ml 64 f, zA G mw 96 wd]) (rest := []) SM (c_X9_assign l G mg mc g gc ) (va_cwS 2 hts gX9_simulate_X9_assign rfl rfl rfl (by decide +kernel) ⟨Nat.le_of_ble_eq_true rfl, Nat.le_of_ble_eq_true rfl⟩) hK hE hA hP hD hS hl.1 [3, 4] [0, 1, 2] [0, 1, 2, 3, 4] rfl rfl rfl (by decide) rfl rfl (Nat.le_of_ble_eq_true rfl) ⟨Nat.zero_le _, Nat.zero_le _⟩ dX9_simulate_28 (fun H locs hP hD hS => ?_)
    refine lv_iconst (v := nI 0) hx hb dX9_simulate_31 (by decide) ?_
    refine lv_istore_n (lv' := [(2, .int (nI 0)), (0, .ref m), (1, .int (nI x.toInt.toNat))]) hx hb dX9_simulate_32 rfl hl (by decide) rfl (fun ls hl => ?_)
    refine lv_iconst (v := nI 0) hx hb dX9_simulate_33 (by decide) ?_
    refine lv_istore_n (lv' := [(3, .int (nI 0)), (2, .int (nI 0)), (0, .ref m), (1, .int (nI x.toInt.toNat))]) hx hb dX9_simulate_34 rfl hl (by decide) rfl (fun ls hl => ?_)
    have lp35 : ∀ (n9 : Nat), ∀ (i a : Nat) (sd2 : Int64) (gc2 : Nat → Nat) (fl wl : Nat → Nat), (i ≤ x.toInt.toNat) → ((gc2, sd2, a) = zIt (mSmF V) i (g, sd, 0)) → (mOk gc2) → (zL2 fl) → (∀ i, wl i < 8) → (x.toInt.toNat - i) < n9 → ∀ (H : Heap) (locs : List Loc) (ls : Array Slot), va_P G.1 vwCl [(m, .inr (6, [.int (nI 0), .ref mt, .int (nI ts), .int (nI ps), .int pv, .ref mp, .int (nI V), .ref mg, .ref mc, .ref mh, .int (nI rm), .ref ms, .ref mu, .int (nI on), .ref of1, .ref ot1, .ref oi1, .long sd2, .ref ml, .ref md, .ref mw])), zA G ml 64 fl, zA G mw 96 wl, zA G mg 49 g, zA G mc 49 gc2] H → va_D AM [(m, .inr (6, [.int (nI 0), .ref mt, .int (nI ts), .int (nI ps), .int pv, .ref mp, .int (nI V), .ref mg, .ref mc, .ref mh, .int (nI rm), .ref ms, .ref mu, .int (nI on), .ref of1, .ref ot1, .ref oi1, .long sd2, .ref ml, .ref md, .ref mw])), zA G ml 64 fl, zA G mw 96 wl, zA G mg 49 g, zA G mc 49 gc2] → va_S AM sM.heap H locs → lv_has ls 5 [(0, .ref m), (1, .int (nI x.toInt.toNat)), (2, .int (nI a)), (3, .int (nI i))] → W pM l eM ({ frames := 4, cells := 0, slots := 0, locals := 98 }) sM mM (([.ref m, .int x] : List Value).toArray) bM tM cM H locs 0 0 QM (F0 mM 35 ls []) := by
      intro n9
      induction n9 with
      | zero =>
        intro _ _ _ _ _ _ _ _ _ _ _ h9
        exact absurd h9 (Nat.not_lt_zero _)
      | succ n9 ih9 =>
        intro i a sd2 gc2 fl wl h1 hq hok hfl hwl hmu35 H locs ls hP hD hS hl
        have ih35 := ih9
        clear ih9
        refine lv_iload_n hx hb dX9_simulate_35 rfl (lv_at hl 3 rfl) ?_
        refine lv_iload_n hx hb dX9_simulate_36 rfl (lv_at hl 1 rfl) ?_
        refine zn_ge (tgt := 114) hx hb dX9_simulate_37 (by decide) (by omega) (by omega) (fun c_2 => ?_) (fun c_2 => ?_)
        · skip
          refine lv_iload_n hx hb dX9_simulate_114 rfl (lv_at hl 2 rfl) ?_
          exact kret _ _ _ _ _ _ (fl, wl) (congrArg nI (by have hq9 : i = x.toInt.toNat := (by omega); rw [← hq9, ← hq])) ⟨hfl, hwl⟩ (by have hq9 : i = x.toInt.toNat := (by omega); rw [← hq9, ← hq]) hP hD hS dX9_simulate_115
        · skip
          refine lv_aload_n hx hb dX9_simulate_40 rfl (lv_at hl 0 rfl) ?_
          refine lv_aload_n hx hb dX9_simulate_41 rfl (lv_at hl 0 rfl) ?_
          refine va_get (D := G.1) (ci := 6) (v := .long sd2) (C := RX9) (T := TX9) (N := 21) hx hb hts hinX9 hown hK hP 0 rfl rfl 17 (by decide) hlk191 (fun _ h9 => h9) rfl dX9_simulate_42 ?_
          refine lv_ldc2 (v := lN 6364136223846793005) hx hb hown (hts (.constantLong RX9 197 (6364136223846793005)) (by decide +kernel)) dX9_simulate_45 ?_
          refine lv_lmul hx hb dX9_simulate_48 ?_
          refine lv_ldc2 (v := lN 1442695040888963407) hx hb hown (hts (.constantLong RX9 199 (1442695040888963407)) (by decide +kernel)) dX9_simulate_49 ?_
          refine lv_ladd hx hb dX9_simulate_52 ?_
          refine ztl (y := zNs sd2) rfl ?_
          refine va_put (D := G.1) (ci := 6) (v := .long (zNs sd2)) (ty := .long) (C := RX9) (T := TX9) (N := 21) hx hb hts hinX9 tyX9 tyX9_ok nmX9 hown hK hP hD hS 0 rfl rfl 17 (by decide) hlk191 (fun _ h9 => h9) rfl (by decide +kernel) rfl rfl (Nat.le_of_ble_eq_true rfl) dX9_simulate_53 (fun H locs hP hD hS => ?_)
          have hP : va_P G.1 vwCl [(m, .inr (6, [.int (nI 0), .ref mt, .int (nI ts), .int (nI ps), .int pv, .ref mp, .int (nI V), .ref mg, .ref mc, .ref mh, .int (nI rm), .ref ms, .ref mu, .int (nI on), .ref of1, .ref ot1, .ref oi1, .long (zNs sd2), .ref ml, .ref md, .ref mw])), zA G ml 64 fl, zA G mw 96 wl, zA G mg 49 g, zA G mc 49 gc2] H := hP
          have hD : va_D AM [(m, .inr (6, [.int (nI 0), .ref mt, .int (nI ts), .int (nI ps), .int pv, .ref mp, .int (nI V), .ref mg, .ref mc, .ref mh, .int (nI rm), .ref ms, .ref mu, .int (nI on), .ref of1, .ref ot1, .ref oi1, .long (zNs sd2), .ref ml, .ref md, .ref mw])), zA G ml 64 fl, zA G mw 96 wl, zA G mg 49 g, zA G mc 49 gc2] := hD
          refine lv_aload_n hx hb dX9_simulate_56 rfl (lv_at hl 0 rfl) ?_
          refine va_get (D := G.1) (ci := 6) (v := .long (zNs sd2)) (C := RX9) (T := TX9) (N := 21) hx hb hts hinX9 hown hK hP 0 rfl rfl 17 (by decide) hlk191 (fun _ h9 => h9) rfl dX9_simulate_57 ?_
          refine lv_bipush (v := nI 33) hx hb dX9_simulate_60 (by decide) ?_
          refine lv_lushr hx hb dX9_simulate_62 rfl ?_
          refine lv_l2i hx hb dX9_simulate_63 rfl ?_
          refine zti (y := nI (zDw (zNs sd2))) (zDw_eq (zNs sd2)) ?_
          have hdl := zDw_lt (zNs sd2)
          refine lv_istore (lv' := [(4, .int (nI (zDw (zNs sd2)))), (0, .ref m), (1, .int (nI x.toInt.toNat)), (2, .int (nI a)), (3, .int (nI i))]) hx hb dX9_simulate_64 hl (by decide) rfl (fun ls hl => ?_)
          refine lv_aload_n hx hb dX9_simulate_66 rfl (lv_at hl 1 rfl) ?_
          refine lv_iload hx hb dX9_simulate_67 (lv_at hl 0 rfl) ?_
          refine lv_aload_n hx hb dX9_simulate_69 rfl (lv_at hl 1 rfl) ?_
          refine va_get (D := G.1) (ci := 6) (v := .int (nI V)) (C := RX9) (T := TX9) (N := 21) hx hb hts hinX9 hown hK hP 0 rfl rfl 6 (by decide) hlk16 (fun _ h9 => h9) rfl dX9_simulate_70 ?_
          refine zi_rem hx hb dX9_simulate_73 (by omega) (by omega) (by omega) ?_
          refine lv_iload hx hb dX9_simulate_74 (lv_at hl 0 rfl) ?_
          refine lv_bipush (v := nI 8) hx hb dX9_simulate_76 (by decide) ?_
          refine zi_div hx hb dX9_simulate_78 (by omega) (by omega) (by omega) ?_
          refine lv_aload_n hx hb dX9_simulate_79 rfl (lv_at hl 1 rfl) ?_
          refine va_get (D := G.1) (ci := 6) (v := .int (nI V)) (C := RX9) (T := TX9) (N := 21) hx hb hts hinX9 hown hK hP 0 rfl rfl 6 (by decide) hlk16 (fun _ h9 => h9) rfl dX9_simulate_80 ?_
          refine zi_rem hx hb dX9_simulate_83 (by omega) (by omega) (by omega) ?_
          refine lv_iload hx hb dX9_simulate_84 (lv_at hl 0 rfl) ?_
          refine lv_bipush (v := nI 64) hx hb dX9_simulate_86 (by decide) ?_
          refine zi_div hx hb dX9_simulate_88 (by omega) (by omega) (by omega) ?_
          refine lv_bipush (v := nI 7) hx hb dX9_simulate_89 (by decide) ?_
          refine zi_rem hx hb dX9_simulate_91 (by omega) (by omega) (by omega) ?_
          have hm1 : zDw (zNs sd2) % V < V := Nat.mod_lt _ (by omega)
          have hm2 : zDw (zNs sd2) / 8 % V < V := Nat.mod_lt _ (by omega)
          have hok2 : mOk (mTg gc2 (zDw (zNs sd2) % V) (zDw (zNs sd2) / 8 % V) (zDw (zNs sd2) / 64 % 7)) := mTg_ok hok (by omega) (by omega) (by omega)
          refine zVv (W1 := [(m, .inr (6, [.int (nI 0), .ref mt, .int (nI ts), .int (nI ps), .int pv, .ref mp, .int (nI V), .ref mg, .ref mc, .ref mh, .int (nI rm), .ref ms, .ref mu, .int (nI on), .ref of1, .ref ot1, .ref oi1, .long (zNs sd2), .ref ml, .ref md, .ref mw])), zA G ml 64 fl, zA G mw 96 wl, zA G mg 49 g, zA G mc 49 gc2]) (W2 := [(m, .inr (6, [.int (nI 0), .ref mt, .int (nI ts), .int (nI ps), .int pv, .ref mp, .int (nI V), .ref mg, .ref mc, .ref mh, .int (nI rm), .ref ms, .ref mu, .int (nI on), .ref of1, .ref ot1, .ref oi1, .long (zNs sd2), .ref ml, .ref md, .ref mw])), zA G ml 64 fl, zA G mw 96 wl, zA G mg 49 g, zA G mc 49 (mTg gc2 ((zDw (zNs sd2)) % V) (((zDw (zNs sd2)) / 8) % V) (((zDw (zNs sd2)) / 64) % 7))]) (wr := [zA G ml 64 fl, zA G mw 96 wl, zA G mg 49 g]) (rest := []) SM (c_X9_toggle l G m mt mp mg mc mh ms mu of1 ot1 oi1 ml md mw 0 ts ps V rm on pv (zNs sd2) gc2 ((zDw (zNs sd2)) % V) (((zDw (zNs sd2)) / 8) % V) (((zDw (zNs sd2)) / 64) % 7) hok.1 hok.2 (by omega) (by omega) (by omega)) (cwV 3 hts gX9_simulate_X9_toggle rfl rfl rfl (by decide +kernel) ⟨Nat.le_of_ble_eq_true rfl, Nat.le_of_ble_eq_true rfl⟩) hK hE hA hP hD hS hl.1 [0, 4] [1, 2, 3] [3, 0, 1, 2, 4] rfl rfl rfl (by decide) (ci := 6) rfl rfl rfl rfl rfl (Nat.le_of_ble_eq_true rfl) ⟨Nat.zero_le _, Nat.zero_le _⟩ dX9_simulate_92 (fun H locs hP hD hS => ?_)
          refine lv_iload_n hx hb dX9_simulate_95 rfl (lv_at hl 3 rfl) ?_
          refine lv_aload_n hx hb dX9_simulate_96 rfl (lv_at hl 1 rfl) ?_
          refine lv_aload_n hx hb dX9_simulate_97 rfl (lv_at hl 1 rfl) ?_
          refine va_get (D := G.1) (ci := 6) (v := .ref mc) (C := RX9) (T := TX9) (N := 21) hx hb hts hinX9 hown hK hP 0 rfl rfl 8 (by decide) hlk23 (fun _ h9 => h9) rfl dX9_simulate_98 ?_
          refine lv_ldc (v := nI 65535) hx hb hown (hts (.constant RX9 140 (65535)) (by decide +kernel)) dX9_simulate_101 ?_
          refine zVi (W1 := [(m, .inr (6, [.int (nI 0), .ref mt, .int (nI ts), .int (nI ps), .int pv, .ref mp, .int (nI V), .ref mg, .ref mc, .ref mh, .int (nI rm), .ref ms, .ref mu, .int (nI on), .ref of1, .ref ot1, .ref oi1, .long (zNs sd2), .ref ml, .ref md, .ref mw])), zA G ml 64 fl, zA G mw 96 wl, zA G mg 49 g, zA G mc 49 (mTg gc2 ((zDw (zNs sd2)) % V) (((zDw (zNs sd2)) / 8) % V) (((zDw (zNs sd2)) / 64) % 7))]) (W2 := [(m, .inr (6, [.int (nI 0), .ref mt, .int (nI ts), .int (nI ps), .int pv, .ref mp, .int (nI V), .ref mg, .ref mc, .ref mh, .int (nI rm), .ref ms, .ref mu, .int (nI on), .ref of1, .ref ot1, .ref oi1, .long (zNs sd2), .ref ml, .ref md, .ref mw])), zA G ml 64 (mT (mTg gc2 ((zDw (zNs sd2)) % V) (((zDw (zNs sd2)) / 8) % V) (((zDw (zNs sd2)) / 64) % 7)) 65535), zA G mw 96 (zWd 65535 (mTg gc2 ((zDw (zNs sd2)) % V) (((zDw (zNs sd2)) / 8) % V) (((zDw (zNs sd2)) / 64) % 7)) wl ((mTg gc2 ((zDw (zNs sd2)) % V) (((zDw (zNs sd2)) / 8) % V) (((zDw (zNs sd2)) / 64) % 7)) 0)), zA G mg 49 g, zA G mc 49 (mTg gc2 ((zDw (zNs sd2)) % V) (((zDw (zNs sd2)) / 8) % V) (((zDw (zNs sd2)) / 64) % 7))]) (wr := [zA G mg 49 g]) (rest := [.int (nI a)]) SM (c_X9_pairsOf l G m mt mp mg mc mh ms mu of1 ot1 oi1 ml md mw 0 ts ps V rm on pv (zNs sd2) fl wl mc (mTg gc2 ((zDw (zNs sd2)) % V) (((zDw (zNs sd2)) / 8) % V) (((zDw (zNs sd2)) / 64) % 7)) 65535 (by omega) hfl hwl hok2.1 hok2.2 (by omega)) (cwV 2 hts gX9_simulate_X9_pairsOf rfl rfl rfl (by decide +kernel) ⟨Nat.le_of_ble_eq_true rfl, Nat.le_of_ble_eq_true rfl⟩) hK hE hA hP hD hS hl.1 [0, 1, 2, 4] [3] [1, 2, 3, 0, 4] rfl rfl rfl (by decide) (ci := 6) rfl rfl rfl rfl rfl (Nat.le_of_ble_eq_true rfl) ⟨Nat.zero_le _, Nat.zero_le _⟩ dX9_simulate_103 (fun H locs hP hD hS => ?_)
          refine zi_add hx hb dX9_simulate_106 ?_
          refine lv_istore_n (lv' := [(2, .int (nI (a + (mPr V (mTg gc2 ((zDw (zNs sd2)) % V) (((zDw (zNs sd2)) / 8) % V) (((zDw (zNs sd2)) / 64) % 7)) 65535)))), (4, .int (nI (zDw (zNs sd2)))), (0, .ref m), (1, .int (nI x.toInt.toNat)), (3, .int (nI i))]) hx hb dX9_simulate_107 rfl hl (by decide) rfl (fun ls hl => ?_)
          refine lv_iinc (v := nI (i + 1)) (lv' := [(3, .int (nI (i + 1))), (2, .int (nI (a + (mPr V (mTg gc2 ((zDw (zNs sd2)) % V) (((zDw (zNs sd2)) / 8) % V) (((zDw (zNs sd2)) / 64) % 7)) 65535)))), (4, .int (nI (zDw (zNs sd2)))), (0, .ref m), (1, .int (nI x.toInt.toNat))]) hx hb dX9_simulate_108 hl (k := 4) rfl (zinc i 1) (by decide) rfl (fun ls hl => ?_)
          refine lv_goto (tgt := 35) hx hb dX9_simulate_111 (by decide) ?_
          exact ih35 (i + 1) (a + (mPr V (mTg gc2 ((zDw (zNs sd2)) % V) (((zDw (zNs sd2)) / 8) % V) (((zDw (zNs sd2)) / 64) % 7)) 65535)) (zNs sd2) (mTg gc2 ((zDw (zNs sd2)) % V) (((zDw (zNs sd2)) / 8) % V) (((zDw (zNs sd2)) / 64) % 7)) (mT (mTg gc2 ((zDw (zNs sd2)) % V) (((zDw (zNs sd2)) / 8) % V) (((zDw (zNs sd2)) / 64) % 7)) 65535) (zWd 65535 (mTg gc2 ((zDw (zNs sd2)) % V) (((zDw (zNs sd2)) / 8) % V) (((zDw (zNs sd2)) / 64) % 7)) wl ((mTg gc2 ((zDw (zNs sd2)) % V) (((zDw (zNs sd2)) / 8) % V) (((zDw (zNs sd2)) / 64) % 7)) 0)) (by omega) (by rw [zIt_s, ← hq]; rfl) hok2 (mT_2 _ _) (zWd_8 hwl hok2.2 _) (by omega) _ _ _ hP hD hS (lv_sub hl [3, 4, 1, 0] rfl)
    exact lp35 (x.toInt.toNat - 0 + 1) 0 0 sd g f wd (by omega) rfl (⟨hg0, hg8⟩) hL hw8 (Nat.lt_succ_self _) _ _ _ hP hD hS (lv_sub hl [2, 3, 1, 0] rfl)
  · skip
    exfalso; omega
