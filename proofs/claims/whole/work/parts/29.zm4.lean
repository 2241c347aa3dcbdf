set_option maxHeartbeats 400000 in
set_option maxRecDepth 100000 in
theorem c_X9_possibleLabels_bad (l : Launch) (G : zG) (m mt mp mg mc mh ms mu of1 ot1 oi1 ml md mw th ts ps V rm on : Nat) (pv : Int32) (sd : Int64) (g : Nat → Nat) (x : Int32) (hg0 : g 0 ≤ 16) (hb0 : ¬ (0 ≤ x.toInt ∧ x.toInt < g 0)) : MI l yX9_possibleLabels wsX9_possibleLabels ({ frames := 2, cells := 0, slots := 0, locals := 46 }) G [.ref m, .int x] [(m, .inr (6, [.int (nI th), .ref mt, .int (nI ts), .int (nI ps), .int pv, .ref mp, .int (nI V), .ref mg, .ref mc, .ref mh, .int (nI rm), .ref ms, .ref mu, .int (nI on), .ref of1, .ref ot1, .ref oi1, .long sd, .ref ml, .ref md, .ref mw])), zA G mg 49 g] (-1) [(m, .inr (6, [.int (nI 0), .ref mt, .int (nI ts), .int (nI ps), .int pv, .ref mp, .int (nI V), .ref mg, .ref mc, .ref mh, .int (nI rm), .ref ms, .ref mu, .int (nI on), .ref of1, .ref ot1, .ref oi1, .long sd, .ref ml, .ref md, .ref mw])), zA G mg 49 g] := by
  refine MI.enter (cc := cX9_possibleLabels) (maxL := 7) (by decide) rfl (Nat.le_of_ble_eq_true rfl) rfl ?_
  intro pM eM sM mM bM tM cM QM AM ls hat kret
  obtain ⟨SM, hA, hK, hE, hP, hD, hS, hl⟩ := hat
  have hx := SM.1
  have hb := SM.2.1
  have hown : sM.vm.findClass RX9 = some mM.cls := SM.2.2.2.1
  have hts := SM.2.2.2.2
  have hinX9 : ∀ w ∈ u_ws RX9 TX9 21, w ∈ wsX9_possibleLabels := by decide +kernel
  have hlk54 : (Cond.fieldLink RX9 54 "DyckReachabilityModel" "thrown" "I").before _ sM = true := hts _ (by decide +kernel)
  have hl : lv_has ls 7 [(0, .ref m), (1, .int x)] := hl
  refine lv_aload_n hx hb dX9_possibleLabels_0 rfl (lv_at hl 0 rfl) ?_
  refine lv_iconst (v := nI 0) hx hb dX9_possibleLabels_1 (by decide) ?_
  refine va_put (D := G.1) (ci := 6) (v := .int (nI 0)) (ty := .int) (C := RX9) (T := TX9) (N := 21) hx hb hts hinX9 tyX9 tyX9_ok nmX9 hown hK hP hD hS 0 rfl rfl 0 (by decide) hlk54 (fun _ h9 => h9) rfl (by decide +kernel) rfl rfl (Nat.le_of_ble_eq_true rfl) dX9_possibleLabels_2 (fun H locs hP hD hS => ?_)
  have hP : va_P G.1 vwCl [(m, .inr (6, [.int (nI 0), .ref mt, .int (nI ts), .int (nI ps), .int pv, .ref mp, .int (nI V), .ref mg, .ref mc, .ref mh, .int (nI rm), .ref ms, .ref mu, .int (nI on), .ref of1, .ref ot1, .ref oi1, .long sd, .ref ml, .ref md, .ref mw])), zA G mg 49 g] H := hP
  have hD : va_D AM [(m, .inr (6, [.int (nI 0), .ref mt, .int (nI ts), .int (nI ps), .int pv, .ref mp, .int (nI V), .ref mg, .ref mc, .ref mh, .int (nI rm), .ref ms, .ref mu, .int (nI on), .ref of1, .ref ot1, .ref oi1, .long sd, .ref ml, .ref md, .ref mw])), zA G mg 49 g] := hD
  refine lv_aload_n hx hb dX9_possibleLabels_5 rfl (lv_at hl 0 rfl) ?_
  refine lv_iload_n hx hb dX9_possibleLabels_6 rfl (lv_at hl 1 rfl) ?_
  refine zVi (W1 := [(m, .inr (6, [.int (nI 0), .ref mt, .int (nI ts), .int (nI ps), .int pv, .ref mp, .int (nI V), .ref mg, .ref mc, .ref mh, .int (nI rm), .ref ms, .ref mu, .int (nI on), .ref of1, .ref ot1, .ref oi1, .long sd, .ref ml, .ref md, .ref mw])), zA G mg 49 g]) (W2 := [(m, .inr (6, [.int (nI 0), .ref mt, .int (nI ts), .int (nI ps), .int pv, .ref mp, .int (nI V), .ref mg, .ref mc, .ref mh, .int (nI rm), .ref ms, .ref mu, .int (nI on), .ref of1, .ref ot1, .ref oi1, .long sd, .ref ml, .ref md, .ref mw])), zA G mg 49 g]) (wr := []) (rest := []) SM (c_X9_noEdge l G m mt mp mg mc mh ms mu of1 ot1 oi1 ml md mw 0 ts ps V rm on pv sd g x (by first | assumption | omega)) (cwV 1 hts gX9_possibleLabels_X9_noEdge rfl rfl rfl (by decide +kernel) ⟨Nat.le_of_ble_eq_true rfl, Nat.le_of_ble_eq_true rfl⟩) hK hE hA hP hD hS hl.1 [0, 1] [] [0, 1] rfl rfl rfl (by decide) (ci := 6) rfl rfl rfl rfl rfl (Nat.le_of_ble_eq_true rfl) ⟨Nat.zero_le _, Nat.zero_le _⟩ dX9_possibleLabels_7 (fun H locs hP hD hS => ?_)
  refine zb_eq (tgt := 15) hx hb dX9_possibleLabels_10 (by decide) (fun c_1 => ?_) (fun c_1 => ?_)
  · skip
    exfalso; omega
  · skip
    refine lv_iconst (v := (-1)) hx hb dX9_possibleLabels_13 (by decide) ?_
    exact kret _ _ _ _ _ _ rfl rfl hP hD hS dX9_possibleLabels_14
set_option maxHeartbeats 400000 in
set_option maxRecDepth 100000 in
theorem c_X9_possibleLabels_ok (l : Launch) (G : zG) (m mt mp mg mc mh ms mu of1 ot1 oi1 ml md mw th ts ps V rm on : Nat) (pv : Int32) (sd : Int64) (f wd g : Nat → Nat) (gc os oe oa : Nat → Nat) (x : Int32) (hV : V ≤ 8) (hV1 : 1 ≤ V) (hL : zL2 f) (hw8 : ∀ i, wd i < 8) (hg0 : g 0 ≤ 16) (hg8 : ∀ i, 1 ≤ i → g i < 8) (hx : 0 ≤ x.toInt ∧ x.toInt < g 0) (hos : ∀ i, os i < 8) (hoe : ∀ i, oe i < 8) (hoa : ∀ i, oa i < 2) (hon : on ≤ 6) : MX ((Nat → Nat) × (Nat → Nat) × (Nat → Nat)) l yX9_possibleLabels wsX9_possibleLabels ({ frames := 3, cells := 0, slots := 0, locals := 76 }) G [.ref m, .int x] [(m, .inr (6, [.int (nI th), .ref mt, .int (nI ts), .int (nI ps), .int pv, .ref mp, .int (nI V), .ref mg, .ref mc, .ref mh, .int (nI rm), .ref ms, .ref mu, .int (nI on), .ref of1, .ref ot1, .ref oi1, .long sd, .ref ml, .ref md, .ref mw])), zA G ml 64 f, zA G mw 96 wd, zA G mg 49 g, zA G mc 49 gc, zA G of1 6 os, zA G ot1 6 oe, zA G oi1 6 oa] (nI (mPl V g os oe oa on x.toInt.toNat)) (fun u : (Nat → Nat) × (Nat → Nat) × (Nat → Nat) => [(m, .inr (6, [.int (nI 0), .ref mt, .int (nI ts), .int (nI ps), .int pv, .ref mp, .int (nI V), .ref mg, .ref mc, .ref mh, .int (nI rm), .ref ms, .ref mu, .int (nI on), .ref of1, .ref ot1, .ref oi1, .long sd, .ref ml, .ref md, .ref mw])), zA G ml 64 u.1, zA G mw 96 u.2.1, zA G mg 49 g, zA G mc 49 u.2.2, zA G of1 6 os, zA G ot1 6 oe, zA G oi1 6 oa]) (fun u : (Nat → Nat) × (Nat → Nat) × (Nat → Nat) => zL2 u.1 ∧ (∀ i, u.2.1 i < 8)) := by
  refine MX.enter (cc := cX9_possibleLabels) (maxL := 7) (by decide) rfl (Nat.le_of_ble_eq_true rfl) ?_
  intro pM eM sM mM bM tM cM QM AM ls hat kret
  obtain ⟨SM, hA, hK, hE, hP, hD, hS, hl⟩ := hat
  have hx := SM.1
  have hb := SM.2.1
  have hown : sM.vm.findClass RX9 = some mM.cls := SM.2.2.2.1
  have hts := SM.2.2.2.2
  have hinX9 : ∀ w ∈ u_ws RX9 TX9 21, w ∈ wsX9_possibleLabels := by decide +kernel
  have hlk54 : (Cond.fieldLink RX9 54 "DyckReachabilityModel" "thrown" "I").before _ sM = true := hts _ (by decide +kernel)
  have hlk20 : (Cond.fieldLink RX9 20 "DyckReachabilityModel" "graph" "[I").before _ sM = true := hts _ (by decide +kernel)
  have hlk23 : (Cond.fieldLink RX9 23 "DyckReachabilityModel" "copy" "[I").before _ sM = true := hts _ (by decide +kernel)
  have hlk179 : (Cond.fieldLink RX9 179 "DyckReachabilityModel" "observed" "I").before _ sM = true := hts _ (by decide +kernel)
  have hlk36 : (Cond.fieldLink RX9 36 "DyckReachabilityModel" "observedFrom" "[I").before _ sM = true := hts _ (by decide +kernel)
  have hlk39 : (Cond.fieldLink RX9 39 "DyckReachabilityModel" "observedTo" "[I").before _ sM = true := hts _ (by decide +kernel)
  have hlk42 : (Cond.fieldLink RX9 42 "DyckReachabilityModel" "observedIs" "[I").before _ sM = true := hts _ (by decide +kernel)
  have hl : lv_has ls 7 [(0, .ref m), (1, .int x)] := hl
  refine lv_aload_n hx hb dX9_possibleLabels_0 rfl (lv_at hl 0 rfl) ?_
  refine lv_iconst (v := nI 0) hx hb dX9_possibleLabels_1 (by decide) ?_
  refine va_put (D := G.1) (ci := 6) (v := .int (nI 0)) (ty := .int) (C := RX9) (T := TX9) (N := 21) hx hb hts hinX9 tyX9 tyX9_ok nmX9 hown hK hP hD hS 0 rfl rfl 0 (by decide) hlk54 (fun _ h9 => h9) rfl (by decide +kernel) rfl rfl (Nat.le_of_ble_eq_true rfl) dX9_possibleLabels_2 (fun H locs hP hD hS => ?_)
  have hP : va_P G.1 vwCl [(m, .inr (6, [.int (nI 0), .ref mt, .int (nI ts), .int (nI ps), .int pv, .ref mp, .int (nI V), .ref mg, .ref mc, .ref mh, .int (nI rm), .ref ms, .ref mu, .int (nI on), .ref of1, .ref ot1, .ref oi1, .long sd, .ref ml, .ref md, .ref mw])), zA G ml 64 f, zA G mw 96 wd, zA G mg 49 g, zA G mc 49 gc, zA G of1 6 os, zA G ot1 6 oe, zA G oi1 6 oa] H := hP
  have hD : va_D AM [(m, .inr (6, [.int (nI 0), .ref mt, .int (nI ts), .int (nI ps), .int pv, .ref mp, .int (nI V), .ref mg, .ref mc, .ref mh, .int (nI rm), .ref ms, .ref mu, .int (nI on), .ref of1, .ref ot1, .ref oi1, .long sd, .ref ml, .ref md, .ref mw])), zA G ml 64 f, zA G mw 96 wd, zA G mg 49 g, zA G mc 49 gc, zA G of1 6 os, zA G ot1 6 oe, zA G oi1 6 oa] := hD
  refine lv_aload_n hx hb dX9_possibleLabels_5 rfl (lv_at hl 0 rfl) ?_
  refine lv_iload_n hx hb dX9_possibleLabels_6 rfl (lv_at hl 1 rfl) ?_
  refine zVi (W1 := [(m, .inr (6, [.int (nI 0), .ref mt, .int (nI ts), .int (nI ps), .int pv, .ref mp, .int (nI V), .ref mg, .ref mc, .ref mh, .int (nI rm), .ref ms, .ref mu, .int (nI on), .ref of1, .ref ot1, .ref oi1, .long sd, .ref ml, .ref md, .ref mw])), zA G ml 64 f, zA G mw 96 wd, zA G mg 49 g, zA G mc 49 gc, zA G of1 6 os, zA G ot1 6 oe, zA G oi1 6 oa]) (W2 := [(m, .inr (6, [.int (nI 0), .ref mt, .int (nI ts), .int (nI ps), .int pv, .ref mp, .int (nI V), .ref mg, .ref mc, .ref mh, .int (nI rm), .ref ms, .ref mu, .int (nI on), .ref of1, .ref ot1, .ref oi1, .long sd, .ref ml, .ref md, .ref mw])), zA G ml 64 f, zA G mw 96 wd, zA G mg 49 g, zA G mc 49 gc, zA G of1 6 os, zA G ot1 6 oe, zA G oi1 6 oa]) (wr := [zA G ml 64 f, zA G mw 96 wd, zA G mc 49 gc, zA G of1 6 os, zA G ot1 6 oe, zA G oi1 6 oa]) (rest := []) SM (c_X9_noEdge l G m mt mp mg mc mh ms mu of1 ot1 oi1 ml md mw 0 ts ps V rm on pv sd g x (by omega)) (cwV 1 hts gX9_possibleLabels_X9_noEdge rfl rfl rfl (by decide +kernel) ⟨Nat.le_of_ble_eq_true rfl, Nat.le_of_ble_eq_true rfl⟩) hK hE hA hP hD hS hl.1 [0, 3] [1, 2, 4, 5, 6, 7] [6, 0, 1, 7, 2, 3, 4, 5] rfl rfl rfl (by decide) (ci := 6) rfl rfl rfl rfl rfl (Nat.le_of_ble_eq_true rfl) ⟨Nat.zero_le _, Nat.zero_le _⟩ dX9_possibleLabels_7 (fun H locs hP hD hS => ?_)
  refine zb_eq (tgt := 15) hx hb dX9_possibleLabels_10 (by decide) (fun c_1 => ?_) (fun c_1 => ?_)
  · skip
    have hl : lv_has ls 7 [(0, .ref m), (1, .int (nI x.toInt.toNat))] := by rw [← xN_eq (x := x) (by omega)]; exact hl
    refine lv_iconst (v := nI 0) hx hb dX9_possibleLabels_15 (by decide) ?_
    refine lv_istore_n (lv' := [(2, .int (nI 0)), (0, .ref m), (1, .int (nI x.toInt.toNat))]) hx hb dX9_possibleLabels_16 rfl hl (by decide) rfl (fun ls hl => ?_)
    refine lv_iconst (v := nI 0) hx hb dX9_possibleLabels_17 (by decide) ?_
    refine lv_istore_n (lv' := [(3, .int (nI 0)), (2, .int (nI 0)), (0, .ref m), (1, .int (nI x.toInt.toNat))]) hx hb dX9_possibleLabels_18 rfl hl (by decide) rfl (fun ls hl => ?_)
    have lp19 : ∀ (n9 : Nat), ∀ (p a : Nat) (gc2 : Nat → Nat) (fl wl : Nat → Nat), (p ≤ 7) → (a = zIt (mPlF V g os oe oa on x.toInt.toNat) p 0) → (zL2 fl) → (∀ i, wl i < 8) → (7 - p) < n9 → ∀ (H : Heap) (locs : List Loc) (ls : Array Slot), va_P G.1 vwCl [(m, .inr (6, [.int (nI 0), .ref mt, .int (nI ts), .int (nI ps), .int pv, .ref mp, .int (nI V), .ref mg, .ref mc, .ref mh, .int (nI rm), .ref ms, .ref mu, .int (nI on), .ref of1, .ref ot1, .ref oi1, .long sd, .ref ml, .ref md, .ref mw])), zA G ml 64 fl, zA G mw 96 wl, zA G mg 49 g, zA G mc 49 gc2, zA G of1 6 os, zA G ot1 6 oe, zA G oi1 6 oa] H → va_D AM [(m, .inr (6, [.int (nI 0), .ref mt, .int (nI ts), .int (nI ps), .int pv, .ref mp, .int (nI V), .ref mg, .ref mc, .ref mh, .int (nI rm), .ref ms, .ref mu, .int (nI on), .ref of1, .ref ot1, .ref oi1, .long sd, .ref ml, .ref md, .ref mw])), zA G ml 64 fl, zA G mw 96 wl, zA G mg 49 g, zA G mc 49 gc2, zA G of1 6 os, zA G ot1 6 oe, zA G oi1 6 oa] → va_S AM sM.heap H locs → lv_has ls 7 [(0, .ref m), (1, .int (nI x.toInt.toNat)), (2, .int (nI a)), (3, .int (nI p))] → W pM l eM ({ frames := 3, cells := 0, slots := 0, locals := 76 }) sM mM (([.ref m, .int x] : List Value).toArray) bM tM cM H locs 0 0 QM (F0 mM 19 ls []) := by
      intro n9
      induction n9 with
      | zero =>
        intro _ _ _ _ _ _ _ _ _ h9
        exact absurd h9 (Nat.not_lt_zero _)
      | succ n9 ih9 =>
        intro p a gc2 fl wl h1 hq hfl hwl hmu19 H locs ls hP hD hS hl
        have ih19 := ih9
        clear ih9
        refine lv_iload_n hx hb dX9_possibleLabels_19 rfl (lv_at hl 3 rfl) ?_
        refine lv_bipush (v := nI 7) hx hb dX9_possibleLabels_20 (by decide) ?_
        refine zn_ge (tgt := 188) hx hb dX9_possibleLabels_22 (by decide) (by omega) (by omega) (fun c_2 => ?_) (fun c_2 => ?_)
        · skip
          refine lv_iload_n hx hb dX9_possibleLabels_188 rfl (lv_at hl 2 rfl) ?_
          exact kret _ _ _ _ _ _ (fl, wl, gc2) (congrArg nI (by have hq9 : p = 7 := (by omega); unfold mPl; rw [← hq9]; exact hq)) ⟨hfl, hwl⟩ rfl hP hD hS dX9_possibleLabels_189
        · skip
          refine lv_aload_n hx hb dX9_possibleLabels_25 rfl (lv_at hl 0 rfl) ?_
          refine va_get (D := G.1) (ci := 6) (v := .ref mg) (C := RX9) (T := TX9) (N := 21) hx hb hts hinX9 hown hK hP 0 rfl rfl 7 (by decide) hlk20 (fun _ h9 => h9) rfl dX9_possibleLabels_26 ?_
          refine lv_aload_n hx hb dX9_possibleLabels_29 rfl (lv_at hl 0 rfl) ?_
          refine va_get (D := G.1) (ci := 6) (v := .ref mc) (C := RX9) (T := TX9) (N := 21) hx hb hts hinX9 hown hK hP 0 rfl rfl 8 (by decide) hlk23 (fun _ h9 => h9) rfl dX9_possibleLabels_30 ?_
          refine zSv (W1 := [(m, .inr (6, [.int (nI 0), .ref mt, .int (nI ts), .int (nI ps), .int pv, .ref mp, .int (nI V), .ref mg, .ref mc, .ref mh, .int (nI rm), .ref ms, .ref mu, .int (nI on), .ref of1, .ref ot1, .ref oi1, .long sd, .ref ml, .ref md, .ref mw])), zA G ml 64 fl, zA G mw 96 wl, zA G mg 49 g, zA G mc 49 gc2, zA G of1 6 os, zA G ot1 6 oe, zA G oi1 6 oa]) (W2 := [(m, .inr (6, [.int (nI 0), .ref mt, .int (nI ts), .int (nI ps), .int pv, .ref mp, .int (nI V), .ref mg, .ref mc, .ref mh, .int (nI rm), .ref ms, .ref mu, .int (nI on), .ref of1, .ref ot1, .ref oi1, .long sd, .ref ml, .ref md, .ref mw])), zA G ml 64 fl, zA G mw 96 wl, zA G mg 49 g, zA G mc 49 g, zA G of1 6 os, zA G ot1 6 oe, zA G oi1 6 oa]) (wr := [(m, .inr (6, [.int (nI 0), .ref mt, .int (nI ts), .int (nI ps), .int pv, .ref mp, .int (nI V), .ref mg, .ref mc, .ref mh, .int (nI rm), .ref ms, .ref mu, .int (nI on), .ref of1, .ref ot1, .ref oi1, .long sd, .ref ml, .ref md, .ref mw])), zA G ml 64 fl, zA G mw 96 wl, zA G of1 6 os, zA G ot1 6 oe, zA G oi1 6 oa]) (rest := []) SM (c_X9_assign l G mg mc g gc2 ) (va_cwS 2 hts gX9_possibleLabels_X9_assign rfl rfl rfl (by decide +kernel) ⟨Nat.le_of_ble_eq_true rfl, Nat.le_of_ble_eq_true rfl⟩) hK hE hA hP hD hS hl.1 [3, 4] [0, 1, 2, 5, 6, 7] [0, 1, 2, 6, 7, 3, 4, 5] rfl rfl rfl (by decide) rfl rfl (Nat.le_of_ble_eq_true rfl) ⟨Nat.zero_le _, Nat.zero_le _⟩ dX9_possibleLabels_33 (fun H locs hP hD hS => ?_)
          refine lv_aload_n hx hb dX9_possibleLabels_36 rfl (lv_at hl 0 rfl) ?_
          refine va_get (D := G.1) (ci := 6) (v := .ref mc) (C := RX9) (T := TX9) (N := 21) hx hb hts hinX9 hown hK hP 0 rfl rfl 8 (by decide) hlk23 (fun _ h9 => h9) rfl dX9_possibleLabels_37 ?_
          refine lv_iconst (v := nI 3) hx hb dX9_possibleLabels_40 (by decide) ?_
          refine lv_iconst (v := nI 3) hx hb dX9_possibleLabels_41 (by decide) ?_
          refine lv_iload_n hx hb dX9_possibleLabels_42 rfl (lv_at hl 1 rfl) ?_
          refine zi_mul hx hb dX9_possibleLabels_43 ?_
          refine zi_addk (n := 3 + (3 * x.toInt.toNat)) hx hb dX9_possibleLabels_44 (by omega) ?_
          refine lv_iload_n hx hb dX9_possibleLabels_45 rfl (lv_at hl 3 rfl) ?_
          refine zi_ast hx hb hK hP hD hS 4 rfl (by omega) (by omega) dX9_possibleLabels_46 (fun H locs hP hD hS => ?_)
          have hP : va_P G.1 vwCl [(m, .inr (6, [.int (nI 0), .ref mt, .int (nI ts), .int (nI ps), .int pv, .ref mp, .int (nI V), .ref mg, .ref mc, .ref mh, .int (nI rm), .ref ms, .ref mu, .int (nI on), .ref of1, .ref ot1, .ref oi1, .long sd, .ref ml, .ref md, .ref mw])), zA G ml 64 fl, zA G mw 96 wl, zA G mg 49 g, zA G mc 49 (zU g (3 + (3 * x.toInt.toNat)) p), zA G of1 6 os, zA G ot1 6 oe, zA G oi1 6 oa] H := hP
          have hD : va_D AM [(m, .inr (6, [.int (nI 0), .ref mt, .int (nI ts), .int (nI ps), .int pv, .ref mp, .int (nI V), .ref mg, .ref mc, .ref mh, .int (nI rm), .ref ms, .ref mu, .int (nI on), .ref of1, .ref ot1, .ref oi1, .long sd, .ref ml, .ref md, .ref mw])), zA G ml 64 fl, zA G mw 96 wl, zA G mg 49 g, zA G mc 49 (zU g (3 + (3 * x.toInt.toNat)) p), zA G of1 6 os, zA G ot1 6 oe, zA G oi1 6 oa] := hD
          have hok : mOk (zU g (3 + 3 * x.toInt.toNat) p) := zUl_ok ⟨hg0, hg8⟩ (by omega)
          refine lv_aload_n hx hb dX9_possibleLabels_47 rfl (lv_at hl 0 rfl) ?_
          refine lv_aload_n hx hb dX9_possibleLabels_48 rfl (lv_at hl 0 rfl) ?_
          refine va_get (D := G.1) (ci := 6) (v := .ref mc) (C := RX9) (T := TX9) (N := 21) hx hb hts hinX9 hown hK hP 0 rfl rfl 8 (by decide) hlk23 (fun _ h9 => h9) rfl dX9_possibleLabels_49 ?_
          refine lv_ldc (v := nI 65535) hx hb hown (hts (.constant RX9 140 (65535)) (by decide +kernel)) dX9_possibleLabels_52 ?_
          refine zVv (W1 := [(m, .inr (6, [.int (nI 0), .ref mt, .int (nI ts), .int (nI ps), .int pv, .ref mp, .int (nI V), .ref mg, .ref mc, .ref mh, .int (nI rm), .ref ms, .ref mu, .int (nI on), .ref of1, .ref ot1, .ref oi1, .long sd, .ref ml, .ref md, .ref mw])), zA G ml 64 fl, zA G mw 96 wl, zA G mg 49 g, zA G mc 49 (zU g (3 + (3 * x.toInt.toNat)) p), zA G of1 6 os, zA G ot1 6 oe, zA G oi1 6 oa]) (W2 := [(m, .inr (6, [.int (nI 0), .ref mt, .int (nI ts), .int (nI ps), .int pv, .ref mp, .int (nI V), .ref mg, .ref mc, .ref mh, .int (nI rm), .ref ms, .ref mu, .int (nI on), .ref of1, .ref ot1, .ref oi1, .long sd, .ref ml, .ref md, .ref mw])), zA G ml 64 (mT (zU g (3 + (3 * x.toInt.toNat)) p) 65535), zA G mw 96 (zWd 65535 (zU g (3 + (3 * x.toInt.toNat)) p) wl ((zU g (3 + (3 * x.toInt.toNat)) p) 0)), zA G mg 49 g, zA G mc 49 (zU g (3 + (3 * x.toInt.toNat)) p), zA G of1 6 os, zA G ot1 6 oe, zA G oi1 6 oa]) (wr := [zA G mg 49 g, zA G of1 6 os, zA G ot1 6 oe, zA G oi1 6 oa]) (rest := []) SM (c_X9_closeOf l G m mt mp mg mc mh ms mu of1 ot1 oi1 ml md mw 0 ts ps V rm on pv sd fl wl mc (zU g (3 + (3 * x.toInt.toNat)) p) 65535 hfl hwl hok.1 hok.2 (by omega)) (cwV 2 hts gX9_possibleLabels_X9_closeOf rfl rfl rfl (by decide +kernel) ⟨Nat.le_of_ble_eq_true rfl, Nat.le_of_ble_eq_true rfl⟩) hK hE hA hP hD hS hl.1 [0, 1, 2, 4] [3, 5, 6, 7] [4, 5, 6, 0, 7, 1, 2, 3] rfl rfl rfl (by decide) (ci := 6) rfl rfl rfl rfl rfl (Nat.le_of_ble_eq_true rfl) ⟨Nat.zero_le _, Nat.zero_le _⟩ dX9_possibleLabels_54 (fun H locs hP hD hS => ?_)
          refine lv_iconst (v := nI 1) hx hb dX9_possibleLabels_57 (by decide) ?_
          refine lv_istore (lv' := [(4, .int (nI 1)), (0, .ref m), (1, .int (nI x.toInt.toNat)), (2, .int (nI a)), (3, .int (nI p))]) hx hb dX9_possibleLabels_58 hl (by decide) rfl (fun ls hl => ?_)
          refine lv_iconst (v := nI 0) hx hb dX9_possibleLabels_60 (by decide) ?_
          refine lv_istore (lv' := [(5, .int (nI 0)), (4, .int (nI 1)), (0, .ref m), (1, .int (nI x.toInt.toNat)), (2, .int (nI a)), (3, .int (nI p))]) hx hb dX9_possibleLabels_61 hl (by decide) rfl (fun ls hl => ?_)
          have lp63 : ∀ (n9 : Nat), ∀ (i : Nat) (b : Bool), (i ≤ on) → (b = zIt (mPlI V (mT (zU g (3 + 3 * x.toInt.toNat) p) 65535) os oe oa) i true) → (on - i) < n9 → ∀ (H : Heap) (locs : List Loc) (ls : Array Slot), va_P G.1 vwCl [(m, .inr (6, [.int (nI 0), .ref mt, .int (nI ts), .int (nI ps), .int pv, .ref mp, .int (nI V), .ref mg, .ref mc, .ref mh, .int (nI rm), .ref ms, .ref mu, .int (nI on), .ref of1, .ref ot1, .ref oi1, .long sd, .ref ml, .ref md, .ref mw])), zA G ml 64 (mT (zU g (3 + 3 * x.toInt.toNat) p) 65535), zA G mw 96 (zWd 65535 (zU g (3 + 3 * x.toInt.toNat) p) wl ((zU g (3 + 3 * x.toInt.toNat) p) 0)), zA G mg 49 g, zA G mc 49 (zU g (3 + 3 * x.toInt.toNat) p), zA G of1 6 os, zA G ot1 6 oe, zA G oi1 6 oa] H → va_D AM [(m, .inr (6, [.int (nI 0), .ref mt, .int (nI ts), .int (nI ps), .int pv, .ref mp, .int (nI V), .ref mg, .ref mc, .ref mh, .int (nI rm), .ref ms, .ref mu, .int (nI on), .ref of1, .ref ot1, .ref oi1, .long sd, .ref ml, .ref md, .ref mw])), zA G ml 64 (mT (zU g (3 + 3 * x.toInt.toNat) p) 65535), zA G mw 96 (zWd 65535 (zU g (3 + 3 * x.toInt.toNat) p) wl ((zU g (3 + 3 * x.toInt.toNat) p) 0)), zA G mg 49 g, zA G mc 49 (zU g (3 + 3 * x.toInt.toNat) p), zA G of1 6 os, zA G ot1 6 oe, zA G oi1 6 oa] → va_S AM sM.heap H locs → lv_has ls 7 [(0, .ref m), (1, .int (nI x.toInt.toNat)), (2, .int (nI a)), (3, .int (nI p)), (4, .int (bI (decide (b = true)))), (5, .int (nI i))] → W pM l eM ({ frames := 3, cells := 0, slots := 0, locals := 76 }) sM mM (([.ref m, .int x] : List Value).toArray) bM tM cM H locs 0 0 QM (F0 mM 63 ls []) := by
            intro n9
            induction n9 with
            | zero =>
              intro _ _ _ _ h9
              exact absurd h9 (Nat.not_lt_zero _)
            | succ n9 ih9 =>
              intro i b h3 hq2 hmu63 H locs ls hP hD hS hl
              have ih63 := ih9
              clear ih9
              refine lv_iload hx hb dX9_possibleLabels_63 (lv_at hl 5 rfl) ?_
              refine lv_aload_n hx hb dX9_possibleLabels_65 rfl (lv_at hl 0 rfl) ?_
              refine va_get (D := G.1) (ci := 6) (v := .int (nI on)) (C := RX9) (T := TX9) (N := 21) hx hb hts hinX9 hown hK hP 0 rfl rfl 13 (by decide) hlk179 (fun _ h9 => h9) rfl dX9_possibleLabels_66 ?_
              refine zn_ge (tgt := 167) hx hb dX9_possibleLabels_69 (by decide) (by omega) (by omega) (fun c_3 => ?_) (fun c_3 => ?_)
              · skip
                refine lv_iload_n hx hb dX9_possibleLabels_167 rfl (lv_at hl 2 rfl) ?_
                refine lv_iload hx hb dX9_possibleLabels_168 (lv_at hl 4 rfl) ?_
                refine zb_eq (tgt := 179) hx hb dX9_possibleLabels_170 (by decide) (fun c_4 => ?_) (fun c_4 => ?_)
                · skip
                  have hbf2 : ¬ b = true := c_4
                  refine lv_iconst (v := nI 0) hx hb dX9_possibleLabels_179 (by decide) ?_
                  refine zi_or hx hb dX9_possibleLabels_180 ?_
                  refine lv_istore_n (lv' := [(2, .int (nI (a ||| 0))), (0, .ref m), (1, .int (nI x.toInt.toNat)), (3, .int (nI p)), (4, .int (bI (decide (b = true)))), (5, .int (nI i))]) hx hb dX9_possibleLabels_181 rfl hl (by decide) rfl (fun ls hl => ?_)
                  refine lv_iinc (v := nI (p + 1)) (lv' := [(3, .int (nI (p + 1))), (2, .int (nI (a ||| 0))), (0, .ref m), (1, .int (nI x.toInt.toNat)), (4, .int (bI (decide (b = true)))), (5, .int (nI i))]) hx hb dX9_possibleLabels_182 hl (k := 3) rfl (zinc p 1) (by decide) rfl (fun ls hl => ?_)
                  refine lv_goto (tgt := 19) hx hb dX9_possibleLabels_185 (by decide) ?_
                  exact ih19 (p + 1) (a ||| 0) (zU g (3 + 3 * x.toInt.toNat) p) (mT (zU g (3 + 3 * x.toInt.toNat) p) 65535) (zWd 65535 (zU g (3 + 3 * x.toInt.toNat) p) wl ((zU g (3 + 3 * x.toInt.toNat) p) 0)) (by omega) (by have hq9 : i = on := (by omega); rw [zIt_s, ← hq]; unfold mPlF; first | rw [if_pos (by rw [← hq9, ← hq2]; exact hbt2)] | rw [if_neg (by rw [← hq9, ← hq2]; exact hbf2)]) (mT_2 _ _) (zWd_8 hwl hok.2 _) (by omega) _ _ _ hP hD hS (lv_sub hl [2, 3, 1, 0] rfl)
                · skip
                  have hbt2 : b = true := c_4
                  refine lv_iconst (v := nI 1) hx hb dX9_possibleLabels_173 (by decide) ?_
                  refine lv_iload_n hx hb dX9_possibleLabels_174 rfl (lv_at hl 3 rfl) ?_
                  refine zi_shl1 hx hb dX9_possibleLabels_175 (by omega) ?_
                  refine lv_goto (tgt := 180) hx hb dX9_possibleLabels_176 (by decide) ?_
                  refine zi_or hx hb dX9_possibleLabels_180 ?_
                  refine lv_istore_n (lv' := [(2, .int (nI (a ||| (2 ^ p)))), (0, .ref m), (1, .int (nI x.toInt.toNat)), (3, .int (nI p)), (4, .int (bI (decide (b = true)))), (5, .int (nI i))]) hx hb dX9_possibleLabels_181 rfl hl (by decide) rfl (fun ls hl => ?_)
                  refine lv_iinc (v := nI (p + 1)) (lv' := [(3, .int (nI (p + 1))), (2, .int (nI (a ||| (2 ^ p)))), (0, .ref m), (1, .int (nI x.toInt.toNat)), (4, .int (bI (decide (b = true)))), (5, .int (nI i))]) hx hb dX9_possibleLabels_182 hl (k := 3) rfl (zinc p 1) (by decide) rfl (fun ls hl => ?_)
                  refine lv_goto (tgt := 19) hx hb dX9_possibleLabels_185 (by decide) ?_
                  exact ih19 (p + 1) (a ||| (2 ^ p)) (zU g (3 + 3 * x.toInt.toNat) p) (mT (zU g (3 + 3 * x.toInt.toNat) p) 65535) (zWd 65535 (zU g (3 + 3 * x.toInt.toNat) p) wl ((zU g (3 + 3 * x.toInt.toNat) p) 0)) (by omega) (by have hq9 : i = on := (by omega); rw [zIt_s, ← hq]; unfold mPlF; first | rw [if_pos (by rw [← hq9, ← hq2]; exact hbt2)] | rw [if_neg (by rw [← hq9, ← hq2]; exact hbf2)]) (mT_2 _ _) (zWd_8 hwl hok.2 _) (by omega) _ _ _ hP hD hS (lv_sub hl [2, 3, 1, 0] rfl)
              · skip
                refine lv_aload_n hx hb dX9_possibleLabels_72 rfl (lv_at hl 0 rfl) ?_
                refine lv_aload_n hx hb dX9_possibleLabels_73 rfl (lv_at hl 0 rfl) ?_
                refine va_get (D := G.1) (ci := 6) (v := .ref of1) (C := RX9) (T := TX9) (N := 21) hx hb hts hinX9 hown hK hP 0 rfl rfl 14 (by decide) hlk36 (fun _ h9 => h9) rfl dX9_possibleLabels_74 ?_
                refine lv_iload hx hb dX9_possibleLabels_77 (lv_at hl 5 rfl) ?_
                refine zi_ald hx hb hK hP 5 rfl (by omega) (by omega) dX9_possibleLabels_79 ?_
                have hb_5 := hos i
                refine zVi (W1 := [(m, .inr (6, [.int (nI 0), .ref mt, .int (nI ts), .int (nI ps), .int pv, .ref mp, .int (nI V), .ref mg, .ref mc, .ref mh, .int (nI rm), .ref ms, .ref mu, .int (nI on), .ref of1, .ref ot1, .ref oi1, .long sd, .ref ml, .ref md, .ref mw])), zA G ml 64 (mT (zU g (3 + 3 * x.toInt.toNat) p) 65535), zA G mw 96 (zWd 65535 (zU g (3 + 3 * x.toInt.toNat) p) wl ((zU g (3 + 3 * x.toInt.toNat) p) 0)), zA G mg 49 g, zA G mc 49 (zU g (3 + 3 * x.toInt.toNat) p), zA G of1 6 os, zA G ot1 6 oe, zA G oi1 6 oa]) (W2 := [(m, .inr (6, [.int (nI 0), .ref mt, .int (nI ts), .int (nI ps), .int pv, .ref mp, .int (nI V), .ref mg, .ref mc, .ref mh, .int (nI rm), .ref ms, .ref mu, .int (nI on), .ref of1, .ref ot1, .ref oi1, .long sd, .ref ml, .ref md, .ref mw])), zA G ml 64 (mT (zU g (3 + 3 * x.toInt.toNat) p) 65535), zA G mw 96 (zWd 65535 (zU g (3 + 3 * x.toInt.toNat) p) wl ((zU g (3 + 3 * x.toInt.toNat) p) 0)), zA G mg 49 g, zA G mc 49 (zU g (3 + 3 * x.toInt.toNat) p), zA G of1 6 os, zA G ot1 6 oe, zA G oi1 6 oa]) (wr := [zA G ml 64 (mT (zU g (3 + 3 * x.toInt.toNat) p) 65535), zA G mw 96 (zWd 65535 (zU g (3 + 3 * x.toInt.toNat) p) wl ((zU g (3 + 3 * x.toInt.toNat) p) 0)), zA G mg 49 g, zA G mc 49 (zU g (3 + 3 * x.toInt.toNat) p), zA G of1 6 os, zA G ot1 6 oe, zA G oi1 6 oa]) (rest := []) SM (c_X9_noVertex_N l G m mt mp mg mc mh ms mu of1 ot1 oi1 ml md mw 0 ts ps V rm on pv sd (os i) (by omega) (by omega) (by omega)) (cwV 1 hts gX9_possibleLabels_X9_noVertex rfl rfl rfl (by decide +kernel) ⟨Nat.le_of_ble_eq_true rfl, Nat.le_of_ble_eq_true rfl⟩) hK hE hA hP hD hS hl.1 [0] [1, 2, 3, 4, 5, 6, 7] [7, 0, 1, 2, 3, 4, 5, 6] rfl rfl rfl (by decide) (ci := 6) rfl rfl rfl rfl rfl (Nat.le_of_ble_eq_true rfl) ⟨Nat.zero_le _, Nat.zero_le _⟩ dX9_possibleLabels_80 (fun H locs hP hD hS => ?_)
                refine zb_ne (tgt := 104) hx hb dX9_possibleLabels_83 (by decide) (fun c_6 => ?_) (fun c_6 => ?_)
                · skip
                  refine lv_iconst (v := nI 0) hx hb dX9_possibleLabels_104 (by decide) ?_
                  refine lv_istore (lv' := [(6, .int (nI 0)), (0, .ref m), (1, .int (nI x.toInt.toNat)), (2, .int (nI a)), (3, .int (nI p)), (4, .int (bI (decide (b = true)))), (5, .int (nI i))]) hx hb dX9_possibleLabels_105 hl (by decide) rfl (fun ls hl => ?_)
                  refine lv_iload hx hb dX9_possibleLabels_107 (lv_at hl 5 rfl) ?_
                  refine zb_eq (tgt := 158) hx hb dX9_possibleLabels_109 (by decide) (fun c_7 => ?_) (fun c_7 => ?_)
                  · skip
                    have hbf : ¬ b = true := c_7
                    refine lv_iconst (v := nI 0) hx hb dX9_possibleLabels_158 (by decide) ?_
                    refine lv_istore (lv' := [(4, .int (nI 0)), (6, .int (nI 0)), (0, .ref m), (1, .int (nI x.toInt.toNat)), (2, .int (nI a)), (3, .int (nI p)), (5, .int (nI i))]) hx hb dX9_possibleLabels_159 hl (by decide) rfl (fun ls hl => ?_)
                    refine lv_iinc (v := nI (i + 1)) (lv' := [(5, .int (nI (i + 1))), (4, .int (nI 0)), (6, .int (nI 0)), (0, .ref m), (1, .int (nI x.toInt.toNat)), (2, .int (nI a)), (3, .int (nI p))]) hx hb dX9_possibleLabels_161 hl (k := 6) rfl (zinc i 1) (by decide) rfl (fun ls hl => ?_)
                    refine lv_goto (tgt := 63) hx hb dX9_possibleLabels_164 (by decide) ?_
                    exact ih63 (i + 1) false (by omega) (by rw [zIt_s, ← hq2]; first | exact mPlI_f1 hbf | exact mPlI_t hbt (by omega) | exact mPlI_f2 (by omega)) (by omega) _ _ _ hP hD hS (lv_sub hl [3, 4, 5, 6, 1, 0] rfl)
                  · skip
                    have hbt : b = true := c_7
                    refine lv_iload hx hb dX9_possibleLabels_112 (lv_at hl 0 rfl) ?_
                    refine zk_eq_t (tgt := 154) hx hb dX9_possibleLabels_114 (by decide) (by decide) ?_
                    refine lv_iconst (v := nI 1) hx hb dX9_possibleLabels_154 (by decide) ?_
                    refine lv_goto (tgt := 159) hx hb dX9_possibleLabels_155 (by decide) ?_
                    refine lv_istore (lv' := [(4, .int (nI 1)), (6, .int (nI 0)), (0, .ref m), (1, .int (nI x.toInt.toNat)), (2, .int (nI a)), (3, .int (nI p)), (5, .int (nI i))]) hx hb dX9_possibleLabels_159 hl (by decide) rfl (fun ls hl => ?_)
                    refine lv_iinc (v := nI (i + 1)) (lv' := [(5, .int (nI (i + 1))), (4, .int (nI 1)), (6, .int (nI 0)), (0, .ref m), (1, .int (nI x.toInt.toNat)), (2, .int (nI a)), (3, .int (nI p))]) hx hb dX9_possibleLabels_161 hl (k := 6) rfl (zinc i 1) (by decide) rfl (fun ls hl => ?_)
                    refine lv_goto (tgt := 63) hx hb dX9_possibleLabels_164 (by decide) ?_
                    exact ih63 (i + 1) true (by omega) (by rw [zIt_s, ← hq2]; first | exact mPlI_f1 hbf | exact mPlI_t hbt (by omega) | exact mPlI_f2 (by omega)) (by omega) _ _ _ hP hD hS (lv_sub hl [3, 4, 5, 6, 1, 0] rfl)
                · skip
                  refine lv_aload_n hx hb dX9_possibleLabels_86 rfl (lv_at hl 0 rfl) ?_
                  refine lv_aload_n hx hb dX9_possibleLabels_87 rfl (lv_at hl 0 rfl) ?_
                  refine va_get (D := G.1) (ci := 6) (v := .ref ot1) (C := RX9) (T := TX9) (N := 21) hx hb hts hinX9 hown hK hP 0 rfl rfl 15 (by decide) hlk39 (fun _ h9 => h9) rfl dX9_possibleLabels_88 ?_
                  refine lv_iload hx hb dX9_possibleLabels_91 (lv_at hl 5 rfl) ?_
                  refine zi_ald hx hb hK hP 6 rfl (by omega) (by omega) dX9_possibleLabels_93 ?_
                  have hb_9 := hoe i
                  refine zVi (W1 := [(m, .inr (6, [.int (nI 0), .ref mt, .int (nI ts), .int (nI ps), .int pv, .ref mp, .int (nI V), .ref mg, .ref mc, .ref mh, .int (nI rm), .ref ms, .ref mu, .int (nI on), .ref of1, .ref ot1, .ref oi1, .long sd, .ref ml, .ref md, .ref mw])), zA G ml 64 (mT (zU g (3 + 3 * x.toInt.toNat) p) 65535), zA G mw 96 (zWd 65535 (zU g (3 + 3 * x.toInt.toNat) p) wl ((zU g (3 + 3 * x.toInt.toNat) p) 0)), zA G mg 49 g, zA G mc 49 (zU g (3 + 3 * x.toInt.toNat) p), zA G of1 6 os, zA G ot1 6 oe, zA G oi1 6 oa]) (W2 := [(m, .inr (6, [.int (nI 0), .ref mt, .int (nI ts), .int (nI ps), .int pv, .ref mp, .int (nI V), .ref mg, .ref mc, .ref mh, .int (nI rm), .ref ms, .ref mu, .int (nI on), .ref of1, .ref ot1, .ref oi1, .long sd, .ref ml, .ref md, .ref mw])), zA G ml 64 (mT (zU g (3 + 3 * x.toInt.toNat) p) 65535), zA G mw 96 (zWd 65535 (zU g (3 + 3 * x.toInt.toNat) p) wl ((zU g (3 + 3 * x.toInt.toNat) p) 0)), zA G mg 49 g, zA G mc 49 (zU g (3 + 3 * x.toInt.toNat) p), zA G of1 6 os, zA G ot1 6 oe, zA G oi1 6 oa]) (wr := [zA G ml 64 (mT (zU g (3 + 3 * x.toInt.toNat) p) 65535), zA G mw 96 (zWd 65535 (zU g (3 + 3 * x.toInt.toNat) p) wl ((zU g (3 + 3 * x.toInt.toNat) p) 0)), zA G mg 49 g, zA G mc 49 (zU g (3 + 3 * x.toInt.toNat) p), zA G of1 6 os, zA G ot1 6 oe, zA G oi1 6 oa]) (rest := []) SM (c_X9_noVertex_N l G m mt mp mg mc mh ms mu of1 ot1 oi1 ml md mw 0 ts ps V rm on pv sd (oe i) (by omega) (by omega) (by omega)) (cwV 1 hts gX9_possibleLabels_X9_noVertex rfl rfl rfl (by decide +kernel) ⟨Nat.le_of_ble_eq_true rfl, Nat.le_of_ble_eq_true rfl⟩) hK hE hA hP hD hS hl.1 [0] [1, 2, 3, 4, 5, 6, 7] [7, 0, 1, 2, 3, 4, 5, 6] rfl rfl rfl (by decide) (ci := 6) rfl rfl rfl rfl rfl (Nat.le_of_ble_eq_true rfl) ⟨Nat.zero_le _, Nat.zero_le _⟩ dX9_possibleLabels_94 (fun H locs hP hD hS => ?_)
                  refine zb_ne (tgt := 104) hx hb dX9_possibleLabels_97 (by decide) (fun c_10 => ?_) (fun c_10 => ?_)
                  · skip
                    refine lv_iconst (v := nI 0) hx hb dX9_possibleLabels_104 (by decide) ?_
                    refine lv_istore (lv' := [(6, .int (nI 0)), (0, .ref m), (1, .int (nI x.toInt.toNat)), (2, .int (nI a)), (3, .int (nI p)), (4, .int (bI (decide (b = true)))), (5, .int (nI i))]) hx hb dX9_possibleLabels_105 hl (by decide) rfl (fun ls hl => ?_)
                    refine lv_iload hx hb dX9_possibleLabels_107 (lv_at hl 5 rfl) ?_
                    refine zb_eq (tgt := 158) hx hb dX9_possibleLabels_109 (by decide) (fun c_11 => ?_) (fun c_11 => ?_)
                    · skip
                      have hbf : ¬ b = true := c_11
                      refine lv_iconst (v := nI 0) hx hb dX9_possibleLabels_158 (by decide) ?_
                      refine lv_istore (lv' := [(4, .int (nI 0)), (6, .int (nI 0)), (0, .ref m), (1, .int (nI x.toInt.toNat)), (2, .int (nI a)), (3, .int (nI p)), (5, .int (nI i))]) hx hb dX9_possibleLabels_159 hl (by decide) rfl (fun ls hl => ?_)
                      refine lv_iinc (v := nI (i + 1)) (lv' := [(5, .int (nI (i + 1))), (4, .int (nI 0)), (6, .int (nI 0)), (0, .ref m), (1, .int (nI x.toInt.toNat)), (2, .int (nI a)), (3, .int (nI p))]) hx hb dX9_possibleLabels_161 hl (k := 6) rfl (zinc i 1) (by decide) rfl (fun ls hl => ?_)
                      refine lv_goto (tgt := 63) hx hb dX9_possibleLabels_164 (by decide) ?_
                      exact ih63 (i + 1) false (by omega) (by rw [zIt_s, ← hq2]; first | exact mPlI_f1 hbf | exact mPlI_t hbt (by omega) | exact mPlI_f2 (by omega)) (by omega) _ _ _ hP hD hS (lv_sub hl [3, 4, 5, 6, 1, 0] rfl)
                    · skip
                      have hbt : b = true := c_11
                      refine lv_iload hx hb dX9_possibleLabels_112 (lv_at hl 0 rfl) ?_
                      refine zk_eq_t (tgt := 154) hx hb dX9_possibleLabels_114 (by decide) (by decide) ?_
                      refine lv_iconst (v := nI 1) hx hb dX9_possibleLabels_154 (by decide) ?_
                      refine lv_goto (tgt := 159) hx hb dX9_possibleLabels_155 (by decide) ?_
                      refine lv_istore (lv' := [(4, .int (nI 1)), (6, .int (nI 0)), (0, .ref m), (1, .int (nI x.toInt.toNat)), (2, .int (nI a)), (3, .int (nI p)), (5, .int (nI i))]) hx hb dX9_possibleLabels_159 hl (by decide) rfl (fun ls hl => ?_)
                      refine lv_iinc (v := nI (i + 1)) (lv' := [(5, .int (nI (i + 1))), (4, .int (nI 1)), (6, .int (nI 0)), (0, .ref m), (1, .int (nI x.toInt.toNat)), (2, .int (nI a)), (3, .int (nI p))]) hx hb dX9_possibleLabels_161 hl (k := 6) rfl (zinc i 1) (by decide) rfl (fun ls hl => ?_)
                      refine lv_goto (tgt := 63) hx hb dX9_possibleLabels_164 (by decide) ?_
                      exact ih63 (i + 1) true (by omega) (by rw [zIt_s, ← hq2]; first | exact mPlI_f1 hbf | exact mPlI_t hbt (by omega) | exact mPlI_f2 (by omega)) (by omega) _ _ _ hP hD hS (lv_sub hl [3, 4, 5, 6, 1, 0] rfl)
                  · skip
                    refine lv_iconst (v := nI 1) hx hb dX9_possibleLabels_100 (by decide) ?_
                    refine lv_goto (tgt := 105) hx hb dX9_possibleLabels_101 (by decide) ?_
                    refine lv_istore (lv' := [(6, .int (nI 1)), (0, .ref m), (1, .int (nI x.toInt.toNat)), (2, .int (nI a)), (3, .int (nI p)), (4, .int (bI (decide (b = true)))), (5, .int (nI i))]) hx hb dX9_possibleLabels_105 hl (by decide) rfl (fun ls hl => ?_)
                    refine lv_iload hx hb dX9_possibleLabels_107 (lv_at hl 5 rfl) ?_
                    refine zb_eq (tgt := 158) hx hb dX9_possibleLabels_109 (by decide) (fun c_13 => ?_) (fun c_13 => ?_)
                    · skip
                      have hbf : ¬ b = true := c_13
                      refine lv_iconst (v := nI 0) hx hb dX9_possibleLabels_158 (by decide) ?_
                      refine lv_istore (lv' := [(4, .int (nI 0)), (6, .int (nI 1)), (0, .ref m), (1, .int (nI x.toInt.toNat)), (2, .int (nI a)), (3, .int (nI p)), (5, .int (nI i))]) hx hb dX9_possibleLabels_159 hl (by decide) rfl (fun ls hl => ?_)
                      refine lv_iinc (v := nI (i + 1)) (lv' := [(5, .int (nI (i + 1))), (4, .int (nI 0)), (6, .int (nI 1)), (0, .ref m), (1, .int (nI x.toInt.toNat)), (2, .int (nI a)), (3, .int (nI p))]) hx hb dX9_possibleLabels_161 hl (k := 6) rfl (zinc i 1) (by decide) rfl (fun ls hl => ?_)
                      refine lv_goto (tgt := 63) hx hb dX9_possibleLabels_164 (by decide) ?_
                      exact ih63 (i + 1) false (by omega) (by rw [zIt_s, ← hq2]; first | exact mPlI_f1 hbf | exact mPlI_t hbt (by omega) | exact mPlI_f2 (by omega)) (by omega) _ _ _ hP hD hS (lv_sub hl [3, 4, 5, 6, 1, 0] rfl)
                    · skip
                      have hbt : b = true := c_13
                      refine lv_iload hx hb dX9_possibleLabels_112 (lv_at hl 0 rfl) ?_
                      refine zk_eq_f hx hb dX9_possibleLabels_114 (by decide) ?_
                      refine lv_aload_n hx hb dX9_possibleLabels_117 rfl (lv_at hl 1 rfl) ?_
                      refine lv_aload_n hx hb dX9_possibleLabels_118 rfl (lv_at hl 1 rfl) ?_
                      refine va_get (D := G.1) (ci := 6) (v := .ref of1) (C := RX9) (T := TX9) (N := 21) hx hb hts hinX9 hown hK hP 0 rfl rfl 14 (by decide) hlk36 (fun _ h9 => h9) rfl dX9_possibleLabels_119 ?_
                      refine lv_iload hx hb dX9_possibleLabels_122 (lv_at hl 6 rfl) ?_
                      refine zi_ald hx hb hK hP 5 rfl (by omega) (by omega) dX9_possibleLabels_124 ?_
                      have hb_15 := hos i
                      refine lv_aload_n hx hb dX9_possibleLabels_125 rfl (lv_at hl 1 rfl) ?_
                      refine va_get (D := G.1) (ci := 6) (v := .ref ot1) (C := RX9) (T := TX9) (N := 21) hx hb hts hinX9 hown hK hP 0 rfl rfl 15 (by decide) hlk39 (fun _ h9 => h9) rfl dX9_possibleLabels_126 ?_
                      refine lv_iload hx hb dX9_possibleLabels_129 (lv_at hl 6 rfl) ?_
                      refine zi_ald hx hb hK hP 6 rfl (by omega) (by omega) dX9_possibleLabels_131 ?_
                      have hb_16 := hoe i
                      refine zVi (W1 := [(m, .inr (6, [.int (nI 0), .ref mt, .int (nI ts), .int (nI ps), .int pv, .ref mp, .int (nI V), .ref mg, .ref mc, .ref mh, .int (nI rm), .ref ms, .ref mu, .int (nI on), .ref of1, .ref ot1, .ref oi1, .long sd, .ref ml, .ref md, .ref mw])), zA G ml 64 (mT (zU g (3 + 3 * x.toInt.toNat) p) 65535), zA G mw 96 (zWd 65535 (zU g (3 + 3 * x.toInt.toNat) p) wl ((zU g (3 + 3 * x.toInt.toNat) p) 0)), zA G mg 49 g, zA G mc 49 (zU g (3 + 3 * x.toInt.toNat) p), zA G of1 6 os, zA G ot1 6 oe, zA G oi1 6 oa]) (W2 := [(m, .inr (6, [.int (nI 0), .ref mt, .int (nI ts), .int (nI ps), .int pv, .ref mp, .int (nI V), .ref mg, .ref mc, .ref mh, .int (nI rm), .ref ms, .ref mu, .int (nI on), .ref of1, .ref ot1, .ref oi1, .long sd, .ref ml, .ref md, .ref mw])), zA G ml 64 (mT (zU g (3 + 3 * x.toInt.toNat) p) 65535), zA G mw 96 (zWd 65535 (zU g (3 + 3 * x.toInt.toNat) p) wl ((zU g (3 + 3 * x.toInt.toNat) p) 0)), zA G mg 49 g, zA G mc 49 (zU g (3 + 3 * x.toInt.toNat) p), zA G of1 6 os, zA G ot1 6 oe, zA G oi1 6 oa]) (wr := [zA G mw 96 (zWd 65535 (zU g (3 + 3 * x.toInt.toNat) p) wl ((zU g (3 + 3 * x.toInt.toNat) p) 0)), zA G mg 49 g, zA G mc 49 (zU g (3 + 3 * x.toInt.toNat) p), zA G of1 6 os, zA G ot1 6 oe, zA G oi1 6 oa]) (rest := []) SM (c_X9_reaches l G m mt mp mg mc mh ms mu of1 ot1 oi1 ml md mw 0 ts ps V rm on pv sd (mT (zU g (3 + 3 * x.toInt.toNat) p) 65535) (os i) (oe i) (mT_2 _ _) (by omega) (by omega)) (cwV 2 hts gX9_possibleLabels_X9_reaches rfl rfl rfl (by decide +kernel) ⟨Nat.le_of_ble_eq_true rfl, Nat.le_of_ble_eq_true rfl⟩) hK hE hA hP hD hS hl.1 [0, 1] [2, 3, 4, 5, 6, 7] [6, 7, 0, 1, 2, 3, 4, 5] rfl rfl rfl (by decide) (ci := 6) rfl rfl rfl rfl rfl (Nat.le_of_ble_eq_true rfl) ⟨Nat.zero_le _, Nat.zero_le _⟩ dX9_possibleLabels_132 (fun H locs hP hD hS => ?_)
                      refine lv_aload_n hx hb dX9_possibleLabels_135 rfl (lv_at hl 1 rfl) ?_
                      refine va_get (D := G.1) (ci := 6) (v := .ref oi1) (C := RX9) (T := TX9) (N := 21) hx hb hts hinX9 hown hK hP 0 rfl rfl 16 (by decide) hlk42 (fun _ h9 => h9) rfl dX9_possibleLabels_136 ?_
                      refine lv_iload hx hb dX9_possibleLabels_139 (lv_at hl 6 rfl) ?_
                      refine zi_ald hx hb hK hP 7 rfl (by omega) (by omega) dX9_possibleLabels_141 ?_
                      have hb_17 := hoa i
                      refine lv_iconst (v := nI 1) hx hb dX9_possibleLabels_142 (by decide) ?_
                      refine zn_ne (tgt := 150) hx hb dX9_possibleLabels_143 (by decide) (by omega) (by omega) (fun c_18 => ?_) (fun c_18 => ?_)
                      · skip
                        refine lv_iconst (v := nI 0) hx hb dX9_possibleLabels_150 (by decide) ?_
                        refine zb1_ne_0 (tgt := 158) hx hb dX9_possibleLabels_151 (by decide) (fun c_19 => ?_) (fun c_19 => ?_)
                        · skip
                          refine lv_iconst (v := nI 0) hx hb dX9_possibleLabels_158 (by decide) ?_
                          refine lv_istore (lv' := [(4, .int (nI 0)), (6, .int (nI 1)), (0, .ref m), (1, .int (nI x.toInt.toNat)), (2, .int (nI a)), (3, .int (nI p)), (5, .int (nI i))]) hx hb dX9_possibleLabels_159 hl (by decide) rfl (fun ls hl => ?_)
                          refine lv_iinc (v := nI (i + 1)) (lv' := [(5, .int (nI (i + 1))), (4, .int (nI 0)), (6, .int (nI 1)), (0, .ref m), (1, .int (nI x.toInt.toNat)), (2, .int (nI a)), (3, .int (nI p))]) hx hb dX9_possibleLabels_161 hl (k := 6) rfl (zinc i 1) (by decide) rfl (fun ls hl => ?_)
                          refine lv_goto (tgt := 63) hx hb dX9_possibleLabels_164 (by decide) ?_
                          exact ih63 (i + 1) false (by omega) (by rw [zIt_s, ← hq2]; first | exact mPlI_f1 hbf | exact mPlI_t hbt (by omega) | exact mPlI_f2 (by omega)) (by omega) _ _ _ hP hD hS (lv_sub hl [3, 4, 5, 6, 1, 0] rfl)
                        · skip
                          refine lv_iconst (v := nI 1) hx hb dX9_possibleLabels_154 (by decide) ?_
                          refine lv_goto (tgt := 159) hx hb dX9_possibleLabels_155 (by decide) ?_
                          refine lv_istore (lv' := [(4, .int (nI 1)), (6, .int (nI 1)), (0, .ref m), (1, .int (nI x.toInt.toNat)), (2, .int (nI a)), (3, .int (nI p)), (5, .int (nI i))]) hx hb dX9_possibleLabels_159 hl (by decide) rfl (fun ls hl => ?_)
                          refine lv_iinc (v := nI (i + 1)) (lv' := [(5, .int (nI (i + 1))), (4, .int (nI 1)), (6, .int (nI 1)), (0, .ref m), (1, .int (nI x.toInt.toNat)), (2, .int (nI a)), (3, .int (nI p))]) hx hb dX9_possibleLabels_161 hl (k := 6) rfl (zinc i 1) (by decide) rfl (fun ls hl => ?_)
                          refine lv_goto (tgt := 63) hx hb dX9_possibleLabels_164 (by decide) ?_
                          exact ih63 (i + 1) true (by omega) (by rw [zIt_s, ← hq2]; first | exact mPlI_f1 hbf | exact mPlI_t hbt (by omega) | exact mPlI_f2 (by omega)) (by omega) _ _ _ hP hD hS (lv_sub hl [3, 4, 5, 6, 1, 0] rfl)
                      · skip
                        refine lv_iconst (v := nI 1) hx hb dX9_possibleLabels_146 (by decide) ?_
                        refine lv_goto (tgt := 151) hx hb dX9_possibleLabels_147 (by decide) ?_
                        refine zb1_ne_1 (tgt := 158) hx hb dX9_possibleLabels_151 (by decide) (fun c_20 => ?_) (fun c_20 => ?_)
                        · skip
                          refine lv_iconst (v := nI 0) hx hb dX9_possibleLabels_158 (by decide) ?_
                          refine lv_istore (lv' := [(4, .int (nI 0)), (6, .int (nI 1)), (0, .ref m), (1, .int (nI x.toInt.toNat)), (2, .int (nI a)), (3, .int (nI p)), (5, .int (nI i))]) hx hb dX9_possibleLabels_159 hl (by decide) rfl (fun ls hl => ?_)
                          refine lv_iinc (v := nI (i + 1)) (lv' := [(5, .int (nI (i + 1))), (4, .int (nI 0)), (6, .int (nI 1)), (0, .ref m), (1, .int (nI x.toInt.toNat)), (2, .int (nI a)), (3, .int (nI p))]) hx hb dX9_possibleLabels_161 hl (k := 6) rfl (zinc i 1) (by decide) rfl (fun ls hl => ?_)
                          refine lv_goto (tgt := 63) hx hb dX9_possibleLabels_164 (by decide) ?_
                          exact ih63 (i + 1) false (by omega) (by rw [zIt_s, ← hq2]; first | exact mPlI_f1 hbf | exact mPlI_t hbt (by omega) | exact mPlI_f2 (by omega)) (by omega) _ _ _ hP hD hS (lv_sub hl [3, 4, 5, 6, 1, 0] rfl)
                        · skip
                          refine lv_iconst (v := nI 1) hx hb dX9_possibleLabels_154 (by decide) ?_
                          refine lv_goto (tgt := 159) hx hb dX9_possibleLabels_155 (by decide) ?_
                          refine lv_istore (lv' := [(4, .int (nI 1)), (6, .int (nI 1)), (0, .ref m), (1, .int (nI x.toInt.toNat)), (2, .int (nI a)), (3, .int (nI p)), (5, .int (nI i))]) hx hb dX9_possibleLabels_159 hl (by decide) rfl (fun ls hl => ?_)
                          refine lv_iinc (v := nI (i + 1)) (lv' := [(5, .int (nI (i + 1))), (4, .int (nI 1)), (6, .int (nI 1)), (0, .ref m), (1, .int (nI x.toInt.toNat)), (2, .int (nI a)), (3, .int (nI p))]) hx hb dX9_possibleLabels_161 hl (k := 6) rfl (zinc i 1) (by decide) rfl (fun ls hl => ?_)
                          refine lv_goto (tgt := 63) hx hb dX9_possibleLabels_164 (by decide) ?_
                          exact ih63 (i + 1) true (by omega) (by rw [zIt_s, ← hq2]; first | exact mPlI_f1 hbf | exact mPlI_t hbt (by omega) | exact mPlI_f2 (by omega)) (by omega) _ _ _ hP hD hS (lv_sub hl [3, 4, 5, 6, 1, 0] rfl)
          exact lp63 (on - 0 + 1) 0 true (Nat.zero_le _) rfl (Nat.lt_succ_self _) _ _ _ hP hD hS (lv_sub hl [2, 3, 4, 5, 1, 0] rfl)
    exact lp19 (7 - 0 + 1) 0 0 gc f wd (by omega) rfl hL hw8 (Nat.lt_succ_self _) _ _ _ hP hD hS (lv_sub hl [2, 3, 1, 0] rfl)
  · skip
    exfalso; omega
set_option maxHeartbeats 400000 in
set_option maxRecDepth 100000 in
theorem c_X9_representative_bad (l : Launch) (G : zG) (m mt mp mg mc mh ms mu of1 ot1 oi1 ml md mw th ts ps V rm on : Nat) (pv : Int32) (sd : Int64) (x : Int32) (hV : V ≤ 8) (hV1 : 1 ≤ V) (hb0 : ¬ (0 ≤ x.toInt ∧ x.toInt < V)) : MI l yX9_representative wsX9_representative ({ frames := 2, cells := 0, slots := 0, locals := 46 }) G [.ref m, .int x] [(m, .inr (6, [.int (nI th), .ref mt, .int (nI ts), .int (nI ps), .int pv, .ref mp, .int (nI V), .ref mg, .ref mc, .ref mh, .int (nI rm), .ref ms, .ref mu, .int (nI on), .ref of1, .ref ot1, .ref oi1, .long sd, .ref ml, .ref md, .ref mw]))] (-1) [(m, .inr (6, [.int (nI 0), .ref mt, .int (nI ts), .int (nI ps), .int pv, .ref mp, .int (nI V), .ref mg, .ref mc, .ref mh, .int (nI rm), .ref ms, .ref mu, .int (nI on), .ref of1, .ref ot1, .ref oi1, .long sd, .ref ml, .ref md, .ref mw]))] := by
  refine MI.enter (cc := cX9_representative) (maxL := 4) (by decide) rfl (Nat.le_of_ble_eq_true rfl) rfl ?_
  intro pM eM sM mM bM tM cM QM AM ls hat kret
  obtain ⟨SM, hA, hK, hE, hP, hD, hS, hl⟩ := hat
  have hx := SM.1
  have hb := SM.2.1
  have hown : sM.vm.findClass RX9 = some mM.cls := SM.2.2.2.1
  have hts := SM.2.2.2.2
  have hinX9 : ∀ w ∈ u_ws RX9 TX9 21, w ∈ wsX9_representative := by decide +kernel
  have hlk54 : (Cond.fieldLink RX9 54 "DyckReachabilityModel" "thrown" "I").before _ sM = true := hts _ (by decide +kernel)
  have hl : lv_has ls 4 [(0, .ref m), (1, .int x)] := hl
  refine lv_aload_n hx hb dX9_representative_0 rfl (lv_at hl 0 rfl) ?_
  refine lv_iconst (v := nI 0) hx hb dX9_representative_1 (by decide) ?_
  refine va_put (D := G.1) (ci := 6) (v := .int (nI 0)) (ty := .int) (C := RX9) (T := TX9) (N := 21) hx hb hts hinX9 tyX9 tyX9_ok nmX9 hown hK hP hD hS 0 rfl rfl 0 (by decide) hlk54 (fun _ h9 => h9) rfl (by decide +kernel) rfl rfl (Nat.le_of_ble_eq_true rfl) dX9_representative_2 (fun H locs hP hD hS => ?_)
  have hP : va_P G.1 vwCl [(m, .inr (6, [.int (nI 0), .ref mt, .int (nI ts), .int (nI ps), .int pv, .ref mp, .int (nI V), .ref mg, .ref mc, .ref mh, .int (nI rm), .ref ms, .ref mu, .int (nI on), .ref of1, .ref ot1, .ref oi1, .long sd, .ref ml, .ref md, .ref mw]))] H := hP
  have hD : va_D AM [(m, .inr (6, [.int (nI 0), .ref mt, .int (nI ts), .int (nI ps), .int pv, .ref mp, .int (nI V), .ref mg, .ref mc, .ref mh, .int (nI rm), .ref ms, .ref mu, .int (nI on), .ref of1, .ref ot1, .ref oi1, .long sd, .ref ml, .ref md, .ref mw]))] := hD
  refine lv_aload_n hx hb dX9_representative_5 rfl (lv_at hl 0 rfl) ?_
  refine lv_iload_n hx hb dX9_representative_6 rfl (lv_at hl 1 rfl) ?_
  refine zVi (W1 := [(m, .inr (6, [.int (nI 0), .ref mt, .int (nI ts), .int (nI ps), .int pv, .ref mp, .int (nI V), .ref mg, .ref mc, .ref mh, .int (nI rm), .ref ms, .ref mu, .int (nI on), .ref of1, .ref ot1, .ref oi1, .long sd, .ref ml, .ref md, .ref mw]))]) (W2 := [(m, .inr (6, [.int (nI 0), .ref mt, .int (nI ts), .int (nI ps), .int pv, .ref mp, .int (nI V), .ref mg, .ref mc, .ref mh, .int (nI rm), .ref ms, .ref mu, .int (nI on), .ref of1, .ref ot1, .ref oi1, .long sd, .ref ml, .ref md, .ref mw]))]) (wr := []) (rest := []) SM (c_X9_noVertex l G m mt mp mg mc mh ms mu of1 ot1 oi1 ml md mw 0 ts ps V rm on pv sd x (by first | assumption | omega) (by first | assumption | omega)) (cwV 1 hts gX9_representative_X9_noVertex rfl rfl rfl (by decide +kernel) ⟨Nat.le_of_ble_eq_true rfl, Nat.le_of_ble_eq_true rfl⟩) hK hE hA hP hD hS hl.1 [0] [] [0] rfl rfl rfl (by decide) (ci := 6) rfl rfl rfl rfl rfl (Nat.le_of_ble_eq_true rfl) ⟨Nat.zero_le _, Nat.zero_le _⟩ dX9_representative_7 (fun H locs hP hD hS => ?_)
  refine zb_eq (tgt := 15) hx hb dX9_representative_10 (by decide) (fun c_1 => ?_) (fun c_1 => ?_)
  · skip
    exfalso; omega
  · skip
    refine lv_iconst (v := (-1)) hx hb dX9_representative_13 (by decide) ?_
    exact kret _ _ _ _ _ _ rfl rfl hP hD hS dX9_representative_14
set_option maxHeartbeats 400000 in
set_option maxRecDepth 100000 in
theorem c_X9_representative_ok (l : Launch) (G : zG) (m mt mp mg mc mh ms mu of1 ot1 oi1 ml md mw th ts ps V rm on : Nat) (pv : Int32) (sd : Int64) (f wd g : Nat → Nat) (x : Int32) (hV : V ≤ 8) (hV1 : 1 ≤ V) (hL : zL2 f) (hw8 : ∀ i, wd i < 8) (hg0 : g 0 ≤ 16) (hg8 : ∀ i, 1 ≤ i → g i < 8) (hx : 0 ≤ x.toInt ∧ x.toInt < V) (hdiag : mBi g (8 * x.toInt.toNat + x.toInt.toNat) < 2000000) : MI l yX9_representative wsX9_representative ({ frames := 2, cells := 0, slots := 0, locals := 51 }) G [.ref m, .int x] [(m, .inr (6, [.int (nI th), .ref mt, .int (nI ts), .int (nI ps), .int pv, .ref mp, .int (nI V), .ref mg, .ref mc, .ref mh, .int (nI rm), .ref ms, .ref mu, .int (nI on), .ref of1, .ref ot1, .ref oi1, .long sd, .ref ml, .ref md, .ref mw])), zA G ml 64 f, zA G mw 96 wd, zA G mg 49 g] (nI (mRp g x.toInt.toNat)) [(m, .inr (6, [.int (nI 0), .ref mt, .int (nI ts), .int (nI ps), .int pv, .ref mp, .int (nI V), .ref mg, .ref mc, .ref mh, .int (nI rm), .ref ms, .ref mu, .int (nI on), .ref of1, .ref ot1, .ref oi1, .long sd, .ref ml, .ref md, .ref mw])), zA G ml 64 (mBi g), zA G mw 96 (mBd wd g (g 0)), zA G mg 49 g] := by
  refine MI.enter (cc := cX9_representative) (maxL := 4) (by decide) rfl (Nat.le_of_ble_eq_true rfl) rfl ?_
  intro pM eM sM mM bM tM cM QM AM ls hat kret
  obtain ⟨SM, hA, hK, hE, hP, hD, hS, hl⟩ := hat
  have hx := SM.1
  have hb := SM.2.1
  have hown : sM.vm.findClass RX9 = some mM.cls := SM.2.2.2.1
  have hts := SM.2.2.2.2
  have hinX9 : ∀ w ∈ u_ws RX9 TX9 21, w ∈ wsX9_representative := by decide +kernel
  have hlk54 : (Cond.fieldLink RX9 54 "DyckReachabilityModel" "thrown" "I").before _ sM = true := hts _ (by decide +kernel)
  have hlk20 : (Cond.fieldLink RX9 20 "DyckReachabilityModel" "graph" "[I").before _ sM = true := hts _ (by decide +kernel)
  have hlk51 : (Cond.fieldLink RX9 51 "DyckReachabilityModel" "wide" "[I").before _ sM = true := hts _ (by decide +kernel)
  have hl : lv_has ls 4 [(0, .ref m), (1, .int x)] := hl
  refine lv_aload_n hx hb dX9_representative_0 rfl (lv_at hl 0 rfl) ?_
  refine lv_iconst (v := nI 0) hx hb dX9_representative_1 (by decide) ?_
  refine va_put (D := G.1) (ci := 6) (v := .int (nI 0)) (ty := .int) (C := RX9) (T := TX9) (N := 21) hx hb hts hinX9 tyX9 tyX9_ok nmX9 hown hK hP hD hS 0 rfl rfl 0 (by decide) hlk54 (fun _ h9 => h9) rfl (by decide +kernel) rfl rfl (Nat.le_of_ble_eq_true rfl) dX9_representative_2 (fun H locs hP hD hS => ?_)
  have hP : va_P G.1 vwCl [(m, .inr (6, [.int (nI 0), .ref mt, .int (nI ts), .int (nI ps), .int pv, .ref mp, .int (nI V), .ref mg, .ref mc, .ref mh, .int (nI rm), .ref ms, .ref mu, .int (nI on), .ref of1, .ref ot1, .ref oi1, .long sd, .ref ml, .ref md, .ref mw])), zA G ml 64 f, zA G mw 96 wd, zA G mg 49 g] H := hP
  have hD : va_D AM [(m, .inr (6, [.int (nI 0), .ref mt, .int (nI ts), .int (nI ps), .int pv, .ref mp, .int (nI V), .ref mg, .ref mc, .ref mh, .int (nI rm), .ref ms, .ref mu, .int (nI on), .ref of1, .ref ot1, .ref oi1, .long sd, .ref ml, .ref md, .ref mw])), zA G ml 64 f, zA G mw 96 wd, zA G mg 49 g] := hD
  refine lv_aload_n hx hb dX9_representative_5 rfl (lv_at hl 0 rfl) ?_
  refine lv_iload_n hx hb dX9_representative_6 rfl (lv_at hl 1 rfl) ?_
  refine zVi (W1 := [(m, .inr (6, [.int (nI 0), .ref mt, .int (nI ts), .int (nI ps), .int pv, .ref mp, .int (nI V), .ref mg, .ref mc, .ref mh, .int (nI rm), .ref ms, .ref mu, .int (nI on), .ref of1, .ref ot1, .ref oi1, .long sd, .ref ml, .ref md, .ref mw])), zA G ml 64 f, zA G mw 96 wd, zA G mg 49 g]) (W2 := [(m, .inr (6, [.int (nI 0), .ref mt, .int (nI ts), .int (nI ps), .int pv, .ref mp, .int (nI V), .ref mg, .ref mc, .ref mh, .int (nI rm), .ref ms, .ref mu, .int (nI on), .ref of1, .ref ot1, .ref oi1, .long sd, .ref ml, .ref md, .ref mw])), zA G ml 64 f, zA G mw 96 wd, zA G mg 49 g]) (wr := [zA G ml 64 f, zA G mw 96 wd, zA G mg 49 g]) (rest := []) SM (c_X9_noVertex l G m mt mp mg mc mh ms mu of1 ot1 oi1 ml md mw 0 ts ps V rm on pv sd x (by omega) (by omega)) (cwV 1 hts gX9_representative_X9_noVertex rfl rfl rfl (by decide +kernel) ⟨Nat.le_of_ble_eq_true rfl, Nat.le_of_ble_eq_true rfl⟩) hK hE hA hP hD hS hl.1 [0] [1, 2, 3] [3, 0, 1, 2] rfl rfl rfl (by decide) (ci := 6) rfl rfl rfl rfl rfl (Nat.le_of_ble_eq_true rfl) ⟨Nat.zero_le _, Nat.zero_le _⟩ dX9_representative_7 (fun H locs hP hD hS => ?_)
  refine zb_eq (tgt := 15) hx hb dX9_representative_10 (by decide) (fun c_1 => ?_) (fun c_1 => ?_)
  · skip
    have hl : lv_has ls 4 [(0, .ref m), (1, .int (nI x.toInt.toNat))] := by rw [← xN_eq (x := x) (by omega)]; exact hl
    refine lv_iconst (v := nI 0) hx hb dX9_representative_15 (by decide) ?_
    refine lv_istore_n (lv' := [(2, .int (nI 0)), (0, .ref m), (1, .int (nI x.toInt.toNat))]) hx hb dX9_representative_16 rfl hl (by decide) rfl (fun ls hl => ?_)
    have lp17 : ∀ (n9 : Nat), ∀ (i : Nat), (i ≤ g 0) → (g 0 - i) < n9 → ∀ (H : Heap) (locs : List Loc) (ls : Array Slot), va_P G.1 vwCl [(m, .inr (6, [.int (nI 0), .ref mt, .int (nI ts), .int (nI ps), .int pv, .ref mp, .int (nI V), .ref mg, .ref mc, .ref mh, .int (nI rm), .ref ms, .ref mu, .int (nI on), .ref of1, .ref ot1, .ref oi1, .long sd, .ref ml, .ref md, .ref mw])), zA G ml 64 f, zA G mw 96 (mBd wd g i), zA G mg 49 g] H → va_D AM [(m, .inr (6, [.int (nI 0), .ref mt, .int (nI ts), .int (nI ps), .int pv, .ref mp, .int (nI V), .ref mg, .ref mc, .ref mh, .int (nI rm), .ref ms, .ref mu, .int (nI on), .ref of1, .ref ot1, .ref oi1, .long sd, .ref ml, .ref md, .ref mw])), zA G ml 64 f, zA G mw 96 (mBd wd g i), zA G mg 49 g] → va_S AM sM.heap H locs → lv_has ls 4 [(0, .ref m), (1, .int (nI x.toInt.toNat)), (2, .int (nI i))] → W pM l eM ({ frames := 2, cells := 0, slots := 0, locals := 51 }) sM mM (([.ref m, .int x] : List Value).toArray) bM tM cM H locs 0 0 QM (F0 mM 17 ls []) := by
      intro n9
      induction n9 with
      | zero =>
        intro _ _ h9
        exact absurd h9 (Nat.not_lt_zero _)
      | succ n9 ih9 =>
        intro i h1 hmu17 H locs ls hP hD hS hl
        have ih17 := ih9
        clear ih9
        refine lv_iload_n hx hb dX9_representative_17 rfl (lv_at hl 2 rfl) ?_
        refine lv_aload_n hx hb dX9_representative_18 rfl (lv_at hl 0 rfl) ?_
        refine va_get (D := G.1) (ci := 6) (v := .ref mg) (C := RX9) (T := TX9) (N := 21) hx hb hts hinX9 hown hK hP 0 rfl rfl 7 (by decide) hlk20 (fun _ h9 => h9) rfl dX9_representative_19 ?_
        refine lv_iconst (v := nI 0) hx hb dX9_representative_22 (by decide) ?_
        refine zi_ald hx hb hK hP 3 rfl (by omega) (by omega) dX9_representative_23 ?_
        have hb_2 := hg0
        refine zn_ge (tgt := 171) hx hb dX9_representative_24 (by decide) (by omega) (by omega) (fun c_3 => ?_) (fun c_3 => ?_)
        · skip
          have hq9 : i = g 0 := by omega
          obtain ⟨hP, hD⟩ := zcanon hP hD 2 rfl (mBd wd g (g 0)) (fun j h9 => by rw [hq9])
          have hP : va_P G.1 vwCl [(m, .inr (6, [.int (nI 0), .ref mt, .int (nI ts), .int (nI ps), .int pv, .ref mp, .int (nI V), .ref mg, .ref mc, .ref mh, .int (nI rm), .ref ms, .ref mu, .int (nI on), .ref of1, .ref ot1, .ref oi1, .long sd, .ref ml, .ref md, .ref mw])), zA G ml 64 f, zA G mw 96 (mBd wd g (g 0)), zA G mg 49 g] H := hP
          have hD : va_D AM [(m, .inr (6, [.int (nI 0), .ref mt, .int (nI ts), .int (nI ps), .int pv, .ref mp, .int (nI V), .ref mg, .ref mc, .ref mh, .int (nI rm), .ref ms, .ref mu, .int (nI on), .ref of1, .ref ot1, .ref oi1, .long sd, .ref ml, .ref md, .ref mw])), zA G ml 64 f, zA G mw 96 (mBd wd g (g 0)), zA G mg 49 g] := hD
          refine lv_aload_n hx hb dX9_representative_171 rfl (lv_at hl 0 rfl) ?_
          refine lv_iconst (v := nI 2) hx hb dX9_representative_172 (by decide) ?_
          refine lv_aload_n hx hb dX9_representative_173 rfl (lv_at hl 0 rfl) ?_
          refine va_get (D := G.1) (ci := 6) (v := .ref mg) (C := RX9) (T := TX9) (N := 21) hx hb hts hinX9 hown hK hP 0 rfl rfl 7 (by decide) hlk20 (fun _ h9 => h9) rfl dX9_representative_174 ?_
          refine lv_iconst (v := nI 0) hx hb dX9_representative_177 (by decide) ?_
          refine zi_ald hx hb hK hP 3 rfl (by omega) (by omega) dX9_representative_178 ?_
          have hb_4 := hg0
          refine zi_mul hx hb dX9_representative_179 ?_
          refine zVv (W1 := [(m, .inr (6, [.int (nI 0), .ref mt, .int (nI ts), .int (nI ps), .int pv, .ref mp, .int (nI V), .ref mg, .ref mc, .ref mh, .int (nI rm), .ref ms, .ref mu, .int (nI on), .ref of1, .ref ot1, .ref oi1, .long sd, .ref ml, .ref md, .ref mw])), zA G ml 64 f, zA G mw 96 (mBd wd g (g 0)), zA G mg 49 g]) (W2 := [(m, .inr (6, [.int (nI 0), .ref mt, .int (nI ts), .int (nI ps), .int pv, .ref mp, .int (nI V), .ref mg, .ref mc, .ref mh, .int (nI rm), .ref ms, .ref mu, .int (nI on), .ref of1, .ref ot1, .ref oi1, .long sd, .ref ml, .ref md, .ref mw])), zA G ml 64 (zClT (mBd wd g (g 0)) (2 * (g 0))), zA G mw 96 (mBd wd g (g 0)), zA G mg 49 g]) (wr := [zA G mg 49 g]) (rest := []) SM (c_X9_close l G m mt mp mg mc mh ms mu of1 ot1 oi1 ml md mw 0 ts ps V rm on pv sd f (mBd wd g (g 0)) (2 * (g 0)) hL (mBd_8 hw8 hg8 _) (by omega)) (cwV 1 hts gX9_representative_X9_close rfl rfl rfl (by decide +kernel) ⟨Nat.le_of_ble_eq_true rfl, Nat.le_of_ble_eq_true rfl⟩) hK hE hA hP hD hS hl.1 [0, 1, 2] [3] [1, 2, 3, 0] rfl rfl rfl (by decide) (ci := 6) rfl rfl rfl rfl rfl (Nat.le_of_ble_eq_true rfl) ⟨Nat.zero_le _, Nat.zero_le _⟩ dX9_representative_180 (fun H locs hP hD hS => ?_)
          obtain ⟨hP, hD⟩ := zcanon hP hD 1 rfl (mBi g) (fun j h9 => congrFun (mBi_eq g wd) j)
          have hP : va_P G.1 vwCl [(m, .inr (6, [.int (nI 0), .ref mt, .int (nI ts), .int (nI ps), .int pv, .ref mp, .int (nI V), .ref mg, .ref mc, .ref mh, .int (nI rm), .ref ms, .ref mu, .int (nI on), .ref of1, .ref ot1, .ref oi1, .long sd, .ref ml, .ref md, .ref mw])), zA G ml 64 (mBi g), zA G mw 96 (mBd wd g (g 0)), zA G mg 49 g] H := hP
          have hD : va_D AM [(m, .inr (6, [.int (nI 0), .ref mt, .int (nI ts), .int (nI ps), .int pv, .ref mp, .int (nI V), .ref mg, .ref mc, .ref mh, .int (nI rm), .ref ms, .ref mu, .int (nI on), .ref of1, .ref ot1, .ref oi1, .long sd, .ref ml, .ref md, .ref mw])), zA G ml 64 (mBi g), zA G mw 96 (mBd wd g (g 0)), zA G mg 49 g] := hD
          refine lv_iconst (v := nI 0) hx hb dX9_representative_183 (by decide) ?_
          refine lv_istore_n (lv' := [(2, .int (nI 0)), (0, .ref m), (1, .int (nI x.toInt.toNat))]) hx hb dX9_representative_184 rfl hl (by decide) rfl (fun ls hl => ?_)
          have lp185 : ∀ (n9 : Nat), ∀ (k : Nat), (k ≤ x.toInt.toNat) → (∀ j, j < k → mRpP g x.toInt.toNat j = false) → (x.toInt.toNat - k) < n9 → ∀ (H : Heap) (locs : List Loc) (ls : Array Slot), va_P G.1 vwCl [(m, .inr (6, [.int (nI 0), .ref mt, .int (nI ts), .int (nI ps), .int pv, .ref mp, .int (nI V), .ref mg, .ref mc, .ref mh, .int (nI rm), .ref ms, .ref mu, .int (nI on), .ref of1, .ref ot1, .ref oi1, .long sd, .ref ml, .ref md, .ref mw])), zA G ml 64 (mBi g), zA G mw 96 (mBd wd g (g 0)), zA G mg 49 g] H → va_D AM [(m, .inr (6, [.int (nI 0), .ref mt, .int (nI ts), .int (nI ps), .int pv, .ref mp, .int (nI V), .ref mg, .ref mc, .ref mh, .int (nI rm), .ref ms, .ref mu, .int (nI on), .ref of1, .ref ot1, .ref oi1, .long sd, .ref ml, .ref md, .ref mw])), zA G ml 64 (mBi g), zA G mw 96 (mBd wd g (g 0)), zA G mg 49 g] → va_S AM sM.heap H locs → lv_has ls 4 [(0, .ref m), (1, .int (nI x.toInt.toNat)), (2, .int (nI k))] → W pM l eM ({ frames := 2, cells := 0, slots := 0, locals := 51 }) sM mM (([.ref m, .int x] : List Value).toArray) bM tM cM H locs 0 0 QM (F0 mM 185 ls []) := by
            intro n9
            induction n9 with
            | zero =>
              intro _ _ _ h9
              exact absurd h9 (Nat.not_lt_zero _)
            | succ n9 ih9 =>
              intro k h2 hn hmu185 H locs ls hP hD hS hl
              have ih185 := ih9
              clear ih9
              refine lv_aload_n hx hb dX9_representative_185 rfl (lv_at hl 0 rfl) ?_
              refine lv_iload_n hx hb dX9_representative_186 rfl (lv_at hl 1 rfl) ?_
              refine lv_iload_n hx hb dX9_representative_187 rfl (lv_at hl 2 rfl) ?_
              refine zVi (W1 := [(m, .inr (6, [.int (nI 0), .ref mt, .int (nI ts), .int (nI ps), .int pv, .ref mp, .int (nI V), .ref mg, .ref mc, .ref mh, .int (nI rm), .ref ms, .ref mu, .int (nI on), .ref of1, .ref ot1, .ref oi1, .long sd, .ref ml, .ref md, .ref mw])), zA G ml 64 (mBi g), zA G mw 96 (mBd wd g (g 0)), zA G mg 49 g]) (W2 := [(m, .inr (6, [.int (nI 0), .ref mt, .int (nI ts), .int (nI ps), .int pv, .ref mp, .int (nI V), .ref mg, .ref mc, .ref mh, .int (nI rm), .ref ms, .ref mu, .int (nI on), .ref of1, .ref ot1, .ref oi1, .long sd, .ref ml, .ref md, .ref mw])), zA G ml 64 (mBi g), zA G mw 96 (mBd wd g (g 0)), zA G mg 49 g]) (wr := [zA G mw 96 (mBd wd g (g 0)), zA G mg 49 g]) (rest := []) SM (c_X9_reaches l G m mt mp mg mc mh ms mu of1 ot1 oi1 ml md mw 0 ts ps V rm on pv sd (mBi g) x.toInt.toNat k (mBi_2 g) (by omega) (by omega)) (cwV 2 hts gX9_representative_X9_reaches rfl rfl rfl (by decide +kernel) ⟨Nat.le_of_ble_eq_true rfl, Nat.le_of_ble_eq_true rfl⟩) hK hE hA hP hD hS hl.1 [0, 1] [2, 3] [2, 3, 0, 1] rfl rfl rfl (by decide) (ci := 6) rfl rfl rfl rfl rfl (Nat.le_of_ble_eq_true rfl) ⟨Nat.zero_le _, Nat.zero_le _⟩ dX9_representative_188 (fun H locs hP hD hS => ?_)
              refine zb_ne (tgt := 200) hx hb dX9_representative_191 (by decide) (fun c_5 => ?_) (fun c_5 => ?_)
              · skip
                have hrr : mBi g (8 * x.toInt.toNat + k) < 2000000 := c_5
                refine lv_iload_n hx hb dX9_representative_200 rfl (lv_at hl 2 rfl) ?_
                exact kret _ _ _ _ _ _ (congrArg nI (mRp_at hn hrr (by omega))) rfl hP hD hS dX9_representative_201
              · skip
                have hnr : ¬ mBi g (8 * x.toInt.toNat + k) < 2000000 := c_5
                refine lv_iinc (v := nI (k + 1)) (lv' := [(2, .int (nI (k + 1))), (0, .ref m), (1, .int (nI x.toInt.toNat))]) hx hb dX9_representative_194 hl (k := 2) rfl (zinc k 1) (by decide) rfl (fun ls hl => ?_)
                refine lv_goto (tgt := 185) hx hb dX9_representative_197 (by decide) ?_
                have hkx : k ≠ x.toInt.toNat := fun h9 => by rw [h9] at hnr; exact hnr hdiag
                exact ih185 (k + 1) (by omega) (mRpP_s hn hnr) (by omega) _ _ _ hP hD hS (lv_sub hl [1, 2, 0] rfl)
          exact lp185 (x.toInt.toNat - 0 + 1) 0 (by omega) (fun j hj => absurd hj (Nat.not_lt_zero j)) (Nat.lt_succ_self _) _ _ _ hP hD hS (lv_sub hl [1, 2, 0] rfl)
        · skip
          refine lv_aload_n hx hb dX9_representative_27 rfl (lv_at hl 0 rfl) ?_
          refine va_get (D := G.1) (ci := 6) (v := .ref mg) (C := RX9) (T := TX9) (N := 21) hx hb hts hinX9 hown hK hP 0 rfl rfl 7 (by decide) hlk20 (fun _ h9 => h9) rfl dX9_representative_28 ?_
          refine lv_iconst (v := nI 3) hx hb dX9_representative_31 (by decide) ?_
          refine lv_iconst (v := nI 3) hx hb dX9_representative_32 (by decide) ?_
          refine lv_iload_n hx hb dX9_representative_33 rfl (lv_at hl 2 rfl) ?_
          refine zi_mul hx hb dX9_representative_34 ?_
          refine zi_addk (n := 3 + (3 * i)) hx hb dX9_representative_35 (by omega) ?_
          refine zi_ald hx hb hK hP 3 rfl (by omega) (by omega) dX9_representative_36 ?_
          have hb_6 := hg8 (3 + (3 * i)) (by omega)
          refine lv_istore_n (lv' := [(3, .int (nI (g (3 + (3 * i))))), (0, .ref m), (1, .int (nI x.toInt.toNat)), (2, .int (nI i))]) hx hb dX9_representative_37 rfl hl (by decide) rfl (fun ls hl => ?_)
          refine lv_aload_n hx hb dX9_representative_38 rfl (lv_at hl 1 rfl) ?_
          refine va_get (D := G.1) (ci := 6) (v := .ref mw) (C := RX9) (T := TX9) (N := 21) hx hb hts hinX9 hown hK hP 0 rfl rfl 20 (by decide) hlk51 (fun _ h9 => h9) rfl dX9_representative_39 ?_
          refine lv_bipush (v := nI 6) hx hb dX9_representative_42 (by decide) ?_
          refine lv_iload_n hx hb dX9_representative_44 rfl (lv_at hl 3 rfl) ?_
          refine zi_mul hx hb dX9_representative_45 ?_
          refine lv_aload_n hx hb dX9_representative_46 rfl (lv_at hl 1 rfl) ?_
          refine va_get (D := G.1) (ci := 6) (v := .ref mg) (C := RX9) (T := TX9) (N := 21) hx hb hts hinX9 hown hK hP 0 rfl rfl 7 (by decide) hlk20 (fun _ h9 => h9) rfl dX9_representative_47 ?_
          refine lv_iconst (v := nI 1) hx hb dX9_representative_50 (by decide) ?_
          refine lv_iconst (v := nI 3) hx hb dX9_representative_51 (by decide) ?_
          refine lv_iload_n hx hb dX9_representative_52 rfl (lv_at hl 3 rfl) ?_
          refine zi_mul hx hb dX9_representative_53 ?_
          refine zi_addk (n := 1 + (3 * i)) hx hb dX9_representative_54 (by omega) ?_
          refine zi_ald hx hb hK hP 3 rfl (by omega) (by omega) dX9_representative_55 ?_
          have hb_7 := hg8 (1 + (3 * i)) (by omega)
          refine zi_ast hx hb hK hP hD hS 2 rfl (by omega) (by omega) dX9_representative_56 (fun H locs hP hD hS => ?_)
          have hP : va_P G.1 vwCl [(m, .inr (6, [.int (nI 0), .ref mt, .int (nI ts), .int (nI ps), .int pv, .ref mp, .int (nI V), .ref mg, .ref mc, .ref mh, .int (nI rm), .ref ms, .ref mu, .int (nI on), .ref of1, .ref ot1, .ref oi1, .long sd, .ref ml, .ref md, .ref mw])), zA G ml 64 f, zA G mw 96 (zU (mBd wd g i) (6 * i) (g (1 + (3 * i)))), zA G mg 49 g] H := hP
          have hD : va_D AM [(m, .inr (6, [.int (nI 0), .ref mt, .int (nI ts), .int (nI ps), .int pv, .ref mp, .int (nI V), .ref mg, .ref mc, .ref mh, .int (nI rm), .ref ms, .ref mu, .int (nI on), .ref of1, .ref ot1, .ref oi1, .long sd, .ref ml, .ref md, .ref mw])), zA G ml 64 f, zA G mw 96 (zU (mBd wd g i) (6 * i) (g (1 + (3 * i)))), zA G mg 49 g] := hD
          refine lv_aload_n hx hb dX9_representative_57 rfl (lv_at hl 1 rfl) ?_
          refine va_get (D := G.1) (ci := 6) (v := .ref mw) (C := RX9) (T := TX9) (N := 21) hx hb hts hinX9 hown hK hP 0 rfl rfl 20 (by decide) hlk51 (fun _ h9 => h9) rfl dX9_representative_58 ?_
          refine lv_bipush (v := nI 6) hx hb dX9_representative_61 (by decide) ?_
          refine lv_iload_n hx hb dX9_representative_63 rfl (lv_at hl 3 rfl) ?_
          refine zi_mul hx hb dX9_representative_64 ?_
          refine lv_iconst (v := nI 1) hx hb dX9_representative_65 (by decide) ?_
          refine zi_addk (n := (6 * i) + 1) hx hb dX9_representative_66 (by omega) ?_
          refine lv_aload_n hx hb dX9_representative_67 rfl (lv_at hl 1 rfl) ?_
          refine va_get (D := G.1) (ci := 6) (v := .ref mg) (C := RX9) (T := TX9) (N := 21) hx hb hts hinX9 hown hK hP 0 rfl rfl 7 (by decide) hlk20 (fun _ h9 => h9) rfl dX9_representative_68 ?_
          refine lv_iconst (v := nI 2) hx hb dX9_representative_71 (by decide) ?_
          refine lv_iconst (v := nI 3) hx hb dX9_representative_72 (by decide) ?_
          refine lv_iload_n hx hb dX9_representative_73 rfl (lv_at hl 3 rfl) ?_
          refine zi_mul hx hb dX9_representative_74 ?_
          refine zi_addk (n := 2 + (3 * i)) hx hb dX9_representative_75 (by omega) ?_
          refine zi_ald hx hb hK hP 3 rfl (by omega) (by omega) dX9_representative_76 ?_
          have hb_8 := hg8 (2 + (3 * i)) (by omega)
          refine zi_ast hx hb hK hP hD hS 2 rfl (by omega) (by omega) dX9_representative_77 (fun H locs hP hD hS => ?_)
          have hP : va_P G.1 vwCl [(m, .inr (6, [.int (nI 0), .ref mt, .int (nI ts), .int (nI ps), .int pv, .ref mp, .int (nI V), .ref mg, .ref mc, .ref mh, .int (nI rm), .ref ms, .ref mu, .int (nI on), .ref of1, .ref ot1, .ref oi1, .long sd, .ref ml, .ref md, .ref mw])), zA G ml 64 f, zA G mw 96 (zU (zU (mBd wd g i) (6 * i) (g (1 + (3 * i)))) ((6 * i) + 1) (g (2 + (3 * i)))), zA G mg 49 g] H := hP
          have hD : va_D AM [(m, .inr (6, [.int (nI 0), .ref mt, .int (nI ts), .int (nI ps), .int pv, .ref mp, .int (nI V), .ref mg, .ref mc, .ref mh, .int (nI rm), .ref ms, .ref mu, .int (nI on), .ref of1, .ref ot1, .ref oi1, .long sd, .ref ml, .ref md, .ref mw])), zA G ml 64 f, zA G mw 96 (zU (zU (mBd wd g i) (6 * i) (g (1 + (3 * i)))) ((6 * i) + 1) (g (2 + (3 * i)))), zA G mg 49 g] := hD
          refine lv_aload_n hx hb dX9_representative_78 rfl (lv_at hl 1 rfl) ?_
          refine va_get (D := G.1) (ci := 6) (v := .ref mw) (C := RX9) (T := TX9) (N := 21) hx hb hts hinX9 hown hK hP 0 rfl rfl 20 (by decide) hlk51 (fun _ h9 => h9) rfl dX9_representative_79 ?_
          refine lv_bipush (v := nI 6) hx hb dX9_representative_82 (by decide) ?_
          refine lv_iload_n hx hb dX9_representative_84 rfl (lv_at hl 3 rfl) ?_
          refine zi_mul hx hb dX9_representative_85 ?_
          refine lv_iconst (v := nI 2) hx hb dX9_representative_86 (by decide) ?_
          refine zi_addk (n := (6 * i) + 2) hx hb dX9_representative_87 (by omega) ?_
          refine lv_iload_n hx hb dX9_representative_88 rfl (lv_at hl 0 rfl) ?_
          refine zi_ast hx hb hK hP hD hS 2 rfl (by omega) (by omega) dX9_representative_89 (fun H locs hP hD hS => ?_)
          have hP : va_P G.1 vwCl [(m, .inr (6, [.int (nI 0), .ref mt, .int (nI ts), .int (nI ps), .int pv, .ref mp, .int (nI V), .ref mg, .ref mc, .ref mh, .int (nI rm), .ref ms, .ref mu, .int (nI on), .ref of1, .ref ot1, .ref oi1, .long sd, .ref ml, .ref md, .ref mw])), zA G ml 64 f, zA G mw 96 (zU (zU (zU (mBd wd g i) (6 * i) (g (1 + (3 * i)))) ((6 * i) + 1) (g (2 + (3 * i)))) ((6 * i) + 2) (g (3 + (3 * i)))), zA G mg 49 g] H := hP
          have hD : va_D AM [(m, .inr (6, [.int (nI 0), .ref mt, .int (nI ts), .int (nI ps), .int pv, .ref mp, .int (nI V), .ref mg, .ref mc, .ref mh, .int (nI rm), .ref ms, .ref mu, .int (nI on), .ref of1, .ref ot1, .ref oi1, .long sd, .ref ml, .ref md, .ref mw])), zA G ml 64 f, zA G mw 96 (zU (zU (zU (mBd wd g i) (6 * i) (g (1 + (3 * i)))) ((6 * i) + 1) (g (2 + (3 * i)))) ((6 * i) + 2) (g (3 + (3 * i)))), zA G mg 49 g] := hD
          refine lv_aload_n hx hb dX9_representative_90 rfl (lv_at hl 1 rfl) ?_
          refine va_get (D := G.1) (ci := 6) (v := .ref mw) (C := RX9) (T := TX9) (N := 21) hx hb hts hinX9 hown hK hP 0 rfl rfl 20 (by decide) hlk51 (fun _ h9 => h9) rfl dX9_representative_91 ?_
          refine lv_bipush (v := nI 6) hx hb dX9_representative_94 (by decide) ?_
          refine lv_iload_n hx hb dX9_representative_96 rfl (lv_at hl 3 rfl) ?_
          refine zi_mul hx hb dX9_representative_97 ?_
          refine lv_iconst (v := nI 3) hx hb dX9_representative_98 (by decide) ?_
          refine zi_addk (n := (6 * i) + 3) hx hb dX9_representative_99 (by omega) ?_
          refine lv_aload_n hx hb dX9_representative_100 rfl (lv_at hl 1 rfl) ?_
          refine va_get (D := G.1) (ci := 6) (v := .ref mg) (C := RX9) (T := TX9) (N := 21) hx hb hts hinX9 hown hK hP 0 rfl rfl 7 (by decide) hlk20 (fun _ h9 => h9) rfl dX9_representative_101 ?_
          refine lv_iconst (v := nI 2) hx hb dX9_representative_104 (by decide) ?_
          refine lv_iconst (v := nI 3) hx hb dX9_representative_105 (by decide) ?_
          refine lv_iload_n hx hb dX9_representative_106 rfl (lv_at hl 3 rfl) ?_
          refine zi_mul hx hb dX9_representative_107 ?_
          refine zi_addk (n := 2 + (3 * i)) hx hb dX9_representative_108 (by omega) ?_
          refine zi_ald hx hb hK hP 3 rfl (by omega) (by omega) dX9_representative_109 ?_
          have hb_9 := hg8 (2 + (3 * i)) (by omega)
          refine zi_ast hx hb hK hP hD hS 2 rfl (by omega) (by omega) dX9_representative_110 (fun H locs hP hD hS => ?_)
          have hP : va_P G.1 vwCl [(m, .inr (6, [.int (nI 0), .ref mt, .int (nI ts), .int (nI ps), .int pv, .ref mp, .int (nI V), .ref mg, .ref mc, .ref mh, .int (nI rm), .ref ms, .ref mu, .int (nI on), .ref of1, .ref ot1, .ref oi1, .long sd, .ref ml, .ref md, .ref mw])), zA G ml 64 f, zA G mw 96 (zU (zU (zU (zU (mBd wd g i) (6 * i) (g (1 + (3 * i)))) ((6 * i) + 1) (g (2 + (3 * i)))) ((6 * i) + 2) (g (3 + (3 * i)))) ((6 * i) + 3) (g (2 + (3 * i)))), zA G mg 49 g] H := hP
          have hD : va_D AM [(m, .inr (6, [.int (nI 0), .ref mt, .int (nI ts), .int (nI ps), .int pv, .ref mp, .int (nI V), .ref mg, .ref mc, .ref mh, .int (nI rm), .ref ms, .ref mu, .int (nI on), .ref of1, .ref ot1, .ref oi1, .long sd, .ref ml, .ref md, .ref mw])), zA G ml 64 f, zA G mw 96 (zU (zU (zU (zU (mBd wd g i) (6 * i) (g (1 + (3 * i)))) ((6 * i) + 1) (g (2 + (3 * i)))) ((6 * i) + 2) (g (3 + (3 * i)))) ((6 * i) + 3) (g (2 + (3 * i)))), zA G mg 49 g] := hD
          refine lv_aload_n hx hb dX9_representative_111 rfl (lv_at hl 1 rfl) ?_
          refine va_get (D := G.1) (ci := 6) (v := .ref mw) (C := RX9) (T := TX9) (N := 21) hx hb hts hinX9 hown hK hP 0 rfl rfl 20 (by decide) hlk51 (fun _ h9 => h9) rfl dX9_representative_112 ?_
          refine lv_bipush (v := nI 6) hx hb dX9_representative_115 (by decide) ?_
          refine lv_iload_n hx hb dX9_representative_117 rfl (lv_at hl 3 rfl) ?_
          refine zi_mul hx hb dX9_representative_118 ?_
          refine lv_iconst (v := nI 4) hx hb dX9_representative_119 (by decide) ?_
          refine zi_addk (n := (6 * i) + 4) hx hb dX9_representative_120 (by omega) ?_
          refine lv_aload_n hx hb dX9_representative_121 rfl (lv_at hl 1 rfl) ?_
          refine va_get (D := G.1) (ci := 6) (v := .ref mg) (C := RX9) (T := TX9) (N := 21) hx hb hts hinX9 hown hK hP 0 rfl rfl 7 (by decide) hlk20 (fun _ h9 => h9) rfl dX9_representative_122 ?_
          refine lv_iconst (v := nI 1) hx hb dX9_representative_125 (by decide) ?_
          refine lv_iconst (v := nI 3) hx hb dX9_representative_126 (by decide) ?_
          refine lv_iload_n hx hb dX9_representative_127 rfl (lv_at hl 3 rfl) ?_
          refine zi_mul hx hb dX9_representative_128 ?_
          refine zi_addk (n := 1 + (3 * i)) hx hb dX9_representative_129 (by omega) ?_
          refine zi_ald hx hb hK hP 3 rfl (by omega) (by omega) dX9_representative_130 ?_
          have hb_10 := hg8 (1 + (3 * i)) (by omega)
          refine zi_ast hx hb hK hP hD hS 2 rfl (by omega) (by omega) dX9_representative_131 (fun H locs hP hD hS => ?_)
          have hP : va_P G.1 vwCl [(m, .inr (6, [.int (nI 0), .ref mt, .int (nI ts), .int (nI ps), .int pv, .ref mp, .int (nI V), .ref mg, .ref mc, .ref mh, .int (nI rm), .ref ms, .ref mu, .int (nI on), .ref of1, .ref ot1, .ref oi1, .long sd, .ref ml, .ref md, .ref mw])), zA G ml 64 f, zA G mw 96 (zU (zU (zU (zU (zU (mBd wd g i) (6 * i) (g (1 + (3 * i)))) ((6 * i) + 1) (g (2 + (3 * i)))) ((6 * i) + 2) (g (3 + (3 * i)))) ((6 * i) + 3) (g (2 + (3 * i)))) ((6 * i) + 4) (g (1 + (3 * i)))), zA G mg 49 g] H := hP
          have hD : va_D AM [(m, .inr (6, [.int (nI 0), .ref mt, .int (nI ts), .int (nI ps), .int pv, .ref mp, .int (nI V), .ref mg, .ref mc, .ref mh, .int (nI rm), .ref ms, .ref mu, .int (nI on), .ref of1, .ref ot1, .ref oi1, .long sd, .ref ml, .ref md, .ref mw])), zA G ml 64 f, zA G mw 96 (zU (zU (zU (zU (zU (mBd wd g i) (6 * i) (g (1 + (3 * i)))) ((6 * i) + 1) (g (2 + (3 * i)))) ((6 * i) + 2) (g (3 + (3 * i)))) ((6 * i) + 3) (g (2 + (3 * i)))) ((6 * i) + 4) (g (1 + (3 * i)))), zA G mg 49 g] := hD
          refine lv_aload_n hx hb dX9_representative_132 rfl (lv_at hl 1 rfl) ?_
          refine va_get (D := G.1) (ci := 6) (v := .ref mw) (C := RX9) (T := TX9) (N := 21) hx hb hts hinX9 hown hK hP 0 rfl rfl 20 (by decide) hlk51 (fun _ h9 => h9) rfl dX9_representative_133 ?_
          refine lv_bipush (v := nI 6) hx hb dX9_representative_136 (by decide) ?_
          refine lv_iload_n hx hb dX9_representative_138 rfl (lv_at hl 3 rfl) ?_
          refine zi_mul hx hb dX9_representative_139 ?_
          refine lv_iconst (v := nI 5) hx hb dX9_representative_140 (by decide) ?_
          refine zi_addk (n := (6 * i) + 5) hx hb dX9_representative_141 (by omega) ?_
          refine lv_iload_n hx hb dX9_representative_142 rfl (lv_at hl 0 rfl) ?_
          refine zd_ne (a := (g (3 + (3 * i)) : Nat)) (tgt := 150) hx hb dX9_representative_143 (by decide) (zI (by omega)) (fun c_11 => ?_) (fun c_11 => ?_)
          · skip
            refine lv_iload_n hx hb dX9_representative_150 rfl (lv_at hl 0 rfl) ?_
            refine lv_iconst (v := nI 4) hx hb dX9_representative_151 (by decide) ?_
            refine zn_ge (tgt := 161) hx hb dX9_representative_152 (by decide) (by omega) (by omega) (fun c_12 => ?_) (fun c_12 => ?_)
            · skip
              refine lv_iload_n hx hb dX9_representative_161 rfl (lv_at hl 0 rfl) ?_
              refine lv_iconst (v := nI 3) hx hb dX9_representative_162 (by decide) ?_
              refine zi_sub hx hb dX9_representative_163 (by omega) ?_
              refine zi_ast hx hb hK hP hD hS 2 rfl (by omega) (by omega) dX9_representative_164 (fun H locs hP hD hS => ?_)
              have hP : va_P G.1 vwCl [(m, .inr (6, [.int (nI 0), .ref mt, .int (nI ts), .int (nI ps), .int pv, .ref mp, .int (nI V), .ref mg, .ref mc, .ref mh, .int (nI rm), .ref ms, .ref mu, .int (nI on), .ref of1, .ref ot1, .ref oi1, .long sd, .ref ml, .ref md, .ref mw])), zA G ml 64 f, zA G mw 96 (zU (zU (zU (zU (zU (zU (mBd wd g i) (6 * i) (g (1 + (3 * i)))) ((6 * i) + 1) (g (2 + (3 * i)))) ((6 * i) + 2) (g (3 + (3 * i)))) ((6 * i) + 3) (g (2 + (3 * i)))) ((6 * i) + 4) (g (1 + (3 * i)))) ((6 * i) + 5) ((g (3 + (3 * i))) - 3)), zA G mg 49 g] H := hP
              have hD : va_D AM [(m, .inr (6, [.int (nI 0), .ref mt, .int (nI ts), .int (nI ps), .int pv, .ref mp, .int (nI V), .ref mg, .ref mc, .ref mh, .int (nI rm), .ref ms, .ref mu, .int (nI on), .ref of1, .ref ot1, .ref oi1, .long sd, .ref ml, .ref md, .ref mw])), zA G ml 64 f, zA G mw 96 (zU (zU (zU (zU (zU (zU (mBd wd g i) (6 * i) (g (1 + (3 * i)))) ((6 * i) + 1) (g (2 + (3 * i)))) ((6 * i) + 2) (g (3 + (3 * i)))) ((6 * i) + 3) (g (2 + (3 * i)))) ((6 * i) + 4) (g (1 + (3 * i)))) ((6 * i) + 5) ((g (3 + (3 * i))) - 3)), zA G mg 49 g] := hD
              refine lv_iinc (v := nI (i + 1)) (lv' := [(2, .int (nI (i + 1))), (3, .int (nI (g (3 + (3 * i))))), (0, .ref m), (1, .int (nI x.toInt.toNat))]) hx hb dX9_representative_165 hl (k := 3) rfl (zinc i 1) (by decide) rfl (fun ls hl => ?_)
              refine lv_goto (tgt := 17) hx hb dX9_representative_168 (by decide) ?_
              have hP : va_P G.1 vwCl [(m, .inr (6, [.int (nI 0), .ref mt, .int (nI ts), .int (nI ps), .int pv, .ref mp, .int (nI V), .ref mg, .ref mc, .ref mh, .int (nI rm), .ref ms, .ref mu, .int (nI on), .ref of1, .ref ot1, .ref oi1, .long sd, .ref ml, .ref md, .ref mw])), zA G ml 64 f, zA G mw 96 (mBd wd g (i + 1)), zA G mg 49 g] H := by (rw [mBd_s]; first | rw [zOB_z (by omega)] | rw [zOB_l (by omega) (by omega)] | rw [zOB_h (by omega) (by omega)]); exact hP
              have hD : va_D AM [(m, .inr (6, [.int (nI 0), .ref mt, .int (nI ts), .int (nI ps), .int pv, .ref mp, .int (nI V), .ref mg, .ref mc, .ref mh, .int (nI rm), .ref ms, .ref mu, .int (nI on), .ref of1, .ref ot1, .ref oi1, .long sd, .ref ml, .ref md, .ref mw])), zA G ml 64 f, zA G mw 96 (mBd wd g (i + 1)), zA G mg 49 g] := by (rw [mBd_s]; first | rw [zOB_z (by omega)] | rw [zOB_l (by omega) (by omega)] | rw [zOB_h (by omega) (by omega)]); exact hD
              exact ih17 (i + 1) (by omega) (by omega) _ _ _ hP hD hS (lv_sub hl [2, 3, 0] rfl)
            · skip
              refine lv_iload_n hx hb dX9_representative_155 rfl (lv_at hl 0 rfl) ?_
              refine lv_iconst (v := nI 3) hx hb dX9_representative_156 (by decide) ?_
              refine zi_addk (n := (g (3 + (3 * i))) + 3) hx hb dX9_representative_157 (by omega) ?_
              refine lv_goto (tgt := 164) hx hb dX9_representative_158 (by decide) ?_
              refine zi_ast hx hb hK hP hD hS 2 rfl (by omega) (by omega) dX9_representative_164 (fun H locs hP hD hS => ?_)
              have hP : va_P G.1 vwCl [(m, .inr (6, [.int (nI 0), .ref mt, .int (nI ts), .int (nI ps), .int pv, .ref mp, .int (nI V), .ref mg, .ref mc, .ref mh, .int (nI rm), .ref ms, .ref mu, .int (nI on), .ref of1, .ref ot1, .ref oi1, .long sd, .ref ml, .ref md, .ref mw])), zA G ml 64 f, zA G mw 96 (zU (zU (zU (zU (zU (zU (mBd wd g i) (6 * i) (g (1 + (3 * i)))) ((6 * i) + 1) (g (2 + (3 * i)))) ((6 * i) + 2) (g (3 + (3 * i)))) ((6 * i) + 3) (g (2 + (3 * i)))) ((6 * i) + 4) (g (1 + (3 * i)))) ((6 * i) + 5) ((g (3 + (3 * i))) + 3)), zA G mg 49 g] H := hP
              have hD : va_D AM [(m, .inr (6, [.int (nI 0), .ref mt, .int (nI ts), .int (nI ps), .int pv, .ref mp, .int (nI V), .ref mg, .ref mc, .ref mh, .int (nI rm), .ref ms, .ref mu, .int (nI on), .ref of1, .ref ot1, .ref oi1, .long sd, .ref ml, .ref md, .ref mw])), zA G ml 64 f, zA G mw 96 (zU (zU (zU (zU (zU (zU (mBd wd g i) (6 * i) (g (1 + (3 * i)))) ((6 * i) + 1) (g (2 + (3 * i)))) ((6 * i) + 2) (g (3 + (3 * i)))) ((6 * i) + 3) (g (2 + (3 * i)))) ((6 * i) + 4) (g (1 + (3 * i)))) ((6 * i) + 5) ((g (3 + (3 * i))) + 3)), zA G mg 49 g] := hD
              refine lv_iinc (v := nI (i + 1)) (lv' := [(2, .int (nI (i + 1))), (3, .int (nI (g (3 + (3 * i))))), (0, .ref m), (1, .int (nI x.toInt.toNat))]) hx hb dX9_representative_165 hl (k := 3) rfl (zinc i 1) (by decide) rfl (fun ls hl => ?_)
              refine lv_goto (tgt := 17) hx hb dX9_representative_168 (by decide) ?_
              have hP : va_P G.1 vwCl [(m, .inr (6, [.int (nI 0), .ref mt, .int (nI ts), .int (nI ps), .int pv, .ref mp, .int (nI V), .ref mg, .ref mc, .ref mh, .int (nI rm), .ref ms, .ref mu, .int (nI on), .ref of1, .ref ot1, .ref oi1, .long sd, .ref ml, .ref md, .ref mw])), zA G ml 64 f, zA G mw 96 (mBd wd g (i + 1)), zA G mg 49 g] H := by (rw [mBd_s]; first | rw [zOB_z (by omega)] | rw [zOB_l (by omega) (by omega)] | rw [zOB_h (by omega) (by omega)]); exact hP
              have hD : va_D AM [(m, .inr (6, [.int (nI 0), .ref mt, .int (nI ts), .int (nI ps), .int pv, .ref mp, .int (nI V), .ref mg, .ref mc, .ref mh, .int (nI rm), .ref ms, .ref mu, .int (nI on), .ref of1, .ref ot1, .ref oi1, .long sd, .ref ml, .ref md, .ref mw])), zA G ml 64 f, zA G mw 96 (mBd wd g (i + 1)), zA G mg 49 g] := by (rw [mBd_s]; first | rw [zOB_z (by omega)] | rw [zOB_l (by omega) (by omega)] | rw [zOB_h (by omega) (by omega)]); exact hD
              exact ih17 (i + 1) (by omega) (by omega) _ _ _ hP hD hS (lv_sub hl [2, 3, 0] rfl)
          · skip
            refine lv_iconst (v := nI 0) hx hb dX9_representative_146 (by decide) ?_
            refine lv_goto (tgt := 164) hx hb dX9_representative_147 (by decide) ?_
            refine zi_ast hx hb hK hP hD hS 2 rfl (by omega) (by omega) dX9_representative_164 (fun H locs hP hD hS => ?_)
            have hP : va_P G.1 vwCl [(m, .inr (6, [.int (nI 0), .ref mt, .int (nI ts), .int (nI ps), .int pv, .ref mp, .int (nI V), .ref mg, .ref mc, .ref mh, .int (nI rm), .ref ms, .ref mu, .int (nI on), .ref of1, .ref ot1, .ref oi1, .long sd, .ref ml, .ref md, .ref mw])), zA G ml 64 f, zA G mw 96 (zU (zU (zU (zU (zU (zU (mBd wd g i) (6 * i) (g (1 + (3 * i)))) ((6 * i) + 1) (g (2 + (3 * i)))) ((6 * i) + 2) (g (3 + (3 * i)))) ((6 * i) + 3) (g (2 + (3 * i)))) ((6 * i) + 4) (g (1 + (3 * i)))) ((6 * i) + 5) 0), zA G mg 49 g] H := hP
            have hD : va_D AM [(m, .inr (6, [.int (nI 0), .ref mt, .int (nI ts), .int (nI ps), .int pv, .ref mp, .int (nI V), .ref mg, .ref mc, .ref mh, .int (nI rm), .ref ms, .ref mu, .int (nI on), .ref of1, .ref ot1, .ref oi1, .long sd, .ref ml, .ref md, .ref mw])), zA G ml 64 f, zA G mw 96 (zU (zU (zU (zU (zU (zU (mBd wd g i) (6 * i) (g (1 + (3 * i)))) ((6 * i) + 1) (g (2 + (3 * i)))) ((6 * i) + 2) (g (3 + (3 * i)))) ((6 * i) + 3) (g (2 + (3 * i)))) ((6 * i) + 4) (g (1 + (3 * i)))) ((6 * i) + 5) 0), zA G mg 49 g] := hD
            refine lv_iinc (v := nI (i + 1)) (lv' := [(2, .int (nI (i + 1))), (3, .int (nI (g (3 + (3 * i))))), (0, .ref m), (1, .int (nI x.toInt.toNat))]) hx hb dX9_representative_165 hl (k := 3) rfl (zinc i 1) (by decide) rfl (fun ls hl => ?_)
            refine lv_goto (tgt := 17) hx hb dX9_representative_168 (by decide) ?_
            have hP : va_P G.1 vwCl [(m, .inr (6, [.int (nI 0), .ref mt, .int (nI ts), .int (nI ps), .int pv, .ref mp, .int (nI V), .ref mg, .ref mc, .ref mh, .int (nI rm), .ref ms, .ref mu, .int (nI on), .ref of1, .ref ot1, .ref oi1, .long sd, .ref ml, .ref md, .ref mw])), zA G ml 64 f, zA G mw 96 (mBd wd g (i + 1)), zA G mg 49 g] H := by (rw [mBd_s]; first | rw [zOB_z (by omega)] | rw [zOB_l (by omega) (by omega)] | rw [zOB_h (by omega) (by omega)]); exact hP
            have hD : va_D AM [(m, .inr (6, [.int (nI 0), .ref mt, .int (nI ts), .int (nI ps), .int pv, .ref mp, .int (nI V), .ref mg, .ref mc, .ref mh, .int (nI rm), .ref ms, .ref mu, .int (nI on), .ref of1, .ref ot1, .ref oi1, .long sd, .ref ml, .ref md, .ref mw])), zA G ml 64 f, zA G mw 96 (mBd wd g (i + 1)), zA G mg 49 g] := by (rw [mBd_s]; first | rw [zOB_z (by omega)] | rw [zOB_l (by omega) (by omega)] | rw [zOB_h (by omega) (by omega)]); exact hD
            exact ih17 (i + 1) (by omega) (by omega) _ _ _ hP hD hS (lv_sub hl [2, 3, 0] rfl)
    have hP : va_P G.1 vwCl [(m, .inr (6, [.int (nI 0), .ref mt, .int (nI ts), .int (nI ps), .int pv, .ref mp, .int (nI V), .ref mg, .ref mc, .ref mh, .int (nI rm), .ref ms, .ref mu, .int (nI on), .ref of1, .ref ot1, .ref oi1, .long sd, .ref ml, .ref md, .ref mw])), zA G ml 64 f, zA G mw 96 (mBd wd g 0), zA G mg 49 g] H := by (rw [mBd_0]); exact hP
    have hD : va_D AM [(m, .inr (6, [.int (nI 0), .ref mt, .int (nI ts), .int (nI ps), .int pv, .ref mp, .int (nI V), .ref mg, .ref mc, .ref mh, .int (nI rm), .ref ms, .ref mu, .int (nI on), .ref of1, .ref ot1, .ref oi1, .long sd, .ref ml, .ref md, .ref mw])), zA G ml 64 f, zA G mw 96 (mBd wd g 0), zA G mg 49 g] := by (rw [mBd_0]); exact hD
    exact lp17 (g 0 - 0 + 1) 0 (by omega) (Nat.lt_succ_self _) _ _ _ hP hD hS (lv_sub hl [1, 2, 0] rfl)
  · skip
    exfalso; omega
set_option maxHeartbeats 400000 in
set_option maxRecDepth 100000 in
theorem c_X9_lessDeep (l : Launch) (G : zG) (m mt mp mg mc mh ms mu of1 ot1 oi1 ml md mw th ts ps V rm on : Nat) (pv : Int32) (sd : Int64) (fd : Nat → Nat) (u v d : Nat) (hD2 : zL2 fd) (hu : u < 8) (hv : v < 8) (hd : d ≤ 2000000) : MI l yX9_lessDeep wsX9_lessDeep ({ frames := 0, cells := 0, slots := 0, locals := 0 }) G [.ref m, .int (nI u), .int (nI v), .int (nI d)] [(m, .inr (6, [.int (nI th), .ref mt, .int (nI ts), .int (nI ps), .int pv, .ref mp, .int (nI V), .ref mg, .ref mc, .ref mh, .int (nI rm), .ref ms, .ref mu, .int (nI on), .ref of1, .ref ot1, .ref oi1, .long sd, .ref ml, .ref md, .ref mw])), zA G md 64 fd] (bI (decide (d < fd (8 * u + v)))) [(m, .inr (6, [.int (nI th), .ref mt, .int (nI ts), .int (nI ps), .int pv, .ref mp, .int (nI V), .ref mg, .ref mc, .ref mh, .int (nI rm), .ref ms, .ref mu, .int (nI on), .ref of1, .ref ot1, .ref oi1, .long sd, .ref ml, .ref md, .ref mw])), zA G md 64 (mLdT u v d fd)] := by
  refine MI.enter (cc := cX9_lessDeep) (maxL := 5) (by decide) rfl (Nat.le_of_ble_eq_true rfl) (bI_nar _) ?_
  intro pM eM sM mM bM tM cM QM AM ls hat kret
  obtain ⟨SM, hA, hK, hE, hP, hD, hS, hl⟩ := hat
  have hx := SM.1
  have hb := SM.2.1
  have hown : sM.vm.findClass RX9 = some mM.cls := SM.2.2.2.1
  have hts := SM.2.2.2.2
  have hinX9 : ∀ w ∈ u_ws RX9 TX9 21, w ∈ wsX9_lessDeep := by decide +kernel
  have hlk48 : (Cond.fieldLink RX9 48 "DyckReachabilityModel" "depths" "[I").before _ sM = true := hts _ (by decide +kernel)
  have hl : lv_has ls 5 [(0, .ref m), (1, .int (nI u)), (2, .int (nI v)), (3, .int (nI d))] := hl
  refine lv_iload_n hx hb dX9_lessDeep_0 rfl (lv_at hl 3 rfl) ?_
  refine lv_aload_n hx hb dX9_lessDeep_1 rfl (lv_at hl 0 rfl) ?_
  refine va_get (D := G.1) (ci := 6) (v := .ref md) (C := RX9) (T := TX9) (N := 21) hx hb hts hinX9 hown hK hP 0 rfl rfl 19 (by decide) hlk48 (fun _ h9 => h9) rfl dX9_lessDeep_2 ?_
  refine lv_bipush (v := nI 8) hx hb dX9_lessDeep_5 (by decide) ?_
  refine lv_iload_n hx hb dX9_lessDeep_7 rfl (lv_at hl 1 rfl) ?_
  refine zi_mul hx hb dX9_lessDeep_8 ?_
  refine lv_iload_n hx hb dX9_lessDeep_9 rfl (lv_at hl 2 rfl) ?_
  refine zi_add hx hb dX9_lessDeep_10 ?_
  refine zi_ald hx hb hK hP 1 rfl (by omega) (by omega) dX9_lessDeep_11 ?_
  have hb_1 := hD2 ((8 * u) + v)
  refine zn_ge (tgt := 19) hx hb dX9_lessDeep_12 (by decide) (by omega) (by omega) (fun c_2 => ?_) (fun c_2 => ?_)
  · skip
    refine lv_iconst (v := nI 0) hx hb dX9_lessDeep_19 (by decide) ?_
    refine lv_istore (lv' := [(4, .int (nI 0)), (0, .ref m), (1, .int (nI u)), (2, .int (nI v)), (3, .int (nI d))]) hx hb dX9_lessDeep_20 hl (by decide) rfl (fun ls hl => ?_)
    refine lv_aload_n hx hb dX9_lessDeep_22 rfl (lv_at hl 1 rfl) ?_
    refine va_get (D := G.1) (ci := 6) (v := .ref md) (C := RX9) (T := TX9) (N := 21) hx hb hts hinX9 hown hK hP 0 rfl rfl 19 (by decide) hlk48 (fun _ h9 => h9) rfl dX9_lessDeep_23 ?_
    refine lv_bipush (v := nI 8) hx hb dX9_lessDeep_26 (by decide) ?_
    refine lv_iload_n hx hb dX9_lessDeep_28 rfl (lv_at hl 2 rfl) ?_
    refine zi_mul hx hb dX9_lessDeep_29 ?_
    refine lv_iload_n hx hb dX9_lessDeep_30 rfl (lv_at hl 3 rfl) ?_
    refine zi_add hx hb dX9_lessDeep_31 ?_
    refine lv_iload hx hb dX9_lessDeep_32 (lv_at hl 0 rfl) ?_
    refine zk_eq_t (tgt := 41) hx hb dX9_lessDeep_34 (by decide) (by decide) ?_
    refine lv_aload_n hx hb dX9_lessDeep_41 rfl (lv_at hl 1 rfl) ?_
    refine va_get (D := G.1) (ci := 6) (v := .ref md) (C := RX9) (T := TX9) (N := 21) hx hb hts hinX9 hown hK hP 0 rfl rfl 19 (by decide) hlk48 (fun _ h9 => h9) rfl dX9_lessDeep_42 ?_
    refine lv_bipush (v := nI 8) hx hb dX9_lessDeep_45 (by decide) ?_
    refine lv_iload_n hx hb dX9_lessDeep_47 rfl (lv_at hl 2 rfl) ?_
    refine zi_mul hx hb dX9_lessDeep_48 ?_
    refine lv_iload_n hx hb dX9_lessDeep_49 rfl (lv_at hl 3 rfl) ?_
    refine zi_add hx hb dX9_lessDeep_50 ?_
    refine zi_ald hx hb hK hP 1 rfl (by omega) (by omega) dX9_lessDeep_51 ?_
    have hb_4 := hD2 ((8 * u) + v)
    refine zi_ast hx hb hK hP hD hS 1 rfl (by omega) (by omega) dX9_lessDeep_52 (fun H locs hP hD hS => ?_)
    have hP : va_P G.1 vwCl [(m, .inr (6, [.int (nI th), .ref mt, .int (nI ts), .int (nI ps), .int pv, .ref mp, .int (nI V), .ref mg, .ref mc, .ref mh, .int (nI rm), .ref ms, .ref mu, .int (nI on), .ref of1, .ref ot1, .ref oi1, .long sd, .ref ml, .ref md, .ref mw])), zA G md 64 (zU fd ((8 * u) + v) (fd ((8 * u) + v)))] H := hP
    have hD : va_D AM [(m, .inr (6, [.int (nI th), .ref mt, .int (nI ts), .int (nI ps), .int pv, .ref mp, .int (nI V), .ref mg, .ref mc, .ref mh, .int (nI rm), .ref ms, .ref mu, .int (nI on), .ref of1, .ref ot1, .ref oi1, .long sd, .ref ml, .ref md, .ref mw])), zA G md 64 (zU fd ((8 * u) + v) (fd ((8 * u) + v)))] := hD
    refine lv_iload hx hb dX9_lessDeep_53 (lv_at hl 0 rfl) ?_
    exact kret _ _ _ _ _ _ (bI_f (by omega)) (by unfold mLdT; first | rw [if_pos (by omega)] | rw [if_neg (by omega), zU_id]) hP hD hS dX9_lessDeep_55
  · skip
    refine lv_iconst (v := nI 1) hx hb dX9_lessDeep_15 (by decide) ?_
    refine lv_goto (tgt := 20) hx hb dX9_lessDeep_16 (by decide) ?_
    refine lv_istore (lv' := [(4, .int (nI 1)), (0, .ref m), (1, .int (nI u)), (2, .int (nI v)), (3, .int (nI d))]) hx hb dX9_lessDeep_20 hl (by decide) rfl (fun ls hl => ?_)
    refine lv_aload_n hx hb dX9_lessDeep_22 rfl (lv_at hl 1 rfl) ?_
    refine va_get (D := G.1) (ci := 6) (v := .ref md) (C := RX9) (T := TX9) (N := 21) hx hb hts hinX9 hown hK hP 0 rfl rfl 19 (by decide) hlk48 (fun _ h9 => h9) rfl dX9_lessDeep_23 ?_
    refine lv_bipush (v := nI 8) hx hb dX9_lessDeep_26 (by decide) ?_
    refine lv_iload_n hx hb dX9_lessDeep_28 rfl (lv_at hl 2 rfl) ?_
    refine zi_mul hx hb dX9_lessDeep_29 ?_
    refine lv_iload_n hx hb dX9_lessDeep_30 rfl (lv_at hl 3 rfl) ?_
    refine zi_add hx hb dX9_lessDeep_31 ?_
    refine lv_iload hx hb dX9_lessDeep_32 (lv_at hl 0 rfl) ?_
    refine zk_eq_f hx hb dX9_lessDeep_34 (by decide) ?_
    refine lv_iload_n hx hb dX9_lessDeep_37 rfl (lv_at hl 4 rfl) ?_
    refine lv_goto (tgt := 52) hx hb dX9_lessDeep_38 (by decide) ?_
    refine zi_ast hx hb hK hP hD hS 1 rfl (by omega) (by omega) dX9_lessDeep_52 (fun H locs hP hD hS => ?_)
    have hP : va_P G.1 vwCl [(m, .inr (6, [.int (nI th), .ref mt, .int (nI ts), .int (nI ps), .int pv, .ref mp, .int (nI V), .ref mg, .ref mc, .ref mh, .int (nI rm), .ref ms, .ref mu, .int (nI on), .ref of1, .ref ot1, .ref oi1, .long sd, .ref ml, .ref md, .ref mw])), zA G md 64 (zU fd ((8 * u) + v) d)] H := hP
    have hD : va_D AM [(m, .inr (6, [.int (nI th), .ref mt, .int (nI ts), .int (nI ps), .int pv, .ref mp, .int (nI V), .ref mg, .ref mc, .ref mh, .int (nI rm), .ref ms, .ref mu, .int (nI on), .ref of1, .ref ot1, .ref oi1, .long sd, .ref ml, .ref md, .ref mw])), zA G md 64 (zU fd ((8 * u) + v) d)] := hD
    refine lv_iload hx hb dX9_lessDeep_53 (lv_at hl 0 rfl) ?_
    exact kret _ _ _ _ _ _ (bI_t (by omega)) (by unfold mLdT; first | rw [if_pos (by omega)] | rw [if_neg (by omega), zU_id]) hP hD hS dX9_lessDeep_55
set_option maxHeartbeats 400000 in
set_option maxRecDepth 100000 in
theorem c_X9_lengthBy (l : Launch) (G : zG) (m mt mp mg mc mh ms mu of1 ot1 oi1 ml md mw th ts ps V rm on : Nat) (pv : Int32) (sd : Int64) (f g : Nat → Nat) (u v i c : Nat) (hL : zL2 f) (hg0 : g 0 ≤ 16) (hg8 : ∀ i, 1 ≤ i → g i < 8) (hu : u < 8) (hv : v < 8) (hi : i < 16) (hc : c < 16) : MI l yX9_lengthBy wsX9_lengthBy ({ frames := 1, cells := 0, slots := 0, locals := 25 }) G [.ref m, .int (nI u), .int (nI v), .int (nI i), .int (nI c)] [(m, .inr (6, [.int (nI th), .ref mt, .int (nI ts), .int (nI ps), .int pv, .ref mp, .int (nI V), .ref mg, .ref mc, .ref mh, .int (nI rm), .ref ms, .ref mu, .int (nI on), .ref of1, .ref ot1, .ref oi1, .long sd, .ref ml, .ref md, .ref mw])), zA G ml 64 f, zA G mg 49 g] (nI (mLb g f u v i c)) [(m, .inr (6, [.int (nI th), .ref mt, .int (nI ts), .int (nI ps), .int pv, .ref mp, .int (nI V), .ref mg, .ref mc, .ref mh, .int (nI rm), .ref ms, .ref mu, .int (nI on), .ref of1, .ref ot1, .ref oi1, .long sd, .ref ml, .ref md, .ref mw])), zA G ml 64 f, zA G mg 49 g] := by
  refine MI.enter (cc := cX9_lengthBy) (maxL := 8) (by decide) rfl (Nat.le_of_ble_eq_true rfl) rfl ?_
  intro pM eM sM mM bM tM cM QM AM ls hat kret
  obtain ⟨SM, hA, hK, hE, hP, hD, hS, hl⟩ := hat
  have hx := SM.1
  have hb := SM.2.1
  have hown : sM.vm.findClass RX9 = some mM.cls := SM.2.2.2.1
  have hts := SM.2.2.2.2
  have hinX9 : ∀ w ∈ u_ws RX9 TX9 21, w ∈ wsX9_lengthBy := by decide +kernel
  have hlk20 : (Cond.fieldLink RX9 20 "DyckReachabilityModel" "graph" "[I").before _ sM = true := hts _ (by decide +kernel)
  have hlk45 : (Cond.fieldLink RX9 45 "DyckReachabilityModel" "lengths" "[I").before _ sM = true := hts _ (by decide +kernel)
  have hl : lv_has ls 8 [(0, .ref m), (1, .int (nI u)), (2, .int (nI v)), (3, .int (nI i)), (4, .int (nI c))] := hl
  refine lv_iconst (v := nI 1) hx hb dX9_lengthBy_0 (by decide) ?_
  refine lv_iconst (v := nI 3) hx hb dX9_lengthBy_1 (by decide) ?_
  refine lv_iload_n hx hb dX9_lengthBy_2 rfl (lv_at hl 3 rfl) ?_
  refine zi_mul hx hb dX9_lengthBy_3 ?_
  refine zi_addk (n := 1 + (3 * i)) hx hb dX9_lengthBy_4 (by omega) ?_
  refine lv_istore (lv' := [(5, .int (nI (1 + (3 * i)))), (0, .ref m), (1, .int (nI u)), (2, .int (nI v)), (3, .int (nI i)), (4, .int (nI c))]) hx hb dX9_lengthBy_5 hl (by decide) rfl (fun ls hl => ?_)
  refine lv_aload_n hx hb dX9_lengthBy_7 rfl (lv_at hl 1 rfl) ?_
  refine va_get (D := G.1) (ci := 6) (v := .ref mg) (C := RX9) (T := TX9) (N := 21) hx hb hts hinX9 hown hK hP 0 rfl rfl 7 (by decide) hlk20 (fun _ h9 => h9) rfl dX9_lengthBy_8 ?_
  refine lv_iload hx hb dX9_lengthBy_11 (lv_at hl 0 rfl) ?_
  refine zi_ald hx hb hK hP 2 rfl (by omega) (by omega) dX9_lengthBy_13 ?_
  have hb_1 := hg8 (1 + (3 * i)) (by omega)
  refine lv_iload_n hx hb dX9_lengthBy_14 rfl (lv_at hl 2 rfl) ?_
  refine zn_eq (tgt := 21) hx hb dX9_lengthBy_15 (by decide) (by omega) (by omega) (fun c_2 => ?_) (fun c_2 => ?_)
  · skip
    refine lv_aload_n hx hb dX9_lengthBy_21 rfl (lv_at hl 1 rfl) ?_
    refine va_get (D := G.1) (ci := 6) (v := .ref mg) (C := RX9) (T := TX9) (N := 21) hx hb hts hinX9 hown hK hP 0 rfl rfl 7 (by decide) hlk20 (fun _ h9 => h9) rfl dX9_lengthBy_22 ?_
    refine lv_iload hx hb dX9_lengthBy_25 (lv_at hl 0 rfl) ?_
    refine lv_iconst (v := nI 2) hx hb dX9_lengthBy_27 (by decide) ?_
    refine zi_addk (n := (1 + (3 * i)) + 2) hx hb dX9_lengthBy_28 (by omega) ?_
    refine zi_ald hx hb hK hP 2 rfl (by omega) (by omega) dX9_lengthBy_29 ?_
    have hb_3 := hg8 ((1 + (3 * i)) + 2) (by omega)
    refine zd_ne (a := (g ((1 + (3 * i)) + 2) : Nat)) (tgt := 65) hx hb dX9_lengthBy_30 (by decide) (zI (by omega)) (fun c_4 => ?_) (fun c_4 => ?_)
    · skip
      refine lv_iconst (v := nI 1) hx hb dX9_lengthBy_65 (by decide) ?_
      refine lv_iconst (v := nI 3) hx hb dX9_lengthBy_66 (by decide) ?_
      refine lv_iload hx hb dX9_lengthBy_67 (lv_at hl 5 rfl) ?_
      refine zi_mul hx hb dX9_lengthBy_69 ?_
      refine zi_addk (n := 1 + (3 * c)) hx hb dX9_lengthBy_70 (by omega) ?_
      refine lv_istore (lv' := [(6, .int (nI (1 + (3 * c)))), (5, .int (nI (1 + (3 * i)))), (0, .ref m), (1, .int (nI u)), (2, .int (nI v)), (3, .int (nI i)), (4, .int (nI c))]) hx hb dX9_lengthBy_71 hl (by decide) rfl (fun ls hl => ?_)
      refine lv_aload_n hx hb dX9_lengthBy_73 rfl (lv_at hl 2 rfl) ?_
      refine va_get (D := G.1) (ci := 6) (v := .ref mg) (C := RX9) (T := TX9) (N := 21) hx hb hts hinX9 hown hK hP 0 rfl rfl 7 (by decide) hlk20 (fun _ h9 => h9) rfl dX9_lengthBy_74 ?_
      refine lv_iload hx hb dX9_lengthBy_77 (lv_at hl 1 rfl) ?_
      refine lv_iconst (v := nI 2) hx hb dX9_lengthBy_79 (by decide) ?_
      refine zi_addk (n := (1 + (3 * i)) + 2) hx hb dX9_lengthBy_80 (by omega) ?_
      refine zi_ald hx hb hK hP 2 rfl (by omega) (by omega) dX9_lengthBy_81 ?_
      have hb_5 := hg8 ((1 + (3 * i)) + 2) (by omega)
      refine lv_i2l (v := lN (g ((1 + (3 * i)) + 2))) hx hb dX9_lengthBy_82 (nI_l (by omega)) ?_
      refine lv_lconst (v := lN 1) hx hb dX9_lengthBy_83 (by decide) ?_
      refine lv_ldc2 (v := lN 3) hx hb hown (hts (.constantLong RX9 67 (3)) (by decide +kernel)) dX9_lengthBy_84 ?_
      refine zSi (W1 := [(m, .inr (6, [.int (nI th), .ref mt, .int (nI ts), .int (nI ps), .int pv, .ref mp, .int (nI V), .ref mg, .ref mc, .ref mh, .int (nI rm), .ref ms, .ref mu, .int (nI on), .ref of1, .ref ot1, .ref oi1, .long sd, .ref ml, .ref md, .ref mw])), zA G ml 64 f, zA G mg 49 g]) (W2 := [(m, .inr (6, [.int (nI th), .ref mt, .int (nI ts), .int (nI ps), .int pv, .ref mp, .int (nI V), .ref mg, .ref mc, .ref mh, .int (nI rm), .ref ms, .ref mu, .int (nI on), .ref of1, .ref ot1, .ref oi1, .long sd, .ref ml, .ref md, .ref mw])), zA G ml 64 f, zA G mg 49 g]) (wr := [(m, .inr (6, [.int (nI th), .ref mt, .int (nI ts), .int (nI ps), .int pv, .ref mp, .int (nI V), .ref mg, .ref mc, .ref mh, .int (nI rm), .ref ms, .ref mu, .int (nI on), .ref of1, .ref ot1, .ref oi1, .long sd, .ref ml, .ref md, .ref mw])), zA G ml 64 f, zA G mg 49 g]) (rest := []) SM (c_X9_in_N l G (g ((1 + (3 * i)) + 2)) 1 3 (by omega) (by omega) (by omega)) (va_cwS 3 hts gX9_lengthBy_X9_in rfl rfl rfl (by decide +kernel) ⟨Nat.le_of_ble_eq_true rfl, Nat.le_of_ble_eq_true rfl⟩) hK hE hA hP hD hS hl.1 [] [0, 1, 2] [0, 1, 2] rfl rfl rfl (by decide) rfl rfl (Nat.le_of_ble_eq_true rfl) ⟨Nat.zero_le _, Nat.zero_le _⟩ dX9_lengthBy_87 (fun H locs hP hD hS => ?_)
      refine zb_eq (tgt := 120) hx hb dX9_lengthBy_90 (by decide) (fun c_6 => ?_) (fun c_6 => ?_)
      · skip
        refine lv_iconst (v := nI 0) hx hb dX9_lengthBy_120 (by decide) ?_
        refine lv_istore (lv' := [(7, .int (nI 0)), (6, .int (nI (1 + (3 * c)))), (5, .int (nI (1 + (3 * i)))), (0, .ref m), (1, .int (nI u)), (2, .int (nI v)), (3, .int (nI i)), (4, .int (nI c))]) hx hb dX9_lengthBy_121 hl (by decide) rfl (fun ls hl => ?_)
        refine lv_iload hx hb dX9_lengthBy_123 (lv_at hl 0 rfl) ?_
        refine zk_eq_t (tgt := 178) hx hb dX9_lengthBy_125 (by decide) (by decide) ?_
        refine lv_ldc (v := nI 2000000) hx hb hown (hts (.constant RX9 62 (2000000)) (by decide +kernel)) dX9_lengthBy_178 ?_
        exact kret _ _ _ _ _ _ (congrArg nI (by unfold mLb; repeat (first | rw [if_pos (by omega)] | rw [if_neg (by omega)]))) rfl hP hD hS dX9_lengthBy_180
      · skip
        refine lv_aload_n hx hb dX9_lengthBy_93 rfl (lv_at hl 2 rfl) ?_
        refine va_get (D := G.1) (ci := 6) (v := .ref mg) (C := RX9) (T := TX9) (N := 21) hx hb hts hinX9 hown hK hP 0 rfl rfl 7 (by decide) hlk20 (fun _ h9 => h9) rfl dX9_lengthBy_94 ?_
        refine lv_iload hx hb dX9_lengthBy_97 (lv_at hl 0 rfl) ?_
        refine lv_iconst (v := nI 2) hx hb dX9_lengthBy_99 (by decide) ?_
        refine zi_addk (n := (1 + (3 * c)) + 2) hx hb dX9_lengthBy_100 (by omega) ?_
        refine zi_ald hx hb hK hP 2 rfl (by omega) (by omega) dX9_lengthBy_101 ?_
        have hb_8 := hg8 ((1 + (3 * c)) + 2) (by omega)
        refine lv_aload_n hx hb dX9_lengthBy_102 rfl (lv_at hl 2 rfl) ?_
        refine va_get (D := G.1) (ci := 6) (v := .ref mg) (C := RX9) (T := TX9) (N := 21) hx hb hts hinX9 hown hK hP 0 rfl rfl 7 (by decide) hlk20 (fun _ h9 => h9) rfl dX9_lengthBy_103 ?_
        refine lv_iload hx hb dX9_lengthBy_106 (lv_at hl 1 rfl) ?_
        refine lv_iconst (v := nI 2) hx hb dX9_lengthBy_108 (by decide) ?_
        refine zi_addk (n := (1 + (3 * i)) + 2) hx hb dX9_lengthBy_109 (by omega) ?_
        refine zi_ald hx hb hK hP 2 rfl (by omega) (by omega) dX9_lengthBy_110 ?_
        have hb_9 := hg8 ((1 + (3 * i)) + 2) (by omega)
        refine lv_iconst (v := nI 3) hx hb dX9_lengthBy_111 (by decide) ?_
        refine zi_addk (n := (g ((1 + (3 * i)) + 2)) + 3) hx hb dX9_lengthBy_112 (by omega) ?_
        refine zn_ne (tgt := 120) hx hb dX9_lengthBy_113 (by decide) (by omega) (by omega) (fun c_10 => ?_) (fun c_10 => ?_)
        · skip
          refine lv_iconst (v := nI 0) hx hb dX9_lengthBy_120 (by decide) ?_
          refine lv_istore (lv' := [(7, .int (nI 0)), (6, .int (nI (1 + (3 * c)))), (5, .int (nI (1 + (3 * i)))), (0, .ref m), (1, .int (nI u)), (2, .int (nI v)), (3, .int (nI i)), (4, .int (nI c))]) hx hb dX9_lengthBy_121 hl (by decide) rfl (fun ls hl => ?_)
          refine lv_iload hx hb dX9_lengthBy_123 (lv_at hl 0 rfl) ?_
          refine zk_eq_t (tgt := 178) hx hb dX9_lengthBy_125 (by decide) (by decide) ?_
          refine lv_ldc (v := nI 2000000) hx hb hown (hts (.constant RX9 62 (2000000)) (by decide +kernel)) dX9_lengthBy_178 ?_
          exact kret _ _ _ _ _ _ (congrArg nI (by unfold mLb; repeat (first | rw [if_pos (by omega)] | rw [if_neg (by omega)]))) rfl hP hD hS dX9_lengthBy_180
        · skip
          refine lv_iconst (v := nI 1) hx hb dX9_lengthBy_116 (by decide) ?_
          refine lv_goto (tgt := 121) hx hb dX9_lengthBy_117 (by decide) ?_
          refine lv_istore (lv' := [(7, .int (nI 1)), (6, .int (nI (1 + (3 * c)))), (5, .int (nI (1 + (3 * i)))), (0, .ref m), (1, .int (nI u)), (2, .int (nI v)), (3, .int (nI i)), (4, .int (nI c))]) hx hb dX9_lengthBy_121 hl (by decide) rfl (fun ls hl => ?_)
          refine lv_iload hx hb dX9_lengthBy_123 (lv_at hl 0 rfl) ?_
          refine zk_eq_f hx hb dX9_lengthBy_125 (by decide) ?_
          refine lv_iconst (v := nI 2) hx hb dX9_lengthBy_128 (by decide) ?_
          refine lv_aload_n hx hb dX9_lengthBy_129 rfl (lv_at hl 3 rfl) ?_
          refine va_get (D := G.1) (ci := 6) (v := .ref ml) (C := RX9) (T := TX9) (N := 21) hx hb hts hinX9 hown hK hP 0 rfl rfl 18 (by decide) hlk45 (fun _ h9 => h9) rfl dX9_lengthBy_130 ?_
          refine lv_bipush (v := nI 8) hx hb dX9_lengthBy_133 (by decide) ?_
          refine lv_aload_n hx hb dX9_lengthBy_135 rfl (lv_at hl 3 rfl) ?_
          refine va_get (D := G.1) (ci := 6) (v := .ref mg) (C := RX9) (T := TX9) (N := 21) hx hb hts hinX9 hown hK hP 0 rfl rfl 7 (by decide) hlk20 (fun _ h9 => h9) rfl dX9_lengthBy_136 ?_
          refine lv_iload hx hb dX9_lengthBy_139 (lv_at hl 2 rfl) ?_
          refine lv_iconst (v := nI 1) hx hb dX9_lengthBy_141 (by decide) ?_
          refine zi_addk (n := (1 + (3 * i)) + 1) hx hb dX9_lengthBy_142 (by omega) ?_
          refine zi_ald hx hb hK hP 2 rfl (by omega) (by omega) dX9_lengthBy_143 ?_
          have hb_13 := hg8 ((1 + (3 * i)) + 1) (by omega)
          refine zi_mul hx hb dX9_lengthBy_144 ?_
          refine lv_aload_n hx hb dX9_lengthBy_145 rfl (lv_at hl 3 rfl) ?_
          refine va_get (D := G.1) (ci := 6) (v := .ref mg) (C := RX9) (T := TX9) (N := 21) hx hb hts hinX9 hown hK hP 0 rfl rfl 7 (by decide) hlk20 (fun _ h9 => h9) rfl dX9_lengthBy_146 ?_
          refine lv_iload hx hb dX9_lengthBy_149 (lv_at hl 1 rfl) ?_
          refine zi_ald hx hb hK hP 2 rfl (by omega) (by omega) dX9_lengthBy_151 ?_
          have hb_14 := hg8 (1 + (3 * c)) (by omega)
          refine zi_add hx hb dX9_lengthBy_152 ?_
          refine zi_ald hx hb hK hP 1 rfl (by omega) (by omega) dX9_lengthBy_153 ?_
          have hb_15 := hL ((8 * (g ((1 + (3 * i)) + 1))) + (g (1 + (3 * c))))
          refine zi_addk (n := 2 + (f ((8 * (g ((1 + (3 * i)) + 1))) + (g (1 + (3 * c)))))) hx hb dX9_lengthBy_154 (by omega) ?_
          refine lv_aload_n hx hb dX9_lengthBy_155 rfl (lv_at hl 3 rfl) ?_
          refine va_get (D := G.1) (ci := 6) (v := .ref ml) (C := RX9) (T := TX9) (N := 21) hx hb hts hinX9 hown hK hP 0 rfl rfl 18 (by decide) hlk45 (fun _ h9 => h9) rfl dX9_lengthBy_156 ?_
          refine lv_bipush (v := nI 8) hx hb dX9_lengthBy_159 (by decide) ?_
          refine lv_aload_n hx hb dX9_lengthBy_161 rfl (lv_at hl 3 rfl) ?_
          refine va_get (D := G.1) (ci := 6) (v := .ref mg) (C := RX9) (T := TX9) (N := 21) hx hb hts hinX9 hown hK hP 0 rfl rfl 7 (by decide) hlk20 (fun _ h9 => h9) rfl dX9_lengthBy_162 ?_
          refine lv_iload hx hb dX9_lengthBy_165 (lv_at hl 1 rfl) ?_
          refine lv_iconst (v := nI 1) hx hb dX9_lengthBy_167 (by decide) ?_
          refine zi_addk (n := (1 + (3 * c)) + 1) hx hb dX9_lengthBy_168 (by omega) ?_
          refine zi_ald hx hb hK hP 2 rfl (by omega) (by omega) dX9_lengthBy_169 ?_
          have hb_16 := hg8 ((1 + (3 * c)) + 1) (by omega)
          refine zi_mul hx hb dX9_lengthBy_170 ?_
          refine lv_iload_n hx hb dX9_lengthBy_171 rfl (lv_at hl 5 rfl) ?_
          refine zi_add hx hb dX9_lengthBy_172 ?_
          refine zi_ald hx hb hK hP 1 rfl (by omega) (by omega) dX9_lengthBy_173 ?_
          have hb_17 := hL ((8 * (g ((1 + (3 * c)) + 1))) + v)
          refine zi_add hx hb dX9_lengthBy_174 ?_
          refine lv_goto (tgt := 180) hx hb dX9_lengthBy_175 (by decide) ?_
          exact kret _ _ _ _ _ _ (congrArg nI (by unfold mLb; repeat (first | rw [if_pos (by omega)] | rw [if_neg (by omega)]))) rfl hP hD hS dX9_lengthBy_180
    · skip
      refine lv_iload hx hb dX9_lengthBy_33 (lv_at hl 5 rfl) ?_
      refine zd_ne (a := (c : Nat)) (tgt := 62) hx hb dX9_lengthBy_35 (by decide) (zI (by omega)) (fun c_18 => ?_) (fun c_18 => ?_)
      · skip
        refine lv_ldc (v := nI 2000000) hx hb hown (hts (.constant RX9 62 (2000000)) (by decide +kernel)) dX9_lengthBy_62 ?_
        exact kret _ _ _ _ _ _ (congrArg nI (by unfold mLb; repeat (first | rw [if_pos (by omega)] | rw [if_neg (by omega)]))) rfl hP hD hS dX9_lengthBy_64
      · skip
        refine lv_iconst (v := nI 1) hx hb dX9_lengthBy_38 (by decide) ?_
        refine lv_aload_n hx hb dX9_lengthBy_39 rfl (lv_at hl 1 rfl) ?_
        refine va_get (D := G.1) (ci := 6) (v := .ref ml) (C := RX9) (T := TX9) (N := 21) hx hb hts hinX9 hown hK hP 0 rfl rfl 18 (by decide) hlk45 (fun _ h9 => h9) rfl dX9_lengthBy_40 ?_
        refine lv_bipush (v := nI 8) hx hb dX9_lengthBy_43 (by decide) ?_
        refine lv_aload_n hx hb dX9_lengthBy_45 rfl (lv_at hl 1 rfl) ?_
        refine va_get (D := G.1) (ci := 6) (v := .ref mg) (C := RX9) (T := TX9) (N := 21) hx hb hts hinX9 hown hK hP 0 rfl rfl 7 (by decide) hlk20 (fun _ h9 => h9) rfl dX9_lengthBy_46 ?_
        refine lv_iload hx hb dX9_lengthBy_49 (lv_at hl 0 rfl) ?_
        refine lv_iconst (v := nI 1) hx hb dX9_lengthBy_51 (by decide) ?_
        refine zi_addk (n := (1 + (3 * i)) + 1) hx hb dX9_lengthBy_52 (by omega) ?_
        refine zi_ald hx hb hK hP 2 rfl (by omega) (by omega) dX9_lengthBy_53 ?_
        have hb_19 := hg8 ((1 + (3 * i)) + 1) (by omega)
        refine zi_mul hx hb dX9_lengthBy_54 ?_
        refine lv_iload_n hx hb dX9_lengthBy_55 rfl (lv_at hl 3 rfl) ?_
        refine zi_add hx hb dX9_lengthBy_56 ?_
        refine zi_ald hx hb hK hP 1 rfl (by omega) (by omega) dX9_lengthBy_57 ?_
        have hb_20 := hL ((8 * (g ((1 + (3 * i)) + 1))) + v)
        refine zi_addk (n := 1 + (f ((8 * (g ((1 + (3 * i)) + 1))) + v))) hx hb dX9_lengthBy_58 (by omega) ?_
        refine lv_goto (tgt := 64) hx hb dX9_lengthBy_59 (by decide) ?_
        exact kret _ _ _ _ _ _ (congrArg nI (by unfold mLb; repeat (first | rw [if_pos (by omega)] | rw [if_neg (by omega)]))) rfl hP hD hS dX9_lengthBy_64
  · skip
    refine lv_ldc (v := nI 2000000) hx hb hown (hts (.constant RX9 62 (2000000)) (by decide +kernel)) dX9_lengthBy_18 ?_
    exact kret _ _ _ _ _ _ (congrArg nI (by unfold mLb; repeat (first | rw [if_pos (by omega)] | rw [if_neg (by omega)]))) rfl hP hD hS dX9_lengthBy_20
set_option maxHeartbeats 400000 in
set_option maxRecDepth 100000 in
theorem c_X9_firstStep (l : Launch) (G : zG) (m mt mp mg mc mh ms mu of1 ot1 oi1 ml md mw th ts ps V rm on : Nat) (pv : Int32) (sd : Int64) (f g : Nat → Nat) (u v : Nat) (hL : zL2 f) (hg0 : g 0 ≤ 16) (hg8 : ∀ i, 1 ≤ i → g i < 8) (hu : u < 8) (hv : v < 8) (hex : mFs g f u v < 16 * g 0) : MI l yX9_firstStep wsX9_firstStep ({ frames := 2, cells := 0, slots := 0, locals := 52 }) G [.ref m, .int (nI u), .int (nI v)] [(m, .inr (6, [.int (nI th), .ref mt, .int (nI ts), .int (nI ps), .int pv, .ref mp, .int (nI V), .ref mg, .ref mc, .ref mh, .int (nI rm), .ref ms, .ref mu, .int (nI on), .ref of1, .ref ot1, .ref oi1, .long sd, .ref ml, .ref md, .ref mw])), zA G ml 64 f, zA G mg 49 g] (nI (mFs g f u v)) [(m, .inr (6, [.int (nI th), .ref mt, .int (nI ts), .int (nI ps), .int pv, .ref mp, .int (nI V), .ref mg, .ref mc, .ref mh, .int (nI rm), .ref ms, .ref mu, .int (nI on), .ref of1, .ref ot1, .ref oi1, .long sd, .ref ml, .ref md, .ref mw])), zA G ml 64 f, zA G mg 49 g] := by
  refine MI.enter (cc := cX9_firstStep) (maxL := 4) (by decide) rfl (Nat.le_of_ble_eq_true rfl) rfl ?_
  intro pM eM sM mM bM tM cM QM AM ls hat kret
  obtain ⟨SM, hA, hK, hE, hP, hD, hS, hl⟩ := hat
  have hx := SM.1
  have hb := SM.2.1
  have hown : sM.vm.findClass RX9 = some mM.cls := SM.2.2.2.1
  have hts := SM.2.2.2.2
  have hinX9 : ∀ w ∈ u_ws RX9 TX9 21, w ∈ wsX9_firstStep := by decide +kernel
  have hlk20 : (Cond.fieldLink RX9 20 "DyckReachabilityModel" "graph" "[I").before _ sM = true := hts _ (by decide +kernel)
  have hlk45 : (Cond.fieldLink RX9 45 "DyckReachabilityModel" "lengths" "[I").before _ sM = true := hts _ (by decide +kernel)
  have hl : lv_has ls 4 [(0, .ref m), (1, .int (nI u)), (2, .int (nI v))] := hl
  refine lv_iconst (v := nI 0) hx hb dX9_firstStep_0 (by decide) ?_
  refine lv_istore_n (lv' := [(3, .int (nI 0)), (0, .ref m), (1, .int (nI u)), (2, .int (nI v))]) hx hb dX9_firstStep_1 rfl hl (by decide) rfl (fun ls hl => ?_)
  have lp2 : ∀ (n9 : Nat), ∀ (n : Nat), (n ≤ 16 * g 0) → (∀ j, j < n → mFsP g f u v j = false) → (16 * g 0 - n) < n9 → ∀ (H : Heap) (locs : List Loc) (ls : Array Slot), va_P G.1 vwCl [(m, .inr (6, [.int (nI th), .ref mt, .int (nI ts), .int (nI ps), .int pv, .ref mp, .int (nI V), .ref mg, .ref mc, .ref mh, .int (nI rm), .ref ms, .ref mu, .int (nI on), .ref of1, .ref ot1, .ref oi1, .long sd, .ref ml, .ref md, .ref mw])), zA G ml 64 f, zA G mg 49 g] H → va_D AM [(m, .inr (6, [.int (nI th), .ref mt, .int (nI ts), .int (nI ps), .int pv, .ref mp, .int (nI V), .ref mg, .ref mc, .ref mh, .int (nI rm), .ref ms, .ref mu, .int (nI on), .ref of1, .ref ot1, .ref oi1, .long sd, .ref ml, .ref md, .ref mw])), zA G ml 64 f, zA G mg 49 g] → va_S AM sM.heap H locs → lv_has ls 4 [(0, .ref m), (1, .int (nI u)), (2, .int (nI v)), (3, .int (nI n))] → W pM l eM ({ frames := 2, cells := 0, slots := 0, locals := 52 }) sM mM (([.ref m, .int (nI u), .int (nI v)] : List Value).toArray) bM tM cM H locs 0 0 QM (F0 mM 2 ls []) := by
    intro n9
    induction n9 with
    | zero =>
      intro _ _ _ h9
      exact absurd h9 (Nat.not_lt_zero _)
    | succ n9 ih9 =>
      intro n h1 hn hmu2 H locs ls hP hD hS hl
      have ih2 := ih9
      clear ih9
      refine lv_iload_n hx hb dX9_firstStep_2 rfl (lv_at hl 3 rfl) ?_
      refine lv_bipush (v := nI 16) hx hb dX9_firstStep_3 (by decide) ?_
      refine lv_aload_n hx hb dX9_firstStep_5 rfl (lv_at hl 0 rfl) ?_
      refine va_get (D := G.1) (ci := 6) (v := .ref mg) (C := RX9) (T := TX9) (N := 21) hx hb hts hinX9 hown hK hP 0 rfl rfl 7 (by decide) hlk20 (fun _ h9 => h9) rfl dX9_firstStep_6 ?_
      refine lv_iconst (v := nI 0) hx hb dX9_firstStep_9 (by decide) ?_
      refine zi_ald hx hb hK hP 2 rfl (by omega) (by omega) dX9_firstStep_10 ?_
      have hb_1 := hg0
      refine zi_mul hx hb dX9_firstStep_11 ?_
      refine zn_ge (tgt := 64) hx hb dX9_firstStep_12 (by decide) (by omega) (by omega) (fun c_2 => ?_) (fun c_2 => ?_)
      · skip
        exact absurd hex (mFs_none hn (by omega))
      · skip
        refine lv_iload_n hx hb dX9_firstStep_15 rfl (lv_at hl 3 rfl) ?_
        refine lv_bipush (v := nI 16) hx hb dX9_firstStep_16 (by decide) ?_
        refine zi_rem hx hb dX9_firstStep_18 (by omega) (by omega) (by omega) ?_
        refine lv_aload_n hx hb dX9_firstStep_19 rfl (lv_at hl 0 rfl) ?_
        refine va_get (D := G.1) (ci := 6) (v := .ref mg) (C := RX9) (T := TX9) (N := 21) hx hb hts hinX9 hown hK hP 0 rfl rfl 7 (by decide) hlk20 (fun _ h9 => h9) rfl dX9_firstStep_20 ?_
        refine lv_iconst (v := nI 0) hx hb dX9_firstStep_23 (by decide) ?_
        refine zi_ald hx hb hK hP 2 rfl (by omega) (by omega) dX9_firstStep_24 ?_
        have hb_3 := hg0
        refine zn_ge (tgt := 58) hx hb dX9_firstStep_25 (by decide) (by omega) (by omega) (fun c_4 => ?_) (fun c_4 => ?_)
        · skip
          refine lv_iinc (v := nI (n + 1)) (lv' := [(3, .int (nI (n + 1))), (0, .ref m), (1, .int (nI u)), (2, .int (nI v))]) hx hb dX9_firstStep_58 hl (k := 3) rfl (zinc n 1) (by decide) rfl (fun ls hl => ?_)
          refine lv_goto (tgt := 2) hx hb dX9_firstStep_61 (by decide) ?_
          exact ih2 (n + 1) (by omega) (mFsP_s hn (by omega)) (by omega) _ _ _ hP hD hS (lv_sub hl [1, 2, 3, 0] rfl)
        · skip
          refine lv_aload_n hx hb dX9_firstStep_28 rfl (lv_at hl 0 rfl) ?_
          refine lv_iload_n hx hb dX9_firstStep_29 rfl (lv_at hl 1 rfl) ?_
          refine lv_iload_n hx hb dX9_firstStep_30 rfl (lv_at hl 2 rfl) ?_
          refine lv_iload_n hx hb dX9_firstStep_31 rfl (lv_at hl 3 rfl) ?_
          refine lv_bipush (v := nI 16) hx hb dX9_firstStep_32 (by decide) ?_
          refine zi_div hx hb dX9_firstStep_34 (by omega) (by omega) (by omega) ?_
          refine lv_iload_n hx hb dX9_firstStep_35 rfl (lv_at hl 3 rfl) ?_
          refine lv_bipush (v := nI 16) hx hb dX9_firstStep_36 (by decide) ?_
          refine zi_rem hx hb dX9_firstStep_38 (by omega) (by omega) (by omega) ?_
          refine zVi (W1 := [(m, .inr (6, [.int (nI th), .ref mt, .int (nI ts), .int (nI ps), .int pv, .ref mp, .int (nI V), .ref mg, .ref mc, .ref mh, .int (nI rm), .ref ms, .ref mu, .int (nI on), .ref of1, .ref ot1, .ref oi1, .long sd, .ref ml, .ref md, .ref mw])), zA G ml 64 f, zA G mg 49 g]) (W2 := [(m, .inr (6, [.int (nI th), .ref mt, .int (nI ts), .int (nI ps), .int pv, .ref mp, .int (nI V), .ref mg, .ref mc, .ref mh, .int (nI rm), .ref ms, .ref mu, .int (nI on), .ref of1, .ref ot1, .ref oi1, .long sd, .ref ml, .ref md, .ref mw])), zA G ml 64 f, zA G mg 49 g]) (wr := []) (rest := []) SM (c_X9_lengthBy l G m mt mp mg mc mh ms mu of1 ot1 oi1 ml md mw th ts ps V rm on pv sd f g u v (n / 16) (n % 16) hL (by omega) hg8 (by omega) (by omega) (by omega) (by omega)) (cwV 4 hts gX9_firstStep_X9_lengthBy rfl rfl rfl (by decide +kernel) ⟨Nat.le_of_ble_eq_true rfl, Nat.le_of_ble_eq_true rfl⟩) hK hE hA hP hD hS hl.1 [0, 1, 2] [] [0, 1, 2] rfl rfl rfl (by decide) (ci := 6) rfl rfl rfl rfl rfl (Nat.le_of_ble_eq_true rfl) ⟨Nat.zero_le _, Nat.zero_le _⟩ dX9_firstStep_39 (fun H locs hP hD hS => ?_)
          have hlb := mLb_le (g := g) hL u v (n / 16) (n % 16)
          refine lv_aload_n hx hb dX9_firstStep_42 rfl (lv_at hl 0 rfl) ?_
          refine va_get (D := G.1) (ci := 6) (v := .ref ml) (C := RX9) (T := TX9) (N := 21) hx hb hts hinX9 hown hK hP 0 rfl rfl 18 (by decide) hlk45 (fun _ h9 => h9) rfl dX9_firstStep_43 ?_
          refine lv_bipush (v := nI 8) hx hb dX9_firstStep_46 (by decide) ?_
          refine lv_iload_n hx hb dX9_firstStep_48 rfl (lv_at hl 1 rfl) ?_
          refine zi_mul hx hb dX9_firstStep_49 ?_
          refine lv_iload_n hx hb dX9_firstStep_50 rfl (lv_at hl 2 rfl) ?_
          refine zi_add hx hb dX9_firstStep_51 ?_
          refine zi_ald hx hb hK hP 1 rfl (by omega) (by omega) dX9_firstStep_52 ?_
          have hb_5 := hL ((8 * u) + v)
          refine zn_ne (tgt := 58) hx hb dX9_firstStep_53 (by decide) (by omega) (by omega) (fun c_6 => ?_) (fun c_6 => ?_)
          · skip
            refine lv_iinc (v := nI (n + 1)) (lv' := [(3, .int (nI (n + 1))), (0, .ref m), (1, .int (nI u)), (2, .int (nI v))]) hx hb dX9_firstStep_58 hl (k := 3) rfl (zinc n 1) (by decide) rfl (fun ls hl => ?_)
            refine lv_goto (tgt := 2) hx hb dX9_firstStep_61 (by decide) ?_
            exact ih2 (n + 1) (by omega) (mFsP_s hn (by omega)) (by omega) _ _ _ hP hD hS (lv_sub hl [1, 2, 3, 0] rfl)
          · skip
            refine lv_iload_n hx hb dX9_firstStep_56 rfl (lv_at hl 3 rfl) ?_
            exact kret _ _ _ _ _ _ (congrArg nI (mFs_at hn (by omega) (by omega))) rfl hP hD hS dX9_firstStep_57
  exact lp2 (16 * g 0 - 0 + 1) 0 (by omega) (fun j hj => absurd hj (Nat.not_lt_zero j)) (Nat.lt_succ_self _) _ _ _ hP hD hS (lv_sub hl [1, 2, 3, 0] rfl)
