set_option maxHeartbeats 4000000 in
set_option maxRecDepth 100000 in
theorem c_X8_isVertex (l : Launch) (G : zG) (o e cp bw ds hs sl sf tx ob V : Nat) (sd : Int64) (x : Int32) (hV : V ≤ 8) : MI l yX8_isVertex wsX8_isVertex ({ frames := 0, cells := 0, slots := 0, locals := 0 }) G [.ref o, .int x] [(o, .inr (5, [.int (nI V), .long sd, .ref e, .ref cp, .ref bw, .ref ds, .ref hs, .ref sl, .ref sf, .ref tx, .ref ob]))] (bI (decide (0 ≤ x.toInt ∧ x.toInt < V))) [(o, .inr (5, [.int (nI V), .long sd, .ref e, .ref cp, .ref bw, .ref ds, .ref hs, .ref sl, .ref sf, .ref tx, .ref ob]))] := by
  refine MI.enter (cc := cX8_isVertex) (maxL := 2) (by decide) rfl (Nat.le_of_ble_eq_true rfl) (bI_nar _) ?_
  intro pM eM sM mM bM tM cM QM AM ls hat kret
  obtain ⟨SM, hA, hK, hE, hP, hD, hS, hl⟩ := hat
  have hx := SM.1
  have hb := SM.2.1
  have hown : sM.vm.findClass RX8 = some mM.cls := SM.2.2.2.1
  have hts := SM.2.2.2.2
  have hinX8 : ∀ w ∈ u_ws RX8 TX8 11, w ∈ wsX8_isVertex := by decide +kernel
  have hlk9 : (Cond.fieldLink RX8 9 "DyckReachability" "vertices" "I").before _ sM = true := hts _ (by decide +kernel)
  have hl : lv_has ls 2 [(0, .ref o), (1, .int x)] := hl
  refine lv_iload_n hx hb dX8_isVertex_0 rfl (lv_at hl 1 rfl) ?_
  refine zd_lt (a := (x).toInt) (tgt := 16) hx hb dX8_isVertex_1 (by decide) rfl (fun c_1 => ?_) (fun c_1 => ?_)
  · skip
    refine lv_iconst (v := nI 0) hx hb dX8_isVertex_16 (by decide) ?_
    exact kret _ _ _ _ _ _ (bI_f (by omega)) rfl hP hD hS dX8_isVertex_17
  · skip
    refine lv_iload_n hx hb dX8_isVertex_4 rfl (lv_at hl 1 rfl) ?_
    refine lv_aload_n hx hb dX8_isVertex_5 rfl (lv_at hl 0 rfl) ?_
    refine va_get (D := G.1) (ci := 5) (v := .int (nI V)) (C := RX8) (T := TX8) (N := 11) hx hb hts hinX8 hown hK hP 0 rfl rfl 0 (by decide) hlk9 (fun _ h9 => h9) rfl dX8_isVertex_6 ?_
    refine zc_ge (a := (x).toInt) (b := (V : Nat)) (tgt := 16) hx hb dX8_isVertex_9 (by decide) rfl (zI (by omega)) (fun c_2 => ?_) (fun c_2 => ?_)
    · skip
      refine lv_iconst (v := nI 0) hx hb dX8_isVertex_16 (by decide) ?_
      exact kret _ _ _ _ _ _ (bI_f (by omega)) rfl hP hD hS dX8_isVertex_17
    · skip
      refine lv_iconst (v := nI 1) hx hb dX8_isVertex_12 (by decide) ?_
      refine lv_goto (tgt := 17) hx hb dX8_isVertex_13 (by decide) ?_
      exact kret _ _ _ _ _ _ (bI_t (by omega)) rfl hP hD hS dX8_isVertex_17
set_option maxHeartbeats 4000000 in
set_option maxRecDepth 100000 in
theorem c_X8_isVertexNumber (l : Launch) (G : zG) (x : Int32)  : MI l yX8_isVertexNumber wsX8_isVertexNumber ({ frames := 0, cells := 0, slots := 0, locals := 0 }) G [.int x] [] (bI (decide (0 ≤ x.toInt ∧ x.toInt < 8))) [] := by
  refine MI.enter (cc := cX8_isVertexNumber) (maxL := 1) (by decide) rfl (Nat.le_of_ble_eq_true rfl) (bI_nar _) ?_
  intro pM eM sM mM bM tM cM QM AM ls hat kret
  obtain ⟨SM, hA, hK, hE, hP, hD, hS, hl⟩ := hat
  have hx := SM.1
  have hb := SM.2.1
  have hown : sM.vm.findClass RX8 = some mM.cls := SM.2.2.2.1
  have hts := SM.2.2.2.2
  have hl : lv_has ls 1 [(0, .int x)] := hl
  refine lv_iload_n hx hb dX8_isVertexNumber_0 rfl (lv_at hl 0 rfl) ?_
  refine zd_lt (a := (x).toInt) (tgt := 14) hx hb dX8_isVertexNumber_1 (by decide) rfl (fun c_1 => ?_) (fun c_1 => ?_)
  · skip
    refine lv_iconst (v := nI 0) hx hb dX8_isVertexNumber_14 (by decide) ?_
    exact kret _ _ _ _ _ _ (bI_f (by omega)) rfl hP hD hS dX8_isVertexNumber_15
  · skip
    refine lv_iload_n hx hb dX8_isVertexNumber_4 rfl (lv_at hl 0 rfl) ?_
    refine lv_bipush (v := nI 8) hx hb dX8_isVertexNumber_5 (by decide) ?_
    refine zc_ge (a := (x).toInt) (b := (8 : Nat)) (tgt := 14) hx hb dX8_isVertexNumber_7 (by decide) rfl (zI (by omega)) (fun c_2 => ?_) (fun c_2 => ?_)
    · skip
      refine lv_iconst (v := nI 0) hx hb dX8_isVertexNumber_14 (by decide) ?_
      exact kret _ _ _ _ _ _ (bI_f (by omega)) rfl hP hD hS dX8_isVertexNumber_15
    · skip
      refine lv_iconst (v := nI 1) hx hb dX8_isVertexNumber_10 (by decide) ?_
      refine lv_goto (tgt := 15) hx hb dX8_isVertexNumber_11 (by decide) ?_
      exact kret _ _ _ _ _ _ (bI_t (by omega)) rfl hP hD hS dX8_isVertexNumber_15
set_option maxHeartbeats 4000000 in
set_option maxRecDepth 100000 in
theorem c_X8_isSlot (l : Launch) (G : zG) (x : Int32)  : MI l yX8_isSlot wsX8_isSlot ({ frames := 0, cells := 0, slots := 0, locals := 0 }) G [.int x] [] (bI (decide (0 ≤ x.toInt ∧ x.toInt < 2))) [] := by
  refine MI.enter (cc := cX8_isSlot) (maxL := 1) (by decide) rfl (Nat.le_of_ble_eq_true rfl) (bI_nar _) ?_
  intro pM eM sM mM bM tM cM QM AM ls hat kret
  obtain ⟨SM, hA, hK, hE, hP, hD, hS, hl⟩ := hat
  have hx := SM.1
  have hb := SM.2.1
  have hown : sM.vm.findClass RX8 = some mM.cls := SM.2.2.2.1
  have hts := SM.2.2.2.2
  have hl : lv_has ls 1 [(0, .int x)] := hl
  refine lv_iload_n hx hb dX8_isSlot_0 rfl (lv_at hl 0 rfl) ?_
  refine zd_lt (a := (x).toInt) (tgt := 13) hx hb dX8_isSlot_1 (by decide) rfl (fun c_1 => ?_) (fun c_1 => ?_)
  · skip
    refine lv_iconst (v := nI 0) hx hb dX8_isSlot_13 (by decide) ?_
    exact kret _ _ _ _ _ _ (bI_f (by omega)) rfl hP hD hS dX8_isSlot_14
  · skip
    refine lv_iload_n hx hb dX8_isSlot_4 rfl (lv_at hl 0 rfl) ?_
    refine lv_iconst (v := nI 2) hx hb dX8_isSlot_5 (by decide) ?_
    refine zc_ge (a := (x).toInt) (b := (2 : Nat)) (tgt := 13) hx hb dX8_isSlot_6 (by decide) rfl (zI (by omega)) (fun c_2 => ?_) (fun c_2 => ?_)
    · skip
      refine lv_iconst (v := nI 0) hx hb dX8_isSlot_13 (by decide) ?_
      exact kret _ _ _ _ _ _ (bI_f (by omega)) rfl hP hD hS dX8_isSlot_14
    · skip
      refine lv_iconst (v := nI 1) hx hb dX8_isSlot_9 (by decide) ?_
      refine lv_goto (tgt := 14) hx hb dX8_isSlot_10 (by decide) ?_
      exact kret _ _ _ _ _ _ (bI_t (by omega)) rfl hP hD hS dX8_isSlot_14
set_option maxHeartbeats 4000000 in
set_option maxRecDepth 100000 in
theorem c_X8_countPairs (l : Launch) (G : zG) (o e cp bw ds hs sl sf tx ob V : Nat) (sd : Int64) (e2 b1 b2 b3 : Nat) (s t lb : Nat → Nat) (k : Nat) (hV : V ≤ 8) (hk : k ≤ 16) (hbs : ∀ i, s i < 8) (hbt : ∀ i, t i < 8) (hlb : ∀ i, lb i < 7) : MI l yX8_countPairs wsX8_countPairs ({ frames := 4, cells := 0, slots := 0, locals := 100 }) G [.ref o, .ref e2] [(o, .inr (5, [.int (nI V), .long sd, .ref e, .ref cp, .ref bw, .ref ds, .ref hs, .ref sl, .ref sf, .ref tx, .ref ob])), (e2, .inr (1, [.ref b1, .ref b2, .ref b3, .int (nI k)])), zA G b1 16 s, zA G b2 16 t, zA G b3 16 lb] (nI (zPr s t lb k V)) [(o, .inr (5, [.int (nI V), .long sd, .ref e, .ref cp, .ref bw, .ref ds, .ref hs, .ref sl, .ref sf, .ref tx, .ref ob])), (e2, .inr (1, [.ref b1, .ref b2, .ref b3, .int (nI k)])), zA G b1 16 s, zA G b2 16 t, zA G b3 16 lb] := by
  refine MI.enter (cc := cX8_countPairs) (maxL := 2) (by decide) rfl (Nat.le_of_ble_eq_true rfl) rfl ?_
  intro pM eM sM mM bM tM cM QM AM ls hat kret
  obtain ⟨SM, hA, hK, hE, hP, hD, hS, hl⟩ := hat
  have hx := SM.1
  have hb := SM.2.1
  have hown : sM.vm.findClass RX8 = some mM.cls := SM.2.2.2.1
  have hts := SM.2.2.2.2
  have hinX8 : ∀ w ∈ u_ws RX8 TX8 11, w ∈ wsX8_countPairs := by decide +kernel
  have hlk9 : (Cond.fieldLink RX8 9 "DyckReachability" "vertices" "I").before _ sM = true := hts _ (by decide +kernel)
  have hl : lv_has ls 2 [(0, .ref o), (1, .ref e2)] := hl
  refine lv_aload_n hx hb dX8_countPairs_0 rfl (lv_at hl 1 rfl) ?_
  refine lv_aload_n hx hb dX8_countPairs_1 rfl (lv_at hl 0 rfl) ?_
  refine va_get (D := G.1) (ci := 5) (v := .int (nI V)) (C := RX8) (T := TX8) (N := 11) hx hb hts hinX8 hown hK hP 0 rfl rfl 0 (by decide) hlk9 (fun _ h9 => h9) rfl dX8_countPairs_2 ?_
  refine zSl (W1 := [(o, .inr (5, [.int (nI V), .long sd, .ref e, .ref cp, .ref bw, .ref ds, .ref hs, .ref sl, .ref sf, .ref tx, .ref ob])), (e2, .inr (1, [.ref b1, .ref b2, .ref b3, .int (nI k)])), zA G b1 16 s, zA G b2 16 t, zA G b3 16 lb]) (W2 := [(o, .inr (5, [.int (nI V), .long sd, .ref e, .ref cp, .ref bw, .ref ds, .ref hs, .ref sl, .ref sf, .ref tx, .ref ob])), (e2, .inr (1, [.ref b1, .ref b2, .ref b3, .int (nI k)])), zA G b1 16 s, zA G b2 16 t, zA G b3 16 lb]) (wr := [(o, .inr (5, [.int (nI V), .long sd, .ref e, .ref cp, .ref bw, .ref ds, .ref hs, .ref sl, .ref sf, .ref tx, .ref ob]))]) (rest := []) SM (c_X6_ofBalancedPaths l G e2 b1 b2 b3 16 s t lb k V (by first | assumption | omega) (by first | assumption | omega) (by first | assumption | omega) (by first | assumption | omega) (by first | assumption | omega) (by first | assumption | omega)) (va_cwS 2 hts gX8_countPairs_X6_ofBalancedPaths rfl rfl rfl (by decide +kernel) ⟨Nat.le_of_ble_eq_true rfl, Nat.le_of_ble_eq_true rfl⟩) hK hE hA hP hD hS hl.1 [1, 2, 3, 4] [0] [0, 1, 2, 3, 4] rfl rfl rfl (by decide) rfl rfl (Nat.le_of_ble_eq_true rfl) ⟨Nat.zero_le _, Nat.zero_le _⟩ dX8_countPairs_5 (fun H locs hP hD hS => ?_)
  have hbl := zBp_lt (s := s) (t := t) (lb := lb) (k := k) (V := V) hbs hV
  refine zSi (W1 := [(o, .inr (5, [.int (nI V), .long sd, .ref e, .ref cp, .ref bw, .ref ds, .ref hs, .ref sl, .ref sf, .ref tx, .ref ob])), (e2, .inr (1, [.ref b1, .ref b2, .ref b3, .int (nI k)])), zA G b1 16 s, zA G b2 16 t, zA G b3 16 lb]) (W2 := [(o, .inr (5, [.int (nI V), .long sd, .ref e, .ref cp, .ref bw, .ref ds, .ref hs, .ref sl, .ref sf, .ref tx, .ref ob])), (e2, .inr (1, [.ref b1, .ref b2, .ref b3, .int (nI k)])), zA G b1 16 s, zA G b2 16 t, zA G b3 16 lb]) (wr := [(o, .inr (5, [.int (nI V), .long sd, .ref e, .ref cp, .ref bw, .ref ds, .ref hs, .ref sl, .ref sf, .ref tx, .ref ob])), (e2, .inr (1, [.ref b1, .ref b2, .ref b3, .int (nI k)])), zA G b1 16 s, zA G b2 16 t, zA G b3 16 lb]) (rest := []) SM (c_J13_bitCount_95d88 l G (zBp s t lb k V) (by first | assumption | omega)) (va_cwS 1 hts gX8_countPairs_J13_bitCount_95d88 rfl rfl rfl (by decide +kernel) ⟨Nat.le_of_ble_eq_true rfl, Nat.le_of_ble_eq_true rfl⟩) hK hE hA hP hD hS hl.1 [] [0, 1, 2, 3, 4] [0, 1, 2, 3, 4] rfl rfl rfl (by decide) rfl rfl (Nat.le_of_ble_eq_true rfl) ⟨Nat.zero_le _, Nat.zero_le _⟩ dX8_countPairs_8 (fun H locs hP hD hS => ?_)
  exact kret _ _ _ _ _ _ rfl rfl hP hD hS dX8_countPairs_11
set_option maxHeartbeats 4000000 in
set_option maxRecDepth 100000 in
theorem c_X8_countPairsWithout (l : Launch) (G : zG) (o e cp bw ds hs sl sf tx ob V : Nat) (sd : Int64) (a1 a2 a3 : Nat) (s t lb : Nat → Nat) (k : Nat) (c1 c2 c3 : Nat) (sc tc lc : Nat → Nat) (kc : Nat) (j : Nat) (hV : V ≤ 8) (hj : j < k) (hk : k ≤ 16) (hbs : ∀ i, s i < 8) (hbt : ∀ i, t i < 8) (hlb : ∀ i, lb i < 7) (hkc : kc ≤ 16) (hcs : ∀ i, sc i < 8) (hct : ∀ i, tc i < 8) (hcl : ∀ i, lc i < 7) : MI l yX8_countPairsWithout wsX8_countPairsWithout ({ frames := 5, cells := 0, slots := 0, locals := 121 }) G [.ref o, .int (nI j)] [(o, .inr (5, [.int (nI V), .long sd, .ref e, .ref cp, .ref bw, .ref ds, .ref hs, .ref sl, .ref sf, .ref tx, .ref ob])), (e, .inr (1, [.ref a1, .ref a2, .ref a3, .int (nI k)])), zA G a1 16 s, zA G a2 16 t, zA G a3 16 lb, (cp, .inr (1, [.ref c1, .ref c2, .ref c3, .int (nI kc)])), zA G c1 16 sc, zA G c2 16 tc, zA G c3 16 lc] (nI (zCpw s t lb k V j)) [(o, .inr (5, [.int (nI V), .long sd, .ref e, .ref cp, .ref bw, .ref ds, .ref hs, .ref sl, .ref sf, .ref tx, .ref ob])), (e, .inr (1, [.ref a1, .ref a2, .ref a3, .int (nI k)])), zA G a1 16 s, zA G a2 16 t, zA G a3 16 lb, (cp, .inr (1, [.ref c1, .ref c2, .ref c3, .int (nI (k - 1))])), zA G c1 16 (zDr (zTk sc s k) j k), zA G c2 16 (zDr (zTk tc t k) j k), zA G c3 16 (zDr (zTk lc lb k) j k)] := by
  refine MI.enter (cc := cX8_countPairsWithout) (maxL := 2) (by decide) rfl (Nat.le_of_ble_eq_true rfl) rfl ?_
  intro pM eM sM mM bM tM cM QM AM ls hat kret
  obtain ⟨SM, hA, hK, hE, hP, hD, hS, hl⟩ := hat
  have hx := SM.1
  have hb := SM.2.1
  have hown : sM.vm.findClass RX8 = some mM.cls := SM.2.2.2.1
  have hts := SM.2.2.2.2
  have hinX8 : ∀ w ∈ u_ws RX8 TX8 11, w ∈ wsX8_countPairsWithout := by decide +kernel
  have hlk26 : (Cond.fieldLink RX8 26 "DyckReachability" "copy" "LDyckReachability$Edges;").before _ sM = true := hts _ (by decide +kernel)
  have hlk22 : (Cond.fieldLink RX8 22 "DyckReachability" "edges" "LDyckReachability$Edges;").before _ sM = true := hts _ (by decide +kernel)
  have hl : lv_has ls 2 [(0, .ref o), (1, .int (nI j))] := hl
  refine lv_aload_n hx hb dX8_countPairsWithout_0 rfl (lv_at hl 0 rfl) ?_
  refine va_get (D := G.1) (ci := 5) (v := .ref cp) (C := RX8) (T := TX8) (N := 11) hx hb hts hinX8 hown hK hP 0 rfl rfl 3 (by decide) hlk26 (fun _ h9 => h9) rfl dX8_countPairsWithout_1 ?_
  refine lv_aload_n hx hb dX8_countPairsWithout_4 rfl (lv_at hl 0 rfl) ?_
  refine va_get (D := G.1) (ci := 5) (v := .ref e) (C := RX8) (T := TX8) (N := 11) hx hb hts hinX8 hown hK hP 0 rfl rfl 2 (by decide) hlk22 (fun _ h9 => h9) rfl dX8_countPairsWithout_5 ?_
  refine zVv (W1 := [(o, .inr (5, [.int (nI V), .long sd, .ref e, .ref cp, .ref bw, .ref ds, .ref hs, .ref sl, .ref sf, .ref tx, .ref ob])), (e, .inr (1, [.ref a1, .ref a2, .ref a3, .int (nI k)])), zA G a1 16 s, zA G a2 16 t, zA G a3 16 lb, (cp, .inr (1, [.ref c1, .ref c2, .ref c3, .int (nI kc)])), zA G c1 16 sc, zA G c2 16 tc, zA G c3 16 lc]) (W2 := [(o, .inr (5, [.int (nI V), .long sd, .ref e, .ref cp, .ref bw, .ref ds, .ref hs, .ref sl, .ref sf, .ref tx, .ref ob])), (e, .inr (1, [.ref a1, .ref a2, .ref a3, .int (nI k)])), zA G a1 16 s, zA G a2 16 t, zA G a3 16 lb, (cp, .inr (1, [.ref c1, .ref c2, .ref c3, .int (nI k)])), zA G c1 16 (zTk sc s k), zA G c2 16 (zTk tc t k), zA G c3 16 (zTk lc lb k)]) (wr := [(o, .inr (5, [.int (nI V), .long sd, .ref e, .ref cp, .ref bw, .ref ds, .ref hs, .ref sl, .ref sf, .ref tx, .ref ob]))]) (rest := []) SM (c_X2_take l G cp c1 c2 c3 16 sc tc lc kc e a1 a2 a3 16 s t lb k (by first | assumption | omega) (by first | assumption | omega) (by first | assumption | omega) (by first | assumption | omega)) (cwV 1 hts gX8_countPairsWithout_X2_take rfl rfl rfl (by decide +kernel) ⟨Nat.le_of_ble_eq_true rfl, Nat.le_of_ble_eq_true rfl⟩) hK hE hA hP hD hS hl.1 [5, 6, 7, 8, 1, 2, 3, 4] [0] [0, 5, 6, 7, 8, 1, 2, 3, 4] rfl rfl rfl (by decide) (ci := 1) rfl rfl rfl rfl rfl (Nat.le_of_ble_eq_true rfl) ⟨Nat.zero_le _, Nat.zero_le _⟩ dX8_countPairsWithout_8 (fun H locs hP hD hS => ?_)
  refine lv_aload_n hx hb dX8_countPairsWithout_11 rfl (lv_at hl 0 rfl) ?_
  refine va_get (D := G.1) (ci := 5) (v := .ref cp) (C := RX8) (T := TX8) (N := 11) hx hb hts hinX8 hown hK hP 0 rfl rfl 3 (by decide) hlk26 (fun _ h9 => h9) rfl dX8_countPairsWithout_12 ?_
  refine lv_iload_n hx hb dX8_countPairsWithout_15 rfl (lv_at hl 1 rfl) ?_
  refine zVv (W1 := [(o, .inr (5, [.int (nI V), .long sd, .ref e, .ref cp, .ref bw, .ref ds, .ref hs, .ref sl, .ref sf, .ref tx, .ref ob])), (e, .inr (1, [.ref a1, .ref a2, .ref a3, .int (nI k)])), zA G a1 16 s, zA G a2 16 t, zA G a3 16 lb, (cp, .inr (1, [.ref c1, .ref c2, .ref c3, .int (nI k)])), zA G c1 16 (zTk sc s k), zA G c2 16 (zTk tc t k), zA G c3 16 (zTk lc lb k)]) (W2 := [(o, .inr (5, [.int (nI V), .long sd, .ref e, .ref cp, .ref bw, .ref ds, .ref hs, .ref sl, .ref sf, .ref tx, .ref ob])), (e, .inr (1, [.ref a1, .ref a2, .ref a3, .int (nI k)])), zA G a1 16 s, zA G a2 16 t, zA G a3 16 lb, (cp, .inr (1, [.ref c1, .ref c2, .ref c3, .int (nI (k - 1))])), zA G c1 16 (zDr (zTk sc s k) j k), zA G c2 16 (zDr (zTk tc t k) j k), zA G c3 16 (zDr (zTk lc lb k) j k)]) (wr := [(o, .inr (5, [.int (nI V), .long sd, .ref e, .ref cp, .ref bw, .ref ds, .ref hs, .ref sl, .ref sf, .ref tx, .ref ob])), (e, .inr (1, [.ref a1, .ref a2, .ref a3, .int (nI k)])), zA G a1 16 s, zA G a2 16 t, zA G a3 16 lb]) (rest := []) SM (c_X2_drop l G cp c1 c2 c3 16 (zTk sc s k) (zTk tc t k) (zTk lc lb k) k j (by first | assumption | omega) (by first | assumption | omega) (by first | assumption | omega)) (cwV 1 hts gX8_countPairsWithout_X2_drop rfl rfl rfl (by decide +kernel) ⟨Nat.le_of_ble_eq_true rfl, Nat.le_of_ble_eq_true rfl⟩) hK hE hA hP hD hS hl.1 [5, 6, 7, 8] [0, 1, 2, 3, 4] [0, 1, 2, 3, 4, 5, 6, 7, 8] rfl rfl rfl (by decide) (ci := 1) rfl rfl rfl rfl rfl (Nat.le_of_ble_eq_true rfl) ⟨Nat.zero_le _, Nat.zero_le _⟩ dX8_countPairsWithout_16 (fun H locs hP hD hS => ?_)
  refine lv_aload_n hx hb dX8_countPairsWithout_19 rfl (lv_at hl 0 rfl) ?_
  refine lv_aload_n hx hb dX8_countPairsWithout_20 rfl (lv_at hl 0 rfl) ?_
  refine va_get (D := G.1) (ci := 5) (v := .ref cp) (C := RX8) (T := TX8) (N := 11) hx hb hts hinX8 hown hK hP 0 rfl rfl 3 (by decide) hlk26 (fun _ h9 => h9) rfl dX8_countPairsWithout_21 ?_
  refine zVi (W1 := [(o, .inr (5, [.int (nI V), .long sd, .ref e, .ref cp, .ref bw, .ref ds, .ref hs, .ref sl, .ref sf, .ref tx, .ref ob])), (e, .inr (1, [.ref a1, .ref a2, .ref a3, .int (nI k)])), zA G a1 16 s, zA G a2 16 t, zA G a3 16 lb, (cp, .inr (1, [.ref c1, .ref c2, .ref c3, .int (nI (k - 1))])), zA G c1 16 (zDr (zTk sc s k) j k), zA G c2 16 (zDr (zTk tc t k) j k), zA G c3 16 (zDr (zTk lc lb k) j k)]) (W2 := [(o, .inr (5, [.int (nI V), .long sd, .ref e, .ref cp, .ref bw, .ref ds, .ref hs, .ref sl, .ref sf, .ref tx, .ref ob])), (e, .inr (1, [.ref a1, .ref a2, .ref a3, .int (nI k)])), zA G a1 16 s, zA G a2 16 t, zA G a3 16 lb, (cp, .inr (1, [.ref c1, .ref c2, .ref c3, .int (nI (k - 1))])), zA G c1 16 (zDr (zTk sc s k) j k), zA G c2 16 (zDr (zTk tc t k) j k), zA G c3 16 (zDr (zTk lc lb k) j k)]) (wr := [(e, .inr (1, [.ref a1, .ref a2, .ref a3, .int (nI k)])), zA G a1 16 s, zA G a2 16 t, zA G a3 16 lb]) (rest := []) SM (c_X8_countPairs l G o e cp bw ds hs sl sf tx ob V sd cp c1 c2 c3 (zDr (zTk sc s k) j k) (zDr (zTk tc t k) j k) (zDr (zTk lc lb k) j k) (k - 1) (by first | assumption | omega) (by first | assumption | omega) (by first | assumption | omega | exact zDr_lt (zTk_lt (by assumption) (by assumption)) | exact zSel_lt (by assumption) (by assumption) _ | exact zTk_lt (by assumption) (by assumption) | (have hctl := zCt_le sub k; omega)) (by first | assumption | omega | exact zDr_lt (zTk_lt (by assumption) (by assumption)) | exact zSel_lt (by assumption) (by assumption) _ | exact zTk_lt (by assumption) (by assumption) | (have hctl := zCt_le sub k; omega)) (by first | assumption | omega | exact zDr_lt (zTk_lt (by assumption) (by assumption)) | exact zSel_lt (by assumption) (by assumption) _ | exact zTk_lt (by assumption) (by assumption) | (have hctl := zCt_le sub k; omega))) (cwV 1 hts gX8_countPairsWithout_X8_countPairs rfl rfl rfl (by decide +kernel) ⟨Nat.le_of_ble_eq_true rfl, Nat.le_of_ble_eq_true rfl⟩) hK hE hA hP hD hS hl.1 [0, 5, 6, 7, 8] [1, 2, 3, 4] [4, 0, 1, 2, 3, 5, 6, 7, 8] rfl rfl rfl (by decide) (ci := 5) rfl rfl rfl rfl rfl (Nat.le_of_ble_eq_true rfl) ⟨Nat.zero_le _, Nat.zero_le _⟩ dX8_countPairsWithout_24 (fun H locs hP hD hS => ?_)
  exact kret _ _ _ _ _ _ (congrArg nI (by unfold zCpw zPr; rw [zCpw_eq s t lb sc tc lc V hj])) rfl hP hD hS dX8_countPairsWithout_27
set_option maxHeartbeats 4000000 in
set_option maxRecDepth 100000 in
theorem c_X8_worth (l : Launch) (G : zG) (o e cp bw ds hs sl sf tx ob V : Nat) (sd : Int64) (a1 a2 a3 : Nat) (s t lb : Nat → Nat) (k : Nat) (c1 c2 c3 : Nat) (sc tc lc : Nat → Nat) (kc : Nat) (sub : Nat) (hV : V ≤ 8) (hsub : sub < 65536) (hk : k ≤ 16) (hbs : ∀ i, s i < 8) (hbt : ∀ i, t i < 8) (hlb : ∀ i, lb i < 7) (hkc : kc ≤ 16) (hcs : ∀ i, sc i < 8) (hct : ∀ i, tc i < 8) (hcl : ∀ i, lc i < 7) : MI l yX8_worth wsX8_worth ({ frames := 5, cells := 0, slots := 0, locals := 121 }) G [.ref o, .int (nI sub)] [(o, .inr (5, [.int (nI V), .long sd, .ref e, .ref cp, .ref bw, .ref ds, .ref hs, .ref sl, .ref sf, .ref tx, .ref ob])), (e, .inr (1, [.ref a1, .ref a2, .ref a3, .int (nI k)])), zA G a1 16 s, zA G a2 16 t, zA G a3 16 lb, (cp, .inr (1, [.ref c1, .ref c2, .ref c3, .int (nI kc)])), zA G c1 16 sc, zA G c2 16 tc, zA G c3 16 lc] (nI (zWo s t lb k V sub)) [(o, .inr (5, [.int (nI V), .long sd, .ref e, .ref cp, .ref bw, .ref ds, .ref hs, .ref sl, .ref sf, .ref tx, .ref ob])), (e, .inr (1, [.ref a1, .ref a2, .ref a3, .int (nI k)])), zA G a1 16 s, zA G a2 16 t, zA G a3 16 lb, (cp, .inr (1, [.ref c1, .ref c2, .ref c3, .int (nI (zCt sub k))])), zA G c1 16 (zSel sub sc s k), zA G c2 16 (zSel sub tc t k), zA G c3 16 (zSel sub lc lb k)] := by
  refine MI.enter (cc := cX8_worth) (maxL := 2) (by decide) rfl (Nat.le_of_ble_eq_true rfl) rfl ?_
  intro pM eM sM mM bM tM cM QM AM ls hat kret
  obtain ⟨SM, hA, hK, hE, hP, hD, hS, hl⟩ := hat
  have hx := SM.1
  have hb := SM.2.1
  have hown : sM.vm.findClass RX8 = some mM.cls := SM.2.2.2.1
  have hts := SM.2.2.2.2
  have hinX8 : ∀ w ∈ u_ws RX8 TX8 11, w ∈ wsX8_worth := by decide +kernel
  have hlk26 : (Cond.fieldLink RX8 26 "DyckReachability" "copy" "LDyckReachability$Edges;").before _ sM = true := hts _ (by decide +kernel)
  have hlk22 : (Cond.fieldLink RX8 22 "DyckReachability" "edges" "LDyckReachability$Edges;").before _ sM = true := hts _ (by decide +kernel)
  have hl : lv_has ls 2 [(0, .ref o), (1, .int (nI sub))] := hl
  refine lv_aload_n hx hb dX8_worth_0 rfl (lv_at hl 0 rfl) ?_
  refine va_get (D := G.1) (ci := 5) (v := .ref cp) (C := RX8) (T := TX8) (N := 11) hx hb hts hinX8 hown hK hP 0 rfl rfl 3 (by decide) hlk26 (fun _ h9 => h9) rfl dX8_worth_1 ?_
  refine lv_aload_n hx hb dX8_worth_4 rfl (lv_at hl 0 rfl) ?_
  refine va_get (D := G.1) (ci := 5) (v := .ref e) (C := RX8) (T := TX8) (N := 11) hx hb hts hinX8 hown hK hP 0 rfl rfl 2 (by decide) hlk22 (fun _ h9 => h9) rfl dX8_worth_5 ?_
  refine lv_iload_n hx hb dX8_worth_8 rfl (lv_at hl 1 rfl) ?_
  refine zVv (W1 := [(o, .inr (5, [.int (nI V), .long sd, .ref e, .ref cp, .ref bw, .ref ds, .ref hs, .ref sl, .ref sf, .ref tx, .ref ob])), (e, .inr (1, [.ref a1, .ref a2, .ref a3, .int (nI k)])), zA G a1 16 s, zA G a2 16 t, zA G a3 16 lb, (cp, .inr (1, [.ref c1, .ref c2, .ref c3, .int (nI kc)])), zA G c1 16 sc, zA G c2 16 tc, zA G c3 16 lc]) (W2 := [(o, .inr (5, [.int (nI V), .long sd, .ref e, .ref cp, .ref bw, .ref ds, .ref hs, .ref sl, .ref sf, .ref tx, .ref ob])), (e, .inr (1, [.ref a1, .ref a2, .ref a3, .int (nI k)])), zA G a1 16 s, zA G a2 16 t, zA G a3 16 lb, (cp, .inr (1, [.ref c1, .ref c2, .ref c3, .int (nI (zCt sub k))])), zA G c1 16 (zSel sub sc s k), zA G c2 16 (zSel sub tc t k), zA G c3 16 (zSel sub lc lb k)]) (wr := [(o, .inr (5, [.int (nI V), .long sd, .ref e, .ref cp, .ref bw, .ref ds, .ref hs, .ref sl, .ref sf, .ref tx, .ref ob]))]) (rest := []) SM (c_X2_takeSome l G cp c1 c2 c3 16 sc tc lc kc e a1 a2 a3 16 s t lb k sub (by first | assumption | omega) (by first | assumption | omega) (by first | assumption | omega) (by first | assumption | omega) (by first | assumption | omega) (by first | assumption | omega)) (cwV 2 hts gX8_worth_X2_takeSome rfl rfl rfl (by decide +kernel) ⟨Nat.le_of_ble_eq_true rfl, Nat.le_of_ble_eq_true rfl⟩) hK hE hA hP hD hS hl.1 [5, 6, 7, 8, 1, 2, 3, 4] [0] [0, 5, 6, 7, 8, 1, 2, 3, 4] rfl rfl rfl (by decide) (ci := 1) rfl rfl rfl rfl rfl (Nat.le_of_ble_eq_true rfl) ⟨Nat.zero_le _, Nat.zero_le _⟩ dX8_worth_9 (fun H locs hP hD hS => ?_)
  refine lv_aload_n hx hb dX8_worth_12 rfl (lv_at hl 0 rfl) ?_
  refine lv_aload_n hx hb dX8_worth_13 rfl (lv_at hl 0 rfl) ?_
  refine va_get (D := G.1) (ci := 5) (v := .ref cp) (C := RX8) (T := TX8) (N := 11) hx hb hts hinX8 hown hK hP 0 rfl rfl 3 (by decide) hlk26 (fun _ h9 => h9) rfl dX8_worth_14 ?_
  refine zVi (W1 := [(o, .inr (5, [.int (nI V), .long sd, .ref e, .ref cp, .ref bw, .ref ds, .ref hs, .ref sl, .ref sf, .ref tx, .ref ob])), (e, .inr (1, [.ref a1, .ref a2, .ref a3, .int (nI k)])), zA G a1 16 s, zA G a2 16 t, zA G a3 16 lb, (cp, .inr (1, [.ref c1, .ref c2, .ref c3, .int (nI (zCt sub k))])), zA G c1 16 (zSel sub sc s k), zA G c2 16 (zSel sub tc t k), zA G c3 16 (zSel sub lc lb k)]) (W2 := [(o, .inr (5, [.int (nI V), .long sd, .ref e, .ref cp, .ref bw, .ref ds, .ref hs, .ref sl, .ref sf, .ref tx, .ref ob])), (e, .inr (1, [.ref a1, .ref a2, .ref a3, .int (nI k)])), zA G a1 16 s, zA G a2 16 t, zA G a3 16 lb, (cp, .inr (1, [.ref c1, .ref c2, .ref c3, .int (nI (zCt sub k))])), zA G c1 16 (zSel sub sc s k), zA G c2 16 (zSel sub tc t k), zA G c3 16 (zSel sub lc lb k)]) (wr := [(e, .inr (1, [.ref a1, .ref a2, .ref a3, .int (nI k)])), zA G a1 16 s, zA G a2 16 t, zA G a3 16 lb]) (rest := []) SM (c_X8_countPairs l G o e cp bw ds hs sl sf tx ob V sd cp c1 c2 c3 (zSel sub sc s k) (zSel sub tc t k) (zSel sub lc lb k) (zCt sub k) (by first | assumption | omega) (by first | assumption | omega | exact zDr_lt (zTk_lt (by assumption) (by assumption)) | exact zSel_lt (by assumption) (by assumption) _ | exact zTk_lt (by assumption) (by assumption) | (have hctl := zCt_le sub k; omega)) (by first | assumption | omega | exact zDr_lt (zTk_lt (by assumption) (by assumption)) | exact zSel_lt (by assumption) (by assumption) _ | exact zTk_lt (by assumption) (by assumption) | (have hctl := zCt_le sub k; omega)) (by first | assumption | omega | exact zDr_lt (zTk_lt (by assumption) (by assumption)) | exact zSel_lt (by assumption) (by assumption) _ | exact zTk_lt (by assumption) (by assumption) | (have hctl := zCt_le sub k; omega)) (by first | assumption | omega | exact zDr_lt (zTk_lt (by assumption) (by assumption)) | exact zSel_lt (by assumption) (by assumption) _ | exact zTk_lt (by assumption) (by assumption) | (have hctl := zCt_le sub k; omega))) (cwV 1 hts gX8_worth_X8_countPairs rfl rfl rfl (by decide +kernel) ⟨Nat.le_of_ble_eq_true rfl, Nat.le_of_ble_eq_true rfl⟩) hK hE hA hP hD hS hl.1 [0, 5, 6, 7, 8] [1, 2, 3, 4] [4, 0, 1, 2, 3, 5, 6, 7, 8] rfl rfl rfl (by decide) (ci := 5) rfl rfl rfl rfl rfl (Nat.le_of_ble_eq_true rfl) ⟨Nat.zero_le _, Nat.zero_le _⟩ dX8_worth_17 (fun H locs hP hD hS => ?_)
  exact kret _ _ _ _ _ _ (congrArg nI (by unfold zWo zPr; rw [zWo_eq])) rfl hP hD hS dX8_worth_20
set_option maxHeartbeats 4000000 in
set_option maxRecDepth 100000 in
theorem c_X8_append_ok (l : Launch) (G : zG) (o e cp bw ds hs sl sf tx ob V : Nat) (sd : Int64) (sg : Nat) (g : Nat → Nat) (n : Nat) (x : Int32) (hx : 0 ≤ x.toInt ∧ x.toInt < 256) (hn : n < 60) : MI l yX8_append wsX8_append ({ frames := 2, cells := 0, slots := 0, locals := 41 }) G [.ref o, .int x] [(o, .inr (5, [.int (nI V), .long sd, .ref e, .ref cp, .ref bw, .ref ds, .ref hs, .ref sl, .ref sf, .ref tx, .ref ob])), (tx, .inr (2, [.ref sg, .int (nI n)])), zA G sg 60 g] (nI (n + 1)) [(o, .inr (5, [.int (nI V), .long sd, .ref e, .ref cp, .ref bw, .ref ds, .ref hs, .ref sl, .ref sf, .ref tx, .ref ob])), (tx, .inr (2, [.ref sg, .int (nI (n + 1))])), zA G sg 60 (zU g n x.toInt.toNat)] := by
  refine MI.enter (cc := cX8_append) (maxL := 2) (by decide) rfl (Nat.le_of_ble_eq_true rfl) rfl ?_
  intro pM eM sM mM bM tM cM QM AM ls hat kret
  obtain ⟨SM, hA, hK, hE, hP, hD, hS, hl⟩ := hat
  have hx := SM.1
  have hb := SM.2.1
  have hown : sM.vm.findClass RX8 = some mM.cls := SM.2.2.2.1
  have hts := SM.2.2.2.2
  have hinX8 : ∀ w ∈ u_ws RX8 TX8 11, w ∈ wsX8_append := by decide +kernel
  have hlk57 : (Cond.fieldLink RX8 57 "DyckReachability" "text" "LDyckReachability$GraphText;").before _ sM = true := hts _ (by decide +kernel)
  have hinX3 : ∀ w ∈ u_ws RX3 TX3 2, w ∈ wsX8_append := by decide +kernel
  have hlk75 : (Cond.fieldLink RX8 75 "DyckReachability$GraphText" "length" "I").before _ sM = true := hts _ (by decide +kernel)
  have hl : lv_has ls 2 [(0, .ref o), (1, .int x)] := hl
  refine lv_iload_n hx hb dX8_append_0 rfl (lv_at hl 1 rfl) ?_
  refine zd_lt (a := (x).toInt) (tgt := 11) hx hb dX8_append_1 (by decide) rfl (fun c_1 => ?_) (fun c_1 => ?_)
  · skip
    exfalso; omega
  · skip
    refine lv_iload_n hx hb dX8_append_4 rfl (lv_at hl 1 rfl) ?_
    refine lv_sipush (v := nI 255) hx hb dX8_append_5 (by decide) ?_
    refine zc_le (a := (x).toInt) (b := (255 : Nat)) (tgt := 14) hx hb dX8_append_8 (by decide) rfl (zI (by omega)) (fun c_2 => ?_) (fun c_2 => ?_)
    · skip
      have hl : lv_has ls 2 [(0, .ref o), (1, .int (nI x.toInt.toNat))] := by rw [← xN_eq (x := x) (by omega)]; exact hl
      refine lv_aload_n hx hb dX8_append_14 rfl (lv_at hl 0 rfl) ?_
      refine va_get (D := G.1) (ci := 5) (v := .ref tx) (C := RX8) (T := TX8) (N := 11) hx hb hts hinX8 hown hK hP 0 rfl rfl 9 (by decide) hlk57 (fun _ h9 => h9) rfl dX8_append_15 ?_
      refine zVi (W1 := [(o, .inr (5, [.int (nI V), .long sd, .ref e, .ref cp, .ref bw, .ref ds, .ref hs, .ref sl, .ref sf, .ref tx, .ref ob])), (tx, .inr (2, [.ref sg, .int (nI n)])), zA G sg 60 g]) (W2 := [(o, .inr (5, [.int (nI V), .long sd, .ref e, .ref cp, .ref bw, .ref ds, .ref hs, .ref sl, .ref sf, .ref tx, .ref ob])), (tx, .inr (2, [.ref sg, .int (nI n)])), zA G sg 60 g]) (wr := [(o, .inr (5, [.int (nI V), .long sd, .ref e, .ref cp, .ref bw, .ref ds, .ref hs, .ref sl, .ref sf, .ref tx, .ref ob])), zA G sg 60 g]) (rest := []) SM (c_X3_isFull l G tx sg n (by first | assumption | omega)) (cwV 0 hts gX8_append_X3_isFull rfl rfl rfl (by decide +kernel) ⟨Nat.le_of_ble_eq_true rfl, Nat.le_of_ble_eq_true rfl⟩) hK hE hA hP hD hS hl.1 [1] [0, 2] [0, 2, 1] rfl rfl rfl (by decide) (ci := 2) rfl rfl rfl rfl rfl (Nat.le_of_ble_eq_true rfl) ⟨Nat.zero_le _, Nat.zero_le _⟩ dX8_append_18 (fun H locs hP hD hS => ?_)
      refine zb_eq (tgt := 27) hx hb dX8_append_21 (by decide) (fun c_3 => ?_) (fun c_3 => ?_)
      · skip
        refine lv_aload_n hx hb dX8_append_27 rfl (lv_at hl 0 rfl) ?_
        refine va_get (D := G.1) (ci := 5) (v := .ref tx) (C := RX8) (T := TX8) (N := 11) hx hb hts hinX8 hown hK hP 0 rfl rfl 9 (by decide) hlk57 (fun _ h9 => h9) rfl dX8_append_28 ?_
        refine lv_iload_n hx hb dX8_append_31 rfl (lv_at hl 1 rfl) ?_
        refine zVv (W1 := [(o, .inr (5, [.int (nI V), .long sd, .ref e, .ref cp, .ref bw, .ref ds, .ref hs, .ref sl, .ref sf, .ref tx, .ref ob])), (tx, .inr (2, [.ref sg, .int (nI n)])), zA G sg 60 g]) (W2 := [(o, .inr (5, [.int (nI V), .long sd, .ref e, .ref cp, .ref bw, .ref ds, .ref hs, .ref sl, .ref sf, .ref tx, .ref ob])), (tx, .inr (2, [.ref sg, .int (nI (n + 1))])), zA G sg 60 (zU g n x.toInt.toNat)]) (wr := [(o, .inr (5, [.int (nI V), .long sd, .ref e, .ref cp, .ref bw, .ref ds, .ref hs, .ref sl, .ref sf, .ref tx, .ref ob]))]) (rest := []) SM (c_X3_put l G tx sg g n x.toInt.toNat (by first | assumption | omega)) (cwV 1 hts gX8_append_X3_put rfl rfl rfl (by decide +kernel) ⟨Nat.le_of_ble_eq_true rfl, Nat.le_of_ble_eq_true rfl⟩) hK hE hA hP hD hS hl.1 [1, 2] [0] [0, 1, 2] rfl rfl rfl (by decide) (ci := 2) rfl rfl rfl rfl rfl (Nat.le_of_ble_eq_true rfl) ⟨Nat.zero_le _, Nat.zero_le _⟩ dX8_append_32 (fun H locs hP hD hS => ?_)
        refine lv_aload_n hx hb dX8_append_35 rfl (lv_at hl 0 rfl) ?_
        refine va_get (D := G.1) (ci := 5) (v := .ref tx) (C := RX8) (T := TX8) (N := 11) hx hb hts hinX8 hown hK hP 0 rfl rfl 9 (by decide) hlk57 (fun _ h9 => h9) rfl dX8_append_36 ?_
        refine va_get (D := G.1) (ci := 2) (v := .int (nI (n + 1))) (C := RX3) (T := TX3) (N := 2) hx hb hts hinX3 hown hK hP 1 rfl rfl 1 (by decide) hlk75 (fun _ h9 => h9) rfl dX8_append_39 ?_
        exact kret _ _ _ _ _ _ rfl rfl hP hD hS dX8_append_42
      · skip
        exfalso; omega
    · skip
      exfalso; omega
set_option maxHeartbeats 4000000 in
set_option maxRecDepth 100000 in
theorem c_X8_append_bad (l : Launch) (G : zG) (o e cp bw ds hs sl sf tx ob V : Nat) (sd : Int64) (sg : Nat) (g : Nat → Nat) (n : Nat) (x : Int32) (hn : n ≤ 60) (hx : ¬ ((0 ≤ x.toInt ∧ x.toInt < 256) ∧ n < 60)) : MI l yX8_append wsX8_append ({ frames := 1, cells := 0, slots := 0, locals := 20 }) G [.ref o, .int x] [(o, .inr (5, [.int (nI V), .long sd, .ref e, .ref cp, .ref bw, .ref ds, .ref hs, .ref sl, .ref sf, .ref tx, .ref ob])), (tx, .inr (2, [.ref sg, .int (nI n)])), zA G sg 60 g] (zApX n x) [(o, .inr (5, [.int (nI V), .long sd, .ref e, .ref cp, .ref bw, .ref ds, .ref hs, .ref sl, .ref sf, .ref tx, .ref ob])), (tx, .inr (2, [.ref sg, .int (nI n)])), zA G sg 60 g] := by
  refine MI.enter (cc := cX8_append) (maxL := 2) (by decide) rfl (Nat.le_of_ble_eq_true rfl) rfl ?_
  intro pM eM sM mM bM tM cM QM AM ls hat kret
  obtain ⟨SM, hA, hK, hE, hP, hD, hS, hl⟩ := hat
  have hx := SM.1
  have hb := SM.2.1
  have hown : sM.vm.findClass RX8 = some mM.cls := SM.2.2.2.1
  have hts := SM.2.2.2.2
  have hinX8 : ∀ w ∈ u_ws RX8 TX8 11, w ∈ wsX8_append := by decide +kernel
  have hlk57 : (Cond.fieldLink RX8 57 "DyckReachability" "text" "LDyckReachability$GraphText;").before _ sM = true := hts _ (by decide +kernel)
  have hl : lv_has ls 2 [(0, .ref o), (1, .int x)] := hl
  refine lv_iload_n hx hb dX8_append_0 rfl (lv_at hl 1 rfl) ?_
  refine zd_lt (a := (x).toInt) (tgt := 11) hx hb dX8_append_1 (by decide) rfl (fun c_1 => ?_) (fun c_1 => ?_)
  · skip
    refine lv_bipush (v := (-2)) hx hb dX8_append_11 (by decide) ?_
    exact kret _ _ _ _ _ _ (by unfold zApX; repeat (first | rw [if_pos (by first | assumption | omega)] | rw [if_neg (by first | assumption | omega)])) rfl hP hD hS dX8_append_13
  · skip
    refine lv_iload_n hx hb dX8_append_4 rfl (lv_at hl 1 rfl) ?_
    refine lv_sipush (v := nI 255) hx hb dX8_append_5 (by decide) ?_
    refine zc_le (a := (x).toInt) (b := (255 : Nat)) (tgt := 14) hx hb dX8_append_8 (by decide) rfl (zI (by omega)) (fun c_2 => ?_) (fun c_2 => ?_)
    · skip
      refine lv_aload_n hx hb dX8_append_14 rfl (lv_at hl 0 rfl) ?_
      refine va_get (D := G.1) (ci := 5) (v := .ref tx) (C := RX8) (T := TX8) (N := 11) hx hb hts hinX8 hown hK hP 0 rfl rfl 9 (by decide) hlk57 (fun _ h9 => h9) rfl dX8_append_15 ?_
      refine zVi (W1 := [(o, .inr (5, [.int (nI V), .long sd, .ref e, .ref cp, .ref bw, .ref ds, .ref hs, .ref sl, .ref sf, .ref tx, .ref ob])), (tx, .inr (2, [.ref sg, .int (nI n)])), zA G sg 60 g]) (W2 := [(o, .inr (5, [.int (nI V), .long sd, .ref e, .ref cp, .ref bw, .ref ds, .ref hs, .ref sl, .ref sf, .ref tx, .ref ob])), (tx, .inr (2, [.ref sg, .int (nI n)])), zA G sg 60 g]) (wr := [(o, .inr (5, [.int (nI V), .long sd, .ref e, .ref cp, .ref bw, .ref ds, .ref hs, .ref sl, .ref sf, .ref tx, .ref ob])), zA G sg 60 g]) (rest := []) SM (c_X3_isFull l G tx sg n (by first | assumption | omega)) (cwV 0 hts gX8_append_X3_isFull rfl rfl rfl (by decide +kernel) ⟨Nat.le_of_ble_eq_true rfl, Nat.le_of_ble_eq_true rfl⟩) hK hE hA hP hD hS hl.1 [1] [0, 2] [0, 2, 1] rfl rfl rfl (by decide) (ci := 2) rfl rfl rfl rfl rfl (Nat.le_of_ble_eq_true rfl) ⟨Nat.zero_le _, Nat.zero_le _⟩ dX8_append_18 (fun H locs hP hD hS => ?_)
      refine zb_eq (tgt := 27) hx hb dX8_append_21 (by decide) (fun c_3 => ?_) (fun c_3 => ?_)
      · skip
        exfalso; omega
      · skip
        refine lv_bipush (v := (-4)) hx hb dX8_append_24 (by decide) ?_
        exact kret _ _ _ _ _ _ (by unfold zApX; repeat (first | rw [if_pos (by first | assumption | omega)] | rw [if_neg (by first | assumption | omega)])) rfl hP hD hS dX8_append_26
    · skip
      refine lv_bipush (v := (-2)) hx hb dX8_append_11 (by decide) ?_
      exact kret _ _ _ _ _ _ (by unfold zApX; repeat (first | rw [if_pos (by first | assumption | omega)] | rw [if_neg (by first | assumption | omega)])) rfl hP hD hS dX8_append_13
set_option maxHeartbeats 4000000 in
set_option maxRecDepth 100000 in
theorem c_X8_clearText (l : Launch) (G : zG) (o e cp bw ds hs sl sf tx ob V : Nat) (sd : Int64) (sg n : Nat)  : MI l yX8_clearText wsX8_clearText ({ frames := 0, cells := 0, slots := 0, locals := 0 }) G [.ref o] [(o, .inr (5, [.int (nI V), .long sd, .ref e, .ref cp, .ref bw, .ref ds, .ref hs, .ref sl, .ref sf, .ref tx, .ref ob])), (tx, .inr (2, [.ref sg, .int (nI n)]))] (nI n) [(o, .inr (5, [.int (nI V), .long sd, .ref e, .ref cp, .ref bw, .ref ds, .ref hs, .ref sl, .ref sf, .ref tx, .ref ob])), (tx, .inr (2, [.ref sg, .int (nI 0)]))] := by
  refine MI.enter (cc := cX8_clearText) (maxL := 2) (by decide) rfl (Nat.le_of_ble_eq_true rfl) rfl ?_
  intro pM eM sM mM bM tM cM QM AM ls hat kret
  obtain ⟨SM, hA, hK, hE, hP, hD, hS, hl⟩ := hat
  have hx := SM.1
  have hb := SM.2.1
  have hown : sM.vm.findClass RX8 = some mM.cls := SM.2.2.2.1
  have hts := SM.2.2.2.2
  have hinX8 : ∀ w ∈ u_ws RX8 TX8 11, w ∈ wsX8_clearText := by decide +kernel
  have hlk57 : (Cond.fieldLink RX8 57 "DyckReachability" "text" "LDyckReachability$GraphText;").before _ sM = true := hts _ (by decide +kernel)
  have hinX3 : ∀ w ∈ u_ws RX3 TX3 2, w ∈ wsX8_clearText := by decide +kernel
  have hlk75 : (Cond.fieldLink RX8 75 "DyckReachability$GraphText" "length" "I").before _ sM = true := hts _ (by decide +kernel)
  have hl : lv_has ls 2 [(0, .ref o)] := hl
  refine lv_aload_n hx hb dX8_clearText_0 rfl (lv_at hl 0 rfl) ?_
  refine va_get (D := G.1) (ci := 5) (v := .ref tx) (C := RX8) (T := TX8) (N := 11) hx hb hts hinX8 hown hK hP 0 rfl rfl 9 (by decide) hlk57 (fun _ h9 => h9) rfl dX8_clearText_1 ?_
  refine va_get (D := G.1) (ci := 2) (v := .int (nI n)) (C := RX3) (T := TX3) (N := 2) hx hb hts hinX3 hown hK hP 1 rfl rfl 1 (by decide) hlk75 (fun _ h9 => h9) rfl dX8_clearText_4 ?_
  refine lv_istore_n (lv' := [(1, .int (nI n)), (0, .ref o)]) hx hb dX8_clearText_7 rfl hl (by decide) rfl (fun ls hl => ?_)
  refine lv_aload_n hx hb dX8_clearText_8 rfl (lv_at hl 1 rfl) ?_
  refine va_get (D := G.1) (ci := 5) (v := .ref tx) (C := RX8) (T := TX8) (N := 11) hx hb hts hinX8 hown hK hP 0 rfl rfl 9 (by decide) hlk57 (fun _ h9 => h9) rfl dX8_clearText_9 ?_
  refine lv_iconst (v := nI 0) hx hb dX8_clearText_12 (by decide) ?_
  refine va_put (D := G.1) (ci := 2) (v := .int (nI 0)) (ty := .int) (C := RX3) (T := TX3) (N := 2) hx hb hts hinX3 tyX3 tyX3_ok nmX3 hown hK hP hD hS 1 rfl rfl 1 (by decide) hlk75 (fun _ h9 => h9) rfl (by decide +kernel) rfl rfl (Nat.le_of_ble_eq_true rfl) dX8_clearText_13 (fun H locs hP hD hS => ?_)
  have hP : va_P G.1 vwCl [(o, .inr (5, [.int (nI V), .long sd, .ref e, .ref cp, .ref bw, .ref ds, .ref hs, .ref sl, .ref sf, .ref tx, .ref ob])), (tx, .inr (2, [.ref sg, .int (nI 0)]))] H := hP
  have hD : va_D AM [(o, .inr (5, [.int (nI V), .long sd, .ref e, .ref cp, .ref bw, .ref ds, .ref hs, .ref sl, .ref sf, .ref tx, .ref ob])), (tx, .inr (2, [.ref sg, .int (nI 0)]))] := hD
  refine lv_iload_n hx hb dX8_clearText_16 rfl (lv_at hl 0 rfl) ?_
  exact kret _ _ _ _ _ _ rfl rfl hP hD hS dX8_clearText_17
set_option maxHeartbeats 4000000 in
set_option maxRecDepth 100000 in
theorem c_X8_errorPosition (l : Launch) (G : zG) (o e cp bw ds hs sl sf tx ob V : Nat) (sd : Int64) (sg : Nat) (g : Nat → Nat) (n : Nat) (hg : ∀ i, g i < 256) (hn : n ≤ 60) : MI l yX8_errorPosition wsX8_errorPosition ({ frames := 3, cells := 0, slots := 0, locals := 64 }) G [.ref o] [(o, .inr (5, [.int (nI V), .long sd, .ref e, .ref cp, .ref bw, .ref ds, .ref hs, .ref sl, .ref sf, .ref tx, .ref ob])), (tx, .inr (2, [.ref sg, .int (nI n)])), zA G sg 60 g] (zFF g n) [(o, .inr (5, [.int (nI V), .long sd, .ref e, .ref cp, .ref bw, .ref ds, .ref hs, .ref sl, .ref sf, .ref tx, .ref ob])), (tx, .inr (2, [.ref sg, .int (nI n)])), zA G sg 60 g] := by
  refine MI.enter (cc := cX8_errorPosition) (maxL := 1) (by decide) rfl (Nat.le_of_ble_eq_true rfl) rfl ?_
  intro pM eM sM mM bM tM cM QM AM ls hat kret
  obtain ⟨SM, hA, hK, hE, hP, hD, hS, hl⟩ := hat
  have hx := SM.1
  have hb := SM.2.1
  have hown : sM.vm.findClass RX8 = some mM.cls := SM.2.2.2.1
  have hts := SM.2.2.2.2
  have hinX8 : ∀ w ∈ u_ws RX8 TX8 11, w ∈ wsX8_errorPosition := by decide +kernel
  have hlk57 : (Cond.fieldLink RX8 57 "DyckReachability" "text" "LDyckReachability$GraphText;").before _ sM = true := hts _ (by decide +kernel)
  have hl : lv_has ls 1 [(0, .ref o)] := hl
  refine lv_aload_n hx hb dX8_errorPosition_0 rfl (lv_at hl 0 rfl) ?_
  refine va_get (D := G.1) (ci := 5) (v := .ref tx) (C := RX8) (T := TX8) (N := 11) hx hb hts hinX8 hown hK hP 0 rfl rfl 9 (by decide) hlk57 (fun _ h9 => h9) rfl dX8_errorPosition_1 ?_
  refine zVi (W1 := [(o, .inr (5, [.int (nI V), .long sd, .ref e, .ref cp, .ref bw, .ref ds, .ref hs, .ref sl, .ref sf, .ref tx, .ref ob])), (tx, .inr (2, [.ref sg, .int (nI n)])), zA G sg 60 g]) (W2 := [(o, .inr (5, [.int (nI V), .long sd, .ref e, .ref cp, .ref bw, .ref ds, .ref hs, .ref sl, .ref sf, .ref tx, .ref ob])), (tx, .inr (2, [.ref sg, .int (nI n)])), zA G sg 60 g]) (wr := [(o, .inr (5, [.int (nI V), .long sd, .ref e, .ref cp, .ref bw, .ref ds, .ref hs, .ref sl, .ref sf, .ref tx, .ref ob]))]) (rest := []) SM (c_X3_firstFault l G tx sg g n (by first | assumption | omega) (by first | assumption | omega)) (cwV 0 hts gX8_errorPosition_X3_firstFault rfl rfl rfl (by decide +kernel) ⟨Nat.le_of_ble_eq_true rfl, Nat.le_of_ble_eq_true rfl⟩) hK hE hA hP hD hS hl.1 [1, 2] [0] [0, 1, 2] rfl rfl rfl (by decide) (ci := 2) rfl rfl rfl rfl rfl (Nat.le_of_ble_eq_true rfl) ⟨Nat.zero_le _, Nat.zero_le _⟩ dX8_errorPosition_4 (fun H locs hP hD hS => ?_)
  exact kret _ _ _ _ _ _ rfl rfl hP hD hS dX8_errorPosition_7
set_option maxHeartbeats 4000000 in
set_option maxRecDepth 100000 in
theorem c_X8_load_bad (l : Launch) (G : zG) (o e cp bw ds hs sl sf tx ob V : Nat) (sd : Int64) (sg : Nat) (g : Nat → Nat) (n : Nat) (hg : ∀ i, g i < 256) (hn : n ≤ 60) (hbad : ¬ (zFF g n).toInt = -9) : MI l yX8_load wsX8_load ({ frames := 3, cells := 0, slots := 0, locals := 64 }) G [.ref o] [(o, .inr (5, [.int (nI V), .long sd, .ref e, .ref cp, .ref bw, .ref ds, .ref hs, .ref sl, .ref sf, .ref tx, .ref ob])), (tx, .inr (2, [.ref sg, .int (nI n)])), zA G sg 60 g] (-3) [(o, .inr (5, [.int (nI V), .long sd, .ref e, .ref cp, .ref bw, .ref ds, .ref hs, .ref sl, .ref sf, .ref tx, .ref ob])), (tx, .inr (2, [.ref sg, .int (nI n)])), zA G sg 60 g] := by
  refine MI.enter (cc := cX8_load) (maxL := 2) (by decide) rfl (Nat.le_of_ble_eq_true rfl) rfl ?_
  intro pM eM sM mM bM tM cM QM AM ls hat kret
  obtain ⟨SM, hA, hK, hE, hP, hD, hS, hl⟩ := hat
  have hx := SM.1
  have hb := SM.2.1
  have hown : sM.vm.findClass RX8 = some mM.cls := SM.2.2.2.1
  have hts := SM.2.2.2.2
  have hinX8 : ∀ w ∈ u_ws RX8 TX8 11, w ∈ wsX8_load := by decide +kernel
  have hlk57 : (Cond.fieldLink RX8 57 "DyckReachability" "text" "LDyckReachability$GraphText;").before _ sM = true := hts _ (by decide +kernel)
  have hl : lv_has ls 2 [(0, .ref o)] := hl
  refine lv_aload_n hx hb dX8_load_0 rfl (lv_at hl 0 rfl) ?_
  refine va_get (D := G.1) (ci := 5) (v := .ref tx) (C := RX8) (T := TX8) (N := 11) hx hb hts hinX8 hown hK hP 0 rfl rfl 9 (by decide) hlk57 (fun _ h9 => h9) rfl dX8_load_1 ?_
  refine zVi (W1 := [(o, .inr (5, [.int (nI V), .long sd, .ref e, .ref cp, .ref bw, .ref ds, .ref hs, .ref sl, .ref sf, .ref tx, .ref ob])), (tx, .inr (2, [.ref sg, .int (nI n)])), zA G sg 60 g]) (W2 := [(o, .inr (5, [.int (nI V), .long sd, .ref e, .ref cp, .ref bw, .ref ds, .ref hs, .ref sl, .ref sf, .ref tx, .ref ob])), (tx, .inr (2, [.ref sg, .int (nI n)])), zA G sg 60 g]) (wr := [(o, .inr (5, [.int (nI V), .long sd, .ref e, .ref cp, .ref bw, .ref ds, .ref hs, .ref sl, .ref sf, .ref tx, .ref ob]))]) (rest := []) SM (c_X3_firstFault l G tx sg g n (by first | assumption | omega) (by first | assumption | omega)) (cwV 0 hts gX8_load_X3_firstFault rfl rfl rfl (by decide +kernel) ⟨Nat.le_of_ble_eq_true rfl, Nat.le_of_ble_eq_true rfl⟩) hK hE hA hP hD hS hl.1 [1, 2] [0] [0, 1, 2] rfl rfl rfl (by decide) (ci := 2) rfl rfl rfl rfl rfl (Nat.le_of_ble_eq_true rfl) ⟨Nat.zero_le _, Nat.zero_le _⟩ dX8_load_4 (fun H locs hP hD hS => ?_)
  refine lv_bipush (v := (-9)) hx hb dX8_load_7 (by decide) ?_
  refine zc_eq (a := (zFF g n).toInt) (b := (-9 : Int)) (tgt := 15) hx hb dX8_load_9 (by decide) rfl (by decide) (fun c_1 => ?_) (fun c_1 => ?_)
  · skip
    exfalso; omega
  · skip
    refine lv_bipush (v := (-3)) hx hb dX8_load_12 (by decide) ?_
    exact kret _ _ _ _ _ _ rfl rfl hP hD hS dX8_load_14
set_option maxHeartbeats 4000000 in
set_option maxRecDepth 100000 in
theorem c_X8_load_ok (l : Launch) (G : zG) (o e cp bw ds hs sl sf tx ob V : Nat) (sd : Int64) (sg : Nat) (g : Nat → Nat) (n : Nat) (a1 a2 a3 : Nat) (s t lb : Nat → Nat) (k : Nat) (st nx sz : Nat) (sfl : Nat → Nat) (m : Nat) (hg : ∀ i, g i < 256) (hn : n = 2 + 3 * m) (hm : m ≤ 16) (hg1 : 49 ≤ g 1) (hok : (zFF g n).toInt = -9) (hfit : ∀ i, i < n → zFit g i = true) : MI l yX8_load wsX8_load ({ frames := 3, cells := 0, slots := 0, locals := 65 }) G [.ref o] [(o, .inr (5, [.int (nI V), .long sd, .ref e, .ref cp, .ref bw, .ref ds, .ref hs, .ref sl, .ref sf, .ref tx, .ref ob])), (tx, .inr (2, [.ref sg, .int (nI n)])), zA G sg 60 g, (e, .inr (1, [.ref a1, .ref a2, .ref a3, .int (nI k)])), zA G a1 16 s, zA G a2 16 t, zA G a3 16 lb, (hs, .inr (3, [.ref st, .int (nI nx), .int (nI sz)])), zB G sf 2 sfl] (nI m) [(o, .inr (5, [.int (nI (g 1 - 48)), .long sd, .ref e, .ref cp, .ref bw, .ref ds, .ref hs, .ref sl, .ref sf, .ref tx, .ref ob])), (tx, .inr (2, [.ref sg, .int (nI n)])), zA G sg 60 g, (e, .inr (1, [.ref a1, .ref a2, .ref a3, .int (nI m)])), zA G a1 16 (zTk s (zWs g) m), zA G a2 16 (zTk t (zWt g) m), zA G a3 16 (zTk lb (zWl g) m), (hs, .inr (3, [.ref st, .int (nI nx), .int (nI 0)])), zB G sf 2 (zU (zU sfl 0 0) 1 0)] := by
  refine MI.enter (cc := cX8_load) (maxL := 2) (by decide) rfl (Nat.le_of_ble_eq_true rfl) rfl ?_
  intro pM eM sM mM bM tM cM QM AM ls hat kret
  obtain ⟨SM, hA, hK, hE, hP, hD, hS, hl⟩ := hat
  have hx := SM.1
  have hb := SM.2.1
  have hown : sM.vm.findClass RX8 = some mM.cls := SM.2.2.2.1
  have hts := SM.2.2.2.2
  have hinX8 : ∀ w ∈ u_ws RX8 TX8 11, w ∈ wsX8_load := by decide +kernel
  have hlk57 : (Cond.fieldLink RX8 57 "DyckReachability" "text" "LDyckReachability$GraphText;").before _ sM = true := hts _ (by decide +kernel)
  have hlk9 : (Cond.fieldLink RX8 9 "DyckReachability" "vertices" "I").before _ sM = true := hts _ (by decide +kernel)
  have hlk22 : (Cond.fieldLink RX8 22 "DyckReachability" "edges" "LDyckReachability$Edges;").before _ sM = true := hts _ (by decide +kernel)
  have hlk42 : (Cond.fieldLink RX8 42 "DyckReachability" "history" "LDyckReachability$History;").before _ sM = true := hts _ (by decide +kernel)
  have hlk50 : (Cond.fieldLink RX8 50 "DyckReachability" "slotFilled" "[Z").before _ sM = true := hts _ (by decide +kernel)
  have hinX2 : ∀ w ∈ u_ws RX2 TX2 4, w ∈ wsX8_load := by decide +kernel
  have hlk92 : (Cond.fieldLink RX8 92 "DyckReachability$Edges" "size" "I").before _ sM = true := hts _ (by decide +kernel)
  have hl : lv_has ls 2 [(0, .ref o)] := hl
  refine lv_aload_n hx hb dX8_load_0 rfl (lv_at hl 0 rfl) ?_
  refine va_get (D := G.1) (ci := 5) (v := .ref tx) (C := RX8) (T := TX8) (N := 11) hx hb hts hinX8 hown hK hP 0 rfl rfl 9 (by decide) hlk57 (fun _ h9 => h9) rfl dX8_load_1 ?_
  refine zVi (W1 := [(o, .inr (5, [.int (nI V), .long sd, .ref e, .ref cp, .ref bw, .ref ds, .ref hs, .ref sl, .ref sf, .ref tx, .ref ob])), (tx, .inr (2, [.ref sg, .int (nI n)])), zA G sg 60 g, (e, .inr (1, [.ref a1, .ref a2, .ref a3, .int (nI k)])), zA G a1 16 s, zA G a2 16 t, zA G a3 16 lb, (hs, .inr (3, [.ref st, .int (nI nx), .int (nI sz)])), zB G sf 2 sfl]) (W2 := [(o, .inr (5, [.int (nI V), .long sd, .ref e, .ref cp, .ref bw, .ref ds, .ref hs, .ref sl, .ref sf, .ref tx, .ref ob])), (tx, .inr (2, [.ref sg, .int (nI n)])), zA G sg 60 g, (e, .inr (1, [.ref a1, .ref a2, .ref a3, .int (nI k)])), zA G a1 16 s, zA G a2 16 t, zA G a3 16 lb, (hs, .inr (3, [.ref st, .int (nI nx), .int (nI sz)])), zB G sf 2 sfl]) (wr := [(o, .inr (5, [.int (nI V), .long sd, .ref e, .ref cp, .ref bw, .ref ds, .ref hs, .ref sl, .ref sf, .ref tx, .ref ob])), (e, .inr (1, [.ref a1, .ref a2, .ref a3, .int (nI k)])), zA G a1 16 s, zA G a2 16 t, zA G a3 16 lb, (hs, .inr (3, [.ref st, .int (nI nx), .int (nI sz)])), zB G sf 2 sfl]) (rest := []) SM (c_X3_firstFault l G tx sg g n (by first | assumption | omega) (by first | assumption | omega)) (cwV 0 hts gX8_load_X3_firstFault rfl rfl rfl (by decide +kernel) ⟨Nat.le_of_ble_eq_true rfl, Nat.le_of_ble_eq_true rfl⟩) hK hE hA hP hD hS hl.1 [1, 2] [0, 3, 4, 5, 6, 7, 8] [0, 7, 8, 1, 2, 3, 4, 5, 6] rfl rfl rfl (by decide) (ci := 2) rfl rfl rfl rfl rfl (Nat.le_of_ble_eq_true rfl) ⟨Nat.zero_le _, Nat.zero_le _⟩ dX8_load_4 (fun H locs hP hD hS => ?_)
  refine lv_bipush (v := (-9)) hx hb dX8_load_7 (by decide) ?_
  refine zc_eq (a := (zFF g n).toInt) (b := (-9 : Int)) (tgt := 15) hx hb dX8_load_9 (by decide) rfl (by decide) (fun c_1 => ?_) (fun c_1 => ?_)
  · skip
    refine lv_aload_n hx hb dX8_load_15 rfl (lv_at hl 0 rfl) ?_
    refine lv_aload_n hx hb dX8_load_16 rfl (lv_at hl 0 rfl) ?_
    refine va_get (D := G.1) (ci := 5) (v := .ref tx) (C := RX8) (T := TX8) (N := 11) hx hb hts hinX8 hown hK hP 0 rfl rfl 9 (by decide) hlk57 (fun _ h9 => h9) rfl dX8_load_17 ?_
    refine zVi (W1 := [(o, .inr (5, [.int (nI V), .long sd, .ref e, .ref cp, .ref bw, .ref ds, .ref hs, .ref sl, .ref sf, .ref tx, .ref ob])), (tx, .inr (2, [.ref sg, .int (nI n)])), zA G sg 60 g, (e, .inr (1, [.ref a1, .ref a2, .ref a3, .int (nI k)])), zA G a1 16 s, zA G a2 16 t, zA G a3 16 lb, (hs, .inr (3, [.ref st, .int (nI nx), .int (nI sz)])), zB G sf 2 sfl]) (W2 := [(o, .inr (5, [.int (nI V), .long sd, .ref e, .ref cp, .ref bw, .ref ds, .ref hs, .ref sl, .ref sf, .ref tx, .ref ob])), (tx, .inr (2, [.ref sg, .int (nI n)])), zA G sg 60 g, (e, .inr (1, [.ref a1, .ref a2, .ref a3, .int (nI k)])), zA G a1 16 s, zA G a2 16 t, zA G a3 16 lb, (hs, .inr (3, [.ref st, .int (nI nx), .int (nI sz)])), zB G sf 2 sfl]) (wr := [(o, .inr (5, [.int (nI V), .long sd, .ref e, .ref cp, .ref bw, .ref ds, .ref hs, .ref sl, .ref sf, .ref tx, .ref ob])), (e, .inr (1, [.ref a1, .ref a2, .ref a3, .int (nI k)])), zA G a1 16 s, zA G a2 16 t, zA G a3 16 lb, (hs, .inr (3, [.ref st, .int (nI nx), .int (nI sz)])), zB G sf 2 sfl]) (rest := [.ref o]) SM (c_X3_writtenVertices l G tx sg g n (by first | assumption | omega)) (cwV 0 hts gX8_load_X3_writtenVertices rfl rfl rfl (by decide +kernel) ⟨Nat.le_of_ble_eq_true rfl, Nat.le_of_ble_eq_true rfl⟩) hK hE hA hP hD hS hl.1 [1, 2] [0, 3, 4, 5, 6, 7, 8] [0, 7, 8, 1, 2, 3, 4, 5, 6] rfl rfl rfl (by decide) (ci := 2) rfl rfl rfl rfl rfl (Nat.le_of_ble_eq_true rfl) ⟨Nat.zero_le _, Nat.zero_le _⟩ dX8_load_20 (fun H locs hP hD hS => ?_)
    refine va_put (D := G.1) (ci := 5) (v := .int (nI (g 1 - 48))) (ty := .int) (C := RX8) (T := TX8) (N := 11) hx hb hts hinX8 tyX8 tyX8_ok nmX8 hown hK hP hD hS 0 rfl rfl 0 (by decide) hlk9 (fun _ h9 => h9) rfl (by decide +kernel) rfl rfl (Nat.le_of_ble_eq_true rfl) dX8_load_23 (fun H locs hP hD hS => ?_)
    have hP : va_P G.1 vwCl [(o, .inr (5, [.int (nI (g 1 - 48)), .long sd, .ref e, .ref cp, .ref bw, .ref ds, .ref hs, .ref sl, .ref sf, .ref tx, .ref ob])), (tx, .inr (2, [.ref sg, .int (nI n)])), zA G sg 60 g, (e, .inr (1, [.ref a1, .ref a2, .ref a3, .int (nI k)])), zA G a1 16 s, zA G a2 16 t, zA G a3 16 lb, (hs, .inr (3, [.ref st, .int (nI nx), .int (nI sz)])), zB G sf 2 sfl] H := hP
    have hD : va_D AM [(o, .inr (5, [.int (nI (g 1 - 48)), .long sd, .ref e, .ref cp, .ref bw, .ref ds, .ref hs, .ref sl, .ref sf, .ref tx, .ref ob])), (tx, .inr (2, [.ref sg, .int (nI n)])), zA G sg 60 g, (e, .inr (1, [.ref a1, .ref a2, .ref a3, .int (nI k)])), zA G a1 16 s, zA G a2 16 t, zA G a3 16 lb, (hs, .inr (3, [.ref st, .int (nI nx), .int (nI sz)])), zB G sf 2 sfl] := hD
    refine lv_aload_n hx hb dX8_load_26 rfl (lv_at hl 0 rfl) ?_
    refine va_get (D := G.1) (ci := 5) (v := .ref tx) (C := RX8) (T := TX8) (N := 11) hx hb hts hinX8 hown hK hP 0 rfl rfl 9 (by decide) hlk57 (fun _ h9 => h9) rfl dX8_load_27 ?_
    refine lv_aload_n hx hb dX8_load_30 rfl (lv_at hl 0 rfl) ?_
    refine va_get (D := G.1) (ci := 5) (v := .ref e) (C := RX8) (T := TX8) (N := 11) hx hb hts hinX8 hown hK hP 0 rfl rfl 2 (by decide) hlk22 (fun _ h9 => h9) rfl dX8_load_31 ?_
    refine zVv (W1 := [(o, .inr (5, [.int (nI (g 1 - 48)), .long sd, .ref e, .ref cp, .ref bw, .ref ds, .ref hs, .ref sl, .ref sf, .ref tx, .ref ob])), (tx, .inr (2, [.ref sg, .int (nI n)])), zA G sg 60 g, (e, .inr (1, [.ref a1, .ref a2, .ref a3, .int (nI k)])), zA G a1 16 s, zA G a2 16 t, zA G a3 16 lb, (hs, .inr (3, [.ref st, .int (nI nx), .int (nI sz)])), zB G sf 2 sfl]) (W2 := [(o, .inr (5, [.int (nI (g 1 - 48)), .long sd, .ref e, .ref cp, .ref bw, .ref ds, .ref hs, .ref sl, .ref sf, .ref tx, .ref ob])), (tx, .inr (2, [.ref sg, .int (nI n)])), zA G sg 60 g, (e, .inr (1, [.ref a1, .ref a2, .ref a3, .int (nI m)])), zA G a1 16 (zTk s (zWs g) m), zA G a2 16 (zTk t (zWt g) m), zA G a3 16 (zTk lb (zWl g) m), (hs, .inr (3, [.ref st, .int (nI nx), .int (nI sz)])), zB G sf 2 sfl]) (wr := [(o, .inr (5, [.int (nI (g 1 - 48)), .long sd, .ref e, .ref cp, .ref bw, .ref ds, .ref hs, .ref sl, .ref sf, .ref tx, .ref ob])), (hs, .inr (3, [.ref st, .int (nI nx), .int (nI sz)])), zB G sf 2 sfl]) (rest := []) SM (c_X3_writeEdgesTo l G tx sg g n e a1 a2 a3 16 s t lb k m (by first | assumption | omega) (by first | assumption | omega) (by first | assumption | omega) (by first | assumption | omega) (by first | assumption | omega) (by first | assumption | omega)) (cwV 1 hts gX8_load_X3_writeEdgesTo rfl rfl rfl (by decide +kernel) ⟨Nat.le_of_ble_eq_true rfl, Nat.le_of_ble_eq_true rfl⟩) hK hE hA hP hD hS hl.1 [1, 2, 3, 4, 5, 6] [0, 7, 8] [0, 3, 4, 5, 6, 7, 8, 1, 2] rfl rfl rfl (by decide) (ci := 2) rfl rfl rfl rfl rfl (Nat.le_of_ble_eq_true rfl) ⟨Nat.zero_le _, Nat.zero_le _⟩ dX8_load_34 (fun H locs hP hD hS => ?_)
    refine lv_aload_n hx hb dX8_load_37 rfl (lv_at hl 0 rfl) ?_
    refine va_get (D := G.1) (ci := 5) (v := .ref hs) (C := RX8) (T := TX8) (N := 11) hx hb hts hinX8 hown hK hP 0 rfl rfl 6 (by decide) hlk42 (fun _ h9 => h9) rfl dX8_load_38 ?_
    refine zVv (W1 := [(o, .inr (5, [.int (nI (g 1 - 48)), .long sd, .ref e, .ref cp, .ref bw, .ref ds, .ref hs, .ref sl, .ref sf, .ref tx, .ref ob])), (tx, .inr (2, [.ref sg, .int (nI n)])), zA G sg 60 g, (e, .inr (1, [.ref a1, .ref a2, .ref a3, .int (nI m)])), zA G a1 16 (zTk s (zWs g) m), zA G a2 16 (zTk t (zWt g) m), zA G a3 16 (zTk lb (zWl g) m), (hs, .inr (3, [.ref st, .int (nI nx), .int (nI sz)])), zB G sf 2 sfl]) (W2 := [(o, .inr (5, [.int (nI (g 1 - 48)), .long sd, .ref e, .ref cp, .ref bw, .ref ds, .ref hs, .ref sl, .ref sf, .ref tx, .ref ob])), (tx, .inr (2, [.ref sg, .int (nI n)])), zA G sg 60 g, (e, .inr (1, [.ref a1, .ref a2, .ref a3, .int (nI m)])), zA G a1 16 (zTk s (zWs g) m), zA G a2 16 (zTk t (zWt g) m), zA G a3 16 (zTk lb (zWl g) m), (hs, .inr (3, [.ref st, .int (nI nx), .int (nI 0)])), zB G sf 2 sfl]) (wr := [(o, .inr (5, [.int (nI (g 1 - 48)), .long sd, .ref e, .ref cp, .ref bw, .ref ds, .ref hs, .ref sl, .ref sf, .ref tx, .ref ob])), (tx, .inr (2, [.ref sg, .int (nI n)])), zA G sg 60 g, (e, .inr (1, [.ref a1, .ref a2, .ref a3, .int (nI m)])), zA G a1 16 (zTk s (zWs g) m), zA G a2 16 (zTk t (zWt g) m), zA G a3 16 (zTk lb (zWl g) m), zB G sf 2 sfl]) (rest := []) SM (c_X4_forgetAll l G hs st nx sz ) (cwV 0 hts gX8_load_X4_forgetAll rfl rfl rfl (by decide +kernel) ⟨Nat.le_of_ble_eq_true rfl, Nat.le_of_ble_eq_true rfl⟩) hK hE hA hP hD hS hl.1 [7] [0, 1, 2, 3, 4, 5, 6, 8] [0, 1, 2, 3, 4, 5, 6, 8, 7] rfl rfl rfl (by decide) (ci := 3) rfl rfl rfl rfl rfl (Nat.le_of_ble_eq_true rfl) ⟨Nat.zero_le _, Nat.zero_le _⟩ dX8_load_41 (fun H locs hP hD hS => ?_)
    refine lv_iconst (v := nI 0) hx hb dX8_load_44 (by decide) ?_
    refine lv_istore_n (lv' := [(1, .int (nI 0)), (0, .ref o)]) hx hb dX8_load_45 rfl hl (by decide) rfl (fun ls hl => ?_)
    refine lv_iload_n hx hb dX8_load_46 rfl (lv_at hl 0 rfl) ?_
    refine lv_iconst (v := nI 2) hx hb dX8_load_47 (by decide) ?_
    refine zkk_ge_f hx hb dX8_load_48 (by decide) ?_
    refine lv_aload_n hx hb dX8_load_51 rfl (lv_at hl 1 rfl) ?_
    refine va_get (D := G.1) (ci := 5) (v := .ref sf) (C := RX8) (T := TX8) (N := 11) hx hb hts hinX8 hown hK hP 0 rfl rfl 8 (by decide) hlk50 (fun _ h9 => h9) rfl dX8_load_52 ?_
    refine lv_iload_n hx hb dX8_load_55 rfl (lv_at hl 0 rfl) ?_
    refine lv_iconst (v := nI 0) hx hb dX8_load_56 (by decide) ?_
    refine zz_ast hx hb hK hP hD hS 8 rfl (by omega) (by omega) (by omega) dX8_load_57 (fun H locs hP hD hS => ?_)
    have hP : va_P G.1 vwCl [(o, .inr (5, [.int (nI (g 1 - 48)), .long sd, .ref e, .ref cp, .ref bw, .ref ds, .ref hs, .ref sl, .ref sf, .ref tx, .ref ob])), (tx, .inr (2, [.ref sg, .int (nI n)])), zA G sg 60 g, (e, .inr (1, [.ref a1, .ref a2, .ref a3, .int (nI m)])), zA G a1 16 (zTk s (zWs g) m), zA G a2 16 (zTk t (zWt g) m), zA G a3 16 (zTk lb (zWl g) m), (hs, .inr (3, [.ref st, .int (nI nx), .int (nI 0)])), zB G sf 2 (zU sfl 0 0)] H := hP
    have hD : va_D AM [(o, .inr (5, [.int (nI (g 1 - 48)), .long sd, .ref e, .ref cp, .ref bw, .ref ds, .ref hs, .ref sl, .ref sf, .ref tx, .ref ob])), (tx, .inr (2, [.ref sg, .int (nI n)])), zA G sg 60 g, (e, .inr (1, [.ref a1, .ref a2, .ref a3, .int (nI m)])), zA G a1 16 (zTk s (zWs g) m), zA G a2 16 (zTk t (zWt g) m), zA G a3 16 (zTk lb (zWl g) m), (hs, .inr (3, [.ref st, .int (nI nx), .int (nI 0)])), zB G sf 2 (zU sfl 0 0)] := hD
    refine lv_iinc (v := nI 1) (lv' := [(1, .int (nI 1)), (0, .ref o)]) hx hb dX8_load_58 hl (k := 0) rfl (zinc 0 1) (by decide) rfl (fun ls hl => ?_)
    refine lv_goto (tgt := 46) hx hb dX8_load_61 (by decide) ?_
    refine lv_iload_n hx hb dX8_load_46 rfl (lv_at hl 0 rfl) ?_
    refine lv_iconst (v := nI 2) hx hb dX8_load_47 (by decide) ?_
    refine zkk_ge_f hx hb dX8_load_48 (by decide) ?_
    refine lv_aload_n hx hb dX8_load_51 rfl (lv_at hl 1 rfl) ?_
    refine va_get (D := G.1) (ci := 5) (v := .ref sf) (C := RX8) (T := TX8) (N := 11) hx hb hts hinX8 hown hK hP 0 rfl rfl 8 (by decide) hlk50 (fun _ h9 => h9) rfl dX8_load_52 ?_
    refine lv_iload_n hx hb dX8_load_55 rfl (lv_at hl 0 rfl) ?_
    refine lv_iconst (v := nI 0) hx hb dX8_load_56 (by decide) ?_
    refine zz_ast hx hb hK hP hD hS 8 rfl (by omega) (by omega) (by omega) dX8_load_57 (fun H locs hP hD hS => ?_)
    have hP : va_P G.1 vwCl [(o, .inr (5, [.int (nI (g 1 - 48)), .long sd, .ref e, .ref cp, .ref bw, .ref ds, .ref hs, .ref sl, .ref sf, .ref tx, .ref ob])), (tx, .inr (2, [.ref sg, .int (nI n)])), zA G sg 60 g, (e, .inr (1, [.ref a1, .ref a2, .ref a3, .int (nI m)])), zA G a1 16 (zTk s (zWs g) m), zA G a2 16 (zTk t (zWt g) m), zA G a3 16 (zTk lb (zWl g) m), (hs, .inr (3, [.ref st, .int (nI nx), .int (nI 0)])), zB G sf 2 (zU (zU sfl 0 0) 1 0)] H := hP
    have hD : va_D AM [(o, .inr (5, [.int (nI (g 1 - 48)), .long sd, .ref e, .ref cp, .ref bw, .ref ds, .ref hs, .ref sl, .ref sf, .ref tx, .ref ob])), (tx, .inr (2, [.ref sg, .int (nI n)])), zA G sg 60 g, (e, .inr (1, [.ref a1, .ref a2, .ref a3, .int (nI m)])), zA G a1 16 (zTk s (zWs g) m), zA G a2 16 (zTk t (zWt g) m), zA G a3 16 (zTk lb (zWl g) m), (hs, .inr (3, [.ref st, .int (nI nx), .int (nI 0)])), zB G sf 2 (zU (zU sfl 0 0) 1 0)] := hD
    refine lv_iinc (v := nI 2) (lv' := [(1, .int (nI 2)), (0, .ref o)]) hx hb dX8_load_58 hl (k := 0) rfl (zinc 1 1) (by decide) rfl (fun ls hl => ?_)
    refine lv_goto (tgt := 46) hx hb dX8_load_61 (by decide) ?_
    refine lv_iload_n hx hb dX8_load_46 rfl (lv_at hl 0 rfl) ?_
    refine lv_iconst (v := nI 2) hx hb dX8_load_47 (by decide) ?_
    refine zkk_ge_t (tgt := 64) hx hb dX8_load_48 (by decide) (by decide) ?_
    refine lv_aload_n hx hb dX8_load_64 rfl (lv_at hl 1 rfl) ?_
    refine va_get (D := G.1) (ci := 5) (v := .ref e) (C := RX8) (T := TX8) (N := 11) hx hb hts hinX8 hown hK hP 0 rfl rfl 2 (by decide) hlk22 (fun _ h9 => h9) rfl dX8_load_65 ?_
    refine va_get (D := G.1) (ci := 1) (v := .int (nI m)) (C := RX2) (T := TX2) (N := 4) hx hb hts hinX2 hown hK hP 3 rfl rfl 3 (by decide) hlk92 (fun _ h9 => h9) rfl dX8_load_68 ?_
    exact kret _ _ _ _ _ _ rfl rfl hP hD hS dX8_load_71
  · skip
    exfalso; omega
set_option maxHeartbeats 4000000 in
set_option maxRecDepth 100000 in
theorem c_X8_vertexCount (l : Launch) (G : zG) (o e cp bw ds hs sl sf tx ob V : Nat) (sd : Int64)  : MI l yX8_vertexCount wsX8_vertexCount ({ frames := 0, cells := 0, slots := 0, locals := 0 }) G [.ref o] [(o, .inr (5, [.int (nI V), .long sd, .ref e, .ref cp, .ref bw, .ref ds, .ref hs, .ref sl, .ref sf, .ref tx, .ref ob]))] (nI V) [(o, .inr (5, [.int (nI V), .long sd, .ref e, .ref cp, .ref bw, .ref ds, .ref hs, .ref sl, .ref sf, .ref tx, .ref ob]))] := by
  refine MI.enter (cc := cX8_vertexCount) (maxL := 1) (by decide) rfl (Nat.le_of_ble_eq_true rfl) rfl ?_
  intro pM eM sM mM bM tM cM QM AM ls hat kret
  obtain ⟨SM, hA, hK, hE, hP, hD, hS, hl⟩ := hat
  have hx := SM.1
  have hb := SM.2.1
  have hown : sM.vm.findClass RX8 = some mM.cls := SM.2.2.2.1
  have hts := SM.2.2.2.2
  have hinX8 : ∀ w ∈ u_ws RX8 TX8 11, w ∈ wsX8_vertexCount := by decide +kernel
  have hlk9 : (Cond.fieldLink RX8 9 "DyckReachability" "vertices" "I").before _ sM = true := hts _ (by decide +kernel)
  have hl : lv_has ls 1 [(0, .ref o)] := hl
  refine lv_aload_n hx hb dX8_vertexCount_0 rfl (lv_at hl 0 rfl) ?_
  refine va_get (D := G.1) (ci := 5) (v := .int (nI V)) (C := RX8) (T := TX8) (N := 11) hx hb hts hinX8 hown hK hP 0 rfl rfl 0 (by decide) hlk9 (fun _ h9 => h9) rfl dX8_vertexCount_1 ?_
  exact kret _ _ _ _ _ _ rfl rfl hP hD hS dX8_vertexCount_4
set_option maxHeartbeats 4000000 in
set_option maxRecDepth 100000 in
theorem c_X8_edgeCount (l : Launch) (G : zG) (o e cp bw ds hs sl sf tx ob V : Nat) (sd : Int64) (a1 a2 a3 k : Nat)  : MI l yX8_edgeCount wsX8_edgeCount ({ frames := 0, cells := 0, slots := 0, locals := 0 }) G [.ref o] [(o, .inr (5, [.int (nI V), .long sd, .ref e, .ref cp, .ref bw, .ref ds, .ref hs, .ref sl, .ref sf, .ref tx, .ref ob])), (e, .inr (1, [.ref a1, .ref a2, .ref a3, .int (nI k)]))] (nI k) [(o, .inr (5, [.int (nI V), .long sd, .ref e, .ref cp, .ref bw, .ref ds, .ref hs, .ref sl, .ref sf, .ref tx, .ref ob])), (e, .inr (1, [.ref a1, .ref a2, .ref a3, .int (nI k)]))] := by
  refine MI.enter (cc := cX8_edgeCount) (maxL := 1) (by decide) rfl (Nat.le_of_ble_eq_true rfl) rfl ?_
  intro pM eM sM mM bM tM cM QM AM ls hat kret
  obtain ⟨SM, hA, hK, hE, hP, hD, hS, hl⟩ := hat
  have hx := SM.1
  have hb := SM.2.1
  have hown : sM.vm.findClass RX8 = some mM.cls := SM.2.2.2.1
  have hts := SM.2.2.2.2
  have hinX8 : ∀ w ∈ u_ws RX8 TX8 11, w ∈ wsX8_edgeCount := by decide +kernel
  have hlk22 : (Cond.fieldLink RX8 22 "DyckReachability" "edges" "LDyckReachability$Edges;").before _ sM = true := hts _ (by decide +kernel)
  have hinX2 : ∀ w ∈ u_ws RX2 TX2 4, w ∈ wsX8_edgeCount := by decide +kernel
  have hlk92 : (Cond.fieldLink RX8 92 "DyckReachability$Edges" "size" "I").before _ sM = true := hts _ (by decide +kernel)
  have hl : lv_has ls 1 [(0, .ref o)] := hl
  refine lv_aload_n hx hb dX8_edgeCount_0 rfl (lv_at hl 0 rfl) ?_
  refine va_get (D := G.1) (ci := 5) (v := .ref e) (C := RX8) (T := TX8) (N := 11) hx hb hts hinX8 hown hK hP 0 rfl rfl 2 (by decide) hlk22 (fun _ h9 => h9) rfl dX8_edgeCount_1 ?_
  refine va_get (D := G.1) (ci := 1) (v := .int (nI k)) (C := RX2) (T := TX2) (N := 4) hx hb hts hinX2 hown hK hP 1 rfl rfl 3 (by decide) hlk92 (fun _ h9 => h9) rfl dX8_edgeCount_4 ?_
  exact kret _ _ _ _ _ _ rfl rfl hP hD hS dX8_edgeCount_7
set_option maxHeartbeats 4000000 in
set_option maxRecDepth 100000 in
theorem c_X8_source (l : Launch) (G : zG) (o e cp bw ds hs sl sf tx ob V : Nat) (sd : Int64) (a1 a2 a3 k : Nat) (s : Nat → Nat) (x : Int32) (hk : k ≤ 16) : MI l yX8_source wsX8_source ({ frames := 1, cells := 0, slots := 0, locals := 21 }) G [.ref o, .int x] [(o, .inr (5, [.int (nI V), .long sd, .ref e, .ref cp, .ref bw, .ref ds, .ref hs, .ref sl, .ref sf, .ref tx, .ref ob])), (e, .inr (1, [.ref a1, .ref a2, .ref a3, .int (nI k)])), zA G a1 16 s] (zGet s k x) [(o, .inr (5, [.int (nI V), .long sd, .ref e, .ref cp, .ref bw, .ref ds, .ref hs, .ref sl, .ref sf, .ref tx, .ref ob])), (e, .inr (1, [.ref a1, .ref a2, .ref a3, .int (nI k)])), zA G a1 16 s] := by
  refine MI.enter (cc := cX8_source) (maxL := 2) (by decide) rfl (Nat.le_of_ble_eq_true rfl) rfl ?_
  intro pM eM sM mM bM tM cM QM AM ls hat kret
  obtain ⟨SM, hA, hK, hE, hP, hD, hS, hl⟩ := hat
  have hx := SM.1
  have hb := SM.2.1
  have hown : sM.vm.findClass RX8 = some mM.cls := SM.2.2.2.1
  have hts := SM.2.2.2.2
  have hinX8 : ∀ w ∈ u_ws RX8 TX8 11, w ∈ wsX8_source := by decide +kernel
  have hlk22 : (Cond.fieldLink RX8 22 "DyckReachability" "edges" "LDyckReachability$Edges;").before _ sM = true := hts _ (by decide +kernel)
  have hinX2 : ∀ w ∈ u_ws RX2 TX2 4, w ∈ wsX8_source := by decide +kernel
  have hlk99 : (Cond.fieldLink RX8 99 "DyckReachability$Edges" "sources" "[I").before _ sM = true := hts _ (by decide +kernel)
  have hl : lv_has ls 2 [(0, .ref o), (1, .int x)] := hl
  refine lv_aload_n hx hb dX8_source_0 rfl (lv_at hl 0 rfl) ?_
  refine va_get (D := G.1) (ci := 5) (v := .ref e) (C := RX8) (T := TX8) (N := 11) hx hb hts hinX8 hown hK hP 0 rfl rfl 2 (by decide) hlk22 (fun _ h9 => h9) rfl dX8_source_1 ?_
  refine lv_iload_n hx hb dX8_source_4 rfl (lv_at hl 1 rfl) ?_
  refine zVi (W1 := [(o, .inr (5, [.int (nI V), .long sd, .ref e, .ref cp, .ref bw, .ref ds, .ref hs, .ref sl, .ref sf, .ref tx, .ref ob])), (e, .inr (1, [.ref a1, .ref a2, .ref a3, .int (nI k)])), zA G a1 16 s]) (W2 := [(o, .inr (5, [.int (nI V), .long sd, .ref e, .ref cp, .ref bw, .ref ds, .ref hs, .ref sl, .ref sf, .ref tx, .ref ob])), (e, .inr (1, [.ref a1, .ref a2, .ref a3, .int (nI k)])), zA G a1 16 s]) (wr := [(o, .inr (5, [.int (nI V), .long sd, .ref e, .ref cp, .ref bw, .ref ds, .ref hs, .ref sl, .ref sf, .ref tx, .ref ob])), zA G a1 16 s]) (rest := []) SM (c_X2_holds l G e a1 a2 a3 k x (by first | assumption | omega)) (cwV 1 hts gX8_source_X2_holds rfl rfl rfl (by decide +kernel) ⟨Nat.le_of_ble_eq_true rfl, Nat.le_of_ble_eq_true rfl⟩) hK hE hA hP hD hS hl.1 [1] [0, 2] [0, 2, 1] rfl rfl rfl (by decide) (ci := 1) rfl rfl rfl rfl rfl (Nat.le_of_ble_eq_true rfl) ⟨Nat.zero_le _, Nat.zero_le _⟩ dX8_source_5 (fun H locs hP hD hS => ?_)
  refine zb_eq (tgt := 23) hx hb dX8_source_8 (by decide) (fun c_1 => ?_) (fun c_1 => ?_)
  · skip
    refine lv_iconst (v := (-1)) hx hb dX8_source_23 (by decide) ?_
    exact kret _ _ _ _ _ _ (by unfold zGet; repeat (first | rw [if_pos (by first | assumption | omega)] | rw [if_neg (by first | assumption | omega)])) rfl hP hD hS dX8_source_24
  · skip
    have hl : lv_has ls 2 [(0, .ref o), (1, .int (nI x.toInt.toNat))] := by rw [← xN_eq (x := x) (by omega)]; exact hl
    refine lv_aload_n hx hb dX8_source_11 rfl (lv_at hl 0 rfl) ?_
    refine va_get (D := G.1) (ci := 5) (v := .ref e) (C := RX8) (T := TX8) (N := 11) hx hb hts hinX8 hown hK hP 0 rfl rfl 2 (by decide) hlk22 (fun _ h9 => h9) rfl dX8_source_12 ?_
    refine va_get (D := G.1) (ci := 1) (v := .ref a1) (C := RX2) (T := TX2) (N := 4) hx hb hts hinX2 hown hK hP 1 rfl rfl 0 (by decide) hlk99 (fun _ h9 => h9) rfl dX8_source_15 ?_
    refine lv_iload_n hx hb dX8_source_18 rfl (lv_at hl 1 rfl) ?_
    refine zi_ald hx hb hK hP 2 rfl (by omega) (by omega) dX8_source_19 ?_
    refine lv_goto (tgt := 24) hx hb dX8_source_20 (by decide) ?_
    exact kret _ _ _ _ _ _ (by unfold zGet; repeat (first | rw [if_pos (by first | assumption | omega)] | rw [if_neg (by first | assumption | omega)])) rfl hP hD hS dX8_source_24
set_option maxHeartbeats 4000000 in
set_option maxRecDepth 100000 in
theorem c_X8_target (l : Launch) (G : zG) (o e cp bw ds hs sl sf tx ob V : Nat) (sd : Int64) (a1 a2 a3 k : Nat) (t : Nat → Nat) (x : Int32) (hk : k ≤ 16) : MI l yX8_target wsX8_target ({ frames := 1, cells := 0, slots := 0, locals := 21 }) G [.ref o, .int x] [(o, .inr (5, [.int (nI V), .long sd, .ref e, .ref cp, .ref bw, .ref ds, .ref hs, .ref sl, .ref sf, .ref tx, .ref ob])), (e, .inr (1, [.ref a1, .ref a2, .ref a3, .int (nI k)])), zA G a2 16 t] (zGet t k x) [(o, .inr (5, [.int (nI V), .long sd, .ref e, .ref cp, .ref bw, .ref ds, .ref hs, .ref sl, .ref sf, .ref tx, .ref ob])), (e, .inr (1, [.ref a1, .ref a2, .ref a3, .int (nI k)])), zA G a2 16 t] := by
  refine MI.enter (cc := cX8_target) (maxL := 2) (by decide) rfl (Nat.le_of_ble_eq_true rfl) rfl ?_
  intro pM eM sM mM bM tM cM QM AM ls hat kret
  obtain ⟨SM, hA, hK, hE, hP, hD, hS, hl⟩ := hat
  have hx := SM.1
  have hb := SM.2.1
  have hown : sM.vm.findClass RX8 = some mM.cls := SM.2.2.2.1
  have hts := SM.2.2.2.2
  have hinX8 : ∀ w ∈ u_ws RX8 TX8 11, w ∈ wsX8_target := by decide +kernel
  have hlk22 : (Cond.fieldLink RX8 22 "DyckReachability" "edges" "LDyckReachability$Edges;").before _ sM = true := hts _ (by decide +kernel)
  have hinX2 : ∀ w ∈ u_ws RX2 TX2 4, w ∈ wsX8_target := by decide +kernel
  have hlk103 : (Cond.fieldLink RX8 103 "DyckReachability$Edges" "targets" "[I").before _ sM = true := hts _ (by decide +kernel)
  have hl : lv_has ls 2 [(0, .ref o), (1, .int x)] := hl
  refine lv_aload_n hx hb dX8_target_0 rfl (lv_at hl 0 rfl) ?_
  refine va_get (D := G.1) (ci := 5) (v := .ref e) (C := RX8) (T := TX8) (N := 11) hx hb hts hinX8 hown hK hP 0 rfl rfl 2 (by decide) hlk22 (fun _ h9 => h9) rfl dX8_target_1 ?_
  refine lv_iload_n hx hb dX8_target_4 rfl (lv_at hl 1 rfl) ?_
  refine zVi (W1 := [(o, .inr (5, [.int (nI V), .long sd, .ref e, .ref cp, .ref bw, .ref ds, .ref hs, .ref sl, .ref sf, .ref tx, .ref ob])), (e, .inr (1, [.ref a1, .ref a2, .ref a3, .int (nI k)])), zA G a2 16 t]) (W2 := [(o, .inr (5, [.int (nI V), .long sd, .ref e, .ref cp, .ref bw, .ref ds, .ref hs, .ref sl, .ref sf, .ref tx, .ref ob])), (e, .inr (1, [.ref a1, .ref a2, .ref a3, .int (nI k)])), zA G a2 16 t]) (wr := [(o, .inr (5, [.int (nI V), .long sd, .ref e, .ref cp, .ref bw, .ref ds, .ref hs, .ref sl, .ref sf, .ref tx, .ref ob])), zA G a2 16 t]) (rest := []) SM (c_X2_holds l G e a1 a2 a3 k x (by first | assumption | omega)) (cwV 1 hts gX8_target_X2_holds rfl rfl rfl (by decide +kernel) ⟨Nat.le_of_ble_eq_true rfl, Nat.le_of_ble_eq_true rfl⟩) hK hE hA hP hD hS hl.1 [1] [0, 2] [0, 2, 1] rfl rfl rfl (by decide) (ci := 1) rfl rfl rfl rfl rfl (Nat.le_of_ble_eq_true rfl) ⟨Nat.zero_le _, Nat.zero_le _⟩ dX8_target_5 (fun H locs hP hD hS => ?_)
  refine zb_eq (tgt := 23) hx hb dX8_target_8 (by decide) (fun c_1 => ?_) (fun c_1 => ?_)
  · skip
    refine lv_iconst (v := (-1)) hx hb dX8_target_23 (by decide) ?_
    exact kret _ _ _ _ _ _ (by unfold zGet; repeat (first | rw [if_pos (by first | assumption | omega)] | rw [if_neg (by first | assumption | omega)])) rfl hP hD hS dX8_target_24
  · skip
    have hl : lv_has ls 2 [(0, .ref o), (1, .int (nI x.toInt.toNat))] := by rw [← xN_eq (x := x) (by omega)]; exact hl
    refine lv_aload_n hx hb dX8_target_11 rfl (lv_at hl 0 rfl) ?_
    refine va_get (D := G.1) (ci := 5) (v := .ref e) (C := RX8) (T := TX8) (N := 11) hx hb hts hinX8 hown hK hP 0 rfl rfl 2 (by decide) hlk22 (fun _ h9 => h9) rfl dX8_target_12 ?_
    refine va_get (D := G.1) (ci := 1) (v := .ref a2) (C := RX2) (T := TX2) (N := 4) hx hb hts hinX2 hown hK hP 1 rfl rfl 1 (by decide) hlk103 (fun _ h9 => h9) rfl dX8_target_15 ?_
    refine lv_iload_n hx hb dX8_target_18 rfl (lv_at hl 1 rfl) ?_
    refine zi_ald hx hb hK hP 2 rfl (by omega) (by omega) dX8_target_19 ?_
    refine lv_goto (tgt := 24) hx hb dX8_target_20 (by decide) ?_
    exact kret _ _ _ _ _ _ (by unfold zGet; repeat (first | rw [if_pos (by first | assumption | omega)] | rw [if_neg (by first | assumption | omega)])) rfl hP hD hS dX8_target_24
set_option maxHeartbeats 4000000 in
set_option maxRecDepth 100000 in
theorem c_X8_label (l : Launch) (G : zG) (o e cp bw ds hs sl sf tx ob V : Nat) (sd : Int64) (a1 a2 a3 k : Nat) (lb : Nat → Nat) (x : Int32) (hk : k ≤ 16) : MI l yX8_label wsX8_label ({ frames := 1, cells := 0, slots := 0, locals := 21 }) G [.ref o, .int x] [(o, .inr (5, [.int (nI V), .long sd, .ref e, .ref cp, .ref bw, .ref ds, .ref hs, .ref sl, .ref sf, .ref tx, .ref ob])), (e, .inr (1, [.ref a1, .ref a2, .ref a3, .int (nI k)])), zA G a3 16 lb] (zGet lb k x) [(o, .inr (5, [.int (nI V), .long sd, .ref e, .ref cp, .ref bw, .ref ds, .ref hs, .ref sl, .ref sf, .ref tx, .ref ob])), (e, .inr (1, [.ref a1, .ref a2, .ref a3, .int (nI k)])), zA G a3 16 lb] := by
  refine MI.enter (cc := cX8_label) (maxL := 2) (by decide) rfl (Nat.le_of_ble_eq_true rfl) rfl ?_
  intro pM eM sM mM bM tM cM QM AM ls hat kret
  obtain ⟨SM, hA, hK, hE, hP, hD, hS, hl⟩ := hat
  have hx := SM.1
  have hb := SM.2.1
  have hown : sM.vm.findClass RX8 = some mM.cls := SM.2.2.2.1
  have hts := SM.2.2.2.2
  have hinX8 : ∀ w ∈ u_ws RX8 TX8 11, w ∈ wsX8_label := by decide +kernel
  have hlk22 : (Cond.fieldLink RX8 22 "DyckReachability" "edges" "LDyckReachability$Edges;").before _ sM = true := hts _ (by decide +kernel)
  have hinX2 : ∀ w ∈ u_ws RX2 TX2 4, w ∈ wsX8_label := by decide +kernel
  have hlk106 : (Cond.fieldLink RX8 106 "DyckReachability$Edges" "labels" "[I").before _ sM = true := hts _ (by decide +kernel)
  have hl : lv_has ls 2 [(0, .ref o), (1, .int x)] := hl
  refine lv_aload_n hx hb dX8_label_0 rfl (lv_at hl 0 rfl) ?_
  refine va_get (D := G.1) (ci := 5) (v := .ref e) (C := RX8) (T := TX8) (N := 11) hx hb hts hinX8 hown hK hP 0 rfl rfl 2 (by decide) hlk22 (fun _ h9 => h9) rfl dX8_label_1 ?_
  refine lv_iload_n hx hb dX8_label_4 rfl (lv_at hl 1 rfl) ?_
  refine zVi (W1 := [(o, .inr (5, [.int (nI V), .long sd, .ref e, .ref cp, .ref bw, .ref ds, .ref hs, .ref sl, .ref sf, .ref tx, .ref ob])), (e, .inr (1, [.ref a1, .ref a2, .ref a3, .int (nI k)])), zA G a3 16 lb]) (W2 := [(o, .inr (5, [.int (nI V), .long sd, .ref e, .ref cp, .ref bw, .ref ds, .ref hs, .ref sl, .ref sf, .ref tx, .ref ob])), (e, .inr (1, [.ref a1, .ref a2, .ref a3, .int (nI k)])), zA G a3 16 lb]) (wr := [(o, .inr (5, [.int (nI V), .long sd, .ref e, .ref cp, .ref bw, .ref ds, .ref hs, .ref sl, .ref sf, .ref tx, .ref ob])), zA G a3 16 lb]) (rest := []) SM (c_X2_holds l G e a1 a2 a3 k x (by first | assumption | omega)) (cwV 1 hts gX8_label_X2_holds rfl rfl rfl (by decide +kernel) ⟨Nat.le_of_ble_eq_true rfl, Nat.le_of_ble_eq_true rfl⟩) hK hE hA hP hD hS hl.1 [1] [0, 2] [0, 2, 1] rfl rfl rfl (by decide) (ci := 1) rfl rfl rfl rfl rfl (Nat.le_of_ble_eq_true rfl) ⟨Nat.zero_le _, Nat.zero_le _⟩ dX8_label_5 (fun H locs hP hD hS => ?_)
  refine zb_eq (tgt := 23) hx hb dX8_label_8 (by decide) (fun c_1 => ?_) (fun c_1 => ?_)
  · skip
    refine lv_iconst (v := (-1)) hx hb dX8_label_23 (by decide) ?_
    exact kret _ _ _ _ _ _ (by unfold zGet; repeat (first | rw [if_pos (by first | assumption | omega)] | rw [if_neg (by first | assumption | omega)])) rfl hP hD hS dX8_label_24
  · skip
    have hl : lv_has ls 2 [(0, .ref o), (1, .int (nI x.toInt.toNat))] := by rw [← xN_eq (x := x) (by omega)]; exact hl
    refine lv_aload_n hx hb dX8_label_11 rfl (lv_at hl 0 rfl) ?_
    refine va_get (D := G.1) (ci := 5) (v := .ref e) (C := RX8) (T := TX8) (N := 11) hx hb hts hinX8 hown hK hP 0 rfl rfl 2 (by decide) hlk22 (fun _ h9 => h9) rfl dX8_label_12 ?_
    refine va_get (D := G.1) (ci := 1) (v := .ref a3) (C := RX2) (T := TX2) (N := 4) hx hb hts hinX2 hown hK hP 1 rfl rfl 2 (by decide) hlk106 (fun _ h9 => h9) rfl dX8_label_15 ?_
    refine lv_iload_n hx hb dX8_label_18 rfl (lv_at hl 1 rfl) ?_
    refine zi_ald hx hb hK hP 2 rfl (by omega) (by omega) dX8_label_19 ?_
    refine lv_goto (tgt := 24) hx hb dX8_label_20 (by decide) ?_
    exact kret _ _ _ _ _ _ (by unfold zGet; repeat (first | rw [if_pos (by first | assumption | omega)] | rw [if_neg (by first | assumption | omega)])) rfl hP hD hS dX8_label_24
set_option maxHeartbeats 4000000 in
set_option maxRecDepth 100000 in
theorem c_X8_addEdge_ok (l : Launch) (G : zG) (o e cp bw ds hs sl sf tx ob V : Nat) (sd : Int64) (a1 a2 a3 : Nat) (s t lb : Nat → Nat) (k : Nat) (st : Nat) (fr : Nat → Option Nat) (nx sz : Nat) (q0 q1 q2 q3 : Nat) (s0 t0 l0 : Nat → Nat) (k0 : Nat) (x y z : Int32) (hV : V ≤ 8) (hx : 0 ≤ x.toInt ∧ x.toInt < V) (hy : 0 ≤ y.toInt ∧ y.toInt < V) (hz : 0 ≤ z.toInt ∧ z.toInt < 7) (hk : k < 16) (hnx : nx < 14) (hsz : sz ≤ 14) (hq0 : fr nx = some q0) : MI l yX8_addEdge wsX8_addEdge ({ frames := 4, cells := 0, slots := 0, locals := 86 }) G [.ref o, .int x, .int y, .int z] [(o, .inr (5, [.int (nI V), .long sd, .ref e, .ref cp, .ref bw, .ref ds, .ref hs, .ref sl, .ref sf, .ref tx, .ref ob])), (e, .inr (1, [.ref a1, .ref a2, .ref a3, .int (nI k)])), zA G a1 16 s, zA G a2 16 t, zA G a3 16 lb, (hs, .inr (3, [.ref st, .int (nI nx), .int (nI sz)])), zR G st 14 fr, (q0, .inr (1, [.ref q1, .ref q2, .ref q3, .int (nI k0)])), zA G q1 16 s0, zA G q2 16 t0, zA G q3 16 l0] (nI k) [(o, .inr (5, [.int (nI V), .long sd, .ref e, .ref cp, .ref bw, .ref ds, .ref hs, .ref sl, .ref sf, .ref tx, .ref ob])), (e, .inr (1, [.ref a1, .ref a2, .ref a3, .int (nI (k + 1))])), zA G a1 16 (zU s k x.toInt.toNat), zA G a2 16 (zU t k y.toInt.toNat), zA G a3 16 (zU lb k z.toInt.toNat), (hs, .inr (3, [.ref st, .int (nI (zNx nx)), .int (nI (min (sz + 1) 14))])), zR G st 14 fr, (q0, .inr (1, [.ref q1, .ref q2, .ref q3, .int (nI k)])), zA G q1 16 (zTk s0 s k), zA G q2 16 (zTk t0 t k), zA G q3 16 (zTk l0 lb k)] := by
  refine MI.enter (cc := cX8_addEdge) (maxL := 4) (by decide) rfl (Nat.le_of_ble_eq_true rfl) rfl ?_
  intro pM eM sM mM bM tM cM QM AM ls hat kret
  obtain ⟨SM, hA, hK, hE, hP, hD, hS, hl⟩ := hat
  have hx := SM.1
  have hb := SM.2.1
  have hown : sM.vm.findClass RX8 = some mM.cls := SM.2.2.2.1
  have hts := SM.2.2.2.2
  have hinX8 : ∀ w ∈ u_ws RX8 TX8 11, w ∈ wsX8_addEdge := by decide +kernel
  have hlk22 : (Cond.fieldLink RX8 22 "DyckReachability" "edges" "LDyckReachability$Edges;").before _ sM = true := hts _ (by decide +kernel)
  have hlk42 : (Cond.fieldLink RX8 42 "DyckReachability" "history" "LDyckReachability$History;").before _ sM = true := hts _ (by decide +kernel)
  have hinX2 : ∀ w ∈ u_ws RX2 TX2 4, w ∈ wsX8_addEdge := by decide +kernel
  have hlk92 : (Cond.fieldLink RX8 92 "DyckReachability$Edges" "size" "I").before _ sM = true := hts _ (by decide +kernel)
  have hl : lv_has ls 4 [(0, .ref o), (1, .int x), (2, .int y), (3, .int z)] := hl
  refine lv_aload_n hx hb dX8_addEdge_0 rfl (lv_at hl 0 rfl) ?_
  refine lv_iload_n hx hb dX8_addEdge_1 rfl (lv_at hl 1 rfl) ?_
  refine zVi (W1 := [(o, .inr (5, [.int (nI V), .long sd, .ref e, .ref cp, .ref bw, .ref ds, .ref hs, .ref sl, .ref sf, .ref tx, .ref ob])), (e, .inr (1, [.ref a1, .ref a2, .ref a3, .int (nI k)])), zA G a1 16 s, zA G a2 16 t, zA G a3 16 lb, (hs, .inr (3, [.ref st, .int (nI nx), .int (nI sz)])), zR G st 14 fr, (q0, .inr (1, [.ref q1, .ref q2, .ref q3, .int (nI k0)])), zA G q1 16 s0, zA G q2 16 t0, zA G q3 16 l0]) (W2 := [(o, .inr (5, [.int (nI V), .long sd, .ref e, .ref cp, .ref bw, .ref ds, .ref hs, .ref sl, .ref sf, .ref tx, .ref ob])), (e, .inr (1, [.ref a1, .ref a2, .ref a3, .int (nI k)])), zA G a1 16 s, zA G a2 16 t, zA G a3 16 lb, (hs, .inr (3, [.ref st, .int (nI nx), .int (nI sz)])), zR G st 14 fr, (q0, .inr (1, [.ref q1, .ref q2, .ref q3, .int (nI k0)])), zA G q1 16 s0, zA G q2 16 t0, zA G q3 16 l0]) (wr := [(e, .inr (1, [.ref a1, .ref a2, .ref a3, .int (nI k)])), zA G a1 16 s, zA G a2 16 t, zA G a3 16 lb, (hs, .inr (3, [.ref st, .int (nI nx), .int (nI sz)])), zR G st 14 fr, (q0, .inr (1, [.ref q1, .ref q2, .ref q3, .int (nI k0)])), zA G q1 16 s0, zA G q2 16 t0, zA G q3 16 l0]) (rest := []) SM (c_X8_isVertex l G o e cp bw ds hs sl sf tx ob V sd x (by first | assumption | omega)) (cwV 1 hts gX8_addEdge_X8_isVertex rfl rfl rfl (by decide +kernel) ⟨Nat.le_of_ble_eq_true rfl, Nat.le_of_ble_eq_true rfl⟩) hK hE hA hP hD hS hl.1 [0] [1, 2, 3, 4, 5, 6, 7, 8, 9, 10] [10, 0, 1, 2, 3, 4, 5, 6, 7, 8, 9] rfl rfl rfl (by decide) (ci := 5) rfl rfl rfl rfl rfl (Nat.le_of_ble_eq_true rfl) ⟨Nat.zero_le _, Nat.zero_le _⟩ dX8_addEdge_2 (fun H locs hP hD hS => ?_)
  refine zb_eq (tgt := 16) hx hb dX8_addEdge_5 (by decide) (fun c_1 => ?_) (fun c_1 => ?_)
  · skip
    exfalso; omega
  · skip
    refine lv_aload_n hx hb dX8_addEdge_8 rfl (lv_at hl 0 rfl) ?_
    refine lv_iload_n hx hb dX8_addEdge_9 rfl (lv_at hl 2 rfl) ?_
    refine zVi (W1 := [(o, .inr (5, [.int (nI V), .long sd, .ref e, .ref cp, .ref bw, .ref ds, .ref hs, .ref sl, .ref sf, .ref tx, .ref ob])), (e, .inr (1, [.ref a1, .ref a2, .ref a3, .int (nI k)])), zA G a1 16 s, zA G a2 16 t, zA G a3 16 lb, (hs, .inr (3, [.ref st, .int (nI nx), .int (nI sz)])), zR G st 14 fr, (q0, .inr (1, [.ref q1, .ref q2, .ref q3, .int (nI k0)])), zA G q1 16 s0, zA G q2 16 t0, zA G q3 16 l0]) (W2 := [(o, .inr (5, [.int (nI V), .long sd, .ref e, .ref cp, .ref bw, .ref ds, .ref hs, .ref sl, .ref sf, .ref tx, .ref ob])), (e, .inr (1, [.ref a1, .ref a2, .ref a3, .int (nI k)])), zA G a1 16 s, zA G a2 16 t, zA G a3 16 lb, (hs, .inr (3, [.ref st, .int (nI nx), .int (nI sz)])), zR G st 14 fr, (q0, .inr (1, [.ref q1, .ref q2, .ref q3, .int (nI k0)])), zA G q1 16 s0, zA G q2 16 t0, zA G q3 16 l0]) (wr := [(e, .inr (1, [.ref a1, .ref a2, .ref a3, .int (nI k)])), zA G a1 16 s, zA G a2 16 t, zA G a3 16 lb, (hs, .inr (3, [.ref st, .int (nI nx), .int (nI sz)])), zR G st 14 fr, (q0, .inr (1, [.ref q1, .ref q2, .ref q3, .int (nI k0)])), zA G q1 16 s0, zA G q2 16 t0, zA G q3 16 l0]) (rest := []) SM (c_X8_isVertex l G o e cp bw ds hs sl sf tx ob V sd y (by first | assumption | omega)) (cwV 1 hts gX8_addEdge_X8_isVertex rfl rfl rfl (by decide +kernel) ⟨Nat.le_of_ble_eq_true rfl, Nat.le_of_ble_eq_true rfl⟩) hK hE hA hP hD hS hl.1 [0] [1, 2, 3, 4, 5, 6, 7, 8, 9, 10] [10, 0, 1, 2, 3, 4, 5, 6, 7, 8, 9] rfl rfl rfl (by decide) (ci := 5) rfl rfl rfl rfl rfl (Nat.le_of_ble_eq_true rfl) ⟨Nat.zero_le _, Nat.zero_le _⟩ dX8_addEdge_10 (fun H locs hP hD hS => ?_)
    refine zb_ne (tgt := 18) hx hb dX8_addEdge_13 (by decide) (fun c_2 => ?_) (fun c_2 => ?_)
    · skip
      refine lv_iload_n hx hb dX8_addEdge_18 rfl (lv_at hl 3 rfl) ?_
      refine zSi (W1 := [(o, .inr (5, [.int (nI V), .long sd, .ref e, .ref cp, .ref bw, .ref ds, .ref hs, .ref sl, .ref sf, .ref tx, .ref ob])), (e, .inr (1, [.ref a1, .ref a2, .ref a3, .int (nI k)])), zA G a1 16 s, zA G a2 16 t, zA G a3 16 lb, (hs, .inr (3, [.ref st, .int (nI nx), .int (nI sz)])), zR G st 14 fr, (q0, .inr (1, [.ref q1, .ref q2, .ref q3, .int (nI k0)])), zA G q1 16 s0, zA G q2 16 t0, zA G q3 16 l0]) (W2 := [(o, .inr (5, [.int (nI V), .long sd, .ref e, .ref cp, .ref bw, .ref ds, .ref hs, .ref sl, .ref sf, .ref tx, .ref ob])), (e, .inr (1, [.ref a1, .ref a2, .ref a3, .int (nI k)])), zA G a1 16 s, zA G a2 16 t, zA G a3 16 lb, (hs, .inr (3, [.ref st, .int (nI nx), .int (nI sz)])), zR G st 14 fr, (q0, .inr (1, [.ref q1, .ref q2, .ref q3, .int (nI k0)])), zA G q1 16 s0, zA G q2 16 t0, zA G q3 16 l0]) (wr := [(o, .inr (5, [.int (nI V), .long sd, .ref e, .ref cp, .ref bw, .ref ds, .ref hs, .ref sl, .ref sf, .ref tx, .ref ob])), (e, .inr (1, [.ref a1, .ref a2, .ref a3, .int (nI k)])), zA G a1 16 s, zA G a2 16 t, zA G a3 16 lb, (hs, .inr (3, [.ref st, .int (nI nx), .int (nI sz)])), zR G st 14 fr, (q0, .inr (1, [.ref q1, .ref q2, .ref q3, .int (nI k0)])), zA G q1 16 s0, zA G q2 16 t0, zA G q3 16 l0]) (rest := []) SM (c_X8_isLabel l G z ) (va_cwS 1 hts gX8_addEdge_X8_isLabel rfl rfl rfl (by decide +kernel) ⟨Nat.le_of_ble_eq_true rfl, Nat.le_of_ble_eq_true rfl⟩) hK hE hA hP hD hS hl.1 [] [0, 1, 2, 3, 4, 5, 6, 7, 8, 9, 10] [0, 1, 2, 3, 4, 5, 6, 7, 8, 9, 10] rfl rfl rfl (by decide) rfl rfl (Nat.le_of_ble_eq_true rfl) ⟨Nat.zero_le _, Nat.zero_le _⟩ dX8_addEdge_19 (fun H locs hP hD hS => ?_)
      refine zb_ne (tgt := 28) hx hb dX8_addEdge_22 (by decide) (fun c_3 => ?_) (fun c_3 => ?_)
      · skip
        refine lv_aload_n hx hb dX8_addEdge_28 rfl (lv_at hl 0 rfl) ?_
        refine va_get (D := G.1) (ci := 5) (v := .ref e) (C := RX8) (T := TX8) (N := 11) hx hb hts hinX8 hown hK hP 0 rfl rfl 2 (by decide) hlk22 (fun _ h9 => h9) rfl dX8_addEdge_29 ?_
        refine zVi (W1 := [(o, .inr (5, [.int (nI V), .long sd, .ref e, .ref cp, .ref bw, .ref ds, .ref hs, .ref sl, .ref sf, .ref tx, .ref ob])), (e, .inr (1, [.ref a1, .ref a2, .ref a3, .int (nI k)])), zA G a1 16 s, zA G a2 16 t, zA G a3 16 lb, (hs, .inr (3, [.ref st, .int (nI nx), .int (nI sz)])), zR G st 14 fr, (q0, .inr (1, [.ref q1, .ref q2, .ref q3, .int (nI k0)])), zA G q1 16 s0, zA G q2 16 t0, zA G q3 16 l0]) (W2 := [(o, .inr (5, [.int (nI V), .long sd, .ref e, .ref cp, .ref bw, .ref ds, .ref hs, .ref sl, .ref sf, .ref tx, .ref ob])), (e, .inr (1, [.ref a1, .ref a2, .ref a3, .int (nI k)])), zA G a1 16 s, zA G a2 16 t, zA G a3 16 lb, (hs, .inr (3, [.ref st, .int (nI nx), .int (nI sz)])), zR G st 14 fr, (q0, .inr (1, [.ref q1, .ref q2, .ref q3, .int (nI k0)])), zA G q1 16 s0, zA G q2 16 t0, zA G q3 16 l0]) (wr := [(o, .inr (5, [.int (nI V), .long sd, .ref e, .ref cp, .ref bw, .ref ds, .ref hs, .ref sl, .ref sf, .ref tx, .ref ob])), zA G a2 16 t, zA G a3 16 lb, (hs, .inr (3, [.ref st, .int (nI nx), .int (nI sz)])), zR G st 14 fr, (q0, .inr (1, [.ref q1, .ref q2, .ref q3, .int (nI k0)])), zA G q1 16 s0, zA G q2 16 t0, zA G q3 16 l0]) (rest := []) SM (c_X2_isFull l G e a1 a2 a3 16 s k (by first | assumption | omega) (by first | assumption | omega)) (cwV 0 hts gX8_addEdge_X2_isFull rfl rfl rfl (by decide +kernel) ⟨Nat.le_of_ble_eq_true rfl, Nat.le_of_ble_eq_true rfl⟩) hK hE hA hP hD hS hl.1 [1, 2] [0, 3, 4, 5, 6, 7, 8, 9, 10] [0, 9, 10, 1, 2, 3, 4, 5, 6, 7, 8] rfl rfl rfl (by decide) (ci := 1) rfl rfl rfl rfl rfl (Nat.le_of_ble_eq_true rfl) ⟨Nat.zero_le _, Nat.zero_le _⟩ dX8_addEdge_32 (fun H locs hP hD hS => ?_)
        refine zb_eq (tgt := 41) hx hb dX8_addEdge_35 (by decide) (fun c_4 => ?_) (fun c_4 => ?_)
        · skip
          have hl : lv_has ls 4 [(0, .ref o), (1, .int (nI x.toInt.toNat)), (2, .int (nI y.toInt.toNat)), (3, .int (nI z.toInt.toNat))] := by rw [← xN_eq (x := x) (by omega), ← xN_eq (x := y) (by omega), ← xN_eq (x := z) (by omega)]; exact hl
          refine lv_aload_n hx hb dX8_addEdge_41 rfl (lv_at hl 0 rfl) ?_
          refine va_get (D := G.1) (ci := 5) (v := .ref hs) (C := RX8) (T := TX8) (N := 11) hx hb hts hinX8 hown hK hP 0 rfl rfl 6 (by decide) hlk42 (fun _ h9 => h9) rfl dX8_addEdge_42 ?_
          refine lv_aload_n hx hb dX8_addEdge_45 rfl (lv_at hl 0 rfl) ?_
          refine va_get (D := G.1) (ci := 5) (v := .ref e) (C := RX8) (T := TX8) (N := 11) hx hb hts hinX8 hown hK hP 0 rfl rfl 2 (by decide) hlk22 (fun _ h9 => h9) rfl dX8_addEdge_46 ?_
          refine zVv (W1 := [(o, .inr (5, [.int (nI V), .long sd, .ref e, .ref cp, .ref bw, .ref ds, .ref hs, .ref sl, .ref sf, .ref tx, .ref ob])), (e, .inr (1, [.ref a1, .ref a2, .ref a3, .int (nI k)])), zA G a1 16 s, zA G a2 16 t, zA G a3 16 lb, (hs, .inr (3, [.ref st, .int (nI nx), .int (nI sz)])), zR G st 14 fr, (q0, .inr (1, [.ref q1, .ref q2, .ref q3, .int (nI k0)])), zA G q1 16 s0, zA G q2 16 t0, zA G q3 16 l0]) (W2 := [(o, .inr (5, [.int (nI V), .long sd, .ref e, .ref cp, .ref bw, .ref ds, .ref hs, .ref sl, .ref sf, .ref tx, .ref ob])), (e, .inr (1, [.ref a1, .ref a2, .ref a3, .int (nI k)])), zA G a1 16 s, zA G a2 16 t, zA G a3 16 lb, (hs, .inr (3, [.ref st, .int (nI (zNx nx)), .int (nI (min (sz + 1) 14))])), zR G st 14 fr, (q0, .inr (1, [.ref q1, .ref q2, .ref q3, .int (nI k)])), zA G q1 16 (zTk s0 s k), zA G q2 16 (zTk t0 t k), zA G q3 16 (zTk l0 lb k)]) (wr := [(o, .inr (5, [.int (nI V), .long sd, .ref e, .ref cp, .ref bw, .ref ds, .ref hs, .ref sl, .ref sf, .ref tx, .ref ob]))]) (rest := []) SM (c_X4_remember l G hs st fr nx sz q0 q1 q2 q3 s0 t0 l0 k0 e a1 a2 a3 s t lb k (by first | assumption | omega) (by first | assumption | omega) (by first | assumption | omega) (by first | assumption | omega)) (cwV 1 hts gX8_addEdge_X4_remember rfl rfl rfl (by decide +kernel) ⟨Nat.le_of_ble_eq_true rfl, Nat.le_of_ble_eq_true rfl⟩) hK hE hA hP hD hS hl.1 [5, 6, 7, 8, 9, 10, 1, 2, 3, 4] [0] [0, 7, 8, 9, 10, 1, 2, 3, 4, 5, 6] rfl rfl rfl (by decide) (ci := 3) rfl rfl rfl rfl rfl (Nat.le_of_ble_eq_true rfl) ⟨Nat.zero_le _, Nat.zero_le _⟩ dX8_addEdge_49 (fun H locs hP hD hS => ?_)
          refine lv_aload_n hx hb dX8_addEdge_52 rfl (lv_at hl 0 rfl) ?_
          refine va_get (D := G.1) (ci := 5) (v := .ref e) (C := RX8) (T := TX8) (N := 11) hx hb hts hinX8 hown hK hP 0 rfl rfl 2 (by decide) hlk22 (fun _ h9 => h9) rfl dX8_addEdge_53 ?_
          refine lv_iload_n hx hb dX8_addEdge_56 rfl (lv_at hl 1 rfl) ?_
          refine lv_iload_n hx hb dX8_addEdge_57 rfl (lv_at hl 2 rfl) ?_
          refine lv_iload_n hx hb dX8_addEdge_58 rfl (lv_at hl 3 rfl) ?_
          refine zVv (W1 := [(o, .inr (5, [.int (nI V), .long sd, .ref e, .ref cp, .ref bw, .ref ds, .ref hs, .ref sl, .ref sf, .ref tx, .ref ob])), (e, .inr (1, [.ref a1, .ref a2, .ref a3, .int (nI k)])), zA G a1 16 s, zA G a2 16 t, zA G a3 16 lb, (hs, .inr (3, [.ref st, .int (nI (zNx nx)), .int (nI (min (sz + 1) 14))])), zR G st 14 fr, (q0, .inr (1, [.ref q1, .ref q2, .ref q3, .int (nI k)])), zA G q1 16 (zTk s0 s k), zA G q2 16 (zTk t0 t k), zA G q3 16 (zTk l0 lb k)]) (W2 := [(o, .inr (5, [.int (nI V), .long sd, .ref e, .ref cp, .ref bw, .ref ds, .ref hs, .ref sl, .ref sf, .ref tx, .ref ob])), (e, .inr (1, [.ref a1, .ref a2, .ref a3, .int (nI (k + 1))])), zA G a1 16 (zU s k x.toInt.toNat), zA G a2 16 (zU t k y.toInt.toNat), zA G a3 16 (zU lb k z.toInt.toNat), (hs, .inr (3, [.ref st, .int (nI (zNx nx)), .int (nI (min (sz + 1) 14))])), zR G st 14 fr, (q0, .inr (1, [.ref q1, .ref q2, .ref q3, .int (nI k)])), zA G q1 16 (zTk s0 s k), zA G q2 16 (zTk t0 t k), zA G q3 16 (zTk l0 lb k)]) (wr := [(o, .inr (5, [.int (nI V), .long sd, .ref e, .ref cp, .ref bw, .ref ds, .ref hs, .ref sl, .ref sf, .ref tx, .ref ob])), (hs, .inr (3, [.ref st, .int (nI (zNx nx)), .int (nI (min (sz + 1) 14))])), zR G st 14 fr, (q0, .inr (1, [.ref q1, .ref q2, .ref q3, .int (nI k)])), zA G q1 16 (zTk s0 s k), zA G q2 16 (zTk t0 t k), zA G q3 16 (zTk l0 lb k)]) (rest := []) SM (c_X2_put_N l G e a1 a2 a3 16 s t lb k x.toInt.toNat y.toInt.toNat z.toInt.toNat (by first | assumption | omega) (by first | assumption | omega)) (cwV 3 hts gX8_addEdge_X2_put rfl rfl rfl (by decide +kernel) ⟨Nat.le_of_ble_eq_true rfl, Nat.le_of_ble_eq_true rfl⟩) hK hE hA hP hD hS hl.1 [1, 2, 3, 4] [0, 5, 6, 7, 8, 9, 10] [0, 7, 8, 9, 10, 1, 2, 3, 4, 5, 6] rfl rfl rfl (by decide) (ci := 1) rfl rfl rfl rfl rfl (Nat.le_of_ble_eq_true rfl) ⟨Nat.zero_le _, Nat.zero_le _⟩ dX8_addEdge_59 (fun H locs hP hD hS => ?_)
          refine lv_aload_n hx hb dX8_addEdge_62 rfl (lv_at hl 0 rfl) ?_
          refine va_get (D := G.1) (ci := 5) (v := .ref e) (C := RX8) (T := TX8) (N := 11) hx hb hts hinX8 hown hK hP 0 rfl rfl 2 (by decide) hlk22 (fun _ h9 => h9) rfl dX8_addEdge_63 ?_
          refine va_get (D := G.1) (ci := 1) (v := .int (nI (k + 1))) (C := RX2) (T := TX2) (N := 4) hx hb hts hinX2 hown hK hP 1 rfl rfl 3 (by decide) hlk92 (fun _ h9 => h9) rfl dX8_addEdge_66 ?_
          refine lv_iconst (v := nI 1) hx hb dX8_addEdge_69 (by decide) ?_
          refine zi_sub hx hb dX8_addEdge_70 (by omega) ?_
          exact kret _ _ _ _ _ _ (congrArg nI (by omega)) rfl hP hD hS dX8_addEdge_71
        · skip
          exfalso; omega
      · skip
        exfalso; omega
    · skip
      exfalso; omega
set_option maxHeartbeats 4000000 in
set_option maxRecDepth 100000 in
theorem c_X8_addEdge_bad (l : Launch) (G : zG) (o e cp bw ds hs sl sf tx ob V : Nat) (sd : Int64) (a1 a2 a3 : Nat) (s t lb : Nat → Nat) (k : Nat) (x y z : Int32) (hV : V ≤ 8) (hk : k ≤ 16) (hb0 : ¬ ((0 ≤ x.toInt ∧ x.toInt < V) ∧ (0 ≤ y.toInt ∧ y.toInt < V) ∧ (0 ≤ z.toInt ∧ z.toInt < 7) ∧ k < 16)) : MI l yX8_addEdge wsX8_addEdge ({ frames := 1, cells := 0, slots := 0, locals := 21 }) G [.ref o, .int x, .int y, .int z] [(o, .inr (5, [.int (nI V), .long sd, .ref e, .ref cp, .ref bw, .ref ds, .ref hs, .ref sl, .ref sf, .ref tx, .ref ob])), (e, .inr (1, [.ref a1, .ref a2, .ref a3, .int (nI k)])), zA G a1 16 s, zA G a2 16 t, zA G a3 16 lb] (zAdX k V x y z) [(o, .inr (5, [.int (nI V), .long sd, .ref e, .ref cp, .ref bw, .ref ds, .ref hs, .ref sl, .ref sf, .ref tx, .ref ob])), (e, .inr (1, [.ref a1, .ref a2, .ref a3, .int (nI k)])), zA G a1 16 s, zA G a2 16 t, zA G a3 16 lb] := by
  refine MI.enter (cc := cX8_addEdge) (maxL := 4) (by decide) rfl (Nat.le_of_ble_eq_true rfl) rfl ?_
  intro pM eM sM mM bM tM cM QM AM ls hat kret
  obtain ⟨SM, hA, hK, hE, hP, hD, hS, hl⟩ := hat
  have hx := SM.1
  have hb := SM.2.1
  have hown : sM.vm.findClass RX8 = some mM.cls := SM.2.2.2.1
  have hts := SM.2.2.2.2
  have hinX8 : ∀ w ∈ u_ws RX8 TX8 11, w ∈ wsX8_addEdge := by decide +kernel
  have hlk22 : (Cond.fieldLink RX8 22 "DyckReachability" "edges" "LDyckReachability$Edges;").before _ sM = true := hts _ (by decide +kernel)
  have hl : lv_has ls 4 [(0, .ref o), (1, .int x), (2, .int y), (3, .int z)] := hl
  refine lv_aload_n hx hb dX8_addEdge_0 rfl (lv_at hl 0 rfl) ?_
  refine lv_iload_n hx hb dX8_addEdge_1 rfl (lv_at hl 1 rfl) ?_
  refine zVi (W1 := [(o, .inr (5, [.int (nI V), .long sd, .ref e, .ref cp, .ref bw, .ref ds, .ref hs, .ref sl, .ref sf, .ref tx, .ref ob])), (e, .inr (1, [.ref a1, .ref a2, .ref a3, .int (nI k)])), zA G a1 16 s, zA G a2 16 t, zA G a3 16 lb]) (W2 := [(o, .inr (5, [.int (nI V), .long sd, .ref e, .ref cp, .ref bw, .ref ds, .ref hs, .ref sl, .ref sf, .ref tx, .ref ob])), (e, .inr (1, [.ref a1, .ref a2, .ref a3, .int (nI k)])), zA G a1 16 s, zA G a2 16 t, zA G a3 16 lb]) (wr := [(e, .inr (1, [.ref a1, .ref a2, .ref a3, .int (nI k)])), zA G a1 16 s, zA G a2 16 t, zA G a3 16 lb]) (rest := []) SM (c_X8_isVertex l G o e cp bw ds hs sl sf tx ob V sd x (by first | assumption | omega)) (cwV 1 hts gX8_addEdge_X8_isVertex rfl rfl rfl (by decide +kernel) ⟨Nat.le_of_ble_eq_true rfl, Nat.le_of_ble_eq_true rfl⟩) hK hE hA hP hD hS hl.1 [0] [1, 2, 3, 4] [4, 0, 1, 2, 3] rfl rfl rfl (by decide) (ci := 5) rfl rfl rfl rfl rfl (Nat.le_of_ble_eq_true rfl) ⟨Nat.zero_le _, Nat.zero_le _⟩ dX8_addEdge_2 (fun H locs hP hD hS => ?_)
  refine zb_eq (tgt := 16) hx hb dX8_addEdge_5 (by decide) (fun c_1 => ?_) (fun c_1 => ?_)
  · skip
    refine lv_iconst (v := (-1)) hx hb dX8_addEdge_16 (by decide) ?_
    exact kret _ _ _ _ _ _ (by unfold zAdX; repeat (first | rw [if_pos (by first | assumption | omega)] | rw [if_neg (by first | assumption | omega)])) rfl hP hD hS dX8_addEdge_17
  · skip
    refine lv_aload_n hx hb dX8_addEdge_8 rfl (lv_at hl 0 rfl) ?_
    refine lv_iload_n hx hb dX8_addEdge_9 rfl (lv_at hl 2 rfl) ?_
    refine zVi (W1 := [(o, .inr (5, [.int (nI V), .long sd, .ref e, .ref cp, .ref bw, .ref ds, .ref hs, .ref sl, .ref sf, .ref tx, .ref ob])), (e, .inr (1, [.ref a1, .ref a2, .ref a3, .int (nI k)])), zA G a1 16 s, zA G a2 16 t, zA G a3 16 lb]) (W2 := [(o, .inr (5, [.int (nI V), .long sd, .ref e, .ref cp, .ref bw, .ref ds, .ref hs, .ref sl, .ref sf, .ref tx, .ref ob])), (e, .inr (1, [.ref a1, .ref a2, .ref a3, .int (nI k)])), zA G a1 16 s, zA G a2 16 t, zA G a3 16 lb]) (wr := [(e, .inr (1, [.ref a1, .ref a2, .ref a3, .int (nI k)])), zA G a1 16 s, zA G a2 16 t, zA G a3 16 lb]) (rest := []) SM (c_X8_isVertex l G o e cp bw ds hs sl sf tx ob V sd y (by first | assumption | omega)) (cwV 1 hts gX8_addEdge_X8_isVertex rfl rfl rfl (by decide +kernel) ⟨Nat.le_of_ble_eq_true rfl, Nat.le_of_ble_eq_true rfl⟩) hK hE hA hP hD hS hl.1 [0] [1, 2, 3, 4] [4, 0, 1, 2, 3] rfl rfl rfl (by decide) (ci := 5) rfl rfl rfl rfl rfl (Nat.le_of_ble_eq_true rfl) ⟨Nat.zero_le _, Nat.zero_le _⟩ dX8_addEdge_10 (fun H locs hP hD hS => ?_)
    refine zb_ne (tgt := 18) hx hb dX8_addEdge_13 (by decide) (fun c_2 => ?_) (fun c_2 => ?_)
    · skip
      refine lv_iload_n hx hb dX8_addEdge_18 rfl (lv_at hl 3 rfl) ?_
      refine zSi (W1 := [(o, .inr (5, [.int (nI V), .long sd, .ref e, .ref cp, .ref bw, .ref ds, .ref hs, .ref sl, .ref sf, .ref tx, .ref ob])), (e, .inr (1, [.ref a1, .ref a2, .ref a3, .int (nI k)])), zA G a1 16 s, zA G a2 16 t, zA G a3 16 lb]) (W2 := [(o, .inr (5, [.int (nI V), .long sd, .ref e, .ref cp, .ref bw, .ref ds, .ref hs, .ref sl, .ref sf, .ref tx, .ref ob])), (e, .inr (1, [.ref a1, .ref a2, .ref a3, .int (nI k)])), zA G a1 16 s, zA G a2 16 t, zA G a3 16 lb]) (wr := [(o, .inr (5, [.int (nI V), .long sd, .ref e, .ref cp, .ref bw, .ref ds, .ref hs, .ref sl, .ref sf, .ref tx, .ref ob])), (e, .inr (1, [.ref a1, .ref a2, .ref a3, .int (nI k)])), zA G a1 16 s, zA G a2 16 t, zA G a3 16 lb]) (rest := []) SM (c_X8_isLabel l G z ) (va_cwS 1 hts gX8_addEdge_X8_isLabel rfl rfl rfl (by decide +kernel) ⟨Nat.le_of_ble_eq_true rfl, Nat.le_of_ble_eq_true rfl⟩) hK hE hA hP hD hS hl.1 [] [0, 1, 2, 3, 4] [0, 1, 2, 3, 4] rfl rfl rfl (by decide) rfl rfl (Nat.le_of_ble_eq_true rfl) ⟨Nat.zero_le _, Nat.zero_le _⟩ dX8_addEdge_19 (fun H locs hP hD hS => ?_)
      refine zb_ne (tgt := 28) hx hb dX8_addEdge_22 (by decide) (fun c_3 => ?_) (fun c_3 => ?_)
      · skip
        refine lv_aload_n hx hb dX8_addEdge_28 rfl (lv_at hl 0 rfl) ?_
        refine va_get (D := G.1) (ci := 5) (v := .ref e) (C := RX8) (T := TX8) (N := 11) hx hb hts hinX8 hown hK hP 0 rfl rfl 2 (by decide) hlk22 (fun _ h9 => h9) rfl dX8_addEdge_29 ?_
        refine zVi (W1 := [(o, .inr (5, [.int (nI V), .long sd, .ref e, .ref cp, .ref bw, .ref ds, .ref hs, .ref sl, .ref sf, .ref tx, .ref ob])), (e, .inr (1, [.ref a1, .ref a2, .ref a3, .int (nI k)])), zA G a1 16 s, zA G a2 16 t, zA G a3 16 lb]) (W2 := [(o, .inr (5, [.int (nI V), .long sd, .ref e, .ref cp, .ref bw, .ref ds, .ref hs, .ref sl, .ref sf, .ref tx, .ref ob])), (e, .inr (1, [.ref a1, .ref a2, .ref a3, .int (nI k)])), zA G a1 16 s, zA G a2 16 t, zA G a3 16 lb]) (wr := [(o, .inr (5, [.int (nI V), .long sd, .ref e, .ref cp, .ref bw, .ref ds, .ref hs, .ref sl, .ref sf, .ref tx, .ref ob])), zA G a2 16 t, zA G a3 16 lb]) (rest := []) SM (c_X2_isFull l G e a1 a2 a3 16 s k (by first | assumption | omega) (by first | assumption | omega)) (cwV 0 hts gX8_addEdge_X2_isFull rfl rfl rfl (by decide +kernel) ⟨Nat.le_of_ble_eq_true rfl, Nat.le_of_ble_eq_true rfl⟩) hK hE hA hP hD hS hl.1 [1, 2] [0, 3, 4] [0, 3, 4, 1, 2] rfl rfl rfl (by decide) (ci := 1) rfl rfl rfl rfl rfl (Nat.le_of_ble_eq_true rfl) ⟨Nat.zero_le _, Nat.zero_le _⟩ dX8_addEdge_32 (fun H locs hP hD hS => ?_)
        refine zb_eq (tgt := 41) hx hb dX8_addEdge_35 (by decide) (fun c_4 => ?_) (fun c_4 => ?_)
        · skip
          exfalso; omega
        · skip
          refine lv_bipush (v := (-4)) hx hb dX8_addEdge_38 (by decide) ?_
          exact kret _ _ _ _ _ _ (by unfold zAdX; repeat (first | rw [if_pos (by first | assumption | omega)] | rw [if_neg (by first | assumption | omega)])) rfl hP hD hS dX8_addEdge_40
      · skip
        refine lv_bipush (v := (-2)) hx hb dX8_addEdge_25 (by decide) ?_
        exact kret _ _ _ _ _ _ (by unfold zAdX; repeat (first | rw [if_pos (by first | assumption | omega)] | rw [if_neg (by first | assumption | omega)])) rfl hP hD hS dX8_addEdge_27
    · skip
      refine lv_iconst (v := (-1)) hx hb dX8_addEdge_16 (by decide) ?_
      exact kret _ _ _ _ _ _ (by unfold zAdX; repeat (first | rw [if_pos (by first | assumption | omega)] | rw [if_neg (by first | assumption | omega)])) rfl hP hD hS dX8_addEdge_17
set_option maxHeartbeats 4000000 in
set_option maxRecDepth 100000 in
theorem c_X8_removeEdge_ok (l : Launch) (G : zG) (o e cp bw ds hs sl sf tx ob V : Nat) (sd : Int64) (a1 a2 a3 : Nat) (s t lb : Nat → Nat) (k : Nat) (st : Nat) (fr : Nat → Option Nat) (nx sz : Nat) (q0 q1 q2 q3 : Nat) (s0 t0 l0 : Nat → Nat) (k0 : Nat) (x : Int32) (hx : 0 ≤ x.toInt ∧ x.toInt < k) (hk : k ≤ 16) (hnx : nx < 14) (hsz : sz ≤ 14) (hq0 : fr nx = some q0) : MI l yX8_removeEdge wsX8_removeEdge ({ frames := 4, cells := 0, slots := 0, locals := 86 }) G [.ref o, .int x] [(o, .inr (5, [.int (nI V), .long sd, .ref e, .ref cp, .ref bw, .ref ds, .ref hs, .ref sl, .ref sf, .ref tx, .ref ob])), (e, .inr (1, [.ref a1, .ref a2, .ref a3, .int (nI k)])), zA G a1 16 s, zA G a2 16 t, zA G a3 16 lb, (hs, .inr (3, [.ref st, .int (nI nx), .int (nI sz)])), zR G st 14 fr, (q0, .inr (1, [.ref q1, .ref q2, .ref q3, .int (nI k0)])), zA G q1 16 s0, zA G q2 16 t0, zA G q3 16 l0] (nI (k - 1)) [(o, .inr (5, [.int (nI V), .long sd, .ref e, .ref cp, .ref bw, .ref ds, .ref hs, .ref sl, .ref sf, .ref tx, .ref ob])), (e, .inr (1, [.ref a1, .ref a2, .ref a3, .int (nI (k - 1))])), zA G a1 16 (zDr s x.toInt.toNat k), zA G a2 16 (zDr t x.toInt.toNat k), zA G a3 16 (zDr lb x.toInt.toNat k), (hs, .inr (3, [.ref st, .int (nI (zNx nx)), .int (nI (min (sz + 1) 14))])), zR G st 14 fr, (q0, .inr (1, [.ref q1, .ref q2, .ref q3, .int (nI k)])), zA G q1 16 (zTk s0 s k), zA G q2 16 (zTk t0 t k), zA G q3 16 (zTk l0 lb k)] := by
  refine MI.enter (cc := cX8_removeEdge) (maxL := 2) (by decide) rfl (Nat.le_of_ble_eq_true rfl) rfl ?_
  intro pM eM sM mM bM tM cM QM AM ls hat kret
  obtain ⟨SM, hA, hK, hE, hP, hD, hS, hl⟩ := hat
  have hx := SM.1
  have hb := SM.2.1
  have hown : sM.vm.findClass RX8 = some mM.cls := SM.2.2.2.1
  have hts := SM.2.2.2.2
  have hinX8 : ∀ w ∈ u_ws RX8 TX8 11, w ∈ wsX8_removeEdge := by decide +kernel
  have hlk22 : (Cond.fieldLink RX8 22 "DyckReachability" "edges" "LDyckReachability$Edges;").before _ sM = true := hts _ (by decide +kernel)
  have hlk42 : (Cond.fieldLink RX8 42 "DyckReachability" "history" "LDyckReachability$History;").before _ sM = true := hts _ (by decide +kernel)
  have hinX2 : ∀ w ∈ u_ws RX2 TX2 4, w ∈ wsX8_removeEdge := by decide +kernel
  have hlk92 : (Cond.fieldLink RX8 92 "DyckReachability$Edges" "size" "I").before _ sM = true := hts _ (by decide +kernel)
  have hl : lv_has ls 2 [(0, .ref o), (1, .int x)] := hl
  refine lv_aload_n hx hb dX8_removeEdge_0 rfl (lv_at hl 0 rfl) ?_
  refine va_get (D := G.1) (ci := 5) (v := .ref e) (C := RX8) (T := TX8) (N := 11) hx hb hts hinX8 hown hK hP 0 rfl rfl 2 (by decide) hlk22 (fun _ h9 => h9) rfl dX8_removeEdge_1 ?_
  refine lv_iload_n hx hb dX8_removeEdge_4 rfl (lv_at hl 1 rfl) ?_
  refine zVi (W1 := [(o, .inr (5, [.int (nI V), .long sd, .ref e, .ref cp, .ref bw, .ref ds, .ref hs, .ref sl, .ref sf, .ref tx, .ref ob])), (e, .inr (1, [.ref a1, .ref a2, .ref a3, .int (nI k)])), zA G a1 16 s, zA G a2 16 t, zA G a3 16 lb, (hs, .inr (3, [.ref st, .int (nI nx), .int (nI sz)])), zR G st 14 fr, (q0, .inr (1, [.ref q1, .ref q2, .ref q3, .int (nI k0)])), zA G q1 16 s0, zA G q2 16 t0, zA G q3 16 l0]) (W2 := [(o, .inr (5, [.int (nI V), .long sd, .ref e, .ref cp, .ref bw, .ref ds, .ref hs, .ref sl, .ref sf, .ref tx, .ref ob])), (e, .inr (1, [.ref a1, .ref a2, .ref a3, .int (nI k)])), zA G a1 16 s, zA G a2 16 t, zA G a3 16 lb, (hs, .inr (3, [.ref st, .int (nI nx), .int (nI sz)])), zR G st 14 fr, (q0, .inr (1, [.ref q1, .ref q2, .ref q3, .int (nI k0)])), zA G q1 16 s0, zA G q2 16 t0, zA G q3 16 l0]) (wr := [(o, .inr (5, [.int (nI V), .long sd, .ref e, .ref cp, .ref bw, .ref ds, .ref hs, .ref sl, .ref sf, .ref tx, .ref ob])), zA G a1 16 s, zA G a2 16 t, zA G a3 16 lb, (hs, .inr (3, [.ref st, .int (nI nx), .int (nI sz)])), zR G st 14 fr, (q0, .inr (1, [.ref q1, .ref q2, .ref q3, .int (nI k0)])), zA G q1 16 s0, zA G q2 16 t0, zA G q3 16 l0]) (rest := []) SM (c_X2_holds l G e a1 a2 a3 k x (by first | assumption | omega)) (cwV 1 hts gX8_removeEdge_X2_holds rfl rfl rfl (by decide +kernel) ⟨Nat.le_of_ble_eq_true rfl, Nat.le_of_ble_eq_true rfl⟩) hK hE hA hP hD hS hl.1 [1] [0, 2, 3, 4, 5, 6, 7, 8, 9, 10] [0, 10, 1, 2, 3, 4, 5, 6, 7, 8, 9] rfl rfl rfl (by decide) (ci := 1) rfl rfl rfl rfl rfl (Nat.le_of_ble_eq_true rfl) ⟨Nat.zero_le _, Nat.zero_le _⟩ dX8_removeEdge_5 (fun H locs hP hD hS => ?_)
  refine zb_ne (tgt := 13) hx hb dX8_removeEdge_8 (by decide) (fun c_1 => ?_) (fun c_1 => ?_)
  · skip
    have hl : lv_has ls 2 [(0, .ref o), (1, .int (nI x.toInt.toNat))] := by rw [← xN_eq (x := x) (by omega)]; exact hl
    refine lv_aload_n hx hb dX8_removeEdge_13 rfl (lv_at hl 0 rfl) ?_
    refine va_get (D := G.1) (ci := 5) (v := .ref hs) (C := RX8) (T := TX8) (N := 11) hx hb hts hinX8 hown hK hP 0 rfl rfl 6 (by decide) hlk42 (fun _ h9 => h9) rfl dX8_removeEdge_14 ?_
    refine lv_aload_n hx hb dX8_removeEdge_17 rfl (lv_at hl 0 rfl) ?_
    refine va_get (D := G.1) (ci := 5) (v := .ref e) (C := RX8) (T := TX8) (N := 11) hx hb hts hinX8 hown hK hP 0 rfl rfl 2 (by decide) hlk22 (fun _ h9 => h9) rfl dX8_removeEdge_18 ?_
    refine zVv (W1 := [(o, .inr (5, [.int (nI V), .long sd, .ref e, .ref cp, .ref bw, .ref ds, .ref hs, .ref sl, .ref sf, .ref tx, .ref ob])), (e, .inr (1, [.ref a1, .ref a2, .ref a3, .int (nI k)])), zA G a1 16 s, zA G a2 16 t, zA G a3 16 lb, (hs, .inr (3, [.ref st, .int (nI nx), .int (nI sz)])), zR G st 14 fr, (q0, .inr (1, [.ref q1, .ref q2, .ref q3, .int (nI k0)])), zA G q1 16 s0, zA G q2 16 t0, zA G q3 16 l0]) (W2 := [(o, .inr (5, [.int (nI V), .long sd, .ref e, .ref cp, .ref bw, .ref ds, .ref hs, .ref sl, .ref sf, .ref tx, .ref ob])), (e, .inr (1, [.ref a1, .ref a2, .ref a3, .int (nI k)])), zA G a1 16 s, zA G a2 16 t, zA G a3 16 lb, (hs, .inr (3, [.ref st, .int (nI (zNx nx)), .int (nI (min (sz + 1) 14))])), zR G st 14 fr, (q0, .inr (1, [.ref q1, .ref q2, .ref q3, .int (nI k)])), zA G q1 16 (zTk s0 s k), zA G q2 16 (zTk t0 t k), zA G q3 16 (zTk l0 lb k)]) (wr := [(o, .inr (5, [.int (nI V), .long sd, .ref e, .ref cp, .ref bw, .ref ds, .ref hs, .ref sl, .ref sf, .ref tx, .ref ob]))]) (rest := []) SM (c_X4_remember l G hs st fr nx sz q0 q1 q2 q3 s0 t0 l0 k0 e a1 a2 a3 s t lb k (by first | assumption | omega) (by first | assumption | omega) (by first | assumption | omega) (by first | assumption | omega)) (cwV 1 hts gX8_removeEdge_X4_remember rfl rfl rfl (by decide +kernel) ⟨Nat.le_of_ble_eq_true rfl, Nat.le_of_ble_eq_true rfl⟩) hK hE hA hP hD hS hl.1 [5, 6, 7, 8, 9, 10, 1, 2, 3, 4] [0] [0, 7, 8, 9, 10, 1, 2, 3, 4, 5, 6] rfl rfl rfl (by decide) (ci := 3) rfl rfl rfl rfl rfl (Nat.le_of_ble_eq_true rfl) ⟨Nat.zero_le _, Nat.zero_le _⟩ dX8_removeEdge_21 (fun H locs hP hD hS => ?_)
    refine lv_aload_n hx hb dX8_removeEdge_24 rfl (lv_at hl 0 rfl) ?_
    refine va_get (D := G.1) (ci := 5) (v := .ref e) (C := RX8) (T := TX8) (N := 11) hx hb hts hinX8 hown hK hP 0 rfl rfl 2 (by decide) hlk22 (fun _ h9 => h9) rfl dX8_removeEdge_25 ?_
    refine lv_iload_n hx hb dX8_removeEdge_28 rfl (lv_at hl 1 rfl) ?_
    refine zVv (W1 := [(o, .inr (5, [.int (nI V), .long sd, .ref e, .ref cp, .ref bw, .ref ds, .ref hs, .ref sl, .ref sf, .ref tx, .ref ob])), (e, .inr (1, [.ref a1, .ref a2, .ref a3, .int (nI k)])), zA G a1 16 s, zA G a2 16 t, zA G a3 16 lb, (hs, .inr (3, [.ref st, .int (nI (zNx nx)), .int (nI (min (sz + 1) 14))])), zR G st 14 fr, (q0, .inr (1, [.ref q1, .ref q2, .ref q3, .int (nI k)])), zA G q1 16 (zTk s0 s k), zA G q2 16 (zTk t0 t k), zA G q3 16 (zTk l0 lb k)]) (W2 := [(o, .inr (5, [.int (nI V), .long sd, .ref e, .ref cp, .ref bw, .ref ds, .ref hs, .ref sl, .ref sf, .ref tx, .ref ob])), (e, .inr (1, [.ref a1, .ref a2, .ref a3, .int (nI (k - 1))])), zA G a1 16 (zDr s x.toInt.toNat k), zA G a2 16 (zDr t x.toInt.toNat k), zA G a3 16 (zDr lb x.toInt.toNat k), (hs, .inr (3, [.ref st, .int (nI (zNx nx)), .int (nI (min (sz + 1) 14))])), zR G st 14 fr, (q0, .inr (1, [.ref q1, .ref q2, .ref q3, .int (nI k)])), zA G q1 16 (zTk s0 s k), zA G q2 16 (zTk t0 t k), zA G q3 16 (zTk l0 lb k)]) (wr := [(o, .inr (5, [.int (nI V), .long sd, .ref e, .ref cp, .ref bw, .ref ds, .ref hs, .ref sl, .ref sf, .ref tx, .ref ob])), (hs, .inr (3, [.ref st, .int (nI (zNx nx)), .int (nI (min (sz + 1) 14))])), zR G st 14 fr, (q0, .inr (1, [.ref q1, .ref q2, .ref q3, .int (nI k)])), zA G q1 16 (zTk s0 s k), zA G q2 16 (zTk t0 t k), zA G q3 16 (zTk l0 lb k)]) (rest := []) SM (c_X2_drop l G e a1 a2 a3 16 s t lb k x.toInt.toNat (by first | assumption | omega) (by first | assumption | omega) (by first | assumption | omega)) (cwV 1 hts gX8_removeEdge_X2_drop rfl rfl rfl (by decide +kernel) ⟨Nat.le_of_ble_eq_true rfl, Nat.le_of_ble_eq_true rfl⟩) hK hE hA hP hD hS hl.1 [1, 2, 3, 4] [0, 5, 6, 7, 8, 9, 10] [0, 7, 8, 9, 10, 1, 2, 3, 4, 5, 6] rfl rfl rfl (by decide) (ci := 1) rfl rfl rfl rfl rfl (Nat.le_of_ble_eq_true rfl) ⟨Nat.zero_le _, Nat.zero_le _⟩ dX8_removeEdge_29 (fun H locs hP hD hS => ?_)
    refine lv_aload_n hx hb dX8_removeEdge_32 rfl (lv_at hl 0 rfl) ?_
    refine va_get (D := G.1) (ci := 5) (v := .ref e) (C := RX8) (T := TX8) (N := 11) hx hb hts hinX8 hown hK hP 0 rfl rfl 2 (by decide) hlk22 (fun _ h9 => h9) rfl dX8_removeEdge_33 ?_
    refine va_get (D := G.1) (ci := 1) (v := .int (nI (k - 1))) (C := RX2) (T := TX2) (N := 4) hx hb hts hinX2 hown hK hP 1 rfl rfl 3 (by decide) hlk92 (fun _ h9 => h9) rfl dX8_removeEdge_36 ?_
    exact kret _ _ _ _ _ _ rfl rfl hP hD hS dX8_removeEdge_39
  · skip
    exfalso; omega
set_option maxHeartbeats 4000000 in
set_option maxRecDepth 100000 in
theorem c_X8_removeEdge_bad (l : Launch) (G : zG) (o e cp bw ds hs sl sf tx ob V : Nat) (sd : Int64) (a1 a2 a3 k : Nat) (x : Int32) (hk : k ≤ 16) (hb0 : ¬ (0 ≤ x.toInt ∧ x.toInt < k)) : MI l yX8_removeEdge wsX8_removeEdge ({ frames := 1, cells := 0, slots := 0, locals := 21 }) G [.ref o, .int x] [(o, .inr (5, [.int (nI V), .long sd, .ref e, .ref cp, .ref bw, .ref ds, .ref hs, .ref sl, .ref sf, .ref tx, .ref ob])), (e, .inr (1, [.ref a1, .ref a2, .ref a3, .int (nI k)]))] (-1) [(o, .inr (5, [.int (nI V), .long sd, .ref e, .ref cp, .ref bw, .ref ds, .ref hs, .ref sl, .ref sf, .ref tx, .ref ob])), (e, .inr (1, [.ref a1, .ref a2, .ref a3, .int (nI k)]))] := by
  refine MI.enter (cc := cX8_removeEdge) (maxL := 2) (by decide) rfl (Nat.le_of_ble_eq_true rfl) rfl ?_
  intro pM eM sM mM bM tM cM QM AM ls hat kret
  obtain ⟨SM, hA, hK, hE, hP, hD, hS, hl⟩ := hat
  have hx := SM.1
  have hb := SM.2.1
  have hown : sM.vm.findClass RX8 = some mM.cls := SM.2.2.2.1
  have hts := SM.2.2.2.2
  have hinX8 : ∀ w ∈ u_ws RX8 TX8 11, w ∈ wsX8_removeEdge := by decide +kernel
  have hlk22 : (Cond.fieldLink RX8 22 "DyckReachability" "edges" "LDyckReachability$Edges;").before _ sM = true := hts _ (by decide +kernel)
  have hl : lv_has ls 2 [(0, .ref o), (1, .int x)] := hl
  refine lv_aload_n hx hb dX8_removeEdge_0 rfl (lv_at hl 0 rfl) ?_
  refine va_get (D := G.1) (ci := 5) (v := .ref e) (C := RX8) (T := TX8) (N := 11) hx hb hts hinX8 hown hK hP 0 rfl rfl 2 (by decide) hlk22 (fun _ h9 => h9) rfl dX8_removeEdge_1 ?_
  refine lv_iload_n hx hb dX8_removeEdge_4 rfl (lv_at hl 1 rfl) ?_
  refine zVi (W1 := [(o, .inr (5, [.int (nI V), .long sd, .ref e, .ref cp, .ref bw, .ref ds, .ref hs, .ref sl, .ref sf, .ref tx, .ref ob])), (e, .inr (1, [.ref a1, .ref a2, .ref a3, .int (nI k)]))]) (W2 := [(o, .inr (5, [.int (nI V), .long sd, .ref e, .ref cp, .ref bw, .ref ds, .ref hs, .ref sl, .ref sf, .ref tx, .ref ob])), (e, .inr (1, [.ref a1, .ref a2, .ref a3, .int (nI k)]))]) (wr := [(o, .inr (5, [.int (nI V), .long sd, .ref e, .ref cp, .ref bw, .ref ds, .ref hs, .ref sl, .ref sf, .ref tx, .ref ob]))]) (rest := []) SM (c_X2_holds l G e a1 a2 a3 k x (by first | assumption | omega)) (cwV 1 hts gX8_removeEdge_X2_holds rfl rfl rfl (by decide +kernel) ⟨Nat.le_of_ble_eq_true rfl, Nat.le_of_ble_eq_true rfl⟩) hK hE hA hP hD hS hl.1 [1] [0] [0, 1] rfl rfl rfl (by decide) (ci := 1) rfl rfl rfl rfl rfl (Nat.le_of_ble_eq_true rfl) ⟨Nat.zero_le _, Nat.zero_le _⟩ dX8_removeEdge_5 (fun H locs hP hD hS => ?_)
  refine zb_ne (tgt := 13) hx hb dX8_removeEdge_8 (by decide) (fun c_1 => ?_) (fun c_1 => ?_)
  · skip
    exfalso; omega
  · skip
    refine lv_iconst (v := (-1)) hx hb dX8_removeEdge_11 (by decide) ?_
    exact kret _ _ _ _ _ _ rfl rfl hP hD hS dX8_removeEdge_12
set_option maxHeartbeats 4000000 in
set_option maxRecDepth 100000 in
theorem c_X8_setLabel_ok (l : Launch) (G : zG) (o e cp bw ds hs sl sf tx ob V : Nat) (sd : Int64) (a1 a2 a3 : Nat) (s t lb : Nat → Nat) (k : Nat) (st : Nat) (fr : Nat → Option Nat) (nx sz : Nat) (q0 q1 q2 q3 : Nat) (s0 t0 l0 : Nat → Nat) (k0 : Nat) (x z : Int32) (hx : 0 ≤ x.toInt ∧ x.toInt < k) (hz : 0 ≤ z.toInt ∧ z.toInt < 7) (hk : k ≤ 16) (hnx : nx < 14) (hsz : sz ≤ 14) (hq0 : fr nx = some q0) : MI l yX8_setLabel wsX8_setLabel ({ frames := 4, cells := 0, slots := 0, locals := 86 }) G [.ref o, .int x, .int z] [(o, .inr (5, [.int (nI V), .long sd, .ref e, .ref cp, .ref bw, .ref ds, .ref hs, .ref sl, .ref sf, .ref tx, .ref ob])), (e, .inr (1, [.ref a1, .ref a2, .ref a3, .int (nI k)])), zA G a1 16 s, zA G a2 16 t, zA G a3 16 lb, (hs, .inr (3, [.ref st, .int (nI nx), .int (nI sz)])), zR G st 14 fr, (q0, .inr (1, [.ref q1, .ref q2, .ref q3, .int (nI k0)])), zA G q1 16 s0, zA G q2 16 t0, zA G q3 16 l0] (nI (lb x.toInt.toNat)) [(o, .inr (5, [.int (nI V), .long sd, .ref e, .ref cp, .ref bw, .ref ds, .ref hs, .ref sl, .ref sf, .ref tx, .ref ob])), (e, .inr (1, [.ref a1, .ref a2, .ref a3, .int (nI k)])), zA G a1 16 s, zA G a2 16 t, zA G a3 16 (zU lb x.toInt.toNat z.toInt.toNat), (hs, .inr (3, [.ref st, .int (nI (zNx nx)), .int (nI (min (sz + 1) 14))])), zR G st 14 fr, (q0, .inr (1, [.ref q1, .ref q2, .ref q3, .int (nI k)])), zA G q1 16 (zTk s0 s k), zA G q2 16 (zTk t0 t k), zA G q3 16 (zTk l0 lb k)] := by
  refine MI.enter (cc := cX8_setLabel) (maxL := 4) (by decide) rfl (Nat.le_of_ble_eq_true rfl) rfl ?_
  intro pM eM sM mM bM tM cM QM AM ls hat kret
  obtain ⟨SM, hA, hK, hE, hP, hD, hS, hl⟩ := hat
  have hx := SM.1
  have hb := SM.2.1
  have hown : sM.vm.findClass RX8 = some mM.cls := SM.2.2.2.1
  have hts := SM.2.2.2.2
  have hinX8 : ∀ w ∈ u_ws RX8 TX8 11, w ∈ wsX8_setLabel := by decide +kernel
  have hlk22 : (Cond.fieldLink RX8 22 "DyckReachability" "edges" "LDyckReachability$Edges;").before _ sM = true := hts _ (by decide +kernel)
  have hlk42 : (Cond.fieldLink RX8 42 "DyckReachability" "history" "LDyckReachability$History;").before _ sM = true := hts _ (by decide +kernel)
  have hinX2 : ∀ w ∈ u_ws RX2 TX2 4, w ∈ wsX8_setLabel := by decide +kernel
  have hlk106 : (Cond.fieldLink RX8 106 "DyckReachability$Edges" "labels" "[I").before _ sM = true := hts _ (by decide +kernel)
  have hl : lv_has ls 4 [(0, .ref o), (1, .int x), (2, .int z)] := hl
  refine lv_aload_n hx hb dX8_setLabel_0 rfl (lv_at hl 0 rfl) ?_
  refine va_get (D := G.1) (ci := 5) (v := .ref e) (C := RX8) (T := TX8) (N := 11) hx hb hts hinX8 hown hK hP 0 rfl rfl 2 (by decide) hlk22 (fun _ h9 => h9) rfl dX8_setLabel_1 ?_
  refine lv_iload_n hx hb dX8_setLabel_4 rfl (lv_at hl 1 rfl) ?_
  refine zVi (W1 := [(o, .inr (5, [.int (nI V), .long sd, .ref e, .ref cp, .ref bw, .ref ds, .ref hs, .ref sl, .ref sf, .ref tx, .ref ob])), (e, .inr (1, [.ref a1, .ref a2, .ref a3, .int (nI k)])), zA G a1 16 s, zA G a2 16 t, zA G a3 16 lb, (hs, .inr (3, [.ref st, .int (nI nx), .int (nI sz)])), zR G st 14 fr, (q0, .inr (1, [.ref q1, .ref q2, .ref q3, .int (nI k0)])), zA G q1 16 s0, zA G q2 16 t0, zA G q3 16 l0]) (W2 := [(o, .inr (5, [.int (nI V), .long sd, .ref e, .ref cp, .ref bw, .ref ds, .ref hs, .ref sl, .ref sf, .ref tx, .ref ob])), (e, .inr (1, [.ref a1, .ref a2, .ref a3, .int (nI k)])), zA G a1 16 s, zA G a2 16 t, zA G a3 16 lb, (hs, .inr (3, [.ref st, .int (nI nx), .int (nI sz)])), zR G st 14 fr, (q0, .inr (1, [.ref q1, .ref q2, .ref q3, .int (nI k0)])), zA G q1 16 s0, zA G q2 16 t0, zA G q3 16 l0]) (wr := [(o, .inr (5, [.int (nI V), .long sd, .ref e, .ref cp, .ref bw, .ref ds, .ref hs, .ref sl, .ref sf, .ref tx, .ref ob])), zA G a1 16 s, zA G a2 16 t, zA G a3 16 lb, (hs, .inr (3, [.ref st, .int (nI nx), .int (nI sz)])), zR G st 14 fr, (q0, .inr (1, [.ref q1, .ref q2, .ref q3, .int (nI k0)])), zA G q1 16 s0, zA G q2 16 t0, zA G q3 16 l0]) (rest := []) SM (c_X2_holds l G e a1 a2 a3 k x (by first | assumption | omega)) (cwV 1 hts gX8_setLabel_X2_holds rfl rfl rfl (by decide +kernel) ⟨Nat.le_of_ble_eq_true rfl, Nat.le_of_ble_eq_true rfl⟩) hK hE hA hP hD hS hl.1 [1] [0, 2, 3, 4, 5, 6, 7, 8, 9, 10] [0, 10, 1, 2, 3, 4, 5, 6, 7, 8, 9] rfl rfl rfl (by decide) (ci := 1) rfl rfl rfl rfl rfl (Nat.le_of_ble_eq_true rfl) ⟨Nat.zero_le _, Nat.zero_le _⟩ dX8_setLabel_5 (fun H locs hP hD hS => ?_)
  refine zb_ne (tgt := 13) hx hb dX8_setLabel_8 (by decide) (fun c_1 => ?_) (fun c_1 => ?_)
  · skip
    refine lv_iload_n hx hb dX8_setLabel_13 rfl (lv_at hl 2 rfl) ?_
    refine zSi (W1 := [(o, .inr (5, [.int (nI V), .long sd, .ref e, .ref cp, .ref bw, .ref ds, .ref hs, .ref sl, .ref sf, .ref tx, .ref ob])), (e, .inr (1, [.ref a1, .ref a2, .ref a3, .int (nI k)])), zA G a1 16 s, zA G a2 16 t, zA G a3 16 lb, (hs, .inr (3, [.ref st, .int (nI nx), .int (nI sz)])), zR G st 14 fr, (q0, .inr (1, [.ref q1, .ref q2, .ref q3, .int (nI k0)])), zA G q1 16 s0, zA G q2 16 t0, zA G q3 16 l0]) (W2 := [(o, .inr (5, [.int (nI V), .long sd, .ref e, .ref cp, .ref bw, .ref ds, .ref hs, .ref sl, .ref sf, .ref tx, .ref ob])), (e, .inr (1, [.ref a1, .ref a2, .ref a3, .int (nI k)])), zA G a1 16 s, zA G a2 16 t, zA G a3 16 lb, (hs, .inr (3, [.ref st, .int (nI nx), .int (nI sz)])), zR G st 14 fr, (q0, .inr (1, [.ref q1, .ref q2, .ref q3, .int (nI k0)])), zA G q1 16 s0, zA G q2 16 t0, zA G q3 16 l0]) (wr := [(o, .inr (5, [.int (nI V), .long sd, .ref e, .ref cp, .ref bw, .ref ds, .ref hs, .ref sl, .ref sf, .ref tx, .ref ob])), (e, .inr (1, [.ref a1, .ref a2, .ref a3, .int (nI k)])), zA G a1 16 s, zA G a2 16 t, zA G a3 16 lb, (hs, .inr (3, [.ref st, .int (nI nx), .int (nI sz)])), zR G st 14 fr, (q0, .inr (1, [.ref q1, .ref q2, .ref q3, .int (nI k0)])), zA G q1 16 s0, zA G q2 16 t0, zA G q3 16 l0]) (rest := []) SM (c_X8_isLabel l G z ) (va_cwS 1 hts gX8_setLabel_X8_isLabel rfl rfl rfl (by decide +kernel) ⟨Nat.le_of_ble_eq_true rfl, Nat.le_of_ble_eq_true rfl⟩) hK hE hA hP hD hS hl.1 [] [0, 1, 2, 3, 4, 5, 6, 7, 8, 9, 10] [0, 1, 2, 3, 4, 5, 6, 7, 8, 9, 10] rfl rfl rfl (by decide) rfl rfl (Nat.le_of_ble_eq_true rfl) ⟨Nat.zero_le _, Nat.zero_le _⟩ dX8_setLabel_14 (fun H locs hP hD hS => ?_)
    refine zb_ne (tgt := 23) hx hb dX8_setLabel_17 (by decide) (fun c_2 => ?_) (fun c_2 => ?_)
    · skip
      have hl : lv_has ls 4 [(0, .ref o), (1, .int (nI x.toInt.toNat)), (2, .int (nI z.toInt.toNat))] := by rw [← xN_eq (x := x) (by omega), ← xN_eq (x := z) (by omega)]; exact hl
      refine lv_aload_n hx hb dX8_setLabel_23 rfl (lv_at hl 0 rfl) ?_
      refine va_get (D := G.1) (ci := 5) (v := .ref hs) (C := RX8) (T := TX8) (N := 11) hx hb hts hinX8 hown hK hP 0 rfl rfl 6 (by decide) hlk42 (fun _ h9 => h9) rfl dX8_setLabel_24 ?_
      refine lv_aload_n hx hb dX8_setLabel_27 rfl (lv_at hl 0 rfl) ?_
      refine va_get (D := G.1) (ci := 5) (v := .ref e) (C := RX8) (T := TX8) (N := 11) hx hb hts hinX8 hown hK hP 0 rfl rfl 2 (by decide) hlk22 (fun _ h9 => h9) rfl dX8_setLabel_28 ?_
      refine zVv (W1 := [(o, .inr (5, [.int (nI V), .long sd, .ref e, .ref cp, .ref bw, .ref ds, .ref hs, .ref sl, .ref sf, .ref tx, .ref ob])), (e, .inr (1, [.ref a1, .ref a2, .ref a3, .int (nI k)])), zA G a1 16 s, zA G a2 16 t, zA G a3 16 lb, (hs, .inr (3, [.ref st, .int (nI nx), .int (nI sz)])), zR G st 14 fr, (q0, .inr (1, [.ref q1, .ref q2, .ref q3, .int (nI k0)])), zA G q1 16 s0, zA G q2 16 t0, zA G q3 16 l0]) (W2 := [(o, .inr (5, [.int (nI V), .long sd, .ref e, .ref cp, .ref bw, .ref ds, .ref hs, .ref sl, .ref sf, .ref tx, .ref ob])), (e, .inr (1, [.ref a1, .ref a2, .ref a3, .int (nI k)])), zA G a1 16 s, zA G a2 16 t, zA G a3 16 lb, (hs, .inr (3, [.ref st, .int (nI (zNx nx)), .int (nI (min (sz + 1) 14))])), zR G st 14 fr, (q0, .inr (1, [.ref q1, .ref q2, .ref q3, .int (nI k)])), zA G q1 16 (zTk s0 s k), zA G q2 16 (zTk t0 t k), zA G q3 16 (zTk l0 lb k)]) (wr := [(o, .inr (5, [.int (nI V), .long sd, .ref e, .ref cp, .ref bw, .ref ds, .ref hs, .ref sl, .ref sf, .ref tx, .ref ob]))]) (rest := []) SM (c_X4_remember l G hs st fr nx sz q0 q1 q2 q3 s0 t0 l0 k0 e a1 a2 a3 s t lb k (by first | assumption | omega) (by first | assumption | omega) (by first | assumption | omega) (by first | assumption | omega)) (cwV 1 hts gX8_setLabel_X4_remember rfl rfl rfl (by decide +kernel) ⟨Nat.le_of_ble_eq_true rfl, Nat.le_of_ble_eq_true rfl⟩) hK hE hA hP hD hS hl.1 [5, 6, 7, 8, 9, 10, 1, 2, 3, 4] [0] [0, 7, 8, 9, 10, 1, 2, 3, 4, 5, 6] rfl rfl rfl (by decide) (ci := 3) rfl rfl rfl rfl rfl (Nat.le_of_ble_eq_true rfl) ⟨Nat.zero_le _, Nat.zero_le _⟩ dX8_setLabel_31 (fun H locs hP hD hS => ?_)
      refine lv_aload_n hx hb dX8_setLabel_34 rfl (lv_at hl 0 rfl) ?_
      refine va_get (D := G.1) (ci := 5) (v := .ref e) (C := RX8) (T := TX8) (N := 11) hx hb hts hinX8 hown hK hP 0 rfl rfl 2 (by decide) hlk22 (fun _ h9 => h9) rfl dX8_setLabel_35 ?_
      refine va_get (D := G.1) (ci := 1) (v := .ref a3) (C := RX2) (T := TX2) (N := 4) hx hb hts hinX2 hown hK hP 1 rfl rfl 2 (by decide) hlk106 (fun _ h9 => h9) rfl dX8_setLabel_38 ?_
      refine lv_iload_n hx hb dX8_setLabel_41 rfl (lv_at hl 1 rfl) ?_
      refine zi_ald hx hb hK hP 4 rfl (by omega) (by omega) dX8_setLabel_42 ?_
      refine lv_istore_n (lv' := [(3, .int (nI (lb x.toInt.toNat))), (0, .ref o), (1, .int (nI x.toInt.toNat)), (2, .int (nI z.toInt.toNat))]) hx hb dX8_setLabel_43 rfl hl (by decide) rfl (fun ls hl => ?_)
      refine lv_aload_n hx hb dX8_setLabel_44 rfl (lv_at hl 1 rfl) ?_
      refine va_get (D := G.1) (ci := 5) (v := .ref e) (C := RX8) (T := TX8) (N := 11) hx hb hts hinX8 hown hK hP 0 rfl rfl 2 (by decide) hlk22 (fun _ h9 => h9) rfl dX8_setLabel_45 ?_
      refine va_get (D := G.1) (ci := 1) (v := .ref a3) (C := RX2) (T := TX2) (N := 4) hx hb hts hinX2 hown hK hP 1 rfl rfl 2 (by decide) hlk106 (fun _ h9 => h9) rfl dX8_setLabel_48 ?_
      refine lv_iload_n hx hb dX8_setLabel_51 rfl (lv_at hl 2 rfl) ?_
      refine lv_iload_n hx hb dX8_setLabel_52 rfl (lv_at hl 3 rfl) ?_
      refine zi_ast hx hb hK hP hD hS 4 rfl (by omega) (by omega) dX8_setLabel_53 (fun H locs hP hD hS => ?_)
      have hP : va_P G.1 vwCl [(o, .inr (5, [.int (nI V), .long sd, .ref e, .ref cp, .ref bw, .ref ds, .ref hs, .ref sl, .ref sf, .ref tx, .ref ob])), (e, .inr (1, [.ref a1, .ref a2, .ref a3, .int (nI k)])), zA G a1 16 s, zA G a2 16 t, zA G a3 16 (zU lb x.toInt.toNat z.toInt.toNat), (hs, .inr (3, [.ref st, .int (nI (zNx nx)), .int (nI (min (sz + 1) 14))])), zR G st 14 fr, (q0, .inr (1, [.ref q1, .ref q2, .ref q3, .int (nI k)])), zA G q1 16 (zTk s0 s k), zA G q2 16 (zTk t0 t k), zA G q3 16 (zTk l0 lb k)] H := hP
      have hD : va_D AM [(o, .inr (5, [.int (nI V), .long sd, .ref e, .ref cp, .ref bw, .ref ds, .ref hs, .ref sl, .ref sf, .ref tx, .ref ob])), (e, .inr (1, [.ref a1, .ref a2, .ref a3, .int (nI k)])), zA G a1 16 s, zA G a2 16 t, zA G a3 16 (zU lb x.toInt.toNat z.toInt.toNat), (hs, .inr (3, [.ref st, .int (nI (zNx nx)), .int (nI (min (sz + 1) 14))])), zR G st 14 fr, (q0, .inr (1, [.ref q1, .ref q2, .ref q3, .int (nI k)])), zA G q1 16 (zTk s0 s k), zA G q2 16 (zTk t0 t k), zA G q3 16 (zTk l0 lb k)] := hD
      refine lv_iload_n hx hb dX8_setLabel_54 rfl (lv_at hl 0 rfl) ?_
      exact kret _ _ _ _ _ _ rfl rfl hP hD hS dX8_setLabel_55
    · skip
      exfalso; omega
  · skip
    exfalso; omega
set_option maxHeartbeats 4000000 in
set_option maxRecDepth 100000 in
theorem c_X8_setLabel_bad (l : Launch) (G : zG) (o e cp bw ds hs sl sf tx ob V : Nat) (sd : Int64) (a1 a2 a3 k : Nat) (x z : Int32) (hk : k ≤ 16) (hb0 : ¬ ((0 ≤ x.toInt ∧ x.toInt < k) ∧ (0 ≤ z.toInt ∧ z.toInt < 7))) : MI l yX8_setLabel wsX8_setLabel ({ frames := 1, cells := 0, slots := 0, locals := 21 }) G [.ref o, .int x, .int z] [(o, .inr (5, [.int (nI V), .long sd, .ref e, .ref cp, .ref bw, .ref ds, .ref hs, .ref sl, .ref sf, .ref tx, .ref ob])), (e, .inr (1, [.ref a1, .ref a2, .ref a3, .int (nI k)]))] (zSlX k x z) [(o, .inr (5, [.int (nI V), .long sd, .ref e, .ref cp, .ref bw, .ref ds, .ref hs, .ref sl, .ref sf, .ref tx, .ref ob])), (e, .inr (1, [.ref a1, .ref a2, .ref a3, .int (nI k)]))] := by
  refine MI.enter (cc := cX8_setLabel) (maxL := 4) (by decide) rfl (Nat.le_of_ble_eq_true rfl) rfl ?_
  intro pM eM sM mM bM tM cM QM AM ls hat kret
  obtain ⟨SM, hA, hK, hE, hP, hD, hS, hl⟩ := hat
  have hx := SM.1
  have hb := SM.2.1
  have hown : sM.vm.findClass RX8 = some mM.cls := SM.2.2.2.1
  have hts := SM.2.2.2.2
  have hinX8 : ∀ w ∈ u_ws RX8 TX8 11, w ∈ wsX8_setLabel := by decide +kernel
  have hlk22 : (Cond.fieldLink RX8 22 "DyckReachability" "edges" "LDyckReachability$Edges;").before _ sM = true := hts _ (by decide +kernel)
  have hl : lv_has ls 4 [(0, .ref o), (1, .int x), (2, .int z)] := hl
  refine lv_aload_n hx hb dX8_setLabel_0 rfl (lv_at hl 0 rfl) ?_
  refine va_get (D := G.1) (ci := 5) (v := .ref e) (C := RX8) (T := TX8) (N := 11) hx hb hts hinX8 hown hK hP 0 rfl rfl 2 (by decide) hlk22 (fun _ h9 => h9) rfl dX8_setLabel_1 ?_
  refine lv_iload_n hx hb dX8_setLabel_4 rfl (lv_at hl 1 rfl) ?_
  refine zVi (W1 := [(o, .inr (5, [.int (nI V), .long sd, .ref e, .ref cp, .ref bw, .ref ds, .ref hs, .ref sl, .ref sf, .ref tx, .ref ob])), (e, .inr (1, [.ref a1, .ref a2, .ref a3, .int (nI k)]))]) (W2 := [(o, .inr (5, [.int (nI V), .long sd, .ref e, .ref cp, .ref bw, .ref ds, .ref hs, .ref sl, .ref sf, .ref tx, .ref ob])), (e, .inr (1, [.ref a1, .ref a2, .ref a3, .int (nI k)]))]) (wr := [(o, .inr (5, [.int (nI V), .long sd, .ref e, .ref cp, .ref bw, .ref ds, .ref hs, .ref sl, .ref sf, .ref tx, .ref ob]))]) (rest := []) SM (c_X2_holds l G e a1 a2 a3 k x (by first | assumption | omega)) (cwV 1 hts gX8_setLabel_X2_holds rfl rfl rfl (by decide +kernel) ⟨Nat.le_of_ble_eq_true rfl, Nat.le_of_ble_eq_true rfl⟩) hK hE hA hP hD hS hl.1 [1] [0] [0, 1] rfl rfl rfl (by decide) (ci := 1) rfl rfl rfl rfl rfl (Nat.le_of_ble_eq_true rfl) ⟨Nat.zero_le _, Nat.zero_le _⟩ dX8_setLabel_5 (fun H locs hP hD hS => ?_)
  refine zb_ne (tgt := 13) hx hb dX8_setLabel_8 (by decide) (fun c_1 => ?_) (fun c_1 => ?_)
  · skip
    refine lv_iload_n hx hb dX8_setLabel_13 rfl (lv_at hl 2 rfl) ?_
    refine zSi (W1 := [(o, .inr (5, [.int (nI V), .long sd, .ref e, .ref cp, .ref bw, .ref ds, .ref hs, .ref sl, .ref sf, .ref tx, .ref ob])), (e, .inr (1, [.ref a1, .ref a2, .ref a3, .int (nI k)]))]) (W2 := [(o, .inr (5, [.int (nI V), .long sd, .ref e, .ref cp, .ref bw, .ref ds, .ref hs, .ref sl, .ref sf, .ref tx, .ref ob])), (e, .inr (1, [.ref a1, .ref a2, .ref a3, .int (nI k)]))]) (wr := [(o, .inr (5, [.int (nI V), .long sd, .ref e, .ref cp, .ref bw, .ref ds, .ref hs, .ref sl, .ref sf, .ref tx, .ref ob])), (e, .inr (1, [.ref a1, .ref a2, .ref a3, .int (nI k)]))]) (rest := []) SM (c_X8_isLabel l G z ) (va_cwS 1 hts gX8_setLabel_X8_isLabel rfl rfl rfl (by decide +kernel) ⟨Nat.le_of_ble_eq_true rfl, Nat.le_of_ble_eq_true rfl⟩) hK hE hA hP hD hS hl.1 [] [0, 1] [0, 1] rfl rfl rfl (by decide) rfl rfl (Nat.le_of_ble_eq_true rfl) ⟨Nat.zero_le _, Nat.zero_le _⟩ dX8_setLabel_14 (fun H locs hP hD hS => ?_)
    refine zb_ne (tgt := 23) hx hb dX8_setLabel_17 (by decide) (fun c_2 => ?_) (fun c_2 => ?_)
    · skip
      exfalso; omega
    · skip
      refine lv_bipush (v := (-2)) hx hb dX8_setLabel_20 (by decide) ?_
      exact kret _ _ _ _ _ _ (by unfold zSlX; repeat (first | rw [if_pos (by first | assumption | omega)] | rw [if_neg (by first | assumption | omega)])) rfl hP hD hS dX8_setLabel_22
  · skip
    refine lv_iconst (v := (-1)) hx hb dX8_setLabel_11 (by decide) ?_
    exact kret _ _ _ _ _ _ (by unfold zSlX; repeat (first | rw [if_pos (by first | assumption | omega)] | rw [if_neg (by first | assumption | omega)])) rfl hP hD hS dX8_setLabel_12
set_option maxHeartbeats 4000000 in
set_option maxRecDepth 100000 in
theorem c_X8_undo_ok (l : Launch) (G : zG) (o e cp bw ds hs sl sf tx ob V : Nat) (sd : Int64) (a1 a2 a3 : Nat) (s t lb : Nat → Nat) (k : Nat) (st : Nat) (fr : Nat → Option Nat) (nx sz : Nat) (q0 q1 q2 q3 : Nat) (s0 t0 l0 : Nat → Nat) (k0 : Nat) (hnx : nx < 14) (hsz : sz ≤ 14) (hs1 : 0 < sz) (hq0 : fr (zPv nx) = some q0) (hk0 : k0 ≤ 16) : MI l yX8_undo wsX8_undo ({ frames := 4, cells := 0, slots := 0, locals := 86 }) G [.ref o] [(o, .inr (5, [.int (nI V), .long sd, .ref e, .ref cp, .ref bw, .ref ds, .ref hs, .ref sl, .ref sf, .ref tx, .ref ob])), (e, .inr (1, [.ref a1, .ref a2, .ref a3, .int (nI k)])), zA G a1 16 s, zA G a2 16 t, zA G a3 16 lb, (hs, .inr (3, [.ref st, .int (nI nx), .int (nI sz)])), zR G st 14 fr, (q0, .inr (1, [.ref q1, .ref q2, .ref q3, .int (nI k0)])), zA G q1 16 s0, zA G q2 16 t0, zA G q3 16 l0] (nI (sz - 1)) [(o, .inr (5, [.int (nI V), .long sd, .ref e, .ref cp, .ref bw, .ref ds, .ref hs, .ref sl, .ref sf, .ref tx, .ref ob])), (e, .inr (1, [.ref a1, .ref a2, .ref a3, .int (nI k0)])), zA G a1 16 (zTk s s0 k0), zA G a2 16 (zTk t t0 k0), zA G a3 16 (zTk lb l0 k0), (hs, .inr (3, [.ref st, .int (nI (zPv nx)), .int (nI (sz - 1))])), zR G st 14 fr, (q0, .inr (1, [.ref q1, .ref q2, .ref q3, .int (nI k0)])), zA G q1 16 s0, zA G q2 16 t0, zA G q3 16 l0] := by
  refine MI.enter (cc := cX8_undo) (maxL := 1) (by decide) rfl (Nat.le_of_ble_eq_true rfl) rfl ?_
  intro pM eM sM mM bM tM cM QM AM ls hat kret
  obtain ⟨SM, hA, hK, hE, hP, hD, hS, hl⟩ := hat
  have hx := SM.1
  have hb := SM.2.1
  have hown : sM.vm.findClass RX8 = some mM.cls := SM.2.2.2.1
  have hts := SM.2.2.2.2
  have hinX8 : ∀ w ∈ u_ws RX8 TX8 11, w ∈ wsX8_undo := by decide +kernel
  have hlk42 : (Cond.fieldLink RX8 42 "DyckReachability" "history" "LDyckReachability$History;").before _ sM = true := hts _ (by decide +kernel)
  have hinX4 : ∀ w ∈ u_ws RX4 TX4 3, w ∈ wsX8_undo := by decide +kernel
  have hlk125 : (Cond.fieldLink RX8 125 "DyckReachability$History" "size" "I").before _ sM = true := hts _ (by decide +kernel)
  have hlk22 : (Cond.fieldLink RX8 22 "DyckReachability" "edges" "LDyckReachability$Edges;").before _ sM = true := hts _ (by decide +kernel)
  have hl : lv_has ls 1 [(0, .ref o)] := hl
  refine lv_aload_n hx hb dX8_undo_0 rfl (lv_at hl 0 rfl) ?_
  refine va_get (D := G.1) (ci := 5) (v := .ref hs) (C := RX8) (T := TX8) (N := 11) hx hb hts hinX8 hown hK hP 0 rfl rfl 6 (by decide) hlk42 (fun _ h9 => h9) rfl dX8_undo_1 ?_
  refine va_get (D := G.1) (ci := 3) (v := .int (nI sz)) (C := RX4) (T := TX4) (N := 3) hx hb hts hinX4 hown hK hP 5 rfl rfl 2 (by decide) hlk125 (fun _ h9 => h9) rfl dX8_undo_4 ?_
  refine zd_ne (a := (sz : Nat)) (tgt := 13) hx hb dX8_undo_7 (by decide) (zI (by omega)) (fun c_1 => ?_) (fun c_1 => ?_)
  · skip
    refine lv_aload_n hx hb dX8_undo_13 rfl (lv_at hl 0 rfl) ?_
    refine va_get (D := G.1) (ci := 5) (v := .ref hs) (C := RX8) (T := TX8) (N := 11) hx hb hts hinX8 hown hK hP 0 rfl rfl 6 (by decide) hlk42 (fun _ h9 => h9) rfl dX8_undo_14 ?_
    refine lv_aload_n hx hb dX8_undo_17 rfl (lv_at hl 0 rfl) ?_
    refine va_get (D := G.1) (ci := 5) (v := .ref e) (C := RX8) (T := TX8) (N := 11) hx hb hts hinX8 hown hK hP 0 rfl rfl 2 (by decide) hlk22 (fun _ h9 => h9) rfl dX8_undo_18 ?_
    refine zVv (W1 := [(o, .inr (5, [.int (nI V), .long sd, .ref e, .ref cp, .ref bw, .ref ds, .ref hs, .ref sl, .ref sf, .ref tx, .ref ob])), (e, .inr (1, [.ref a1, .ref a2, .ref a3, .int (nI k)])), zA G a1 16 s, zA G a2 16 t, zA G a3 16 lb, (hs, .inr (3, [.ref st, .int (nI nx), .int (nI sz)])), zR G st 14 fr, (q0, .inr (1, [.ref q1, .ref q2, .ref q3, .int (nI k0)])), zA G q1 16 s0, zA G q2 16 t0, zA G q3 16 l0]) (W2 := [(o, .inr (5, [.int (nI V), .long sd, .ref e, .ref cp, .ref bw, .ref ds, .ref hs, .ref sl, .ref sf, .ref tx, .ref ob])), (e, .inr (1, [.ref a1, .ref a2, .ref a3, .int (nI k0)])), zA G a1 16 (zTk s s0 k0), zA G a2 16 (zTk t t0 k0), zA G a3 16 (zTk lb l0 k0), (hs, .inr (3, [.ref st, .int (nI (zPv nx)), .int (nI (sz - 1))])), zR G st 14 fr, (q0, .inr (1, [.ref q1, .ref q2, .ref q3, .int (nI k0)])), zA G q1 16 s0, zA G q2 16 t0, zA G q3 16 l0]) (wr := [(o, .inr (5, [.int (nI V), .long sd, .ref e, .ref cp, .ref bw, .ref ds, .ref hs, .ref sl, .ref sf, .ref tx, .ref ob]))]) (rest := []) SM (c_X4_giveBack l G hs st fr nx sz q0 q1 q2 q3 s0 t0 l0 k0 e a1 a2 a3 s t lb k (by first | assumption | omega) (by first | assumption | omega) (by first | assumption | omega) (by first | assumption | omega) (by first | assumption | omega)) (cwV 1 hts gX8_undo_X4_giveBack rfl rfl rfl (by decide +kernel) ⟨Nat.le_of_ble_eq_true rfl, Nat.le_of_ble_eq_true rfl⟩) hK hE hA hP hD hS hl.1 [5, 6, 7, 8, 9, 10, 1, 2, 3, 4] [0] [0, 7, 8, 9, 10, 1, 2, 3, 4, 5, 6] rfl rfl rfl (by decide) (ci := 3) rfl rfl rfl rfl rfl (Nat.le_of_ble_eq_true rfl) ⟨Nat.zero_le _, Nat.zero_le _⟩ dX8_undo_21 (fun H locs hP hD hS => ?_)
    refine lv_aload_n hx hb dX8_undo_24 rfl (lv_at hl 0 rfl) ?_
    refine va_get (D := G.1) (ci := 5) (v := .ref hs) (C := RX8) (T := TX8) (N := 11) hx hb hts hinX8 hown hK hP 0 rfl rfl 6 (by decide) hlk42 (fun _ h9 => h9) rfl dX8_undo_25 ?_
    refine va_get (D := G.1) (ci := 3) (v := .int (nI (sz - 1))) (C := RX4) (T := TX4) (N := 3) hx hb hts hinX4 hown hK hP 5 rfl rfl 2 (by decide) hlk125 (fun _ h9 => h9) rfl dX8_undo_28 ?_
    exact kret _ _ _ _ _ _ rfl rfl hP hD hS dX8_undo_31
  · skip
    exfalso; omega
set_option maxHeartbeats 4000000 in
set_option maxRecDepth 100000 in
theorem c_X8_undo_bad (l : Launch) (G : zG) (o e cp bw ds hs sl sf tx ob V : Nat) (sd : Int64) (st nx sz : Nat) (hs0 : sz = 0) : MI l yX8_undo wsX8_undo ({ frames := 0, cells := 0, slots := 0, locals := 0 }) G [.ref o] [(o, .inr (5, [.int (nI V), .long sd, .ref e, .ref cp, .ref bw, .ref ds, .ref hs, .ref sl, .ref sf, .ref tx, .ref ob])), (hs, .inr (3, [.ref st, .int (nI nx), .int (nI sz)]))] (-3) [(o, .inr (5, [.int (nI V), .long sd, .ref e, .ref cp, .ref bw, .ref ds, .ref hs, .ref sl, .ref sf, .ref tx, .ref ob])), (hs, .inr (3, [.ref st, .int (nI nx), .int (nI sz)]))] := by
  refine MI.enter (cc := cX8_undo) (maxL := 1) (by decide) rfl (Nat.le_of_ble_eq_true rfl) rfl ?_
  intro pM eM sM mM bM tM cM QM AM ls hat kret
  obtain ⟨SM, hA, hK, hE, hP, hD, hS, hl⟩ := hat
  have hx := SM.1
  have hb := SM.2.1
  have hown : sM.vm.findClass RX8 = some mM.cls := SM.2.2.2.1
  have hts := SM.2.2.2.2
  have hinX8 : ∀ w ∈ u_ws RX8 TX8 11, w ∈ wsX8_undo := by decide +kernel
  have hlk42 : (Cond.fieldLink RX8 42 "DyckReachability" "history" "LDyckReachability$History;").before _ sM = true := hts _ (by decide +kernel)
  have hinX4 : ∀ w ∈ u_ws RX4 TX4 3, w ∈ wsX8_undo := by decide +kernel
  have hlk125 : (Cond.fieldLink RX8 125 "DyckReachability$History" "size" "I").before _ sM = true := hts _ (by decide +kernel)
  have hl : lv_has ls 1 [(0, .ref o)] := hl
  refine lv_aload_n hx hb dX8_undo_0 rfl (lv_at hl 0 rfl) ?_
  refine va_get (D := G.1) (ci := 5) (v := .ref hs) (C := RX8) (T := TX8) (N := 11) hx hb hts hinX8 hown hK hP 0 rfl rfl 6 (by decide) hlk42 (fun _ h9 => h9) rfl dX8_undo_1 ?_
  refine va_get (D := G.1) (ci := 3) (v := .int (nI sz)) (C := RX4) (T := TX4) (N := 3) hx hb hts hinX4 hown hK hP 1 rfl rfl 2 (by decide) hlk125 (fun _ h9 => h9) rfl dX8_undo_4 ?_
  refine zd_ne (a := (sz : Nat)) (tgt := 13) hx hb dX8_undo_7 (by decide) (zI (by omega)) (fun c_1 => ?_) (fun c_1 => ?_)
  · skip
    exfalso; omega
  · skip
    refine lv_bipush (v := (-3)) hx hb dX8_undo_10 (by decide) ?_
    exact kret _ _ _ _ _ _ rfl rfl hP hD hS dX8_undo_12
set_option maxHeartbeats 4000000 in
set_option maxRecDepth 100000 in
theorem c_X8_reachableFrom (l : Launch) (G : zG) (o e cp bw ds hs sl sf tx ob V : Nat) (sd : Int64) (a1 a2 a3 : Nat) (s t lb : Nat → Nat) (k : Nat) (x : Int32) (hV : V ≤ 8) (hk : k ≤ 16) (hbs : ∀ i, s i < 8) (hbt : ∀ i, t i < 8) (hlb : ∀ i, lb i < 7) : MI l yX8_reachableFrom wsX8_reachableFrom ({ frames := 4, cells := 0, slots := 0, locals := 100 }) G [.ref o, .int x] [(o, .inr (5, [.int (nI V), .long sd, .ref e, .ref cp, .ref bw, .ref ds, .ref hs, .ref sl, .ref sf, .ref tx, .ref ob])), (e, .inr (1, [.ref a1, .ref a2, .ref a3, .int (nI k)])), zA G a1 16 s, zA G a2 16 t, zA G a3 16 lb] (zRfX s t lb k V x) [(o, .inr (5, [.int (nI V), .long sd, .ref e, .ref cp, .ref bw, .ref ds, .ref hs, .ref sl, .ref sf, .ref tx, .ref ob])), (e, .inr (1, [.ref a1, .ref a2, .ref a3, .int (nI k)])), zA G a1 16 s, zA G a2 16 t, zA G a3 16 lb] := by
  refine MI.enter (cc := cX8_reachableFrom) (maxL := 2) (by decide) rfl (Nat.le_of_ble_eq_true rfl) rfl ?_
  intro pM eM sM mM bM tM cM QM AM ls hat kret
  obtain ⟨SM, hA, hK, hE, hP, hD, hS, hl⟩ := hat
  have hx := SM.1
  have hb := SM.2.1
  have hown : sM.vm.findClass RX8 = some mM.cls := SM.2.2.2.1
  have hts := SM.2.2.2.2
  have hinX8 : ∀ w ∈ u_ws RX8 TX8 11, w ∈ wsX8_reachableFrom := by decide +kernel
  have hlk22 : (Cond.fieldLink RX8 22 "DyckReachability" "edges" "LDyckReachability$Edges;").before _ sM = true := hts _ (by decide +kernel)
  have hlk9 : (Cond.fieldLink RX8 9 "DyckReachability" "vertices" "I").before _ sM = true := hts _ (by decide +kernel)
  have hl : lv_has ls 2 [(0, .ref o), (1, .int x)] := hl
  refine lv_aload_n hx hb dX8_reachableFrom_0 rfl (lv_at hl 0 rfl) ?_
  refine lv_iload_n hx hb dX8_reachableFrom_1 rfl (lv_at hl 1 rfl) ?_
  refine zVi (W1 := [(o, .inr (5, [.int (nI V), .long sd, .ref e, .ref cp, .ref bw, .ref ds, .ref hs, .ref sl, .ref sf, .ref tx, .ref ob])), (e, .inr (1, [.ref a1, .ref a2, .ref a3, .int (nI k)])), zA G a1 16 s, zA G a2 16 t, zA G a3 16 lb]) (W2 := [(o, .inr (5, [.int (nI V), .long sd, .ref e, .ref cp, .ref bw, .ref ds, .ref hs, .ref sl, .ref sf, .ref tx, .ref ob])), (e, .inr (1, [.ref a1, .ref a2, .ref a3, .int (nI k)])), zA G a1 16 s, zA G a2 16 t, zA G a3 16 lb]) (wr := [(e, .inr (1, [.ref a1, .ref a2, .ref a3, .int (nI k)])), zA G a1 16 s, zA G a2 16 t, zA G a3 16 lb]) (rest := []) SM (c_X8_isVertex l G o e cp bw ds hs sl sf tx ob V sd x (by first | assumption | omega)) (cwV 1 hts gX8_reachableFrom_X8_isVertex rfl rfl rfl (by decide +kernel) ⟨Nat.le_of_ble_eq_true rfl, Nat.le_of_ble_eq_true rfl⟩) hK hE hA hP hD hS hl.1 [0] [1, 2, 3, 4] [4, 0, 1, 2, 3] rfl rfl rfl (by decide) (ci := 5) rfl rfl rfl rfl rfl (Nat.le_of_ble_eq_true rfl) ⟨Nat.zero_le _, Nat.zero_le _⟩ dX8_reachableFrom_2 (fun H locs hP hD hS => ?_)
  refine zb_ne (tgt := 10) hx hb dX8_reachableFrom_5 (by decide) (fun c_1 => ?_) (fun c_1 => ?_)
  · skip
    have hl : lv_has ls 2 [(0, .ref o), (1, .int (nI x.toInt.toNat))] := by rw [← xN_eq (x := x) (by omega)]; exact hl
    refine lv_aload_n hx hb dX8_reachableFrom_10 rfl (lv_at hl 0 rfl) ?_
    refine va_get (D := G.1) (ci := 5) (v := .ref e) (C := RX8) (T := TX8) (N := 11) hx hb hts hinX8 hown hK hP 0 rfl rfl 2 (by decide) hlk22 (fun _ h9 => h9) rfl dX8_reachableFrom_11 ?_
    refine lv_aload_n hx hb dX8_reachableFrom_14 rfl (lv_at hl 0 rfl) ?_
    refine va_get (D := G.1) (ci := 5) (v := .int (nI V)) (C := RX8) (T := TX8) (N := 11) hx hb hts hinX8 hown hK hP 0 rfl rfl 0 (by decide) hlk9 (fun _ h9 => h9) rfl dX8_reachableFrom_15 ?_
    refine zSl (W1 := [(o, .inr (5, [.int (nI V), .long sd, .ref e, .ref cp, .ref bw, .ref ds, .ref hs, .ref sl, .ref sf, .ref tx, .ref ob])), (e, .inr (1, [.ref a1, .ref a2, .ref a3, .int (nI k)])), zA G a1 16 s, zA G a2 16 t, zA G a3 16 lb]) (W2 := [(o, .inr (5, [.int (nI V), .long sd, .ref e, .ref cp, .ref bw, .ref ds, .ref hs, .ref sl, .ref sf, .ref tx, .ref ob])), (e, .inr (1, [.ref a1, .ref a2, .ref a3, .int (nI k)])), zA G a1 16 s, zA G a2 16 t, zA G a3 16 lb]) (wr := [(o, .inr (5, [.int (nI V), .long sd, .ref e, .ref cp, .ref bw, .ref ds, .ref hs, .ref sl, .ref sf, .ref tx, .ref ob]))]) (rest := []) SM (c_X6_ofBalancedPaths l G e a1 a2 a3 16 s t lb k V (by first | assumption | omega) (by first | assumption | omega) (by first | assumption | omega) (by first | assumption | omega) (by first | assumption | omega) (by first | assumption | omega)) (va_cwS 2 hts gX8_reachableFrom_X6_ofBalancedPaths rfl rfl rfl (by decide +kernel) ⟨Nat.le_of_ble_eq_true rfl, Nat.le_of_ble_eq_true rfl⟩) hK hE hA hP hD hS hl.1 [1, 2, 3, 4] [0] [0, 1, 2, 3, 4] rfl rfl rfl (by decide) rfl rfl (Nat.le_of_ble_eq_true rfl) ⟨Nat.zero_le _, Nat.zero_le _⟩ dX8_reachableFrom_18 (fun H locs hP hD hS => ?_)
    refine lv_iload_n hx hb dX8_reachableFrom_21 rfl (lv_at hl 1 rfl) ?_
    have hbl := zBp_lt (s := s) (t := t) (lb := lb) (k := k) (V := V) hbs hV
    refine zSi (W1 := [(o, .inr (5, [.int (nI V), .long sd, .ref e, .ref cp, .ref bw, .ref ds, .ref hs, .ref sl, .ref sf, .ref tx, .ref ob])), (e, .inr (1, [.ref a1, .ref a2, .ref a3, .int (nI k)])), zA G a1 16 s, zA G a2 16 t, zA G a3 16 lb]) (W2 := [(o, .inr (5, [.int (nI V), .long sd, .ref e, .ref cp, .ref bw, .ref ds, .ref hs, .ref sl, .ref sf, .ref tx, .ref ob])), (e, .inr (1, [.ref a1, .ref a2, .ref a3, .int (nI k)])), zA G a1 16 s, zA G a2 16 t, zA G a3 16 lb]) (wr := [(o, .inr (5, [.int (nI V), .long sd, .ref e, .ref cp, .ref bw, .ref ds, .ref hs, .ref sl, .ref sf, .ref tx, .ref ob])), (e, .inr (1, [.ref a1, .ref a2, .ref a3, .int (nI k)])), zA G a1 16 s, zA G a2 16 t, zA G a3 16 lb]) (rest := []) SM (c_X6_row l G (zBp s t lb k V) x.toInt.toNat (by first | assumption | omega) (by first | assumption | omega)) (va_cwS 2 hts gX8_reachableFrom_X6_row rfl rfl rfl (by decide +kernel) ⟨Nat.le_of_ble_eq_true rfl, Nat.le_of_ble_eq_true rfl⟩) hK hE hA hP hD hS hl.1 [] [0, 1, 2, 3, 4] [0, 1, 2, 3, 4] rfl rfl rfl (by decide) rfl rfl (Nat.le_of_ble_eq_true rfl) ⟨Nat.zero_le _, Nat.zero_le _⟩ dX8_reachableFrom_22 (fun H locs hP hD hS => ?_)
    exact kret _ _ _ _ _ _ (by unfold zRfX; repeat (first | rw [if_pos (by first | assumption | omega)] | rw [if_neg (by first | assumption | omega)])) rfl hP hD hS dX8_reachableFrom_25
  · skip
    refine lv_iconst (v := (-1)) hx hb dX8_reachableFrom_8 (by decide) ?_
    exact kret _ _ _ _ _ _ (by unfold zRfX; repeat (first | rw [if_pos (by first | assumption | omega)] | rw [if_neg (by first | assumption | omega)])) rfl hP hD hS dX8_reachableFrom_9
set_option maxHeartbeats 4000000 in
set_option maxRecDepth 100000 in
theorem c_X8_pairCount (l : Launch) (G : zG) (o e cp bw ds hs sl sf tx ob V : Nat) (sd : Int64) (a1 a2 a3 : Nat) (s t lb : Nat → Nat) (k : Nat) (hV : V ≤ 8) (hk : k ≤ 16) (hbs : ∀ i, s i < 8) (hbt : ∀ i, t i < 8) (hlb : ∀ i, lb i < 7) : MI l yX8_pairCount wsX8_pairCount ({ frames := 5, cells := 0, slots := 0, locals := 121 }) G [.ref o] [(o, .inr (5, [.int (nI V), .long sd, .ref e, .ref cp, .ref bw, .ref ds, .ref hs, .ref sl, .ref sf, .ref tx, .ref ob])), (e, .inr (1, [.ref a1, .ref a2, .ref a3, .int (nI k)])), zA G a1 16 s, zA G a2 16 t, zA G a3 16 lb] (nI (zPr s t lb k V)) [(o, .inr (5, [.int (nI V), .long sd, .ref e, .ref cp, .ref bw, .ref ds, .ref hs, .ref sl, .ref sf, .ref tx, .ref ob])), (e, .inr (1, [.ref a1, .ref a2, .ref a3, .int (nI k)])), zA G a1 16 s, zA G a2 16 t, zA G a3 16 lb] := by
  refine MI.enter (cc := cX8_pairCount) (maxL := 1) (by decide) rfl (Nat.le_of_ble_eq_true rfl) rfl ?_
  intro pM eM sM mM bM tM cM QM AM ls hat kret
  obtain ⟨SM, hA, hK, hE, hP, hD, hS, hl⟩ := hat
  have hx := SM.1
  have hb := SM.2.1
  have hown : sM.vm.findClass RX8 = some mM.cls := SM.2.2.2.1
  have hts := SM.2.2.2.2
  have hinX8 : ∀ w ∈ u_ws RX8 TX8 11, w ∈ wsX8_pairCount := by decide +kernel
  have hlk22 : (Cond.fieldLink RX8 22 "DyckReachability" "edges" "LDyckReachability$Edges;").before _ sM = true := hts _ (by decide +kernel)
  have hl : lv_has ls 1 [(0, .ref o)] := hl
  refine lv_aload_n hx hb dX8_pairCount_0 rfl (lv_at hl 0 rfl) ?_
  refine lv_aload_n hx hb dX8_pairCount_1 rfl (lv_at hl 0 rfl) ?_
  refine va_get (D := G.1) (ci := 5) (v := .ref e) (C := RX8) (T := TX8) (N := 11) hx hb hts hinX8 hown hK hP 0 rfl rfl 2 (by decide) hlk22 (fun _ h9 => h9) rfl dX8_pairCount_2 ?_
  refine zVi (W1 := [(o, .inr (5, [.int (nI V), .long sd, .ref e, .ref cp, .ref bw, .ref ds, .ref hs, .ref sl, .ref sf, .ref tx, .ref ob])), (e, .inr (1, [.ref a1, .ref a2, .ref a3, .int (nI k)])), zA G a1 16 s, zA G a2 16 t, zA G a3 16 lb]) (W2 := [(o, .inr (5, [.int (nI V), .long sd, .ref e, .ref cp, .ref bw, .ref ds, .ref hs, .ref sl, .ref sf, .ref tx, .ref ob])), (e, .inr (1, [.ref a1, .ref a2, .ref a3, .int (nI k)])), zA G a1 16 s, zA G a2 16 t, zA G a3 16 lb]) (wr := []) (rest := []) SM (c_X8_countPairs l G o e cp bw ds hs sl sf tx ob V sd e a1 a2 a3 s t lb k (by first | assumption | omega) (by first | assumption | omega) (by first | assumption | omega) (by first | assumption | omega) (by first | assumption | omega)) (cwV 1 hts gX8_pairCount_X8_countPairs rfl rfl rfl (by decide +kernel) ⟨Nat.le_of_ble_eq_true rfl, Nat.le_of_ble_eq_true rfl⟩) hK hE hA hP hD hS hl.1 [0, 1, 2, 3, 4] [] [0, 1, 2, 3, 4] rfl rfl rfl (by decide) (ci := 5) rfl rfl rfl rfl rfl (Nat.le_of_ble_eq_true rfl) ⟨Nat.zero_le _, Nat.zero_le _⟩ dX8_pairCount_5 (fun H locs hP hD hS => ?_)
  exact kret _ _ _ _ _ _ rfl rfl hP hD hS dX8_pairCount_8
set_option maxHeartbeats 4000000 in
set_option maxRecDepth 100000 in
theorem c_X8_distance_bad (l : Launch) (G : zG) (o e cp bw ds hs sl sf tx ob V : Nat) (sd : Int64) (x y : Int32) (hV : V ≤ 8) (hb0 : ¬ ((0 ≤ x.toInt ∧ x.toInt < V) ∧ (0 ≤ y.toInt ∧ y.toInt < V))) : MI l yX8_distance wsX8_distance ({ frames := 1, cells := 0, slots := 0, locals := 21 }) G [.ref o, .int x, .int y] [(o, .inr (5, [.int (nI V), .long sd, .ref e, .ref cp, .ref bw, .ref ds, .ref hs, .ref sl, .ref sf, .ref tx, .ref ob]))] (-1) [(o, .inr (5, [.int (nI V), .long sd, .ref e, .ref cp, .ref bw, .ref ds, .ref hs, .ref sl, .ref sf, .ref tx, .ref ob]))] := by
  refine MI.enter (cc := cX8_distance) (maxL := 3) (by decide) rfl (Nat.le_of_ble_eq_true rfl) rfl ?_
  intro pM eM sM mM bM tM cM QM AM ls hat kret
  obtain ⟨SM, hA, hK, hE, hP, hD, hS, hl⟩ := hat
  have hx := SM.1
  have hb := SM.2.1
  have hown : sM.vm.findClass RX8 = some mM.cls := SM.2.2.2.1
  have hts := SM.2.2.2.2
  have hl : lv_has ls 3 [(0, .ref o), (1, .int x), (2, .int y)] := hl
  refine lv_aload_n hx hb dX8_distance_0 rfl (lv_at hl 0 rfl) ?_
  refine lv_iload_n hx hb dX8_distance_1 rfl (lv_at hl 1 rfl) ?_
  refine zVi (W1 := [(o, .inr (5, [.int (nI V), .long sd, .ref e, .ref cp, .ref bw, .ref ds, .ref hs, .ref sl, .ref sf, .ref tx, .ref ob]))]) (W2 := [(o, .inr (5, [.int (nI V), .long sd, .ref e, .ref cp, .ref bw, .ref ds, .ref hs, .ref sl, .ref sf, .ref tx, .ref ob]))]) (wr := []) (rest := []) SM (c_X8_isVertex l G o e cp bw ds hs sl sf tx ob V sd x (by first | assumption | omega)) (cwV 1 hts gX8_distance_X8_isVertex rfl rfl rfl (by decide +kernel) ⟨Nat.le_of_ble_eq_true rfl, Nat.le_of_ble_eq_true rfl⟩) hK hE hA hP hD hS hl.1 [0] [] [0] rfl rfl rfl (by decide) (ci := 5) rfl rfl rfl rfl rfl (Nat.le_of_ble_eq_true rfl) ⟨Nat.zero_le _, Nat.zero_le _⟩ dX8_distance_2 (fun H locs hP hD hS => ?_)
  refine zb_eq (tgt := 16) hx hb dX8_distance_5 (by decide) (fun c_1 => ?_) (fun c_1 => ?_)
  · skip
    refine lv_iconst (v := (-1)) hx hb dX8_distance_16 (by decide) ?_
    exact kret _ _ _ _ _ _ rfl rfl hP hD hS dX8_distance_17
  · skip
    refine lv_aload_n hx hb dX8_distance_8 rfl (lv_at hl 0 rfl) ?_
    refine lv_iload_n hx hb dX8_distance_9 rfl (lv_at hl 2 rfl) ?_
    refine zVi (W1 := [(o, .inr (5, [.int (nI V), .long sd, .ref e, .ref cp, .ref bw, .ref ds, .ref hs, .ref sl, .ref sf, .ref tx, .ref ob]))]) (W2 := [(o, .inr (5, [.int (nI V), .long sd, .ref e, .ref cp, .ref bw, .ref ds, .ref hs, .ref sl, .ref sf, .ref tx, .ref ob]))]) (wr := []) (rest := []) SM (c_X8_isVertex l G o e cp bw ds hs sl sf tx ob V sd y (by first | assumption | omega)) (cwV 1 hts gX8_distance_X8_isVertex rfl rfl rfl (by decide +kernel) ⟨Nat.le_of_ble_eq_true rfl, Nat.le_of_ble_eq_true rfl⟩) hK hE hA hP hD hS hl.1 [0] [] [0] rfl rfl rfl (by decide) (ci := 5) rfl rfl rfl rfl rfl (Nat.le_of_ble_eq_true rfl) ⟨Nat.zero_le _, Nat.zero_le _⟩ dX8_distance_10 (fun H locs hP hD hS => ?_)
    refine zb_ne (tgt := 18) hx hb dX8_distance_13 (by decide) (fun c_2 => ?_) (fun c_2 => ?_)
    · skip
      exfalso; omega
    · skip
      refine lv_iconst (v := (-1)) hx hb dX8_distance_16 (by decide) ?_
      exact kret _ _ _ _ _ _ rfl rfl hP hD hS dX8_distance_17
set_option maxHeartbeats 4000000 in
set_option maxRecDepth 100000 in
theorem c_X8_depth_bad (l : Launch) (G : zG) (o e cp bw ds hs sl sf tx ob V : Nat) (sd : Int64) (x y : Int32) (hV : V ≤ 8) (hb0 : ¬ ((0 ≤ x.toInt ∧ x.toInt < V) ∧ (0 ≤ y.toInt ∧ y.toInt < V))) : MI l yX8_depth wsX8_depth ({ frames := 1, cells := 0, slots := 0, locals := 21 }) G [.ref o, .int x, .int y] [(o, .inr (5, [.int (nI V), .long sd, .ref e, .ref cp, .ref bw, .ref ds, .ref hs, .ref sl, .ref sf, .ref tx, .ref ob]))] (-1) [(o, .inr (5, [.int (nI V), .long sd, .ref e, .ref cp, .ref bw, .ref ds, .ref hs, .ref sl, .ref sf, .ref tx, .ref ob]))] := by
  refine MI.enter (cc := cX8_depth) (maxL := 8) (by decide) rfl (Nat.le_of_ble_eq_true rfl) rfl ?_
  intro pM eM sM mM bM tM cM QM AM ls hat kret
  obtain ⟨SM, hA, hK, hE, hP, hD, hS, hl⟩ := hat
  have hx := SM.1
  have hb := SM.2.1
  have hown : sM.vm.findClass RX8 = some mM.cls := SM.2.2.2.1
  have hts := SM.2.2.2.2
  have hl : lv_has ls 8 [(0, .ref o), (1, .int x), (2, .int y)] := hl
  refine lv_aload_n hx hb dX8_depth_0 rfl (lv_at hl 0 rfl) ?_
  refine lv_iload_n hx hb dX8_depth_1 rfl (lv_at hl 1 rfl) ?_
  refine zVi (W1 := [(o, .inr (5, [.int (nI V), .long sd, .ref e, .ref cp, .ref bw, .ref ds, .ref hs, .ref sl, .ref sf, .ref tx, .ref ob]))]) (W2 := [(o, .inr (5, [.int (nI V), .long sd, .ref e, .ref cp, .ref bw, .ref ds, .ref hs, .ref sl, .ref sf, .ref tx, .ref ob]))]) (wr := []) (rest := []) SM (c_X8_isVertex l G o e cp bw ds hs sl sf tx ob V sd x (by first | assumption | omega)) (cwV 1 hts gX8_depth_X8_isVertex rfl rfl rfl (by decide +kernel) ⟨Nat.le_of_ble_eq_true rfl, Nat.le_of_ble_eq_true rfl⟩) hK hE hA hP hD hS hl.1 [0] [] [0] rfl rfl rfl (by decide) (ci := 5) rfl rfl rfl rfl rfl (Nat.le_of_ble_eq_true rfl) ⟨Nat.zero_le _, Nat.zero_le _⟩ dX8_depth_2 (fun H locs hP hD hS => ?_)
  refine zb_eq (tgt := 16) hx hb dX8_depth_5 (by decide) (fun c_1 => ?_) (fun c_1 => ?_)
  · skip
    refine lv_iconst (v := (-1)) hx hb dX8_depth_16 (by decide) ?_
    exact kret _ _ _ _ _ _ rfl rfl hP hD hS dX8_depth_17
  · skip
    refine lv_aload_n hx hb dX8_depth_8 rfl (lv_at hl 0 rfl) ?_
    refine lv_iload_n hx hb dX8_depth_9 rfl (lv_at hl 2 rfl) ?_
    refine zVi (W1 := [(o, .inr (5, [.int (nI V), .long sd, .ref e, .ref cp, .ref bw, .ref ds, .ref hs, .ref sl, .ref sf, .ref tx, .ref ob]))]) (W2 := [(o, .inr (5, [.int (nI V), .long sd, .ref e, .ref cp, .ref bw, .ref ds, .ref hs, .ref sl, .ref sf, .ref tx, .ref ob]))]) (wr := []) (rest := []) SM (c_X8_isVertex l G o e cp bw ds hs sl sf tx ob V sd y (by first | assumption | omega)) (cwV 1 hts gX8_depth_X8_isVertex rfl rfl rfl (by decide +kernel) ⟨Nat.le_of_ble_eq_true rfl, Nat.le_of_ble_eq_true rfl⟩) hK hE hA hP hD hS hl.1 [0] [] [0] rfl rfl rfl (by decide) (ci := 5) rfl rfl rfl rfl rfl (Nat.le_of_ble_eq_true rfl) ⟨Nat.zero_le _, Nat.zero_le _⟩ dX8_depth_10 (fun H locs hP hD hS => ?_)
    refine zb_ne (tgt := 18) hx hb dX8_depth_13 (by decide) (fun c_2 => ?_) (fun c_2 => ?_)
    · skip
      exfalso; omega
    · skip
      refine lv_iconst (v := (-1)) hx hb dX8_depth_16 (by decide) ?_
      exact kret _ _ _ _ _ _ rfl rfl hP hD hS dX8_depth_17
set_option maxHeartbeats 4000000 in
set_option maxRecDepth 100000 in
theorem c_X8_witnessEdge_bad (l : Launch) (G : zG) (o e cp bw ds hs sl sf tx ob V : Nat) (sd : Int64) (x y z : Int32) (hV : V ≤ 8) (hb0 : ¬ ((0 ≤ x.toInt ∧ x.toInt < V) ∧ (0 ≤ y.toInt ∧ y.toInt < V))) : MI l yX8_witnessEdge wsX8_witnessEdge ({ frames := 1, cells := 0, slots := 0, locals := 21 }) G [.ref o, .int x, .int y, .int z] [(o, .inr (5, [.int (nI V), .long sd, .ref e, .ref cp, .ref bw, .ref ds, .ref hs, .ref sl, .ref sf, .ref tx, .ref ob]))] (-1) [(o, .inr (5, [.int (nI V), .long sd, .ref e, .ref cp, .ref bw, .ref ds, .ref hs, .ref sl, .ref sf, .ref tx, .ref ob]))] := by
  refine MI.enter (cc := cX8_witnessEdge) (maxL := 4) (by decide) rfl (Nat.le_of_ble_eq_true rfl) rfl ?_
  intro pM eM sM mM bM tM cM QM AM ls hat kret
  obtain ⟨SM, hA, hK, hE, hP, hD, hS, hl⟩ := hat
  have hx := SM.1
  have hb := SM.2.1
  have hown : sM.vm.findClass RX8 = some mM.cls := SM.2.2.2.1
  have hts := SM.2.2.2.2
  have hl : lv_has ls 4 [(0, .ref o), (1, .int x), (2, .int y), (3, .int z)] := hl
  refine lv_aload_n hx hb dX8_witnessEdge_0 rfl (lv_at hl 0 rfl) ?_
  refine lv_iload_n hx hb dX8_witnessEdge_1 rfl (lv_at hl 1 rfl) ?_
  refine zVi (W1 := [(o, .inr (5, [.int (nI V), .long sd, .ref e, .ref cp, .ref bw, .ref ds, .ref hs, .ref sl, .ref sf, .ref tx, .ref ob]))]) (W2 := [(o, .inr (5, [.int (nI V), .long sd, .ref e, .ref cp, .ref bw, .ref ds, .ref hs, .ref sl, .ref sf, .ref tx, .ref ob]))]) (wr := []) (rest := []) SM (c_X8_isVertex l G o e cp bw ds hs sl sf tx ob V sd x (by first | assumption | omega)) (cwV 1 hts gX8_witnessEdge_X8_isVertex rfl rfl rfl (by decide +kernel) ⟨Nat.le_of_ble_eq_true rfl, Nat.le_of_ble_eq_true rfl⟩) hK hE hA hP hD hS hl.1 [0] [] [0] rfl rfl rfl (by decide) (ci := 5) rfl rfl rfl rfl rfl (Nat.le_of_ble_eq_true rfl) ⟨Nat.zero_le _, Nat.zero_le _⟩ dX8_witnessEdge_2 (fun H locs hP hD hS => ?_)
  refine zb_eq (tgt := 16) hx hb dX8_witnessEdge_5 (by decide) (fun c_1 => ?_) (fun c_1 => ?_)
  · skip
    refine lv_iconst (v := (-1)) hx hb dX8_witnessEdge_16 (by decide) ?_
    exact kret _ _ _ _ _ _ rfl rfl hP hD hS dX8_witnessEdge_17
  · skip
    refine lv_aload_n hx hb dX8_witnessEdge_8 rfl (lv_at hl 0 rfl) ?_
    refine lv_iload_n hx hb dX8_witnessEdge_9 rfl (lv_at hl 2 rfl) ?_
    refine zVi (W1 := [(o, .inr (5, [.int (nI V), .long sd, .ref e, .ref cp, .ref bw, .ref ds, .ref hs, .ref sl, .ref sf, .ref tx, .ref ob]))]) (W2 := [(o, .inr (5, [.int (nI V), .long sd, .ref e, .ref cp, .ref bw, .ref ds, .ref hs, .ref sl, .ref sf, .ref tx, .ref ob]))]) (wr := []) (rest := []) SM (c_X8_isVertex l G o e cp bw ds hs sl sf tx ob V sd y (by first | assumption | omega)) (cwV 1 hts gX8_witnessEdge_X8_isVertex rfl rfl rfl (by decide +kernel) ⟨Nat.le_of_ble_eq_true rfl, Nat.le_of_ble_eq_true rfl⟩) hK hE hA hP hD hS hl.1 [0] [] [0] rfl rfl rfl (by decide) (ci := 5) rfl rfl rfl rfl rfl (Nat.le_of_ble_eq_true rfl) ⟨Nat.zero_le _, Nat.zero_le _⟩ dX8_witnessEdge_10 (fun H locs hP hD hS => ?_)
    refine zb_ne (tgt := 18) hx hb dX8_witnessEdge_13 (by decide) (fun c_2 => ?_) (fun c_2 => ?_)
    · skip
      exfalso; omega
    · skip
      refine lv_iconst (v := (-1)) hx hb dX8_witnessEdge_16 (by decide) ?_
      exact kret _ _ _ _ _ _ rfl rfl hP hD hS dX8_witnessEdge_17
set_option maxHeartbeats 4000000 in
set_option maxRecDepth 100000 in
theorem c_X8_distance_ok (l : Launch) (G : zG) (o e cp bw ds hs sl sf tx ob V : Nat) (sd : Int64) (a1 a2 a3 : Nat) (s t lb : Nat → Nat) (k : Nat) (tb : Nat) (f : Nat → Nat) (V0 : Nat) (x y : Int32) (hV : V ≤ 8) (hx : 0 ≤ x.toInt ∧ x.toInt < V) (hy : 0 ≤ y.toInt ∧ y.toInt < V) (hk : k ≤ 16) (hbs : ∀ i, s i < 8) (hbt : ∀ i, t i < 8) (hlb : ∀ i, lb i < 7) (hf : zT9 f) : MI l yX8_distance wsX8_distance ({ frames := 5, cells := 0, slots := 0, locals := 123 }) G [.ref o, .int x, .int y] [(o, .inr (5, [.int (nI V), .long sd, .ref e, .ref cp, .ref bw, .ref ds, .ref hs, .ref sl, .ref sf, .ref tx, .ref ob])), (e, .inr (1, [.ref a1, .ref a2, .ref a3, .int (nI k)])), zA G a1 16 s, zA G a2 16 t, zA G a3 16 lb, (ds, .inr (0, [.ref tb, .int (nI V0)])), zA G tb 64 f] (zDiX (zMs f s t lb k V) x.toInt.toNat y.toInt.toNat) [(o, .inr (5, [.int (nI V), .long sd, .ref e, .ref cp, .ref bw, .ref ds, .ref hs, .ref sl, .ref sf, .ref tx, .ref ob])), (e, .inr (1, [.ref a1, .ref a2, .ref a3, .int (nI k)])), zA G a1 16 s, zA G a2 16 t, zA G a3 16 lb, (ds, .inr (0, [.ref tb, .int (nI V)])), zA G tb 64 (zMs f s t lb k V)] := by
  refine MI.enter (cc := cX8_distance) (maxL := 3) (by decide) rfl (Nat.le_of_ble_eq_true rfl) rfl ?_
  intro pM eM sM mM bM tM cM QM AM ls hat kret
  obtain ⟨SM, hA, hK, hE, hP, hD, hS, hl⟩ := hat
  have hx := SM.1
  have hb := SM.2.1
  have hown : sM.vm.findClass RX8 = some mM.cls := SM.2.2.2.1
  have hts := SM.2.2.2.2
  have hinX8 : ∀ w ∈ u_ws RX8 TX8 11, w ∈ wsX8_distance := by decide +kernel
  have hlk35 : (Cond.fieldLink RX8 35 "DyckReachability" "distances" "LDyckReachability$Distances;").before _ sM = true := hts _ (by decide +kernel)
  have hlk22 : (Cond.fieldLink RX8 22 "DyckReachability" "edges" "LDyckReachability$Edges;").before _ sM = true := hts _ (by decide +kernel)
  have hlk9 : (Cond.fieldLink RX8 9 "DyckReachability" "vertices" "I").before _ sM = true := hts _ (by decide +kernel)
  have hl : lv_has ls 3 [(0, .ref o), (1, .int x), (2, .int y)] := hl
  refine lv_aload_n hx hb dX8_distance_0 rfl (lv_at hl 0 rfl) ?_
  refine lv_iload_n hx hb dX8_distance_1 rfl (lv_at hl 1 rfl) ?_
  refine zVi (W1 := [(o, .inr (5, [.int (nI V), .long sd, .ref e, .ref cp, .ref bw, .ref ds, .ref hs, .ref sl, .ref sf, .ref tx, .ref ob])), (e, .inr (1, [.ref a1, .ref a2, .ref a3, .int (nI k)])), zA G a1 16 s, zA G a2 16 t, zA G a3 16 lb, (ds, .inr (0, [.ref tb, .int (nI V0)])), zA G tb 64 f]) (W2 := [(o, .inr (5, [.int (nI V), .long sd, .ref e, .ref cp, .ref bw, .ref ds, .ref hs, .ref sl, .ref sf, .ref tx, .ref ob])), (e, .inr (1, [.ref a1, .ref a2, .ref a3, .int (nI k)])), zA G a1 16 s, zA G a2 16 t, zA G a3 16 lb, (ds, .inr (0, [.ref tb, .int (nI V0)])), zA G tb 64 f]) (wr := [(e, .inr (1, [.ref a1, .ref a2, .ref a3, .int (nI k)])), zA G a1 16 s, zA G a2 16 t, zA G a3 16 lb, (ds, .inr (0, [.ref tb, .int (nI V0)])), zA G tb 64 f]) (rest := []) SM (c_X8_isVertex l G o e cp bw ds hs sl sf tx ob V sd x (by first | assumption | omega)) (cwV 1 hts gX8_distance_X8_isVertex rfl rfl rfl (by decide +kernel) ⟨Nat.le_of_ble_eq_true rfl, Nat.le_of_ble_eq_true rfl⟩) hK hE hA hP hD hS hl.1 [0] [1, 2, 3, 4, 5, 6] [6, 0, 1, 2, 3, 4, 5] rfl rfl rfl (by decide) (ci := 5) rfl rfl rfl rfl rfl (Nat.le_of_ble_eq_true rfl) ⟨Nat.zero_le _, Nat.zero_le _⟩ dX8_distance_2 (fun H locs hP hD hS => ?_)
  refine zb_eq (tgt := 16) hx hb dX8_distance_5 (by decide) (fun c_1 => ?_) (fun c_1 => ?_)
  · skip
    exfalso; omega
  · skip
    refine lv_aload_n hx hb dX8_distance_8 rfl (lv_at hl 0 rfl) ?_
    refine lv_iload_n hx hb dX8_distance_9 rfl (lv_at hl 2 rfl) ?_
    refine zVi (W1 := [(o, .inr (5, [.int (nI V), .long sd, .ref e, .ref cp, .ref bw, .ref ds, .ref hs, .ref sl, .ref sf, .ref tx, .ref ob])), (e, .inr (1, [.ref a1, .ref a2, .ref a3, .int (nI k)])), zA G a1 16 s, zA G a2 16 t, zA G a3 16 lb, (ds, .inr (0, [.ref tb, .int (nI V0)])), zA G tb 64 f]) (W2 := [(o, .inr (5, [.int (nI V), .long sd, .ref e, .ref cp, .ref bw, .ref ds, .ref hs, .ref sl, .ref sf, .ref tx, .ref ob])), (e, .inr (1, [.ref a1, .ref a2, .ref a3, .int (nI k)])), zA G a1 16 s, zA G a2 16 t, zA G a3 16 lb, (ds, .inr (0, [.ref tb, .int (nI V0)])), zA G tb 64 f]) (wr := [(e, .inr (1, [.ref a1, .ref a2, .ref a3, .int (nI k)])), zA G a1 16 s, zA G a2 16 t, zA G a3 16 lb, (ds, .inr (0, [.ref tb, .int (nI V0)])), zA G tb 64 f]) (rest := []) SM (c_X8_isVertex l G o e cp bw ds hs sl sf tx ob V sd y (by first | assumption | omega)) (cwV 1 hts gX8_distance_X8_isVertex rfl rfl rfl (by decide +kernel) ⟨Nat.le_of_ble_eq_true rfl, Nat.le_of_ble_eq_true rfl⟩) hK hE hA hP hD hS hl.1 [0] [1, 2, 3, 4, 5, 6] [6, 0, 1, 2, 3, 4, 5] rfl rfl rfl (by decide) (ci := 5) rfl rfl rfl rfl rfl (Nat.le_of_ble_eq_true rfl) ⟨Nat.zero_le _, Nat.zero_le _⟩ dX8_distance_10 (fun H locs hP hD hS => ?_)
    refine zb_ne (tgt := 18) hx hb dX8_distance_13 (by decide) (fun c_2 => ?_) (fun c_2 => ?_)
    · skip
      have hl : lv_has ls 3 [(0, .ref o), (1, .int (nI x.toInt.toNat)), (2, .int (nI y.toInt.toNat))] := by rw [← xN_eq (x := x) (by omega), ← xN_eq (x := y) (by omega)]; exact hl
      refine lv_aload_n hx hb dX8_distance_18 rfl (lv_at hl 0 rfl) ?_
      refine va_get (D := G.1) (ci := 5) (v := .ref ds) (C := RX8) (T := TX8) (N := 11) hx hb hts hinX8 hown hK hP 0 rfl rfl 5 (by decide) hlk35 (fun _ h9 => h9) rfl dX8_distance_19 ?_
      refine lv_aload_n hx hb dX8_distance_22 rfl (lv_at hl 0 rfl) ?_
      refine va_get (D := G.1) (ci := 5) (v := .ref e) (C := RX8) (T := TX8) (N := 11) hx hb hts hinX8 hown hK hP 0 rfl rfl 2 (by decide) hlk22 (fun _ h9 => h9) rfl dX8_distance_23 ?_
      refine lv_aload_n hx hb dX8_distance_26 rfl (lv_at hl 0 rfl) ?_
      refine va_get (D := G.1) (ci := 5) (v := .int (nI V)) (C := RX8) (T := TX8) (N := 11) hx hb hts hinX8 hown hK hP 0 rfl rfl 0 (by decide) hlk9 (fun _ h9 => h9) rfl dX8_distance_27 ?_
      refine zVv (W1 := [(o, .inr (5, [.int (nI V), .long sd, .ref e, .ref cp, .ref bw, .ref ds, .ref hs, .ref sl, .ref sf, .ref tx, .ref ob])), (e, .inr (1, [.ref a1, .ref a2, .ref a3, .int (nI k)])), zA G a1 16 s, zA G a2 16 t, zA G a3 16 lb, (ds, .inr (0, [.ref tb, .int (nI V0)])), zA G tb 64 f]) (W2 := [(o, .inr (5, [.int (nI V), .long sd, .ref e, .ref cp, .ref bw, .ref ds, .ref hs, .ref sl, .ref sf, .ref tx, .ref ob])), (e, .inr (1, [.ref a1, .ref a2, .ref a3, .int (nI k)])), zA G a1 16 s, zA G a2 16 t, zA G a3 16 lb, (ds, .inr (0, [.ref tb, .int (nI V)])), zA G tb 64 (zMs f s t lb k V)]) (wr := [(o, .inr (5, [.int (nI V), .long sd, .ref e, .ref cp, .ref bw, .ref ds, .ref hs, .ref sl, .ref sf, .ref tx, .ref ob]))]) (rest := []) SM (c_X1_measure l G ds tb f V0 e a1 a2 a3 16 s t lb k V (by first | assumption | omega) (by first | assumption | omega) (by first | assumption | omega) (by first | assumption | omega) (by first | assumption | omega) (by first | assumption | omega) (by first | assumption | omega)) (cwV 2 hts gX8_distance_X1_measure rfl rfl rfl (by decide +kernel) ⟨Nat.le_of_ble_eq_true rfl, Nat.le_of_ble_eq_true rfl⟩) hK hE hA hP hD hS hl.1 [5, 6, 1, 2, 3, 4] [0] [0, 3, 4, 5, 6, 1, 2] rfl rfl rfl (by decide) (ci := 0) rfl rfl rfl rfl rfl (Nat.le_of_ble_eq_true rfl) ⟨Nat.zero_le _, Nat.zero_le _⟩ dX8_distance_30 (fun H locs hP hD hS => ?_)
      have hm9 := zMs_9 (s := s) (t := t) (lb := lb) (k := k) (V := V) hf
      refine lv_aload_n hx hb dX8_distance_33 rfl (lv_at hl 0 rfl) ?_
      refine va_get (D := G.1) (ci := 5) (v := .ref ds) (C := RX8) (T := TX8) (N := 11) hx hb hts hinX8 hown hK hP 0 rfl rfl 5 (by decide) hlk35 (fun _ h9 => h9) rfl dX8_distance_34 ?_
      refine lv_iload_n hx hb dX8_distance_37 rfl (lv_at hl 1 rfl) ?_
      refine lv_iload_n hx hb dX8_distance_38 rfl (lv_at hl 2 rfl) ?_
      refine zVi (W1 := [(o, .inr (5, [.int (nI V), .long sd, .ref e, .ref cp, .ref bw, .ref ds, .ref hs, .ref sl, .ref sf, .ref tx, .ref ob])), (e, .inr (1, [.ref a1, .ref a2, .ref a3, .int (nI k)])), zA G a1 16 s, zA G a2 16 t, zA G a3 16 lb, (ds, .inr (0, [.ref tb, .int (nI V)])), zA G tb 64 (zMs f s t lb k V)]) (W2 := [(o, .inr (5, [.int (nI V), .long sd, .ref e, .ref cp, .ref bw, .ref ds, .ref hs, .ref sl, .ref sf, .ref tx, .ref ob])), (e, .inr (1, [.ref a1, .ref a2, .ref a3, .int (nI k)])), zA G a1 16 s, zA G a2 16 t, zA G a3 16 lb, (ds, .inr (0, [.ref tb, .int (nI V)])), zA G tb 64 (zMs f s t lb k V)]) (wr := [(o, .inr (5, [.int (nI V), .long sd, .ref e, .ref cp, .ref bw, .ref ds, .ref hs, .ref sl, .ref sf, .ref tx, .ref ob])), (e, .inr (1, [.ref a1, .ref a2, .ref a3, .int (nI k)])), zA G a1 16 s, zA G a2 16 t, zA G a3 16 lb]) (rest := []) SM (c_X1_reaches l G ds tb (zMs f s t lb k V) V x.toInt.toNat y.toInt.toNat (by first | assumption | omega) (by first | assumption | omega) (by first | assumption | omega)) (cwV 2 hts gX8_distance_X1_reaches rfl rfl rfl (by decide +kernel) ⟨Nat.le_of_ble_eq_true rfl, Nat.le_of_ble_eq_true rfl⟩) hK hE hA hP hD hS hl.1 [5, 6] [0, 1, 2, 3, 4] [0, 1, 2, 3, 4, 5, 6] rfl rfl rfl (by decide) (ci := 0) rfl rfl rfl rfl rfl (Nat.le_of_ble_eq_true rfl) ⟨Nat.zero_le _, Nat.zero_le _⟩ dX8_distance_39 (fun H locs hP hD hS => ?_)
      refine zb_eq (tgt := 57) hx hb dX8_distance_42 (by decide) (fun c_3 => ?_) (fun c_3 => ?_)
      · skip
        refine lv_bipush (v := (-9)) hx hb dX8_distance_57 (by decide) ?_
        exact kret _ _ _ _ _ _ (by unfold zDiX; repeat (first | rw [if_pos (by first | assumption | omega)] | rw [if_neg (by first | assumption | omega)])) rfl hP hD hS dX8_distance_59
      · skip
        refine lv_aload_n hx hb dX8_distance_45 rfl (lv_at hl 0 rfl) ?_
        refine va_get (D := G.1) (ci := 5) (v := .ref ds) (C := RX8) (T := TX8) (N := 11) hx hb hts hinX8 hown hK hP 0 rfl rfl 5 (by decide) hlk35 (fun _ h9 => h9) rfl dX8_distance_46 ?_
        refine lv_iload_n hx hb dX8_distance_49 rfl (lv_at hl 1 rfl) ?_
        refine lv_iload_n hx hb dX8_distance_50 rfl (lv_at hl 2 rfl) ?_
        refine zVi (W1 := [(o, .inr (5, [.int (nI V), .long sd, .ref e, .ref cp, .ref bw, .ref ds, .ref hs, .ref sl, .ref sf, .ref tx, .ref ob])), (e, .inr (1, [.ref a1, .ref a2, .ref a3, .int (nI k)])), zA G a1 16 s, zA G a2 16 t, zA G a3 16 lb, (ds, .inr (0, [.ref tb, .int (nI V)])), zA G tb 64 (zMs f s t lb k V)]) (W2 := [(o, .inr (5, [.int (nI V), .long sd, .ref e, .ref cp, .ref bw, .ref ds, .ref hs, .ref sl, .ref sf, .ref tx, .ref ob])), (e, .inr (1, [.ref a1, .ref a2, .ref a3, .int (nI k)])), zA G a1 16 s, zA G a2 16 t, zA G a3 16 lb, (ds, .inr (0, [.ref tb, .int (nI V)])), zA G tb 64 (zMs f s t lb k V)]) (wr := [(o, .inr (5, [.int (nI V), .long sd, .ref e, .ref cp, .ref bw, .ref ds, .ref hs, .ref sl, .ref sf, .ref tx, .ref ob])), (e, .inr (1, [.ref a1, .ref a2, .ref a3, .int (nI k)])), zA G a1 16 s, zA G a2 16 t, zA G a3 16 lb]) (rest := []) SM (c_X1_between l G ds tb (zMs f s t lb k V) V x.toInt.toNat y.toInt.toNat (by first | assumption | omega) (by first | assumption | omega)) (cwV 2 hts gX8_distance_X1_between rfl rfl rfl (by decide +kernel) ⟨Nat.le_of_ble_eq_true rfl, Nat.le_of_ble_eq_true rfl⟩) hK hE hA hP hD hS hl.1 [5, 6] [0, 1, 2, 3, 4] [0, 1, 2, 3, 4, 5, 6] rfl rfl rfl (by decide) (ci := 0) rfl rfl rfl rfl rfl (Nat.le_of_ble_eq_true rfl) ⟨Nat.zero_le _, Nat.zero_le _⟩ dX8_distance_51 (fun H locs hP hD hS => ?_)
        refine lv_goto (tgt := 59) hx hb dX8_distance_54 (by decide) ?_
        exact kret _ _ _ _ _ _ (by unfold zDiX; repeat (first | rw [if_pos (by first | assumption | omega)] | rw [if_neg (by first | assumption | omega)])) rfl hP hD hS dX8_distance_59
    · skip
      exfalso; omega
set_option maxHeartbeats 4000000 in
set_option maxRecDepth 100000 in
theorem c_X8_witnessEdge_ok (l : Launch) (G : zG) (o e cp bw ds hs sl sf tx ob V : Nat) (sd : Int64) (a1 a2 a3 : Nat) (s t lb : Nat → Nat) (k : Nat) (tb : Nat) (f : Nat → Nat) (V0 : Nat) (x y z : Int32) (hV : V ≤ 8) (hx : 0 ≤ x.toInt ∧ x.toInt < V) (hy : 0 ≤ y.toInt ∧ y.toInt < V) (hk : k ≤ 16) (hbs : ∀ i, s i < 8) (hbt : ∀ i, t i < 8) (hlb : ∀ i, lb i < 7) (hf : zT9 f) : MI l yX8_witnessEdge wsX8_witnessEdge ({ frames := 5, cells := 0, slots := 0, locals := 128 }) G [.ref o, .int x, .int y, .int z] [(o, .inr (5, [.int (nI V), .long sd, .ref e, .ref cp, .ref bw, .ref ds, .ref hs, .ref sl, .ref sf, .ref tx, .ref ob])), (e, .inr (1, [.ref a1, .ref a2, .ref a3, .int (nI k)])), zA G a1 16 s, zA G a2 16 t, zA G a3 16 lb, (ds, .inr (0, [.ref tb, .int (nI V0)])), zA G tb 64 f] (zEwA s t lb (zMs f s t lb k V) k x.toInt.toNat y.toInt.toNat z) [(o, .inr (5, [.int (nI V), .long sd, .ref e, .ref cp, .ref bw, .ref ds, .ref hs, .ref sl, .ref sf, .ref tx, .ref ob])), (e, .inr (1, [.ref a1, .ref a2, .ref a3, .int (nI k)])), zA G a1 16 s, zA G a2 16 t, zA G a3 16 lb, (ds, .inr (0, [.ref tb, .int (nI V)])), zA G tb 64 (zMs f s t lb k V)] := by
  refine MI.enter (cc := cX8_witnessEdge) (maxL := 4) (by decide) rfl (Nat.le_of_ble_eq_true rfl) rfl ?_
  intro pM eM sM mM bM tM cM QM AM ls hat kret
  obtain ⟨SM, hA, hK, hE, hP, hD, hS, hl⟩ := hat
  have hx := SM.1
  have hb := SM.2.1
  have hown : sM.vm.findClass RX8 = some mM.cls := SM.2.2.2.1
  have hts := SM.2.2.2.2
  have hinX8 : ∀ w ∈ u_ws RX8 TX8 11, w ∈ wsX8_witnessEdge := by decide +kernel
  have hlk35 : (Cond.fieldLink RX8 35 "DyckReachability" "distances" "LDyckReachability$Distances;").before _ sM = true := hts _ (by decide +kernel)
  have hlk22 : (Cond.fieldLink RX8 22 "DyckReachability" "edges" "LDyckReachability$Edges;").before _ sM = true := hts _ (by decide +kernel)
  have hlk9 : (Cond.fieldLink RX8 9 "DyckReachability" "vertices" "I").before _ sM = true := hts _ (by decide +kernel)
  have hl : lv_has ls 4 [(0, .ref o), (1, .int x), (2, .int y), (3, .int z)] := hl
  refine lv_aload_n hx hb dX8_witnessEdge_0 rfl (lv_at hl 0 rfl) ?_
  refine lv_iload_n hx hb dX8_witnessEdge_1 rfl (lv_at hl 1 rfl) ?_
  refine zVi (W1 := [(o, .inr (5, [.int (nI V), .long sd, .ref e, .ref cp, .ref bw, .ref ds, .ref hs, .ref sl, .ref sf, .ref tx, .ref ob])), (e, .inr (1, [.ref a1, .ref a2, .ref a3, .int (nI k)])), zA G a1 16 s, zA G a2 16 t, zA G a3 16 lb, (ds, .inr (0, [.ref tb, .int (nI V0)])), zA G tb 64 f]) (W2 := [(o, .inr (5, [.int (nI V), .long sd, .ref e, .ref cp, .ref bw, .ref ds, .ref hs, .ref sl, .ref sf, .ref tx, .ref ob])), (e, .inr (1, [.ref a1, .ref a2, .ref a3, .int (nI k)])), zA G a1 16 s, zA G a2 16 t, zA G a3 16 lb, (ds, .inr (0, [.ref tb, .int (nI V0)])), zA G tb 64 f]) (wr := [(e, .inr (1, [.ref a1, .ref a2, .ref a3, .int (nI k)])), zA G a1 16 s, zA G a2 16 t, zA G a3 16 lb, (ds, .inr (0, [.ref tb, .int (nI V0)])), zA G tb 64 f]) (rest := []) SM (c_X8_isVertex l G o e cp bw ds hs sl sf tx ob V sd x (by first | assumption | omega)) (cwV 1 hts gX8_witnessEdge_X8_isVertex rfl rfl rfl (by decide +kernel) ⟨Nat.le_of_ble_eq_true rfl, Nat.le_of_ble_eq_true rfl⟩) hK hE hA hP hD hS hl.1 [0] [1, 2, 3, 4, 5, 6] [6, 0, 1, 2, 3, 4, 5] rfl rfl rfl (by decide) (ci := 5) rfl rfl rfl rfl rfl (Nat.le_of_ble_eq_true rfl) ⟨Nat.zero_le _, Nat.zero_le _⟩ dX8_witnessEdge_2 (fun H locs hP hD hS => ?_)
  refine zb_eq (tgt := 16) hx hb dX8_witnessEdge_5 (by decide) (fun c_1 => ?_) (fun c_1 => ?_)
  · skip
    exfalso; omega
  · skip
    refine lv_aload_n hx hb dX8_witnessEdge_8 rfl (lv_at hl 0 rfl) ?_
    refine lv_iload_n hx hb dX8_witnessEdge_9 rfl (lv_at hl 2 rfl) ?_
    refine zVi (W1 := [(o, .inr (5, [.int (nI V), .long sd, .ref e, .ref cp, .ref bw, .ref ds, .ref hs, .ref sl, .ref sf, .ref tx, .ref ob])), (e, .inr (1, [.ref a1, .ref a2, .ref a3, .int (nI k)])), zA G a1 16 s, zA G a2 16 t, zA G a3 16 lb, (ds, .inr (0, [.ref tb, .int (nI V0)])), zA G tb 64 f]) (W2 := [(o, .inr (5, [.int (nI V), .long sd, .ref e, .ref cp, .ref bw, .ref ds, .ref hs, .ref sl, .ref sf, .ref tx, .ref ob])), (e, .inr (1, [.ref a1, .ref a2, .ref a3, .int (nI k)])), zA G a1 16 s, zA G a2 16 t, zA G a3 16 lb, (ds, .inr (0, [.ref tb, .int (nI V0)])), zA G tb 64 f]) (wr := [(e, .inr (1, [.ref a1, .ref a2, .ref a3, .int (nI k)])), zA G a1 16 s, zA G a2 16 t, zA G a3 16 lb, (ds, .inr (0, [.ref tb, .int (nI V0)])), zA G tb 64 f]) (rest := []) SM (c_X8_isVertex l G o e cp bw ds hs sl sf tx ob V sd y (by first | assumption | omega)) (cwV 1 hts gX8_witnessEdge_X8_isVertex rfl rfl rfl (by decide +kernel) ⟨Nat.le_of_ble_eq_true rfl, Nat.le_of_ble_eq_true rfl⟩) hK hE hA hP hD hS hl.1 [0] [1, 2, 3, 4, 5, 6] [6, 0, 1, 2, 3, 4, 5] rfl rfl rfl (by decide) (ci := 5) rfl rfl rfl rfl rfl (Nat.le_of_ble_eq_true rfl) ⟨Nat.zero_le _, Nat.zero_le _⟩ dX8_witnessEdge_10 (fun H locs hP hD hS => ?_)
    refine zb_ne (tgt := 18) hx hb dX8_witnessEdge_13 (by decide) (fun c_2 => ?_) (fun c_2 => ?_)
    · skip
      have hl : lv_has ls 4 [(0, .ref o), (1, .int (nI x.toInt.toNat)), (2, .int (nI y.toInt.toNat)), (3, .int z)] := by rw [← xN_eq (x := x) (by omega), ← xN_eq (x := y) (by omega)]; exact hl
      refine lv_aload_n hx hb dX8_witnessEdge_18 rfl (lv_at hl 0 rfl) ?_
      refine va_get (D := G.1) (ci := 5) (v := .ref ds) (C := RX8) (T := TX8) (N := 11) hx hb hts hinX8 hown hK hP 0 rfl rfl 5 (by decide) hlk35 (fun _ h9 => h9) rfl dX8_witnessEdge_19 ?_
      refine lv_aload_n hx hb dX8_witnessEdge_22 rfl (lv_at hl 0 rfl) ?_
      refine va_get (D := G.1) (ci := 5) (v := .ref e) (C := RX8) (T := TX8) (N := 11) hx hb hts hinX8 hown hK hP 0 rfl rfl 2 (by decide) hlk22 (fun _ h9 => h9) rfl dX8_witnessEdge_23 ?_
      refine lv_aload_n hx hb dX8_witnessEdge_26 rfl (lv_at hl 0 rfl) ?_
      refine va_get (D := G.1) (ci := 5) (v := .int (nI V)) (C := RX8) (T := TX8) (N := 11) hx hb hts hinX8 hown hK hP 0 rfl rfl 0 (by decide) hlk9 (fun _ h9 => h9) rfl dX8_witnessEdge_27 ?_
      refine zVv (W1 := [(o, .inr (5, [.int (nI V), .long sd, .ref e, .ref cp, .ref bw, .ref ds, .ref hs, .ref sl, .ref sf, .ref tx, .ref ob])), (e, .inr (1, [.ref a1, .ref a2, .ref a3, .int (nI k)])), zA G a1 16 s, zA G a2 16 t, zA G a3 16 lb, (ds, .inr (0, [.ref tb, .int (nI V0)])), zA G tb 64 f]) (W2 := [(o, .inr (5, [.int (nI V), .long sd, .ref e, .ref cp, .ref bw, .ref ds, .ref hs, .ref sl, .ref sf, .ref tx, .ref ob])), (e, .inr (1, [.ref a1, .ref a2, .ref a3, .int (nI k)])), zA G a1 16 s, zA G a2 16 t, zA G a3 16 lb, (ds, .inr (0, [.ref tb, .int (nI V)])), zA G tb 64 (zMs f s t lb k V)]) (wr := [(o, .inr (5, [.int (nI V), .long sd, .ref e, .ref cp, .ref bw, .ref ds, .ref hs, .ref sl, .ref sf, .ref tx, .ref ob]))]) (rest := []) SM (c_X1_measure l G ds tb f V0 e a1 a2 a3 16 s t lb k V (by first | assumption | omega) (by first | assumption | omega) (by first | assumption | omega) (by first | assumption | omega) (by first | assumption | omega) (by first | assumption | omega) (by first | assumption | omega)) (cwV 2 hts gX8_witnessEdge_X1_measure rfl rfl rfl (by decide +kernel) ⟨Nat.le_of_ble_eq_true rfl, Nat.le_of_ble_eq_true rfl⟩) hK hE hA hP hD hS hl.1 [5, 6, 1, 2, 3, 4] [0] [0, 3, 4, 5, 6, 1, 2] rfl rfl rfl (by decide) (ci := 0) rfl rfl rfl rfl rfl (Nat.le_of_ble_eq_true rfl) ⟨Nat.zero_le _, Nat.zero_le _⟩ dX8_witnessEdge_30 (fun H locs hP hD hS => ?_)
      have hm9 := zMs_9 (s := s) (t := t) (lb := lb) (k := k) (V := V) hf
      refine lv_aload_n hx hb dX8_witnessEdge_33 rfl (lv_at hl 0 rfl) ?_
      refine va_get (D := G.1) (ci := 5) (v := .ref ds) (C := RX8) (T := TX8) (N := 11) hx hb hts hinX8 hown hK hP 0 rfl rfl 5 (by decide) hlk35 (fun _ h9 => h9) rfl dX8_witnessEdge_34 ?_
      refine lv_aload_n hx hb dX8_witnessEdge_37 rfl (lv_at hl 0 rfl) ?_
      refine va_get (D := G.1) (ci := 5) (v := .ref e) (C := RX8) (T := TX8) (N := 11) hx hb hts hinX8 hown hK hP 0 rfl rfl 2 (by decide) hlk22 (fun _ h9 => h9) rfl dX8_witnessEdge_38 ?_
      refine lv_iload_n hx hb dX8_witnessEdge_41 rfl (lv_at hl 1 rfl) ?_
      refine lv_iload_n hx hb dX8_witnessEdge_42 rfl (lv_at hl 2 rfl) ?_
      refine lv_iload_n hx hb dX8_witnessEdge_43 rfl (lv_at hl 3 rfl) ?_
      refine zVi (W1 := [(o, .inr (5, [.int (nI V), .long sd, .ref e, .ref cp, .ref bw, .ref ds, .ref hs, .ref sl, .ref sf, .ref tx, .ref ob])), (e, .inr (1, [.ref a1, .ref a2, .ref a3, .int (nI k)])), zA G a1 16 s, zA G a2 16 t, zA G a3 16 lb, (ds, .inr (0, [.ref tb, .int (nI V)])), zA G tb 64 (zMs f s t lb k V)]) (W2 := [(o, .inr (5, [.int (nI V), .long sd, .ref e, .ref cp, .ref bw, .ref ds, .ref hs, .ref sl, .ref sf, .ref tx, .ref ob])), (e, .inr (1, [.ref a1, .ref a2, .ref a3, .int (nI k)])), zA G a1 16 s, zA G a2 16 t, zA G a3 16 lb, (ds, .inr (0, [.ref tb, .int (nI V)])), zA G tb 64 (zMs f s t lb k V)]) (wr := [(o, .inr (5, [.int (nI V), .long sd, .ref e, .ref cp, .ref bw, .ref ds, .ref hs, .ref sl, .ref sf, .ref tx, .ref ob]))]) (rest := []) SM (c_X1_edgeOnWitness l G ds tb (zMs f s t lb k V) V e a1 a2 a3 16 s t lb k x.toInt.toNat y.toInt.toNat z (by first | assumption | omega) (by first | assumption | omega) (by first | assumption | omega) (by first | assumption | omega) (by first | assumption | omega) (by first | assumption | omega) (by first | assumption | omega) (by first | assumption | omega)) (cwV 4 hts gX8_witnessEdge_X1_edgeOnWitness rfl rfl rfl (by decide +kernel) ⟨Nat.le_of_ble_eq_true rfl, Nat.le_of_ble_eq_true rfl⟩) hK hE hA hP hD hS hl.1 [5, 6, 1, 2, 3, 4] [0] [0, 3, 4, 5, 6, 1, 2] rfl rfl rfl (by decide) (ci := 0) rfl rfl rfl rfl rfl (Nat.le_of_ble_eq_true rfl) ⟨Nat.zero_le _, Nat.zero_le _⟩ dX8_witnessEdge_44 (fun H locs hP hD hS => ?_)
      exact kret _ _ _ _ _ _ rfl rfl hP hD hS dX8_witnessEdge_47
    · skip
      exfalso; omega
set_option maxHeartbeats 4000000 in
set_option maxRecDepth 100000 in
theorem c_X8_depth_ok (l : Launch) (G : zG) (o e cp bw ds hs sl sf tx ob V : Nat) (sd : Int64) (a1 a2 a3 : Nat) (s t lb : Nat → Nat) (k : Nat) (x y : Int32) (hV : V ≤ 8) (hx : 0 ≤ x.toInt ∧ x.toInt < V) (hy : 0 ≤ y.toInt ∧ y.toInt < V) (hk : k ≤ 16) (hbs : ∀ i, s i < 8) (hbt : ∀ i, t i < 8) (hlb : ∀ i, lb i < 7) : MI l yX8_depth wsX8_depth ({ frames := 4, cells := 0, slots := 0, locals := 97 }) G [.ref o, .int x, .int y] [(o, .inr (5, [.int (nI V), .long sd, .ref e, .ref cp, .ref bw, .ref ds, .ref hs, .ref sl, .ref sf, .ref tx, .ref ob])), (e, .inr (1, [.ref a1, .ref a2, .ref a3, .int (nI k)])), zA G a1 16 s, zA G a2 16 t, zA G a3 16 lb] (zDpX s t lb k V x.toInt.toNat y.toInt.toNat) [(o, .inr (5, [.int (nI V), .long sd, .ref e, .ref cp, .ref bw, .ref ds, .ref hs, .ref sl, .ref sf, .ref tx, .ref ob])), (e, .inr (1, [.ref a1, .ref a2, .ref a3, .int (nI k)])), zA G a1 16 s, zA G a2 16 t, zA G a3 16 lb] := by
  refine MI.enter (cc := cX8_depth) (maxL := 8) (by decide) rfl (Nat.le_of_ble_eq_true rfl) rfl ?_
  intro pM eM sM mM bM tM cM QM AM ls hat kret
  obtain ⟨SM, hA, hK, hE, hP, hD, hS, hl⟩ := hat
  have hx := SM.1
  have hb := SM.2.1
  have hown : sM.vm.findClass RX8 = some mM.cls := SM.2.2.2.1
  have hts := SM.2.2.2.2
  have hinX8 : ∀ w ∈ u_ws RX8 TX8 11, w ∈ wsX8_depth := by decide +kernel
  have hlk22 : (Cond.fieldLink RX8 22 "DyckReachability" "edges" "LDyckReachability$Edges;").before _ sM = true := hts _ (by decide +kernel)
  have hlk9 : (Cond.fieldLink RX8 9 "DyckReachability" "vertices" "I").before _ sM = true := hts _ (by decide +kernel)
  have hl : lv_has ls 8 [(0, .ref o), (1, .int x), (2, .int y)] := hl
  refine lv_aload_n hx hb dX8_depth_0 rfl (lv_at hl 0 rfl) ?_
  refine lv_iload_n hx hb dX8_depth_1 rfl (lv_at hl 1 rfl) ?_
  refine zVi (W1 := [(o, .inr (5, [.int (nI V), .long sd, .ref e, .ref cp, .ref bw, .ref ds, .ref hs, .ref sl, .ref sf, .ref tx, .ref ob])), (e, .inr (1, [.ref a1, .ref a2, .ref a3, .int (nI k)])), zA G a1 16 s, zA G a2 16 t, zA G a3 16 lb]) (W2 := [(o, .inr (5, [.int (nI V), .long sd, .ref e, .ref cp, .ref bw, .ref ds, .ref hs, .ref sl, .ref sf, .ref tx, .ref ob])), (e, .inr (1, [.ref a1, .ref a2, .ref a3, .int (nI k)])), zA G a1 16 s, zA G a2 16 t, zA G a3 16 lb]) (wr := [(e, .inr (1, [.ref a1, .ref a2, .ref a3, .int (nI k)])), zA G a1 16 s, zA G a2 16 t, zA G a3 16 lb]) (rest := []) SM (c_X8_isVertex l G o e cp bw ds hs sl sf tx ob V sd x (by first | assumption | omega)) (cwV 1 hts gX8_depth_X8_isVertex rfl rfl rfl (by decide +kernel) ⟨Nat.le_of_ble_eq_true rfl, Nat.le_of_ble_eq_true rfl⟩) hK hE hA hP hD hS hl.1 [0] [1, 2, 3, 4] [4, 0, 1, 2, 3] rfl rfl rfl (by decide) (ci := 5) rfl rfl rfl rfl rfl (Nat.le_of_ble_eq_true rfl) ⟨Nat.zero_le _, Nat.zero_le _⟩ dX8_depth_2 (fun H locs hP hD hS => ?_)
  refine zb_eq (tgt := 16) hx hb dX8_depth_5 (by decide) (fun c_1 => ?_) (fun c_1 => ?_)
  · skip
    exfalso; omega
  · skip
    refine lv_aload_n hx hb dX8_depth_8 rfl (lv_at hl 0 rfl) ?_
    refine lv_iload_n hx hb dX8_depth_9 rfl (lv_at hl 2 rfl) ?_
    refine zVi (W1 := [(o, .inr (5, [.int (nI V), .long sd, .ref e, .ref cp, .ref bw, .ref ds, .ref hs, .ref sl, .ref sf, .ref tx, .ref ob])), (e, .inr (1, [.ref a1, .ref a2, .ref a3, .int (nI k)])), zA G a1 16 s, zA G a2 16 t, zA G a3 16 lb]) (W2 := [(o, .inr (5, [.int (nI V), .long sd, .ref e, .ref cp, .ref bw, .ref ds, .ref hs, .ref sl, .ref sf, .ref tx, .ref ob])), (e, .inr (1, [.ref a1, .ref a2, .ref a3, .int (nI k)])), zA G a1 16 s, zA G a2 16 t, zA G a3 16 lb]) (wr := [(e, .inr (1, [.ref a1, .ref a2, .ref a3, .int (nI k)])), zA G a1 16 s, zA G a2 16 t, zA G a3 16 lb]) (rest := []) SM (c_X8_isVertex l G o e cp bw ds hs sl sf tx ob V sd y (by first | assumption | omega)) (cwV 1 hts gX8_depth_X8_isVertex rfl rfl rfl (by decide +kernel) ⟨Nat.le_of_ble_eq_true rfl, Nat.le_of_ble_eq_true rfl⟩) hK hE hA hP hD hS hl.1 [0] [1, 2, 3, 4] [4, 0, 1, 2, 3] rfl rfl rfl (by decide) (ci := 5) rfl rfl rfl rfl rfl (Nat.le_of_ble_eq_true rfl) ⟨Nat.zero_le _, Nat.zero_le _⟩ dX8_depth_10 (fun H locs hP hD hS => ?_)
    refine zb_ne (tgt := 18) hx hb dX8_depth_13 (by decide) (fun c_2 => ?_) (fun c_2 => ?_)
    · skip
      have hl : lv_has ls 8 [(0, .ref o), (1, .int (nI x.toInt.toNat)), (2, .int (nI y.toInt.toNat))] := by rw [← xN_eq (x := x) (by omega), ← xN_eq (x := y) (by omega)]; exact hl
      refine lv_lconst (v := lN 0) hx hb dX8_depth_18 (by decide) ?_
      refine lv_lstore_n (lv' := [(3, .long (lN 0)), (0, .ref o), (1, .int (nI x.toInt.toNat)), (2, .int (nI y.toInt.toNat))]) hx hb dX8_depth_19 rfl hl (by decide) rfl (fun ls hl => ?_)
      refine lv_iconst (v := nI 0) hx hb dX8_depth_20 (by decide) ?_
      refine lv_istore (lv' := [(5, .int (nI 0)), (3, .long (lN 0)), (0, .ref o), (1, .int (nI x.toInt.toNat)), (2, .int (nI y.toInt.toNat))]) hx hb dX8_depth_21 hl (by decide) rfl (fun ls hl => ?_)
      have lp23 : ∀ (n9 : Nat), ∀ (n r : Nat), (n ≤ 65) → (zDpX s t lb k V x.toInt.toNat y.toInt.toNat = zDp s t lb k V x.toInt.toNat y.toInt.toNat (65 - n) n r) → (r < 18446744073709551616) → (65 - n) < n9 → ∀ (H : Heap) (locs : List Loc) (ls : Array Slot), va_P G.1 vwCl [(o, .inr (5, [.int (nI V), .long sd, .ref e, .ref cp, .ref bw, .ref ds, .ref hs, .ref sl, .ref sf, .ref tx, .ref ob])), (e, .inr (1, [.ref a1, .ref a2, .ref a3, .int (nI k)])), zA G a1 16 s, zA G a2 16 t, zA G a3 16 lb] H → va_D AM [(o, .inr (5, [.int (nI V), .long sd, .ref e, .ref cp, .ref bw, .ref ds, .ref hs, .ref sl, .ref sf, .ref tx, .ref ob])), (e, .inr (1, [.ref a1, .ref a2, .ref a3, .int (nI k)])), zA G a1 16 s, zA G a2 16 t, zA G a3 16 lb] → va_S AM sM.heap H locs → lv_has ls 8 [(0, .ref o), (1, .int (nI x.toInt.toNat)), (2, .int (nI y.toInt.toNat)), (3, .long (lN r)), (5, .int (nI n))] → W pM l eM ({ frames := 4, cells := 0, slots := 0, locals := 97 }) sM mM (([.ref o, .int x, .int y] : List Value).toArray) bM tM cM H locs 0 0 QM (F0 mM 23 ls []) := by
        intro n9
        induction n9 with
        | zero =>
          intro _ _ _ _ _ h9
          exact absurd h9 (Nat.not_lt_zero _)
        | succ n9 ih9 =>
          intro n r h1 hq hb1 hmu23 H locs ls hP hD hS hl
          have ih23 := ih9
          clear ih9
          refine lv_iload hx hb dX8_depth_23 (lv_at hl 4 rfl) ?_
          refine lv_bipush (v := nI 64) hx hb dX8_depth_25 (by decide) ?_
          refine zn_gt (tgt := 76) hx hb dX8_depth_27 (by decide) (by omega) (by omega) (fun c_3 => ?_) (fun c_3 => ?_)
          · skip
            refine lv_bipush (v := (-9)) hx hb dX8_depth_76 (by decide) ?_
            exact kret _ _ _ _ _ _ (by rw [hq, show 65 - n = 0 by omega, zDp]) rfl hP hD hS dX8_depth_78
          · skip
            refine lv_lload_n hx hb dX8_depth_30 rfl (lv_at hl 3 rfl) ?_
            refine lv_aload_n hx hb dX8_depth_31 rfl (lv_at hl 0 rfl) ?_
            refine va_get (D := G.1) (ci := 5) (v := .ref e) (C := RX8) (T := TX8) (N := 11) hx hb hts hinX8 hown hK hP 0 rfl rfl 2 (by decide) hlk22 (fun _ h9 => h9) rfl dX8_depth_32 ?_
            refine lv_aload_n hx hb dX8_depth_35 rfl (lv_at hl 0 rfl) ?_
            refine va_get (D := G.1) (ci := 5) (v := .int (nI V)) (C := RX8) (T := TX8) (N := 11) hx hb hts hinX8 hown hK hP 0 rfl rfl 0 (by decide) hlk9 (fun _ h9 => h9) rfl dX8_depth_36 ?_
            refine zSl (W1 := [(o, .inr (5, [.int (nI V), .long sd, .ref e, .ref cp, .ref bw, .ref ds, .ref hs, .ref sl, .ref sf, .ref tx, .ref ob])), (e, .inr (1, [.ref a1, .ref a2, .ref a3, .int (nI k)])), zA G a1 16 s, zA G a2 16 t, zA G a3 16 lb]) (W2 := [(o, .inr (5, [.int (nI V), .long sd, .ref e, .ref cp, .ref bw, .ref ds, .ref hs, .ref sl, .ref sf, .ref tx, .ref ob])), (e, .inr (1, [.ref a1, .ref a2, .ref a3, .int (nI k)])), zA G a1 16 s, zA G a2 16 t, zA G a3 16 lb]) (wr := [(o, .inr (5, [.int (nI V), .long sd, .ref e, .ref cp, .ref bw, .ref ds, .ref hs, .ref sl, .ref sf, .ref tx, .ref ob]))]) (rest := []) SM (c_X6_nestedAround l G r e a1 a2 a3 16 s t lb k V (by first | assumption | omega) (by first | assumption | omega) (by first | assumption | omega) (by first | assumption | omega) (by first | assumption | omega) (by first | assumption | omega) (by first | assumption | omega)) (va_cwS 3 hts gX8_depth_X6_nestedAround rfl rfl rfl (by decide +kernel) ⟨Nat.le_of_ble_eq_true rfl, Nat.le_of_ble_eq_true rfl⟩) hK hE hA hP hD hS hl.1 [1, 2, 3, 4] [0] [0, 1, 2, 3, 4] rfl rfl rfl (by decide) rfl rfl (Nat.le_of_ble_eq_true rfl) ⟨Nat.zero_le _, Nat.zero_le _⟩ dX8_depth_39 (fun H locs hP hD hS => ?_)
            have hnl := zNa_lt (s := s) (t := t) (lb := lb) (k := k) (V := V) (inner := r) hbs hbt hV
            refine lv_lstore (lv' := [(6, .long (lN (zNa s t lb k V r))), (0, .ref o), (1, .int (nI x.toInt.toNat)), (2, .int (nI y.toInt.toNat)), (3, .long (lN r)), (5, .int (nI n))]) hx hb dX8_depth_42 hl (by decide) rfl (fun ls hl => ?_)
            refine lv_lload hx hb dX8_depth_44 (lv_at hl 0 rfl) ?_
            refine lv_iload_n hx hb dX8_depth_46 rfl (lv_at hl 2 rfl) ?_
            refine lv_iload_n hx hb dX8_depth_47 rfl (lv_at hl 3 rfl) ?_
            refine zSi (W1 := [(o, .inr (5, [.int (nI V), .long sd, .ref e, .ref cp, .ref bw, .ref ds, .ref hs, .ref sl, .ref sf, .ref tx, .ref ob])), (e, .inr (1, [.ref a1, .ref a2, .ref a3, .int (nI k)])), zA G a1 16 s, zA G a2 16 t, zA G a3 16 lb]) (W2 := [(o, .inr (5, [.int (nI V), .long sd, .ref e, .ref cp, .ref bw, .ref ds, .ref hs, .ref sl, .ref sf, .ref tx, .ref ob])), (e, .inr (1, [.ref a1, .ref a2, .ref a3, .int (nI k)])), zA G a1 16 s, zA G a2 16 t, zA G a3 16 lb]) (wr := [(o, .inr (5, [.int (nI V), .long sd, .ref e, .ref cp, .ref bw, .ref ds, .ref hs, .ref sl, .ref sf, .ref tx, .ref ob])), (e, .inr (1, [.ref a1, .ref a2, .ref a3, .int (nI k)])), zA G a1 16 s, zA G a2 16 t, zA G a3 16 lb]) (rest := []) SM (c_X6_has l G (zNa s t lb k V r) x.toInt.toNat y.toInt.toNat (by first | assumption | omega) (by first | assumption | omega) (by first | assumption | omega)) (va_cwS 3 hts gX8_depth_X6_has rfl rfl rfl (by decide +kernel) ⟨Nat.le_of_ble_eq_true rfl, Nat.le_of_ble_eq_true rfl⟩) hK hE hA hP hD hS hl.1 [] [0, 1, 2, 3, 4] [0, 1, 2, 3, 4] rfl rfl rfl (by decide) rfl rfl (Nat.le_of_ble_eq_true rfl) ⟨Nat.zero_le _, Nat.zero_le _⟩ dX8_depth_48 (fun H locs hP hD hS => ?_)
            refine zb_eq (tgt := 57) hx hb dX8_depth_51 (by decide) (fun c_4 => ?_) (fun c_4 => ?_)
            · skip
              refine lv_lload hx hb dX8_depth_57 (lv_at hl 0 rfl) ?_
              refine lv_lload_n hx hb dX8_depth_59 rfl (lv_at hl 4 rfl) ?_
              refine zll_ne (tgt := 67) hx hb dX8_depth_60 dX8_depth_61 (by decide) (by omega) (by omega) (fun c_5 => ?_) (fun c_5 => ?_)
              · skip
                refine lv_lload hx hb dX8_depth_67 (lv_at hl 0 rfl) ?_
                refine lv_lstore_n (lv' := [(3, .long (lN (zNa s t lb k V r))), (6, .long (lN (zNa s t lb k V r))), (0, .ref o), (1, .int (nI x.toInt.toNat)), (2, .int (nI y.toInt.toNat)), (5, .int (nI n))]) hx hb dX8_depth_69 rfl hl (by decide) rfl (fun ls hl => ?_)
                refine lv_iinc (v := nI (n + 1)) (lv' := [(5, .int (nI (n + 1))), (3, .long (lN (zNa s t lb k V r))), (6, .long (lN (zNa s t lb k V r))), (0, .ref o), (1, .int (nI x.toInt.toNat)), (2, .int (nI y.toInt.toNat))]) hx hb dX8_depth_70 hl (k := 5) rfl (zinc n 1) (by decide) rfl (fun ls hl => ?_)
                refine lv_goto (tgt := 23) hx hb dX8_depth_73 (by decide) ?_
                exact ih23 (n + 1) (zNa s t lb k V r) (by first | assumption | omega) (by rw [hq, show 65 - n = (65 - (n + 1)) + 1 by omega, zDp]; repeat (first | rw [if_pos (by first | assumption | omega)] | rw [if_neg (by first | assumption | omega)])) hnl (by omega) _ _ _ hP hD hS (lv_sub hl [3, 4, 5, 1, 0] rfl)
              · skip
                refine lv_bipush (v := (-9)) hx hb dX8_depth_64 (by decide) ?_
                exact kret _ _ _ _ _ _ (by rw [hq, show 65 - n = (65 - (n + 1)) + 1 by omega, zDp]; repeat (first | rw [if_pos (by first | assumption | omega)] | rw [if_neg (by first | assumption | omega)])) rfl hP hD hS dX8_depth_66
            · skip
              refine lv_iload hx hb dX8_depth_54 (lv_at hl 5 rfl) ?_
              exact kret _ _ _ _ _ _ (by rw [hq, show 65 - n = (65 - (n + 1)) + 1 by omega, zDp]; repeat (first | rw [if_pos (by first | assumption | omega)] | rw [if_neg (by first | assumption | omega)])) rfl hP hD hS dX8_depth_56
      exact lp23 (65 - 0 + 1) 0 0 (by first | assumption | omega) rfl (by decide) (Nat.lt_succ_self _) _ _ _ hP hD hS (lv_sub hl [2, 3, 4, 1, 0] rfl)
    · skip
      exfalso; omega
set_option maxHeartbeats 4000000 in
set_option maxRecDepth 100000 in
theorem c_X8_loss_bad (l : Launch) (G : zG) (o e cp bw ds hs sl sf tx ob V : Nat) (sd : Int64) (a1 a2 a3 k : Nat) (x : Int32) (hk : k ≤ 16) (hb0 : ¬ (0 ≤ x.toInt ∧ x.toInt < k)) : MI l yX8_loss wsX8_loss ({ frames := 1, cells := 0, slots := 0, locals := 21 }) G [.ref o, .int x] [(o, .inr (5, [.int (nI V), .long sd, .ref e, .ref cp, .ref bw, .ref ds, .ref hs, .ref sl, .ref sf, .ref tx, .ref ob])), (e, .inr (1, [.ref a1, .ref a2, .ref a3, .int (nI k)]))] (-1) [(o, .inr (5, [.int (nI V), .long sd, .ref e, .ref cp, .ref bw, .ref ds, .ref hs, .ref sl, .ref sf, .ref tx, .ref ob])), (e, .inr (1, [.ref a1, .ref a2, .ref a3, .int (nI k)]))] := by
  refine MI.enter (cc := cX8_loss) (maxL := 2) (by decide) rfl (Nat.le_of_ble_eq_true rfl) rfl ?_
  intro pM eM sM mM bM tM cM QM AM ls hat kret
  obtain ⟨SM, hA, hK, hE, hP, hD, hS, hl⟩ := hat
  have hx := SM.1
  have hb := SM.2.1
  have hown : sM.vm.findClass RX8 = some mM.cls := SM.2.2.2.1
  have hts := SM.2.2.2.2
  have hinX8 : ∀ w ∈ u_ws RX8 TX8 11, w ∈ wsX8_loss := by decide +kernel
  have hlk22 : (Cond.fieldLink RX8 22 "DyckReachability" "edges" "LDyckReachability$Edges;").before _ sM = true := hts _ (by decide +kernel)
  have hl : lv_has ls 2 [(0, .ref o), (1, .int x)] := hl
  refine lv_aload_n hx hb dX8_loss_0 rfl (lv_at hl 0 rfl) ?_
  refine va_get (D := G.1) (ci := 5) (v := .ref e) (C := RX8) (T := TX8) (N := 11) hx hb hts hinX8 hown hK hP 0 rfl rfl 2 (by decide) hlk22 (fun _ h9 => h9) rfl dX8_loss_1 ?_
  refine lv_iload_n hx hb dX8_loss_4 rfl (lv_at hl 1 rfl) ?_
  refine zVi (W1 := [(o, .inr (5, [.int (nI V), .long sd, .ref e, .ref cp, .ref bw, .ref ds, .ref hs, .ref sl, .ref sf, .ref tx, .ref ob])), (e, .inr (1, [.ref a1, .ref a2, .ref a3, .int (nI k)]))]) (W2 := [(o, .inr (5, [.int (nI V), .long sd, .ref e, .ref cp, .ref bw, .ref ds, .ref hs, .ref sl, .ref sf, .ref tx, .ref ob])), (e, .inr (1, [.ref a1, .ref a2, .ref a3, .int (nI k)]))]) (wr := [(o, .inr (5, [.int (nI V), .long sd, .ref e, .ref cp, .ref bw, .ref ds, .ref hs, .ref sl, .ref sf, .ref tx, .ref ob]))]) (rest := []) SM (c_X2_holds l G e a1 a2 a3 k x (by first | assumption | omega)) (cwV 1 hts gX8_loss_X2_holds rfl rfl rfl (by decide +kernel) ⟨Nat.le_of_ble_eq_true rfl, Nat.le_of_ble_eq_true rfl⟩) hK hE hA hP hD hS hl.1 [1] [0] [0, 1] rfl rfl rfl (by decide) (ci := 1) rfl rfl rfl rfl rfl (Nat.le_of_ble_eq_true rfl) ⟨Nat.zero_le _, Nat.zero_le _⟩ dX8_loss_5 (fun H locs hP hD hS => ?_)
  refine zb_ne (tgt := 13) hx hb dX8_loss_8 (by decide) (fun c_1 => ?_) (fun c_1 => ?_)
  · skip
    exfalso; omega
  · skip
    refine lv_iconst (v := (-1)) hx hb dX8_loss_11 (by decide) ?_
    exact kret _ _ _ _ _ _ rfl rfl hP hD hS dX8_loss_12
set_option maxHeartbeats 4000000 in
set_option maxRecDepth 100000 in
theorem c_X8_loss_ok (l : Launch) (G : zG) (o e cp bw ds hs sl sf tx ob V : Nat) (sd : Int64) (a1 a2 a3 : Nat) (s t lb : Nat → Nat) (k : Nat) (c1 c2 c3 : Nat) (sc tc lc : Nat → Nat) (kc : Nat) (x : Int32) (hV : V ≤ 8) (hx : 0 ≤ x.toInt ∧ x.toInt < k) (hk : k ≤ 16) (hbs : ∀ i, s i < 8) (hbt : ∀ i, t i < 8) (hlb : ∀ i, lb i < 7) (hkc : kc ≤ 16) (hcs : ∀ i, sc i < 8) (hct : ∀ i, tc i < 8) (hcl : ∀ i, lc i < 7) : MI l yX8_loss wsX8_loss ({ frames := 6, cells := 0, slots := 0, locals := 142 }) G [.ref o, .int x] [(o, .inr (5, [.int (nI V), .long sd, .ref e, .ref cp, .ref bw, .ref ds, .ref hs, .ref sl, .ref sf, .ref tx, .ref ob])), (e, .inr (1, [.ref a1, .ref a2, .ref a3, .int (nI k)])), zA G a1 16 s, zA G a2 16 t, zA G a3 16 lb, (cp, .inr (1, [.ref c1, .ref c2, .ref c3, .int (nI kc)])), zA G c1 16 sc, zA G c2 16 tc, zA G c3 16 lc] (nI (zPr s t lb k V) - nI (zCpw s t lb k V x.toInt.toNat)) [(o, .inr (5, [.int (nI V), .long sd, .ref e, .ref cp, .ref bw, .ref ds, .ref hs, .ref sl, .ref sf, .ref tx, .ref ob])), (e, .inr (1, [.ref a1, .ref a2, .ref a3, .int (nI k)])), zA G a1 16 s, zA G a2 16 t, zA G a3 16 lb, (cp, .inr (1, [.ref c1, .ref c2, .ref c3, .int (nI (k - 1))])), zA G c1 16 (zDr (zTk sc s k) (x.toInt.toNat) k), zA G c2 16 (zDr (zTk tc t k) (x.toInt.toNat) k), zA G c3 16 (zDr (zTk lc lb k) (x.toInt.toNat) k)] := by
  refine MI.enter (cc := cX8_loss) (maxL := 2) (by decide) rfl (Nat.le_of_ble_eq_true rfl) rfl ?_
  intro pM eM sM mM bM tM cM QM AM ls hat kret
  obtain ⟨SM, hA, hK, hE, hP, hD, hS, hl⟩ := hat
  have hx := SM.1
  have hb := SM.2.1
  have hown : sM.vm.findClass RX8 = some mM.cls := SM.2.2.2.1
  have hts := SM.2.2.2.2
  have hinX8 : ∀ w ∈ u_ws RX8 TX8 11, w ∈ wsX8_loss := by decide +kernel
  have hlk22 : (Cond.fieldLink RX8 22 "DyckReachability" "edges" "LDyckReachability$Edges;").before _ sM = true := hts _ (by decide +kernel)
  have hl : lv_has ls 2 [(0, .ref o), (1, .int x)] := hl
  refine lv_aload_n hx hb dX8_loss_0 rfl (lv_at hl 0 rfl) ?_
  refine va_get (D := G.1) (ci := 5) (v := .ref e) (C := RX8) (T := TX8) (N := 11) hx hb hts hinX8 hown hK hP 0 rfl rfl 2 (by decide) hlk22 (fun _ h9 => h9) rfl dX8_loss_1 ?_
  refine lv_iload_n hx hb dX8_loss_4 rfl (lv_at hl 1 rfl) ?_
  refine zVi (W1 := [(o, .inr (5, [.int (nI V), .long sd, .ref e, .ref cp, .ref bw, .ref ds, .ref hs, .ref sl, .ref sf, .ref tx, .ref ob])), (e, .inr (1, [.ref a1, .ref a2, .ref a3, .int (nI k)])), zA G a1 16 s, zA G a2 16 t, zA G a3 16 lb, (cp, .inr (1, [.ref c1, .ref c2, .ref c3, .int (nI kc)])), zA G c1 16 sc, zA G c2 16 tc, zA G c3 16 lc]) (W2 := [(o, .inr (5, [.int (nI V), .long sd, .ref e, .ref cp, .ref bw, .ref ds, .ref hs, .ref sl, .ref sf, .ref tx, .ref ob])), (e, .inr (1, [.ref a1, .ref a2, .ref a3, .int (nI k)])), zA G a1 16 s, zA G a2 16 t, zA G a3 16 lb, (cp, .inr (1, [.ref c1, .ref c2, .ref c3, .int (nI kc)])), zA G c1 16 sc, zA G c2 16 tc, zA G c3 16 lc]) (wr := [(o, .inr (5, [.int (nI V), .long sd, .ref e, .ref cp, .ref bw, .ref ds, .ref hs, .ref sl, .ref sf, .ref tx, .ref ob])), zA G a1 16 s, zA G a2 16 t, zA G a3 16 lb, (cp, .inr (1, [.ref c1, .ref c2, .ref c3, .int (nI kc)])), zA G c1 16 sc, zA G c2 16 tc, zA G c3 16 lc]) (rest := []) SM (c_X2_holds l G e a1 a2 a3 k x (by first | assumption | omega)) (cwV 1 hts gX8_loss_X2_holds rfl rfl rfl (by decide +kernel) ⟨Nat.le_of_ble_eq_true rfl, Nat.le_of_ble_eq_true rfl⟩) hK hE hA hP hD hS hl.1 [1] [0, 2, 3, 4, 5, 6, 7, 8] [0, 8, 1, 2, 3, 4, 5, 6, 7] rfl rfl rfl (by decide) (ci := 1) rfl rfl rfl rfl rfl (Nat.le_of_ble_eq_true rfl) ⟨Nat.zero_le _, Nat.zero_le _⟩ dX8_loss_5 (fun H locs hP hD hS => ?_)
  refine zb_ne (tgt := 13) hx hb dX8_loss_8 (by decide) (fun c_1 => ?_) (fun c_1 => ?_)
  · skip
    have hl : lv_has ls 2 [(0, .ref o), (1, .int (nI x.toInt.toNat))] := by rw [← xN_eq (x := x) (by omega)]; exact hl
    refine lv_aload_n hx hb dX8_loss_13 rfl (lv_at hl 0 rfl) ?_
    refine lv_aload_n hx hb dX8_loss_14 rfl (lv_at hl 0 rfl) ?_
    refine va_get (D := G.1) (ci := 5) (v := .ref e) (C := RX8) (T := TX8) (N := 11) hx hb hts hinX8 hown hK hP 0 rfl rfl 2 (by decide) hlk22 (fun _ h9 => h9) rfl dX8_loss_15 ?_
    refine zVi (W1 := [(o, .inr (5, [.int (nI V), .long sd, .ref e, .ref cp, .ref bw, .ref ds, .ref hs, .ref sl, .ref sf, .ref tx, .ref ob])), (e, .inr (1, [.ref a1, .ref a2, .ref a3, .int (nI k)])), zA G a1 16 s, zA G a2 16 t, zA G a3 16 lb, (cp, .inr (1, [.ref c1, .ref c2, .ref c3, .int (nI kc)])), zA G c1 16 sc, zA G c2 16 tc, zA G c3 16 lc]) (W2 := [(o, .inr (5, [.int (nI V), .long sd, .ref e, .ref cp, .ref bw, .ref ds, .ref hs, .ref sl, .ref sf, .ref tx, .ref ob])), (e, .inr (1, [.ref a1, .ref a2, .ref a3, .int (nI k)])), zA G a1 16 s, zA G a2 16 t, zA G a3 16 lb, (cp, .inr (1, [.ref c1, .ref c2, .ref c3, .int (nI kc)])), zA G c1 16 sc, zA G c2 16 tc, zA G c3 16 lc]) (wr := [(cp, .inr (1, [.ref c1, .ref c2, .ref c3, .int (nI kc)])), zA G c1 16 sc, zA G c2 16 tc, zA G c3 16 lc]) (rest := []) SM (c_X8_countPairs l G o e cp bw ds hs sl sf tx ob V sd e a1 a2 a3 s t lb k (by first | assumption | omega) (by first | assumption | omega) (by first | assumption | omega) (by first | assumption | omega) (by first | assumption | omega)) (cwV 1 hts gX8_loss_X8_countPairs rfl rfl rfl (by decide +kernel) ⟨Nat.le_of_ble_eq_true rfl, Nat.le_of_ble_eq_true rfl⟩) hK hE hA hP hD hS hl.1 [0, 1, 2, 3, 4] [5, 6, 7, 8] [4, 5, 6, 7, 8, 0, 1, 2, 3] rfl rfl rfl (by decide) (ci := 5) rfl rfl rfl rfl rfl (Nat.le_of_ble_eq_true rfl) ⟨Nat.zero_le _, Nat.zero_le _⟩ dX8_loss_18 (fun H locs hP hD hS => ?_)
    refine lv_aload_n hx hb dX8_loss_21 rfl (lv_at hl 0 rfl) ?_
    refine lv_iload_n hx hb dX8_loss_22 rfl (lv_at hl 1 rfl) ?_
    refine zVi (W1 := [(o, .inr (5, [.int (nI V), .long sd, .ref e, .ref cp, .ref bw, .ref ds, .ref hs, .ref sl, .ref sf, .ref tx, .ref ob])), (e, .inr (1, [.ref a1, .ref a2, .ref a3, .int (nI k)])), zA G a1 16 s, zA G a2 16 t, zA G a3 16 lb, (cp, .inr (1, [.ref c1, .ref c2, .ref c3, .int (nI kc)])), zA G c1 16 sc, zA G c2 16 tc, zA G c3 16 lc]) (W2 := [(o, .inr (5, [.int (nI V), .long sd, .ref e, .ref cp, .ref bw, .ref ds, .ref hs, .ref sl, .ref sf, .ref tx, .ref ob])), (e, .inr (1, [.ref a1, .ref a2, .ref a3, .int (nI k)])), zA G a1 16 s, zA G a2 16 t, zA G a3 16 lb, (cp, .inr (1, [.ref c1, .ref c2, .ref c3, .int (nI (k - 1))])), zA G c1 16 (zDr (zTk sc s k) x.toInt.toNat k), zA G c2 16 (zDr (zTk tc t k) x.toInt.toNat k), zA G c3 16 (zDr (zTk lc lb k) x.toInt.toNat k)]) (wr := []) (rest := [.int (nI (zPr s t lb k V))]) SM (c_X8_countPairsWithout l G o e cp bw ds hs sl sf tx ob V sd a1 a2 a3 s t lb k c1 c2 c3 sc tc lc kc x.toInt.toNat (by first | assumption | omega) (by first | assumption | omega) (by first | assumption | omega) (by first | assumption | omega) (by first | assumption | omega) (by first | assumption | omega) (by first | assumption | omega) (by first | assumption | omega) (by first | assumption | omega) (by first | assumption | omega)) (cwV 1 hts gX8_loss_X8_countPairsWithout rfl rfl rfl (by decide +kernel) ⟨Nat.le_of_ble_eq_true rfl, Nat.le_of_ble_eq_true rfl⟩) hK hE hA hP hD hS hl.1 [0, 1, 2, 3, 4, 5, 6, 7, 8] [] [0, 1, 2, 3, 4, 5, 6, 7, 8] rfl rfl rfl (by decide) (ci := 5) rfl rfl rfl rfl rfl (Nat.le_of_ble_eq_true rfl) ⟨Nat.zero_le _, Nat.zero_le _⟩ dX8_loss_23 (fun H locs hP hD hS => ?_)
    refine lv_isub hx hb dX8_loss_26 ?_
    exact kret _ _ _ _ _ _ (by first | rfl | simp_all) rfl hP hD hS dX8_loss_27
  · skip
    exfalso; omega
set_option maxHeartbeats 4000000 in
set_option maxRecDepth 100000 in
theorem c_X8_criticalEdge (l : Launch) (G : zG) (o e cp bw ds hs sl sf tx ob V : Nat) (sd : Int64) (a1 a2 a3 : Nat) (s t lb : Nat → Nat) (k : Nat) (c1 c2 c3 : Nat) (sc tc lc : Nat → Nat) (kc : Nat) (hV : V ≤ 8) (hk : k ≤ 16) (hbs : ∀ i, s i < 8) (hbt : ∀ i, t i < 8) (hlb : ∀ i, lb i < 7) (hkc : kc ≤ 16) (hcs : ∀ i, sc i < 8) (hct : ∀ i, tc i < 8) (hcl : ∀ i, lc i < 7) : MX (zQ4) l yX8_criticalEdge wsX8_criticalEdge ({ frames := 6, cells := 0, slots := 0, locals := 142 }) G [.ref o] [(o, .inr (5, [.int (nI V), .long sd, .ref e, .ref cp, .ref bw, .ref ds, .ref hs, .ref sl, .ref sf, .ref tx, .ref ob])), (e, .inr (1, [.ref a1, .ref a2, .ref a3, .int (nI k)])), zA G a1 16 s, zA G a2 16 t, zA G a3 16 lb, (cp, .inr (1, [.ref c1, .ref c2, .ref c3, .int (nI kc)])), zA G c1 16 sc, zA G c2 16 tc, zA G c3 16 lc] (zCrX s t lb k V) (fun u : zQ4 => [(o, .inr (5, [.int (nI V), .long sd, .ref e, .ref cp, .ref bw, .ref ds, .ref hs, .ref sl, .ref sf, .ref tx, .ref ob])), (e, .inr (1, [.ref a1, .ref a2, .ref a3, .int (nI k)])), zA G a1 16 s, zA G a2 16 t, zA G a3 16 lb, (cp, .inr (1, [.ref c1, .ref c2, .ref c3, .int (nI u.2.2.2)])), zA G c1 16 u.1, zA G c2 16 u.2.1, zA G c3 16 u.2.2.1]) (fun u : zQ4 => zQ4ok u) := by
  refine MX.enter (cc := cX8_criticalEdge) (maxL := 5) (by decide) rfl (Nat.le_of_ble_eq_true rfl) ?_
  intro pM eM sM mM bM tM cM QM AM ls hat kret
  obtain ⟨SM, hA, hK, hE, hP, hD, hS, hl⟩ := hat
  have hx := SM.1
  have hb := SM.2.1
  have hown : sM.vm.findClass RX8 = some mM.cls := SM.2.2.2.1
  have hts := SM.2.2.2.2
  have hinX8 : ∀ w ∈ u_ws RX8 TX8 11, w ∈ wsX8_criticalEdge := by decide +kernel
  have hlk22 : (Cond.fieldLink RX8 22 "DyckReachability" "edges" "LDyckReachability$Edges;").before _ sM = true := hts _ (by decide +kernel)
  have hinX2 : ∀ w ∈ u_ws RX2 TX2 4, w ∈ wsX8_criticalEdge := by decide +kernel
  have hlk92 : (Cond.fieldLink RX8 92 "DyckReachability$Edges" "size" "I").before _ sM = true := hts _ (by decide +kernel)
  have hl : lv_has ls 5 [(0, .ref o)] := hl
  refine lv_bipush (v := (-9)) hx hb dX8_criticalEdge_0 (by decide) ?_
  refine lv_istore_n (lv' := [(1, .int (-9)), (0, .ref o)]) hx hb dX8_criticalEdge_2 rfl hl (by decide) rfl (fun ls hl => ?_)
  refine lv_bipush (v := nI 65) hx hb dX8_criticalEdge_3 (by decide) ?_
  refine lv_istore_n (lv' := [(2, .int (nI 65)), (1, .int (-9)), (0, .ref o)]) hx hb dX8_criticalEdge_5 rfl hl (by decide) rfl (fun ls hl => ?_)
  refine lv_iconst (v := nI 0) hx hb dX8_criticalEdge_6 (by decide) ?_
  refine lv_istore_n (lv' := [(3, .int (nI 0)), (2, .int (nI 65)), (1, .int (-9)), (0, .ref o)]) hx hb dX8_criticalEdge_7 rfl hl (by decide) rfl (fun ls hl => ?_)
  have lp8 : ∀ (n9 : Nat), ∀ (j b : Nat) (a : Int32) (sc2 tc2 lc2 : Nat → Nat) (kc2 : Nat), (j ≤ k) → ((a, b) = zIt (zCrF s t lb k V) j ((-9), 65)) → (b ≤ 65) → (∀ i, sc2 i < 8) → (∀ i, tc2 i < 8) → (∀ i, lc2 i < 7) → (kc2 ≤ 16) → (k - j) < n9 → ∀ (H : Heap) (locs : List Loc) (ls : Array Slot), va_P G.1 vwCl [(o, .inr (5, [.int (nI V), .long sd, .ref e, .ref cp, .ref bw, .ref ds, .ref hs, .ref sl, .ref sf, .ref tx, .ref ob])), (e, .inr (1, [.ref a1, .ref a2, .ref a3, .int (nI k)])), zA G a1 16 s, zA G a2 16 t, zA G a3 16 lb, (cp, .inr (1, [.ref c1, .ref c2, .ref c3, .int (nI kc2)])), zA G c1 16 sc2, zA G c2 16 tc2, zA G c3 16 lc2] H → va_D AM [(o, .inr (5, [.int (nI V), .long sd, .ref e, .ref cp, .ref bw, .ref ds, .ref hs, .ref sl, .ref sf, .ref tx, .ref ob])), (e, .inr (1, [.ref a1, .ref a2, .ref a3, .int (nI k)])), zA G a1 16 s, zA G a2 16 t, zA G a3 16 lb, (cp, .inr (1, [.ref c1, .ref c2, .ref c3, .int (nI kc2)])), zA G c1 16 sc2, zA G c2 16 tc2, zA G c3 16 lc2] → va_S AM sM.heap H locs → lv_has ls 5 [(0, .ref o), (1, .int a), (2, .int (nI b)), (3, .int (nI j))] → W pM l eM ({ frames := 6, cells := 0, slots := 0, locals := 142 }) sM mM (([.ref o] : List Value).toArray) bM tM cM H locs 0 0 QM (F0 mM 8 ls []) := by
    intro n9
    induction n9 with
    | zero =>
      intro _ _ _ _ _ _ _ _ _ _ _ _ _ _ h9
      exact absurd h9 (Nat.not_lt_zero _)
    | succ n9 ih9 =>
      intro j b a sc2 tc2 lc2 kc2 h1 hq hb65 g1 g2 g3 g4 hmu8 H locs ls hP hD hS hl
      have ih8 := ih9
      clear ih9
      refine lv_iload_n hx hb dX8_criticalEdge_8 rfl (lv_at hl 3 rfl) ?_
      refine lv_aload_n hx hb dX8_criticalEdge_9 rfl (lv_at hl 0 rfl) ?_
      refine va_get (D := G.1) (ci := 5) (v := .ref e) (C := RX8) (T := TX8) (N := 11) hx hb hts hinX8 hown hK hP 0 rfl rfl 2 (by decide) hlk22 (fun _ h9 => h9) rfl dX8_criticalEdge_10 ?_
      refine va_get (D := G.1) (ci := 1) (v := .int (nI k)) (C := RX2) (T := TX2) (N := 4) hx hb hts hinX2 hown hK hP 1 rfl rfl 3 (by decide) hlk92 (fun _ h9 => h9) rfl dX8_criticalEdge_13 ?_
      refine zn_ge (tgt := 43) hx hb dX8_criticalEdge_16 (by decide) (by omega) (by omega) (fun c_1 => ?_) (fun c_1 => ?_)
      · skip
        refine lv_iload_n hx hb dX8_criticalEdge_43 rfl (lv_at hl 1 rfl) ?_
        exact kret _ _ _ _ _ _ (sc2, tc2, lc2, kc2) (by have hq9 : j = k := (by omega); subst hq9; unfold zCrX; rw [← hq]) ⟨by assumption, by assumption, by assumption, by first | assumption | omega⟩ rfl hP hD hS dX8_criticalEdge_44
      · skip
        refine lv_aload_n hx hb dX8_criticalEdge_19 rfl (lv_at hl 0 rfl) ?_
        refine lv_iload_n hx hb dX8_criticalEdge_20 rfl (lv_at hl 3 rfl) ?_
        refine zVi (W1 := [(o, .inr (5, [.int (nI V), .long sd, .ref e, .ref cp, .ref bw, .ref ds, .ref hs, .ref sl, .ref sf, .ref tx, .ref ob])), (e, .inr (1, [.ref a1, .ref a2, .ref a3, .int (nI k)])), zA G a1 16 s, zA G a2 16 t, zA G a3 16 lb, (cp, .inr (1, [.ref c1, .ref c2, .ref c3, .int (nI kc2)])), zA G c1 16 sc2, zA G c2 16 tc2, zA G c3 16 lc2]) (W2 := [(o, .inr (5, [.int (nI V), .long sd, .ref e, .ref cp, .ref bw, .ref ds, .ref hs, .ref sl, .ref sf, .ref tx, .ref ob])), (e, .inr (1, [.ref a1, .ref a2, .ref a3, .int (nI k)])), zA G a1 16 s, zA G a2 16 t, zA G a3 16 lb, (cp, .inr (1, [.ref c1, .ref c2, .ref c3, .int (nI (k - 1))])), zA G c1 16 (zDr (zTk sc2 s k) j k), zA G c2 16 (zDr (zTk tc2 t k) j k), zA G c3 16 (zDr (zTk lc2 lb k) j k)]) (wr := []) (rest := []) SM (c_X8_countPairsWithout l G o e cp bw ds hs sl sf tx ob V sd a1 a2 a3 s t lb k c1 c2 c3 sc2 tc2 lc2 kc2 j (by first | assumption | omega) (by first | assumption | omega) (by first | assumption | omega) (by first | assumption | omega) (by first | assumption | omega) (by first | assumption | omega) (by first | assumption | omega) (by first | assumption | omega) (by first | assumption | omega) (by first | assumption | omega)) (cwV 1 hts gX8_criticalEdge_X8_countPairsWithout rfl rfl rfl (by decide +kernel) ⟨Nat.le_of_ble_eq_true rfl, Nat.le_of_ble_eq_true rfl⟩) hK hE hA hP hD hS hl.1 [0, 1, 2, 3, 4, 5, 6, 7, 8] [] [0, 1, 2, 3, 4, 5, 6, 7, 8] rfl rfl rfl (by decide) (ci := 5) rfl rfl rfl rfl rfl (Nat.le_of_ble_eq_true rfl) ⟨Nat.zero_le _, Nat.zero_le _⟩ dX8_criticalEdge_21 (fun H locs hP hD hS => ?_)
        refine lv_istore (lv' := [(4, .int (nI (zCpw s t lb k V j))), (0, .ref o), (1, .int a), (2, .int (nI b)), (3, .int (nI j))]) hx hb dX8_criticalEdge_24 hl (by decide) rfl (fun ls hl => ?_)
        have hpl := zPop_le (zBp (zDr s j k) (zDr t j k) (zDr lb j k) (k - 1) V)
        refine lv_iload hx hb dX8_criticalEdge_26 (lv_at hl 0 rfl) ?_
        refine lv_iload_n hx hb dX8_criticalEdge_28 rfl (lv_at hl 3 rfl) ?_
        have hpl2 : zCpw s t lb k V j ≤ 64 := hpl
        refine zn_ge (tgt := 37) hx hb dX8_criticalEdge_29 (by decide) (by omega) (by omega) (fun c_2 => ?_) (fun c_2 => ?_)
        · skip
          refine lv_iinc (v := nI (j + 1)) (lv' := [(3, .int (nI (j + 1))), (4, .int (nI (zCpw s t lb k V j))), (0, .ref o), (1, .int a), (2, .int (nI b))]) hx hb dX8_criticalEdge_37 hl (k := 4) rfl (zinc j 1) (by decide) rfl (fun ls hl => ?_)
          refine lv_goto (tgt := 8) hx hb dX8_criticalEdge_40 (by decide) ?_
          exact ih8 (j + 1) b a (zDr (zTk sc2 s k) j k) (zDr (zTk tc2 t k) j k) (zDr (zTk lc2 lb k) j k) (k - 1) (by first | assumption | omega) (by rw [zIt_s, ← hq]; unfold zCrF; dsimp only; first | rw [if_pos (by omega)] | rw [if_neg (by omega)]) (by first | assumption | omega) (by first | assumption | omega | exact zDr_lt (zTk_lt (by assumption) (by assumption)) | exact zSel_lt (by assumption) (by assumption) _ | exact zTk_lt (by assumption) (by assumption) | exact zU_lt (by assumption) (by omega) | (have hctl := zCt_le (by assumption) k; omega)) (by first | assumption | omega | exact zDr_lt (zTk_lt (by assumption) (by assumption)) | exact zSel_lt (by assumption) (by assumption) _ | exact zTk_lt (by assumption) (by assumption) | exact zU_lt (by assumption) (by omega) | (have hctl := zCt_le (by assumption) k; omega)) (by first | assumption | omega | exact zDr_lt (zTk_lt (by assumption) (by assumption)) | exact zSel_lt (by assumption) (by assumption) _ | exact zTk_lt (by assumption) (by assumption) | exact zU_lt (by assumption) (by omega) | (have hctl := zCt_le (by assumption) k; omega)) (by first | assumption | omega | exact zDr_lt (zTk_lt (by assumption) (by assumption)) | exact zSel_lt (by assumption) (by assumption) _ | exact zTk_lt (by assumption) (by assumption) | exact zU_lt (by assumption) (by omega) | (have hctl := zCt_le (by assumption) k; omega)) (by omega) _ _ _ hP hD hS (lv_sub hl [2, 3, 4, 0] rfl)
        · skip
          refine lv_iload hx hb dX8_criticalEdge_32 (lv_at hl 0 rfl) ?_
          refine lv_istore_n (lv' := [(2, .int (nI (zCpw s t lb k V j))), (4, .int (nI (zCpw s t lb k V j))), (0, .ref o), (1, .int a), (3, .int (nI j))]) hx hb dX8_criticalEdge_34 rfl hl (by decide) rfl (fun ls hl => ?_)
          refine lv_iload_n hx hb dX8_criticalEdge_35 rfl (lv_at hl 4 rfl) ?_
          refine lv_istore_n (lv' := [(1, .int (nI j)), (2, .int (nI (zCpw s t lb k V j))), (4, .int (nI (zCpw s t lb k V j))), (0, .ref o), (3, .int (nI j))]) hx hb dX8_criticalEdge_36 rfl hl (by decide) rfl (fun ls hl => ?_)
          refine lv_iinc (v := nI (j + 1)) (lv' := [(3, .int (nI (j + 1))), (1, .int (nI j)), (2, .int (nI (zCpw s t lb k V j))), (4, .int (nI (zCpw s t lb k V j))), (0, .ref o)]) hx hb dX8_criticalEdge_37 hl (k := 4) rfl (zinc j 1) (by decide) rfl (fun ls hl => ?_)
          refine lv_goto (tgt := 8) hx hb dX8_criticalEdge_40 (by decide) ?_
          exact ih8 (j + 1) (zCpw s t lb k V j) (nI j) (zDr (zTk sc2 s k) j k) (zDr (zTk tc2 t k) j k) (zDr (zTk lc2 lb k) j k) (k - 1) (by first | assumption | omega) (by rw [zIt_s, ← hq]; unfold zCrF; dsimp only; first | rw [if_pos (by omega)] | rw [if_neg (by omega)]) (by first | assumption | omega) (by first | assumption | omega | exact zDr_lt (zTk_lt (by assumption) (by assumption)) | exact zSel_lt (by assumption) (by assumption) _ | exact zTk_lt (by assumption) (by assumption) | exact zU_lt (by assumption) (by omega) | (have hctl := zCt_le (by assumption) k; omega)) (by first | assumption | omega | exact zDr_lt (zTk_lt (by assumption) (by assumption)) | exact zSel_lt (by assumption) (by assumption) _ | exact zTk_lt (by assumption) (by assumption) | exact zU_lt (by assumption) (by omega) | (have hctl := zCt_le (by assumption) k; omega)) (by first | assumption | omega | exact zDr_lt (zTk_lt (by assumption) (by assumption)) | exact zSel_lt (by assumption) (by assumption) _ | exact zTk_lt (by assumption) (by assumption) | exact zU_lt (by assumption) (by omega) | (have hctl := zCt_le (by assumption) k; omega)) (by first | assumption | omega | exact zDr_lt (zTk_lt (by assumption) (by assumption)) | exact zSel_lt (by assumption) (by assumption) _ | exact zTk_lt (by assumption) (by assumption) | exact zU_lt (by assumption) (by omega) | (have hctl := zCt_le (by assumption) k; omega)) (by omega) _ _ _ hP hD hS (lv_sub hl [4, 1, 2, 0] rfl)
  exact lp8 (k - 0 + 1) 0 65 (-9) sc tc lc kc (by first | assumption | omega) rfl (by first | assumption | omega) (by first | assumption | omega) (by first | assumption | omega) (by first | assumption | omega) (by first | assumption | omega) (Nat.lt_succ_self _) _ _ _ hP hD hS (lv_sub hl [3, 2, 1, 0] rfl)
set_option maxHeartbeats 4000000 in
set_option maxRecDepth 100000 in
theorem c_X8_representative_bad (l : Launch) (G : zG) (o e cp bw ds hs sl sf tx ob V : Nat) (sd : Int64) (x : Int32) (hV : V ≤ 8) (hb0 : ¬ (0 ≤ x.toInt ∧ x.toInt < V)) : MI l yX8_representative wsX8_representative ({ frames := 1, cells := 0, slots := 0, locals := 21 }) G [.ref o, .int x] [(o, .inr (5, [.int (nI V), .long sd, .ref e, .ref cp, .ref bw, .ref ds, .ref hs, .ref sl, .ref sf, .ref tx, .ref ob]))] (-1) [(o, .inr (5, [.int (nI V), .long sd, .ref e, .ref cp, .ref bw, .ref ds, .ref hs, .ref sl, .ref sf, .ref tx, .ref ob]))] := by
  refine MI.enter (cc := cX8_representative) (maxL := 4) (by decide) rfl (Nat.le_of_ble_eq_true rfl) rfl ?_
  intro pM eM sM mM bM tM cM QM AM ls hat kret
  obtain ⟨SM, hA, hK, hE, hP, hD, hS, hl⟩ := hat
  have hx := SM.1
  have hb := SM.2.1
  have hown : sM.vm.findClass RX8 = some mM.cls := SM.2.2.2.1
  have hts := SM.2.2.2.2
  have hl : lv_has ls 4 [(0, .ref o), (1, .int x)] := hl
  refine lv_aload_n hx hb dX8_representative_0 rfl (lv_at hl 0 rfl) ?_
  refine lv_iload_n hx hb dX8_representative_1 rfl (lv_at hl 1 rfl) ?_
  refine zVi (W1 := [(o, .inr (5, [.int (nI V), .long sd, .ref e, .ref cp, .ref bw, .ref ds, .ref hs, .ref sl, .ref sf, .ref tx, .ref ob]))]) (W2 := [(o, .inr (5, [.int (nI V), .long sd, .ref e, .ref cp, .ref bw, .ref ds, .ref hs, .ref sl, .ref sf, .ref tx, .ref ob]))]) (wr := []) (rest := []) SM (c_X8_isVertex l G o e cp bw ds hs sl sf tx ob V sd x (by first | assumption | omega)) (cwV 1 hts gX8_representative_X8_isVertex rfl rfl rfl (by decide +kernel) ⟨Nat.le_of_ble_eq_true rfl, Nat.le_of_ble_eq_true rfl⟩) hK hE hA hP hD hS hl.1 [0] [] [0] rfl rfl rfl (by decide) (ci := 5) rfl rfl rfl rfl rfl (Nat.le_of_ble_eq_true rfl) ⟨Nat.zero_le _, Nat.zero_le _⟩ dX8_representative_2 (fun H locs hP hD hS => ?_)
  refine zb_ne (tgt := 10) hx hb dX8_representative_5 (by decide) (fun c_1 => ?_) (fun c_1 => ?_)
  · skip
    exfalso; omega
  · skip
    refine lv_iconst (v := (-1)) hx hb dX8_representative_8 (by decide) ?_
    exact kret _ _ _ _ _ _ rfl rfl hP hD hS dX8_representative_9
set_option maxHeartbeats 4000000 in
set_option maxRecDepth 100000 in
theorem c_X8_representative_ok (l : Launch) (G : zG) (o e cp bw ds hs sl sf tx ob V : Nat) (sd : Int64) (a1 a2 a3 : Nat) (s t lb : Nat → Nat) (k : Nat) (w1 w2 w3 : Nat) (sw tw lw : Nat → Nat) (kw : Nat) (x : Int32) (hV : V ≤ 8) (hx : 0 ≤ x.toInt ∧ x.toInt < V) (hnz : 0 < zRow (zBiR s t lb k V) x.toInt.toNat) (hk : k ≤ 16) (hbs : ∀ i, s i < 8) (hbt : ∀ i, t i < 8) (hlb : ∀ i, lb i < 7) (hws : ∀ i, sw i < 8) (hwt : ∀ i, tw i < 8) (hwl : ∀ i, lw i < 7) : MI l yX8_representative wsX8_representative ({ frames := 4, cells := 0, slots := 0, locals := 100 }) G [.ref o, .int x] [(o, .inr (5, [.int (nI V), .long sd, .ref e, .ref cp, .ref bw, .ref ds, .ref hs, .ref sl, .ref sf, .ref tx, .ref ob])), (e, .inr (1, [.ref a1, .ref a2, .ref a3, .int (nI k)])), zA G a1 16 s, zA G a2 16 t, zA G a3 16 lb, (bw, .inr (1, [.ref w1, .ref w2, .ref w3, .int (nI kw)])), zA G w1 32 sw, zA G w2 32 tw, zA G w3 32 lw] (nI (zTz (zRow (zBiR s t lb k V) x.toInt.toNat))) [(o, .inr (5, [.int (nI V), .long sd, .ref e, .ref cp, .ref bw, .ref ds, .ref hs, .ref sl, .ref sf, .ref tx, .ref ob])), (e, .inr (1, [.ref a1, .ref a2, .ref a3, .int (nI k)])), zA G a1 16 s, zA G a2 16 t, zA G a3 16 lb, (bw, .inr (1, [.ref w1, .ref w2, .ref w3, .int (nI (k + k))])), zA G w1 32 (zBw sw s t k k), zA G w2 32 (zBw tw t s k k), zA G w3 32 (zBw lw lb (zOBs lb) k k)] := by
  refine MI.enter (cc := cX8_representative) (maxL := 4) (by decide) rfl (Nat.le_of_ble_eq_true rfl) rfl ?_
  intro pM eM sM mM bM tM cM QM AM ls hat kret
  obtain ⟨SM, hA, hK, hE, hP, hD, hS, hl⟩ := hat
  have hx := SM.1
  have hb := SM.2.1
  have hown : sM.vm.findClass RX8 = some mM.cls := SM.2.2.2.1
  have hts := SM.2.2.2.2
  have hinX8 : ∀ w ∈ u_ws RX8 TX8 11, w ∈ wsX8_representative := by decide +kernel
  have hlk29 : (Cond.fieldLink RX8 29 "DyckReachability" "bothWays" "LDyckReachability$Edges;").before _ sM = true := hts _ (by decide +kernel)
  have hlk22 : (Cond.fieldLink RX8 22 "DyckReachability" "edges" "LDyckReachability$Edges;").before _ sM = true := hts _ (by decide +kernel)
  have hlk9 : (Cond.fieldLink RX8 9 "DyckReachability" "vertices" "I").before _ sM = true := hts _ (by decide +kernel)
  have hl : lv_has ls 4 [(0, .ref o), (1, .int x)] := hl
  refine lv_aload_n hx hb dX8_representative_0 rfl (lv_at hl 0 rfl) ?_
  refine lv_iload_n hx hb dX8_representative_1 rfl (lv_at hl 1 rfl) ?_
  refine zVi (W1 := [(o, .inr (5, [.int (nI V), .long sd, .ref e, .ref cp, .ref bw, .ref ds, .ref hs, .ref sl, .ref sf, .ref tx, .ref ob])), (e, .inr (1, [.ref a1, .ref a2, .ref a3, .int (nI k)])), zA G a1 16 s, zA G a2 16 t, zA G a3 16 lb, (bw, .inr (1, [.ref w1, .ref w2, .ref w3, .int (nI kw)])), zA G w1 32 sw, zA G w2 32 tw, zA G w3 32 lw]) (W2 := [(o, .inr (5, [.int (nI V), .long sd, .ref e, .ref cp, .ref bw, .ref ds, .ref hs, .ref sl, .ref sf, .ref tx, .ref ob])), (e, .inr (1, [.ref a1, .ref a2, .ref a3, .int (nI k)])), zA G a1 16 s, zA G a2 16 t, zA G a3 16 lb, (bw, .inr (1, [.ref w1, .ref w2, .ref w3, .int (nI kw)])), zA G w1 32 sw, zA G w2 32 tw, zA G w3 32 lw]) (wr := [(e, .inr (1, [.ref a1, .ref a2, .ref a3, .int (nI k)])), zA G a1 16 s, zA G a2 16 t, zA G a3 16 lb, (bw, .inr (1, [.ref w1, .ref w2, .ref w3, .int (nI kw)])), zA G w1 32 sw, zA G w2 32 tw, zA G w3 32 lw]) (rest := []) SM (c_X8_isVertex l G o e cp bw ds hs sl sf tx ob V sd x (by first | assumption | omega)) (cwV 1 hts gX8_representative_X8_isVertex rfl rfl rfl (by decide +kernel) ⟨Nat.le_of_ble_eq_true rfl, Nat.le_of_ble_eq_true rfl⟩) hK hE hA hP hD hS hl.1 [0] [1, 2, 3, 4, 5, 6, 7, 8] [8, 0, 1, 2, 3, 4, 5, 6, 7] rfl rfl rfl (by decide) (ci := 5) rfl rfl rfl rfl rfl (Nat.le_of_ble_eq_true rfl) ⟨Nat.zero_le _, Nat.zero_le _⟩ dX8_representative_2 (fun H locs hP hD hS => ?_)
  refine zb_ne (tgt := 10) hx hb dX8_representative_5 (by decide) (fun c_1 => ?_) (fun c_1 => ?_)
  · skip
    have hl : lv_has ls 4 [(0, .ref o), (1, .int (nI x.toInt.toNat))] := by rw [← xN_eq (x := x) (by omega)]; exact hl
    refine lv_aload_n hx hb dX8_representative_10 rfl (lv_at hl 0 rfl) ?_
    refine va_get (D := G.1) (ci := 5) (v := .ref bw) (C := RX8) (T := TX8) (N := 11) hx hb hts hinX8 hown hK hP 0 rfl rfl 4 (by decide) hlk29 (fun _ h9 => h9) rfl dX8_representative_11 ?_
    refine lv_aload_n hx hb dX8_representative_14 rfl (lv_at hl 0 rfl) ?_
    refine va_get (D := G.1) (ci := 5) (v := .ref e) (C := RX8) (T := TX8) (N := 11) hx hb hts hinX8 hown hK hP 0 rfl rfl 2 (by decide) hlk22 (fun _ h9 => h9) rfl dX8_representative_15 ?_
    refine zVv (W1 := [(o, .inr (5, [.int (nI V), .long sd, .ref e, .ref cp, .ref bw, .ref ds, .ref hs, .ref sl, .ref sf, .ref tx, .ref ob])), (e, .inr (1, [.ref a1, .ref a2, .ref a3, .int (nI k)])), zA G a1 16 s, zA G a2 16 t, zA G a3 16 lb, (bw, .inr (1, [.ref w1, .ref w2, .ref w3, .int (nI kw)])), zA G w1 32 sw, zA G w2 32 tw, zA G w3 32 lw]) (W2 := [(o, .inr (5, [.int (nI V), .long sd, .ref e, .ref cp, .ref bw, .ref ds, .ref hs, .ref sl, .ref sf, .ref tx, .ref ob])), (e, .inr (1, [.ref a1, .ref a2, .ref a3, .int (nI k)])), zA G a1 16 s, zA G a2 16 t, zA G a3 16 lb, (bw, .inr (1, [.ref w1, .ref w2, .ref w3, .int (nI (k + k))])), zA G w1 32 (zBw sw s t k k), zA G w2 32 (zBw tw t s k k), zA G w3 32 (zBw lw lb (zOBs lb) k k)]) (wr := [(o, .inr (5, [.int (nI V), .long sd, .ref e, .ref cp, .ref bw, .ref ds, .ref hs, .ref sl, .ref sf, .ref tx, .ref ob]))]) (rest := []) SM (c_X2_takeBothWays l G bw w1 w2 w3 32 sw tw lw kw e a1 a2 a3 16 s t lb k (by first | assumption | omega) (by first | assumption | omega) (by first | assumption | omega) (by first | assumption | omega) (by first | assumption | omega)) (cwV 1 hts gX8_representative_X2_takeBothWays rfl rfl rfl (by decide +kernel) ⟨Nat.le_of_ble_eq_true rfl, Nat.le_of_ble_eq_true rfl⟩) hK hE hA hP hD hS hl.1 [5, 6, 7, 8, 1, 2, 3, 4] [0] [0, 5, 6, 7, 8, 1, 2, 3, 4] rfl rfl rfl (by decide) (ci := 1) rfl rfl rfl rfl rfl (Nat.le_of_ble_eq_true rfl) ⟨Nat.zero_le _, Nat.zero_le _⟩ dX8_representative_18 (fun H locs hP hD hS => ?_)
    refine lv_aload_n hx hb dX8_representative_21 rfl (lv_at hl 0 rfl) ?_
    refine va_get (D := G.1) (ci := 5) (v := .ref bw) (C := RX8) (T := TX8) (N := 11) hx hb hts hinX8 hown hK hP 0 rfl rfl 4 (by decide) hlk29 (fun _ h9 => h9) rfl dX8_representative_22 ?_
    refine lv_aload_n hx hb dX8_representative_25 rfl (lv_at hl 0 rfl) ?_
    refine va_get (D := G.1) (ci := 5) (v := .int (nI V)) (C := RX8) (T := TX8) (N := 11) hx hb hts hinX8 hown hK hP 0 rfl rfl 0 (by decide) hlk9 (fun _ h9 => h9) rfl dX8_representative_26 ?_
    refine zSl (W1 := [(o, .inr (5, [.int (nI V), .long sd, .ref e, .ref cp, .ref bw, .ref ds, .ref hs, .ref sl, .ref sf, .ref tx, .ref ob])), (e, .inr (1, [.ref a1, .ref a2, .ref a3, .int (nI k)])), zA G a1 16 s, zA G a2 16 t, zA G a3 16 lb, (bw, .inr (1, [.ref w1, .ref w2, .ref w3, .int (nI (k + k))])), zA G w1 32 (zBw sw s t k k), zA G w2 32 (zBw tw t s k k), zA G w3 32 (zBw lw lb (zOBs lb) k k)]) (W2 := [(o, .inr (5, [.int (nI V), .long sd, .ref e, .ref cp, .ref bw, .ref ds, .ref hs, .ref sl, .ref sf, .ref tx, .ref ob])), (e, .inr (1, [.ref a1, .ref a2, .ref a3, .int (nI k)])), zA G a1 16 s, zA G a2 16 t, zA G a3 16 lb, (bw, .inr (1, [.ref w1, .ref w2, .ref w3, .int (nI (k + k))])), zA G w1 32 (zBw sw s t k k), zA G w2 32 (zBw tw t s k k), zA G w3 32 (zBw lw lb (zOBs lb) k k)]) (wr := [(o, .inr (5, [.int (nI V), .long sd, .ref e, .ref cp, .ref bw, .ref ds, .ref hs, .ref sl, .ref sf, .ref tx, .ref ob])), (e, .inr (1, [.ref a1, .ref a2, .ref a3, .int (nI k)])), zA G a1 16 s, zA G a2 16 t, zA G a3 16 lb]) (rest := []) SM (c_X6_ofBalancedPaths l G bw w1 w2 w3 32 (zBw sw s t k k) (zBw tw t s k k) (zBw lw lb (zOBs lb) k k) (k + k) V (by first | assumption | omega) (by first | assumption | omega) (by first | assumption | omega) (zBw_lt hws hbs hbt) (zBw_lt hwt hbt hbs) (zBw_lt hwl hlb (fun i => zOB_lt (hlb i)))) (va_cwS 2 hts gX8_representative_X6_ofBalancedPaths rfl rfl rfl (by decide +kernel) ⟨Nat.le_of_ble_eq_true rfl, Nat.le_of_ble_eq_true rfl⟩) hK hE hA hP hD hS hl.1 [5, 6, 7, 8] [0, 1, 2, 3, 4] [0, 1, 2, 3, 4, 5, 6, 7, 8] rfl rfl rfl (by decide) rfl rfl (Nat.le_of_ble_eq_true rfl) ⟨Nat.zero_le _, Nat.zero_le _⟩ dX8_representative_29 (fun H locs hP hD hS => ?_)
    refine ztl (y := lN (zBiR s t lb k V)) (congrArg lN (zBiR_eq s t lb sw tw lw k V)) ?_
    have hbl : zBiR s t lb k V < 18446744073709551616 := by rw [← zBiR_eq s t lb sw tw lw k V]; exact zBp_lt (zBw_lt hws hbs hbt) hV
    refine lv_lstore_n (lv' := [(2, .long (lN (zBiR s t lb k V))), (0, .ref o), (1, .int (nI x.toInt.toNat))]) hx hb dX8_representative_32 rfl hl (by decide) rfl (fun ls hl => ?_)
    refine lv_lload_n hx hb dX8_representative_33 rfl (lv_at hl 0 rfl) ?_
    refine lv_iload_n hx hb dX8_representative_34 rfl (lv_at hl 2 rfl) ?_
    refine zSi (W1 := [(o, .inr (5, [.int (nI V), .long sd, .ref e, .ref cp, .ref bw, .ref ds, .ref hs, .ref sl, .ref sf, .ref tx, .ref ob])), (e, .inr (1, [.ref a1, .ref a2, .ref a3, .int (nI k)])), zA G a1 16 s, zA G a2 16 t, zA G a3 16 lb, (bw, .inr (1, [.ref w1, .ref w2, .ref w3, .int (nI (k + k))])), zA G w1 32 (zBw sw s t k k), zA G w2 32 (zBw tw t s k k), zA G w3 32 (zBw lw lb (zOBs lb) k k)]) (W2 := [(o, .inr (5, [.int (nI V), .long sd, .ref e, .ref cp, .ref bw, .ref ds, .ref hs, .ref sl, .ref sf, .ref tx, .ref ob])), (e, .inr (1, [.ref a1, .ref a2, .ref a3, .int (nI k)])), zA G a1 16 s, zA G a2 16 t, zA G a3 16 lb, (bw, .inr (1, [.ref w1, .ref w2, .ref w3, .int (nI (k + k))])), zA G w1 32 (zBw sw s t k k), zA G w2 32 (zBw tw t s k k), zA G w3 32 (zBw lw lb (zOBs lb) k k)]) (wr := [(o, .inr (5, [.int (nI V), .long sd, .ref e, .ref cp, .ref bw, .ref ds, .ref hs, .ref sl, .ref sf, .ref tx, .ref ob])), (e, .inr (1, [.ref a1, .ref a2, .ref a3, .int (nI k)])), zA G a1 16 s, zA G a2 16 t, zA G a3 16 lb, (bw, .inr (1, [.ref w1, .ref w2, .ref w3, .int (nI (k + k))])), zA G w1 32 (zBw sw s t k k), zA G w2 32 (zBw tw t s k k), zA G w3 32 (zBw lw lb (zOBs lb) k k)]) (rest := []) SM (c_X6_row l G (zBiR s t lb k V) x.toInt.toNat (by first | assumption | omega) (by first | assumption | omega)) (va_cwS 2 hts gX8_representative_X6_row rfl rfl rfl (by decide +kernel) ⟨Nat.le_of_ble_eq_true rfl, Nat.le_of_ble_eq_true rfl⟩) hK hE hA hP hD hS hl.1 [] [0, 1, 2, 3, 4, 5, 6, 7, 8] [0, 1, 2, 3, 4, 5, 6, 7, 8] rfl rfl rfl (by decide) rfl rfl (Nat.le_of_ble_eq_true rfl) ⟨Nat.zero_le _, Nat.zero_le _⟩ dX8_representative_35 (fun H locs hP hD hS => ?_)
    have hrl := zRow_lt (zBiR s t lb k V) x.toInt.toNat
    refine zSi (W1 := [(o, .inr (5, [.int (nI V), .long sd, .ref e, .ref cp, .ref bw, .ref ds, .ref hs, .ref sl, .ref sf, .ref tx, .ref ob])), (e, .inr (1, [.ref a1, .ref a2, .ref a3, .int (nI k)])), zA G a1 16 s, zA G a2 16 t, zA G a3 16 lb, (bw, .inr (1, [.ref w1, .ref w2, .ref w3, .int (nI (k + k))])), zA G w1 32 (zBw sw s t k k), zA G w2 32 (zBw tw t s k k), zA G w3 32 (zBw lw lb (zOBs lb) k k)]) (W2 := [(o, .inr (5, [.int (nI V), .long sd, .ref e, .ref cp, .ref bw, .ref ds, .ref hs, .ref sl, .ref sf, .ref tx, .ref ob])), (e, .inr (1, [.ref a1, .ref a2, .ref a3, .int (nI k)])), zA G a1 16 s, zA G a2 16 t, zA G a3 16 lb, (bw, .inr (1, [.ref w1, .ref w2, .ref w3, .int (nI (k + k))])), zA G w1 32 (zBw sw s t k k), zA G w2 32 (zBw tw t s k k), zA G w3 32 (zBw lw lb (zOBs lb) k k)]) (wr := [(o, .inr (5, [.int (nI V), .long sd, .ref e, .ref cp, .ref bw, .ref ds, .ref hs, .ref sl, .ref sf, .ref tx, .ref ob])), (e, .inr (1, [.ref a1, .ref a2, .ref a3, .int (nI k)])), zA G a1 16 s, zA G a2 16 t, zA G a3 16 lb, (bw, .inr (1, [.ref w1, .ref w2, .ref w3, .int (nI (k + k))])), zA G w1 32 (zBw sw s t k k), zA G w2 32 (zBw tw t s k k), zA G w3 32 (zBw lw lb (zOBs lb) k k)]) (rest := []) SM (c_J6_numberOfTrailingZeros_0f7a4 l G (zRow (zBiR s t lb k V) x.toInt.toNat) (by first | assumption | omega) (by first | assumption | omega)) (va_cwS 1 hts gX8_representative_J6_numberOfTrailingZeros_0f7a4 rfl rfl rfl (by decide +kernel) ⟨Nat.le_of_ble_eq_true rfl, Nat.le_of_ble_eq_true rfl⟩) hK hE hA hP hD hS hl.1 [] [0, 1, 2, 3, 4, 5, 6, 7, 8] [0, 1, 2, 3, 4, 5, 6, 7, 8] rfl rfl rfl (by decide) rfl rfl (Nat.le_of_ble_eq_true rfl) ⟨Nat.zero_le _, Nat.zero_le _⟩ dX8_representative_38 (fun H locs hP hD hS => ?_)
    exact kret _ _ _ _ _ _ rfl rfl hP hD hS dX8_representative_41
  · skip
    exfalso; omega
set_option maxHeartbeats 4000000 in
set_option maxRecDepth 100000 in
theorem c_X8_observe_ok (l : Launch) (G : zG) (o e cp bw ds hs sl sf tx ob V : Nat) (sd : Int64) (o1 o2 o3 : Nat) (os oe oa : Nat → Nat) (nn : Nat) (x y z : Int32) (hx : 0 ≤ x.toInt ∧ x.toInt < 8) (hy : 0 ≤ y.toInt ∧ y.toInt < 8) (hz : 0 ≤ z.toInt ∧ z.toInt < 2) (hn : nn < 6) : MI l yX8_observe wsX8_observe ({ frames := 2, cells := 0, slots := 0, locals := 43 }) G [.ref o, .int x, .int y, .int z] [(o, .inr (5, [.int (nI V), .long sd, .ref e, .ref cp, .ref bw, .ref ds, .ref hs, .ref sl, .ref sf, .ref tx, .ref ob])), (ob, .inr (4, [.ref o1, .ref o2, .ref o3, .int (nI nn)])), zA G o1 6 os, zA G o2 6 oe, zA G o3 6 oa] (nI (nn + 1)) [(o, .inr (5, [.int (nI V), .long sd, .ref e, .ref cp, .ref bw, .ref ds, .ref hs, .ref sl, .ref sf, .ref tx, .ref ob])), (ob, .inr (4, [.ref o1, .ref o2, .ref o3, .int (nI (nn + 1))])), zA G o1 6 (zU os nn x.toInt.toNat), zA G o2 6 (zU oe nn y.toInt.toNat), zA G o3 6 (zU oa nn z.toInt.toNat)] := by
  refine MI.enter (cc := cX8_observe) (maxL := 4) (by decide) rfl (Nat.le_of_ble_eq_true rfl) rfl ?_
  intro pM eM sM mM bM tM cM QM AM ls hat kret
  obtain ⟨SM, hA, hK, hE, hP, hD, hS, hl⟩ := hat
  have hx := SM.1
  have hb := SM.2.1
  have hown : sM.vm.findClass RX8 = some mM.cls := SM.2.2.2.1
  have hts := SM.2.2.2.2
  have hinX8 : ∀ w ∈ u_ws RX8 TX8 11, w ∈ wsX8_observe := by decide +kernel
  have hlk64 : (Cond.fieldLink RX8 64 "DyckReachability" "observations" "LDyckReachability$Observations;").before _ sM = true := hts _ (by decide +kernel)
  have hinX5 : ∀ w ∈ u_ws RX5 TX5 4, w ∈ wsX8_observe := by decide +kernel
  have hlk201 : (Cond.fieldLink RX8 201 "DyckReachability$Observations" "size" "I").before _ sM = true := hts _ (by decide +kernel)
  have hl : lv_has ls 4 [(0, .ref o), (1, .int x), (2, .int y), (3, .int z)] := hl
  refine lv_iload_n hx hb dX8_observe_0 rfl (lv_at hl 1 rfl) ?_
  refine zSi (W1 := [(o, .inr (5, [.int (nI V), .long sd, .ref e, .ref cp, .ref bw, .ref ds, .ref hs, .ref sl, .ref sf, .ref tx, .ref ob])), (ob, .inr (4, [.ref o1, .ref o2, .ref o3, .int (nI nn)])), zA G o1 6 os, zA G o2 6 oe, zA G o3 6 oa]) (W2 := [(o, .inr (5, [.int (nI V), .long sd, .ref e, .ref cp, .ref bw, .ref ds, .ref hs, .ref sl, .ref sf, .ref tx, .ref ob])), (ob, .inr (4, [.ref o1, .ref o2, .ref o3, .int (nI nn)])), zA G o1 6 os, zA G o2 6 oe, zA G o3 6 oa]) (wr := [(o, .inr (5, [.int (nI V), .long sd, .ref e, .ref cp, .ref bw, .ref ds, .ref hs, .ref sl, .ref sf, .ref tx, .ref ob])), (ob, .inr (4, [.ref o1, .ref o2, .ref o3, .int (nI nn)])), zA G o1 6 os, zA G o2 6 oe, zA G o3 6 oa]) (rest := []) SM (c_X8_isVertexNumber l G x ) (va_cwS 1 hts gX8_observe_X8_isVertexNumber rfl rfl rfl (by decide +kernel) ⟨Nat.le_of_ble_eq_true rfl, Nat.le_of_ble_eq_true rfl⟩) hK hE hA hP hD hS hl.1 [] [0, 1, 2, 3, 4] [0, 1, 2, 3, 4] rfl rfl rfl (by decide) rfl rfl (Nat.le_of_ble_eq_true rfl) ⟨Nat.zero_le _, Nat.zero_le _⟩ dX8_observe_1 (fun H locs hP hD hS => ?_)
  refine zb_eq (tgt := 23) hx hb dX8_observe_4 (by decide) (fun c_1 => ?_) (fun c_1 => ?_)
  · skip
    exfalso; omega
  · skip
    refine lv_iload_n hx hb dX8_observe_7 rfl (lv_at hl 2 rfl) ?_
    refine zSi (W1 := [(o, .inr (5, [.int (nI V), .long sd, .ref e, .ref cp, .ref bw, .ref ds, .ref hs, .ref sl, .ref sf, .ref tx, .ref ob])), (ob, .inr (4, [.ref o1, .ref o2, .ref o3, .int (nI nn)])), zA G o1 6 os, zA G o2 6 oe, zA G o3 6 oa]) (W2 := [(o, .inr (5, [.int (nI V), .long sd, .ref e, .ref cp, .ref bw, .ref ds, .ref hs, .ref sl, .ref sf, .ref tx, .ref ob])), (ob, .inr (4, [.ref o1, .ref o2, .ref o3, .int (nI nn)])), zA G o1 6 os, zA G o2 6 oe, zA G o3 6 oa]) (wr := [(o, .inr (5, [.int (nI V), .long sd, .ref e, .ref cp, .ref bw, .ref ds, .ref hs, .ref sl, .ref sf, .ref tx, .ref ob])), (ob, .inr (4, [.ref o1, .ref o2, .ref o3, .int (nI nn)])), zA G o1 6 os, zA G o2 6 oe, zA G o3 6 oa]) (rest := []) SM (c_X8_isVertexNumber l G y ) (va_cwS 1 hts gX8_observe_X8_isVertexNumber rfl rfl rfl (by decide +kernel) ⟨Nat.le_of_ble_eq_true rfl, Nat.le_of_ble_eq_true rfl⟩) hK hE hA hP hD hS hl.1 [] [0, 1, 2, 3, 4] [0, 1, 2, 3, 4] rfl rfl rfl (by decide) rfl rfl (Nat.le_of_ble_eq_true rfl) ⟨Nat.zero_le _, Nat.zero_le _⟩ dX8_observe_8 (fun H locs hP hD hS => ?_)
    refine zb_eq (tgt := 23) hx hb dX8_observe_11 (by decide) (fun c_2 => ?_) (fun c_2 => ?_)
    · skip
      exfalso; omega
    · skip
      refine lv_iload_n hx hb dX8_observe_14 rfl (lv_at hl 3 rfl) ?_
      refine zd_lt (a := (z).toInt) (tgt := 23) hx hb dX8_observe_15 (by decide) rfl (fun c_3 => ?_) (fun c_3 => ?_)
      · skip
        exfalso; omega
      · skip
        refine lv_iload_n hx hb dX8_observe_18 rfl (lv_at hl 3 rfl) ?_
        refine lv_iconst (v := nI 1) hx hb dX8_observe_19 (by decide) ?_
        refine zc_le (a := (z).toInt) (b := (1 : Nat)) (tgt := 26) hx hb dX8_observe_20 (by decide) rfl (zI (by omega)) (fun c_4 => ?_) (fun c_4 => ?_)
        · skip
          refine lv_aload_n hx hb dX8_observe_26 rfl (lv_at hl 0 rfl) ?_
          refine va_get (D := G.1) (ci := 5) (v := .ref ob) (C := RX8) (T := TX8) (N := 11) hx hb hts hinX8 hown hK hP 0 rfl rfl 10 (by decide) hlk64 (fun _ h9 => h9) rfl dX8_observe_27 ?_
          refine zVi (W1 := [(o, .inr (5, [.int (nI V), .long sd, .ref e, .ref cp, .ref bw, .ref ds, .ref hs, .ref sl, .ref sf, .ref tx, .ref ob])), (ob, .inr (4, [.ref o1, .ref o2, .ref o3, .int (nI nn)])), zA G o1 6 os, zA G o2 6 oe, zA G o3 6 oa]) (W2 := [(o, .inr (5, [.int (nI V), .long sd, .ref e, .ref cp, .ref bw, .ref ds, .ref hs, .ref sl, .ref sf, .ref tx, .ref ob])), (ob, .inr (4, [.ref o1, .ref o2, .ref o3, .int (nI nn)])), zA G o1 6 os, zA G o2 6 oe, zA G o3 6 oa]) (wr := [(o, .inr (5, [.int (nI V), .long sd, .ref e, .ref cp, .ref bw, .ref ds, .ref hs, .ref sl, .ref sf, .ref tx, .ref ob])), zA G o1 6 os, zA G o2 6 oe, zA G o3 6 oa]) (rest := []) SM (c_X5_isFull l G ob o1 o2 o3 nn (by first | assumption | omega)) (cwV 0 hts gX8_observe_X5_isFull rfl rfl rfl (by decide +kernel) ⟨Nat.le_of_ble_eq_true rfl, Nat.le_of_ble_eq_true rfl⟩) hK hE hA hP hD hS hl.1 [1] [0, 2, 3, 4] [0, 4, 1, 2, 3] rfl rfl rfl (by decide) (ci := 4) rfl rfl rfl rfl rfl (Nat.le_of_ble_eq_true rfl) ⟨Nat.zero_le _, Nat.zero_le _⟩ dX8_observe_30 (fun H locs hP hD hS => ?_)
          refine zb_eq (tgt := 39) hx hb dX8_observe_33 (by decide) (fun c_5 => ?_) (fun c_5 => ?_)
          · skip
            have hl : lv_has ls 4 [(0, .ref o), (1, .int (nI x.toInt.toNat)), (2, .int (nI y.toInt.toNat)), (3, .int (nI z.toInt.toNat))] := by rw [← xN_eq (x := x) (by omega), ← xN_eq (x := y) (by omega), ← xN_eq (x := z) (by omega)]; exact hl
            refine lv_aload_n hx hb dX8_observe_39 rfl (lv_at hl 0 rfl) ?_
            refine va_get (D := G.1) (ci := 5) (v := .ref ob) (C := RX8) (T := TX8) (N := 11) hx hb hts hinX8 hown hK hP 0 rfl rfl 10 (by decide) hlk64 (fun _ h9 => h9) rfl dX8_observe_40 ?_
            refine lv_iload_n hx hb dX8_observe_43 rfl (lv_at hl 1 rfl) ?_
            refine lv_iload_n hx hb dX8_observe_44 rfl (lv_at hl 2 rfl) ?_
            refine lv_iload_n hx hb dX8_observe_45 rfl (lv_at hl 3 rfl) ?_
            refine zVv (W1 := [(o, .inr (5, [.int (nI V), .long sd, .ref e, .ref cp, .ref bw, .ref ds, .ref hs, .ref sl, .ref sf, .ref tx, .ref ob])), (ob, .inr (4, [.ref o1, .ref o2, .ref o3, .int (nI nn)])), zA G o1 6 os, zA G o2 6 oe, zA G o3 6 oa]) (W2 := [(o, .inr (5, [.int (nI V), .long sd, .ref e, .ref cp, .ref bw, .ref ds, .ref hs, .ref sl, .ref sf, .ref tx, .ref ob])), (ob, .inr (4, [.ref o1, .ref o2, .ref o3, .int (nI (nn + 1))])), zA G o1 6 (zU os nn x.toInt.toNat), zA G o2 6 (zU oe nn y.toInt.toNat), zA G o3 6 (zU oa nn z.toInt.toNat)]) (wr := [(o, .inr (5, [.int (nI V), .long sd, .ref e, .ref cp, .ref bw, .ref ds, .ref hs, .ref sl, .ref sf, .ref tx, .ref ob]))]) (rest := []) SM (c_X5_put l G ob o1 o2 o3 os oe oa nn x.toInt.toNat y.toInt.toNat z.toInt.toNat (by first | assumption | omega)) (cwV 3 hts gX8_observe_X5_put rfl rfl rfl (by decide +kernel) ⟨Nat.le_of_ble_eq_true rfl, Nat.le_of_ble_eq_true rfl⟩) hK hE hA hP hD hS hl.1 [1, 2, 3, 4] [0] [0, 1, 2, 3, 4] rfl rfl rfl (by decide) (ci := 4) rfl rfl rfl rfl rfl (Nat.le_of_ble_eq_true rfl) ⟨Nat.zero_le _, Nat.zero_le _⟩ dX8_observe_46 (fun H locs hP hD hS => ?_)
            refine lv_aload_n hx hb dX8_observe_49 rfl (lv_at hl 0 rfl) ?_
            refine va_get (D := G.1) (ci := 5) (v := .ref ob) (C := RX8) (T := TX8) (N := 11) hx hb hts hinX8 hown hK hP 0 rfl rfl 10 (by decide) hlk64 (fun _ h9 => h9) rfl dX8_observe_50 ?_
            refine va_get (D := G.1) (ci := 4) (v := .int (nI (nn + 1))) (C := RX5) (T := TX5) (N := 4) hx hb hts hinX5 hown hK hP 1 rfl rfl 3 (by decide) hlk201 (fun _ h9 => h9) rfl dX8_observe_53 ?_
            exact kret _ _ _ _ _ _ rfl rfl hP hD hS dX8_observe_56
          · skip
            exfalso; omega
        · skip
          exfalso; omega
set_option maxHeartbeats 4000000 in
set_option maxRecDepth 100000 in
theorem c_X8_observe_bad (l : Launch) (G : zG) (o e cp bw ds hs sl sf tx ob V : Nat) (sd : Int64) (o1 o2 o3 : Nat) (os oe oa : Nat → Nat) (nn : Nat) (x y z : Int32) (hn : nn ≤ 6) (hb0 : ¬ ((0 ≤ x.toInt ∧ x.toInt < 8) ∧ (0 ≤ y.toInt ∧ y.toInt < 8) ∧ (0 ≤ z.toInt ∧ z.toInt < 2) ∧ nn < 6)) : MI l yX8_observe wsX8_observe ({ frames := 1, cells := 0, slots := 0, locals := 20 }) G [.ref o, .int x, .int y, .int z] [(o, .inr (5, [.int (nI V), .long sd, .ref e, .ref cp, .ref bw, .ref ds, .ref hs, .ref sl, .ref sf, .ref tx, .ref ob])), (ob, .inr (4, [.ref o1, .ref o2, .ref o3, .int (nI nn)])), zA G o1 6 os, zA G o2 6 oe, zA G o3 6 oa] (zObX nn x y z) [(o, .inr (5, [.int (nI V), .long sd, .ref e, .ref cp, .ref bw, .ref ds, .ref hs, .ref sl, .ref sf, .ref tx, .ref ob])), (ob, .inr (4, [.ref o1, .ref o2, .ref o3, .int (nI nn)])), zA G o1 6 os, zA G o2 6 oe, zA G o3 6 oa] := by
  refine MI.enter (cc := cX8_observe) (maxL := 4) (by decide) rfl (Nat.le_of_ble_eq_true rfl) rfl ?_
  intro pM eM sM mM bM tM cM QM AM ls hat kret
  obtain ⟨SM, hA, hK, hE, hP, hD, hS, hl⟩ := hat
  have hx := SM.1
  have hb := SM.2.1
  have hown : sM.vm.findClass RX8 = some mM.cls := SM.2.2.2.1
  have hts := SM.2.2.2.2
  have hinX8 : ∀ w ∈ u_ws RX8 TX8 11, w ∈ wsX8_observe := by decide +kernel
  have hlk64 : (Cond.fieldLink RX8 64 "DyckReachability" "observations" "LDyckReachability$Observations;").before _ sM = true := hts _ (by decide +kernel)
  have hl : lv_has ls 4 [(0, .ref o), (1, .int x), (2, .int y), (3, .int z)] := hl
  refine lv_iload_n hx hb dX8_observe_0 rfl (lv_at hl 1 rfl) ?_
  refine zSi (W1 := [(o, .inr (5, [.int (nI V), .long sd, .ref e, .ref cp, .ref bw, .ref ds, .ref hs, .ref sl, .ref sf, .ref tx, .ref ob])), (ob, .inr (4, [.ref o1, .ref o2, .ref o3, .int (nI nn)])), zA G o1 6 os, zA G o2 6 oe, zA G o3 6 oa]) (W2 := [(o, .inr (5, [.int (nI V), .long sd, .ref e, .ref cp, .ref bw, .ref ds, .ref hs, .ref sl, .ref sf, .ref tx, .ref ob])), (ob, .inr (4, [.ref o1, .ref o2, .ref o3, .int (nI nn)])), zA G o1 6 os, zA G o2 6 oe, zA G o3 6 oa]) (wr := [(o, .inr (5, [.int (nI V), .long sd, .ref e, .ref cp, .ref bw, .ref ds, .ref hs, .ref sl, .ref sf, .ref tx, .ref ob])), (ob, .inr (4, [.ref o1, .ref o2, .ref o3, .int (nI nn)])), zA G o1 6 os, zA G o2 6 oe, zA G o3 6 oa]) (rest := []) SM (c_X8_isVertexNumber l G x ) (va_cwS 1 hts gX8_observe_X8_isVertexNumber rfl rfl rfl (by decide +kernel) ⟨Nat.le_of_ble_eq_true rfl, Nat.le_of_ble_eq_true rfl⟩) hK hE hA hP hD hS hl.1 [] [0, 1, 2, 3, 4] [0, 1, 2, 3, 4] rfl rfl rfl (by decide) rfl rfl (Nat.le_of_ble_eq_true rfl) ⟨Nat.zero_le _, Nat.zero_le _⟩ dX8_observe_1 (fun H locs hP hD hS => ?_)
  refine zb_eq (tgt := 23) hx hb dX8_observe_4 (by decide) (fun c_1 => ?_) (fun c_1 => ?_)
  · skip
    refine lv_bipush (v := (-2)) hx hb dX8_observe_23 (by decide) ?_
    exact kret _ _ _ _ _ _ (by unfold zObX; repeat (first | rw [if_pos (by first | assumption | omega)] | rw [if_neg (by first | assumption | omega)])) rfl hP hD hS dX8_observe_25
  · skip
    refine lv_iload_n hx hb dX8_observe_7 rfl (lv_at hl 2 rfl) ?_
    refine zSi (W1 := [(o, .inr (5, [.int (nI V), .long sd, .ref e, .ref cp, .ref bw, .ref ds, .ref hs, .ref sl, .ref sf, .ref tx, .ref ob])), (ob, .inr (4, [.ref o1, .ref o2, .ref o3, .int (nI nn)])), zA G o1 6 os, zA G o2 6 oe, zA G o3 6 oa]) (W2 := [(o, .inr (5, [.int (nI V), .long sd, .ref e, .ref cp, .ref bw, .ref ds, .ref hs, .ref sl, .ref sf, .ref tx, .ref ob])), (ob, .inr (4, [.ref o1, .ref o2, .ref o3, .int (nI nn)])), zA G o1 6 os, zA G o2 6 oe, zA G o3 6 oa]) (wr := [(o, .inr (5, [.int (nI V), .long sd, .ref e, .ref cp, .ref bw, .ref ds, .ref hs, .ref sl, .ref sf, .ref tx, .ref ob])), (ob, .inr (4, [.ref o1, .ref o2, .ref o3, .int (nI nn)])), zA G o1 6 os, zA G o2 6 oe, zA G o3 6 oa]) (rest := []) SM (c_X8_isVertexNumber l G y ) (va_cwS 1 hts gX8_observe_X8_isVertexNumber rfl rfl rfl (by decide +kernel) ⟨Nat.le_of_ble_eq_true rfl, Nat.le_of_ble_eq_true rfl⟩) hK hE hA hP hD hS hl.1 [] [0, 1, 2, 3, 4] [0, 1, 2, 3, 4] rfl rfl rfl (by decide) rfl rfl (Nat.le_of_ble_eq_true rfl) ⟨Nat.zero_le _, Nat.zero_le _⟩ dX8_observe_8 (fun H locs hP hD hS => ?_)
    refine zb_eq (tgt := 23) hx hb dX8_observe_11 (by decide) (fun c_2 => ?_) (fun c_2 => ?_)
    · skip
      refine lv_bipush (v := (-2)) hx hb dX8_observe_23 (by decide) ?_
      exact kret _ _ _ _ _ _ (by unfold zObX; repeat (first | rw [if_pos (by first | assumption | omega)] | rw [if_neg (by first | assumption | omega)])) rfl hP hD hS dX8_observe_25
    · skip
      refine lv_iload_n hx hb dX8_observe_14 rfl (lv_at hl 3 rfl) ?_
      refine zd_lt (a := (z).toInt) (tgt := 23) hx hb dX8_observe_15 (by decide) rfl (fun c_3 => ?_) (fun c_3 => ?_)
      · skip
        refine lv_bipush (v := (-2)) hx hb dX8_observe_23 (by decide) ?_
        exact kret _ _ _ _ _ _ (by unfold zObX; repeat (first | rw [if_pos (by first | assumption | omega)] | rw [if_neg (by first | assumption | omega)])) rfl hP hD hS dX8_observe_25
      · skip
        refine lv_iload_n hx hb dX8_observe_18 rfl (lv_at hl 3 rfl) ?_
        refine lv_iconst (v := nI 1) hx hb dX8_observe_19 (by decide) ?_
        refine zc_le (a := (z).toInt) (b := (1 : Nat)) (tgt := 26) hx hb dX8_observe_20 (by decide) rfl (zI (by omega)) (fun c_4 => ?_) (fun c_4 => ?_)
        · skip
          refine lv_aload_n hx hb dX8_observe_26 rfl (lv_at hl 0 rfl) ?_
          refine va_get (D := G.1) (ci := 5) (v := .ref ob) (C := RX8) (T := TX8) (N := 11) hx hb hts hinX8 hown hK hP 0 rfl rfl 10 (by decide) hlk64 (fun _ h9 => h9) rfl dX8_observe_27 ?_
          refine zVi (W1 := [(o, .inr (5, [.int (nI V), .long sd, .ref e, .ref cp, .ref bw, .ref ds, .ref hs, .ref sl, .ref sf, .ref tx, .ref ob])), (ob, .inr (4, [.ref o1, .ref o2, .ref o3, .int (nI nn)])), zA G o1 6 os, zA G o2 6 oe, zA G o3 6 oa]) (W2 := [(o, .inr (5, [.int (nI V), .long sd, .ref e, .ref cp, .ref bw, .ref ds, .ref hs, .ref sl, .ref sf, .ref tx, .ref ob])), (ob, .inr (4, [.ref o1, .ref o2, .ref o3, .int (nI nn)])), zA G o1 6 os, zA G o2 6 oe, zA G o3 6 oa]) (wr := [(o, .inr (5, [.int (nI V), .long sd, .ref e, .ref cp, .ref bw, .ref ds, .ref hs, .ref sl, .ref sf, .ref tx, .ref ob])), zA G o1 6 os, zA G o2 6 oe, zA G o3 6 oa]) (rest := []) SM (c_X5_isFull l G ob o1 o2 o3 nn (by first | assumption | omega)) (cwV 0 hts gX8_observe_X5_isFull rfl rfl rfl (by decide +kernel) ⟨Nat.le_of_ble_eq_true rfl, Nat.le_of_ble_eq_true rfl⟩) hK hE hA hP hD hS hl.1 [1] [0, 2, 3, 4] [0, 4, 1, 2, 3] rfl rfl rfl (by decide) (ci := 4) rfl rfl rfl rfl rfl (Nat.le_of_ble_eq_true rfl) ⟨Nat.zero_le _, Nat.zero_le _⟩ dX8_observe_30 (fun H locs hP hD hS => ?_)
          refine zb_eq (tgt := 39) hx hb dX8_observe_33 (by decide) (fun c_5 => ?_) (fun c_5 => ?_)
          · skip
            exfalso; omega
          · skip
            refine lv_bipush (v := (-4)) hx hb dX8_observe_36 (by decide) ?_
            exact kret _ _ _ _ _ _ (by unfold zObX; repeat (first | rw [if_pos (by first | assumption | omega)] | rw [if_neg (by first | assumption | omega)])) rfl hP hD hS dX8_observe_38
        · skip
          refine lv_bipush (v := (-2)) hx hb dX8_observe_23 (by decide) ?_
          exact kret _ _ _ _ _ _ (by unfold zObX; repeat (first | rw [if_pos (by first | assumption | omega)] | rw [if_neg (by first | assumption | omega)])) rfl hP hD hS dX8_observe_25
set_option maxHeartbeats 4000000 in
set_option maxRecDepth 100000 in
theorem c_X8_clearObservations (l : Launch) (G : zG) (o e cp bw ds hs sl sf tx ob V : Nat) (sd : Int64) (o1 o2 o3 nn : Nat)  : MI l yX8_clearObservations wsX8_clearObservations ({ frames := 0, cells := 0, slots := 0, locals := 0 }) G [.ref o] [(o, .inr (5, [.int (nI V), .long sd, .ref e, .ref cp, .ref bw, .ref ds, .ref hs, .ref sl, .ref sf, .ref tx, .ref ob])), (ob, .inr (4, [.ref o1, .ref o2, .ref o3, .int (nI nn)]))] (nI nn) [(o, .inr (5, [.int (nI V), .long sd, .ref e, .ref cp, .ref bw, .ref ds, .ref hs, .ref sl, .ref sf, .ref tx, .ref ob])), (ob, .inr (4, [.ref o1, .ref o2, .ref o3, .int (nI 0)]))] := by
  refine MI.enter (cc := cX8_clearObservations) (maxL := 2) (by decide) rfl (Nat.le_of_ble_eq_true rfl) rfl ?_
  intro pM eM sM mM bM tM cM QM AM ls hat kret
  obtain ⟨SM, hA, hK, hE, hP, hD, hS, hl⟩ := hat
  have hx := SM.1
  have hb := SM.2.1
  have hown : sM.vm.findClass RX8 = some mM.cls := SM.2.2.2.1
  have hts := SM.2.2.2.2
  have hinX8 : ∀ w ∈ u_ws RX8 TX8 11, w ∈ wsX8_clearObservations := by decide +kernel
  have hlk64 : (Cond.fieldLink RX8 64 "DyckReachability" "observations" "LDyckReachability$Observations;").before _ sM = true := hts _ (by decide +kernel)
  have hinX5 : ∀ w ∈ u_ws RX5 TX5 4, w ∈ wsX8_clearObservations := by decide +kernel
  have hlk201 : (Cond.fieldLink RX8 201 "DyckReachability$Observations" "size" "I").before _ sM = true := hts _ (by decide +kernel)
  have hl : lv_has ls 2 [(0, .ref o)] := hl
  refine lv_aload_n hx hb dX8_clearObservations_0 rfl (lv_at hl 0 rfl) ?_
  refine va_get (D := G.1) (ci := 5) (v := .ref ob) (C := RX8) (T := TX8) (N := 11) hx hb hts hinX8 hown hK hP 0 rfl rfl 10 (by decide) hlk64 (fun _ h9 => h9) rfl dX8_clearObservations_1 ?_
  refine va_get (D := G.1) (ci := 4) (v := .int (nI nn)) (C := RX5) (T := TX5) (N := 4) hx hb hts hinX5 hown hK hP 1 rfl rfl 3 (by decide) hlk201 (fun _ h9 => h9) rfl dX8_clearObservations_4 ?_
  refine lv_istore_n (lv' := [(1, .int (nI nn)), (0, .ref o)]) hx hb dX8_clearObservations_7 rfl hl (by decide) rfl (fun ls hl => ?_)
  refine lv_aload_n hx hb dX8_clearObservations_8 rfl (lv_at hl 1 rfl) ?_
  refine va_get (D := G.1) (ci := 5) (v := .ref ob) (C := RX8) (T := TX8) (N := 11) hx hb hts hinX8 hown hK hP 0 rfl rfl 10 (by decide) hlk64 (fun _ h9 => h9) rfl dX8_clearObservations_9 ?_
  refine lv_iconst (v := nI 0) hx hb dX8_clearObservations_12 (by decide) ?_
  refine va_put (D := G.1) (ci := 4) (v := .int (nI 0)) (ty := .int) (C := RX5) (T := TX5) (N := 4) hx hb hts hinX5 tyX5 tyX5_ok nmX5 hown hK hP hD hS 1 rfl rfl 3 (by decide) hlk201 (fun _ h9 => h9) rfl (by decide +kernel) rfl rfl (Nat.le_of_ble_eq_true rfl) dX8_clearObservations_13 (fun H locs hP hD hS => ?_)
  have hP : va_P G.1 vwCl [(o, .inr (5, [.int (nI V), .long sd, .ref e, .ref cp, .ref bw, .ref ds, .ref hs, .ref sl, .ref sf, .ref tx, .ref ob])), (ob, .inr (4, [.ref o1, .ref o2, .ref o3, .int (nI 0)]))] H := hP
  have hD : va_D AM [(o, .inr (5, [.int (nI V), .long sd, .ref e, .ref cp, .ref bw, .ref ds, .ref hs, .ref sl, .ref sf, .ref tx, .ref ob])), (ob, .inr (4, [.ref o1, .ref o2, .ref o3, .int (nI 0)]))] := hD
  refine lv_iload_n hx hb dX8_clearObservations_16 rfl (lv_at hl 0 rfl) ?_
  exact kret _ _ _ _ _ _ rfl rfl hP hD hS dX8_clearObservations_17
set_option maxHeartbeats 4000000 in
set_option maxRecDepth 100000 in
theorem c_X8_possibleLabels_bad (l : Launch) (G : zG) (o e cp bw ds hs sl sf tx ob V : Nat) (sd : Int64) (a1 a2 a3 k : Nat) (x : Int32) (hk : k ≤ 16) (hb0 : ¬ (0 ≤ x.toInt ∧ x.toInt < k)) : MI l yX8_possibleLabels wsX8_possibleLabels ({ frames := 1, cells := 0, slots := 0, locals := 21 }) G [.ref o, .int x] [(o, .inr (5, [.int (nI V), .long sd, .ref e, .ref cp, .ref bw, .ref ds, .ref hs, .ref sl, .ref sf, .ref tx, .ref ob])), (e, .inr (1, [.ref a1, .ref a2, .ref a3, .int (nI k)]))] (-1) [(o, .inr (5, [.int (nI V), .long sd, .ref e, .ref cp, .ref bw, .ref ds, .ref hs, .ref sl, .ref sf, .ref tx, .ref ob])), (e, .inr (1, [.ref a1, .ref a2, .ref a3, .int (nI k)]))] := by
  refine MI.enter (cc := cX8_possibleLabels) (maxL := 4) (by decide) rfl (Nat.le_of_ble_eq_true rfl) rfl ?_
  intro pM eM sM mM bM tM cM QM AM ls hat kret
  obtain ⟨SM, hA, hK, hE, hP, hD, hS, hl⟩ := hat
  have hx := SM.1
  have hb := SM.2.1
  have hown : sM.vm.findClass RX8 = some mM.cls := SM.2.2.2.1
  have hts := SM.2.2.2.2
  have hinX8 : ∀ w ∈ u_ws RX8 TX8 11, w ∈ wsX8_possibleLabels := by decide +kernel
  have hlk22 : (Cond.fieldLink RX8 22 "DyckReachability" "edges" "LDyckReachability$Edges;").before _ sM = true := hts _ (by decide +kernel)
  have hl : lv_has ls 4 [(0, .ref o), (1, .int x)] := hl
  refine lv_aload_n hx hb dX8_possibleLabels_0 rfl (lv_at hl 0 rfl) ?_
  refine va_get (D := G.1) (ci := 5) (v := .ref e) (C := RX8) (T := TX8) (N := 11) hx hb hts hinX8 hown hK hP 0 rfl rfl 2 (by decide) hlk22 (fun _ h9 => h9) rfl dX8_possibleLabels_1 ?_
  refine lv_iload_n hx hb dX8_possibleLabels_4 rfl (lv_at hl 1 rfl) ?_
  refine zVi (W1 := [(o, .inr (5, [.int (nI V), .long sd, .ref e, .ref cp, .ref bw, .ref ds, .ref hs, .ref sl, .ref sf, .ref tx, .ref ob])), (e, .inr (1, [.ref a1, .ref a2, .ref a3, .int (nI k)]))]) (W2 := [(o, .inr (5, [.int (nI V), .long sd, .ref e, .ref cp, .ref bw, .ref ds, .ref hs, .ref sl, .ref sf, .ref tx, .ref ob])), (e, .inr (1, [.ref a1, .ref a2, .ref a3, .int (nI k)]))]) (wr := [(o, .inr (5, [.int (nI V), .long sd, .ref e, .ref cp, .ref bw, .ref ds, .ref hs, .ref sl, .ref sf, .ref tx, .ref ob]))]) (rest := []) SM (c_X2_holds l G e a1 a2 a3 k x (by first | assumption | omega)) (cwV 1 hts gX8_possibleLabels_X2_holds rfl rfl rfl (by decide +kernel) ⟨Nat.le_of_ble_eq_true rfl, Nat.le_of_ble_eq_true rfl⟩) hK hE hA hP hD hS hl.1 [1] [0] [0, 1] rfl rfl rfl (by decide) (ci := 1) rfl rfl rfl rfl rfl (Nat.le_of_ble_eq_true rfl) ⟨Nat.zero_le _, Nat.zero_le _⟩ dX8_possibleLabels_5 (fun H locs hP hD hS => ?_)
  refine zb_ne (tgt := 13) hx hb dX8_possibleLabels_8 (by decide) (fun c_1 => ?_) (fun c_1 => ?_)
  · skip
    exfalso; omega
  · skip
    refine lv_iconst (v := (-1)) hx hb dX8_possibleLabels_11 (by decide) ?_
    exact kret _ _ _ _ _ _ rfl rfl hP hD hS dX8_possibleLabels_12
set_option maxHeartbeats 4000000 in
set_option maxRecDepth 100000 in
theorem c_X8_possibleLabels_ok (l : Launch) (G : zG) (o e cp bw ds hs sl sf tx ob V : Nat) (sd : Int64) (a1 a2 a3 : Nat) (s t lb : Nat → Nat) (k : Nat) (c1 c2 c3 : Nat) (sc tc lc : Nat → Nat) (kc : Nat) (o1 o2 o3 : Nat) (os oe oa : Nat → Nat) (nn : Nat) (x : Int32) (hV : V ≤ 8) (hx : 0 ≤ x.toInt ∧ x.toInt < k) (hk : k ≤ 16) (hbs : ∀ i, s i < 8) (hbt : ∀ i, t i < 8) (hlb : ∀ i, lb i < 7) (hkc : kc ≤ 16) (hcs : ∀ i, sc i < 8) (hct : ∀ i, tc i < 8) (hcl : ∀ i, lc i < 7) (hos : ∀ i, os i < 8) (hoe : ∀ i, oe i < 8) (hoa : ∀ i, oa i < 2) (hnn : nn ≤ 6) : MX (zQ4) l yX8_possibleLabels wsX8_possibleLabels ({ frames := 4, cells := 0, slots := 0, locals := 100 }) G [.ref o, .int x] [(o, .inr (5, [.int (nI V), .long sd, .ref e, .ref cp, .ref bw, .ref ds, .ref hs, .ref sl, .ref sf, .ref tx, .ref ob])), (e, .inr (1, [.ref a1, .ref a2, .ref a3, .int (nI k)])), zA G a1 16 s, zA G a2 16 t, zA G a3 16 lb, (cp, .inr (1, [.ref c1, .ref c2, .ref c3, .int (nI kc)])), zA G c1 16 sc, zA G c2 16 tc, zA G c3 16 lc, (ob, .inr (4, [.ref o1, .ref o2, .ref o3, .int (nI nn)])), zA G o1 6 os, zA G o2 6 oe, zA G o3 6 oa] (nI (zPlX s t lb k V os oe oa nn x.toInt.toNat)) (fun u : zQ4 => [(o, .inr (5, [.int (nI V), .long sd, .ref e, .ref cp, .ref bw, .ref ds, .ref hs, .ref sl, .ref sf, .ref tx, .ref ob])), (e, .inr (1, [.ref a1, .ref a2, .ref a3, .int (nI k)])), zA G a1 16 s, zA G a2 16 t, zA G a3 16 lb, (cp, .inr (1, [.ref c1, .ref c2, .ref c3, .int (nI u.2.2.2)])), zA G c1 16 u.1, zA G c2 16 u.2.1, zA G c3 16 u.2.2.1, (ob, .inr (4, [.ref o1, .ref o2, .ref o3, .int (nI nn)])), zA G o1 6 os, zA G o2 6 oe, zA G o3 6 oa]) (fun u : zQ4 => zQ4ok u) := by
  refine MX.enter (cc := cX8_possibleLabels) (maxL := 4) (by decide) rfl (Nat.le_of_ble_eq_true rfl) ?_
  intro pM eM sM mM bM tM cM QM AM ls hat kret
  obtain ⟨SM, hA, hK, hE, hP, hD, hS, hl⟩ := hat
  have hx := SM.1
  have hb := SM.2.1
  have hown : sM.vm.findClass RX8 = some mM.cls := SM.2.2.2.1
  have hts := SM.2.2.2.2
  have hinX8 : ∀ w ∈ u_ws RX8 TX8 11, w ∈ wsX8_possibleLabels := by decide +kernel
  have hlk22 : (Cond.fieldLink RX8 22 "DyckReachability" "edges" "LDyckReachability$Edges;").before _ sM = true := hts _ (by decide +kernel)
  have hlk26 : (Cond.fieldLink RX8 26 "DyckReachability" "copy" "LDyckReachability$Edges;").before _ sM = true := hts _ (by decide +kernel)
  have hinX2 : ∀ w ∈ u_ws RX2 TX2 4, w ∈ wsX8_possibleLabels := by decide +kernel
  have hlk106 : (Cond.fieldLink RX8 106 "DyckReachability$Edges" "labels" "[I").before _ sM = true := hts _ (by decide +kernel)
  have hlk64 : (Cond.fieldLink RX8 64 "DyckReachability" "observations" "LDyckReachability$Observations;").before _ sM = true := hts _ (by decide +kernel)
  have hlk9 : (Cond.fieldLink RX8 9 "DyckReachability" "vertices" "I").before _ sM = true := hts _ (by decide +kernel)
  have hl : lv_has ls 4 [(0, .ref o), (1, .int x)] := hl
  refine lv_aload_n hx hb dX8_possibleLabels_0 rfl (lv_at hl 0 rfl) ?_
  refine va_get (D := G.1) (ci := 5) (v := .ref e) (C := RX8) (T := TX8) (N := 11) hx hb hts hinX8 hown hK hP 0 rfl rfl 2 (by decide) hlk22 (fun _ h9 => h9) rfl dX8_possibleLabels_1 ?_
  refine lv_iload_n hx hb dX8_possibleLabels_4 rfl (lv_at hl 1 rfl) ?_
  refine zVi (W1 := [(o, .inr (5, [.int (nI V), .long sd, .ref e, .ref cp, .ref bw, .ref ds, .ref hs, .ref sl, .ref sf, .ref tx, .ref ob])), (e, .inr (1, [.ref a1, .ref a2, .ref a3, .int (nI k)])), zA G a1 16 s, zA G a2 16 t, zA G a3 16 lb, (cp, .inr (1, [.ref c1, .ref c2, .ref c3, .int (nI kc)])), zA G c1 16 sc, zA G c2 16 tc, zA G c3 16 lc, (ob, .inr (4, [.ref o1, .ref o2, .ref o3, .int (nI nn)])), zA G o1 6 os, zA G o2 6 oe, zA G o3 6 oa]) (W2 := [(o, .inr (5, [.int (nI V), .long sd, .ref e, .ref cp, .ref bw, .ref ds, .ref hs, .ref sl, .ref sf, .ref tx, .ref ob])), (e, .inr (1, [.ref a1, .ref a2, .ref a3, .int (nI k)])), zA G a1 16 s, zA G a2 16 t, zA G a3 16 lb, (cp, .inr (1, [.ref c1, .ref c2, .ref c3, .int (nI kc)])), zA G c1 16 sc, zA G c2 16 tc, zA G c3 16 lc, (ob, .inr (4, [.ref o1, .ref o2, .ref o3, .int (nI nn)])), zA G o1 6 os, zA G o2 6 oe, zA G o3 6 oa]) (wr := [(o, .inr (5, [.int (nI V), .long sd, .ref e, .ref cp, .ref bw, .ref ds, .ref hs, .ref sl, .ref sf, .ref tx, .ref ob])), zA G a1 16 s, zA G a2 16 t, zA G a3 16 lb, (cp, .inr (1, [.ref c1, .ref c2, .ref c3, .int (nI kc)])), zA G c1 16 sc, zA G c2 16 tc, zA G c3 16 lc, (ob, .inr (4, [.ref o1, .ref o2, .ref o3, .int (nI nn)])), zA G o1 6 os, zA G o2 6 oe, zA G o3 6 oa]) (rest := []) SM (c_X2_holds l G e a1 a2 a3 k x (by first | assumption | omega)) (cwV 1 hts gX8_possibleLabels_X2_holds rfl rfl rfl (by decide +kernel) ⟨Nat.le_of_ble_eq_true rfl, Nat.le_of_ble_eq_true rfl⟩) hK hE hA hP hD hS hl.1 [1] [0, 2, 3, 4, 5, 6, 7, 8, 9, 10, 11, 12] [0, 12, 1, 2, 3, 4, 5, 6, 7, 8, 9, 10, 11] rfl rfl rfl (by decide) (ci := 1) rfl rfl rfl rfl rfl (Nat.le_of_ble_eq_true rfl) ⟨Nat.zero_le _, Nat.zero_le _⟩ dX8_possibleLabels_5 (fun H locs hP hD hS => ?_)
  refine zb_ne (tgt := 13) hx hb dX8_possibleLabels_8 (by decide) (fun c_1 => ?_) (fun c_1 => ?_)
  · skip
    have hl : lv_has ls 4 [(0, .ref o), (1, .int (nI x.toInt.toNat))] := by rw [← xN_eq (x := x) (by omega)]; exact hl
    refine lv_aload_n hx hb dX8_possibleLabels_13 rfl (lv_at hl 0 rfl) ?_
    refine va_get (D := G.1) (ci := 5) (v := .ref cp) (C := RX8) (T := TX8) (N := 11) hx hb hts hinX8 hown hK hP 0 rfl rfl 3 (by decide) hlk26 (fun _ h9 => h9) rfl dX8_possibleLabels_14 ?_
    refine lv_aload_n hx hb dX8_possibleLabels_17 rfl (lv_at hl 0 rfl) ?_
    refine va_get (D := G.1) (ci := 5) (v := .ref e) (C := RX8) (T := TX8) (N := 11) hx hb hts hinX8 hown hK hP 0 rfl rfl 2 (by decide) hlk22 (fun _ h9 => h9) rfl dX8_possibleLabels_18 ?_
    refine zVv (W1 := [(o, .inr (5, [.int (nI V), .long sd, .ref e, .ref cp, .ref bw, .ref ds, .ref hs, .ref sl, .ref sf, .ref tx, .ref ob])), (e, .inr (1, [.ref a1, .ref a2, .ref a3, .int (nI k)])), zA G a1 16 s, zA G a2 16 t, zA G a3 16 lb, (cp, .inr (1, [.ref c1, .ref c2, .ref c3, .int (nI kc)])), zA G c1 16 sc, zA G c2 16 tc, zA G c3 16 lc, (ob, .inr (4, [.ref o1, .ref o2, .ref o3, .int (nI nn)])), zA G o1 6 os, zA G o2 6 oe, zA G o3 6 oa]) (W2 := [(o, .inr (5, [.int (nI V), .long sd, .ref e, .ref cp, .ref bw, .ref ds, .ref hs, .ref sl, .ref sf, .ref tx, .ref ob])), (e, .inr (1, [.ref a1, .ref a2, .ref a3, .int (nI k)])), zA G a1 16 s, zA G a2 16 t, zA G a3 16 lb, (cp, .inr (1, [.ref c1, .ref c2, .ref c3, .int (nI k)])), zA G c1 16 (zTk sc s k), zA G c2 16 (zTk tc t k), zA G c3 16 (zTk lc lb k), (ob, .inr (4, [.ref o1, .ref o2, .ref o3, .int (nI nn)])), zA G o1 6 os, zA G o2 6 oe, zA G o3 6 oa]) (wr := [(o, .inr (5, [.int (nI V), .long sd, .ref e, .ref cp, .ref bw, .ref ds, .ref hs, .ref sl, .ref sf, .ref tx, .ref ob])), (ob, .inr (4, [.ref o1, .ref o2, .ref o3, .int (nI nn)])), zA G o1 6 os, zA G o2 6 oe, zA G o3 6 oa]) (rest := []) SM (c_X2_take l G cp c1 c2 c3 16 sc tc lc kc e a1 a2 a3 16 s t lb k (by first | assumption | omega) (by first | assumption | omega) (by first | assumption | omega) (by first | assumption | omega)) (cwV 1 hts gX8_possibleLabels_X2_take rfl rfl rfl (by decide +kernel) ⟨Nat.le_of_ble_eq_true rfl, Nat.le_of_ble_eq_true rfl⟩) hK hE hA hP hD hS hl.1 [5, 6, 7, 8, 1, 2, 3, 4] [0, 9, 10, 11, 12] [0, 9, 10, 11, 12, 5, 6, 7, 8, 1, 2, 3, 4] rfl rfl rfl (by decide) (ci := 1) rfl rfl rfl rfl rfl (Nat.le_of_ble_eq_true rfl) ⟨Nat.zero_le _, Nat.zero_le _⟩ dX8_possibleLabels_21 (fun H locs hP hD hS => ?_)
    refine lv_iconst (v := nI 0) hx hb dX8_possibleLabels_24 (by decide) ?_
    refine lv_istore_n (lv' := [(2, .int (nI 0)), (0, .ref o), (1, .int (nI x.toInt.toNat))]) hx hb dX8_possibleLabels_25 rfl hl (by decide) rfl (fun ls hl => ?_)
    refine lv_iconst (v := nI 0) hx hb dX8_possibleLabels_26 (by decide) ?_
    refine lv_istore_n (lv' := [(3, .int (nI 0)), (2, .int (nI 0)), (0, .ref o), (1, .int (nI x.toInt.toNat))]) hx hb dX8_possibleLabels_27 rfl hl (by decide) rfl (fun ls hl => ?_)
    have lp28 : ∀ (n9 : Nat), ∀ (p a : Nat) (lc2 : Nat → Nat), (p ≤ 7) → (a = zIt (zPlF s t lb k V os oe oa nn x.toInt.toNat) p 0) → (a < 128) → (∀ i, lc2 i < 7) → (∀ i, i < k → i ≠ x.toInt.toNat → lc2 i = lb i) → (7 - p) < n9 → ∀ (H : Heap) (locs : List Loc) (ls : Array Slot), va_P G.1 vwCl [(o, .inr (5, [.int (nI V), .long sd, .ref e, .ref cp, .ref bw, .ref ds, .ref hs, .ref sl, .ref sf, .ref tx, .ref ob])), (e, .inr (1, [.ref a1, .ref a2, .ref a3, .int (nI k)])), zA G a1 16 s, zA G a2 16 t, zA G a3 16 lb, (cp, .inr (1, [.ref c1, .ref c2, .ref c3, .int (nI k)])), zA G c1 16 (zTk sc s k), zA G c2 16 (zTk tc t k), zA G c3 16 lc2, (ob, .inr (4, [.ref o1, .ref o2, .ref o3, .int (nI nn)])), zA G o1 6 os, zA G o2 6 oe, zA G o3 6 oa] H → va_D AM [(o, .inr (5, [.int (nI V), .long sd, .ref e, .ref cp, .ref bw, .ref ds, .ref hs, .ref sl, .ref sf, .ref tx, .ref ob])), (e, .inr (1, [.ref a1, .ref a2, .ref a3, .int (nI k)])), zA G a1 16 s, zA G a2 16 t, zA G a3 16 lb, (cp, .inr (1, [.ref c1, .ref c2, .ref c3, .int (nI k)])), zA G c1 16 (zTk sc s k), zA G c2 16 (zTk tc t k), zA G c3 16 lc2, (ob, .inr (4, [.ref o1, .ref o2, .ref o3, .int (nI nn)])), zA G o1 6 os, zA G o2 6 oe, zA G o3 6 oa] → va_S AM sM.heap H locs → lv_has ls 4 [(0, .ref o), (1, .int (nI x.toInt.toNat)), (2, .int (nI a)), (3, .int (nI p))] → W pM l eM ({ frames := 4, cells := 0, slots := 0, locals := 100 }) sM mM (([.ref o, .int x] : List Value).toArray) bM tM cM H locs 0 0 QM (F0 mM 28 ls []) := by
      intro n9
      induction n9 with
      | zero =>
        intro _ _ _ _ _ _ _ _ h9
        exact absurd h9 (Nat.not_lt_zero _)
      | succ n9 ih9 =>
        intro p a lc2 h1 hq ha g3 g5 hmu28 H locs ls hP hD hS hl
        have ih28 := ih9
        clear ih9
        refine lv_iload_n hx hb dX8_possibleLabels_28 rfl (lv_at hl 3 rfl) ?_
        refine lv_bipush (v := nI 7) hx hb dX8_possibleLabels_29 (by decide) ?_
        refine zn_ge (tgt := 81) hx hb dX8_possibleLabels_31 (by decide) (by omega) (by omega) (fun c_2 => ?_) (fun c_2 => ?_)
        · skip
          refine lv_iload_n hx hb dX8_possibleLabels_81 rfl (lv_at hl 2 rfl) ?_
          exact kret _ _ _ _ _ _ (zTk sc s k, zTk tc t k, lc2, k) (congrArg nI (by have hq9 : p = 7 := (by omega); subst hq9; exact hq)) ⟨zTk_lt hcs hbs, zTk_lt hct hbt, g3, hk⟩ rfl hP hD hS dX8_possibleLabels_82
        · skip
          refine lv_aload_n hx hb dX8_possibleLabels_34 rfl (lv_at hl 0 rfl) ?_
          refine va_get (D := G.1) (ci := 5) (v := .ref cp) (C := RX8) (T := TX8) (N := 11) hx hb hts hinX8 hown hK hP 0 rfl rfl 3 (by decide) hlk26 (fun _ h9 => h9) rfl dX8_possibleLabels_35 ?_
          refine va_get (D := G.1) (ci := 1) (v := .ref c3) (C := RX2) (T := TX2) (N := 4) hx hb hts hinX2 hown hK hP 5 rfl rfl 2 (by decide) hlk106 (fun _ h9 => h9) rfl dX8_possibleLabels_38 ?_
          refine lv_iload_n hx hb dX8_possibleLabels_41 rfl (lv_at hl 1 rfl) ?_
          refine lv_iload_n hx hb dX8_possibleLabels_42 rfl (lv_at hl 3 rfl) ?_
          refine zi_ast hx hb hK hP hD hS 8 rfl (by omega) (by omega) dX8_possibleLabels_43 (fun H locs hP hD hS => ?_)
          have hP : va_P G.1 vwCl [(o, .inr (5, [.int (nI V), .long sd, .ref e, .ref cp, .ref bw, .ref ds, .ref hs, .ref sl, .ref sf, .ref tx, .ref ob])), (e, .inr (1, [.ref a1, .ref a2, .ref a3, .int (nI k)])), zA G a1 16 s, zA G a2 16 t, zA G a3 16 lb, (cp, .inr (1, [.ref c1, .ref c2, .ref c3, .int (nI k)])), zA G c1 16 (zTk sc s k), zA G c2 16 (zTk tc t k), zA G c3 16 (zU lc2 x.toInt.toNat p), (ob, .inr (4, [.ref o1, .ref o2, .ref o3, .int (nI nn)])), zA G o1 6 os, zA G o2 6 oe, zA G o3 6 oa] H := hP
          have hD : va_D AM [(o, .inr (5, [.int (nI V), .long sd, .ref e, .ref cp, .ref bw, .ref ds, .ref hs, .ref sl, .ref sf, .ref tx, .ref ob])), (e, .inr (1, [.ref a1, .ref a2, .ref a3, .int (nI k)])), zA G a1 16 s, zA G a2 16 t, zA G a3 16 lb, (cp, .inr (1, [.ref c1, .ref c2, .ref c3, .int (nI k)])), zA G c1 16 (zTk sc s k), zA G c2 16 (zTk tc t k), zA G c3 16 (zU lc2 x.toInt.toNat p), (ob, .inr (4, [.ref o1, .ref o2, .ref o3, .int (nI nn)])), zA G o1 6 os, zA G o2 6 oe, zA G o3 6 oa] := hD
          refine lv_aload_n hx hb dX8_possibleLabels_44 rfl (lv_at hl 0 rfl) ?_
          refine va_get (D := G.1) (ci := 5) (v := .ref ob) (C := RX8) (T := TX8) (N := 11) hx hb hts hinX8 hown hK hP 0 rfl rfl 10 (by decide) hlk64 (fun _ h9 => h9) rfl dX8_possibleLabels_45 ?_
          refine lv_aload_n hx hb dX8_possibleLabels_48 rfl (lv_at hl 0 rfl) ?_
          refine va_get (D := G.1) (ci := 5) (v := .ref cp) (C := RX8) (T := TX8) (N := 11) hx hb hts hinX8 hown hK hP 0 rfl rfl 3 (by decide) hlk26 (fun _ h9 => h9) rfl dX8_possibleLabels_49 ?_
          refine lv_aload_n hx hb dX8_possibleLabels_52 rfl (lv_at hl 0 rfl) ?_
          refine va_get (D := G.1) (ci := 5) (v := .int (nI V)) (C := RX8) (T := TX8) (N := 11) hx hb hts hinX8 hown hK hP 0 rfl rfl 0 (by decide) hlk9 (fun _ h9 => h9) rfl dX8_possibleLabels_53 ?_
          refine zSl (W1 := [(o, .inr (5, [.int (nI V), .long sd, .ref e, .ref cp, .ref bw, .ref ds, .ref hs, .ref sl, .ref sf, .ref tx, .ref ob])), (e, .inr (1, [.ref a1, .ref a2, .ref a3, .int (nI k)])), zA G a1 16 s, zA G a2 16 t, zA G a3 16 lb, (cp, .inr (1, [.ref c1, .ref c2, .ref c3, .int (nI k)])), zA G c1 16 (zTk sc s k), zA G c2 16 (zTk tc t k), zA G c3 16 (zU lc2 x.toInt.toNat p), (ob, .inr (4, [.ref o1, .ref o2, .ref o3, .int (nI nn)])), zA G o1 6 os, zA G o2 6 oe, zA G o3 6 oa]) (W2 := [(o, .inr (5, [.int (nI V), .long sd, .ref e, .ref cp, .ref bw, .ref ds, .ref hs, .ref sl, .ref sf, .ref tx, .ref ob])), (e, .inr (1, [.ref a1, .ref a2, .ref a3, .int (nI k)])), zA G a1 16 s, zA G a2 16 t, zA G a3 16 lb, (cp, .inr (1, [.ref c1, .ref c2, .ref c3, .int (nI k)])), zA G c1 16 (zTk sc s k), zA G c2 16 (zTk tc t k), zA G c3 16 (zU lc2 x.toInt.toNat p), (ob, .inr (4, [.ref o1, .ref o2, .ref o3, .int (nI nn)])), zA G o1 6 os, zA G o2 6 oe, zA G o3 6 oa]) (wr := [(o, .inr (5, [.int (nI V), .long sd, .ref e, .ref cp, .ref bw, .ref ds, .ref hs, .ref sl, .ref sf, .ref tx, .ref ob])), (e, .inr (1, [.ref a1, .ref a2, .ref a3, .int (nI k)])), zA G a1 16 s, zA G a2 16 t, zA G a3 16 lb, (ob, .inr (4, [.ref o1, .ref o2, .ref o3, .int (nI nn)])), zA G o1 6 os, zA G o2 6 oe, zA G o3 6 oa]) (rest := [.ref ob]) SM (c_X6_ofBalancedPaths l G cp c1 c2 c3 16 (zTk sc s k) (zTk tc t k) (zU lc2 x.toInt.toNat p) k V (by first | assumption | omega) (by first | assumption | omega) (by first | assumption | omega) (zTk_lt hcs hbs) (zTk_lt hct hbt) (zU_lt g3 (by omega))) (va_cwS 2 hts gX8_possibleLabels_X6_ofBalancedPaths rfl rfl rfl (by decide +kernel) ⟨Nat.le_of_ble_eq_true rfl, Nat.le_of_ble_eq_true rfl⟩) hK hE hA hP hD hS hl.1 [5, 6, 7, 8] [0, 1, 2, 3, 4, 9, 10, 11, 12] [0, 1, 2, 3, 4, 9, 10, 11, 12, 5, 6, 7, 8] rfl rfl rfl (by decide) rfl rfl (Nat.le_of_ble_eq_true rfl) ⟨Nat.zero_le _, Nat.zero_le _⟩ dX8_possibleLabels_56 (fun H locs hP hD hS => ?_)
          refine ztl (y := lN (zLbR s t lb k V x.toInt.toNat p)) (congrArg lN (zLbR_eq s t lb _ _ _ V p (fun i h9 => by unfold zTk; rw [if_pos h9]) (fun i h9 => by unfold zTk; rw [if_pos h9]) g5)) ?_
          have hbl : zLbR s t lb k V x.toInt.toNat p < 18446744073709551616 := zBp_lt hbs hV
          refine lv_aload_n hx hb dX8_possibleLabels_59 rfl (lv_at hl 0 rfl) ?_
          refine va_get (D := G.1) (ci := 5) (v := .int (nI V)) (C := RX8) (T := TX8) (N := 11) hx hb hts hinX8 hown hK hP 0 rfl rfl 0 (by decide) hlk9 (fun _ h9 => h9) rfl dX8_possibleLabels_60 ?_
          refine zVi (W1 := [(o, .inr (5, [.int (nI V), .long sd, .ref e, .ref cp, .ref bw, .ref ds, .ref hs, .ref sl, .ref sf, .ref tx, .ref ob])), (e, .inr (1, [.ref a1, .ref a2, .ref a3, .int (nI k)])), zA G a1 16 s, zA G a2 16 t, zA G a3 16 lb, (cp, .inr (1, [.ref c1, .ref c2, .ref c3, .int (nI k)])), zA G c1 16 (zTk sc s k), zA G c2 16 (zTk tc t k), zA G c3 16 (zU lc2 x.toInt.toNat p), (ob, .inr (4, [.ref o1, .ref o2, .ref o3, .int (nI nn)])), zA G o1 6 os, zA G o2 6 oe, zA G o3 6 oa]) (W2 := [(o, .inr (5, [.int (nI V), .long sd, .ref e, .ref cp, .ref bw, .ref ds, .ref hs, .ref sl, .ref sf, .ref tx, .ref ob])), (e, .inr (1, [.ref a1, .ref a2, .ref a3, .int (nI k)])), zA G a1 16 s, zA G a2 16 t, zA G a3 16 lb, (cp, .inr (1, [.ref c1, .ref c2, .ref c3, .int (nI k)])), zA G c1 16 (zTk sc s k), zA G c2 16 (zTk tc t k), zA G c3 16 (zU lc2 x.toInt.toNat p), (ob, .inr (4, [.ref o1, .ref o2, .ref o3, .int (nI nn)])), zA G o1 6 os, zA G o2 6 oe, zA G o3 6 oa]) (wr := [(o, .inr (5, [.int (nI V), .long sd, .ref e, .ref cp, .ref bw, .ref ds, .ref hs, .ref sl, .ref sf, .ref tx, .ref ob])), (e, .inr (1, [.ref a1, .ref a2, .ref a3, .int (nI k)])), zA G a1 16 s, zA G a2 16 t, zA G a3 16 lb, (cp, .inr (1, [.ref c1, .ref c2, .ref c3, .int (nI k)])), zA G c1 16 (zTk sc s k), zA G c2 16 (zTk tc t k), zA G c3 16 (zU lc2 x.toInt.toNat p)]) (rest := []) SM (c_X5_allHold l G ob o1 o2 o3 os oe oa nn (zLbR s t lb k V x.toInt.toNat p) V (by first | assumption | omega) (by first | assumption | omega) (by first | assumption | omega) (by first | assumption | omega) (by first | assumption | omega) (by first | assumption | omega)) (cwV 2 hts gX8_possibleLabels_X5_allHold rfl rfl rfl (by decide +kernel) ⟨Nat.le_of_ble_eq_true rfl, Nat.le_of_ble_eq_true rfl⟩) hK hE hA hP hD hS hl.1 [9, 10, 11, 12] [0, 1, 2, 3, 4, 5, 6, 7, 8] [0, 1, 2, 3, 4, 5, 6, 7, 8, 9, 10, 11, 12] rfl rfl rfl (by decide) (ci := 4) rfl rfl rfl rfl rfl (Nat.le_of_ble_eq_true rfl) ⟨Nat.zero_le _, Nat.zero_le _⟩ dX8_possibleLabels_63 (fun H locs hP hD hS => ?_)
          refine zb_eq (tgt := 75) hx hb dX8_possibleLabels_66 (by decide) (fun c_3 => ?_) (fun c_3 => ?_)
          · skip
            refine lv_iinc (v := nI (p + 1)) (lv' := [(3, .int (nI (p + 1))), (0, .ref o), (1, .int (nI x.toInt.toNat)), (2, .int (nI a))]) hx hb dX8_possibleLabels_75 hl (k := 3) rfl (zinc p 1) (by decide) rfl (fun ls hl => ?_)
            refine lv_goto (tgt := 28) hx hb dX8_possibleLabels_78 (by decide) ?_
            exact ih28 (p + 1) a (zU lc2 x.toInt.toNat p) (by first | assumption | omega) (by rw [zIt_s, ← hq]; unfold zPlF; first | rw [if_pos (by assumption)] | rw [if_neg (by assumption)]) (by first | exact ha | exact Nat.or_lt_two_pow (n := 7) ha (z2p7 p (by omega))) (zU_lt g3 (by omega)) (fun i h8 h9 => by rw [zU_ne h9]; exact g5 i h8 h9) (by omega) _ _ _ hP hD hS (lv_sub hl [1, 2, 3, 0] rfl)
          · skip
            refine lv_iload_n hx hb dX8_possibleLabels_69 rfl (lv_at hl 2 rfl) ?_
            refine lv_iconst (v := nI 1) hx hb dX8_possibleLabels_70 (by decide) ?_
            refine lv_iload_n hx hb dX8_possibleLabels_71 rfl (lv_at hl 3 rfl) ?_
            have hp2 := z2p7 p (by omega)
            refine zi_shl1 hx hb dX8_possibleLabels_72 (by omega) ?_
            refine zi_or hx hb dX8_possibleLabels_73 ?_
            refine lv_istore_n (lv' := [(2, .int (nI (a ||| (2 ^ p)))), (0, .ref o), (1, .int (nI x.toInt.toNat)), (3, .int (nI p))]) hx hb dX8_possibleLabels_74 rfl hl (by decide) rfl (fun ls hl => ?_)
            refine lv_iinc (v := nI (p + 1)) (lv' := [(3, .int (nI (p + 1))), (2, .int (nI (a ||| (2 ^ p)))), (0, .ref o), (1, .int (nI x.toInt.toNat))]) hx hb dX8_possibleLabels_75 hl (k := 3) rfl (zinc p 1) (by decide) rfl (fun ls hl => ?_)
            refine lv_goto (tgt := 28) hx hb dX8_possibleLabels_78 (by decide) ?_
            exact ih28 (p + 1) (a ||| (2 ^ p)) (zU lc2 x.toInt.toNat p) (by first | assumption | omega) (by rw [zIt_s, ← hq]; unfold zPlF; first | rw [if_pos (by assumption)] | rw [if_neg (by assumption)]) (by first | exact ha | exact Nat.or_lt_two_pow (n := 7) ha (z2p7 p (by omega))) (zU_lt g3 (by omega)) (fun i h8 h9 => by rw [zU_ne h9]; exact g5 i h8 h9) (by omega) _ _ _ hP hD hS (lv_sub hl [2, 3, 1, 0] rfl)
    exact lp28 (7 - 0 + 1) 0 0 (zTk lc lb k) (by first | assumption | omega) rfl (by first | assumption | omega) (zTk_lt hcl hlb) (fun i h9 _ => by unfold zTk; rw [if_pos h9]) (Nat.lt_succ_self _) _ _ _ hP hD hS (lv_sub hl [2, 3, 1, 0] rfl)
  · skip
    exfalso; omega
