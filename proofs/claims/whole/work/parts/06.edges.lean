set_option maxHeartbeats 4000000 in
set_option maxRecDepth 100000 in
theorem c_X2_holds (l : Launch) (G : zG) (e a1 a2 a3 : Nat) (k : Nat) (x : Int32) (hk : k < 2147483648) : MI l yX2_holds wsX2_holds ({ frames := 0, cells := 0, slots := 0, locals := 0 }) G [.ref e, .int x] [(e, .inr (1, [.ref a1, .ref a2, .ref a3, .int (nI k)]))] (bI (decide (0 ≤ x.toInt ∧ x.toInt < k))) [(e, .inr (1, [.ref a1, .ref a2, .ref a3, .int (nI k)]))] := by
  refine MI.enter (cc := cX2_holds) (maxL := 2) (by decide) rfl (Nat.le_of_ble_eq_true rfl) (bI_nar _) ?_
  intro pM eM sM mM bM tM cM QM AM ls hat kret
  obtain ⟨SM, hA, hK, hE, hP, hD, hS, hl⟩ := hat
  have hx := SM.1
  have hb := SM.2.1
  have hown : sM.vm.findClass RX2 = some mM.cls := SM.2.2.2.1
  have hts := SM.2.2.2.2
  have hinX2 : ∀ w ∈ u_ws RX2 TX2 4, w ∈ wsX2_holds := by decide +kernel
  have hlk21 : (Cond.fieldLink RX2 21 "DyckReachability$Edges" "size" "I").before _ sM = true := hts _ (by decide +kernel)
  have hl : lv_has ls 2 [(0, .ref e), (1, .int x)] := hl
  refine lv_iload_n hx hb dX2_holds_0 rfl (lv_at hl 1 rfl) ?_
  refine zd_lt (a := (x).toInt) (tgt := 16) hx hb dX2_holds_1 (by decide) rfl (fun c_1 => ?_) (fun c_1 => ?_)
  · skip
    refine lv_iconst (v := nI 0) hx hb dX2_holds_16 (by decide) ?_
    exact kret _ _ _ _ _ _ (bI_f (by omega)) rfl hP hD hS dX2_holds_17
  · skip
    refine lv_iload_n hx hb dX2_holds_4 rfl (lv_at hl 1 rfl) ?_
    refine lv_aload_n hx hb dX2_holds_5 rfl (lv_at hl 0 rfl) ?_
    refine va_get (D := G.1) (ci := 1) (v := .int (nI k)) (C := RX2) (T := TX2) (N := 4) hx hb hts hinX2 hown hK hP 0 rfl rfl 3 (by decide) hlk21 (fun _ h9 => h9) rfl dX2_holds_6 ?_
    refine zc_ge (a := (x).toInt) (b := (k : Nat)) (tgt := 16) hx hb dX2_holds_9 (by decide) rfl (zI (by omega)) (fun c_2 => ?_) (fun c_2 => ?_)
    · skip
      refine lv_iconst (v := nI 0) hx hb dX2_holds_16 (by decide) ?_
      exact kret _ _ _ _ _ _ (bI_f (by omega)) rfl hP hD hS dX2_holds_17
    · skip
      refine lv_iconst (v := nI 1) hx hb dX2_holds_12 (by decide) ?_
      refine lv_goto (tgt := 17) hx hb dX2_holds_13 (by decide) ?_
      exact kret _ _ _ _ _ _ (bI_t (by omega)) rfl hP hD hS dX2_holds_17
set_option maxHeartbeats 4000000 in
set_option maxRecDepth 100000 in
theorem c_X2_holds_N (l : Launch) (G : zG) (e a1 a2 a3 : Nat) (k j : Nat) (hk : k < 2147483648) (hj : j < 2147483648) : MI l yX2_holds wsX2_holds ({ frames := 0, cells := 0, slots := 0, locals := 0 }) G [.ref e, .int (nI j)] [(e, .inr (1, [.ref a1, .ref a2, .ref a3, .int (nI k)]))] (bI (decide (j < k))) [(e, .inr (1, [.ref a1, .ref a2, .ref a3, .int (nI k)]))] := by
  refine MI.enter (cc := cX2_holds) (maxL := 2) (by decide) rfl (Nat.le_of_ble_eq_true rfl) (bI_nar _) ?_
  intro pM eM sM mM bM tM cM QM AM ls hat kret
  obtain ⟨SM, hA, hK, hE, hP, hD, hS, hl⟩ := hat
  have hx := SM.1
  have hb := SM.2.1
  have hown : sM.vm.findClass RX2 = some mM.cls := SM.2.2.2.1
  have hts := SM.2.2.2.2
  have hinX2 : ∀ w ∈ u_ws RX2 TX2 4, w ∈ wsX2_holds := by decide +kernel
  have hlk21 : (Cond.fieldLink RX2 21 "DyckReachability$Edges" "size" "I").before _ sM = true := hts _ (by decide +kernel)
  have hl : lv_has ls 2 [(0, .ref e), (1, .int (nI j))] := hl
  refine lv_iload_n hx hb dX2_holds_0 rfl (lv_at hl 1 rfl) ?_
  refine zd_lt (a := (j : Nat)) (tgt := 16) hx hb dX2_holds_1 (by decide) (zI (by omega)) (fun c_1 => ?_) (fun c_1 => ?_)
  · skip
    refine lv_iconst (v := nI 0) hx hb dX2_holds_16 (by decide) ?_
    exact kret _ _ _ _ _ _ (bI_f (by omega)) rfl hP hD hS dX2_holds_17
  · skip
    refine lv_iload_n hx hb dX2_holds_4 rfl (lv_at hl 1 rfl) ?_
    refine lv_aload_n hx hb dX2_holds_5 rfl (lv_at hl 0 rfl) ?_
    refine va_get (D := G.1) (ci := 1) (v := .int (nI k)) (C := RX2) (T := TX2) (N := 4) hx hb hts hinX2 hown hK hP 0 rfl rfl 3 (by decide) hlk21 (fun _ h9 => h9) rfl dX2_holds_6 ?_
    refine zn_ge (tgt := 16) hx hb dX2_holds_9 (by decide) (by omega) (by omega) (fun c_2 => ?_) (fun c_2 => ?_)
    · skip
      refine lv_iconst (v := nI 0) hx hb dX2_holds_16 (by decide) ?_
      exact kret _ _ _ _ _ _ (bI_f (by omega)) rfl hP hD hS dX2_holds_17
    · skip
      refine lv_iconst (v := nI 1) hx hb dX2_holds_12 (by decide) ?_
      refine lv_goto (tgt := 17) hx hb dX2_holds_13 (by decide) ?_
      exact kret _ _ _ _ _ _ (bI_t (by omega)) rfl hP hD hS dX2_holds_17
set_option maxHeartbeats 4000000 in
set_option maxRecDepth 100000 in
theorem c_X2_isFull (l : Launch) (G : zG) (e a1 a2 a3 : Nat) (cap : Nat) (s : Nat → Nat) (k : Nat) (hk : k < 2147483648) (hc : cap < 2147483648) : MI l yX2_isFull wsX2_isFull ({ frames := 0, cells := 0, slots := 0, locals := 0 }) G [.ref e] [(e, .inr (1, [.ref a1, .ref a2, .ref a3, .int (nI k)])), zA G a1 cap s] (bI (decide (cap ≤ k))) [(e, .inr (1, [.ref a1, .ref a2, .ref a3, .int (nI k)])), zA G a1 cap s] := by
  refine MI.enter (cc := cX2_isFull) (maxL := 1) (by decide) rfl (Nat.le_of_ble_eq_true rfl) (bI_nar _) ?_
  intro pM eM sM mM bM tM cM QM AM ls hat kret
  obtain ⟨SM, hA, hK, hE, hP, hD, hS, hl⟩ := hat
  have hx := SM.1
  have hb := SM.2.1
  have hown : sM.vm.findClass RX2 = some mM.cls := SM.2.2.2.1
  have hts := SM.2.2.2.2
  have hinX2 : ∀ w ∈ u_ws RX2 TX2 4, w ∈ wsX2_isFull := by decide +kernel
  have hlk21 : (Cond.fieldLink RX2 21 "DyckReachability$Edges" "size" "I").before _ sM = true := hts _ (by decide +kernel)
  have hlk9 : (Cond.fieldLink RX2 9 "DyckReachability$Edges" "sources" "[I").before _ sM = true := hts _ (by decide +kernel)
  have hl : lv_has ls 1 [(0, .ref e)] := hl
  refine lv_aload_n hx hb dX2_isFull_0 rfl (lv_at hl 0 rfl) ?_
  refine va_get (D := G.1) (ci := 1) (v := .int (nI k)) (C := RX2) (T := TX2) (N := 4) hx hb hts hinX2 hown hK hP 0 rfl rfl 3 (by decide) hlk21 (fun _ h9 => h9) rfl dX2_isFull_1 ?_
  refine lv_aload_n hx hb dX2_isFull_4 rfl (lv_at hl 0 rfl) ?_
  refine va_get (D := G.1) (ci := 1) (v := .ref a1) (C := RX2) (T := TX2) (N := 4) hx hb hts hinX2 hown hK hP 0 rfl rfl 0 (by decide) hlk9 (fun _ h9 => h9) rfl dX2_isFull_5 ?_
  refine va_alen hx hb hK hP 1 0 rfl rfl (v := nI cap) rfl dX2_isFull_8 ?_
  refine zn_lt (tgt := 16) hx hb dX2_isFull_9 (by decide) (by omega) (by omega) (fun c_1 => ?_) (fun c_1 => ?_)
  · skip
    refine lv_iconst (v := nI 0) hx hb dX2_isFull_16 (by decide) ?_
    exact kret _ _ _ _ _ _ (bI_f (by omega)) rfl hP hD hS dX2_isFull_17
  · skip
    refine lv_iconst (v := nI 1) hx hb dX2_isFull_12 (by decide) ?_
    refine lv_goto (tgt := 17) hx hb dX2_isFull_13 (by decide) ?_
    exact kret _ _ _ _ _ _ (bI_t (by omega)) rfl hP hD hS dX2_isFull_17
set_option maxHeartbeats 4000000 in
set_option maxRecDepth 100000 in
theorem c_X2_put_N (l : Launch) (G : zG) (e a1 a2 a3 : Nat) (cap : Nat) (s t lb : Nat → Nat) (k x y z : Nat) (hk : k < cap) (hc : cap < 2147483648) : MV l yX2_put wsX2_put ({ frames := 1, cells := 0, slots := 0, locals := 20 }) G [.ref e, .int (nI x), .int (nI y), .int (nI z)] [(e, .inr (1, [.ref a1, .ref a2, .ref a3, .int (nI k)])), zA G a1 cap s, zA G a2 cap t, zA G a3 cap lb] [(e, .inr (1, [.ref a1, .ref a2, .ref a3, .int (nI (k + 1))])), zA G a1 cap (zU s k x), zA G a2 cap (zU t k y), zA G a3 cap (zU lb k z)] := by
  refine MV.enter (cc := cX2_put) (maxL := 4) (by decide) rfl (Nat.le_of_ble_eq_true rfl) ?_
  intro pM eM sM mM bM tM cM QM AM ls hat kret
  obtain ⟨SM, hA, hK, hE, hP, hD, hS, hl⟩ := hat
  have hx := SM.1
  have hb := SM.2.1
  have hown : sM.vm.findClass RX2 = some mM.cls := SM.2.2.2.1
  have hts := SM.2.2.2.2
  have hinX2 : ∀ w ∈ u_ws RX2 TX2 4, w ∈ wsX2_put := by decide +kernel
  have hlk9 : (Cond.fieldLink RX2 9 "DyckReachability$Edges" "sources" "[I").before _ sM = true := hts _ (by decide +kernel)
  have hlk21 : (Cond.fieldLink RX2 21 "DyckReachability$Edges" "size" "I").before _ sM = true := hts _ (by decide +kernel)
  have hlk15 : (Cond.fieldLink RX2 15 "DyckReachability$Edges" "targets" "[I").before _ sM = true := hts _ (by decide +kernel)
  have hlk18 : (Cond.fieldLink RX2 18 "DyckReachability$Edges" "labels" "[I").before _ sM = true := hts _ (by decide +kernel)
  have hl : lv_has ls 4 [(0, .ref e), (1, .int (nI x)), (2, .int (nI y)), (3, .int (nI z))] := hl
  refine lv_aload_n hx hb dX2_put_0 rfl (lv_at hl 0 rfl) ?_
  refine zVi (W1 := [(e, .inr (1, [.ref a1, .ref a2, .ref a3, .int (nI k)])), zA G a1 cap s, zA G a2 cap t, zA G a3 cap lb]) (W2 := [(e, .inr (1, [.ref a1, .ref a2, .ref a3, .int (nI k)])), zA G a1 cap s, zA G a2 cap t, zA G a3 cap lb]) (wr := [zA G a2 cap t, zA G a3 cap lb]) (rest := []) SM (c_X2_isFull l G e a1 a2 a3 cap s k (by first | assumption | omega) (by first | assumption | omega)) (cwV 0 hts gX2_put_X2_isFull rfl rfl rfl (by decide +kernel) ⟨Nat.le_of_ble_eq_true rfl, Nat.le_of_ble_eq_true rfl⟩) hK hE hA hP hD hS hl.1 [0, 1] [2, 3] [2, 3, 0, 1] rfl rfl rfl (by decide) (ci := 1) rfl rfl rfl rfl rfl (Nat.le_of_ble_eq_true rfl) ⟨Nat.zero_le _, Nat.zero_le _⟩ dX2_put_1 (fun H locs hP hD hS => ?_)
  refine zb_eq (tgt := 8) hx hb dX2_put_4 (by decide) (fun c_1 => ?_) (fun c_1 => ?_)
  · skip
    refine lv_aload_n hx hb dX2_put_8 rfl (lv_at hl 0 rfl) ?_
    refine va_get (D := G.1) (ci := 1) (v := .ref a1) (C := RX2) (T := TX2) (N := 4) hx hb hts hinX2 hown hK hP 0 rfl rfl 0 (by decide) hlk9 (fun _ h9 => h9) rfl dX2_put_9 ?_
    refine lv_aload_n hx hb dX2_put_12 rfl (lv_at hl 0 rfl) ?_
    refine va_get (D := G.1) (ci := 1) (v := .int (nI k)) (C := RX2) (T := TX2) (N := 4) hx hb hts hinX2 hown hK hP 0 rfl rfl 3 (by decide) hlk21 (fun _ h9 => h9) rfl dX2_put_13 ?_
    refine lv_iload_n hx hb dX2_put_16 rfl (lv_at hl 1 rfl) ?_
    refine zi_ast hx hb hK hP hD hS 1 rfl (by omega) (by omega) dX2_put_17 (fun H locs hP hD hS => ?_)
    have hP : va_P G.1 vwCl [(e, .inr (1, [.ref a1, .ref a2, .ref a3, .int (nI k)])), zA G a1 cap (zU s k x), zA G a2 cap t, zA G a3 cap lb] H := hP
    have hD : va_D AM [(e, .inr (1, [.ref a1, .ref a2, .ref a3, .int (nI k)])), zA G a1 cap (zU s k x), zA G a2 cap t, zA G a3 cap lb] := hD
    refine lv_aload_n hx hb dX2_put_18 rfl (lv_at hl 0 rfl) ?_
    refine va_get (D := G.1) (ci := 1) (v := .ref a2) (C := RX2) (T := TX2) (N := 4) hx hb hts hinX2 hown hK hP 0 rfl rfl 1 (by decide) hlk15 (fun _ h9 => h9) rfl dX2_put_19 ?_
    refine lv_aload_n hx hb dX2_put_22 rfl (lv_at hl 0 rfl) ?_
    refine va_get (D := G.1) (ci := 1) (v := .int (nI k)) (C := RX2) (T := TX2) (N := 4) hx hb hts hinX2 hown hK hP 0 rfl rfl 3 (by decide) hlk21 (fun _ h9 => h9) rfl dX2_put_23 ?_
    refine lv_iload_n hx hb dX2_put_26 rfl (lv_at hl 2 rfl) ?_
    refine zi_ast hx hb hK hP hD hS 2 rfl (by omega) (by omega) dX2_put_27 (fun H locs hP hD hS => ?_)
    have hP : va_P G.1 vwCl [(e, .inr (1, [.ref a1, .ref a2, .ref a3, .int (nI k)])), zA G a1 cap (zU s k x), zA G a2 cap (zU t k y), zA G a3 cap lb] H := hP
    have hD : va_D AM [(e, .inr (1, [.ref a1, .ref a2, .ref a3, .int (nI k)])), zA G a1 cap (zU s k x), zA G a2 cap (zU t k y), zA G a3 cap lb] := hD
    refine lv_aload_n hx hb dX2_put_28 rfl (lv_at hl 0 rfl) ?_
    refine va_get (D := G.1) (ci := 1) (v := .ref a3) (C := RX2) (T := TX2) (N := 4) hx hb hts hinX2 hown hK hP 0 rfl rfl 2 (by decide) hlk18 (fun _ h9 => h9) rfl dX2_put_29 ?_
    refine lv_aload_n hx hb dX2_put_32 rfl (lv_at hl 0 rfl) ?_
    refine va_get (D := G.1) (ci := 1) (v := .int (nI k)) (C := RX2) (T := TX2) (N := 4) hx hb hts hinX2 hown hK hP 0 rfl rfl 3 (by decide) hlk21 (fun _ h9 => h9) rfl dX2_put_33 ?_
    refine lv_iload_n hx hb dX2_put_36 rfl (lv_at hl 3 rfl) ?_
    refine zi_ast hx hb hK hP hD hS 3 rfl (by omega) (by omega) dX2_put_37 (fun H locs hP hD hS => ?_)
    have hP : va_P G.1 vwCl [(e, .inr (1, [.ref a1, .ref a2, .ref a3, .int (nI k)])), zA G a1 cap (zU s k x), zA G a2 cap (zU t k y), zA G a3 cap (zU lb k z)] H := hP
    have hD : va_D AM [(e, .inr (1, [.ref a1, .ref a2, .ref a3, .int (nI k)])), zA G a1 cap (zU s k x), zA G a2 cap (zU t k y), zA G a3 cap (zU lb k z)] := hD
    refine lv_aload_n hx hb dX2_put_38 rfl (lv_at hl 0 rfl) ?_
    refine lv_dup hx hb dX2_put_39 rfl ?_
    refine va_get (D := G.1) (ci := 1) (v := .int (nI k)) (C := RX2) (T := TX2) (N := 4) hx hb hts hinX2 hown hK hP 0 rfl rfl 3 (by decide) hlk21 (fun _ h9 => h9) rfl dX2_put_40 ?_
    refine lv_iconst (v := nI 1) hx hb dX2_put_43 (by decide) ?_
    refine zi_addk (n := k + 1) hx hb dX2_put_44 (by omega) ?_
    refine va_put (D := G.1) (ci := 1) (v := .int (nI (k + 1))) (ty := .int) (C := RX2) (T := TX2) (N := 4) hx hb hts hinX2 tyX2 tyX2_ok nmX2 hown hK hP hD hS 0 rfl rfl 3 (by decide) hlk21 (fun _ h9 => h9) rfl (by decide +kernel) rfl rfl (Nat.le_of_ble_eq_true rfl) dX2_put_45 (fun H locs hP hD hS => ?_)
    have hP : va_P G.1 vwCl [(e, .inr (1, [.ref a1, .ref a2, .ref a3, .int (nI (k + 1))])), zA G a1 cap (zU s k x), zA G a2 cap (zU t k y), zA G a3 cap (zU lb k z)] H := hP
    have hD : va_D AM [(e, .inr (1, [.ref a1, .ref a2, .ref a3, .int (nI (k + 1))])), zA G a1 cap (zU s k x), zA G a2 cap (zU t k y), zA G a3 cap (zU lb k z)] := hD
    exact kret _ _ _ _ _ rfl hP hD hS dX2_put_48
  · skip
    exfalso; omega
set_option maxHeartbeats 4000000 in
set_option maxRecDepth 100000 in
theorem c_X2_put_F (l : Launch) (G : zG) (e a1 a2 a3 : Nat) (cap : Nat) (s t lb : Nat → Nat) (k x y z : Nat) (hk : cap ≤ k) (hc : cap < 2147483648) (hk2 : k < 2147483648) : MV l yX2_put wsX2_put ({ frames := 1, cells := 0, slots := 0, locals := 20 }) G [.ref e, .int (nI x), .int (nI y), .int (nI z)] [(e, .inr (1, [.ref a1, .ref a2, .ref a3, .int (nI k)])), zA G a1 cap s, zA G a2 cap t, zA G a3 cap lb] [(e, .inr (1, [.ref a1, .ref a2, .ref a3, .int (nI k)])), zA G a1 cap s, zA G a2 cap t, zA G a3 cap lb] := by
  refine MV.enter (cc := cX2_put) (maxL := 4) (by decide) rfl (Nat.le_of_ble_eq_true rfl) ?_
  intro pM eM sM mM bM tM cM QM AM ls hat kret
  obtain ⟨SM, hA, hK, hE, hP, hD, hS, hl⟩ := hat
  have hx := SM.1
  have hb := SM.2.1
  have hown : sM.vm.findClass RX2 = some mM.cls := SM.2.2.2.1
  have hts := SM.2.2.2.2
  have hl : lv_has ls 4 [(0, .ref e), (1, .int (nI x)), (2, .int (nI y)), (3, .int (nI z))] := hl
  refine lv_aload_n hx hb dX2_put_0 rfl (lv_at hl 0 rfl) ?_
  refine zVi (W1 := [(e, .inr (1, [.ref a1, .ref a2, .ref a3, .int (nI k)])), zA G a1 cap s, zA G a2 cap t, zA G a3 cap lb]) (W2 := [(e, .inr (1, [.ref a1, .ref a2, .ref a3, .int (nI k)])), zA G a1 cap s, zA G a2 cap t, zA G a3 cap lb]) (wr := [zA G a2 cap t, zA G a3 cap lb]) (rest := []) SM (c_X2_isFull l G e a1 a2 a3 cap s k (by first | assumption | omega) (by first | assumption | omega)) (cwV 0 hts gX2_put_X2_isFull rfl rfl rfl (by decide +kernel) ⟨Nat.le_of_ble_eq_true rfl, Nat.le_of_ble_eq_true rfl⟩) hK hE hA hP hD hS hl.1 [0, 1] [2, 3] [2, 3, 0, 1] rfl rfl rfl (by decide) (ci := 1) rfl rfl rfl rfl rfl (Nat.le_of_ble_eq_true rfl) ⟨Nat.zero_le _, Nat.zero_le _⟩ dX2_put_1 (fun H locs hP hD hS => ?_)
  refine zb_eq (tgt := 8) hx hb dX2_put_4 (by decide) (fun c_1 => ?_) (fun c_1 => ?_)
  · skip
    exfalso; omega
  · skip
    exact kret _ _ _ _ _ rfl hP hD hS dX2_put_7
set_option maxHeartbeats 4000000 in
set_option maxRecDepth 100000 in
theorem c_X2_drop (l : Launch) (G : zG) (e a1 a2 a3 : Nat) (cap : Nat) (s t lb : Nat → Nat) (k j : Nat) (hj : j < k) (hk : k ≤ cap) (hc : cap < 2147483648) : MV l yX2_drop wsX2_drop ({ frames := 1, cells := 0, slots := 0, locals := 21 }) G [.ref e, .int (nI j)] [(e, .inr (1, [.ref a1, .ref a2, .ref a3, .int (nI k)])), zA G a1 cap s, zA G a2 cap t, zA G a3 cap lb] [(e, .inr (1, [.ref a1, .ref a2, .ref a3, .int (nI (k - 1))])), zA G a1 cap (zDr s j k), zA G a2 cap (zDr t j k), zA G a3 cap (zDr lb j k)] := by
  refine MV.enter (cc := cX2_drop) (maxL := 3) (by decide) rfl (Nat.le_of_ble_eq_true rfl) ?_
  intro pM eM sM mM bM tM cM QM AM ls hat kret
  obtain ⟨SM, hA, hK, hE, hP, hD, hS, hl⟩ := hat
  have hx := SM.1
  have hb := SM.2.1
  have hown : sM.vm.findClass RX2 = some mM.cls := SM.2.2.2.1
  have hts := SM.2.2.2.2
  have hinX2 : ∀ w ∈ u_ws RX2 TX2 4, w ∈ wsX2_drop := by decide +kernel
  have hlk21 : (Cond.fieldLink RX2 21 "DyckReachability$Edges" "size" "I").before _ sM = true := hts _ (by decide +kernel)
  have hlk9 : (Cond.fieldLink RX2 9 "DyckReachability$Edges" "sources" "[I").before _ sM = true := hts _ (by decide +kernel)
  have hlk15 : (Cond.fieldLink RX2 15 "DyckReachability$Edges" "targets" "[I").before _ sM = true := hts _ (by decide +kernel)
  have hlk18 : (Cond.fieldLink RX2 18 "DyckReachability$Edges" "labels" "[I").before _ sM = true := hts _ (by decide +kernel)
  have hl : lv_has ls 3 [(0, .ref e), (1, .int (nI j))] := hl
  refine lv_aload_n hx hb dX2_drop_0 rfl (lv_at hl 0 rfl) ?_
  refine lv_iload_n hx hb dX2_drop_1 rfl (lv_at hl 1 rfl) ?_
  refine zVi (W1 := [(e, .inr (1, [.ref a1, .ref a2, .ref a3, .int (nI k)])), zA G a1 cap s, zA G a2 cap t, zA G a3 cap lb]) (W2 := [(e, .inr (1, [.ref a1, .ref a2, .ref a3, .int (nI k)])), zA G a1 cap s, zA G a2 cap t, zA G a3 cap lb]) (wr := [zA G a1 cap s, zA G a2 cap t, zA G a3 cap lb]) (rest := []) SM (c_X2_holds_N l G e a1 a2 a3 k j (by first | assumption | omega) (by first | assumption | omega)) (cwV 1 hts gX2_drop_X2_holds rfl rfl rfl (by decide +kernel) ⟨Nat.le_of_ble_eq_true rfl, Nat.le_of_ble_eq_true rfl⟩) hK hE hA hP hD hS hl.1 [0] [1, 2, 3] [3, 0, 1, 2] rfl rfl rfl (by decide) (ci := 1) rfl rfl rfl rfl rfl (Nat.le_of_ble_eq_true rfl) ⟨Nat.zero_le _, Nat.zero_le _⟩ dX2_drop_2 (fun H locs hP hD hS => ?_)
  refine zb_ne (tgt := 9) hx hb dX2_drop_5 (by decide) (fun c_1 => ?_) (fun c_1 => ?_)
  · skip
    refine lv_iload_n hx hb dX2_drop_9 rfl (lv_at hl 1 rfl) ?_
    refine lv_iconst (v := nI 1) hx hb dX2_drop_10 (by decide) ?_
    refine zi_addk (n := j + 1) hx hb dX2_drop_11 (by omega) ?_
    refine lv_istore_n (lv' := [(2, .int (nI (j + 1))), (0, .ref e), (1, .int (nI j))]) hx hb dX2_drop_12 rfl hl (by decide) rfl (fun ls hl => ?_)
    have lp13 : ∀ (n9 : Nat), ∀ (q : Nat), (j + 1 ≤ q) → (q ≤ k) → (k - q) < n9 → ∀ (H : Heap) (locs : List Loc) (ls : Array Slot), va_P G.1 vwCl [(e, .inr (1, [.ref a1, .ref a2, .ref a3, .int (nI k)])), zA G a1 cap (zDr s j q), zA G a2 cap (zDr t j q), zA G a3 cap (zDr lb j q)] H → va_D AM [(e, .inr (1, [.ref a1, .ref a2, .ref a3, .int (nI k)])), zA G a1 cap (zDr s j q), zA G a2 cap (zDr t j q), zA G a3 cap (zDr lb j q)] → va_S AM sM.heap H locs → lv_has ls 3 [(0, .ref e), (1, .int (nI j)), (2, .int (nI q))] → W pM l eM ({ frames := 1, cells := 0, slots := 0, locals := 21 }) sM mM (([.ref e, .int (nI j)] : List Value).toArray) bM tM cM H locs 0 0 QM (F0 mM 13 ls []) := by
      intro n9
      induction n9 with
      | zero =>
        intro _ _ _ h9
        exact absurd h9 (Nat.not_lt_zero _)
      | succ n9 ih9 =>
        intro q h1 h2 hmu13 H locs ls hP hD hS hl
        have ih13 := ih9
        clear ih9
        refine lv_iload_n hx hb dX2_drop_13 rfl (lv_at hl 2 rfl) ?_
        refine lv_aload_n hx hb dX2_drop_14 rfl (lv_at hl 0 rfl) ?_
        refine va_get (D := G.1) (ci := 1) (v := .int (nI k)) (C := RX2) (T := TX2) (N := 4) hx hb hts hinX2 hown hK hP 0 rfl rfl 3 (by decide) hlk21 (fun _ h9 => h9) rfl dX2_drop_15 ?_
        refine zn_ge (tgt := 69) hx hb dX2_drop_18 (by decide) (by omega) (by omega) (fun c_2 => ?_) (fun c_2 => ?_)
        · skip
          refine lv_aload_n hx hb dX2_drop_69 rfl (lv_at hl 0 rfl) ?_
          refine lv_dup hx hb dX2_drop_70 rfl ?_
          refine va_get (D := G.1) (ci := 1) (v := .int (nI k)) (C := RX2) (T := TX2) (N := 4) hx hb hts hinX2 hown hK hP 0 rfl rfl 3 (by decide) hlk21 (fun _ h9 => h9) rfl dX2_drop_71 ?_
          refine lv_iconst (v := nI 1) hx hb dX2_drop_74 (by decide) ?_
          refine zi_sub hx hb dX2_drop_75 (by omega) ?_
          refine va_put (D := G.1) (ci := 1) (v := .int (nI (k - 1))) (ty := .int) (C := RX2) (T := TX2) (N := 4) hx hb hts hinX2 tyX2 tyX2_ok nmX2 hown hK hP hD hS 0 rfl rfl 3 (by decide) hlk21 (fun _ h9 => h9) rfl (by decide +kernel) rfl rfl (Nat.le_of_ble_eq_true rfl) dX2_drop_76 (fun H locs hP hD hS => ?_)
          have hP : va_P G.1 vwCl [(e, .inr (1, [.ref a1, .ref a2, .ref a3, .int (nI (k - 1))])), zA G a1 cap (zDr s j q), zA G a2 cap (zDr t j q), zA G a3 cap (zDr lb j q)] H := hP
          have hD : va_D AM [(e, .inr (1, [.ref a1, .ref a2, .ref a3, .int (nI (k - 1))])), zA G a1 cap (zDr s j q), zA G a2 cap (zDr t j q), zA G a3 cap (zDr lb j q)] := hD
          exact kret _ _ _ _ _ (by have hq9 : q = k := (by omega); subst hq9; rfl) hP hD hS dX2_drop_79
        · skip
          refine lv_aload_n hx hb dX2_drop_21 rfl (lv_at hl 0 rfl) ?_
          refine va_get (D := G.1) (ci := 1) (v := .ref a1) (C := RX2) (T := TX2) (N := 4) hx hb hts hinX2 hown hK hP 0 rfl rfl 0 (by decide) hlk9 (fun _ h9 => h9) rfl dX2_drop_22 ?_
          refine lv_iload_n hx hb dX2_drop_25 rfl (lv_at hl 2 rfl) ?_
          refine lv_iconst (v := nI 1) hx hb dX2_drop_26 (by decide) ?_
          refine zi_sub hx hb dX2_drop_27 (by omega) ?_
          refine lv_aload_n hx hb dX2_drop_28 rfl (lv_at hl 0 rfl) ?_
          refine va_get (D := G.1) (ci := 1) (v := .ref a1) (C := RX2) (T := TX2) (N := 4) hx hb hts hinX2 hown hK hP 0 rfl rfl 0 (by decide) hlk9 (fun _ h9 => h9) rfl dX2_drop_29 ?_
          refine lv_iload_n hx hb dX2_drop_32 rfl (lv_at hl 2 rfl) ?_
          refine zi_ald hx hb hK hP 1 rfl (by omega) (by omega) dX2_drop_33 ?_
          refine zi_ast hx hb hK hP hD hS 1 rfl (by omega) (by omega) dX2_drop_34 (fun H locs hP hD hS => ?_)
          have hP : va_P G.1 vwCl [(e, .inr (1, [.ref a1, .ref a2, .ref a3, .int (nI k)])), zA G a1 cap (zU (zDr s j q) (q - 1) ((zDr s j q) q)), zA G a2 cap (zDr t j q), zA G a3 cap (zDr lb j q)] H := hP
          have hD : va_D AM [(e, .inr (1, [.ref a1, .ref a2, .ref a3, .int (nI k)])), zA G a1 cap (zU (zDr s j q) (q - 1) ((zDr s j q) q)), zA G a2 cap (zDr t j q), zA G a3 cap (zDr lb j q)] := hD
          refine lv_aload_n hx hb dX2_drop_35 rfl (lv_at hl 0 rfl) ?_
          refine va_get (D := G.1) (ci := 1) (v := .ref a2) (C := RX2) (T := TX2) (N := 4) hx hb hts hinX2 hown hK hP 0 rfl rfl 1 (by decide) hlk15 (fun _ h9 => h9) rfl dX2_drop_36 ?_
          refine lv_iload_n hx hb dX2_drop_39 rfl (lv_at hl 2 rfl) ?_
          refine lv_iconst (v := nI 1) hx hb dX2_drop_40 (by decide) ?_
          refine zi_sub hx hb dX2_drop_41 (by omega) ?_
          refine lv_aload_n hx hb dX2_drop_42 rfl (lv_at hl 0 rfl) ?_
          refine va_get (D := G.1) (ci := 1) (v := .ref a2) (C := RX2) (T := TX2) (N := 4) hx hb hts hinX2 hown hK hP 0 rfl rfl 1 (by decide) hlk15 (fun _ h9 => h9) rfl dX2_drop_43 ?_
          refine lv_iload_n hx hb dX2_drop_46 rfl (lv_at hl 2 rfl) ?_
          refine zi_ald hx hb hK hP 2 rfl (by omega) (by omega) dX2_drop_47 ?_
          refine zi_ast hx hb hK hP hD hS 2 rfl (by omega) (by omega) dX2_drop_48 (fun H locs hP hD hS => ?_)
          have hP : va_P G.1 vwCl [(e, .inr (1, [.ref a1, .ref a2, .ref a3, .int (nI k)])), zA G a1 cap (zU (zDr s j q) (q - 1) ((zDr s j q) q)), zA G a2 cap (zU (zDr t j q) (q - 1) ((zDr t j q) q)), zA G a3 cap (zDr lb j q)] H := hP
          have hD : va_D AM [(e, .inr (1, [.ref a1, .ref a2, .ref a3, .int (nI k)])), zA G a1 cap (zU (zDr s j q) (q - 1) ((zDr s j q) q)), zA G a2 cap (zU (zDr t j q) (q - 1) ((zDr t j q) q)), zA G a3 cap (zDr lb j q)] := hD
          refine lv_aload_n hx hb dX2_drop_49 rfl (lv_at hl 0 rfl) ?_
          refine va_get (D := G.1) (ci := 1) (v := .ref a3) (C := RX2) (T := TX2) (N := 4) hx hb hts hinX2 hown hK hP 0 rfl rfl 2 (by decide) hlk18 (fun _ h9 => h9) rfl dX2_drop_50 ?_
          refine lv_iload_n hx hb dX2_drop_53 rfl (lv_at hl 2 rfl) ?_
          refine lv_iconst (v := nI 1) hx hb dX2_drop_54 (by decide) ?_
          refine zi_sub hx hb dX2_drop_55 (by omega) ?_
          refine lv_aload_n hx hb dX2_drop_56 rfl (lv_at hl 0 rfl) ?_
          refine va_get (D := G.1) (ci := 1) (v := .ref a3) (C := RX2) (T := TX2) (N := 4) hx hb hts hinX2 hown hK hP 0 rfl rfl 2 (by decide) hlk18 (fun _ h9 => h9) rfl dX2_drop_57 ?_
          refine lv_iload_n hx hb dX2_drop_60 rfl (lv_at hl 2 rfl) ?_
          refine zi_ald hx hb hK hP 3 rfl (by omega) (by omega) dX2_drop_61 ?_
          refine zi_ast hx hb hK hP hD hS 3 rfl (by omega) (by omega) dX2_drop_62 (fun H locs hP hD hS => ?_)
          have hP : va_P G.1 vwCl [(e, .inr (1, [.ref a1, .ref a2, .ref a3, .int (nI k)])), zA G a1 cap (zU (zDr s j q) (q - 1) ((zDr s j q) q)), zA G a2 cap (zU (zDr t j q) (q - 1) ((zDr t j q) q)), zA G a3 cap (zU (zDr lb j q) (q - 1) ((zDr lb j q) q))] H := hP
          have hD : va_D AM [(e, .inr (1, [.ref a1, .ref a2, .ref a3, .int (nI k)])), zA G a1 cap (zU (zDr s j q) (q - 1) ((zDr s j q) q)), zA G a2 cap (zU (zDr t j q) (q - 1) ((zDr t j q) q)), zA G a3 cap (zU (zDr lb j q) (q - 1) ((zDr lb j q) q))] := hD
          refine lv_iinc (v := nI (q + 1)) (lv' := [(2, .int (nI (q + 1))), (0, .ref e), (1, .int (nI j))]) hx hb dX2_drop_63 hl (k := 2) rfl (zinc q 1) (by decide) rfl (fun ls hl => ?_)
          refine lv_goto (tgt := 13) hx hb dX2_drop_66 (by decide) ?_
          have hP : va_P G.1 vwCl [(e, .inr (1, [.ref a1, .ref a2, .ref a3, .int (nI k)])), zA G a1 cap (zDr s j (q + 1)), zA G a2 cap (zDr t j (q + 1)), zA G a3 cap (zDr lb j (q + 1))] H := by (simp only [zDr_step h1]); exact hP
          have hD : va_D AM [(e, .inr (1, [.ref a1, .ref a2, .ref a3, .int (nI k)])), zA G a1 cap (zDr s j (q + 1)), zA G a2 cap (zDr t j (q + 1)), zA G a3 cap (zDr lb j (q + 1))] := by (simp only [zDr_step h1]); exact hD
          exact ih13 (q + 1) (by first | assumption | omega) (by first | assumption | omega) (by omega) _ _ _ hP hD hS (lv_sub hl [1, 2, 0] rfl)
    have hP : va_P G.1 vwCl [(e, .inr (1, [.ref a1, .ref a2, .ref a3, .int (nI k)])), zA G a1 cap (zDr s j (j + 1)), zA G a2 cap (zDr t j (j + 1)), zA G a3 cap (zDr lb j (j + 1))] H := by (simp only [zDr_0]); exact hP
    have hD : va_D AM [(e, .inr (1, [.ref a1, .ref a2, .ref a3, .int (nI k)])), zA G a1 cap (zDr s j (j + 1)), zA G a2 cap (zDr t j (j + 1)), zA G a3 cap (zDr lb j (j + 1))] := by (simp only [zDr_0]); exact hD
    exact lp13 (k - (j + 1) + 1) (j + 1) (by first | assumption | omega) (by first | assumption | omega) (Nat.lt_succ_self _) _ _ _ hP hD hS (lv_sub hl [1, 2, 0] rfl)
  · skip
    exfalso; omega
set_option maxHeartbeats 4000000 in
set_option maxRecDepth 100000 in
theorem c_X2_isEmptyLabelled (l : Launch) (G : zG) (e a1 a2 a3 : Nat) (cap : Nat) (lb : Nat → Nat) (k j : Nat) (hj : j < cap) (hc : cap < 2147483648) (hlb : ∀ i, lb i < 7) : MI l yX2_isEmptyLabelled wsX2_isEmptyLabelled ({ frames := 0, cells := 0, slots := 0, locals := 0 }) G [.ref e, .int (nI j)] [(e, .inr (1, [.ref a1, .ref a2, .ref a3, .int (nI k)])), zA G a3 cap lb] (bI (decide (lb j = 0))) [(e, .inr (1, [.ref a1, .ref a2, .ref a3, .int (nI k)])), zA G a3 cap lb] := by
  refine MI.enter (cc := cX2_isEmptyLabelled) (maxL := 2) (by decide) rfl (Nat.le_of_ble_eq_true rfl) (bI_nar _) ?_
  intro pM eM sM mM bM tM cM QM AM ls hat kret
  obtain ⟨SM, hA, hK, hE, hP, hD, hS, hl⟩ := hat
  have hx := SM.1
  have hb := SM.2.1
  have hown : sM.vm.findClass RX2 = some mM.cls := SM.2.2.2.1
  have hts := SM.2.2.2.2
  have hinX2 : ∀ w ∈ u_ws RX2 TX2 4, w ∈ wsX2_isEmptyLabelled := by decide +kernel
  have hlk18 : (Cond.fieldLink RX2 18 "DyckReachability$Edges" "labels" "[I").before _ sM = true := hts _ (by decide +kernel)
  have hl : lv_has ls 2 [(0, .ref e), (1, .int (nI j))] := hl
  refine lv_aload_n hx hb dX2_isEmptyLabelled_0 rfl (lv_at hl 0 rfl) ?_
  refine va_get (D := G.1) (ci := 1) (v := .ref a3) (C := RX2) (T := TX2) (N := 4) hx hb hts hinX2 hown hK hP 0 rfl rfl 2 (by decide) hlk18 (fun _ h9 => h9) rfl dX2_isEmptyLabelled_1 ?_
  refine lv_iload_n hx hb dX2_isEmptyLabelled_4 rfl (lv_at hl 1 rfl) ?_
  refine zi_ald hx hb hK hP 1 rfl (by omega) (by omega) dX2_isEmptyLabelled_5 ?_
  have hb_1 := hlb j
  refine zd_ne (a := (lb j : Nat)) (tgt := 13) hx hb dX2_isEmptyLabelled_6 (by decide) (zI (by omega)) (fun c_2 => ?_) (fun c_2 => ?_)
  · skip
    refine lv_iconst (v := nI 0) hx hb dX2_isEmptyLabelled_13 (by decide) ?_
    exact kret _ _ _ _ _ _ (bI_f (by omega)) rfl hP hD hS dX2_isEmptyLabelled_14
  · skip
    refine lv_iconst (v := nI 1) hx hb dX2_isEmptyLabelled_9 (by decide) ?_
    refine lv_goto (tgt := 14) hx hb dX2_isEmptyLabelled_10 (by decide) ?_
    exact kret _ _ _ _ _ _ (bI_t (by omega)) rfl hP hD hS dX2_isEmptyLabelled_14
set_option maxHeartbeats 4000000 in
set_option maxRecDepth 100000 in
theorem c_X2_opens (l : Launch) (G : zG) (e a1 a2 a3 : Nat) (cap : Nat) (lb : Nat → Nat) (k j : Nat) (hj : j < cap) (hc : cap < 2147483648) (hlb : ∀ i, lb i < 7) : MI l yX2_opens wsX2_opens ({ frames := 0, cells := 0, slots := 0, locals := 0 }) G [.ref e, .int (nI j)] [(e, .inr (1, [.ref a1, .ref a2, .ref a3, .int (nI k)])), zA G a3 cap lb] (bI (decide (1 ≤ lb j ∧ lb j ≤ 3))) [(e, .inr (1, [.ref a1, .ref a2, .ref a3, .int (nI k)])), zA G a3 cap lb] := by
  refine MI.enter (cc := cX2_opens) (maxL := 2) (by decide) rfl (Nat.le_of_ble_eq_true rfl) (bI_nar _) ?_
  intro pM eM sM mM bM tM cM QM AM ls hat kret
  obtain ⟨SM, hA, hK, hE, hP, hD, hS, hl⟩ := hat
  have hx := SM.1
  have hb := SM.2.1
  have hown : sM.vm.findClass RX2 = some mM.cls := SM.2.2.2.1
  have hts := SM.2.2.2.2
  have hinX2 : ∀ w ∈ u_ws RX2 TX2 4, w ∈ wsX2_opens := by decide +kernel
  have hlk18 : (Cond.fieldLink RX2 18 "DyckReachability$Edges" "labels" "[I").before _ sM = true := hts _ (by decide +kernel)
  have hl : lv_has ls 2 [(0, .ref e), (1, .int (nI j))] := hl
  refine lv_aload_n hx hb dX2_opens_0 rfl (lv_at hl 0 rfl) ?_
  refine va_get (D := G.1) (ci := 1) (v := .ref a3) (C := RX2) (T := TX2) (N := 4) hx hb hts hinX2 hown hK hP 0 rfl rfl 2 (by decide) hlk18 (fun _ h9 => h9) rfl dX2_opens_1 ?_
  refine lv_iload_n hx hb dX2_opens_4 rfl (lv_at hl 1 rfl) ?_
  refine zi_ald hx hb hK hP 1 rfl (by omega) (by omega) dX2_opens_5 ?_
  have hb_1 := hlb j
  refine lv_iconst (v := nI 1) hx hb dX2_opens_6 (by decide) ?_
  refine zn_lt (tgt := 24) hx hb dX2_opens_7 (by decide) (by omega) (by omega) (fun c_2 => ?_) (fun c_2 => ?_)
  · skip
    refine lv_iconst (v := nI 0) hx hb dX2_opens_24 (by decide) ?_
    exact kret _ _ _ _ _ _ (bI_f (by omega)) rfl hP hD hS dX2_opens_25
  · skip
    refine lv_aload_n hx hb dX2_opens_10 rfl (lv_at hl 0 rfl) ?_
    refine va_get (D := G.1) (ci := 1) (v := .ref a3) (C := RX2) (T := TX2) (N := 4) hx hb hts hinX2 hown hK hP 0 rfl rfl 2 (by decide) hlk18 (fun _ h9 => h9) rfl dX2_opens_11 ?_
    refine lv_iload_n hx hb dX2_opens_14 rfl (lv_at hl 1 rfl) ?_
    refine zi_ald hx hb hK hP 1 rfl (by omega) (by omega) dX2_opens_15 ?_
    have hb_3 := hlb j
    refine lv_iconst (v := nI 3) hx hb dX2_opens_16 (by decide) ?_
    refine zn_gt (tgt := 24) hx hb dX2_opens_17 (by decide) (by omega) (by omega) (fun c_4 => ?_) (fun c_4 => ?_)
    · skip
      refine lv_iconst (v := nI 0) hx hb dX2_opens_24 (by decide) ?_
      exact kret _ _ _ _ _ _ (bI_f (by omega)) rfl hP hD hS dX2_opens_25
    · skip
      refine lv_iconst (v := nI 1) hx hb dX2_opens_20 (by decide) ?_
      refine lv_goto (tgt := 25) hx hb dX2_opens_21 (by decide) ?_
      exact kret _ _ _ _ _ _ (bI_t (by omega)) rfl hP hD hS dX2_opens_25
set_option maxHeartbeats 4000000 in
set_option maxRecDepth 100000 in
theorem c_X2_closes (l : Launch) (G : zG) (e a1 a2 a3 : Nat) (cap : Nat) (lb : Nat → Nat) (k i j : Nat) (hi : i < cap) (hj : j < cap) (hc : cap < 2147483648) (hlb : ∀ i, lb i < 7) : MI l yX2_closes wsX2_closes ({ frames := 0, cells := 0, slots := 0, locals := 0 }) G [.ref e, .int (nI i), .int (nI j)] [(e, .inr (1, [.ref a1, .ref a2, .ref a3, .int (nI k)])), zA G a3 cap lb] (bI (decide (lb i = lb j + 3))) [(e, .inr (1, [.ref a1, .ref a2, .ref a3, .int (nI k)])), zA G a3 cap lb] := by
  refine MI.enter (cc := cX2_closes) (maxL := 3) (by decide) rfl (Nat.le_of_ble_eq_true rfl) (bI_nar _) ?_
  intro pM eM sM mM bM tM cM QM AM ls hat kret
  obtain ⟨SM, hA, hK, hE, hP, hD, hS, hl⟩ := hat
  have hx := SM.1
  have hb := SM.2.1
  have hown : sM.vm.findClass RX2 = some mM.cls := SM.2.2.2.1
  have hts := SM.2.2.2.2
  have hinX2 : ∀ w ∈ u_ws RX2 TX2 4, w ∈ wsX2_closes := by decide +kernel
  have hlk18 : (Cond.fieldLink RX2 18 "DyckReachability$Edges" "labels" "[I").before _ sM = true := hts _ (by decide +kernel)
  have hl : lv_has ls 3 [(0, .ref e), (1, .int (nI i)), (2, .int (nI j))] := hl
  refine lv_aload_n hx hb dX2_closes_0 rfl (lv_at hl 0 rfl) ?_
  refine va_get (D := G.1) (ci := 1) (v := .ref a3) (C := RX2) (T := TX2) (N := 4) hx hb hts hinX2 hown hK hP 0 rfl rfl 2 (by decide) hlk18 (fun _ h9 => h9) rfl dX2_closes_1 ?_
  refine lv_iload_n hx hb dX2_closes_4 rfl (lv_at hl 1 rfl) ?_
  refine zi_ald hx hb hK hP 1 rfl (by omega) (by omega) dX2_closes_5 ?_
  have hb_1 := hlb i
  refine lv_aload_n hx hb dX2_closes_6 rfl (lv_at hl 0 rfl) ?_
  refine va_get (D := G.1) (ci := 1) (v := .ref a3) (C := RX2) (T := TX2) (N := 4) hx hb hts hinX2 hown hK hP 0 rfl rfl 2 (by decide) hlk18 (fun _ h9 => h9) rfl dX2_closes_7 ?_
  refine lv_iload_n hx hb dX2_closes_10 rfl (lv_at hl 2 rfl) ?_
  refine zi_ald hx hb hK hP 1 rfl (by omega) (by omega) dX2_closes_11 ?_
  have hb_2 := hlb j
  refine lv_iconst (v := nI 3) hx hb dX2_closes_12 (by decide) ?_
  refine zi_addk (n := (lb j) + 3) hx hb dX2_closes_13 (by omega) ?_
  refine zn_ne (tgt := 21) hx hb dX2_closes_14 (by decide) (by omega) (by omega) (fun c_3 => ?_) (fun c_3 => ?_)
  · skip
    refine lv_iconst (v := nI 0) hx hb dX2_closes_21 (by decide) ?_
    exact kret _ _ _ _ _ _ (bI_f (by omega)) rfl hP hD hS dX2_closes_22
  · skip
    refine lv_iconst (v := nI 1) hx hb dX2_closes_17 (by decide) ?_
    refine lv_goto (tgt := 22) hx hb dX2_closes_18 (by decide) ?_
    exact kret _ _ _ _ _ _ (bI_t (by omega)) rfl hP hD hS dX2_closes_22
set_option maxHeartbeats 4000000 in
set_option maxRecDepth 100000 in
theorem c_X2_otherBracket (l : Launch) (G : zG) (z : Nat) (hz : z < 7) : MI l yX2_otherBracket wsX2_otherBracket ({ frames := 0, cells := 0, slots := 0, locals := 0 }) G [.int (nI z)] [] (nI (zOB z)) [] := by
  refine MI.enter (cc := cX2_otherBracket) (maxL := 1) (by decide) rfl (Nat.le_of_ble_eq_true rfl) rfl ?_
  intro pM eM sM mM bM tM cM QM AM ls hat kret
  obtain ⟨SM, hA, hK, hE, hP, hD, hS, hl⟩ := hat
  have hx := SM.1
  have hb := SM.2.1
  have hown : sM.vm.findClass RX2 = some mM.cls := SM.2.2.2.1
  have hts := SM.2.2.2.2
  have hl : lv_has ls 1 [(0, .int (nI z))] := hl
  refine lv_iload_n hx hb dX2_otherBracket_0 rfl (lv_at hl 0 rfl) ?_
  refine zd_ne (a := (z : Nat)) (tgt := 6) hx hb dX2_otherBracket_1 (by decide) (zI (by omega)) (fun c_1 => ?_) (fun c_1 => ?_)
  · skip
    refine lv_iload_n hx hb dX2_otherBracket_6 rfl (lv_at hl 0 rfl) ?_
    refine lv_iconst (v := nI 3) hx hb dX2_otherBracket_7 (by decide) ?_
    refine zn_gt (tgt := 17) hx hb dX2_otherBracket_8 (by decide) (by omega) (by omega) (fun c_2 => ?_) (fun c_2 => ?_)
    · skip
      refine lv_iload_n hx hb dX2_otherBracket_17 rfl (lv_at hl 0 rfl) ?_
      refine lv_iconst (v := nI 3) hx hb dX2_otherBracket_18 (by decide) ?_
      refine zi_sub hx hb dX2_otherBracket_19 (by omega) ?_
      exact kret _ _ _ _ _ _ (congrArg nI (by unfold zOB; split <;> (try split) <;> omega)) rfl hP hD hS dX2_otherBracket_20
    · skip
      refine lv_iload_n hx hb dX2_otherBracket_11 rfl (lv_at hl 0 rfl) ?_
      refine lv_iconst (v := nI 3) hx hb dX2_otherBracket_12 (by decide) ?_
      refine zi_addk (n := z + 3) hx hb dX2_otherBracket_13 (by omega) ?_
      refine lv_goto (tgt := 20) hx hb dX2_otherBracket_14 (by decide) ?_
      exact kret _ _ _ _ _ _ (congrArg nI (by unfold zOB; split <;> (try split) <;> omega)) rfl hP hD hS dX2_otherBracket_20
  · skip
    refine lv_iconst (v := nI 0) hx hb dX2_otherBracket_4 (by decide) ?_
    exact kret _ _ _ _ _ _ (congrArg nI (by unfold zOB; split <;> omega)) rfl hP hD hS dX2_otherBracket_5
set_option maxHeartbeats 4000000 in
set_option maxRecDepth 100000 in
theorem c_X2_take (l : Launch) (G : zG) (e a1 a2 a3 : Nat) (cap : Nat) (s t lb : Nat → Nat) (k : Nat) (e2 b1 b2 b3 : Nat) (cap2 : Nat) (s2 t2 l2 : Nat → Nat) (k2 : Nat) (hk2 : k2 ≤ cap2) (hk : k2 ≤ cap) (hc : cap < 2147483648) (hc2 : cap2 < 2147483648) : MV l yX2_take wsX2_take ({ frames := 2, cells := 0, slots := 0, locals := 43 }) G [.ref e, .ref e2] [(e, .inr (1, [.ref a1, .ref a2, .ref a3, .int (nI k)])), zA G a1 cap s, zA G a2 cap t, zA G a3 cap lb, (e2, .inr (1, [.ref b1, .ref b2, .ref b3, .int (nI k2)])), zA G b1 cap2 s2, zA G b2 cap2 t2, zA G b3 cap2 l2] [(e, .inr (1, [.ref a1, .ref a2, .ref a3, .int (nI k2)])), zA G a1 cap (zTk s s2 k2), zA G a2 cap (zTk t t2 k2), zA G a3 cap (zTk lb l2 k2), (e2, .inr (1, [.ref b1, .ref b2, .ref b3, .int (nI k2)])), zA G b1 cap2 s2, zA G b2 cap2 t2, zA G b3 cap2 l2] := by
  refine MV.enter (cc := cX2_take) (maxL := 3) (by decide) rfl (Nat.le_of_ble_eq_true rfl) ?_
  intro pM eM sM mM bM tM cM QM AM ls hat kret
  obtain ⟨SM, hA, hK, hE, hP, hD, hS, hl⟩ := hat
  have hx := SM.1
  have hb := SM.2.1
  have hown : sM.vm.findClass RX2 = some mM.cls := SM.2.2.2.1
  have hts := SM.2.2.2.2
  have hinX2 : ∀ w ∈ u_ws RX2 TX2 4, w ∈ wsX2_take := by decide +kernel
  have hlk21 : (Cond.fieldLink RX2 21 "DyckReachability$Edges" "size" "I").before _ sM = true := hts _ (by decide +kernel)
  have hlk9 : (Cond.fieldLink RX2 9 "DyckReachability$Edges" "sources" "[I").before _ sM = true := hts _ (by decide +kernel)
  have hlk15 : (Cond.fieldLink RX2 15 "DyckReachability$Edges" "targets" "[I").before _ sM = true := hts _ (by decide +kernel)
  have hlk18 : (Cond.fieldLink RX2 18 "DyckReachability$Edges" "labels" "[I").before _ sM = true := hts _ (by decide +kernel)
  have hl : lv_has ls 3 [(0, .ref e), (1, .ref e2)] := hl
  refine lv_aload_n hx hb dX2_take_0 rfl (lv_at hl 0 rfl) ?_
  refine lv_iconst (v := nI 0) hx hb dX2_take_1 (by decide) ?_
  refine va_put (D := G.1) (ci := 1) (v := .int (nI 0)) (ty := .int) (C := RX2) (T := TX2) (N := 4) hx hb hts hinX2 tyX2 tyX2_ok nmX2 hown hK hP hD hS 0 rfl rfl 3 (by decide) hlk21 (fun _ h9 => h9) rfl (by decide +kernel) rfl rfl (Nat.le_of_ble_eq_true rfl) dX2_take_2 (fun H locs hP hD hS => ?_)
  have hP : va_P G.1 vwCl [(e, .inr (1, [.ref a1, .ref a2, .ref a3, .int (nI 0)])), zA G a1 cap s, zA G a2 cap t, zA G a3 cap lb, (e2, .inr (1, [.ref b1, .ref b2, .ref b3, .int (nI k2)])), zA G b1 cap2 s2, zA G b2 cap2 t2, zA G b3 cap2 l2] H := hP
  have hD : va_D AM [(e, .inr (1, [.ref a1, .ref a2, .ref a3, .int (nI 0)])), zA G a1 cap s, zA G a2 cap t, zA G a3 cap lb, (e2, .inr (1, [.ref b1, .ref b2, .ref b3, .int (nI k2)])), zA G b1 cap2 s2, zA G b2 cap2 t2, zA G b3 cap2 l2] := hD
  refine lv_iconst (v := nI 0) hx hb dX2_take_5 (by decide) ?_
  refine lv_istore_n (lv' := [(2, .int (nI 0)), (0, .ref e), (1, .ref e2)]) hx hb dX2_take_6 rfl hl (by decide) rfl (fun ls hl => ?_)
  have lp7 : ∀ (n9 : Nat), ∀ (i : Nat), (i ≤ k2) → (k2 - i) < n9 → ∀ (H : Heap) (locs : List Loc) (ls : Array Slot), va_P G.1 vwCl [(e, .inr (1, [.ref a1, .ref a2, .ref a3, .int (nI i)])), zA G a1 cap (zTk s s2 i), zA G a2 cap (zTk t t2 i), zA G a3 cap (zTk lb l2 i), (e2, .inr (1, [.ref b1, .ref b2, .ref b3, .int (nI k2)])), zA G b1 cap2 s2, zA G b2 cap2 t2, zA G b3 cap2 l2] H → va_D AM [(e, .inr (1, [.ref a1, .ref a2, .ref a3, .int (nI i)])), zA G a1 cap (zTk s s2 i), zA G a2 cap (zTk t t2 i), zA G a3 cap (zTk lb l2 i), (e2, .inr (1, [.ref b1, .ref b2, .ref b3, .int (nI k2)])), zA G b1 cap2 s2, zA G b2 cap2 t2, zA G b3 cap2 l2] → va_S AM sM.heap H locs → lv_has ls 3 [(0, .ref e), (1, .ref e2), (2, .int (nI i))] → W pM l eM ({ frames := 2, cells := 0, slots := 0, locals := 43 }) sM mM (([.ref e, .ref e2] : List Value).toArray) bM tM cM H locs 0 0 QM (F0 mM 7 ls []) := by
    intro n9
    induction n9 with
    | zero =>
      intro _ _ h9
      exact absurd h9 (Nat.not_lt_zero _)
    | succ n9 ih9 =>
      intro i h1 hmu7 H locs ls hP hD hS hl
      have ih7 := ih9
      clear ih9
      refine lv_iload_n hx hb dX2_take_7 rfl (lv_at hl 2 rfl) ?_
      refine lv_aload_n hx hb dX2_take_8 rfl (lv_at hl 1 rfl) ?_
      refine va_get (D := G.1) (ci := 1) (v := .int (nI k2)) (C := RX2) (T := TX2) (N := 4) hx hb hts hinX2 hown hK hP 4 rfl rfl 3 (by decide) hlk21 (fun _ h9 => h9) rfl dX2_take_9 ?_
      refine zn_ge (tgt := 43) hx hb dX2_take_12 (by decide) (by omega) (by omega) (fun c_1 => ?_) (fun c_1 => ?_)
      · skip
        exact kret _ _ _ _ _ (by have hq9 : i = k2 := (by omega); subst hq9; rfl) hP hD hS dX2_take_43
      · skip
        refine lv_aload_n hx hb dX2_take_15 rfl (lv_at hl 0 rfl) ?_
        refine lv_aload_n hx hb dX2_take_16 rfl (lv_at hl 1 rfl) ?_
        refine va_get (D := G.1) (ci := 1) (v := .ref b1) (C := RX2) (T := TX2) (N := 4) hx hb hts hinX2 hown hK hP 4 rfl rfl 0 (by decide) hlk9 (fun _ h9 => h9) rfl dX2_take_17 ?_
        refine lv_iload_n hx hb dX2_take_20 rfl (lv_at hl 2 rfl) ?_
        refine zi_ald hx hb hK hP 5 rfl (by omega) (by omega) dX2_take_21 ?_
        refine lv_aload_n hx hb dX2_take_22 rfl (lv_at hl 1 rfl) ?_
        refine va_get (D := G.1) (ci := 1) (v := .ref b2) (C := RX2) (T := TX2) (N := 4) hx hb hts hinX2 hown hK hP 4 rfl rfl 1 (by decide) hlk15 (fun _ h9 => h9) rfl dX2_take_23 ?_
        refine lv_iload_n hx hb dX2_take_26 rfl (lv_at hl 2 rfl) ?_
        refine zi_ald hx hb hK hP 6 rfl (by omega) (by omega) dX2_take_27 ?_
        refine lv_aload_n hx hb dX2_take_28 rfl (lv_at hl 1 rfl) ?_
        refine va_get (D := G.1) (ci := 1) (v := .ref b3) (C := RX2) (T := TX2) (N := 4) hx hb hts hinX2 hown hK hP 4 rfl rfl 2 (by decide) hlk18 (fun _ h9 => h9) rfl dX2_take_29 ?_
        refine lv_iload_n hx hb dX2_take_32 rfl (lv_at hl 2 rfl) ?_
        refine zi_ald hx hb hK hP 7 rfl (by omega) (by omega) dX2_take_33 ?_
        refine zVv (W1 := [(e, .inr (1, [.ref a1, .ref a2, .ref a3, .int (nI i)])), zA G a1 cap (zTk s s2 i), zA G a2 cap (zTk t t2 i), zA G a3 cap (zTk lb l2 i), (e2, .inr (1, [.ref b1, .ref b2, .ref b3, .int (nI k2)])), zA G b1 cap2 s2, zA G b2 cap2 t2, zA G b3 cap2 l2]) (W2 := [(e, .inr (1, [.ref a1, .ref a2, .ref a3, .int (nI (i + 1))])), zA G a1 cap (zU (zTk s s2 i) i (s2 i)), zA G a2 cap (zU (zTk t t2 i) i (t2 i)), zA G a3 cap (zU (zTk lb l2 i) i (l2 i)), (e2, .inr (1, [.ref b1, .ref b2, .ref b3, .int (nI k2)])), zA G b1 cap2 s2, zA G b2 cap2 t2, zA G b3 cap2 l2]) (wr := [(e2, .inr (1, [.ref b1, .ref b2, .ref b3, .int (nI k2)])), zA G b1 cap2 s2, zA G b2 cap2 t2, zA G b3 cap2 l2]) (rest := []) SM (c_X2_put_N l G e a1 a2 a3 cap (zTk s s2 i) (zTk t t2 i) (zTk lb l2 i) i (s2 i) (t2 i) (l2 i) (by first | assumption | omega) (by first | assumption | omega)) (cwV 3 hts gX2_take_X2_put rfl rfl rfl (by decide +kernel) ⟨Nat.le_of_ble_eq_true rfl, Nat.le_of_ble_eq_true rfl⟩) hK hE hA hP hD hS hl.1 [0, 1, 2, 3] [4, 5, 6, 7] [4, 5, 6, 7, 0, 1, 2, 3] rfl rfl rfl (by decide) (ci := 1) rfl rfl rfl rfl rfl (Nat.le_of_ble_eq_true rfl) ⟨Nat.zero_le _, Nat.zero_le _⟩ dX2_take_34 (fun H locs hP hD hS => ?_)
        refine lv_iinc (v := nI (i + 1)) (lv' := [(2, .int (nI (i + 1))), (0, .ref e), (1, .ref e2)]) hx hb dX2_take_37 hl (k := 2) rfl (zinc i 1) (by decide) rfl (fun ls hl => ?_)
        refine lv_goto (tgt := 7) hx hb dX2_take_40 (by decide) ?_
        have hP : va_P G.1 vwCl [(e, .inr (1, [.ref a1, .ref a2, .ref a3, .int (nI (i + 1))])), zA G a1 cap (zTk s s2 (i + 1)), zA G a2 cap (zTk t t2 (i + 1)), zA G a3 cap (zTk lb l2 (i + 1)), (e2, .inr (1, [.ref b1, .ref b2, .ref b3, .int (nI k2)])), zA G b1 cap2 s2, zA G b2 cap2 t2, zA G b3 cap2 l2] H := by (simp only [zTk_step]); exact hP
        have hD : va_D AM [(e, .inr (1, [.ref a1, .ref a2, .ref a3, .int (nI (i + 1))])), zA G a1 cap (zTk s s2 (i + 1)), zA G a2 cap (zTk t t2 (i + 1)), zA G a3 cap (zTk lb l2 (i + 1)), (e2, .inr (1, [.ref b1, .ref b2, .ref b3, .int (nI k2)])), zA G b1 cap2 s2, zA G b2 cap2 t2, zA G b3 cap2 l2] := by (simp only [zTk_step]); exact hD
        exact ih7 (i + 1) (by first | assumption | omega) (by omega) _ _ _ hP hD hS (lv_sub hl [1, 2, 0] rfl)
  have hP : va_P G.1 vwCl [(e, .inr (1, [.ref a1, .ref a2, .ref a3, .int (nI 0)])), zA G a1 cap (zTk s s2 0), zA G a2 cap (zTk t t2 0), zA G a3 cap (zTk lb l2 0), (e2, .inr (1, [.ref b1, .ref b2, .ref b3, .int (nI k2)])), zA G b1 cap2 s2, zA G b2 cap2 t2, zA G b3 cap2 l2] H := by (simp only [zTk_0]); exact hP
  have hD : va_D AM [(e, .inr (1, [.ref a1, .ref a2, .ref a3, .int (nI 0)])), zA G a1 cap (zTk s s2 0), zA G a2 cap (zTk t t2 0), zA G a3 cap (zTk lb l2 0), (e2, .inr (1, [.ref b1, .ref b2, .ref b3, .int (nI k2)])), zA G b1 cap2 s2, zA G b2 cap2 t2, zA G b3 cap2 l2] := by (simp only [zTk_0]); exact hD
  exact lp7 (k2 - 0 + 1) 0 (by first | assumption | omega) (Nat.lt_succ_self _) _ _ _ hP hD hS (lv_sub hl [1, 2, 0] rfl)
set_option maxHeartbeats 4000000 in
set_option maxRecDepth 100000 in
theorem c_X2_takeSome (l : Launch) (G : zG) (e a1 a2 a3 : Nat) (cap : Nat) (s t lb : Nat → Nat) (k : Nat) (e2 b1 b2 b3 : Nat) (cap2 : Nat) (s2 t2 l2 : Nat → Nat) (k2 : Nat) (sub : Nat) (hk2 : k2 ≤ cap2) (hk : k2 ≤ cap) (hc : cap < 2147483648) (hc2 : cap2 < 2147483648) (hs : sub < 2147483648) (hk16 : k2 ≤ 16) : MV l yX2_takeSome wsX2_takeSome ({ frames := 2, cells := 0, slots := 0, locals := 43 }) G [.ref e, .ref e2, .int (nI sub)] [(e, .inr (1, [.ref a1, .ref a2, .ref a3, .int (nI k)])), zA G a1 cap s, zA G a2 cap t, zA G a3 cap lb, (e2, .inr (1, [.ref b1, .ref b2, .ref b3, .int (nI k2)])), zA G b1 cap2 s2, zA G b2 cap2 t2, zA G b3 cap2 l2] [(e, .inr (1, [.ref a1, .ref a2, .ref a3, .int (nI (zCt sub k2))])), zA G a1 cap (zSel sub s s2 k2), zA G a2 cap (zSel sub t t2 k2), zA G a3 cap (zSel sub lb l2 k2), (e2, .inr (1, [.ref b1, .ref b2, .ref b3, .int (nI k2)])), zA G b1 cap2 s2, zA G b2 cap2 t2, zA G b3 cap2 l2] := by
  refine MV.enter (cc := cX2_takeSome) (maxL := 4) (by decide) rfl (Nat.le_of_ble_eq_true rfl) ?_
  intro pM eM sM mM bM tM cM QM AM ls hat kret
  obtain ⟨SM, hA, hK, hE, hP, hD, hS, hl⟩ := hat
  have hx := SM.1
  have hb := SM.2.1
  have hown : sM.vm.findClass RX2 = some mM.cls := SM.2.2.2.1
  have hts := SM.2.2.2.2
  have hinX2 : ∀ w ∈ u_ws RX2 TX2 4, w ∈ wsX2_takeSome := by decide +kernel
  have hlk21 : (Cond.fieldLink RX2 21 "DyckReachability$Edges" "size" "I").before _ sM = true := hts _ (by decide +kernel)
  have hlk9 : (Cond.fieldLink RX2 9 "DyckReachability$Edges" "sources" "[I").before _ sM = true := hts _ (by decide +kernel)
  have hlk15 : (Cond.fieldLink RX2 15 "DyckReachability$Edges" "targets" "[I").before _ sM = true := hts _ (by decide +kernel)
  have hlk18 : (Cond.fieldLink RX2 18 "DyckReachability$Edges" "labels" "[I").before _ sM = true := hts _ (by decide +kernel)
  have hl : lv_has ls 4 [(0, .ref e), (1, .ref e2), (2, .int (nI sub))] := hl
  refine lv_aload_n hx hb dX2_takeSome_0 rfl (lv_at hl 0 rfl) ?_
  refine lv_iconst (v := nI 0) hx hb dX2_takeSome_1 (by decide) ?_
  refine va_put (D := G.1) (ci := 1) (v := .int (nI 0)) (ty := .int) (C := RX2) (T := TX2) (N := 4) hx hb hts hinX2 tyX2 tyX2_ok nmX2 hown hK hP hD hS 0 rfl rfl 3 (by decide) hlk21 (fun _ h9 => h9) rfl (by decide +kernel) rfl rfl (Nat.le_of_ble_eq_true rfl) dX2_takeSome_2 (fun H locs hP hD hS => ?_)
  have hP : va_P G.1 vwCl [(e, .inr (1, [.ref a1, .ref a2, .ref a3, .int (nI 0)])), zA G a1 cap s, zA G a2 cap t, zA G a3 cap lb, (e2, .inr (1, [.ref b1, .ref b2, .ref b3, .int (nI k2)])), zA G b1 cap2 s2, zA G b2 cap2 t2, zA G b3 cap2 l2] H := hP
  have hD : va_D AM [(e, .inr (1, [.ref a1, .ref a2, .ref a3, .int (nI 0)])), zA G a1 cap s, zA G a2 cap t, zA G a3 cap lb, (e2, .inr (1, [.ref b1, .ref b2, .ref b3, .int (nI k2)])), zA G b1 cap2 s2, zA G b2 cap2 t2, zA G b3 cap2 l2] := hD
  refine lv_iconst (v := nI 0) hx hb dX2_takeSome_5 (by decide) ?_
  refine lv_istore_n (lv' := [(3, .int (nI 0)), (0, .ref e), (1, .ref e2), (2, .int (nI sub))]) hx hb dX2_takeSome_6 rfl hl (by decide) rfl (fun ls hl => ?_)
  have lp7 : ∀ (n9 : Nat), ∀ (i : Nat), (i ≤ k2) → (k2 - i) < n9 → ∀ (H : Heap) (locs : List Loc) (ls : Array Slot), va_P G.1 vwCl [(e, .inr (1, [.ref a1, .ref a2, .ref a3, .int (nI (zCt sub i))])), zA G a1 cap (zSel sub s s2 i), zA G a2 cap (zSel sub t t2 i), zA G a3 cap (zSel sub lb l2 i), (e2, .inr (1, [.ref b1, .ref b2, .ref b3, .int (nI k2)])), zA G b1 cap2 s2, zA G b2 cap2 t2, zA G b3 cap2 l2] H → va_D AM [(e, .inr (1, [.ref a1, .ref a2, .ref a3, .int (nI (zCt sub i))])), zA G a1 cap (zSel sub s s2 i), zA G a2 cap (zSel sub t t2 i), zA G a3 cap (zSel sub lb l2 i), (e2, .inr (1, [.ref b1, .ref b2, .ref b3, .int (nI k2)])), zA G b1 cap2 s2, zA G b2 cap2 t2, zA G b3 cap2 l2] → va_S AM sM.heap H locs → lv_has ls 4 [(0, .ref e), (1, .ref e2), (2, .int (nI sub)), (3, .int (nI i))] → W pM l eM ({ frames := 2, cells := 0, slots := 0, locals := 43 }) sM mM (([.ref e, .ref e2, .int (nI sub)] : List Value).toArray) bM tM cM H locs 0 0 QM (F0 mM 7 ls []) := by
    intro n9
    induction n9 with
    | zero =>
      intro _ _ h9
      exact absurd h9 (Nat.not_lt_zero _)
    | succ n9 ih9 =>
      intro i h1 hmu7 H locs ls hP hD hS hl
      have ih7 := ih9
      clear ih9
      have hct := zCt_le sub i
      refine lv_iload_n hx hb dX2_takeSome_7 rfl (lv_at hl 3 rfl) ?_
      refine lv_aload_n hx hb dX2_takeSome_8 rfl (lv_at hl 1 rfl) ?_
      refine va_get (D := G.1) (ci := 1) (v := .int (nI k2)) (C := RX2) (T := TX2) (N := 4) hx hb hts hinX2 hown hK hP 4 rfl rfl 3 (by decide) hlk21 (fun _ h9 => h9) rfl dX2_takeSome_9 ?_
      refine zn_ge (tgt := 51) hx hb dX2_takeSome_12 (by decide) (by omega) (by omega) (fun c_1 => ?_) (fun c_1 => ?_)
      · skip
        exact kret _ _ _ _ _ (by have hq9 : i = k2 := (by omega); subst hq9; rfl) hP hD hS dX2_takeSome_51
      · skip
        refine lv_iload_n hx hb dX2_takeSome_15 rfl (lv_at hl 2 rfl) ?_
        refine lv_iload_n hx hb dX2_takeSome_16 rfl (lv_at hl 3 rfl) ?_
        refine zi_shr hx hb dX2_takeSome_17 (by omega) (by omega) ?_
        refine lv_iconst (v := nI 1) hx hb dX2_takeSome_18 (by decide) ?_
        refine zi_and1 hx hb dX2_takeSome_19 ?_
        refine zd_eq (a := ((sub / 2 ^ i) % 2 : Nat)) (tgt := 45) hx hb dX2_takeSome_20 (by decide) (zI (by omega)) (fun c_2 => ?_) (fun c_2 => ?_)
        · skip
          have hbit : (sub / 2 ^ i % 2) = 0 := by omega
          refine lv_iinc (v := nI (i + 1)) (lv' := [(3, .int (nI (i + 1))), (0, .ref e), (1, .ref e2), (2, .int (nI sub))]) hx hb dX2_takeSome_45 hl (k := 3) rfl (zinc i 1) (by decide) rfl (fun ls hl => ?_)
          refine lv_goto (tgt := 7) hx hb dX2_takeSome_48 (by decide) ?_
          have hP : va_P G.1 vwCl [(e, .inr (1, [.ref a1, .ref a2, .ref a3, .int (nI (zCt sub (i + 1)))])), zA G a1 cap (zSel sub s s2 (i + 1)), zA G a2 cap (zSel sub t t2 (i + 1)), zA G a3 cap (zSel sub lb l2 (i + 1)), (e2, .inr (1, [.ref b1, .ref b2, .ref b3, .int (nI k2)])), zA G b1 cap2 s2, zA G b2 cap2 t2, zA G b3 cap2 l2] H := by (first | (simp only [zSel_y ‹¬ (sub / 2 ^ i % 2) = 0›, zCt_y ‹¬ (sub / 2 ^ i % 2) = 0›]) | (simp only [zSel_n ‹(sub / 2 ^ i % 2) = 0›, zCt_n ‹(sub / 2 ^ i % 2) = 0›])); exact hP
          have hD : va_D AM [(e, .inr (1, [.ref a1, .ref a2, .ref a3, .int (nI (zCt sub (i + 1)))])), zA G a1 cap (zSel sub s s2 (i + 1)), zA G a2 cap (zSel sub t t2 (i + 1)), zA G a3 cap (zSel sub lb l2 (i + 1)), (e2, .inr (1, [.ref b1, .ref b2, .ref b3, .int (nI k2)])), zA G b1 cap2 s2, zA G b2 cap2 t2, zA G b3 cap2 l2] := by (first | (simp only [zSel_y ‹¬ (sub / 2 ^ i % 2) = 0›, zCt_y ‹¬ (sub / 2 ^ i % 2) = 0›]) | (simp only [zSel_n ‹(sub / 2 ^ i % 2) = 0›, zCt_n ‹(sub / 2 ^ i % 2) = 0›])); exact hD
          exact ih7 (i + 1) (by first | assumption | omega) (by omega) _ _ _ hP hD hS (lv_sub hl [1, 2, 3, 0] rfl)
        · skip
          have hbit : ¬ (sub / 2 ^ i % 2) = 0 := by omega
          refine lv_aload_n hx hb dX2_takeSome_23 rfl (lv_at hl 0 rfl) ?_
          refine lv_aload_n hx hb dX2_takeSome_24 rfl (lv_at hl 1 rfl) ?_
          refine va_get (D := G.1) (ci := 1) (v := .ref b1) (C := RX2) (T := TX2) (N := 4) hx hb hts hinX2 hown hK hP 4 rfl rfl 0 (by decide) hlk9 (fun _ h9 => h9) rfl dX2_takeSome_25 ?_
          refine lv_iload_n hx hb dX2_takeSome_28 rfl (lv_at hl 3 rfl) ?_
          refine zi_ald hx hb hK hP 5 rfl (by omega) (by omega) dX2_takeSome_29 ?_
          refine lv_aload_n hx hb dX2_takeSome_30 rfl (lv_at hl 1 rfl) ?_
          refine va_get (D := G.1) (ci := 1) (v := .ref b2) (C := RX2) (T := TX2) (N := 4) hx hb hts hinX2 hown hK hP 4 rfl rfl 1 (by decide) hlk15 (fun _ h9 => h9) rfl dX2_takeSome_31 ?_
          refine lv_iload_n hx hb dX2_takeSome_34 rfl (lv_at hl 3 rfl) ?_
          refine zi_ald hx hb hK hP 6 rfl (by omega) (by omega) dX2_takeSome_35 ?_
          refine lv_aload_n hx hb dX2_takeSome_36 rfl (lv_at hl 1 rfl) ?_
          refine va_get (D := G.1) (ci := 1) (v := .ref b3) (C := RX2) (T := TX2) (N := 4) hx hb hts hinX2 hown hK hP 4 rfl rfl 2 (by decide) hlk18 (fun _ h9 => h9) rfl dX2_takeSome_37 ?_
          refine lv_iload_n hx hb dX2_takeSome_40 rfl (lv_at hl 3 rfl) ?_
          refine zi_ald hx hb hK hP 7 rfl (by omega) (by omega) dX2_takeSome_41 ?_
          refine zVv (W1 := [(e, .inr (1, [.ref a1, .ref a2, .ref a3, .int (nI (zCt sub i))])), zA G a1 cap (zSel sub s s2 i), zA G a2 cap (zSel sub t t2 i), zA G a3 cap (zSel sub lb l2 i), (e2, .inr (1, [.ref b1, .ref b2, .ref b3, .int (nI k2)])), zA G b1 cap2 s2, zA G b2 cap2 t2, zA G b3 cap2 l2]) (W2 := [(e, .inr (1, [.ref a1, .ref a2, .ref a3, .int (nI ((zCt sub i) + 1))])), zA G a1 cap (zU (zSel sub s s2 i) (zCt sub i) (s2 i)), zA G a2 cap (zU (zSel sub t t2 i) (zCt sub i) (t2 i)), zA G a3 cap (zU (zSel sub lb l2 i) (zCt sub i) (l2 i)), (e2, .inr (1, [.ref b1, .ref b2, .ref b3, .int (nI k2)])), zA G b1 cap2 s2, zA G b2 cap2 t2, zA G b3 cap2 l2]) (wr := [(e2, .inr (1, [.ref b1, .ref b2, .ref b3, .int (nI k2)])), zA G b1 cap2 s2, zA G b2 cap2 t2, zA G b3 cap2 l2]) (rest := []) SM (c_X2_put_N l G e a1 a2 a3 cap (zSel sub s s2 i) (zSel sub t t2 i) (zSel sub lb l2 i) (zCt sub i) (s2 i) (t2 i) (l2 i) (by first | assumption | omega) (by first | assumption | omega)) (cwV 3 hts gX2_takeSome_X2_put rfl rfl rfl (by decide +kernel) ⟨Nat.le_of_ble_eq_true rfl, Nat.le_of_ble_eq_true rfl⟩) hK hE hA hP hD hS hl.1 [0, 1, 2, 3] [4, 5, 6, 7] [4, 5, 6, 7, 0, 1, 2, 3] rfl rfl rfl (by decide) (ci := 1) rfl rfl rfl rfl rfl (Nat.le_of_ble_eq_true rfl) ⟨Nat.zero_le _, Nat.zero_le _⟩ dX2_takeSome_42 (fun H locs hP hD hS => ?_)
          refine lv_iinc (v := nI (i + 1)) (lv' := [(3, .int (nI (i + 1))), (0, .ref e), (1, .ref e2), (2, .int (nI sub))]) hx hb dX2_takeSome_45 hl (k := 3) rfl (zinc i 1) (by decide) rfl (fun ls hl => ?_)
          refine lv_goto (tgt := 7) hx hb dX2_takeSome_48 (by decide) ?_
          have hP : va_P G.1 vwCl [(e, .inr (1, [.ref a1, .ref a2, .ref a3, .int (nI (zCt sub (i + 1)))])), zA G a1 cap (zSel sub s s2 (i + 1)), zA G a2 cap (zSel sub t t2 (i + 1)), zA G a3 cap (zSel sub lb l2 (i + 1)), (e2, .inr (1, [.ref b1, .ref b2, .ref b3, .int (nI k2)])), zA G b1 cap2 s2, zA G b2 cap2 t2, zA G b3 cap2 l2] H := by (first | (simp only [zSel_y ‹¬ (sub / 2 ^ i % 2) = 0›, zCt_y ‹¬ (sub / 2 ^ i % 2) = 0›]) | (simp only [zSel_n ‹(sub / 2 ^ i % 2) = 0›, zCt_n ‹(sub / 2 ^ i % 2) = 0›])); exact hP
          have hD : va_D AM [(e, .inr (1, [.ref a1, .ref a2, .ref a3, .int (nI (zCt sub (i + 1)))])), zA G a1 cap (zSel sub s s2 (i + 1)), zA G a2 cap (zSel sub t t2 (i + 1)), zA G a3 cap (zSel sub lb l2 (i + 1)), (e2, .inr (1, [.ref b1, .ref b2, .ref b3, .int (nI k2)])), zA G b1 cap2 s2, zA G b2 cap2 t2, zA G b3 cap2 l2] := by (first | (simp only [zSel_y ‹¬ (sub / 2 ^ i % 2) = 0›, zCt_y ‹¬ (sub / 2 ^ i % 2) = 0›]) | (simp only [zSel_n ‹(sub / 2 ^ i % 2) = 0›, zCt_n ‹(sub / 2 ^ i % 2) = 0›])); exact hD
          exact ih7 (i + 1) (by first | assumption | omega) (by omega) _ _ _ hP hD hS (lv_sub hl [1, 2, 3, 0] rfl)
  have hP : va_P G.1 vwCl [(e, .inr (1, [.ref a1, .ref a2, .ref a3, .int (nI (zCt sub 0))])), zA G a1 cap (zSel sub s s2 0), zA G a2 cap (zSel sub t t2 0), zA G a3 cap (zSel sub lb l2 0), (e2, .inr (1, [.ref b1, .ref b2, .ref b3, .int (nI k2)])), zA G b1 cap2 s2, zA G b2 cap2 t2, zA G b3 cap2 l2] H := by (simp only [zSel_0, zCt_0]); exact hP
  have hD : va_D AM [(e, .inr (1, [.ref a1, .ref a2, .ref a3, .int (nI (zCt sub 0))])), zA G a1 cap (zSel sub s s2 0), zA G a2 cap (zSel sub t t2 0), zA G a3 cap (zSel sub lb l2 0), (e2, .inr (1, [.ref b1, .ref b2, .ref b3, .int (nI k2)])), zA G b1 cap2 s2, zA G b2 cap2 t2, zA G b3 cap2 l2] := by (simp only [zSel_0, zCt_0]); exact hD
  exact lp7 (k2 - 0 + 1) 0 (by first | assumption | omega) (Nat.lt_succ_self _) _ _ _ hP hD hS (lv_sub hl [1, 2, 3, 0] rfl)
set_option maxHeartbeats 4000000 in
set_option maxRecDepth 100000 in
theorem c_X2_takeBothWays (l : Launch) (G : zG) (e a1 a2 a3 : Nat) (cap : Nat) (s t lb : Nat → Nat) (k : Nat) (e2 b1 b2 b3 : Nat) (cap2 : Nat) (s2 t2 l2 : Nat → Nat) (k2 : Nat) (hk2 : k2 ≤ cap2) (hk : k2 + k2 ≤ cap) (hc : cap < 2147483648) (hc2 : cap2 < 2147483648) (hl2 : ∀ i, l2 i < 7) : MV l yX2_takeBothWays wsX2_takeBothWays ({ frames := 3, cells := 0, slots := 0, locals := 65 }) G [.ref e, .ref e2] [(e, .inr (1, [.ref a1, .ref a2, .ref a3, .int (nI k)])), zA G a1 cap s, zA G a2 cap t, zA G a3 cap lb, (e2, .inr (1, [.ref b1, .ref b2, .ref b3, .int (nI k2)])), zA G b1 cap2 s2, zA G b2 cap2 t2, zA G b3 cap2 l2] [(e, .inr (1, [.ref a1, .ref a2, .ref a3, .int (nI (k2 + k2))])), zA G a1 cap (zBw s s2 t2 k2 k2), zA G a2 cap (zBw t t2 s2 k2 k2), zA G a3 cap (zBw lb l2 (zOBs l2) k2 k2), (e2, .inr (1, [.ref b1, .ref b2, .ref b3, .int (nI k2)])), zA G b1 cap2 s2, zA G b2 cap2 t2, zA G b3 cap2 l2] := by
  refine MV.enter (cc := cX2_takeBothWays) (maxL := 3) (by decide) rfl (Nat.le_of_ble_eq_true rfl) ?_
  intro pM eM sM mM bM tM cM QM AM ls hat kret
  obtain ⟨SM, hA, hK, hE, hP, hD, hS, hl⟩ := hat
  have hx := SM.1
  have hb := SM.2.1
  have hown : sM.vm.findClass RX2 = some mM.cls := SM.2.2.2.1
  have hts := SM.2.2.2.2
  have hinX2 : ∀ w ∈ u_ws RX2 TX2 4, w ∈ wsX2_takeBothWays := by decide +kernel
  have hlk21 : (Cond.fieldLink RX2 21 "DyckReachability$Edges" "size" "I").before _ sM = true := hts _ (by decide +kernel)
  have hlk15 : (Cond.fieldLink RX2 15 "DyckReachability$Edges" "targets" "[I").before _ sM = true := hts _ (by decide +kernel)
  have hlk9 : (Cond.fieldLink RX2 9 "DyckReachability$Edges" "sources" "[I").before _ sM = true := hts _ (by decide +kernel)
  have hlk18 : (Cond.fieldLink RX2 18 "DyckReachability$Edges" "labels" "[I").before _ sM = true := hts _ (by decide +kernel)
  have hl : lv_has ls 3 [(0, .ref e), (1, .ref e2)] := hl
  refine lv_aload_n hx hb dX2_takeBothWays_0 rfl (lv_at hl 0 rfl) ?_
  refine lv_aload_n hx hb dX2_takeBothWays_1 rfl (lv_at hl 1 rfl) ?_
  refine zVv (W1 := [(e, .inr (1, [.ref a1, .ref a2, .ref a3, .int (nI k)])), zA G a1 cap s, zA G a2 cap t, zA G a3 cap lb, (e2, .inr (1, [.ref b1, .ref b2, .ref b3, .int (nI k2)])), zA G b1 cap2 s2, zA G b2 cap2 t2, zA G b3 cap2 l2]) (W2 := [(e, .inr (1, [.ref a1, .ref a2, .ref a3, .int (nI k2)])), zA G a1 cap (zTk s s2 k2), zA G a2 cap (zTk t t2 k2), zA G a3 cap (zTk lb l2 k2), (e2, .inr (1, [.ref b1, .ref b2, .ref b3, .int (nI k2)])), zA G b1 cap2 s2, zA G b2 cap2 t2, zA G b3 cap2 l2]) (wr := []) (rest := []) SM (c_X2_take l G e a1 a2 a3 cap s t lb k e2 b1 b2 b3 cap2 s2 t2 l2 k2 (by first | assumption | omega) (by first | assumption | omega) (by first | assumption | omega) (by first | assumption | omega)) (cwV 1 hts gX2_takeBothWays_X2_take rfl rfl rfl (by decide +kernel) ⟨Nat.le_of_ble_eq_true rfl, Nat.le_of_ble_eq_true rfl⟩) hK hE hA hP hD hS hl.1 [0, 1, 2, 3, 4, 5, 6, 7] [] [0, 1, 2, 3, 4, 5, 6, 7] rfl rfl rfl (by decide) (ci := 1) rfl rfl rfl rfl rfl (Nat.le_of_ble_eq_true rfl) ⟨Nat.zero_le _, Nat.zero_le _⟩ dX2_takeBothWays_2 (fun H locs hP hD hS => ?_)
  refine lv_iconst (v := nI 0) hx hb dX2_takeBothWays_5 (by decide) ?_
  refine lv_istore_n (lv' := [(2, .int (nI 0)), (0, .ref e), (1, .ref e2)]) hx hb dX2_takeBothWays_6 rfl hl (by decide) rfl (fun ls hl => ?_)
  have lp7 : ∀ (n9 : Nat), ∀ (i : Nat), (i ≤ k2) → (k2 - i) < n9 → ∀ (H : Heap) (locs : List Loc) (ls : Array Slot), va_P G.1 vwCl [(e, .inr (1, [.ref a1, .ref a2, .ref a3, .int (nI (k2 + i))])), zA G a1 cap (zBw s s2 t2 k2 i), zA G a2 cap (zBw t t2 s2 k2 i), zA G a3 cap (zBw lb l2 (zOBs l2) k2 i), (e2, .inr (1, [.ref b1, .ref b2, .ref b3, .int (nI k2)])), zA G b1 cap2 s2, zA G b2 cap2 t2, zA G b3 cap2 l2] H → va_D AM [(e, .inr (1, [.ref a1, .ref a2, .ref a3, .int (nI (k2 + i))])), zA G a1 cap (zBw s s2 t2 k2 i), zA G a2 cap (zBw t t2 s2 k2 i), zA G a3 cap (zBw lb l2 (zOBs l2) k2 i), (e2, .inr (1, [.ref b1, .ref b2, .ref b3, .int (nI k2)])), zA G b1 cap2 s2, zA G b2 cap2 t2, zA G b3 cap2 l2] → va_S AM sM.heap H locs → lv_has ls 3 [(0, .ref e), (1, .ref e2), (2, .int (nI i))] → W pM l eM ({ frames := 3, cells := 0, slots := 0, locals := 65 }) sM mM (([.ref e, .ref e2] : List Value).toArray) bM tM cM H locs 0 0 QM (F0 mM 7 ls []) := by
    intro n9
    induction n9 with
    | zero =>
      intro _ _ h9
      exact absurd h9 (Nat.not_lt_zero _)
    | succ n9 ih9 =>
      intro i h1 hmu7 H locs ls hP hD hS hl
      have ih7 := ih9
      clear ih9
      refine lv_iload_n hx hb dX2_takeBothWays_7 rfl (lv_at hl 2 rfl) ?_
      refine lv_aload_n hx hb dX2_takeBothWays_8 rfl (lv_at hl 1 rfl) ?_
      refine va_get (D := G.1) (ci := 1) (v := .int (nI k2)) (C := RX2) (T := TX2) (N := 4) hx hb hts hinX2 hown hK hP 4 rfl rfl 3 (by decide) hlk21 (fun _ h9 => h9) rfl dX2_takeBothWays_9 ?_
      refine zn_ge (tgt := 46) hx hb dX2_takeBothWays_12 (by decide) (by omega) (by omega) (fun c_1 => ?_) (fun c_1 => ?_)
      · skip
        exact kret _ _ _ _ _ (by have hq9 : i = k2 := (by omega); subst hq9; rfl) hP hD hS dX2_takeBothWays_46
      · skip
        refine lv_aload_n hx hb dX2_takeBothWays_15 rfl (lv_at hl 0 rfl) ?_
        refine lv_aload_n hx hb dX2_takeBothWays_16 rfl (lv_at hl 1 rfl) ?_
        refine va_get (D := G.1) (ci := 1) (v := .ref b2) (C := RX2) (T := TX2) (N := 4) hx hb hts hinX2 hown hK hP 4 rfl rfl 1 (by decide) hlk15 (fun _ h9 => h9) rfl dX2_takeBothWays_17 ?_
        refine lv_iload_n hx hb dX2_takeBothWays_20 rfl (lv_at hl 2 rfl) ?_
        refine zi_ald hx hb hK hP 6 rfl (by omega) (by omega) dX2_takeBothWays_21 ?_
        refine lv_aload_n hx hb dX2_takeBothWays_22 rfl (lv_at hl 1 rfl) ?_
        refine va_get (D := G.1) (ci := 1) (v := .ref b1) (C := RX2) (T := TX2) (N := 4) hx hb hts hinX2 hown hK hP 4 rfl rfl 0 (by decide) hlk9 (fun _ h9 => h9) rfl dX2_takeBothWays_23 ?_
        refine lv_iload_n hx hb dX2_takeBothWays_26 rfl (lv_at hl 2 rfl) ?_
        refine zi_ald hx hb hK hP 5 rfl (by omega) (by omega) dX2_takeBothWays_27 ?_
        refine lv_aload_n hx hb dX2_takeBothWays_28 rfl (lv_at hl 1 rfl) ?_
        refine va_get (D := G.1) (ci := 1) (v := .ref b3) (C := RX2) (T := TX2) (N := 4) hx hb hts hinX2 hown hK hP 4 rfl rfl 2 (by decide) hlk18 (fun _ h9 => h9) rfl dX2_takeBothWays_29 ?_
        refine lv_iload_n hx hb dX2_takeBothWays_32 rfl (lv_at hl 2 rfl) ?_
        refine zi_ald hx hb hK hP 7 rfl (by omega) (by omega) dX2_takeBothWays_33 ?_
        have hb_2 := hl2 i
        refine zSi (W1 := [(e, .inr (1, [.ref a1, .ref a2, .ref a3, .int (nI (k2 + i))])), zA G a1 cap (zBw s s2 t2 k2 i), zA G a2 cap (zBw t t2 s2 k2 i), zA G a3 cap (zBw lb l2 (zOBs l2) k2 i), (e2, .inr (1, [.ref b1, .ref b2, .ref b3, .int (nI k2)])), zA G b1 cap2 s2, zA G b2 cap2 t2, zA G b3 cap2 l2]) (W2 := [(e, .inr (1, [.ref a1, .ref a2, .ref a3, .int (nI (k2 + i))])), zA G a1 cap (zBw s s2 t2 k2 i), zA G a2 cap (zBw t t2 s2 k2 i), zA G a3 cap (zBw lb l2 (zOBs l2) k2 i), (e2, .inr (1, [.ref b1, .ref b2, .ref b3, .int (nI k2)])), zA G b1 cap2 s2, zA G b2 cap2 t2, zA G b3 cap2 l2]) (wr := [(e, .inr (1, [.ref a1, .ref a2, .ref a3, .int (nI (k2 + i))])), zA G a1 cap (zBw s s2 t2 k2 i), zA G a2 cap (zBw t t2 s2 k2 i), zA G a3 cap (zBw lb l2 (zOBs l2) k2 i), (e2, .inr (1, [.ref b1, .ref b2, .ref b3, .int (nI k2)])), zA G b1 cap2 s2, zA G b2 cap2 t2, zA G b3 cap2 l2]) (rest := [.int (nI (s2 i)), .int (nI (t2 i)), .ref e]) SM (c_X2_otherBracket l G (l2 i) (by first | assumption | omega)) (va_cwS 1 hts gX2_takeBothWays_X2_otherBracket rfl rfl rfl (by decide +kernel) ⟨Nat.le_of_ble_eq_true rfl, Nat.le_of_ble_eq_true rfl⟩) hK hE hA hP hD hS hl.1 [] [0, 1, 2, 3, 4, 5, 6, 7] [0, 1, 2, 3, 4, 5, 6, 7] rfl rfl rfl (by decide) rfl rfl (Nat.le_of_ble_eq_true rfl) ⟨Nat.zero_le _, Nat.zero_le _⟩ dX2_takeBothWays_34 (fun H locs hP hD hS => ?_)
        refine zVv (W1 := [(e, .inr (1, [.ref a1, .ref a2, .ref a3, .int (nI (k2 + i))])), zA G a1 cap (zBw s s2 t2 k2 i), zA G a2 cap (zBw t t2 s2 k2 i), zA G a3 cap (zBw lb l2 (zOBs l2) k2 i), (e2, .inr (1, [.ref b1, .ref b2, .ref b3, .int (nI k2)])), zA G b1 cap2 s2, zA G b2 cap2 t2, zA G b3 cap2 l2]) (W2 := [(e, .inr (1, [.ref a1, .ref a2, .ref a3, .int (nI ((k2 + i) + 1))])), zA G a1 cap (zU (zBw s s2 t2 k2 i) (k2 + i) (t2 i)), zA G a2 cap (zU (zBw t t2 s2 k2 i) (k2 + i) (s2 i)), zA G a3 cap (zU (zBw lb l2 (zOBs l2) k2 i) (k2 + i) (zOB (l2 i))), (e2, .inr (1, [.ref b1, .ref b2, .ref b3, .int (nI k2)])), zA G b1 cap2 s2, zA G b2 cap2 t2, zA G b3 cap2 l2]) (wr := [(e2, .inr (1, [.ref b1, .ref b2, .ref b3, .int (nI k2)])), zA G b1 cap2 s2, zA G b2 cap2 t2, zA G b3 cap2 l2]) (rest := []) SM (c_X2_put_N l G e a1 a2 a3 cap (zBw s s2 t2 k2 i) (zBw t t2 s2 k2 i) (zBw lb l2 (zOBs l2) k2 i) (k2 + i) (t2 i) (s2 i) (zOB (l2 i)) (by first | assumption | omega) (by first | assumption | omega)) (cwV 3 hts gX2_takeBothWays_X2_put rfl rfl rfl (by decide +kernel) ⟨Nat.le_of_ble_eq_true rfl, Nat.le_of_ble_eq_true rfl⟩) hK hE hA hP hD hS hl.1 [0, 1, 2, 3] [4, 5, 6, 7] [4, 5, 6, 7, 0, 1, 2, 3] rfl rfl rfl (by decide) (ci := 1) rfl rfl rfl rfl rfl (Nat.le_of_ble_eq_true rfl) ⟨Nat.zero_le _, Nat.zero_le _⟩ dX2_takeBothWays_37 (fun H locs hP hD hS => ?_)
        refine lv_iinc (v := nI (i + 1)) (lv' := [(2, .int (nI (i + 1))), (0, .ref e), (1, .ref e2)]) hx hb dX2_takeBothWays_40 hl (k := 2) rfl (zinc i 1) (by decide) rfl (fun ls hl => ?_)
        refine lv_goto (tgt := 7) hx hb dX2_takeBothWays_43 (by decide) ?_
        have hP : va_P G.1 vwCl [(e, .inr (1, [.ref a1, .ref a2, .ref a3, .int (nI (k2 + (i + 1)))])), zA G a1 cap (zBw s s2 t2 k2 (i + 1)), zA G a2 cap (zBw t t2 s2 k2 (i + 1)), zA G a3 cap (zBw lb l2 (zOBs l2) k2 (i + 1)), (e2, .inr (1, [.ref b1, .ref b2, .ref b3, .int (nI k2)])), zA G b1 cap2 s2, zA G b2 cap2 t2, zA G b3 cap2 l2] H := by (simp only [zBw_step]); exact hP
        have hD : va_D AM [(e, .inr (1, [.ref a1, .ref a2, .ref a3, .int (nI (k2 + (i + 1)))])), zA G a1 cap (zBw s s2 t2 k2 (i + 1)), zA G a2 cap (zBw t t2 s2 k2 (i + 1)), zA G a3 cap (zBw lb l2 (zOBs l2) k2 (i + 1)), (e2, .inr (1, [.ref b1, .ref b2, .ref b3, .int (nI k2)])), zA G b1 cap2 s2, zA G b2 cap2 t2, zA G b3 cap2 l2] := by (simp only [zBw_step]); exact hD
        exact ih7 (i + 1) (by first | assumption | omega) (by omega) _ _ _ hP hD hS (lv_sub hl [1, 2, 0] rfl)
  have hP : va_P G.1 vwCl [(e, .inr (1, [.ref a1, .ref a2, .ref a3, .int (nI (k2 + 0))])), zA G a1 cap (zBw s s2 t2 k2 0), zA G a2 cap (zBw t t2 s2 k2 0), zA G a3 cap (zBw lb l2 (zOBs l2) k2 0), (e2, .inr (1, [.ref b1, .ref b2, .ref b3, .int (nI k2)])), zA G b1 cap2 s2, zA G b2 cap2 t2, zA G b3 cap2 l2] H := by (simp only [zBw_0]); exact hP
  have hD : va_D AM [(e, .inr (1, [.ref a1, .ref a2, .ref a3, .int (nI (k2 + 0))])), zA G a1 cap (zBw s s2 t2 k2 0), zA G a2 cap (zBw t t2 s2 k2 0), zA G a3 cap (zBw lb l2 (zOBs l2) k2 0), (e2, .inr (1, [.ref b1, .ref b2, .ref b3, .int (nI k2)])), zA G b1 cap2 s2, zA G b2 cap2 t2, zA G b3 cap2 l2] := by (simp only [zBw_0]); exact hD
  exact lp7 (k2 - 0 + 1) 0 (by first | assumption | omega) (Nat.lt_succ_self _) _ _ _ hP hD hS (lv_sub hl [1, 2, 0] rfl)
set_option maxHeartbeats 4000000 in
set_option maxRecDepth 100000 in
theorem c_X2_find (l : Launch) (G : zG) (e a1 a2 a3 : Nat) (cap : Nat) (s t lb : Nat → Nat) (k x y z : Nat) (hk : k ≤ cap) (hc : cap < 2147483648) (hx : x < 2147483648) (hy : y < 2147483648) (hz : z < 2147483648) (hbs : ∀ i, s i < 8) (hbt : ∀ i, t i < 8) (hlb : ∀ i, lb i < 7) : MI l yX2_find wsX2_find ({ frames := 0, cells := 0, slots := 0, locals := 0 }) G [.ref e, .int (nI x), .int (nI y), .int (nI z)] [(e, .inr (1, [.ref a1, .ref a2, .ref a3, .int (nI k)])), zA G a1 cap s, zA G a2 cap t, zA G a3 cap lb] (zOr9 (zFst (zHit s t lb x y z) k) k) [(e, .inr (1, [.ref a1, .ref a2, .ref a3, .int (nI k)])), zA G a1 cap s, zA G a2 cap t, zA G a3 cap lb] := by
  refine MI.enter (cc := cX2_find) (maxL := 5) (by decide) rfl (Nat.le_of_ble_eq_true rfl) rfl ?_
  intro pM eM sM mM bM tM cM QM AM ls hat kret
  obtain ⟨SM, hA, hK, hE, hP, hD, hS, hl⟩ := hat
  have hx := SM.1
  have hb := SM.2.1
  have hown : sM.vm.findClass RX2 = some mM.cls := SM.2.2.2.1
  have hts := SM.2.2.2.2
  have hinX2 : ∀ w ∈ u_ws RX2 TX2 4, w ∈ wsX2_find := by decide +kernel
  have hlk21 : (Cond.fieldLink RX2 21 "DyckReachability$Edges" "size" "I").before _ sM = true := hts _ (by decide +kernel)
  have hlk9 : (Cond.fieldLink RX2 9 "DyckReachability$Edges" "sources" "[I").before _ sM = true := hts _ (by decide +kernel)
  have hlk15 : (Cond.fieldLink RX2 15 "DyckReachability$Edges" "targets" "[I").before _ sM = true := hts _ (by decide +kernel)
  have hlk18 : (Cond.fieldLink RX2 18 "DyckReachability$Edges" "labels" "[I").before _ sM = true := hts _ (by decide +kernel)
  have hl : lv_has ls 5 [(0, .ref e), (1, .int (nI x)), (2, .int (nI y)), (3, .int (nI z))] := hl
  refine lv_iconst (v := nI 0) hx hb dX2_find_0 (by decide) ?_
  refine lv_istore (lv' := [(4, .int (nI 0)), (0, .ref e), (1, .int (nI x)), (2, .int (nI y)), (3, .int (nI z))]) hx hb dX2_find_1 hl (by decide) rfl (fun ls hl => ?_)
  have lp3 : ∀ (n9 : Nat), ∀ (i : Nat), (i ≤ k) → (∀ j, j < i → zHit s t lb x y z j = false) → (k - i) < n9 → ∀ (H : Heap) (locs : List Loc) (ls : Array Slot), va_P G.1 vwCl [(e, .inr (1, [.ref a1, .ref a2, .ref a3, .int (nI k)])), zA G a1 cap s, zA G a2 cap t, zA G a3 cap lb] H → va_D AM [(e, .inr (1, [.ref a1, .ref a2, .ref a3, .int (nI k)])), zA G a1 cap s, zA G a2 cap t, zA G a3 cap lb] → va_S AM sM.heap H locs → lv_has ls 5 [(0, .ref e), (1, .int (nI x)), (2, .int (nI y)), (3, .int (nI z)), (4, .int (nI i))] → W pM l eM ({ frames := 0, cells := 0, slots := 0, locals := 0 }) sM mM (([.ref e, .int (nI x), .int (nI y), .int (nI z)] : List Value).toArray) bM tM cM H locs 0 0 QM (F0 mM 3 ls []) := by
    intro n9
    induction n9 with
    | zero =>
      intro _ _ _ h9
      exact absurd h9 (Nat.not_lt_zero _)
    | succ n9 ih9 =>
      intro i h1 h2 hmu3 H locs ls hP hD hS hl
      have ih3 := ih9
      clear ih9
      refine lv_iload hx hb dX2_find_3 (lv_at hl 4 rfl) ?_
      refine lv_aload_n hx hb dX2_find_5 rfl (lv_at hl 0 rfl) ?_
      refine va_get (D := G.1) (ci := 1) (v := .int (nI k)) (C := RX2) (T := TX2) (N := 4) hx hb hts hinX2 hown hK hP 0 rfl rfl 3 (by decide) hlk21 (fun _ h9 => h9) rfl dX2_find_6 ?_
      refine zn_ge (tgt := 54) hx hb dX2_find_9 (by decide) (by omega) (by omega) (fun c_1 => ?_) (fun c_1 => ?_)
      · skip
        refine lv_bipush (v := (-9)) hx hb dX2_find_54 (by decide) ?_
        exact kret _ _ _ _ _ _ (by have hq9 : i = k := (by omega); subst hq9; rw [zFst_none h2, zOr9_ge (Nat.lt_irrefl _)]) rfl hP hD hS dX2_find_56
      · skip
        refine lv_aload_n hx hb dX2_find_12 rfl (lv_at hl 0 rfl) ?_
        refine va_get (D := G.1) (ci := 1) (v := .ref a1) (C := RX2) (T := TX2) (N := 4) hx hb hts hinX2 hown hK hP 0 rfl rfl 0 (by decide) hlk9 (fun _ h9 => h9) rfl dX2_find_13 ?_
        refine lv_iload hx hb dX2_find_16 (lv_at hl 4 rfl) ?_
        refine zi_ald hx hb hK hP 1 rfl (by omega) (by omega) dX2_find_18 ?_
        have hb_2 := hbs i
        refine lv_iload_n hx hb dX2_find_19 rfl (lv_at hl 1 rfl) ?_
        refine zn_ne (tgt := 48) hx hb dX2_find_20 (by decide) (by omega) (by omega) (fun c_3 => ?_) (fun c_3 => ?_)
        · skip
          refine lv_iinc (v := nI (i + 1)) (lv' := [(4, .int (nI (i + 1))), (0, .ref e), (1, .int (nI x)), (2, .int (nI y)), (3, .int (nI z))]) hx hb dX2_find_48 hl (k := 4) rfl (zinc i 1) (by decide) rfl (fun ls hl => ?_)
          refine lv_goto (tgt := 3) hx hb dX2_find_51 (by decide) ?_
          exact ih3 (i + 1) (by first | assumption | omega) (lt_s h2 (by simp only [zHit]; simp; omega)) (by omega) _ _ _ hP hD hS (lv_sub hl [1, 2, 3, 4, 0] rfl)
        · skip
          refine lv_aload_n hx hb dX2_find_23 rfl (lv_at hl 0 rfl) ?_
          refine va_get (D := G.1) (ci := 1) (v := .ref a2) (C := RX2) (T := TX2) (N := 4) hx hb hts hinX2 hown hK hP 0 rfl rfl 1 (by decide) hlk15 (fun _ h9 => h9) rfl dX2_find_24 ?_
          refine lv_iload hx hb dX2_find_27 (lv_at hl 4 rfl) ?_
          refine zi_ald hx hb hK hP 2 rfl (by omega) (by omega) dX2_find_29 ?_
          have hb_4 := hbt i
          refine lv_iload_n hx hb dX2_find_30 rfl (lv_at hl 2 rfl) ?_
          refine zn_ne (tgt := 48) hx hb dX2_find_31 (by decide) (by omega) (by omega) (fun c_5 => ?_) (fun c_5 => ?_)
          · skip
            refine lv_iinc (v := nI (i + 1)) (lv' := [(4, .int (nI (i + 1))), (0, .ref e), (1, .int (nI x)), (2, .int (nI y)), (3, .int (nI z))]) hx hb dX2_find_48 hl (k := 4) rfl (zinc i 1) (by decide) rfl (fun ls hl => ?_)
            refine lv_goto (tgt := 3) hx hb dX2_find_51 (by decide) ?_
            exact ih3 (i + 1) (by first | assumption | omega) (lt_s h2 (by simp only [zHit]; simp; omega)) (by omega) _ _ _ hP hD hS (lv_sub hl [1, 2, 3, 4, 0] rfl)
          · skip
            refine lv_aload_n hx hb dX2_find_34 rfl (lv_at hl 0 rfl) ?_
            refine va_get (D := G.1) (ci := 1) (v := .ref a3) (C := RX2) (T := TX2) (N := 4) hx hb hts hinX2 hown hK hP 0 rfl rfl 2 (by decide) hlk18 (fun _ h9 => h9) rfl dX2_find_35 ?_
            refine lv_iload hx hb dX2_find_38 (lv_at hl 4 rfl) ?_
            refine zi_ald hx hb hK hP 3 rfl (by omega) (by omega) dX2_find_40 ?_
            have hb_6 := hlb i
            refine lv_iload_n hx hb dX2_find_41 rfl (lv_at hl 3 rfl) ?_
            refine zn_ne (tgt := 48) hx hb dX2_find_42 (by decide) (by omega) (by omega) (fun c_7 => ?_) (fun c_7 => ?_)
            · skip
              refine lv_iinc (v := nI (i + 1)) (lv' := [(4, .int (nI (i + 1))), (0, .ref e), (1, .int (nI x)), (2, .int (nI y)), (3, .int (nI z))]) hx hb dX2_find_48 hl (k := 4) rfl (zinc i 1) (by decide) rfl (fun ls hl => ?_)
              refine lv_goto (tgt := 3) hx hb dX2_find_51 (by decide) ?_
              exact ih3 (i + 1) (by first | assumption | omega) (lt_s h2 (by simp only [zHit]; simp; omega)) (by omega) _ _ _ hP hD hS (lv_sub hl [1, 2, 3, 4, 0] rfl)
            · skip
              refine lv_iload hx hb dX2_find_45 (lv_at hl 4 rfl) ?_
              exact kret _ _ _ _ _ _ (by have hf := zFst_at h2 (show zHit s t lb x y z i = true by simp [zHit]; omega) (n := k) (by omega); rw [hf, zOr9_lt (by omega)]) rfl hP hD hS dX2_find_47
  exact lp3 (k - 0 + 1) 0 (by first | assumption | omega) (fun j hj => absurd hj (Nat.not_lt_zero j)) (Nat.lt_succ_self _) _ _ _ hP hD hS (lv_sub hl [1, 2, 3, 4, 0] rfl)
