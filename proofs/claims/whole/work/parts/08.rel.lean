set_option maxHeartbeats 4000000 in
set_option maxRecDepth 100000 in
theorem c_X6_row (l : Launch) (G : zG) (r u : Nat) (hr : r < 18446744073709551616) (hu : u < 8) : MI l yX6_row wsX6_row ({ frames := 0, cells := 0, slots := 0, locals := 0 }) G [.long (lN r), .int (nI u)] [] (nI (zRow r u)) [] := by
  refine MI.enter (cc := cX6_row) (maxL := 3) (by decide) rfl (Nat.le_of_ble_eq_true rfl) rfl ?_
  intro pM eM sM mM bM tM cM QM AM ls hat kret
  obtain ⟨SM, hA, hK, hE, hP, hD, hS, hl⟩ := hat
  have hx := SM.1
  have hb := SM.2.1
  have hown : sM.vm.findClass RX6 = some mM.cls := SM.2.2.2.1
  have hts := SM.2.2.2.2
  have hl : lv_has ls 3 [(0, .long (lN r)), (2, .int (nI u))] := hl
  refine lv_lload_n hx hb dX6_row_0 rfl (lv_at hl 0 rfl) ?_
  refine lv_bipush (v := nI 8) hx hb dX6_row_1 (by decide) ?_
  refine lv_iload_n hx hb dX6_row_3 rfl (lv_at hl 1 rfl) ?_
  refine zi_mul hx hb dX6_row_4 ?_
  refine zl_ushr hx hb dX6_row_5 (by omega) (by omega) ?_
  refine lv_l2i (v := nI (r / 2 ^ (8 * u))) hx hb dX6_row_6 (lN_i _) ?_
  refine lv_sipush (v := nI 255) hx hb dX6_row_7 (by decide) ?_
  refine zi_and255 hx hb dX6_row_10 ?_
  exact kret _ _ _ _ _ _ rfl rfl hP hD hS dX6_row_11
set_option maxHeartbeats 4000000 in
set_option maxRecDepth 100000 in
theorem c_X6_has (l : Launch) (G : zG) (r u v : Nat) (hr : r < 18446744073709551616) (hu : u < 8) (hv : v < 8) : MI l yX6_has wsX6_has ({ frames := 1, cells := 0, slots := 0, locals := 22 }) G [.long (lN r), .int (nI u), .int (nI v)] [] (bI (decide (zHas r u v))) [] := by
  refine MI.enter (cc := cX6_has) (maxL := 4) (by decide) rfl (Nat.le_of_ble_eq_true rfl) (bI_nar _) ?_
  intro pM eM sM mM bM tM cM QM AM ls hat kret
  obtain ⟨SM, hA, hK, hE, hP, hD, hS, hl⟩ := hat
  have hx := SM.1
  have hb := SM.2.1
  have hown : sM.vm.findClass RX6 = some mM.cls := SM.2.2.2.1
  have hts := SM.2.2.2.2
  have hl : lv_has ls 4 [(0, .long (lN r)), (2, .int (nI u)), (3, .int (nI v))] := hl
  refine lv_lload_n hx hb dX6_has_0 rfl (lv_at hl 0 rfl) ?_
  refine lv_iload_n hx hb dX6_has_1 rfl (lv_at hl 1 rfl) ?_
  refine zSi (W1 := []) (W2 := []) (wr := []) (rest := []) SM (c_X6_row l G r u (by first | assumption | omega) (by first | assumption | omega)) (va_cwS 2 hts gX6_has_X6_row rfl rfl rfl (by decide +kernel) ⟨Nat.le_of_ble_eq_true rfl, Nat.le_of_ble_eq_true rfl⟩) hK hE hA hP hD hS hl.1 [] [] [] rfl rfl rfl (by decide) rfl rfl (Nat.le_of_ble_eq_true rfl) ⟨Nat.zero_le _, Nat.zero_le _⟩ dX6_has_2 (fun H locs hP hD hS => ?_)
  refine lv_iload_n hx hb dX6_has_5 rfl (lv_at hl 2 rfl) ?_
  have hrl := zRow_lt r u
  refine zi_shr hx hb dX6_has_6 (by omega) (by omega) ?_
  refine lv_iconst (v := nI 1) hx hb dX6_has_7 (by decide) ?_
  refine zi_and1 hx hb dX6_has_8 ?_
  refine zd_eq (a := (((zRow r u) / 2 ^ v) % 2 : Nat)) (tgt := 16) hx hb dX6_has_9 (by decide) (zI (by omega)) (fun c_1 => ?_) (fun c_1 => ?_)
  · skip
    refine lv_iconst (v := nI 0) hx hb dX6_has_16 (by decide) ?_
    exact kret _ _ _ _ _ _ (bI_f (by omega)) rfl hP hD hS dX6_has_17
  · skip
    refine lv_iconst (v := nI 1) hx hb dX6_has_12 (by decide) ?_
    refine lv_goto (tgt := 17) hx hb dX6_has_13 (by decide) ?_
    exact kret _ _ _ _ _ _ (bI_t (by omega)) rfl hP hD hS dX6_has_17
set_option maxHeartbeats 4000000 in
set_option maxRecDepth 100000 in
theorem c_X6_withRow (l : Launch) (G : zG) (r u x : Nat) (hu : u < 8) (hx : x < 256) : ML l yX6_withRow wsX6_withRow ({ frames := 0, cells := 0, slots := 0, locals := 0 }) G [.long (lN r), .int (nI u), .int (nI x)] [] (lN (zWr r u x)) [] := by
  refine ML.enter (cc := cX6_withRow) (maxL := 4) (by decide) rfl (Nat.le_of_ble_eq_true rfl) ?_
  intro pM eM sM mM bM tM cM QM AM ls hat kret
  obtain ⟨SM, hA, hK, hE, hP, hD, hS, hl⟩ := hat
  have hx := SM.1
  have hb := SM.2.1
  have hown : sM.vm.findClass RX6 = some mM.cls := SM.2.2.2.1
  have hts := SM.2.2.2.2
  have hl : lv_has ls 4 [(0, .long (lN r)), (2, .int (nI u)), (3, .int (nI x))] := hl
  refine lv_lload_n hx hb dX6_withRow_0 rfl (lv_at hl 0 rfl) ?_
  refine lv_iload_n hx hb dX6_withRow_1 rfl (lv_at hl 2 rfl) ?_
  refine lv_i2l (v := lN x) hx hb dX6_withRow_2 (nI_l (by omega)) ?_
  refine lv_bipush (v := nI 8) hx hb dX6_withRow_3 (by decide) ?_
  refine lv_iload_n hx hb dX6_withRow_5 rfl (lv_at hl 1 rfl) ?_
  refine zi_mul hx hb dX6_withRow_6 ?_
  refine zl_shl hx hb dX6_withRow_7 (by omega) ?_
  refine zl_or hx hb dX6_withRow_8 ?_
  exact kret _ _ _ _ _ _ rfl rfl hP hD hS dX6_withRow_9
set_option maxHeartbeats 4000000 in
set_option maxRecDepth 100000 in
theorem c_X6_identity (l : Launch) (G : zG) (V : Nat) (hV : V ≤ 8) : ML l yX6_identity wsX6_identity ({ frames := 1, cells := 0, slots := 0, locals := 23 }) G [.int (nI V)] [] (lN (zId V)) [] := by
  refine ML.enter (cc := cX6_identity) (maxL := 4) (by decide) rfl (Nat.le_of_ble_eq_true rfl) ?_
  intro pM eM sM mM bM tM cM QM AM ls hat kret
  obtain ⟨SM, hA, hK, hE, hP, hD, hS, hl⟩ := hat
  have hx := SM.1
  have hb := SM.2.1
  have hown : sM.vm.findClass RX6 = some mM.cls := SM.2.2.2.1
  have hts := SM.2.2.2.2
  have hl : lv_has ls 4 [(0, .int (nI V))] := hl
  refine lv_lconst (v := lN 0) hx hb dX6_identity_0 (by decide) ?_
  refine lv_lstore_n (lv' := [(1, .long (lN 0)), (0, .int (nI V))]) hx hb dX6_identity_1 rfl hl (by decide) rfl (fun ls hl => ?_)
  refine lv_iconst (v := nI 0) hx hb dX6_identity_2 (by decide) ?_
  refine lv_istore_n (lv' := [(3, .int (nI 0)), (1, .long (lN 0)), (0, .int (nI V))]) hx hb dX6_identity_3 rfl hl (by decide) rfl (fun ls hl => ?_)
  have lp4 : ∀ (n9 : Nat), ∀ (u r : Nat), (u ≤ V) → (r = zIt zIdF u 0) → (r < 18446744073709551616) → (V - u) < n9 → ∀ (H : Heap) (locs : List Loc) (ls : Array Slot), va_P G.1 vwCl [] H → va_D AM [] → va_S AM sM.heap H locs → lv_has ls 4 [(0, .int (nI V)), (1, .long (lN r)), (3, .int (nI u))] → W pM l eM ({ frames := 1, cells := 0, slots := 0, locals := 23 }) sM mM (([.int (nI V)] : List Value).toArray) bM tM cM H locs 0 0 QM (F0 mM 4 ls []) := by
    intro n9
    induction n9 with
    | zero =>
      intro _ _ _ _ _ h9
      exact absurd h9 (Nat.not_lt_zero _)
    | succ n9 ih9 =>
      intro u r h1 hr hb1 hmu4 H locs ls hP hD hS hl
      have ih4 := ih9
      clear ih9
      refine lv_iload_n hx hb dX6_identity_4 rfl (lv_at hl 2 rfl) ?_
      refine lv_iload_n hx hb dX6_identity_5 rfl (lv_at hl 0 rfl) ?_
      refine zn_ge (tgt := 24) hx hb dX6_identity_6 (by decide) (by omega) (by omega) (fun c_1 => ?_) (fun c_1 => ?_)
      · skip
        refine lv_lload_n hx hb dX6_identity_24 rfl (lv_at hl 1 rfl) ?_
        exact kret _ _ _ _ _ _ (congrArg lN (by have hq9 : u = V := (by omega); subst hq9; exact hr)) rfl hP hD hS dX6_identity_25
      · skip
        refine lv_lload_n hx hb dX6_identity_9 rfl (lv_at hl 1 rfl) ?_
        refine lv_iload_n hx hb dX6_identity_10 rfl (lv_at hl 2 rfl) ?_
        refine lv_iconst (v := nI 1) hx hb dX6_identity_11 (by decide) ?_
        refine lv_iload_n hx hb dX6_identity_12 rfl (lv_at hl 2 rfl) ?_
        refine zi_shl1 hx hb dX6_identity_13 (by omega) ?_
        have hp2 := z2p u (by omega)
        refine zSl (W1 := []) (W2 := []) (wr := []) (rest := []) SM (c_X6_withRow l G r u (2 ^ u) (by first | assumption | omega) (by first | assumption | omega)) (va_cwS 3 hts gX6_identity_X6_withRow rfl rfl rfl (by decide +kernel) ⟨Nat.le_of_ble_eq_true rfl, Nat.le_of_ble_eq_true rfl⟩) hK hE hA hP hD hS hl.1 [] [] [] rfl rfl rfl (by decide) rfl rfl (Nat.le_of_ble_eq_true rfl) ⟨Nat.zero_le _, Nat.zero_le _⟩ dX6_identity_14 (fun H locs hP hD hS => ?_)
        refine lv_lstore_n (lv' := [(1, .long (lN (zWr r u (2 ^ u)))), (0, .int (nI V)), (3, .int (nI u))]) hx hb dX6_identity_17 rfl hl (by decide) rfl (fun ls hl => ?_)
        refine lv_iinc (v := nI (u + 1)) (lv' := [(3, .int (nI (u + 1))), (1, .long (lN (zWr r u (2 ^ u)))), (0, .int (nI V))]) hx hb dX6_identity_18 hl (k := 2) rfl (zinc u 1) (by decide) rfl (fun ls hl => ?_)
        refine lv_goto (tgt := 4) hx hb dX6_identity_21 (by decide) ?_
        exact ih4 (u + 1) (zWr r u (2 ^ u)) (by first | assumption | omega) (by rw [zIt_s, ← hr] <;> rfl) (zIdF_lt (by omega) hb1) (by omega) _ _ _ hP hD hS (lv_sub hl [2, 1, 0] rfl)
  exact lp4 (V - 0 + 1) 0 0 (by first | assumption | omega) rfl (by decide) (Nat.lt_succ_self _) _ _ _ hP hD hS (lv_sub hl [2, 1, 0] rfl)
set_option maxHeartbeats 4000000 in
set_option maxRecDepth 100000 in
theorem c_X6_withPathsBehind (l : Launch) (G : zG) (j r : Nat) (e a1 a2 a3 : Nat) (cap : Nat) (s t lb : Nat → Nat) (k : Nat) (hr : r < 18446744073709551616) (hj : j < k) (hk : k ≤ cap) (hc : cap < 2147483648) (hbs : ∀ i, s i < 8) (hbt : ∀ i, t i < 8) (hlb : ∀ i, lb i < 7) : ML l yX6_withPathsBehind wsX6_withPathsBehind ({ frames := 2, cells := 0, slots := 0, locals := 45 }) G [.int (nI j), .long (lN r), .ref e] [(e, .inr (1, [.ref a1, .ref a2, .ref a3, .int (nI k)])), zA G a1 cap s, zA G a2 cap t, zA G a3 cap lb] (lN (zPb s t lb k j r)) [(e, .inr (1, [.ref a1, .ref a2, .ref a3, .int (nI k)])), zA G a1 cap s, zA G a2 cap t, zA G a3 cap lb] := by
  refine ML.enter (cc := cX6_withPathsBehind) (maxL := 9) (by decide) rfl (Nat.le_of_ble_eq_true rfl) ?_
  intro pM eM sM mM bM tM cM QM AM ls hat kret
  obtain ⟨SM, hA, hK, hE, hP, hD, hS, hl⟩ := hat
  have hx := SM.1
  have hb := SM.2.1
  have hown : sM.vm.findClass RX6 = some mM.cls := SM.2.2.2.1
  have hts := SM.2.2.2.2
  have hinX2 : ∀ w ∈ u_ws RX2 TX2 4, w ∈ wsX6_withPathsBehind := by decide +kernel
  have hlk33 : (Cond.fieldLink RX6 33 "DyckReachability$Edges" "sources" "[I").before _ sM = true := hts _ (by decide +kernel)
  have hlk37 : (Cond.fieldLink RX6 37 "DyckReachability$Edges" "targets" "[I").before _ sM = true := hts _ (by decide +kernel)
  have hlk23 : (Cond.fieldLink RX6 23 "DyckReachability$Edges" "size" "I").before _ sM = true := hts _ (by decide +kernel)
  have hl : lv_has ls 9 [(0, .int (nI j)), (1, .long (lN r)), (3, .ref e)] := hl
  refine lv_aload_n hx hb dX6_withPathsBehind_0 rfl (lv_at hl 2 rfl) ?_
  refine va_get (D := G.1) (ci := 1) (v := .ref a1) (C := RX2) (T := TX2) (N := 4) hx hb hts hinX2 hown hK hP 0 rfl rfl 0 (by decide) hlk33 (fun _ h9 => h9) rfl dX6_withPathsBehind_1 ?_
  refine lv_iload_n hx hb dX6_withPathsBehind_4 rfl (lv_at hl 0 rfl) ?_
  refine zi_ald hx hb hK hP 1 rfl (by omega) (by omega) dX6_withPathsBehind_5 ?_
  have hb_1 := hbs j
  refine lv_istore (lv' := [(4, .int (nI (s j))), (0, .int (nI j)), (1, .long (lN r)), (3, .ref e)]) hx hb dX6_withPathsBehind_6 hl (by decide) rfl (fun ls hl => ?_)
  refine lv_aload_n hx hb dX6_withPathsBehind_8 rfl (lv_at hl 3 rfl) ?_
  refine va_get (D := G.1) (ci := 1) (v := .ref a2) (C := RX2) (T := TX2) (N := 4) hx hb hts hinX2 hown hK hP 0 rfl rfl 1 (by decide) hlk37 (fun _ h9 => h9) rfl dX6_withPathsBehind_9 ?_
  refine lv_iload_n hx hb dX6_withPathsBehind_12 rfl (lv_at hl 1 rfl) ?_
  refine zi_ald hx hb hK hP 2 rfl (by omega) (by omega) dX6_withPathsBehind_13 ?_
  have hb_2 := hbt j
  refine lv_istore (lv' := [(5, .int (nI (t j))), (4, .int (nI (s j))), (0, .int (nI j)), (1, .long (lN r)), (3, .ref e)]) hx hb dX6_withPathsBehind_14 hl (by decide) rfl (fun ls hl => ?_)
  refine lv_aload_n hx hb dX6_withPathsBehind_16 rfl (lv_at hl 4 rfl) ?_
  refine lv_iload_n hx hb dX6_withPathsBehind_17 rfl (lv_at hl 2 rfl) ?_
  refine zVi (W1 := [(e, .inr (1, [.ref a1, .ref a2, .ref a3, .int (nI k)])), zA G a1 cap s, zA G a2 cap t, zA G a3 cap lb]) (W2 := [(e, .inr (1, [.ref a1, .ref a2, .ref a3, .int (nI k)])), zA G a1 cap s, zA G a2 cap t, zA G a3 cap lb]) (wr := [zA G a1 cap s, zA G a2 cap t]) (rest := []) SM (c_X2_isEmptyLabelled l G e a1 a2 a3 cap lb k j (by first | assumption | omega) (by first | assumption | omega) (by first | assumption | omega)) (cwV 1 hts gX6_withPathsBehind_X2_isEmptyLabelled rfl rfl rfl (by decide +kernel) ⟨Nat.le_of_ble_eq_true rfl, Nat.le_of_ble_eq_true rfl⟩) hK hE hA hP hD hS hl.1 [0, 3] [1, 2] [2, 0, 1, 3] rfl rfl rfl (by decide) (ci := 1) rfl rfl rfl rfl rfl (Nat.le_of_ble_eq_true rfl) ⟨Nat.zero_le _, Nat.zero_le _⟩ dX6_withPathsBehind_18 (fun H locs hP hD hS => ?_)
  refine zb_eq (tgt := 37) hx hb dX6_withPathsBehind_21 (by decide) (fun c_3 => ?_) (fun c_3 => ?_)
  · skip
    refine lv_aload_n hx hb dX6_withPathsBehind_37 rfl (lv_at hl 4 rfl) ?_
    refine lv_iload_n hx hb dX6_withPathsBehind_38 rfl (lv_at hl 2 rfl) ?_
    refine zVi (W1 := [(e, .inr (1, [.ref a1, .ref a2, .ref a3, .int (nI k)])), zA G a1 cap s, zA G a2 cap t, zA G a3 cap lb]) (W2 := [(e, .inr (1, [.ref a1, .ref a2, .ref a3, .int (nI k)])), zA G a1 cap s, zA G a2 cap t, zA G a3 cap lb]) (wr := [zA G a1 cap s, zA G a2 cap t]) (rest := []) SM (c_X2_opens l G e a1 a2 a3 cap lb k j (by first | assumption | omega) (by first | assumption | omega) (by first | assumption | omega)) (cwV 1 hts gX6_withPathsBehind_X2_opens rfl rfl rfl (by decide +kernel) ⟨Nat.le_of_ble_eq_true rfl, Nat.le_of_ble_eq_true rfl⟩) hK hE hA hP hD hS hl.1 [0, 3] [1, 2] [2, 0, 1, 3] rfl rfl rfl (by decide) (ci := 1) rfl rfl rfl rfl rfl (Nat.le_of_ble_eq_true rfl) ⟨Nat.zero_le _, Nat.zero_le _⟩ dX6_withPathsBehind_39 (fun H locs hP hD hS => ?_)
    refine zb_ne (tgt := 47) hx hb dX6_withPathsBehind_42 (by decide) (fun c_4 => ?_) (fun c_4 => ?_)
    · skip
      refine lv_lload_n hx hb dX6_withPathsBehind_47 rfl (lv_at hl 3 rfl) ?_
      refine lv_lstore (lv' := [(6, .long (lN r)), (5, .int (nI (t j))), (4, .int (nI (s j))), (0, .int (nI j)), (1, .long (lN r)), (3, .ref e)]) hx hb dX6_withPathsBehind_48 hl (by decide) rfl (fun ls hl => ?_)
      refine lv_iconst (v := nI 0) hx hb dX6_withPathsBehind_50 (by decide) ?_
      refine lv_istore (lv' := [(8, .int (nI 0)), (6, .long (lN r)), (5, .int (nI (t j))), (4, .int (nI (s j))), (0, .int (nI j)), (1, .long (lN r)), (3, .ref e)]) hx hb dX6_withPathsBehind_51 hl (by decide) rfl (fun ls hl => ?_)
      have lp53 : ∀ (n9 : Nat), ∀ (c q : Nat), (c ≤ k) → (q = zIt (zCl s t lb j) c r) → (q < 18446744073709551616) → (k - c) < n9 → ∀ (H : Heap) (locs : List Loc) (ls : Array Slot), va_P G.1 vwCl [(e, .inr (1, [.ref a1, .ref a2, .ref a3, .int (nI k)])), zA G a1 cap s, zA G a2 cap t, zA G a3 cap lb] H → va_D AM [(e, .inr (1, [.ref a1, .ref a2, .ref a3, .int (nI k)])), zA G a1 cap s, zA G a2 cap t, zA G a3 cap lb] → va_S AM sM.heap H locs → lv_has ls 9 [(0, .int (nI j)), (1, .long (lN r)), (3, .ref e), (4, .int (nI (s j))), (5, .int (nI (t j))), (6, .long (lN q)), (8, .int (nI c))] → W pM l eM ({ frames := 2, cells := 0, slots := 0, locals := 45 }) sM mM (([.int (nI j), .long (lN r), .ref e] : List Value).toArray) bM tM cM H locs 0 0 QM (F0 mM 53 ls []) := by
        intro n9
        induction n9 with
        | zero =>
          intro _ _ _ _ _ h9
          exact absurd h9 (Nat.not_lt_zero _)
        | succ n9 ih9 =>
          intro c q h1 hq hb1 hmu53 H locs ls hP hD hS hl
          have ih53 := ih9
          clear ih9
          refine lv_iload hx hb dX6_withPathsBehind_53 (lv_at hl 6 rfl) ?_
          refine lv_aload_n hx hb dX6_withPathsBehind_55 rfl (lv_at hl 2 rfl) ?_
          refine va_get (D := G.1) (ci := 1) (v := .int (nI k)) (C := RX2) (T := TX2) (N := 4) hx hb hts hinX2 hown hK hP 0 rfl rfl 3 (by decide) hlk23 (fun _ h9 => h9) rfl dX6_withPathsBehind_56 ?_
          refine zn_ge (tgt := 116) hx hb dX6_withPathsBehind_59 (by decide) (by omega) (by omega) (fun c_5 => ?_) (fun c_5 => ?_)
          · skip
            refine lv_lload hx hb dX6_withPathsBehind_116 (lv_at hl 5 rfl) ?_
            exact kret _ _ _ _ _ _ (congrArg lN (by have hq9 : c = k := (by omega); subst hq9; unfold zPb; rw [if_neg (by assumption), if_pos (by assumption)]; exact hq)) rfl hP hD hS dX6_withPathsBehind_118
          · skip
            refine lv_aload_n hx hb dX6_withPathsBehind_62 rfl (lv_at hl 2 rfl) ?_
            refine lv_iload hx hb dX6_withPathsBehind_63 (lv_at hl 6 rfl) ?_
            refine lv_iload_n hx hb dX6_withPathsBehind_65 rfl (lv_at hl 0 rfl) ?_
            refine zVi (W1 := [(e, .inr (1, [.ref a1, .ref a2, .ref a3, .int (nI k)])), zA G a1 cap s, zA G a2 cap t, zA G a3 cap lb]) (W2 := [(e, .inr (1, [.ref a1, .ref a2, .ref a3, .int (nI k)])), zA G a1 cap s, zA G a2 cap t, zA G a3 cap lb]) (wr := [zA G a1 cap s, zA G a2 cap t]) (rest := []) SM (c_X2_closes l G e a1 a2 a3 cap lb k c j (by first | assumption | omega) (by first | assumption | omega) (by first | assumption | omega) (by first | assumption | omega)) (cwV 2 hts gX6_withPathsBehind_X2_closes rfl rfl rfl (by decide +kernel) ⟨Nat.le_of_ble_eq_true rfl, Nat.le_of_ble_eq_true rfl⟩) hK hE hA hP hD hS hl.1 [0, 3] [1, 2] [2, 0, 1, 3] rfl rfl rfl (by decide) (ci := 1) rfl rfl rfl rfl rfl (Nat.le_of_ble_eq_true rfl) ⟨Nat.zero_le _, Nat.zero_le _⟩ dX6_withPathsBehind_66 (fun H locs hP hD hS => ?_)
            refine zb_eq (tgt := 110) hx hb dX6_withPathsBehind_69 (by decide) (fun c_6 => ?_) (fun c_6 => ?_)
            · skip
              refine lv_iinc (v := nI (c + 1)) (lv' := [(8, .int (nI (c + 1))), (0, .int (nI j)), (1, .long (lN r)), (3, .ref e), (4, .int (nI (s j))), (5, .int (nI (t j))), (6, .long (lN q))]) hx hb dX6_withPathsBehind_110 hl (k := 6) rfl (zinc c 1) (by decide) rfl (fun ls hl => ?_)
              refine lv_goto (tgt := 53) hx hb dX6_withPathsBehind_113 (by decide) ?_
              exact ih53 (c + 1) q (by first | assumption | omega) (by rw [zIt_s, ← hq]; unfold zCl; split <;> first | rfl | (exfalso; omega)) (by first | exact hb1 | exact zWr_lt hb1 (by omega) (by omega)) (by omega) _ _ _ hP hD hS (lv_sub hl [1, 2, 3, 4, 5, 6, 0] rfl)
            · skip
              refine lv_lload hx hb dX6_withPathsBehind_72 (lv_at hl 5 rfl) ?_
              refine lv_iload hx hb dX6_withPathsBehind_74 (lv_at hl 4 rfl) ?_
              refine lv_aload_n hx hb dX6_withPathsBehind_76 rfl (lv_at hl 2 rfl) ?_
              refine va_get (D := G.1) (ci := 1) (v := .ref a1) (C := RX2) (T := TX2) (N := 4) hx hb hts hinX2 hown hK hP 0 rfl rfl 0 (by decide) hlk33 (fun _ h9 => h9) rfl dX6_withPathsBehind_77 ?_
              refine lv_iload hx hb dX6_withPathsBehind_80 (lv_at hl 6 rfl) ?_
              refine zi_ald hx hb hK hP 1 rfl (by omega) (by omega) dX6_withPathsBehind_82 ?_
              have hb_7 := hbs c
              refine zSi (W1 := [(e, .inr (1, [.ref a1, .ref a2, .ref a3, .int (nI k)])), zA G a1 cap s, zA G a2 cap t, zA G a3 cap lb]) (W2 := [(e, .inr (1, [.ref a1, .ref a2, .ref a3, .int (nI k)])), zA G a1 cap s, zA G a2 cap t, zA G a3 cap lb]) (wr := [(e, .inr (1, [.ref a1, .ref a2, .ref a3, .int (nI k)])), zA G a1 cap s, zA G a2 cap t, zA G a3 cap lb]) (rest := []) SM (c_X6_has l G q (t j) (s c) (by first | assumption | omega) (by first | assumption | omega) (by first | assumption | omega)) (va_cwS 3 hts gX6_withPathsBehind_X6_has rfl rfl rfl (by decide +kernel) ⟨Nat.le_of_ble_eq_true rfl, Nat.le_of_ble_eq_true rfl⟩) hK hE hA hP hD hS hl.1 [] [0, 1, 2, 3] [0, 1, 2, 3] rfl rfl rfl (by decide) rfl rfl (Nat.le_of_ble_eq_true rfl) ⟨Nat.zero_le _, Nat.zero_le _⟩ dX6_withPathsBehind_83 (fun H locs hP hD hS => ?_)
              refine zb_eq (tgt := 110) hx hb dX6_withPathsBehind_86 (by decide) (fun c_8 => ?_) (fun c_8 => ?_)
              · skip
                refine lv_iinc (v := nI (c + 1)) (lv' := [(8, .int (nI (c + 1))), (0, .int (nI j)), (1, .long (lN r)), (3, .ref e), (4, .int (nI (s j))), (5, .int (nI (t j))), (6, .long (lN q))]) hx hb dX6_withPathsBehind_110 hl (k := 6) rfl (zinc c 1) (by decide) rfl (fun ls hl => ?_)
                refine lv_goto (tgt := 53) hx hb dX6_withPathsBehind_113 (by decide) ?_
                exact ih53 (c + 1) q (by first | assumption | omega) (by rw [zIt_s, ← hq]; unfold zCl; split <;> first | rfl | (exfalso; omega)) (by first | exact hb1 | exact zWr_lt hb1 (by omega) (by omega)) (by omega) _ _ _ hP hD hS (lv_sub hl [1, 2, 3, 4, 5, 6, 0] rfl)
              · skip
                refine lv_lload hx hb dX6_withPathsBehind_89 (lv_at hl 5 rfl) ?_
                refine lv_iload hx hb dX6_withPathsBehind_91 (lv_at hl 3 rfl) ?_
                refine lv_lload hx hb dX6_withPathsBehind_93 (lv_at hl 5 rfl) ?_
                refine lv_aload_n hx hb dX6_withPathsBehind_95 rfl (lv_at hl 2 rfl) ?_
                refine va_get (D := G.1) (ci := 1) (v := .ref a2) (C := RX2) (T := TX2) (N := 4) hx hb hts hinX2 hown hK hP 0 rfl rfl 1 (by decide) hlk37 (fun _ h9 => h9) rfl dX6_withPathsBehind_96 ?_
                refine lv_iload hx hb dX6_withPathsBehind_99 (lv_at hl 6 rfl) ?_
                refine zi_ald hx hb hK hP 2 rfl (by omega) (by omega) dX6_withPathsBehind_101 ?_
                have hb_9 := hbt c
                refine zSi (W1 := [(e, .inr (1, [.ref a1, .ref a2, .ref a3, .int (nI k)])), zA G a1 cap s, zA G a2 cap t, zA G a3 cap lb]) (W2 := [(e, .inr (1, [.ref a1, .ref a2, .ref a3, .int (nI k)])), zA G a1 cap s, zA G a2 cap t, zA G a3 cap lb]) (wr := [(e, .inr (1, [.ref a1, .ref a2, .ref a3, .int (nI k)])), zA G a1 cap s, zA G a2 cap t, zA G a3 cap lb]) (rest := [.int (nI (s j)), .long (lN q)]) SM (c_X6_row l G q (t c) (by first | assumption | omega) (by first | assumption | omega)) (va_cwS 2 hts gX6_withPathsBehind_X6_row rfl rfl rfl (by decide +kernel) ⟨Nat.le_of_ble_eq_true rfl, Nat.le_of_ble_eq_true rfl⟩) hK hE hA hP hD hS hl.1 [] [0, 1, 2, 3] [0, 1, 2, 3] rfl rfl rfl (by decide) rfl rfl (Nat.le_of_ble_eq_true rfl) ⟨Nat.zero_le _, Nat.zero_le _⟩ dX6_withPathsBehind_102 (fun H locs hP hD hS => ?_)
                have hrl := zRow_lt q (t c)
                refine zSl (W1 := [(e, .inr (1, [.ref a1, .ref a2, .ref a3, .int (nI k)])), zA G a1 cap s, zA G a2 cap t, zA G a3 cap lb]) (W2 := [(e, .inr (1, [.ref a1, .ref a2, .ref a3, .int (nI k)])), zA G a1 cap s, zA G a2 cap t, zA G a3 cap lb]) (wr := [(e, .inr (1, [.ref a1, .ref a2, .ref a3, .int (nI k)])), zA G a1 cap s, zA G a2 cap t, zA G a3 cap lb]) (rest := []) SM (c_X6_withRow l G q (s j) (zRow q (t c)) (by first | assumption | omega) (by first | assumption | omega)) (va_cwS 3 hts gX6_withPathsBehind_X6_withRow rfl rfl rfl (by decide +kernel) ⟨Nat.le_of_ble_eq_true rfl, Nat.le_of_ble_eq_true rfl⟩) hK hE hA hP hD hS hl.1 [] [0, 1, 2, 3] [0, 1, 2, 3] rfl rfl rfl (by decide) rfl rfl (Nat.le_of_ble_eq_true rfl) ⟨Nat.zero_le _, Nat.zero_le _⟩ dX6_withPathsBehind_105 (fun H locs hP hD hS => ?_)
                refine lv_lstore (lv' := [(6, .long (lN (zWr q (s j) (zRow q (t c))))), (0, .int (nI j)), (1, .long (lN r)), (3, .ref e), (4, .int (nI (s j))), (5, .int (nI (t j))), (8, .int (nI c))]) hx hb dX6_withPathsBehind_108 hl (by decide) rfl (fun ls hl => ?_)
                refine lv_iinc (v := nI (c + 1)) (lv' := [(8, .int (nI (c + 1))), (6, .long (lN (zWr q (s j) (zRow q (t c))))), (0, .int (nI j)), (1, .long (lN r)), (3, .ref e), (4, .int (nI (s j))), (5, .int (nI (t j)))]) hx hb dX6_withPathsBehind_110 hl (k := 6) rfl (zinc c 1) (by decide) rfl (fun ls hl => ?_)
                refine lv_goto (tgt := 53) hx hb dX6_withPathsBehind_113 (by decide) ?_
                exact ih53 (c + 1) (zWr q (s j) (zRow q (t c))) (by first | assumption | omega) (by rw [zIt_s, ← hq]; unfold zCl; split <;> first | rfl | (exfalso; omega)) (by first | exact hb1 | exact zWr_lt hb1 (by omega) (by omega)) (by omega) _ _ _ hP hD hS (lv_sub hl [2, 3, 4, 5, 6, 1, 0] rfl)
      exact lp53 (k - 0 + 1) 0 r (by first | assumption | omega) rfl (by first | assumption | omega) (Nat.lt_succ_self _) _ _ _ hP hD hS (lv_sub hl [4, 5, 6, 3, 2, 1, 0] rfl)
    · skip
      refine lv_lload_n hx hb dX6_withPathsBehind_45 rfl (lv_at hl 3 rfl) ?_
      exact kret _ _ _ _ _ _ (congrArg lN (by unfold zPb; rw [if_neg (by assumption), if_neg (by assumption)])) rfl hP hD hS dX6_withPathsBehind_46
  · skip
    refine lv_lload_n hx hb dX6_withPathsBehind_24 rfl (lv_at hl 3 rfl) ?_
    refine lv_iload hx hb dX6_withPathsBehind_25 (lv_at hl 1 rfl) ?_
    refine lv_lload_n hx hb dX6_withPathsBehind_27 rfl (lv_at hl 3 rfl) ?_
    refine lv_iload hx hb dX6_withPathsBehind_28 (lv_at hl 0 rfl) ?_
    refine zSi (W1 := [(e, .inr (1, [.ref a1, .ref a2, .ref a3, .int (nI k)])), zA G a1 cap s, zA G a2 cap t, zA G a3 cap lb]) (W2 := [(e, .inr (1, [.ref a1, .ref a2, .ref a3, .int (nI k)])), zA G a1 cap s, zA G a2 cap t, zA G a3 cap lb]) (wr := [(e, .inr (1, [.ref a1, .ref a2, .ref a3, .int (nI k)])), zA G a1 cap s, zA G a2 cap t, zA G a3 cap lb]) (rest := [.int (nI (s j)), .long (lN r)]) SM (c_X6_row l G r (t j) (by first | assumption | omega) (by first | assumption | omega)) (va_cwS 2 hts gX6_withPathsBehind_X6_row rfl rfl rfl (by decide +kernel) ⟨Nat.le_of_ble_eq_true rfl, Nat.le_of_ble_eq_true rfl⟩) hK hE hA hP hD hS hl.1 [] [0, 1, 2, 3] [0, 1, 2, 3] rfl rfl rfl (by decide) rfl rfl (Nat.le_of_ble_eq_true rfl) ⟨Nat.zero_le _, Nat.zero_le _⟩ dX6_withPathsBehind_30 (fun H locs hP hD hS => ?_)
    have hrl := zRow_lt r (t j)
    refine zSl (W1 := [(e, .inr (1, [.ref a1, .ref a2, .ref a3, .int (nI k)])), zA G a1 cap s, zA G a2 cap t, zA G a3 cap lb]) (W2 := [(e, .inr (1, [.ref a1, .ref a2, .ref a3, .int (nI k)])), zA G a1 cap s, zA G a2 cap t, zA G a3 cap lb]) (wr := [(e, .inr (1, [.ref a1, .ref a2, .ref a3, .int (nI k)])), zA G a1 cap s, zA G a2 cap t, zA G a3 cap lb]) (rest := []) SM (c_X6_withRow l G r (s j) (zRow r (t j)) (by first | assumption | omega) (by first | assumption | omega)) (va_cwS 3 hts gX6_withPathsBehind_X6_withRow rfl rfl rfl (by decide +kernel) ⟨Nat.le_of_ble_eq_true rfl, Nat.le_of_ble_eq_true rfl⟩) hK hE hA hP hD hS hl.1 [] [0, 1, 2, 3] [0, 1, 2, 3] rfl rfl rfl (by decide) rfl rfl (Nat.le_of_ble_eq_true rfl) ⟨Nat.zero_le _, Nat.zero_le _⟩ dX6_withPathsBehind_33 (fun H locs hP hD hS => ?_)
    exact kret _ _ _ _ _ _ (congrArg lN (by unfold zPb; rw [if_pos (by assumption)])) rfl hP hD hS dX6_withPathsBehind_36
set_option maxHeartbeats 4000000 in
set_option maxRecDepth 100000 in
theorem c_X6_ofBalancedPaths (l : Launch) (G : zG) (e a1 a2 a3 : Nat) (cap : Nat) (s t lb : Nat → Nat) (k : Nat) (V : Nat) (hV : V ≤ 8) (hk : k ≤ cap) (hc : cap < 2147483648) (hbs : ∀ i, s i < 8) (hbt : ∀ i, t i < 8) (hlb : ∀ i, lb i < 7) : ML l yX6_ofBalancedPaths wsX6_ofBalancedPaths ({ frames := 3, cells := 0, slots := 0, locals := 73 }) G [.ref e, .int (nI V)] [(e, .inr (1, [.ref a1, .ref a2, .ref a3, .int (nI k)])), zA G a1 cap s, zA G a2 cap t, zA G a3 cap lb] (lN (zBp s t lb k V)) [(e, .inr (1, [.ref a1, .ref a2, .ref a3, .int (nI k)])), zA G a1 cap s, zA G a2 cap t, zA G a3 cap lb] := by
  refine ML.enter (cc := cX6_ofBalancedPaths) (maxL := 8) (by decide) rfl (Nat.le_of_ble_eq_true rfl) ?_
  intro pM eM sM mM bM tM cM QM AM ls hat kret
  obtain ⟨SM, hA, hK, hE, hP, hD, hS, hl⟩ := hat
  have hx := SM.1
  have hb := SM.2.1
  have hown : sM.vm.findClass RX6 = some mM.cls := SM.2.2.2.1
  have hts := SM.2.2.2.2
  have hinX2 : ∀ w ∈ u_ws RX2 TX2 4, w ∈ wsX6_ofBalancedPaths := by decide +kernel
  have hlk23 : (Cond.fieldLink RX6 23 "DyckReachability$Edges" "size" "I").before _ sM = true := hts _ (by decide +kernel)
  have hl : lv_has ls 8 [(0, .ref e), (1, .int (nI V))] := hl
  refine lv_iload_n hx hb dX6_ofBalancedPaths_0 rfl (lv_at hl 1 rfl) ?_
  refine zSl (W1 := [(e, .inr (1, [.ref a1, .ref a2, .ref a3, .int (nI k)])), zA G a1 cap s, zA G a2 cap t, zA G a3 cap lb]) (W2 := [(e, .inr (1, [.ref a1, .ref a2, .ref a3, .int (nI k)])), zA G a1 cap s, zA G a2 cap t, zA G a3 cap lb]) (wr := [(e, .inr (1, [.ref a1, .ref a2, .ref a3, .int (nI k)])), zA G a1 cap s, zA G a2 cap t, zA G a3 cap lb]) (rest := []) SM (c_X6_identity l G V (by first | assumption | omega)) (va_cwS 1 hts gX6_ofBalancedPaths_X6_identity rfl rfl rfl (by decide +kernel) ⟨Nat.le_of_ble_eq_true rfl, Nat.le_of_ble_eq_true rfl⟩) hK hE hA hP hD hS hl.1 [] [0, 1, 2, 3] [0, 1, 2, 3] rfl rfl rfl (by decide) rfl rfl (Nat.le_of_ble_eq_true rfl) ⟨Nat.zero_le _, Nat.zero_le _⟩ dX6_ofBalancedPaths_1 (fun H locs hP hD hS => ?_)
  refine lv_lstore_n (lv' := [(2, .long (lN (zId V))), (0, .ref e), (1, .int (nI V))]) hx hb dX6_ofBalancedPaths_4 rfl hl (by decide) rfl (fun ls hl => ?_)
  refine lv_iconst (v := nI 0) hx hb dX6_ofBalancedPaths_5 (by decide) ?_
  refine lv_istore (lv' := [(4, .int (nI 0)), (2, .long (lN (zId V))), (0, .ref e), (1, .int (nI V))]) hx hb dX6_ofBalancedPaths_6 hl (by decide) rfl (fun ls hl => ?_)
  have lp8 : ∀ (n9 : Nat), ∀ (i r : Nat), (i ≤ 65) → (r = zIt (fun _ => zRd s t lb k) i (zId V)) → (r < 18446744073709551616) → (65 - i) < n9 → ∀ (H : Heap) (locs : List Loc) (ls : Array Slot), va_P G.1 vwCl [(e, .inr (1, [.ref a1, .ref a2, .ref a3, .int (nI k)])), zA G a1 cap s, zA G a2 cap t, zA G a3 cap lb] H → va_D AM [(e, .inr (1, [.ref a1, .ref a2, .ref a3, .int (nI k)])), zA G a1 cap s, zA G a2 cap t, zA G a3 cap lb] → va_S AM sM.heap H locs → lv_has ls 8 [(0, .ref e), (1, .int (nI V)), (2, .long (lN r)), (4, .int (nI i))] → W pM l eM ({ frames := 3, cells := 0, slots := 0, locals := 73 }) sM mM (([.ref e, .int (nI V)] : List Value).toArray) bM tM cM H locs 0 0 QM (F0 mM 8 ls []) := by
    intro n9
    induction n9 with
    | zero =>
      intro _ _ _ _ _ h9
      exact absurd h9 (Nat.not_lt_zero _)
    | succ n9 ih9 =>
      intro i r h1 hr hb1 hmu8 H locs ls hP hD hS hl
      have ih8 := ih9
      clear ih9
      refine lv_iload hx hb dX6_ofBalancedPaths_8 (lv_at hl 3 rfl) ?_
      refine lv_bipush (v := nI 64) hx hb dX6_ofBalancedPaths_10 (by decide) ?_
      refine zn_gt (tgt := 60) hx hb dX6_ofBalancedPaths_12 (by decide) (by omega) (by omega) (fun c_1 => ?_) (fun c_1 => ?_)
      · skip
        refine lv_lload_n hx hb dX6_ofBalancedPaths_60 rfl (lv_at hl 2 rfl) ?_
        exact kret _ _ _ _ _ _ (congrArg lN (by first | (exact zBp_brk hr (by omega) hq (by assumption) (by omega)) | (have hq9 : i = 65 := (by omega); subst hq9; exact hr))) rfl hP hD hS dX6_ofBalancedPaths_61
      · skip
        refine lv_lload_n hx hb dX6_ofBalancedPaths_15 rfl (lv_at hl 2 rfl) ?_
        refine lv_lstore (lv' := [(5, .long (lN r)), (0, .ref e), (1, .int (nI V)), (2, .long (lN r)), (4, .int (nI i))]) hx hb dX6_ofBalancedPaths_16 hl (by decide) rfl (fun ls hl => ?_)
        refine lv_iconst (v := nI 0) hx hb dX6_ofBalancedPaths_18 (by decide) ?_
        refine lv_istore (lv' := [(7, .int (nI 0)), (5, .long (lN r)), (0, .ref e), (1, .int (nI V)), (2, .long (lN r)), (4, .int (nI i))]) hx hb dX6_ofBalancedPaths_19 hl (by decide) rfl (fun ls hl => ?_)
        have lp21 : ∀ (n9 : Nat), ∀ (j q : Nat), (j ≤ k) → (q = zIt (zPb s t lb k) j r) → (q < 18446744073709551616) → (k - j) < n9 → ∀ (H : Heap) (locs : List Loc) (ls : Array Slot), va_P G.1 vwCl [(e, .inr (1, [.ref a1, .ref a2, .ref a3, .int (nI k)])), zA G a1 cap s, zA G a2 cap t, zA G a3 cap lb] H → va_D AM [(e, .inr (1, [.ref a1, .ref a2, .ref a3, .int (nI k)])), zA G a1 cap s, zA G a2 cap t, zA G a3 cap lb] → va_S AM sM.heap H locs → lv_has ls 8 [(0, .ref e), (1, .int (nI V)), (2, .long (lN q)), (4, .int (nI i)), (5, .long (lN r)), (7, .int (nI j))] → W pM l eM ({ frames := 3, cells := 0, slots := 0, locals := 73 }) sM mM (([.ref e, .int (nI V)] : List Value).toArray) bM tM cM H locs 0 0 QM (F0 mM 21 ls []) := by
          intro n9
          induction n9 with
          | zero =>
            intro _ _ _ _ _ h9
            exact absurd h9 (Nat.not_lt_zero _)
          | succ n9 ih9 =>
            intro j q h2 hq hb2 hmu21 H locs ls hP hD hS hl
            have ih21 := ih9
            clear ih9
            refine lv_iload hx hb dX6_ofBalancedPaths_21 (lv_at hl 5 rfl) ?_
            refine lv_aload_n hx hb dX6_ofBalancedPaths_23 rfl (lv_at hl 0 rfl) ?_
            refine va_get (D := G.1) (ci := 1) (v := .int (nI k)) (C := RX2) (T := TX2) (N := 4) hx hb hts hinX2 hown hK hP 0 rfl rfl 3 (by decide) hlk23 (fun _ h9 => h9) rfl dX6_ofBalancedPaths_24 ?_
            refine zn_ge (tgt := 44) hx hb dX6_ofBalancedPaths_27 (by decide) (by omega) (by omega) (fun c_2 => ?_) (fun c_2 => ?_)
            · skip
              refine lv_lload_n hx hb dX6_ofBalancedPaths_44 rfl (lv_at hl 2 rfl) ?_
              refine lv_lload hx hb dX6_ofBalancedPaths_45 (lv_at hl 4 rfl) ?_
              refine zll_ne (tgt := 54) hx hb dX6_ofBalancedPaths_47 dX6_ofBalancedPaths_48 (by decide) (by omega) (by omega) (fun c_3 => ?_) (fun c_3 => ?_)
              · skip
                refine lv_iinc (v := nI (i + 1)) (lv' := [(4, .int (nI (i + 1))), (0, .ref e), (1, .int (nI V)), (2, .long (lN q)), (5, .long (lN r)), (7, .int (nI j))]) hx hb dX6_ofBalancedPaths_54 hl (k := 3) rfl (zinc i 1) (by decide) rfl (fun ls hl => ?_)
                refine lv_goto (tgt := 8) hx hb dX6_ofBalancedPaths_57 (by decide) ?_
                exact ih8 (i + 1) q (by first | assumption | omega) (by have hq9 : j = k := (by omega); subst hq9; rw [zIt_s, ← hr]; exact hq) hb2 (by omega) _ _ _ hP hD hS (lv_sub hl [1, 2, 3, 0] rfl)
              · skip
                refine lv_goto (tgt := 60) hx hb dX6_ofBalancedPaths_51 (by decide) ?_
                refine lv_lload_n hx hb dX6_ofBalancedPaths_60 rfl (lv_at hl 2 rfl) ?_
                exact kret _ _ _ _ _ _ (congrArg lN (by first | (exact zBp_brk hr (by omega) hq (by assumption) (by omega)) | (have hq9 : i = 65 := (by omega); subst hq9; exact hr))) rfl hP hD hS dX6_ofBalancedPaths_61
            · skip
              refine lv_iload hx hb dX6_ofBalancedPaths_30 (lv_at hl 5 rfl) ?_
              refine lv_lload_n hx hb dX6_ofBalancedPaths_32 rfl (lv_at hl 2 rfl) ?_
              refine lv_aload_n hx hb dX6_ofBalancedPaths_33 rfl (lv_at hl 0 rfl) ?_
              refine zSl (W1 := [(e, .inr (1, [.ref a1, .ref a2, .ref a3, .int (nI k)])), zA G a1 cap s, zA G a2 cap t, zA G a3 cap lb]) (W2 := [(e, .inr (1, [.ref a1, .ref a2, .ref a3, .int (nI k)])), zA G a1 cap s, zA G a2 cap t, zA G a3 cap lb]) (wr := []) (rest := []) SM (c_X6_withPathsBehind l G j q e a1 a2 a3 cap s t lb k (by first | assumption | omega) (by first | assumption | omega) (by first | assumption | omega) (by first | assumption | omega) (by first | assumption | omega) (by first | assumption | omega) (by first | assumption | omega)) (va_cwS 3 hts gX6_ofBalancedPaths_X6_withPathsBehind rfl rfl rfl (by decide +kernel) ⟨Nat.le_of_ble_eq_true rfl, Nat.le_of_ble_eq_true rfl⟩) hK hE hA hP hD hS hl.1 [0, 1, 2, 3] [] [0, 1, 2, 3] rfl rfl rfl (by decide) rfl rfl (Nat.le_of_ble_eq_true rfl) ⟨Nat.zero_le _, Nat.zero_le _⟩ dX6_ofBalancedPaths_34 (fun H locs hP hD hS => ?_)
              refine lv_lstore_n (lv' := [(2, .long (lN (zPb s t lb k j q))), (0, .ref e), (1, .int (nI V)), (4, .int (nI i)), (5, .long (lN r)), (7, .int (nI j))]) hx hb dX6_ofBalancedPaths_37 rfl hl (by decide) rfl (fun ls hl => ?_)
              refine lv_iinc (v := nI (j + 1)) (lv' := [(7, .int (nI (j + 1))), (2, .long (lN (zPb s t lb k j q))), (0, .ref e), (1, .int (nI V)), (4, .int (nI i)), (5, .long (lN r))]) hx hb dX6_ofBalancedPaths_38 hl (k := 5) rfl (zinc j 1) (by decide) rfl (fun ls hl => ?_)
              refine lv_goto (tgt := 21) hx hb dX6_ofBalancedPaths_41 (by decide) ?_
              exact ih21 (j + 1) (zPb s t lb k j q) (by first | assumption | omega) (by rw [zIt_s, ← hq]) (zPb_lt hbs hb2) (by omega) _ _ _ hP hD hS (lv_sub hl [2, 3, 1, 4, 5, 0] rfl)
        exact lp21 (k - 0 + 1) 0 r (by first | assumption | omega) rfl (by first | assumption | omega) (Nat.lt_succ_self _) _ _ _ hP hD hS (lv_sub hl [2, 3, 4, 5, 1, 0] rfl)
  exact lp8 (65 - 0 + 1) 0 (zId V) (by first | assumption | omega) rfl (zId_lt hV) (Nat.lt_succ_self _) _ _ _ hP hD hS (lv_sub hl [2, 3, 1, 0] rfl)
set_option maxHeartbeats 4000000 in
set_option maxRecDepth 100000 in
theorem c_X6_stepsBy (l : Launch) (G : zG) (j r : Nat) (e a1 a2 a3 : Nat) (cap : Nat) (s t lb : Nat → Nat) (k : Nat) (hr : r < 18446744073709551616) (hj : j < k) (hk : k ≤ cap) (hc : cap < 2147483648) (hbs : ∀ i, s i < 8) (hbt : ∀ i, t i < 8) (hlb : ∀ i, lb i < 7) : MI l yX6_stepsBy wsX6_stepsBy ({ frames := 2, cells := 0, slots := 0, locals := 45 }) G [.int (nI j), .long (lN r), .ref e] [(e, .inr (1, [.ref a1, .ref a2, .ref a3, .int (nI k)])), zA G a1 cap s, zA G a2 cap t, zA G a3 cap lb] (nI (zSb s t lb k j r)) [(e, .inr (1, [.ref a1, .ref a2, .ref a3, .int (nI k)])), zA G a1 cap s, zA G a2 cap t, zA G a3 cap lb] := by
  refine MI.enter (cc := cX6_stepsBy) (maxL := 7) (by decide) rfl (Nat.le_of_ble_eq_true rfl) rfl ?_
  intro pM eM sM mM bM tM cM QM AM ls hat kret
  obtain ⟨SM, hA, hK, hE, hP, hD, hS, hl⟩ := hat
  have hx := SM.1
  have hb := SM.2.1
  have hown : sM.vm.findClass RX6 = some mM.cls := SM.2.2.2.1
  have hts := SM.2.2.2.2
  have hinX2 : ∀ w ∈ u_ws RX2 TX2 4, w ∈ wsX6_stepsBy := by decide +kernel
  have hlk37 : (Cond.fieldLink RX6 37 "DyckReachability$Edges" "targets" "[I").before _ sM = true := hts _ (by decide +kernel)
  have hlk23 : (Cond.fieldLink RX6 23 "DyckReachability$Edges" "size" "I").before _ sM = true := hts _ (by decide +kernel)
  have hlk33 : (Cond.fieldLink RX6 33 "DyckReachability$Edges" "sources" "[I").before _ sM = true := hts _ (by decide +kernel)
  have hl : lv_has ls 7 [(0, .int (nI j)), (1, .long (lN r)), (3, .ref e)] := hl
  refine lv_aload_n hx hb dX6_stepsBy_0 rfl (lv_at hl 2 rfl) ?_
  refine va_get (D := G.1) (ci := 1) (v := .ref a2) (C := RX2) (T := TX2) (N := 4) hx hb hts hinX2 hown hK hP 0 rfl rfl 1 (by decide) hlk37 (fun _ h9 => h9) rfl dX6_stepsBy_1 ?_
  refine lv_iload_n hx hb dX6_stepsBy_4 rfl (lv_at hl 0 rfl) ?_
  refine zi_ald hx hb hK hP 2 rfl (by omega) (by omega) dX6_stepsBy_5 ?_
  have hb_1 := hbt j
  refine lv_istore (lv' := [(4, .int (nI (t j))), (0, .int (nI j)), (1, .long (lN r)), (3, .ref e)]) hx hb dX6_stepsBy_6 hl (by decide) rfl (fun ls hl => ?_)
  refine lv_aload_n hx hb dX6_stepsBy_8 rfl (lv_at hl 3 rfl) ?_
  refine lv_iload_n hx hb dX6_stepsBy_9 rfl (lv_at hl 1 rfl) ?_
  refine zVi (W1 := [(e, .inr (1, [.ref a1, .ref a2, .ref a3, .int (nI k)])), zA G a1 cap s, zA G a2 cap t, zA G a3 cap lb]) (W2 := [(e, .inr (1, [.ref a1, .ref a2, .ref a3, .int (nI k)])), zA G a1 cap s, zA G a2 cap t, zA G a3 cap lb]) (wr := [zA G a1 cap s, zA G a2 cap t]) (rest := []) SM (c_X2_isEmptyLabelled l G e a1 a2 a3 cap lb k j (by first | assumption | omega) (by first | assumption | omega) (by first | assumption | omega)) (cwV 1 hts gX6_stepsBy_X2_isEmptyLabelled rfl rfl rfl (by decide +kernel) ⟨Nat.le_of_ble_eq_true rfl, Nat.le_of_ble_eq_true rfl⟩) hK hE hA hP hD hS hl.1 [0, 3] [1, 2] [2, 0, 1, 3] rfl rfl rfl (by decide) (ci := 1) rfl rfl rfl rfl rfl (Nat.le_of_ble_eq_true rfl) ⟨Nat.zero_le _, Nat.zero_le _⟩ dX6_stepsBy_10 (fun H locs hP hD hS => ?_)
  refine zb_eq (tgt := 21) hx hb dX6_stepsBy_13 (by decide) (fun c_2 => ?_) (fun c_2 => ?_)
  · skip
    refine lv_aload_n hx hb dX6_stepsBy_21 rfl (lv_at hl 3 rfl) ?_
    refine lv_iload_n hx hb dX6_stepsBy_22 rfl (lv_at hl 1 rfl) ?_
    refine zVi (W1 := [(e, .inr (1, [.ref a1, .ref a2, .ref a3, .int (nI k)])), zA G a1 cap s, zA G a2 cap t, zA G a3 cap lb]) (W2 := [(e, .inr (1, [.ref a1, .ref a2, .ref a3, .int (nI k)])), zA G a1 cap s, zA G a2 cap t, zA G a3 cap lb]) (wr := [zA G a1 cap s, zA G a2 cap t]) (rest := []) SM (c_X2_opens l G e a1 a2 a3 cap lb k j (by first | assumption | omega) (by first | assumption | omega) (by first | assumption | omega)) (cwV 1 hts gX6_stepsBy_X2_opens rfl rfl rfl (by decide +kernel) ⟨Nat.le_of_ble_eq_true rfl, Nat.le_of_ble_eq_true rfl⟩) hK hE hA hP hD hS hl.1 [0, 3] [1, 2] [2, 0, 1, 3] rfl rfl rfl (by decide) (ci := 1) rfl rfl rfl rfl rfl (Nat.le_of_ble_eq_true rfl) ⟨Nat.zero_le _, Nat.zero_le _⟩ dX6_stepsBy_23 (fun H locs hP hD hS => ?_)
    refine zb_ne (tgt := 31) hx hb dX6_stepsBy_26 (by decide) (fun c_3 => ?_) (fun c_3 => ?_)
    · skip
      refine lv_iconst (v := nI 0) hx hb dX6_stepsBy_31 (by decide) ?_
      refine lv_istore (lv' := [(5, .int (nI 0)), (4, .int (nI (t j))), (0, .int (nI j)), (1, .long (lN r)), (3, .ref e)]) hx hb dX6_stepsBy_32 hl (by decide) rfl (fun ls hl => ?_)
      refine lv_iconst (v := nI 0) hx hb dX6_stepsBy_34 (by decide) ?_
      refine lv_istore (lv' := [(6, .int (nI 0)), (5, .int (nI 0)), (4, .int (nI (t j))), (0, .int (nI j)), (1, .long (lN r)), (3, .ref e)]) hx hb dX6_stepsBy_35 hl (by decide) rfl (fun ls hl => ?_)
      have lp37 : ∀ (n9 : Nat), ∀ (c x : Nat), (c ≤ k) → (x = zIt (zSbC s t lb j r) c 0) → (x < 256) → (k - c) < n9 → ∀ (H : Heap) (locs : List Loc) (ls : Array Slot), va_P G.1 vwCl [(e, .inr (1, [.ref a1, .ref a2, .ref a3, .int (nI k)])), zA G a1 cap s, zA G a2 cap t, zA G a3 cap lb] H → va_D AM [(e, .inr (1, [.ref a1, .ref a2, .ref a3, .int (nI k)])), zA G a1 cap s, zA G a2 cap t, zA G a3 cap lb] → va_S AM sM.heap H locs → lv_has ls 7 [(0, .int (nI j)), (1, .long (lN r)), (3, .ref e), (4, .int (nI (t j))), (5, .int (nI x)), (6, .int (nI c))] → W pM l eM ({ frames := 2, cells := 0, slots := 0, locals := 45 }) sM mM (([.int (nI j), .long (lN r), .ref e] : List Value).toArray) bM tM cM H locs 0 0 QM (F0 mM 37 ls []) := by
        intro n9
        induction n9 with
        | zero =>
          intro _ _ _ _ _ h9
          exact absurd h9 (Nat.not_lt_zero _)
        | succ n9 ih9 =>
          intro c x h1 hq hb1 hmu37 H locs ls hP hD hS hl
          have ih37 := ih9
          clear ih9
          refine lv_iload hx hb dX6_stepsBy_37 (lv_at hl 5 rfl) ?_
          refine lv_aload_n hx hb dX6_stepsBy_39 rfl (lv_at hl 2 rfl) ?_
          refine va_get (D := G.1) (ci := 1) (v := .int (nI k)) (C := RX2) (T := TX2) (N := 4) hx hb hts hinX2 hown hK hP 0 rfl rfl 3 (by decide) hlk23 (fun _ h9 => h9) rfl dX6_stepsBy_40 ?_
          refine zn_ge (tgt := 92) hx hb dX6_stepsBy_43 (by decide) (by omega) (by omega) (fun c_4 => ?_) (fun c_4 => ?_)
          · skip
            refine lv_iload hx hb dX6_stepsBy_92 (lv_at hl 4 rfl) ?_
            exact kret _ _ _ _ _ _ (congrArg nI (by have hq9 : c = k := (by omega); subst hq9; unfold zSb; rw [if_neg (by assumption), if_pos (by assumption)]; exact hq)) rfl hP hD hS dX6_stepsBy_94
          · skip
            refine lv_aload_n hx hb dX6_stepsBy_46 rfl (lv_at hl 2 rfl) ?_
            refine lv_iload hx hb dX6_stepsBy_47 (lv_at hl 5 rfl) ?_
            refine lv_iload_n hx hb dX6_stepsBy_49 rfl (lv_at hl 0 rfl) ?_
            refine zVi (W1 := [(e, .inr (1, [.ref a1, .ref a2, .ref a3, .int (nI k)])), zA G a1 cap s, zA G a2 cap t, zA G a3 cap lb]) (W2 := [(e, .inr (1, [.ref a1, .ref a2, .ref a3, .int (nI k)])), zA G a1 cap s, zA G a2 cap t, zA G a3 cap lb]) (wr := [zA G a1 cap s, zA G a2 cap t]) (rest := []) SM (c_X2_closes l G e a1 a2 a3 cap lb k c j (by first | assumption | omega) (by first | assumption | omega) (by first | assumption | omega) (by first | assumption | omega)) (cwV 2 hts gX6_stepsBy_X2_closes rfl rfl rfl (by decide +kernel) ⟨Nat.le_of_ble_eq_true rfl, Nat.le_of_ble_eq_true rfl⟩) hK hE hA hP hD hS hl.1 [0, 3] [1, 2] [2, 0, 1, 3] rfl rfl rfl (by decide) (ci := 1) rfl rfl rfl rfl rfl (Nat.le_of_ble_eq_true rfl) ⟨Nat.zero_le _, Nat.zero_le _⟩ dX6_stepsBy_50 (fun H locs hP hD hS => ?_)
            refine zb_eq (tgt := 86) hx hb dX6_stepsBy_53 (by decide) (fun c_5 => ?_) (fun c_5 => ?_)
            · skip
              refine lv_iinc (v := nI (c + 1)) (lv' := [(6, .int (nI (c + 1))), (0, .int (nI j)), (1, .long (lN r)), (3, .ref e), (4, .int (nI (t j))), (5, .int (nI x))]) hx hb dX6_stepsBy_86 hl (k := 5) rfl (zinc c 1) (by decide) rfl (fun ls hl => ?_)
              refine lv_goto (tgt := 37) hx hb dX6_stepsBy_89 (by decide) ?_
              exact ih37 (c + 1) x (by first | assumption | omega) (by rw [zIt_s, ← hq]; unfold zSbC; split <;> first | rfl | (exfalso; omega)) (by first | exact hb1 | exact Nat.or_lt_two_pow (n := 8) hb1 hp2) (by omega) _ _ _ hP hD hS (lv_sub hl [1, 2, 3, 4, 5, 0] rfl)
            · skip
              refine lv_lload_n hx hb dX6_stepsBy_56 rfl (lv_at hl 1 rfl) ?_
              refine lv_iload hx hb dX6_stepsBy_57 (lv_at hl 3 rfl) ?_
              refine lv_aload_n hx hb dX6_stepsBy_59 rfl (lv_at hl 2 rfl) ?_
              refine va_get (D := G.1) (ci := 1) (v := .ref a1) (C := RX2) (T := TX2) (N := 4) hx hb hts hinX2 hown hK hP 0 rfl rfl 0 (by decide) hlk33 (fun _ h9 => h9) rfl dX6_stepsBy_60 ?_
              refine lv_iload hx hb dX6_stepsBy_63 (lv_at hl 5 rfl) ?_
              refine zi_ald hx hb hK hP 1 rfl (by omega) (by omega) dX6_stepsBy_65 ?_
              have hb_6 := hbs c
              refine zSi (W1 := [(e, .inr (1, [.ref a1, .ref a2, .ref a3, .int (nI k)])), zA G a1 cap s, zA G a2 cap t, zA G a3 cap lb]) (W2 := [(e, .inr (1, [.ref a1, .ref a2, .ref a3, .int (nI k)])), zA G a1 cap s, zA G a2 cap t, zA G a3 cap lb]) (wr := [(e, .inr (1, [.ref a1, .ref a2, .ref a3, .int (nI k)])), zA G a1 cap s, zA G a2 cap t, zA G a3 cap lb]) (rest := []) SM (c_X6_has l G r (t j) (s c) (by first | assumption | omega) (by first | assumption | omega) (by first | assumption | omega)) (va_cwS 3 hts gX6_stepsBy_X6_has rfl rfl rfl (by decide +kernel) ⟨Nat.le_of_ble_eq_true rfl, Nat.le_of_ble_eq_true rfl⟩) hK hE hA hP hD hS hl.1 [] [0, 1, 2, 3] [0, 1, 2, 3] rfl rfl rfl (by decide) rfl rfl (Nat.le_of_ble_eq_true rfl) ⟨Nat.zero_le _, Nat.zero_le _⟩ dX6_stepsBy_66 (fun H locs hP hD hS => ?_)
              refine zb_eq (tgt := 86) hx hb dX6_stepsBy_69 (by decide) (fun c_7 => ?_) (fun c_7 => ?_)
              · skip
                refine lv_iinc (v := nI (c + 1)) (lv' := [(6, .int (nI (c + 1))), (0, .int (nI j)), (1, .long (lN r)), (3, .ref e), (4, .int (nI (t j))), (5, .int (nI x))]) hx hb dX6_stepsBy_86 hl (k := 5) rfl (zinc c 1) (by decide) rfl (fun ls hl => ?_)
                refine lv_goto (tgt := 37) hx hb dX6_stepsBy_89 (by decide) ?_
                exact ih37 (c + 1) x (by first | assumption | omega) (by rw [zIt_s, ← hq]; unfold zSbC; split <;> first | rfl | (exfalso; omega)) (by first | exact hb1 | exact Nat.or_lt_two_pow (n := 8) hb1 hp2) (by omega) _ _ _ hP hD hS (lv_sub hl [1, 2, 3, 4, 5, 0] rfl)
              · skip
                refine lv_iload hx hb dX6_stepsBy_72 (lv_at hl 4 rfl) ?_
                refine lv_iconst (v := nI 1) hx hb dX6_stepsBy_74 (by decide) ?_
                refine lv_aload_n hx hb dX6_stepsBy_75 rfl (lv_at hl 2 rfl) ?_
                refine va_get (D := G.1) (ci := 1) (v := .ref a2) (C := RX2) (T := TX2) (N := 4) hx hb hts hinX2 hown hK hP 0 rfl rfl 1 (by decide) hlk37 (fun _ h9 => h9) rfl dX6_stepsBy_76 ?_
                refine lv_iload hx hb dX6_stepsBy_79 (lv_at hl 5 rfl) ?_
                refine zi_ald hx hb hK hP 2 rfl (by omega) (by omega) dX6_stepsBy_81 ?_
                have hb_8 := hbt c
                have hp2 := z2p (t c) (by omega)
                refine zi_shl1 hx hb dX6_stepsBy_82 (by omega) ?_
                refine zi_or hx hb dX6_stepsBy_83 ?_
                refine lv_istore (lv' := [(5, .int (nI (x ||| (2 ^ (t c))))), (0, .int (nI j)), (1, .long (lN r)), (3, .ref e), (4, .int (nI (t j))), (6, .int (nI c))]) hx hb dX6_stepsBy_84 hl (by decide) rfl (fun ls hl => ?_)
                refine lv_iinc (v := nI (c + 1)) (lv' := [(6, .int (nI (c + 1))), (5, .int (nI (x ||| (2 ^ (t c))))), (0, .int (nI j)), (1, .long (lN r)), (3, .ref e), (4, .int (nI (t j)))]) hx hb dX6_stepsBy_86 hl (k := 5) rfl (zinc c 1) (by decide) rfl (fun ls hl => ?_)
                refine lv_goto (tgt := 37) hx hb dX6_stepsBy_89 (by decide) ?_
                exact ih37 (c + 1) (x ||| (2 ^ (t c))) (by first | assumption | omega) (by rw [zIt_s, ← hq]; unfold zSbC; split <;> first | rfl | (exfalso; omega)) (by first | exact hb1 | exact Nat.or_lt_two_pow (n := 8) hb1 hp2) (by omega) _ _ _ hP hD hS (lv_sub hl [2, 3, 4, 5, 1, 0] rfl)
      exact lp37 (k - 0 + 1) 0 0 (by first | assumption | omega) rfl (by first | assumption | omega) (Nat.lt_succ_self _) _ _ _ hP hD hS (lv_sub hl [3, 4, 5, 2, 1, 0] rfl)
    · skip
      refine lv_iconst (v := nI 0) hx hb dX6_stepsBy_29 (by decide) ?_
      exact kret _ _ _ _ _ _ (congrArg nI (by unfold zSb; rw [if_neg (by assumption), if_neg (by assumption)])) rfl hP hD hS dX6_stepsBy_30
  · skip
    refine lv_iconst (v := nI 1) hx hb dX6_stepsBy_16 (by decide) ?_
    refine lv_iload hx hb dX6_stepsBy_17 (lv_at hl 0 rfl) ?_
    have hp2 := z2p (t j) (by omega)
    refine zi_shl1 hx hb dX6_stepsBy_19 (by omega) ?_
    exact kret _ _ _ _ _ _ (congrArg nI (by unfold zSb; rw [if_pos (by assumption)])) rfl hP hD hS dX6_stepsBy_20
set_option maxHeartbeats 4000000 in
set_option maxRecDepth 100000 in
theorem c_X6_transitive (l : Launch) (G : zG) (r : Nat) (hr : r < 18446744073709551616) : ML l yX6_transitive wsX6_transitive ({ frames := 2, cells := 0, slots := 0, locals := 45 }) G [.long (lN r)] [] (lN (zTr r)) [] := by
  refine ML.enter (cc := cX6_transitive) (maxL := 6) (by decide) rfl (Nat.le_of_ble_eq_true rfl) ?_
  intro pM eM sM mM bM tM cM QM AM ls hat kret
  obtain ⟨SM, hA, hK, hE, hP, hD, hS, hl⟩ := hat
  have hx := SM.1
  have hb := SM.2.1
  have hown : sM.vm.findClass RX6 = some mM.cls := SM.2.2.2.1
  have hts := SM.2.2.2.2
  have hl : lv_has ls 6 [(0, .long (lN r))] := hl
  refine lv_lload_n hx hb dX6_transitive_0 rfl (lv_at hl 0 rfl) ?_
  refine lv_lstore_n (lv' := [(2, .long (lN r)), (0, .long (lN r))]) hx hb dX6_transitive_1 rfl hl (by decide) rfl (fun ls hl => ?_)
  refine lv_iconst (v := nI 0) hx hb dX6_transitive_2 (by decide) ?_
  refine lv_istore (lv' := [(4, .int (nI 0)), (2, .long (lN r)), (0, .long (lN r))]) hx hb dX6_transitive_3 hl (by decide) rfl (fun ls hl => ?_)
  have lp5 : ∀ (n9 : Nat), ∀ (m q : Nat), (m ≤ 8) → (q = zIt zTrM m r) → (q < 18446744073709551616) → (8 - m) < n9 → ∀ (H : Heap) (locs : List Loc) (ls : Array Slot), va_P G.1 vwCl [] H → va_D AM [] → va_S AM sM.heap H locs → lv_has ls 6 [(0, .long (lN r)), (2, .long (lN q)), (4, .int (nI m))] → W pM l eM ({ frames := 2, cells := 0, slots := 0, locals := 45 }) sM mM (([.long (lN r)] : List Value).toArray) bM tM cM H locs 0 0 QM (F0 mM 5 ls []) := by
    intro n9
    induction n9 with
    | zero =>
      intro _ _ _ _ _ h9
      exact absurd h9 (Nat.not_lt_zero _)
    | succ n9 ih9 =>
      intro m q h1 hq hb1 hmu5 H locs ls hP hD hS hl
      have ih5 := ih9
      clear ih9
      refine lv_iload hx hb dX6_transitive_5 (lv_at hl 2 rfl) ?_
      refine lv_bipush (v := nI 8) hx hb dX6_transitive_7 (by decide) ?_
      refine zn_ge (tgt := 58) hx hb dX6_transitive_9 (by decide) (by omega) (by omega) (fun c_1 => ?_) (fun c_1 => ?_)
      · skip
        refine lv_lload_n hx hb dX6_transitive_58 rfl (lv_at hl 1 rfl) ?_
        exact kret _ _ _ _ _ _ (congrArg lN (by have hq9 : m = 8 := (by omega); subst hq9; exact hq)) rfl hP hD hS dX6_transitive_59
      · skip
        refine lv_iconst (v := nI 0) hx hb dX6_transitive_12 (by decide) ?_
        refine lv_istore (lv' := [(5, .int (nI 0)), (0, .long (lN r)), (2, .long (lN q)), (4, .int (nI m))]) hx hb dX6_transitive_13 hl (by decide) rfl (fun ls hl => ?_)
        have lp15 : ∀ (n9 : Nat), ∀ (u q2 : Nat), (u ≤ 8) → (q2 = zIt (zTrI m) u q) → (q2 < 18446744073709551616) → (8 - u) < n9 → ∀ (H : Heap) (locs : List Loc) (ls : Array Slot), va_P G.1 vwCl [] H → va_D AM [] → va_S AM sM.heap H locs → lv_has ls 6 [(0, .long (lN r)), (2, .long (lN q2)), (4, .int (nI m)), (5, .int (nI u))] → W pM l eM ({ frames := 2, cells := 0, slots := 0, locals := 45 }) sM mM (([.long (lN r)] : List Value).toArray) bM tM cM H locs 0 0 QM (F0 mM 15 ls []) := by
          intro n9
          induction n9 with
          | zero =>
            intro _ _ _ _ _ h9
            exact absurd h9 (Nat.not_lt_zero _)
          | succ n9 ih9 =>
            intro u q2 h2 hq2 hb2 hmu15 H locs ls hP hD hS hl
            have ih15 := ih9
            clear ih9
            refine lv_iload hx hb dX6_transitive_15 (lv_at hl 3 rfl) ?_
            refine lv_bipush (v := nI 8) hx hb dX6_transitive_17 (by decide) ?_
            refine zn_ge (tgt := 52) hx hb dX6_transitive_19 (by decide) (by omega) (by omega) (fun c_2 => ?_) (fun c_2 => ?_)
            · skip
              refine lv_iinc (v := nI (m + 1)) (lv' := [(4, .int (nI (m + 1))), (0, .long (lN r)), (2, .long (lN q2)), (5, .int (nI u))]) hx hb dX6_transitive_52 hl (k := 2) rfl (zinc m 1) (by decide) rfl (fun ls hl => ?_)
              refine lv_goto (tgt := 5) hx hb dX6_transitive_55 (by decide) ?_
              exact ih5 (m + 1) q2 (by first | assumption | omega) (by have hq9 : u = 8 := (by omega); subst hq9; rw [zIt_s, ← hq]; exact hq2) hb2 (by omega) _ _ _ hP hD hS (lv_sub hl [1, 2, 0] rfl)
            · skip
              refine lv_lload_n hx hb dX6_transitive_22 rfl (lv_at hl 1 rfl) ?_
              refine lv_iload hx hb dX6_transitive_23 (lv_at hl 3 rfl) ?_
              refine lv_iload hx hb dX6_transitive_25 (lv_at hl 2 rfl) ?_
              refine zSi (W1 := []) (W2 := []) (wr := []) (rest := []) SM (c_X6_has l G q2 u m (by first | assumption | omega) (by first | assumption | omega) (by first | assumption | omega)) (va_cwS 3 hts gX6_transitive_X6_has rfl rfl rfl (by decide +kernel) ⟨Nat.le_of_ble_eq_true rfl, Nat.le_of_ble_eq_true rfl⟩) hK hE hA hP hD hS hl.1 [] [] [] rfl rfl rfl (by decide) rfl rfl (Nat.le_of_ble_eq_true rfl) ⟨Nat.zero_le _, Nat.zero_le _⟩ dX6_transitive_27 (fun H locs hP hD hS => ?_)
              refine zb_eq (tgt := 46) hx hb dX6_transitive_30 (by decide) (fun c_3 => ?_) (fun c_3 => ?_)
              · skip
                refine lv_iinc (v := nI (u + 1)) (lv' := [(5, .int (nI (u + 1))), (0, .long (lN r)), (2, .long (lN q2)), (4, .int (nI m))]) hx hb dX6_transitive_46 hl (k := 3) rfl (zinc u 1) (by decide) rfl (fun ls hl => ?_)
                refine lv_goto (tgt := 15) hx hb dX6_transitive_49 (by decide) ?_
                exact ih15 (u + 1) q2 (by first | assumption | omega) (by rw [zIt_s, ← hq2]; unfold zTrI; split <;> first | rfl | (exfalso; omega)) (by first | exact hb2 | exact zWr_lt hb2 (by omega) (by omega)) (by omega) _ _ _ hP hD hS (lv_sub hl [1, 2, 3, 0] rfl)
              · skip
                refine lv_lload_n hx hb dX6_transitive_33 rfl (lv_at hl 1 rfl) ?_
                refine lv_iload hx hb dX6_transitive_34 (lv_at hl 3 rfl) ?_
                refine lv_lload_n hx hb dX6_transitive_36 rfl (lv_at hl 1 rfl) ?_
                refine lv_iload hx hb dX6_transitive_37 (lv_at hl 2 rfl) ?_
                refine zSi (W1 := []) (W2 := []) (wr := []) (rest := [.int (nI u), .long (lN q2)]) SM (c_X6_row l G q2 m (by first | assumption | omega) (by first | assumption | omega)) (va_cwS 2 hts gX6_transitive_X6_row rfl rfl rfl (by decide +kernel) ⟨Nat.le_of_ble_eq_true rfl, Nat.le_of_ble_eq_true rfl⟩) hK hE hA hP hD hS hl.1 [] [] [] rfl rfl rfl (by decide) rfl rfl (Nat.le_of_ble_eq_true rfl) ⟨Nat.zero_le _, Nat.zero_le _⟩ dX6_transitive_39 (fun H locs hP hD hS => ?_)
                have hrl := zRow_lt q2 m
                refine zSl (W1 := []) (W2 := []) (wr := []) (rest := []) SM (c_X6_withRow l G q2 u (zRow q2 m) (by first | assumption | omega) (by first | assumption | omega)) (va_cwS 3 hts gX6_transitive_X6_withRow rfl rfl rfl (by decide +kernel) ⟨Nat.le_of_ble_eq_true rfl, Nat.le_of_ble_eq_true rfl⟩) hK hE hA hP hD hS hl.1 [] [] [] rfl rfl rfl (by decide) rfl rfl (Nat.le_of_ble_eq_true rfl) ⟨Nat.zero_le _, Nat.zero_le _⟩ dX6_transitive_42 (fun H locs hP hD hS => ?_)
                refine lv_lstore_n (lv' := [(2, .long (lN (zWr q2 u (zRow q2 m)))), (0, .long (lN r)), (4, .int (nI m)), (5, .int (nI u))]) hx hb dX6_transitive_45 rfl hl (by decide) rfl (fun ls hl => ?_)
                refine lv_iinc (v := nI (u + 1)) (lv' := [(5, .int (nI (u + 1))), (2, .long (lN (zWr q2 u (zRow q2 m)))), (0, .long (lN r)), (4, .int (nI m))]) hx hb dX6_transitive_46 hl (k := 3) rfl (zinc u 1) (by decide) rfl (fun ls hl => ?_)
                refine lv_goto (tgt := 15) hx hb dX6_transitive_49 (by decide) ?_
                exact ih15 (u + 1) (zWr q2 u (zRow q2 m)) (by first | assumption | omega) (by rw [zIt_s, ← hq2]; unfold zTrI; split <;> first | rfl | (exfalso; omega)) (by first | exact hb2 | exact zWr_lt hb2 (by omega) (by omega)) (by omega) _ _ _ hP hD hS (lv_sub hl [2, 1, 3, 0] rfl)
        exact lp15 (8 - 0 + 1) 0 q (by first | assumption | omega) rfl (by first | assumption | omega) (Nat.lt_succ_self _) _ _ _ hP hD hS (lv_sub hl [1, 2, 3, 0] rfl)
  exact lp5 (8 - 0 + 1) 0 r (by first | assumption | omega) rfl (by first | assumption | omega) (Nat.lt_succ_self _) _ _ _ hP hD hS (lv_sub hl [2, 1, 0] rfl)
set_option maxHeartbeats 4000000 in
set_option maxRecDepth 100000 in
theorem c_X6_nestedAround (l : Launch) (G : zG) (r : Nat) (e a1 a2 a3 : Nat) (cap : Nat) (s t lb : Nat → Nat) (k : Nat) (V : Nat) (hr : r < 18446744073709551616) (hV : V ≤ 8) (hk : k ≤ cap) (hc : cap < 2147483648) (hbs : ∀ i, s i < 8) (hbt : ∀ i, t i < 8) (hlb : ∀ i, lb i < 7) : ML l yX6_nestedAround wsX6_nestedAround ({ frames := 3, cells := 0, slots := 0, locals := 71 }) G [.long (lN r), .ref e, .int (nI V)] [(e, .inr (1, [.ref a1, .ref a2, .ref a3, .int (nI k)])), zA G a1 cap s, zA G a2 cap t, zA G a3 cap lb] (lN (zNa s t lb k V r)) [(e, .inr (1, [.ref a1, .ref a2, .ref a3, .int (nI k)])), zA G a1 cap s, zA G a2 cap t, zA G a3 cap lb] := by
  refine ML.enter (cc := cX6_nestedAround) (maxL := 7) (by decide) rfl (Nat.le_of_ble_eq_true rfl) ?_
  intro pM eM sM mM bM tM cM QM AM ls hat kret
  obtain ⟨SM, hA, hK, hE, hP, hD, hS, hl⟩ := hat
  have hx := SM.1
  have hb := SM.2.1
  have hown : sM.vm.findClass RX6 = some mM.cls := SM.2.2.2.1
  have hts := SM.2.2.2.2
  have hinX2 : ∀ w ∈ u_ws RX2 TX2 4, w ∈ wsX6_nestedAround := by decide +kernel
  have hlk23 : (Cond.fieldLink RX6 23 "DyckReachability$Edges" "size" "I").before _ sM = true := hts _ (by decide +kernel)
  have hlk33 : (Cond.fieldLink RX6 33 "DyckReachability$Edges" "sources" "[I").before _ sM = true := hts _ (by decide +kernel)
  have hl : lv_has ls 7 [(0, .long (lN r)), (2, .ref e), (3, .int (nI V))] := hl
  refine lv_iload_n hx hb dX6_nestedAround_0 rfl (lv_at hl 2 rfl) ?_
  refine zSl (W1 := [(e, .inr (1, [.ref a1, .ref a2, .ref a3, .int (nI k)])), zA G a1 cap s, zA G a2 cap t, zA G a3 cap lb]) (W2 := [(e, .inr (1, [.ref a1, .ref a2, .ref a3, .int (nI k)])), zA G a1 cap s, zA G a2 cap t, zA G a3 cap lb]) (wr := [(e, .inr (1, [.ref a1, .ref a2, .ref a3, .int (nI k)])), zA G a1 cap s, zA G a2 cap t, zA G a3 cap lb]) (rest := []) SM (c_X6_identity l G V (by first | assumption | omega)) (va_cwS 1 hts gX6_nestedAround_X6_identity rfl rfl rfl (by decide +kernel) ⟨Nat.le_of_ble_eq_true rfl, Nat.le_of_ble_eq_true rfl⟩) hK hE hA hP hD hS hl.1 [] [0, 1, 2, 3] [0, 1, 2, 3] rfl rfl rfl (by decide) rfl rfl (Nat.le_of_ble_eq_true rfl) ⟨Nat.zero_le _, Nat.zero_le _⟩ dX6_nestedAround_1 (fun H locs hP hD hS => ?_)
  refine lv_lstore (lv' := [(4, .long (lN (zId V))), (0, .long (lN r)), (2, .ref e), (3, .int (nI V))]) hx hb dX6_nestedAround_4 hl (by decide) rfl (fun ls hl => ?_)
  refine lv_iconst (v := nI 0) hx hb dX6_nestedAround_6 (by decide) ?_
  refine lv_istore (lv' := [(6, .int (nI 0)), (4, .long (lN (zId V))), (0, .long (lN r)), (2, .ref e), (3, .int (nI V))]) hx hb dX6_nestedAround_7 hl (by decide) rfl (fun ls hl => ?_)
  have lp9 : ∀ (n9 : Nat), ∀ (j q : Nat), (j ≤ k) → (q = zIt (zNaF s t lb k r) j (zId V)) → (q < 18446744073709551616) → (k - j) < n9 → ∀ (H : Heap) (locs : List Loc) (ls : Array Slot), va_P G.1 vwCl [(e, .inr (1, [.ref a1, .ref a2, .ref a3, .int (nI k)])), zA G a1 cap s, zA G a2 cap t, zA G a3 cap lb] H → va_D AM [(e, .inr (1, [.ref a1, .ref a2, .ref a3, .int (nI k)])), zA G a1 cap s, zA G a2 cap t, zA G a3 cap lb] → va_S AM sM.heap H locs → lv_has ls 7 [(0, .long (lN r)), (2, .ref e), (3, .int (nI V)), (4, .long (lN q)), (6, .int (nI j))] → W pM l eM ({ frames := 3, cells := 0, slots := 0, locals := 71 }) sM mM (([.long (lN r), .ref e, .int (nI V)] : List Value).toArray) bM tM cM H locs 0 0 QM (F0 mM 9 ls []) := by
    intro n9
    induction n9 with
    | zero =>
      intro _ _ _ _ _ h9
      exact absurd h9 (Nat.not_lt_zero _)
    | succ n9 ih9 =>
      intro j q h1 hq hb1 hmu9 H locs ls hP hD hS hl
      have ih9 := ih9
      clear ih9
      refine lv_iload hx hb dX6_nestedAround_9 (lv_at hl 4 rfl) ?_
      refine lv_aload_n hx hb dX6_nestedAround_11 rfl (lv_at hl 1 rfl) ?_
      refine va_get (D := G.1) (ci := 1) (v := .int (nI k)) (C := RX2) (T := TX2) (N := 4) hx hb hts hinX2 hown hK hP 0 rfl rfl 3 (by decide) hlk23 (fun _ h9 => h9) rfl dX6_nestedAround_12 ?_
      refine zn_ge (tgt := 45) hx hb dX6_nestedAround_15 (by decide) (by omega) (by omega) (fun c_1 => ?_) (fun c_1 => ?_)
      · skip
        refine lv_lload hx hb dX6_nestedAround_45 (lv_at hl 3 rfl) ?_
        refine zSl (W1 := [(e, .inr (1, [.ref a1, .ref a2, .ref a3, .int (nI k)])), zA G a1 cap s, zA G a2 cap t, zA G a3 cap lb]) (W2 := [(e, .inr (1, [.ref a1, .ref a2, .ref a3, .int (nI k)])), zA G a1 cap s, zA G a2 cap t, zA G a3 cap lb]) (wr := [(e, .inr (1, [.ref a1, .ref a2, .ref a3, .int (nI k)])), zA G a1 cap s, zA G a2 cap t, zA G a3 cap lb]) (rest := []) SM (c_X6_transitive l G q (by first | assumption | omega)) (va_cwS 1 hts gX6_nestedAround_X6_transitive rfl rfl rfl (by decide +kernel) ⟨Nat.le_of_ble_eq_true rfl, Nat.le_of_ble_eq_true rfl⟩) hK hE hA hP hD hS hl.1 [] [0, 1, 2, 3] [0, 1, 2, 3] rfl rfl rfl (by decide) rfl rfl (Nat.le_of_ble_eq_true rfl) ⟨Nat.zero_le _, Nat.zero_le _⟩ dX6_nestedAround_47 (fun H locs hP hD hS => ?_)
        exact kret _ _ _ _ _ _ (congrArg lN (by have hq9 : j = k := (by omega); subst hq9; rw [hq] <;> rfl)) rfl hP hD hS dX6_nestedAround_50
      · skip
        refine lv_lload hx hb dX6_nestedAround_18 (lv_at hl 3 rfl) ?_
        refine lv_aload_n hx hb dX6_nestedAround_20 rfl (lv_at hl 1 rfl) ?_
        refine va_get (D := G.1) (ci := 1) (v := .ref a1) (C := RX2) (T := TX2) (N := 4) hx hb hts hinX2 hown hK hP 0 rfl rfl 0 (by decide) hlk33 (fun _ h9 => h9) rfl dX6_nestedAround_21 ?_
        refine lv_iload hx hb dX6_nestedAround_24 (lv_at hl 4 rfl) ?_
        refine zi_ald hx hb hK hP 1 rfl (by omega) (by omega) dX6_nestedAround_26 ?_
        have hb_2 := hbs j
        refine lv_iload hx hb dX6_nestedAround_27 (lv_at hl 4 rfl) ?_
        refine lv_lload_n hx hb dX6_nestedAround_29 rfl (lv_at hl 0 rfl) ?_
        refine lv_aload_n hx hb dX6_nestedAround_30 rfl (lv_at hl 1 rfl) ?_
        refine zSi (W1 := [(e, .inr (1, [.ref a1, .ref a2, .ref a3, .int (nI k)])), zA G a1 cap s, zA G a2 cap t, zA G a3 cap lb]) (W2 := [(e, .inr (1, [.ref a1, .ref a2, .ref a3, .int (nI k)])), zA G a1 cap s, zA G a2 cap t, zA G a3 cap lb]) (wr := []) (rest := [.int (nI (s j)), .long (lN q)]) SM (c_X6_stepsBy l G j r e a1 a2 a3 cap s t lb k (by first | assumption | omega) (by first | assumption | omega) (by first | assumption | omega) (by first | assumption | omega) (by first | assumption | omega) (by first | assumption | omega) (by first | assumption | omega)) (va_cwS 3 hts gX6_nestedAround_X6_stepsBy rfl rfl rfl (by decide +kernel) ⟨Nat.le_of_ble_eq_true rfl, Nat.le_of_ble_eq_true rfl⟩) hK hE hA hP hD hS hl.1 [0, 1, 2, 3] [] [0, 1, 2, 3] rfl rfl rfl (by decide) rfl rfl (Nat.le_of_ble_eq_true rfl) ⟨Nat.zero_le _, Nat.zero_le _⟩ dX6_nestedAround_31 (fun H locs hP hD hS => ?_)
        have hsl := zSb_lt (s := s) (lb := lb) (k := k) (j := j) (r := r) hbt
        refine zSl (W1 := [(e, .inr (1, [.ref a1, .ref a2, .ref a3, .int (nI k)])), zA G a1 cap s, zA G a2 cap t, zA G a3 cap lb]) (W2 := [(e, .inr (1, [.ref a1, .ref a2, .ref a3, .int (nI k)])), zA G a1 cap s, zA G a2 cap t, zA G a3 cap lb]) (wr := [(e, .inr (1, [.ref a1, .ref a2, .ref a3, .int (nI k)])), zA G a1 cap s, zA G a2 cap t, zA G a3 cap lb]) (rest := []) SM (c_X6_withRow l G q (s j) (zSb s t lb k j r) (by first | assumption | omega) (by first | assumption | omega)) (va_cwS 3 hts gX6_nestedAround_X6_withRow rfl rfl rfl (by decide +kernel) ⟨Nat.le_of_ble_eq_true rfl, Nat.le_of_ble_eq_true rfl⟩) hK hE hA hP hD hS hl.1 [] [0, 1, 2, 3] [0, 1, 2, 3] rfl rfl rfl (by decide) rfl rfl (Nat.le_of_ble_eq_true rfl) ⟨Nat.zero_le _, Nat.zero_le _⟩ dX6_nestedAround_34 (fun H locs hP hD hS => ?_)
        refine lv_lstore (lv' := [(4, .long (lN (zWr q (s j) (zSb s t lb k j r)))), (0, .long (lN r)), (2, .ref e), (3, .int (nI V)), (6, .int (nI j))]) hx hb dX6_nestedAround_37 hl (by decide) rfl (fun ls hl => ?_)
        refine lv_iinc (v := nI (j + 1)) (lv' := [(6, .int (nI (j + 1))), (4, .long (lN (zWr q (s j) (zSb s t lb k j r)))), (0, .long (lN r)), (2, .ref e), (3, .int (nI V))]) hx hb dX6_nestedAround_39 hl (k := 4) rfl (zinc j 1) (by decide) rfl (fun ls hl => ?_)
        refine lv_goto (tgt := 9) hx hb dX6_nestedAround_42 (by decide) ?_
        exact ih9 (j + 1) (zWr q (s j) (zSb s t lb k j r)) (by first | assumption | omega) (by rw [zIt_s, ← hq] <;> rfl) (zWr_lt hb1 (by omega) (by omega)) (by omega) _ _ _ hP hD hS (lv_sub hl [2, 3, 4, 1, 0] rfl)
  exact lp9 (k - 0 + 1) 0 (zId V) (by first | assumption | omega) rfl (zId_lt hV) (Nat.lt_succ_self _) _ _ _ hP hD hS (lv_sub hl [2, 3, 4, 1, 0] rfl)
