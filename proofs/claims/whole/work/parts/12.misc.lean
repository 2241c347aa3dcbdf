set_option maxHeartbeats 4000000 in
set_option maxRecDepth 100000 in
theorem c_X3_isFull (l : Launch) (G : zG) (x sg n : Nat) (hn : n ≤ 60) : MI l yX3_isFull wsX3_isFull ({ frames := 0, cells := 0, slots := 0, locals := 0 }) G [.ref x] [(x, .inr (2, [.ref sg, .int (nI n)]))] (bI (decide (60 ≤ n))) [(x, .inr (2, [.ref sg, .int (nI n)]))] := by
  refine MI.enter (cc := cX3_isFull) (maxL := 1) (by decide) rfl (Nat.le_of_ble_eq_true rfl) (bI_nar _) ?_
  intro pM eM sM mM bM tM cM QM AM ls hat kret
  obtain ⟨SM, hA, hK, hE, hP, hD, hS, hl⟩ := hat
  have hx := SM.1
  have hb := SM.2.1
  have hown : sM.vm.findClass RX3 = some mM.cls := SM.2.2.2.1
  have hts := SM.2.2.2.2
  have hinX3 : ∀ w ∈ u_ws RX3 TX3 2, w ∈ wsX3_isFull := by decide +kernel
  have hlk15 : (Cond.fieldLink RX3 15 "DyckReachability$GraphText" "length" "I").before _ sM = true := hts _ (by decide +kernel)
  have hl : lv_has ls 1 [(0, .ref x)] := hl
  refine lv_aload_n hx hb dX3_isFull_0 rfl (lv_at hl 0 rfl) ?_
  refine va_get (D := G.1) (ci := 2) (v := .int (nI n)) (C := RX3) (T := TX3) (N := 2) hx hb hts hinX3 hown hK hP 0 rfl rfl 1 (by decide) hlk15 (fun _ h9 => h9) rfl dX3_isFull_1 ?_
  refine lv_bipush (v := nI 60) hx hb dX3_isFull_4 (by decide) ?_
  refine zn_lt (tgt := 13) hx hb dX3_isFull_6 (by decide) (by omega) (by omega) (fun c_1 => ?_) (fun c_1 => ?_)
  · skip
    refine lv_iconst (v := nI 0) hx hb dX3_isFull_13 (by decide) ?_
    exact kret _ _ _ _ _ _ (bI_f (by omega)) rfl hP hD hS dX3_isFull_14
  · skip
    refine lv_iconst (v := nI 1) hx hb dX3_isFull_9 (by decide) ?_
    refine lv_goto (tgt := 14) hx hb dX3_isFull_10 (by decide) ?_
    exact kret _ _ _ _ _ _ (bI_t (by omega)) rfl hP hD hS dX3_isFull_14
set_option maxHeartbeats 4000000 in
set_option maxRecDepth 100000 in
theorem c_X3_put (l : Launch) (G : zG) (x sg : Nat) (g : Nat → Nat) (n : Nat) (c : Nat) (hn : n < 60) : MV l yX3_put wsX3_put ({ frames := 1, cells := 0, slots := 0, locals := 20 }) G [.ref x, .int (nI c)] [(x, .inr (2, [.ref sg, .int (nI n)])), zA G sg 60 g] [(x, .inr (2, [.ref sg, .int (nI (n + 1))])), zA G sg 60 (zU g n c)] := by
  refine MV.enter (cc := cX3_put) (maxL := 2) (by decide) rfl (Nat.le_of_ble_eq_true rfl) ?_
  intro pM eM sM mM bM tM cM QM AM ls hat kret
  obtain ⟨SM, hA, hK, hE, hP, hD, hS, hl⟩ := hat
  have hx := SM.1
  have hb := SM.2.1
  have hown : sM.vm.findClass RX3 = some mM.cls := SM.2.2.2.1
  have hts := SM.2.2.2.2
  have hinX3 : ∀ w ∈ u_ws RX3 TX3 2, w ∈ wsX3_put := by decide +kernel
  have hlk11 : (Cond.fieldLink RX3 11 "DyckReachability$GraphText" "signs" "[I").before _ sM = true := hts _ (by decide +kernel)
  have hlk15 : (Cond.fieldLink RX3 15 "DyckReachability$GraphText" "length" "I").before _ sM = true := hts _ (by decide +kernel)
  have hl : lv_has ls 2 [(0, .ref x), (1, .int (nI c))] := hl
  refine lv_aload_n hx hb dX3_put_0 rfl (lv_at hl 0 rfl) ?_
  refine zVi (W1 := [(x, .inr (2, [.ref sg, .int (nI n)])), zA G sg 60 g]) (W2 := [(x, .inr (2, [.ref sg, .int (nI n)])), zA G sg 60 g]) (wr := [zA G sg 60 g]) (rest := []) SM (c_X3_isFull l G x sg n (by first | assumption | omega)) (cwV 0 hts gX3_put_X3_isFull rfl rfl rfl (by decide +kernel) ⟨Nat.le_of_ble_eq_true rfl, Nat.le_of_ble_eq_true rfl⟩) hK hE hA hP hD hS hl.1 [0] [1] [1, 0] rfl rfl rfl (by decide) (ci := 2) rfl rfl rfl rfl rfl (Nat.le_of_ble_eq_true rfl) ⟨Nat.zero_le _, Nat.zero_le _⟩ dX3_put_1 (fun H locs hP hD hS => ?_)
  refine zb_eq (tgt := 8) hx hb dX3_put_4 (by decide) (fun c_1 => ?_) (fun c_1 => ?_)
  · skip
    refine lv_aload_n hx hb dX3_put_8 rfl (lv_at hl 0 rfl) ?_
    refine va_get (D := G.1) (ci := 2) (v := .ref sg) (C := RX3) (T := TX3) (N := 2) hx hb hts hinX3 hown hK hP 0 rfl rfl 0 (by decide) hlk11 (fun _ h9 => h9) rfl dX3_put_9 ?_
    refine lv_aload_n hx hb dX3_put_12 rfl (lv_at hl 0 rfl) ?_
    refine va_get (D := G.1) (ci := 2) (v := .int (nI n)) (C := RX3) (T := TX3) (N := 2) hx hb hts hinX3 hown hK hP 0 rfl rfl 1 (by decide) hlk15 (fun _ h9 => h9) rfl dX3_put_13 ?_
    refine lv_iload_n hx hb dX3_put_16 rfl (lv_at hl 1 rfl) ?_
    refine zi_ast hx hb hK hP hD hS 1 rfl (by omega) (by omega) dX3_put_17 (fun H locs hP hD hS => ?_)
    have hP : va_P G.1 vwCl [(x, .inr (2, [.ref sg, .int (nI n)])), zA G sg 60 (zU g n c)] H := hP
    have hD : va_D AM [(x, .inr (2, [.ref sg, .int (nI n)])), zA G sg 60 (zU g n c)] := hD
    refine lv_aload_n hx hb dX3_put_18 rfl (lv_at hl 0 rfl) ?_
    refine lv_dup hx hb dX3_put_19 rfl ?_
    refine va_get (D := G.1) (ci := 2) (v := .int (nI n)) (C := RX3) (T := TX3) (N := 2) hx hb hts hinX3 hown hK hP 0 rfl rfl 1 (by decide) hlk15 (fun _ h9 => h9) rfl dX3_put_20 ?_
    refine lv_iconst (v := nI 1) hx hb dX3_put_23 (by decide) ?_
    refine zi_addk (n := n + 1) hx hb dX3_put_24 (by omega) ?_
    refine va_put (D := G.1) (ci := 2) (v := .int (nI (n + 1))) (ty := .int) (C := RX3) (T := TX3) (N := 2) hx hb hts hinX3 tyX3 tyX3_ok nmX3 hown hK hP hD hS 0 rfl rfl 1 (by decide) hlk15 (fun _ h9 => h9) rfl (by decide +kernel) rfl rfl (Nat.le_of_ble_eq_true rfl) dX3_put_25 (fun H locs hP hD hS => ?_)
    have hP : va_P G.1 vwCl [(x, .inr (2, [.ref sg, .int (nI (n + 1))])), zA G sg 60 (zU g n c)] H := hP
    have hD : va_D AM [(x, .inr (2, [.ref sg, .int (nI (n + 1))])), zA G sg 60 (zU g n c)] := hD
    exact kret _ _ _ _ _ rfl hP hD hS dX3_put_28
  · skip
    exfalso; omega
set_option maxHeartbeats 4000000 in
set_option maxRecDepth 100000 in
theorem c_X3_labelOf (l : Launch) (G : zG) (c : Nat) (hc : c < 256) : MI l yX3_labelOf wsX3_labelOf ({ frames := 0, cells := 0, slots := 0, locals := 0 }) G [.int (nI c)] [] (zOr9 (zLo c) 7) [] := by
  refine MI.enter (cc := cX3_labelOf) (maxL := 2) (by decide) rfl (Nat.le_of_ble_eq_true rfl) rfl ?_
  intro pM eM sM mM bM tM cM QM AM ls hat kret
  obtain ⟨SM, hA, hK, hE, hP, hD, hS, hl⟩ := hat
  have hx := SM.1
  have hb := SM.2.1
  have hown : sM.vm.findClass RX3 = some mM.cls := SM.2.2.2.1
  have hts := SM.2.2.2.2
  have hlk35 : (Cond.fieldLink RX3 35 "DyckReachability$GraphText" "LABEL_SIGNS" "[C").before _ sM = true := hts _ (by decide +kernel)
  have hl : lv_has ls 2 [(0, .int (nI c))] := hl
  refine lv_iconst (v := nI 0) hx hb dX3_labelOf_0 (by decide) ?_
  refine lv_istore_n (lv' := [(1, .int (nI 0)), (0, .int (nI c))]) hx hb dX3_labelOf_1 rfl hl (by decide) rfl (fun ls hl => ?_)
  have lp2 : ∀ (n9 : Nat), ∀ (i : Nat), (i ≤ 7) → (∀ j, j < i → zLoP c j = false) → (7 - i) < n9 → ∀ (H : Heap) (locs : List Loc) (ls : Array Slot), va_P G.1 vwCl [] H → va_D AM [] → va_S AM sM.heap H locs → lv_has ls 2 [(0, .int (nI c)), (1, .int (nI i))] → W pM l eM ({ frames := 0, cells := 0, slots := 0, locals := 0 }) sM mM (([.int (nI c)] : List Value).toArray) bM tM cM H locs 0 0 QM (F0 mM 2 ls []) := by
    intro n9
    induction n9 with
    | zero =>
      intro _ _ _ h9
      exact absurd h9 (Nat.not_lt_zero _)
    | succ n9 ih9 =>
      intro i h1 h2 hmu2 H locs ls hP hD hS hl
      have ih2 := ih9
      clear ih9
      refine lv_iload_n hx hb dX3_labelOf_2 rfl (lv_at hl 1 rfl) ?_
      refine lv_bipush (v := nI 7) hx hb dX3_labelOf_3 (by decide) ?_
      refine zn_ge (tgt := 25) hx hb dX3_labelOf_5 (by decide) (by omega) (by omega) (fun c_1 => ?_) (fun c_1 => ?_)
      · skip
        refine lv_bipush (v := (-9)) hx hb dX3_labelOf_25 (by decide) ?_
        exact kret _ _ _ _ _ _ (by have hq9 : i = 7 := (by omega); subst hq9; unfold zLo; rw [zFst_none h2, zOr9_ge (Nat.lt_irrefl _)]) rfl hP hD hS dX3_labelOf_27
      · skip
        refine va_gets hx hb hE.1.1.1 hS hown hlk35 (fun _ h9 => h9) dX3_labelOf_8 ?_
        refine lv_iload_n hx hb dX3_labelOf_11 rfl (lv_at hl 1 rfl) ?_
        refine zt_lab hx hb hE.1.1.2 hS (by omega) dX3_labelOf_12 ?_
        have hb7 := zLab_lt i (by omega)
        refine lv_iload_n hx hb dX3_labelOf_13 rfl (lv_at hl 0 rfl) ?_
        refine zn_ne (tgt := 19) hx hb dX3_labelOf_14 (by decide) (by omega) (by omega) (fun c_2 => ?_) (fun c_2 => ?_)
        · skip
          refine lv_iinc (v := nI (i + 1)) (lv' := [(1, .int (nI (i + 1))), (0, .int (nI c))]) hx hb dX3_labelOf_19 hl (k := 1) rfl (zinc i 1) (by decide) rfl (fun ls hl => ?_)
          refine lv_goto (tgt := 2) hx hb dX3_labelOf_22 (by decide) ?_
          exact ih2 (i + 1) (by first | assumption | omega) (lt_s h2 (by simp only [zLoP, decide_eq_false_iff_not]; omega)) (by omega) _ _ _ hP hD hS (lv_sub hl [1, 0] rfl)
        · skip
          refine lv_iload_n hx hb dX3_labelOf_17 rfl (lv_at hl 1 rfl) ?_
          exact kret _ _ _ _ _ _ (by have hz := zFst_at h2 (show zLoP c i = true by simp only [zLoP, decide_eq_true_eq]; omega) (n := 7) (by omega); unfold zLo; rw [hz, zOr9_lt (by omega)]) rfl hP hD hS dX3_labelOf_18
  exact lp2 (7 - 0 + 1) 0 (by first | assumption | omega) (fun i hi => absurd hi (Nat.not_lt_zero i)) (Nat.lt_succ_self _) _ _ _ hP hD hS (lv_sub hl [1, 0] rfl)
set_option maxHeartbeats 4000000 in
set_option maxRecDepth 100000 in
theorem c_X3_writtenVertices (l : Launch) (G : zG) (x sg : Nat) (g : Nat → Nat) (n : Nat) (hw : 48 ≤ g 1) : MI l yX3_writtenVertices wsX3_writtenVertices ({ frames := 0, cells := 0, slots := 0, locals := 0 }) G [.ref x] [(x, .inr (2, [.ref sg, .int (nI n)])), zA G sg 60 g] (nI (g 1 - 48)) [(x, .inr (2, [.ref sg, .int (nI n)])), zA G sg 60 g] := by
  refine MI.enter (cc := cX3_writtenVertices) (maxL := 1) (by decide) rfl (Nat.le_of_ble_eq_true rfl) rfl ?_
  intro pM eM sM mM bM tM cM QM AM ls hat kret
  obtain ⟨SM, hA, hK, hE, hP, hD, hS, hl⟩ := hat
  have hx := SM.1
  have hb := SM.2.1
  have hown : sM.vm.findClass RX3 = some mM.cls := SM.2.2.2.1
  have hts := SM.2.2.2.2
  have hinX3 : ∀ w ∈ u_ws RX3 TX3 2, w ∈ wsX3_writtenVertices := by decide +kernel
  have hlk11 : (Cond.fieldLink RX3 11 "DyckReachability$GraphText" "signs" "[I").before _ sM = true := hts _ (by decide +kernel)
  have hl : lv_has ls 1 [(0, .ref x)] := hl
  refine lv_aload_n hx hb dX3_writtenVertices_0 rfl (lv_at hl 0 rfl) ?_
  refine va_get (D := G.1) (ci := 2) (v := .ref sg) (C := RX3) (T := TX3) (N := 2) hx hb hts hinX3 hown hK hP 0 rfl rfl 0 (by decide) hlk11 (fun _ h9 => h9) rfl dX3_writtenVertices_1 ?_
  refine lv_iconst (v := nI 1) hx hb dX3_writtenVertices_4 (by decide) ?_
  refine zi_ald hx hb hK hP 1 rfl (by omega) (by omega) dX3_writtenVertices_5 ?_
  refine lv_bipush (v := nI 48) hx hb dX3_writtenVertices_6 (by decide) ?_
  refine zi_sub hx hb dX3_writtenVertices_8 (by omega) ?_
  exact kret _ _ _ _ _ _ (congrArg nI (by omega)) rfl hP hD hS dX3_writtenVertices_9
set_option maxHeartbeats 4000000 in
set_option maxRecDepth 100000 in
theorem c_X3_fits (l : Launch) (G : zG) (x sg : Nat) (g : Nat → Nat) (n : Nat) (i : Nat) (hg : ∀ i, g i < 256) (hi : i < 60) (hw : 2 ≤ i → 49 ≤ g 1 ∧ g 1 ≤ 56) : MI l yX3_fits wsX3_fits ({ frames := 1, cells := 0, slots := 0, locals := 21 }) G [.ref x, .int (nI i)] [(x, .inr (2, [.ref sg, .int (nI n)])), zA G sg 60 g] (bI (decide (zFit g i = true))) [(x, .inr (2, [.ref sg, .int (nI n)])), zA G sg 60 g] := by
  refine MI.enter (cc := cX3_fits) (maxL := 3) (by decide) rfl (Nat.le_of_ble_eq_true rfl) (bI_nar _) ?_
  intro pM eM sM mM bM tM cM QM AM ls hat kret
  obtain ⟨SM, hA, hK, hE, hP, hD, hS, hl⟩ := hat
  have hx := SM.1
  have hb := SM.2.1
  have hown : sM.vm.findClass RX3 = some mM.cls := SM.2.2.2.1
  have hts := SM.2.2.2.2
  have hinX3 : ∀ w ∈ u_ws RX3 TX3 2, w ∈ wsX3_fits := by decide +kernel
  have hlk11 : (Cond.fieldLink RX3 11 "DyckReachability$GraphText" "signs" "[I").before _ sM = true := hts _ (by decide +kernel)
  have hl : lv_has ls 3 [(0, .ref x), (1, .int (nI i))] := hl
  refine lv_aload_n hx hb dX3_fits_0 rfl (lv_at hl 0 rfl) ?_
  refine va_get (D := G.1) (ci := 2) (v := .ref sg) (C := RX3) (T := TX3) (N := 2) hx hb hts hinX3 hown hK hP 0 rfl rfl 0 (by decide) hlk11 (fun _ h9 => h9) rfl dX3_fits_1 ?_
  refine lv_iload_n hx hb dX3_fits_4 rfl (lv_at hl 1 rfl) ?_
  refine zi_ald hx hb hK hP 1 rfl (by omega) (by omega) dX3_fits_5 ?_
  have hb_1 := hg i
  refine lv_istore_n (lv' := [(2, .int (nI (g i))), (0, .ref x), (1, .int (nI i))]) hx hb dX3_fits_6 rfl hl (by decide) rfl (fun ls hl => ?_)
  refine lv_iload_n hx hb dX3_fits_7 rfl (lv_at hl 2 rfl) ?_
  refine zd_ne (a := (i : Nat)) (tgt := 23) hx hb dX3_fits_8 (by decide) (zI (by omega)) (fun c_2 => ?_) (fun c_2 => ?_)
  · skip
    refine lv_iload_n hx hb dX3_fits_23 rfl (lv_at hl 2 rfl) ?_
    refine lv_iconst (v := nI 1) hx hb dX3_fits_24 (by decide) ?_
    refine zn_ne (tgt := 46) hx hb dX3_fits_25 (by decide) (by omega) (by omega) (fun c_3 => ?_) (fun c_3 => ?_)
    · skip
      refine lv_iload_n hx hb dX3_fits_46 rfl (lv_at hl 2 rfl) ?_
      refine lv_bipush (v := nI 50) hx hb dX3_fits_47 (by decide) ?_
      refine zn_lt (tgt := 54) hx hb dX3_fits_49 (by decide) (by omega) (by omega) (fun c_4 => ?_) (fun c_4 => ?_)
      · skip
        refine lv_iload_n hx hb dX3_fits_54 rfl (lv_at hl 2 rfl) ?_
        refine lv_iconst (v := nI 2) hx hb dX3_fits_55 (by decide) ?_
        refine zi_sub hx hb dX3_fits_56 (by omega) ?_
        refine lv_iconst (v := nI 3) hx hb dX3_fits_57 (by decide) ?_
        refine zi_rem hx hb dX3_fits_58 (by omega) (by omega) (by omega) ?_
        refine lv_iconst (v := nI 2) hx hb dX3_fits_59 (by decide) ?_
        refine zn_ne (tgt := 78) hx hb dX3_fits_60 (by decide) (by omega) (by omega) (fun c_5 => ?_) (fun c_5 => ?_)
        · skip
          refine lv_iload_n hx hb dX3_fits_78 rfl (lv_at hl 0 rfl) ?_
          refine lv_bipush (v := nI 48) hx hb dX3_fits_79 (by decide) ?_
          refine zn_lt (tgt := 99) hx hb dX3_fits_81 (by decide) (by omega) (by omega) (fun c_6 => ?_) (fun c_6 => ?_)
          · skip
            refine lv_iconst (v := nI 0) hx hb dX3_fits_99 (by decide) ?_
            exact kret _ _ _ _ _ _ (bI_f (by unfold zFit; first | (have hi0 : i = 0 := (by omega); subst hi0; rw [if_pos rfl]; simp only [decide_eq_true_eq]; omega) | (have hi1 : i = 1 := (by omega); subst hi1; rw [if_neg (by omega), if_pos rfl]; simp only [decide_eq_true_eq]; omega) | (rw [if_neg (by omega), if_neg (by omega)]; simp only [Bool.and_eq_true, decide_eq_true_eq]; omega) | (rw [if_neg (by omega), if_neg (by omega), if_pos (by omega)]; simp only [Bool.and_eq_true, decide_eq_true_eq]; omega) | (rw [if_neg (by omega), if_neg (by omega), if_neg (by omega)]; simp only [Bool.and_eq_true, decide_eq_true_eq]; omega))) rfl hP hD hS dX3_fits_100
          · skip
            refine lv_iload_n hx hb dX3_fits_84 rfl (lv_at hl 0 rfl) ?_
            refine lv_bipush (v := nI 48) hx hb dX3_fits_85 (by decide) ?_
            refine zi_sub hx hb dX3_fits_87 (by omega) ?_
            have hw2 := hw (by omega)
            refine lv_aload_n hx hb dX3_fits_88 rfl (lv_at hl 1 rfl) ?_
            refine zVi (W1 := [(x, .inr (2, [.ref sg, .int (nI n)])), zA G sg 60 g]) (W2 := [(x, .inr (2, [.ref sg, .int (nI n)])), zA G sg 60 g]) (wr := []) (rest := [.int (nI ((g i) - 48))]) SM (c_X3_writtenVertices l G x sg g n (by first | assumption | omega)) (cwV 0 hts gX3_fits_X3_writtenVertices rfl rfl rfl (by decide +kernel) ⟨Nat.le_of_ble_eq_true rfl, Nat.le_of_ble_eq_true rfl⟩) hK hE hA hP hD hS hl.1 [0, 1] [] [0, 1] rfl rfl rfl (by decide) (ci := 2) rfl rfl rfl rfl rfl (Nat.le_of_ble_eq_true rfl) ⟨Nat.zero_le _, Nat.zero_le _⟩ dX3_fits_89 (fun H locs hP hD hS => ?_)
            have hb1 := hg 1
            refine zn_ge (tgt := 99) hx hb dX3_fits_92 (by decide) (by omega) (by omega) (fun c_7 => ?_) (fun c_7 => ?_)
            · skip
              refine lv_iconst (v := nI 0) hx hb dX3_fits_99 (by decide) ?_
              exact kret _ _ _ _ _ _ (bI_f (by unfold zFit; first | (have hi0 : i = 0 := (by omega); subst hi0; rw [if_pos rfl]; simp only [decide_eq_true_eq]; omega) | (have hi1 : i = 1 := (by omega); subst hi1; rw [if_neg (by omega), if_pos rfl]; simp only [decide_eq_true_eq]; omega) | (rw [if_neg (by omega), if_neg (by omega)]; simp only [Bool.and_eq_true, decide_eq_true_eq]; omega) | (rw [if_neg (by omega), if_neg (by omega), if_pos (by omega)]; simp only [Bool.and_eq_true, decide_eq_true_eq]; omega) | (rw [if_neg (by omega), if_neg (by omega), if_neg (by omega)]; simp only [Bool.and_eq_true, decide_eq_true_eq]; omega))) rfl hP hD hS dX3_fits_100
            · skip
              refine lv_iconst (v := nI 1) hx hb dX3_fits_95 (by decide) ?_
              refine lv_goto (tgt := 100) hx hb dX3_fits_96 (by decide) ?_
              exact kret _ _ _ _ _ _ (bI_t (by unfold zFit; first | (have hi0 : i = 0 := (by omega); subst hi0; rw [if_pos rfl]; simp only [decide_eq_true_eq]; omega) | (have hi1 : i = 1 := (by omega); subst hi1; rw [if_neg (by omega), if_pos rfl]; simp only [decide_eq_true_eq]; omega) | (rw [if_neg (by omega), if_neg (by omega)]; simp only [Bool.and_eq_true, decide_eq_true_eq]; omega) | (rw [if_neg (by omega), if_neg (by omega), if_pos (by omega)]; simp only [Bool.and_eq_true, decide_eq_true_eq]; omega) | (rw [if_neg (by omega), if_neg (by omega), if_neg (by omega)]; simp only [Bool.and_eq_true, decide_eq_true_eq]; omega))) rfl hP hD hS dX3_fits_100
        · skip
          refine lv_iload_n hx hb dX3_fits_63 rfl (lv_at hl 0 rfl) ?_
          refine zSi (W1 := [(x, .inr (2, [.ref sg, .int (nI n)])), zA G sg 60 g]) (W2 := [(x, .inr (2, [.ref sg, .int (nI n)])), zA G sg 60 g]) (wr := [(x, .inr (2, [.ref sg, .int (nI n)])), zA G sg 60 g]) (rest := []) SM (c_X3_labelOf l G (g i) (by first | assumption | omega)) (va_cwS 1 hts gX3_fits_X3_labelOf rfl rfl rfl (by decide +kernel) ⟨Nat.le_of_ble_eq_true rfl, Nat.le_of_ble_eq_true rfl⟩) hK hE hA hP hD hS hl.1 [] [0, 1] [0, 1] rfl rfl rfl (by decide) rfl rfl (Nat.le_of_ble_eq_true rfl) ⟨Nat.zero_le _, Nat.zero_le _⟩ dX3_fits_64 (fun H locs hP hD hS => ?_)
          refine lv_bipush (v := (-9)) hx hb dX3_fits_67 (by decide) ?_
          refine z9_eq (tgt := 76) hx hb dX3_fits_69 (by decide) (by omega) (fun c_8 => ?_) (fun c_8 => ?_)
          · skip
            refine lv_iconst (v := nI 0) hx hb dX3_fits_76 (by decide) ?_
            exact kret _ _ _ _ _ _ (bI_f (by unfold zFit; first | (have hi0 : i = 0 := (by omega); subst hi0; rw [if_pos rfl]; simp only [decide_eq_true_eq]; omega) | (have hi1 : i = 1 := (by omega); subst hi1; rw [if_neg (by omega), if_pos rfl]; simp only [decide_eq_true_eq]; omega) | (rw [if_neg (by omega), if_neg (by omega)]; simp only [Bool.and_eq_true, decide_eq_true_eq]; omega) | (rw [if_neg (by omega), if_neg (by omega), if_pos (by omega)]; simp only [Bool.and_eq_true, decide_eq_true_eq]; omega) | (rw [if_neg (by omega), if_neg (by omega), if_neg (by omega)]; simp only [Bool.and_eq_true, decide_eq_true_eq]; omega))) rfl hP hD hS dX3_fits_77
          · skip
            refine lv_iconst (v := nI 1) hx hb dX3_fits_72 (by decide) ?_
            refine lv_goto (tgt := 77) hx hb dX3_fits_73 (by decide) ?_
            exact kret _ _ _ _ _ _ (bI_t (by unfold zFit; first | (have hi0 : i = 0 := (by omega); subst hi0; rw [if_pos rfl]; simp only [decide_eq_true_eq]; omega) | (have hi1 : i = 1 := (by omega); subst hi1; rw [if_neg (by omega), if_pos rfl]; simp only [decide_eq_true_eq]; omega) | (rw [if_neg (by omega), if_neg (by omega)]; simp only [Bool.and_eq_true, decide_eq_true_eq]; omega) | (rw [if_neg (by omega), if_neg (by omega), if_pos (by omega)]; simp only [Bool.and_eq_true, decide_eq_true_eq]; omega) | (rw [if_neg (by omega), if_neg (by omega), if_neg (by omega)]; simp only [Bool.and_eq_true, decide_eq_true_eq]; omega))) rfl hP hD hS dX3_fits_77
      · skip
        refine lv_iconst (v := nI 0) hx hb dX3_fits_52 (by decide) ?_
        exact kret _ _ _ _ _ _ (bI_f (by unfold zFit; first | (have hi0 : i = 0 := (by omega); subst hi0; rw [if_pos rfl]; simp only [decide_eq_true_eq]; omega) | (have hi1 : i = 1 := (by omega); subst hi1; rw [if_neg (by omega), if_pos rfl]; simp only [decide_eq_true_eq]; omega) | (rw [if_neg (by omega), if_neg (by omega)]; simp only [Bool.and_eq_true, decide_eq_true_eq]; omega) | (rw [if_neg (by omega), if_neg (by omega), if_pos (by omega)]; simp only [Bool.and_eq_true, decide_eq_true_eq]; omega) | (rw [if_neg (by omega), if_neg (by omega), if_neg (by omega)]; simp only [Bool.and_eq_true, decide_eq_true_eq]; omega))) rfl hP hD hS dX3_fits_53
    · skip
      refine lv_iload_n hx hb dX3_fits_28 rfl (lv_at hl 0 rfl) ?_
      refine lv_bipush (v := nI 49) hx hb dX3_fits_29 (by decide) ?_
      refine zn_lt (tgt := 44) hx hb dX3_fits_31 (by decide) (by omega) (by omega) (fun c_9 => ?_) (fun c_9 => ?_)
      · skip
        refine lv_iconst (v := nI 0) hx hb dX3_fits_44 (by decide) ?_
        exact kret _ _ _ _ _ _ (bI_f (by unfold zFit; first | (have hi0 : i = 0 := (by omega); subst hi0; rw [if_pos rfl]; simp only [decide_eq_true_eq]; omega) | (have hi1 : i = 1 := (by omega); subst hi1; rw [if_neg (by omega), if_pos rfl]; simp only [decide_eq_true_eq]; omega) | (rw [if_neg (by omega), if_neg (by omega)]; simp only [Bool.and_eq_true, decide_eq_true_eq]; omega) | (rw [if_neg (by omega), if_neg (by omega), if_pos (by omega)]; simp only [Bool.and_eq_true, decide_eq_true_eq]; omega) | (rw [if_neg (by omega), if_neg (by omega), if_neg (by omega)]; simp only [Bool.and_eq_true, decide_eq_true_eq]; omega))) rfl hP hD hS dX3_fits_45
      · skip
        refine lv_iload_n hx hb dX3_fits_34 rfl (lv_at hl 0 rfl) ?_
        refine lv_bipush (v := nI 56) hx hb dX3_fits_35 (by decide) ?_
        refine zn_gt (tgt := 44) hx hb dX3_fits_37 (by decide) (by omega) (by omega) (fun c_10 => ?_) (fun c_10 => ?_)
        · skip
          refine lv_iconst (v := nI 0) hx hb dX3_fits_44 (by decide) ?_
          exact kret _ _ _ _ _ _ (bI_f (by unfold zFit; first | (have hi0 : i = 0 := (by omega); subst hi0; rw [if_pos rfl]; simp only [decide_eq_true_eq]; omega) | (have hi1 : i = 1 := (by omega); subst hi1; rw [if_neg (by omega), if_pos rfl]; simp only [decide_eq_true_eq]; omega) | (rw [if_neg (by omega), if_neg (by omega)]; simp only [Bool.and_eq_true, decide_eq_true_eq]; omega) | (rw [if_neg (by omega), if_neg (by omega), if_pos (by omega)]; simp only [Bool.and_eq_true, decide_eq_true_eq]; omega) | (rw [if_neg (by omega), if_neg (by omega), if_neg (by omega)]; simp only [Bool.and_eq_true, decide_eq_true_eq]; omega))) rfl hP hD hS dX3_fits_45
        · skip
          refine lv_iconst (v := nI 1) hx hb dX3_fits_40 (by decide) ?_
          refine lv_goto (tgt := 45) hx hb dX3_fits_41 (by decide) ?_
          exact kret _ _ _ _ _ _ (bI_t (by unfold zFit; first | (have hi0 : i = 0 := (by omega); subst hi0; rw [if_pos rfl]; simp only [decide_eq_true_eq]; omega) | (have hi1 : i = 1 := (by omega); subst hi1; rw [if_neg (by omega), if_pos rfl]; simp only [decide_eq_true_eq]; omega) | (rw [if_neg (by omega), if_neg (by omega)]; simp only [Bool.and_eq_true, decide_eq_true_eq]; omega) | (rw [if_neg (by omega), if_neg (by omega), if_pos (by omega)]; simp only [Bool.and_eq_true, decide_eq_true_eq]; omega) | (rw [if_neg (by omega), if_neg (by omega), if_neg (by omega)]; simp only [Bool.and_eq_true, decide_eq_true_eq]; omega))) rfl hP hD hS dX3_fits_45
  · skip
    refine lv_iload_n hx hb dX3_fits_11 rfl (lv_at hl 0 rfl) ?_
    refine lv_bipush (v := nI 68) hx hb dX3_fits_12 (by decide) ?_
    refine zn_ne (tgt := 21) hx hb dX3_fits_14 (by decide) (by omega) (by omega) (fun c_11 => ?_) (fun c_11 => ?_)
    · skip
      refine lv_iconst (v := nI 0) hx hb dX3_fits_21 (by decide) ?_
      exact kret _ _ _ _ _ _ (bI_f (by unfold zFit; first | (have hi0 : i = 0 := (by omega); subst hi0; rw [if_pos rfl]; simp only [decide_eq_true_eq]; omega) | (have hi1 : i = 1 := (by omega); subst hi1; rw [if_neg (by omega), if_pos rfl]; simp only [decide_eq_true_eq]; omega) | (rw [if_neg (by omega), if_neg (by omega)]; simp only [Bool.and_eq_true, decide_eq_true_eq]; omega) | (rw [if_neg (by omega), if_neg (by omega), if_pos (by omega)]; simp only [Bool.and_eq_true, decide_eq_true_eq]; omega) | (rw [if_neg (by omega), if_neg (by omega), if_neg (by omega)]; simp only [Bool.and_eq_true, decide_eq_true_eq]; omega))) rfl hP hD hS dX3_fits_22
    · skip
      refine lv_iconst (v := nI 1) hx hb dX3_fits_17 (by decide) ?_
      refine lv_goto (tgt := 22) hx hb dX3_fits_18 (by decide) ?_
      exact kret _ _ _ _ _ _ (bI_t (by unfold zFit; first | (have hi0 : i = 0 := (by omega); subst hi0; rw [if_pos rfl]; simp only [decide_eq_true_eq]; omega) | (have hi1 : i = 1 := (by omega); subst hi1; rw [if_neg (by omega), if_pos rfl]; simp only [decide_eq_true_eq]; omega) | (rw [if_neg (by omega), if_neg (by omega)]; simp only [Bool.and_eq_true, decide_eq_true_eq]; omega) | (rw [if_neg (by omega), if_neg (by omega), if_pos (by omega)]; simp only [Bool.and_eq_true, decide_eq_true_eq]; omega) | (rw [if_neg (by omega), if_neg (by omega), if_neg (by omega)]; simp only [Bool.and_eq_true, decide_eq_true_eq]; omega))) rfl hP hD hS dX3_fits_22
set_option maxHeartbeats 4000000 in
set_option maxRecDepth 100000 in
theorem c_X3_firstFault (l : Launch) (G : zG) (x sg : Nat) (g : Nat → Nat) (n : Nat) (hg : ∀ i, g i < 256) (hn : n ≤ 60) : MI l yX3_firstFault wsX3_firstFault ({ frames := 2, cells := 0, slots := 0, locals := 43 }) G [.ref x] [(x, .inr (2, [.ref sg, .int (nI n)])), zA G sg 60 g] (zFF g n) [(x, .inr (2, [.ref sg, .int (nI n)])), zA G sg 60 g] := by
  refine MI.enter (cc := cX3_firstFault) (maxL := 2) (by decide) rfl (Nat.le_of_ble_eq_true rfl) rfl ?_
  intro pM eM sM mM bM tM cM QM AM ls hat kret
  obtain ⟨SM, hA, hK, hE, hP, hD, hS, hl⟩ := hat
  have hx := SM.1
  have hb := SM.2.1
  have hown : sM.vm.findClass RX3 = some mM.cls := SM.2.2.2.1
  have hts := SM.2.2.2.2
  have hinX3 : ∀ w ∈ u_ws RX3 TX3 2, w ∈ wsX3_firstFault := by decide +kernel
  have hlk15 : (Cond.fieldLink RX3 15 "DyckReachability$GraphText" "length" "I").before _ sM = true := hts _ (by decide +kernel)
  have hl : lv_has ls 2 [(0, .ref x)] := hl
  refine lv_iconst (v := nI 0) hx hb dX3_firstFault_0 (by decide) ?_
  refine lv_istore_n (lv' := [(1, .int (nI 0)), (0, .ref x)]) hx hb dX3_firstFault_1 rfl hl (by decide) rfl (fun ls hl => ?_)
  have lp2 : ∀ (n9 : Nat), ∀ (i : Nat), (i ≤ n) → (∀ j, j < i → zFltP g j = false) → (n - i) < n9 → ∀ (H : Heap) (locs : List Loc) (ls : Array Slot), va_P G.1 vwCl [(x, .inr (2, [.ref sg, .int (nI n)])), zA G sg 60 g] H → va_D AM [(x, .inr (2, [.ref sg, .int (nI n)])), zA G sg 60 g] → va_S AM sM.heap H locs → lv_has ls 2 [(0, .ref x), (1, .int (nI i))] → W pM l eM ({ frames := 2, cells := 0, slots := 0, locals := 43 }) sM mM (([.ref x] : List Value).toArray) bM tM cM H locs 0 0 QM (F0 mM 2 ls []) := by
    intro n9
    induction n9 with
    | zero =>
      intro _ _ _ h9
      exact absurd h9 (Nat.not_lt_zero _)
    | succ n9 ih9 =>
      intro i h1 h2 hmu2 H locs ls hP hD hS hl
      have ih2 := ih9
      clear ih9
      refine lv_iload_n hx hb dX3_firstFault_2 rfl (lv_at hl 1 rfl) ?_
      refine lv_aload_n hx hb dX3_firstFault_3 rfl (lv_at hl 0 rfl) ?_
      refine va_get (D := G.1) (ci := 2) (v := .int (nI n)) (C := RX3) (T := TX3) (N := 2) hx hb hts hinX3 hown hK hP 0 rfl rfl 1 (by decide) hlk15 (fun _ h9 => h9) rfl dX3_firstFault_4 ?_
      refine zn_ge (tgt := 26) hx hb dX3_firstFault_7 (by decide) (by omega) (by omega) (fun c_1 => ?_) (fun c_1 => ?_)
      · skip
        refine lv_aload_n hx hb dX3_firstFault_26 rfl (lv_at hl 0 rfl) ?_
        refine va_get (D := G.1) (ci := 2) (v := .int (nI n)) (C := RX3) (T := TX3) (N := 2) hx hb hts hinX3 hown hK hP 0 rfl rfl 1 (by decide) hlk15 (fun _ h9 => h9) rfl dX3_firstFault_27 ?_
        refine lv_iconst (v := nI 2) hx hb dX3_firstFault_30 (by decide) ?_
        refine zn_lt (tgt := 49) hx hb dX3_firstFault_31 (by decide) (by omega) (by omega) (fun c_2 => ?_) (fun c_2 => ?_)
        · skip
          refine lv_iconst (v := nI 0) hx hb dX3_firstFault_49 (by decide) ?_
          refine lv_istore_n (lv' := [(1, .int (nI 0)), (0, .ref x)]) hx hb dX3_firstFault_50 rfl hl (by decide) rfl (fun ls hl => ?_)
          refine lv_iload_n hx hb dX3_firstFault_51 rfl (lv_at hl 0 rfl) ?_
          refine zk_eq_t (tgt := 60) hx hb dX3_firstFault_52 (by decide) (by decide) ?_
          refine lv_aload_n hx hb dX3_firstFault_60 rfl (lv_at hl 1 rfl) ?_
          refine va_get (D := G.1) (ci := 2) (v := .int (nI n)) (C := RX3) (T := TX3) (N := 2) hx hb hts hinX3 hown hK hP 0 rfl rfl 1 (by decide) hlk15 (fun _ h9 => h9) rfl dX3_firstFault_61 ?_
          exact kret _ _ _ _ _ _ (by have hq9 : i = n := (by omega); subst hq9; unfold zFF zFlt; rw [zFst_none h2, if_neg (Nat.lt_irrefl _)]; first | rw [if_pos (by omega)] | rw [if_neg (by omega)]) rfl hP hD hS dX3_firstFault_64
        · skip
          refine lv_aload_n hx hb dX3_firstFault_34 rfl (lv_at hl 0 rfl) ?_
          refine va_get (D := G.1) (ci := 2) (v := .int (nI n)) (C := RX3) (T := TX3) (N := 2) hx hb hts hinX3 hown hK hP 0 rfl rfl 1 (by decide) hlk15 (fun _ h9 => h9) rfl dX3_firstFault_35 ?_
          refine lv_iconst (v := nI 2) hx hb dX3_firstFault_38 (by decide) ?_
          refine zi_sub hx hb dX3_firstFault_39 (by omega) ?_
          refine lv_iconst (v := nI 3) hx hb dX3_firstFault_40 (by decide) ?_
          refine zi_rem hx hb dX3_firstFault_41 (by omega) (by omega) (by omega) ?_
          refine zd_ne (a := ((n - 2) % 3 : Nat)) (tgt := 49) hx hb dX3_firstFault_42 (by decide) (zI (by omega)) (fun c_4 => ?_) (fun c_4 => ?_)
          · skip
            refine lv_iconst (v := nI 0) hx hb dX3_firstFault_49 (by decide) ?_
            refine lv_istore_n (lv' := [(1, .int (nI 0)), (0, .ref x)]) hx hb dX3_firstFault_50 rfl hl (by decide) rfl (fun ls hl => ?_)
            refine lv_iload_n hx hb dX3_firstFault_51 rfl (lv_at hl 0 rfl) ?_
            refine zk_eq_t (tgt := 60) hx hb dX3_firstFault_52 (by decide) (by decide) ?_
            refine lv_aload_n hx hb dX3_firstFault_60 rfl (lv_at hl 1 rfl) ?_
            refine va_get (D := G.1) (ci := 2) (v := .int (nI n)) (C := RX3) (T := TX3) (N := 2) hx hb hts hinX3 hown hK hP 0 rfl rfl 1 (by decide) hlk15 (fun _ h9 => h9) rfl dX3_firstFault_61 ?_
            exact kret _ _ _ _ _ _ (by have hq9 : i = n := (by omega); subst hq9; unfold zFF zFlt; rw [zFst_none h2, if_neg (Nat.lt_irrefl _)]; first | rw [if_pos (by omega)] | rw [if_neg (by omega)]) rfl hP hD hS dX3_firstFault_64
          · skip
            refine lv_iconst (v := nI 1) hx hb dX3_firstFault_45 (by decide) ?_
            refine lv_goto (tgt := 50) hx hb dX3_firstFault_46 (by decide) ?_
            refine lv_istore_n (lv' := [(1, .int (nI 1)), (0, .ref x)]) hx hb dX3_firstFault_50 rfl hl (by decide) rfl (fun ls hl => ?_)
            refine lv_iload_n hx hb dX3_firstFault_51 rfl (lv_at hl 0 rfl) ?_
            refine zk_eq_f hx hb dX3_firstFault_52 (by decide) ?_
            refine lv_bipush (v := (-9)) hx hb dX3_firstFault_55 (by decide) ?_
            refine lv_goto (tgt := 64) hx hb dX3_firstFault_57 (by decide) ?_
            exact kret _ _ _ _ _ _ (by have hq9 : i = n := (by omega); subst hq9; unfold zFF zFlt; rw [zFst_none h2, if_neg (Nat.lt_irrefl _)]; first | rw [if_pos (by omega)] | rw [if_neg (by omega)]) rfl hP hD hS dX3_firstFault_64
      · skip
        refine lv_aload_n hx hb dX3_firstFault_10 rfl (lv_at hl 0 rfl) ?_
        refine lv_iload_n hx hb dX3_firstFault_11 rfl (lv_at hl 1 rfl) ?_
        refine zVi (W1 := [(x, .inr (2, [.ref sg, .int (nI n)])), zA G sg 60 g]) (W2 := [(x, .inr (2, [.ref sg, .int (nI n)])), zA G sg 60 g]) (wr := []) (rest := []) SM (c_X3_fits l G x sg g n i (by first | assumption | omega) (by first | assumption | omega) (fun h9 => zFit_1 (by have h8 := h2 1 (by omega); simpa [zFltP] using h8))) (cwV 1 hts gX3_firstFault_X3_fits rfl rfl rfl (by decide +kernel) ⟨Nat.le_of_ble_eq_true rfl, Nat.le_of_ble_eq_true rfl⟩) hK hE hA hP hD hS hl.1 [0, 1] [] [0, 1] rfl rfl rfl (by decide) (ci := 2) rfl rfl rfl rfl rfl (Nat.le_of_ble_eq_true rfl) ⟨Nat.zero_le _, Nat.zero_le _⟩ dX3_firstFault_12 (fun H locs hP hD hS => ?_)
        refine zb_ne (tgt := 20) hx hb dX3_firstFault_15 (by decide) (fun c_7 => ?_) (fun c_7 => ?_)
        · skip
          refine lv_iinc (v := nI (i + 1)) (lv' := [(1, .int (nI (i + 1))), (0, .ref x)]) hx hb dX3_firstFault_20 hl (k := 1) rfl (zinc i 1) (by decide) rfl (fun ls hl => ?_)
          refine lv_goto (tgt := 2) hx hb dX3_firstFault_23 (by decide) ?_
          exact ih2 (i + 1) (by first | assumption | omega) (lt_s h2 (by simp only [zFltP]; simp_all)) (by omega) _ _ _ hP hD hS (lv_sub hl [1, 0] rfl)
        · skip
          refine lv_iload_n hx hb dX3_firstFault_18 rfl (lv_at hl 1 rfl) ?_
          exact kret _ _ _ _ _ _ (by have hz := zFst_at h2 (show zFltP g i = true by simp only [zFltP]; simp_all) (n := n) (by omega); unfold zFF zFlt; rw [hz, if_pos (by omega)]) rfl hP hD hS dX3_firstFault_19
  exact lp2 (n - 0 + 1) 0 (by first | assumption | omega) (fun i hi => absurd hi (Nat.not_lt_zero i)) (Nat.lt_succ_self _) _ _ _ hP hD hS (lv_sub hl [1, 0] rfl)
set_option maxHeartbeats 4000000 in
set_option maxRecDepth 100000 in
theorem c_X3_writeEdgesTo (l : Launch) (G : zG) (x sg : Nat) (g : Nat → Nat) (n : Nat) (e a1 a2 a3 : Nat) (cap : Nat) (s t lb : Nat → Nat) (k : Nat) (m : Nat) (hg : ∀ i, g i < 256) (hn : n = 2 + 3 * m) (hm : m ≤ 16) (hcp : m ≤ cap) (hc : cap < 2147483648) (hfit : ∀ i, i < n → zFit g i = true) : MV l yX3_writeEdgesTo wsX3_writeEdgesTo ({ frames := 2, cells := 0, slots := 0, locals := 43 }) G [.ref x, .ref e] [(x, .inr (2, [.ref sg, .int (nI n)])), zA G sg 60 g, (e, .inr (1, [.ref a1, .ref a2, .ref a3, .int (nI k)])), zA G a1 cap s, zA G a2 cap t, zA G a3 cap lb] [(x, .inr (2, [.ref sg, .int (nI n)])), zA G sg 60 g, (e, .inr (1, [.ref a1, .ref a2, .ref a3, .int (nI m)])), zA G a1 cap (zTk s (zWs g) m), zA G a2 cap (zTk t (zWt g) m), zA G a3 cap (zTk lb (zWl g) m)] := by
  refine MV.enter (cc := cX3_writeEdgesTo) (maxL := 3) (by decide) rfl (Nat.le_of_ble_eq_true rfl) ?_
  intro pM eM sM mM bM tM cM QM AM ls hat kret
  obtain ⟨SM, hA, hK, hE, hP, hD, hS, hl⟩ := hat
  have hx := SM.1
  have hb := SM.2.1
  have hown : sM.vm.findClass RX3 = some mM.cls := SM.2.2.2.1
  have hts := SM.2.2.2.2
  have hinX2 : ∀ w ∈ u_ws RX2 TX2 4, w ∈ wsX3_writeEdgesTo := by decide +kernel
  have hlk39 : (Cond.fieldLink RX3 39 "DyckReachability$Edges" "size" "I").before _ sM = true := hts _ (by decide +kernel)
  have hinX3 : ∀ w ∈ u_ws RX3 TX3 2, w ∈ wsX3_writeEdgesTo := by decide +kernel
  have hlk15 : (Cond.fieldLink RX3 15 "DyckReachability$GraphText" "length" "I").before _ sM = true := hts _ (by decide +kernel)
  have hlk11 : (Cond.fieldLink RX3 11 "DyckReachability$GraphText" "signs" "[I").before _ sM = true := hts _ (by decide +kernel)
  have hl : lv_has ls 3 [(0, .ref x), (1, .ref e)] := hl
  refine lv_aload_n hx hb dX3_writeEdgesTo_0 rfl (lv_at hl 1 rfl) ?_
  refine lv_iconst (v := nI 0) hx hb dX3_writeEdgesTo_1 (by decide) ?_
  refine va_put (D := G.1) (ci := 1) (v := .int (nI 0)) (ty := .int) (C := RX2) (T := TX2) (N := 4) hx hb hts hinX2 tyX2 tyX2_ok nmX2 hown hK hP hD hS 2 rfl rfl 3 (by decide) hlk39 (fun _ h9 => h9) rfl (by decide +kernel) rfl rfl (Nat.le_of_ble_eq_true rfl) dX3_writeEdgesTo_2 (fun H locs hP hD hS => ?_)
  have hP : va_P G.1 vwCl [(x, .inr (2, [.ref sg, .int (nI n)])), zA G sg 60 g, (e, .inr (1, [.ref a1, .ref a2, .ref a3, .int (nI 0)])), zA G a1 cap s, zA G a2 cap t, zA G a3 cap lb] H := hP
  have hD : va_D AM [(x, .inr (2, [.ref sg, .int (nI n)])), zA G sg 60 g, (e, .inr (1, [.ref a1, .ref a2, .ref a3, .int (nI 0)])), zA G a1 cap s, zA G a2 cap t, zA G a3 cap lb] := hD
  refine lv_iconst (v := nI 2) hx hb dX3_writeEdgesTo_5 (by decide) ?_
  refine lv_istore_n (lv' := [(2, .int (nI 2)), (0, .ref x), (1, .ref e)]) hx hb dX3_writeEdgesTo_6 rfl hl (by decide) rfl (fun ls hl => ?_)
  have lp7 : ∀ (n9 : Nat), ∀ (q : Nat), (q ≤ m) → (m - q) < n9 → ∀ (H : Heap) (locs : List Loc) (ls : Array Slot), va_P G.1 vwCl [(x, .inr (2, [.ref sg, .int (nI n)])), zA G sg 60 g, (e, .inr (1, [.ref a1, .ref a2, .ref a3, .int (nI q)])), zA G a1 cap (zTk s (zWs g) q), zA G a2 cap (zTk t (zWt g) q), zA G a3 cap (zTk lb (zWl g) q)] H → va_D AM [(x, .inr (2, [.ref sg, .int (nI n)])), zA G sg 60 g, (e, .inr (1, [.ref a1, .ref a2, .ref a3, .int (nI q)])), zA G a1 cap (zTk s (zWs g) q), zA G a2 cap (zTk t (zWt g) q), zA G a3 cap (zTk lb (zWl g) q)] → va_S AM sM.heap H locs → lv_has ls 3 [(0, .ref x), (1, .ref e), (2, .int (nI (2 + 3 * q)))] → W pM l eM ({ frames := 2, cells := 0, slots := 0, locals := 43 }) sM mM (([.ref x, .ref e] : List Value).toArray) bM tM cM H locs 0 0 QM (F0 mM 7 ls []) := by
    intro n9
    induction n9 with
    | zero =>
      intro _ _ h9
      exact absurd h9 (Nat.not_lt_zero _)
    | succ n9 ih9 =>
      intro q h1 hmu7 H locs ls hP hD hS hl
      have ih7 := ih9
      clear ih9
      refine lv_iload_n hx hb dX3_writeEdgesTo_7 rfl (lv_at hl 2 rfl) ?_
      refine lv_iconst (v := nI 2) hx hb dX3_writeEdgesTo_8 (by decide) ?_
      refine zi_addk (n := (2 + 3 * q) + 2) hx hb dX3_writeEdgesTo_9 (by omega) ?_
      refine lv_aload_n hx hb dX3_writeEdgesTo_10 rfl (lv_at hl 0 rfl) ?_
      refine va_get (D := G.1) (ci := 2) (v := .int (nI n)) (C := RX3) (T := TX3) (N := 2) hx hb hts hinX3 hown hK hP 0 rfl rfl 1 (by decide) hlk15 (fun _ h9 => h9) rfl dX3_writeEdgesTo_11 ?_
      refine zn_ge (tgt := 58) hx hb dX3_writeEdgesTo_14 (by decide) (by omega) (by omega) (fun c_1 => ?_) (fun c_1 => ?_)
      · skip
        exact kret _ _ _ _ _ (by have hq9 : q = m := (by omega); subst hq9; rfl) hP hD hS dX3_writeEdgesTo_58
      · skip
        have f1 := zFit_s (hfit (2 + 3 * q) (by omega))
        have f2 := zFit_t (hfit (2 + 3 * q + 1) (by omega))
        have f3 := zFit_l (hfit (2 + 3 * q + 2) (by omega))
        refine lv_aload_n hx hb dX3_writeEdgesTo_17 rfl (lv_at hl 1 rfl) ?_
        refine lv_aload_n hx hb dX3_writeEdgesTo_18 rfl (lv_at hl 0 rfl) ?_
        refine va_get (D := G.1) (ci := 2) (v := .ref sg) (C := RX3) (T := TX3) (N := 2) hx hb hts hinX3 hown hK hP 0 rfl rfl 0 (by decide) hlk11 (fun _ h9 => h9) rfl dX3_writeEdgesTo_19 ?_
        refine lv_iload_n hx hb dX3_writeEdgesTo_22 rfl (lv_at hl 2 rfl) ?_
        refine zi_ald hx hb hK hP 1 rfl (by omega) (by omega) dX3_writeEdgesTo_23 ?_
        have hb_2 := hg (2 + 3 * q)
        refine lv_bipush (v := nI 48) hx hb dX3_writeEdgesTo_24 (by decide) ?_
        refine zi_sub hx hb dX3_writeEdgesTo_26 (by omega) ?_
        refine lv_aload_n hx hb dX3_writeEdgesTo_27 rfl (lv_at hl 0 rfl) ?_
        refine va_get (D := G.1) (ci := 2) (v := .ref sg) (C := RX3) (T := TX3) (N := 2) hx hb hts hinX3 hown hK hP 0 rfl rfl 0 (by decide) hlk11 (fun _ h9 => h9) rfl dX3_writeEdgesTo_28 ?_
        refine lv_iload_n hx hb dX3_writeEdgesTo_31 rfl (lv_at hl 2 rfl) ?_
        refine lv_iconst (v := nI 1) hx hb dX3_writeEdgesTo_32 (by decide) ?_
        refine zi_addk (n := (2 + 3 * q) + 1) hx hb dX3_writeEdgesTo_33 (by omega) ?_
        refine zi_ald hx hb hK hP 1 rfl (by omega) (by omega) dX3_writeEdgesTo_34 ?_
        have hb_3 := hg ((2 + 3 * q) + 1)
        refine lv_bipush (v := nI 48) hx hb dX3_writeEdgesTo_35 (by decide) ?_
        refine zi_sub hx hb dX3_writeEdgesTo_37 (by omega) ?_
        refine lv_aload_n hx hb dX3_writeEdgesTo_38 rfl (lv_at hl 0 rfl) ?_
        refine va_get (D := G.1) (ci := 2) (v := .ref sg) (C := RX3) (T := TX3) (N := 2) hx hb hts hinX3 hown hK hP 0 rfl rfl 0 (by decide) hlk11 (fun _ h9 => h9) rfl dX3_writeEdgesTo_39 ?_
        refine lv_iload_n hx hb dX3_writeEdgesTo_42 rfl (lv_at hl 2 rfl) ?_
        refine lv_iconst (v := nI 2) hx hb dX3_writeEdgesTo_43 (by decide) ?_
        refine zi_addk (n := (2 + 3 * q) + 2) hx hb dX3_writeEdgesTo_44 (by omega) ?_
        refine zi_ald hx hb hK hP 1 rfl (by omega) (by omega) dX3_writeEdgesTo_45 ?_
        have hb_4 := hg ((2 + 3 * q) + 2)
        refine zSi (W1 := [(x, .inr (2, [.ref sg, .int (nI n)])), zA G sg 60 g, (e, .inr (1, [.ref a1, .ref a2, .ref a3, .int (nI q)])), zA G a1 cap (zTk s (zWs g) q), zA G a2 cap (zTk t (zWt g) q), zA G a3 cap (zTk lb (zWl g) q)]) (W2 := [(x, .inr (2, [.ref sg, .int (nI n)])), zA G sg 60 g, (e, .inr (1, [.ref a1, .ref a2, .ref a3, .int (nI q)])), zA G a1 cap (zTk s (zWs g) q), zA G a2 cap (zTk t (zWt g) q), zA G a3 cap (zTk lb (zWl g) q)]) (wr := [(x, .inr (2, [.ref sg, .int (nI n)])), zA G sg 60 g, (e, .inr (1, [.ref a1, .ref a2, .ref a3, .int (nI q)])), zA G a1 cap (zTk s (zWs g) q), zA G a2 cap (zTk t (zWt g) q), zA G a3 cap (zTk lb (zWl g) q)]) (rest := [.int (nI ((g ((2 + 3 * q) + 1)) - 48)), .int (nI ((g (2 + 3 * q)) - 48)), .ref e]) SM (c_X3_labelOf l G (g ((2 + 3 * q) + 2)) (by first | assumption | omega)) (va_cwS 1 hts gX3_writeEdgesTo_X3_labelOf rfl rfl rfl (by decide +kernel) ⟨Nat.le_of_ble_eq_true rfl, Nat.le_of_ble_eq_true rfl⟩) hK hE hA hP hD hS hl.1 [] [0, 1, 2, 3, 4, 5] [0, 1, 2, 3, 4, 5] rfl rfl rfl (by decide) rfl rfl (Nat.le_of_ble_eq_true rfl) ⟨Nat.zero_le _, Nat.zero_le _⟩ dX3_writeEdgesTo_46 (fun H locs hP hD hS => ?_)
        refine zti (y := nI (zLo (g (2 + 3 * q + 2)))) (zOr9_lt f3.1) ?_
        refine zVv (W1 := [(x, .inr (2, [.ref sg, .int (nI n)])), zA G sg 60 g, (e, .inr (1, [.ref a1, .ref a2, .ref a3, .int (nI q)])), zA G a1 cap (zTk s (zWs g) q), zA G a2 cap (zTk t (zWt g) q), zA G a3 cap (zTk lb (zWl g) q)]) (W2 := [(x, .inr (2, [.ref sg, .int (nI n)])), zA G sg 60 g, (e, .inr (1, [.ref a1, .ref a2, .ref a3, .int (nI (q + 1))])), zA G a1 cap (zU (zTk s (zWs g) q) q ((g (2 + 3 * q)) - 48)), zA G a2 cap (zU (zTk t (zWt g) q) q ((g ((2 + 3 * q) + 1)) - 48)), zA G a3 cap (zU (zTk lb (zWl g) q) q (zLo (g (2 + 3 * q + 2))))]) (wr := [(x, .inr (2, [.ref sg, .int (nI n)])), zA G sg 60 g]) (rest := []) SM (c_X2_put_N l G e a1 a2 a3 cap (zTk s (zWs g) q) (zTk t (zWt g) q) (zTk lb (zWl g) q) q ((g (2 + 3 * q)) - 48) ((g ((2 + 3 * q) + 1)) - 48) (zLo (g (2 + 3 * q + 2))) (by first | assumption | omega) (by first | assumption | omega)) (cwV 3 hts gX3_writeEdgesTo_X2_put rfl rfl rfl (by decide +kernel) ⟨Nat.le_of_ble_eq_true rfl, Nat.le_of_ble_eq_true rfl⟩) hK hE hA hP hD hS hl.1 [2, 3, 4, 5] [0, 1] [0, 1, 2, 3, 4, 5] rfl rfl rfl (by decide) (ci := 1) rfl rfl rfl rfl rfl (Nat.le_of_ble_eq_true rfl) ⟨Nat.zero_le _, Nat.zero_le _⟩ dX3_writeEdgesTo_49 (fun H locs hP hD hS => ?_)
        refine lv_iinc (v := nI ((2 + 3 * q) + 3)) (lv' := [(2, .int (nI ((2 + 3 * q) + 3))), (0, .ref x), (1, .ref e)]) hx hb dX3_writeEdgesTo_52 hl (k := 2) rfl (zinc (2 + 3 * q) 3) (by decide) rfl (fun ls hl => ?_)
        refine lv_goto (tgt := 7) hx hb dX3_writeEdgesTo_55 (by decide) ?_
        have hP : va_P G.1 vwCl [(x, .inr (2, [.ref sg, .int (nI n)])), zA G sg 60 g, (e, .inr (1, [.ref a1, .ref a2, .ref a3, .int (nI (q + 1))])), zA G a1 cap (zTk s (zWs g) (q + 1)), zA G a2 cap (zTk t (zWt g) (q + 1)), zA G a3 cap (zTk lb (zWl g) (q + 1))] H := by (simp only [zTk_step]); exact hP
        have hD : va_D AM [(x, .inr (2, [.ref sg, .int (nI n)])), zA G sg 60 g, (e, .inr (1, [.ref a1, .ref a2, .ref a3, .int (nI (q + 1))])), zA G a1 cap (zTk s (zWs g) (q + 1)), zA G a2 cap (zTk t (zWt g) (q + 1)), zA G a3 cap (zTk lb (zWl g) (q + 1))] := by (simp only [zTk_step]); exact hD
        have hl : lv_has ls 3 [(0, .ref x), (1, .ref e), (2, .int (nI (2 + 3 * (q + 1))))] := by (rw [show 2 + 3 * (q + 1) = 2 + 3 * q + 3 by omega]); exact (lv_sub hl [1, 2, 0] rfl)
        exact ih7 (q + 1) (by first | assumption | omega) (by omega) _ _ _ hP hD hS hl
  have hP : va_P G.1 vwCl [(x, .inr (2, [.ref sg, .int (nI n)])), zA G sg 60 g, (e, .inr (1, [.ref a1, .ref a2, .ref a3, .int (nI 0)])), zA G a1 cap (zTk s (zWs g) 0), zA G a2 cap (zTk t (zWt g) 0), zA G a3 cap (zTk lb (zWl g) 0)] H := by (simp only [zTk_0]); exact hP
  have hD : va_D AM [(x, .inr (2, [.ref sg, .int (nI n)])), zA G sg 60 g, (e, .inr (1, [.ref a1, .ref a2, .ref a3, .int (nI 0)])), zA G a1 cap (zTk s (zWs g) 0), zA G a2 cap (zTk t (zWt g) 0), zA G a3 cap (zTk lb (zWl g) 0)] := by (simp only [zTk_0]); exact hD
  exact lp7 (m - 0 + 1) 0 (by first | assumption | omega) (Nat.lt_succ_self _) _ _ _ hP hD hS (lv_sub hl [1, 2, 0] rfl)
set_option maxHeartbeats 4000000 in
set_option maxRecDepth 100000 in
theorem c_X4_remember (l : Launch) (G : zG) (h st : Nat) (fr : Nat → Option Nat) (nx sz : Nat) (q0 q1 q2 q3 : Nat) (s0 t0 l0 : Nat → Nat) (k0 : Nat) (e a1 a2 a3 : Nat) (s t lb : Nat → Nat) (k : Nat) (hnx : nx < 14) (hsz : sz ≤ 14) (hq0 : fr nx = some q0) (hk : k ≤ 16) : MV l yX4_remember wsX4_remember ({ frames := 3, cells := 0, slots := 0, locals := 65 }) G [.ref h, .ref e] [(h, .inr (3, [.ref st, .int (nI nx), .int (nI sz)])), zR G st 14 fr, (q0, .inr (1, [.ref q1, .ref q2, .ref q3, .int (nI k0)])), zA G q1 16 s0, zA G q2 16 t0, zA G q3 16 l0, (e, .inr (1, [.ref a1, .ref a2, .ref a3, .int (nI k)])), zA G a1 16 s, zA G a2 16 t, zA G a3 16 lb] [(h, .inr (3, [.ref st, .int (nI (zNx nx)), .int (nI (min (sz + 1) 14))])), zR G st 14 fr, (q0, .inr (1, [.ref q1, .ref q2, .ref q3, .int (nI k)])), zA G q1 16 (zTk s0 s k), zA G q2 16 (zTk t0 t k), zA G q3 16 (zTk l0 lb k), (e, .inr (1, [.ref a1, .ref a2, .ref a3, .int (nI k)])), zA G a1 16 s, zA G a2 16 t, zA G a3 16 lb] := by
  refine MV.enter (cc := cX4_remember) (maxL := 2) (by decide) rfl (Nat.le_of_ble_eq_true rfl) ?_
  intro pM eM sM mM bM tM cM QM AM ls hat kret
  obtain ⟨SM, hA, hK, hE, hP, hD, hS, hl⟩ := hat
  have hx := SM.1
  have hb := SM.2.1
  have hown : sM.vm.findClass RX4 = some mM.cls := SM.2.2.2.1
  have hts := SM.2.2.2.2
  have hinX4 : ∀ w ∈ u_ws RX4 TX4 3, w ∈ wsX4_remember := by decide +kernel
  have hlk13 : (Cond.fieldLink RX4 13 "DyckReachability$History" "states" "[LDyckReachability$Edges;").before _ sM = true := hts _ (by decide +kernel)
  have hlk20 : (Cond.fieldLink RX4 20 "DyckReachability$History" "next" "I").before _ sM = true := hts _ (by decide +kernel)
  have hlk24 : (Cond.fieldLink RX4 24 "DyckReachability$History" "size" "I").before _ sM = true := hts _ (by decide +kernel)
  have hl : lv_has ls 2 [(0, .ref h), (1, .ref e)] := hl
  refine lv_aload_n hx hb dX4_remember_0 rfl (lv_at hl 0 rfl) ?_
  refine va_get (D := G.1) (ci := 3) (v := .ref st) (C := RX4) (T := TX4) (N := 3) hx hb hts hinX4 hown hK hP 0 rfl rfl 0 (by decide) hlk13 (fun _ h9 => h9) rfl dX4_remember_1 ?_
  refine lv_aload_n hx hb dX4_remember_4 rfl (lv_at hl 0 rfl) ?_
  refine va_get (D := G.1) (ci := 3) (v := .int (nI nx)) (C := RX4) (T := TX4) (N := 3) hx hb hts hinX4 hown hK hP 0 rfl rfl 1 (by decide) hlk20 (fun _ h9 => h9) rfl dX4_remember_5 ?_
  refine zr_ald (x := q0) hx hb hK hP 1 rfl (by omega) (by omega) hq0 dX4_remember_8 ?_
  refine lv_aload_n hx hb dX4_remember_9 rfl (lv_at hl 1 rfl) ?_
  refine zVv (W1 := [(h, .inr (3, [.ref st, .int (nI nx), .int (nI sz)])), zR G st 14 fr, (q0, .inr (1, [.ref q1, .ref q2, .ref q3, .int (nI k0)])), zA G q1 16 s0, zA G q2 16 t0, zA G q3 16 l0, (e, .inr (1, [.ref a1, .ref a2, .ref a3, .int (nI k)])), zA G a1 16 s, zA G a2 16 t, zA G a3 16 lb]) (W2 := [(h, .inr (3, [.ref st, .int (nI nx), .int (nI sz)])), zR G st 14 fr, (q0, .inr (1, [.ref q1, .ref q2, .ref q3, .int (nI k)])), zA G q1 16 (zTk s0 s k), zA G q2 16 (zTk t0 t k), zA G q3 16 (zTk l0 lb k), (e, .inr (1, [.ref a1, .ref a2, .ref a3, .int (nI k)])), zA G a1 16 s, zA G a2 16 t, zA G a3 16 lb]) (wr := [(h, .inr (3, [.ref st, .int (nI nx), .int (nI sz)])), zR G st 14 fr]) (rest := []) SM (c_X2_take l G q0 q1 q2 q3 16 s0 t0 l0 k0 e a1 a2 a3 16 s t lb k (by first | assumption | omega) (by first | assumption | omega) (by first | assumption | omega) (by first | assumption | omega)) (cwV 1 hts gX4_remember_X2_take rfl rfl rfl (by decide +kernel) ⟨Nat.le_of_ble_eq_true rfl, Nat.le_of_ble_eq_true rfl⟩) hK hE hA hP hD hS hl.1 [2, 3, 4, 5, 6, 7, 8, 9] [0, 1] [0, 1, 2, 3, 4, 5, 6, 7, 8, 9] rfl rfl rfl (by decide) (ci := 1) rfl rfl rfl rfl rfl (Nat.le_of_ble_eq_true rfl) ⟨Nat.zero_le _, Nat.zero_le _⟩ dX4_remember_10 (fun H locs hP hD hS => ?_)
  refine lv_aload_n hx hb dX4_remember_13 rfl (lv_at hl 0 rfl) ?_
  refine lv_aload_n hx hb dX4_remember_14 rfl (lv_at hl 0 rfl) ?_
  refine va_get (D := G.1) (ci := 3) (v := .int (nI nx)) (C := RX4) (T := TX4) (N := 3) hx hb hts hinX4 hown hK hP 0 rfl rfl 1 (by decide) hlk20 (fun _ h9 => h9) rfl dX4_remember_15 ?_
  refine lv_iconst (v := nI 1) hx hb dX4_remember_18 (by decide) ?_
  refine zi_addk (n := nx + 1) hx hb dX4_remember_19 (by omega) ?_
  refine lv_bipush (v := nI 14) hx hb dX4_remember_20 (by decide) ?_
  refine zn_ge (tgt := 34) hx hb dX4_remember_22 (by decide) (by omega) (by omega) (fun c_1 => ?_) (fun c_1 => ?_)
  · skip
    refine lv_iconst (v := nI 0) hx hb dX4_remember_34 (by decide) ?_
    refine va_put (D := G.1) (ci := 3) (v := .int (nI 0)) (ty := .int) (C := RX4) (T := TX4) (N := 3) hx hb hts hinX4 tyX4 tyX4_ok nmX4 hown hK hP hD hS 0 rfl rfl 1 (by decide) hlk20 (fun _ h9 => h9) rfl (by decide +kernel) rfl rfl (Nat.le_of_ble_eq_true rfl) dX4_remember_35 (fun H locs hP hD hS => ?_)
    have hP : va_P G.1 vwCl [(h, .inr (3, [.ref st, .int (nI 0), .int (nI sz)])), zR G st 14 fr, (q0, .inr (1, [.ref q1, .ref q2, .ref q3, .int (nI k)])), zA G q1 16 (zTk s0 s k), zA G q2 16 (zTk t0 t k), zA G q3 16 (zTk l0 lb k), (e, .inr (1, [.ref a1, .ref a2, .ref a3, .int (nI k)])), zA G a1 16 s, zA G a2 16 t, zA G a3 16 lb] H := hP
    have hD : va_D AM [(h, .inr (3, [.ref st, .int (nI 0), .int (nI sz)])), zR G st 14 fr, (q0, .inr (1, [.ref q1, .ref q2, .ref q3, .int (nI k)])), zA G q1 16 (zTk s0 s k), zA G q2 16 (zTk t0 t k), zA G q3 16 (zTk l0 lb k), (e, .inr (1, [.ref a1, .ref a2, .ref a3, .int (nI k)])), zA G a1 16 s, zA G a2 16 t, zA G a3 16 lb] := hD
    refine lv_aload_n hx hb dX4_remember_38 rfl (lv_at hl 0 rfl) ?_
    refine lv_aload_n hx hb dX4_remember_39 rfl (lv_at hl 0 rfl) ?_
    refine va_get (D := G.1) (ci := 3) (v := .int (nI sz)) (C := RX4) (T := TX4) (N := 3) hx hb hts hinX4 hown hK hP 0 rfl rfl 2 (by decide) hlk24 (fun _ h9 => h9) rfl dX4_remember_40 ?_
    refine lv_iconst (v := nI 1) hx hb dX4_remember_43 (by decide) ?_
    refine zi_addk (n := sz + 1) hx hb dX4_remember_44 (by omega) ?_
    refine lv_bipush (v := nI 14) hx hb dX4_remember_45 (by decide) ?_
    refine va_mmin hx hb (SM.2.2.1.trans hl.1.symm) hown (hts (.methodLink RX4 31 Lib.Math.min.name) (by decide +kernel)) (hts (.static Lib.Math.min.name) (by decide +kernel)) (hts (.initialized "java/lang/Math") (by decide +kernel)) (hts (.code Lib.Math.min.name Lib.Math.min.code 2 (some .int)) (by decide +kernel)) (Nat.le_of_ble_eq_true rfl) (Nat.le_of_ble_eq_true rfl) (Nat.zero_le _) (Nat.zero_le _) dX4_remember_47 ?_
    refine zti (y := nI (min (sz + 1) 14)) (zmin (by omega) (by omega)) ?_
    refine va_put (D := G.1) (ci := 3) (v := .int (nI (min (sz + 1) 14))) (ty := .int) (C := RX4) (T := TX4) (N := 3) hx hb hts hinX4 tyX4 tyX4_ok nmX4 hown hK hP hD hS 0 rfl rfl 2 (by decide) hlk24 (fun _ h9 => h9) rfl (by decide +kernel) rfl rfl (Nat.le_of_ble_eq_true rfl) dX4_remember_50 (fun H locs hP hD hS => ?_)
    have hP : va_P G.1 vwCl [(h, .inr (3, [.ref st, .int (nI 0), .int (nI (min (sz + 1) 14))])), zR G st 14 fr, (q0, .inr (1, [.ref q1, .ref q2, .ref q3, .int (nI k)])), zA G q1 16 (zTk s0 s k), zA G q2 16 (zTk t0 t k), zA G q3 16 (zTk l0 lb k), (e, .inr (1, [.ref a1, .ref a2, .ref a3, .int (nI k)])), zA G a1 16 s, zA G a2 16 t, zA G a3 16 lb] H := hP
    have hD : va_D AM [(h, .inr (3, [.ref st, .int (nI 0), .int (nI (min (sz + 1) 14))])), zR G st 14 fr, (q0, .inr (1, [.ref q1, .ref q2, .ref q3, .int (nI k)])), zA G q1 16 (zTk s0 s k), zA G q2 16 (zTk t0 t k), zA G q3 16 (zTk l0 lb k), (e, .inr (1, [.ref a1, .ref a2, .ref a3, .int (nI k)])), zA G a1 16 s, zA G a2 16 t, zA G a3 16 lb] := hD
    exact kret _ _ _ _ _ (by unfold zNx; first | rw [if_pos (by omega)] | rw [if_neg (by omega)]) hP hD hS dX4_remember_53
  · skip
    refine lv_aload_n hx hb dX4_remember_25 rfl (lv_at hl 0 rfl) ?_
    refine va_get (D := G.1) (ci := 3) (v := .int (nI nx)) (C := RX4) (T := TX4) (N := 3) hx hb hts hinX4 hown hK hP 0 rfl rfl 1 (by decide) hlk20 (fun _ h9 => h9) rfl dX4_remember_26 ?_
    refine lv_iconst (v := nI 1) hx hb dX4_remember_29 (by decide) ?_
    refine zi_addk (n := nx + 1) hx hb dX4_remember_30 (by omega) ?_
    refine lv_goto (tgt := 35) hx hb dX4_remember_31 (by decide) ?_
    refine va_put (D := G.1) (ci := 3) (v := .int (nI (nx + 1))) (ty := .int) (C := RX4) (T := TX4) (N := 3) hx hb hts hinX4 tyX4 tyX4_ok nmX4 hown hK hP hD hS 0 rfl rfl 1 (by decide) hlk20 (fun _ h9 => h9) rfl (by decide +kernel) rfl rfl (Nat.le_of_ble_eq_true rfl) dX4_remember_35 (fun H locs hP hD hS => ?_)
    have hP : va_P G.1 vwCl [(h, .inr (3, [.ref st, .int (nI (nx + 1)), .int (nI sz)])), zR G st 14 fr, (q0, .inr (1, [.ref q1, .ref q2, .ref q3, .int (nI k)])), zA G q1 16 (zTk s0 s k), zA G q2 16 (zTk t0 t k), zA G q3 16 (zTk l0 lb k), (e, .inr (1, [.ref a1, .ref a2, .ref a3, .int (nI k)])), zA G a1 16 s, zA G a2 16 t, zA G a3 16 lb] H := hP
    have hD : va_D AM [(h, .inr (3, [.ref st, .int (nI (nx + 1)), .int (nI sz)])), zR G st 14 fr, (q0, .inr (1, [.ref q1, .ref q2, .ref q3, .int (nI k)])), zA G q1 16 (zTk s0 s k), zA G q2 16 (zTk t0 t k), zA G q3 16 (zTk l0 lb k), (e, .inr (1, [.ref a1, .ref a2, .ref a3, .int (nI k)])), zA G a1 16 s, zA G a2 16 t, zA G a3 16 lb] := hD
    refine lv_aload_n hx hb dX4_remember_38 rfl (lv_at hl 0 rfl) ?_
    refine lv_aload_n hx hb dX4_remember_39 rfl (lv_at hl 0 rfl) ?_
    refine va_get (D := G.1) (ci := 3) (v := .int (nI sz)) (C := RX4) (T := TX4) (N := 3) hx hb hts hinX4 hown hK hP 0 rfl rfl 2 (by decide) hlk24 (fun _ h9 => h9) rfl dX4_remember_40 ?_
    refine lv_iconst (v := nI 1) hx hb dX4_remember_43 (by decide) ?_
    refine zi_addk (n := sz + 1) hx hb dX4_remember_44 (by omega) ?_
    refine lv_bipush (v := nI 14) hx hb dX4_remember_45 (by decide) ?_
    refine va_mmin hx hb (SM.2.2.1.trans hl.1.symm) hown (hts (.methodLink RX4 31 Lib.Math.min.name) (by decide +kernel)) (hts (.static Lib.Math.min.name) (by decide +kernel)) (hts (.initialized "java/lang/Math") (by decide +kernel)) (hts (.code Lib.Math.min.name Lib.Math.min.code 2 (some .int)) (by decide +kernel)) (Nat.le_of_ble_eq_true rfl) (Nat.le_of_ble_eq_true rfl) (Nat.zero_le _) (Nat.zero_le _) dX4_remember_47 ?_
    refine zti (y := nI (min (sz + 1) 14)) (zmin (by omega) (by omega)) ?_
    refine va_put (D := G.1) (ci := 3) (v := .int (nI (min (sz + 1) 14))) (ty := .int) (C := RX4) (T := TX4) (N := 3) hx hb hts hinX4 tyX4 tyX4_ok nmX4 hown hK hP hD hS 0 rfl rfl 2 (by decide) hlk24 (fun _ h9 => h9) rfl (by decide +kernel) rfl rfl (Nat.le_of_ble_eq_true rfl) dX4_remember_50 (fun H locs hP hD hS => ?_)
    have hP : va_P G.1 vwCl [(h, .inr (3, [.ref st, .int (nI (nx + 1)), .int (nI (min (sz + 1) 14))])), zR G st 14 fr, (q0, .inr (1, [.ref q1, .ref q2, .ref q3, .int (nI k)])), zA G q1 16 (zTk s0 s k), zA G q2 16 (zTk t0 t k), zA G q3 16 (zTk l0 lb k), (e, .inr (1, [.ref a1, .ref a2, .ref a3, .int (nI k)])), zA G a1 16 s, zA G a2 16 t, zA G a3 16 lb] H := hP
    have hD : va_D AM [(h, .inr (3, [.ref st, .int (nI (nx + 1)), .int (nI (min (sz + 1) 14))])), zR G st 14 fr, (q0, .inr (1, [.ref q1, .ref q2, .ref q3, .int (nI k)])), zA G q1 16 (zTk s0 s k), zA G q2 16 (zTk t0 t k), zA G q3 16 (zTk l0 lb k), (e, .inr (1, [.ref a1, .ref a2, .ref a3, .int (nI k)])), zA G a1 16 s, zA G a2 16 t, zA G a3 16 lb] := hD
    exact kret _ _ _ _ _ (by unfold zNx; first | rw [if_pos (by omega)] | rw [if_neg (by omega)]) hP hD hS dX4_remember_53
set_option maxHeartbeats 4000000 in
set_option maxRecDepth 100000 in
theorem c_X4_giveBack (l : Launch) (G : zG) (h st : Nat) (fr : Nat → Option Nat) (nx sz : Nat) (q0 q1 q2 q3 : Nat) (s0 t0 l0 : Nat → Nat) (k0 : Nat) (e a1 a2 a3 : Nat) (s t lb : Nat → Nat) (k : Nat) (hnx : nx < 14) (hsz : sz ≤ 14) (hs1 : 0 < sz) (hq0 : fr (zPv nx) = some q0) (hk : k0 ≤ 16) : MV l yX4_giveBack wsX4_giveBack ({ frames := 3, cells := 0, slots := 0, locals := 65 }) G [.ref h, .ref e] [(h, .inr (3, [.ref st, .int (nI nx), .int (nI sz)])), zR G st 14 fr, (q0, .inr (1, [.ref q1, .ref q2, .ref q3, .int (nI k0)])), zA G q1 16 s0, zA G q2 16 t0, zA G q3 16 l0, (e, .inr (1, [.ref a1, .ref a2, .ref a3, .int (nI k)])), zA G a1 16 s, zA G a2 16 t, zA G a3 16 lb] [(h, .inr (3, [.ref st, .int (nI (zPv nx)), .int (nI (sz - 1))])), zR G st 14 fr, (q0, .inr (1, [.ref q1, .ref q2, .ref q3, .int (nI k0)])), zA G q1 16 s0, zA G q2 16 t0, zA G q3 16 l0, (e, .inr (1, [.ref a1, .ref a2, .ref a3, .int (nI k0)])), zA G a1 16 (zTk s s0 k0), zA G a2 16 (zTk t t0 k0), zA G a3 16 (zTk lb l0 k0)] := by
  refine MV.enter (cc := cX4_giveBack) (maxL := 2) (by decide) rfl (Nat.le_of_ble_eq_true rfl) ?_
  intro pM eM sM mM bM tM cM QM AM ls hat kret
  obtain ⟨SM, hA, hK, hE, hP, hD, hS, hl⟩ := hat
  have hx := SM.1
  have hb := SM.2.1
  have hown : sM.vm.findClass RX4 = some mM.cls := SM.2.2.2.1
  have hts := SM.2.2.2.2
  have hinX4 : ∀ w ∈ u_ws RX4 TX4 3, w ∈ wsX4_giveBack := by decide +kernel
  have hlk24 : (Cond.fieldLink RX4 24 "DyckReachability$History" "size" "I").before _ sM = true := hts _ (by decide +kernel)
  have hlk20 : (Cond.fieldLink RX4 20 "DyckReachability$History" "next" "I").before _ sM = true := hts _ (by decide +kernel)
  have hlk13 : (Cond.fieldLink RX4 13 "DyckReachability$History" "states" "[LDyckReachability$Edges;").before _ sM = true := hts _ (by decide +kernel)
  have hl : lv_has ls 2 [(0, .ref h), (1, .ref e)] := hl
  refine lv_aload_n hx hb dX4_giveBack_0 rfl (lv_at hl 0 rfl) ?_
  refine va_get (D := G.1) (ci := 3) (v := .int (nI sz)) (C := RX4) (T := TX4) (N := 3) hx hb hts hinX4 hown hK hP 0 rfl rfl 2 (by decide) hlk24 (fun _ h9 => h9) rfl dX4_giveBack_1 ?_
  refine zd_ne (a := (sz : Nat)) (tgt := 8) hx hb dX4_giveBack_4 (by decide) (zI (by omega)) (fun c_1 => ?_) (fun c_1 => ?_)
  · skip
    refine lv_aload_n hx hb dX4_giveBack_8 rfl (lv_at hl 0 rfl) ?_
    refine lv_aload_n hx hb dX4_giveBack_9 rfl (lv_at hl 0 rfl) ?_
    refine va_get (D := G.1) (ci := 3) (v := .int (nI nx)) (C := RX4) (T := TX4) (N := 3) hx hb hts hinX4 hown hK hP 0 rfl rfl 1 (by decide) hlk20 (fun _ h9 => h9) rfl dX4_giveBack_10 ?_
    refine zd_le (a := (nx : Nat)) (tgt := 25) hx hb dX4_giveBack_13 (by decide) (zI (by omega)) (fun c_2 => ?_) (fun c_2 => ?_)
    · skip
      refine lv_bipush (v := nI 13) hx hb dX4_giveBack_25 (by decide) ?_
      refine va_put (D := G.1) (ci := 3) (v := .int (nI 13)) (ty := .int) (C := RX4) (T := TX4) (N := 3) hx hb hts hinX4 tyX4 tyX4_ok nmX4 hown hK hP hD hS 0 rfl rfl 1 (by decide) hlk20 (fun _ h9 => h9) rfl (by decide +kernel) rfl rfl (Nat.le_of_ble_eq_true rfl) dX4_giveBack_27 (fun H locs hP hD hS => ?_)
      have hP : va_P G.1 vwCl [(h, .inr (3, [.ref st, .int (nI 13), .int (nI sz)])), zR G st 14 fr, (q0, .inr (1, [.ref q1, .ref q2, .ref q3, .int (nI k0)])), zA G q1 16 s0, zA G q2 16 t0, zA G q3 16 l0, (e, .inr (1, [.ref a1, .ref a2, .ref a3, .int (nI k)])), zA G a1 16 s, zA G a2 16 t, zA G a3 16 lb] H := hP
      have hD : va_D AM [(h, .inr (3, [.ref st, .int (nI 13), .int (nI sz)])), zR G st 14 fr, (q0, .inr (1, [.ref q1, .ref q2, .ref q3, .int (nI k0)])), zA G q1 16 s0, zA G q2 16 t0, zA G q3 16 l0, (e, .inr (1, [.ref a1, .ref a2, .ref a3, .int (nI k)])), zA G a1 16 s, zA G a2 16 t, zA G a3 16 lb] := hD
      refine lv_aload_n hx hb dX4_giveBack_30 rfl (lv_at hl 0 rfl) ?_
      refine lv_dup hx hb dX4_giveBack_31 rfl ?_
      refine va_get (D := G.1) (ci := 3) (v := .int (nI sz)) (C := RX4) (T := TX4) (N := 3) hx hb hts hinX4 hown hK hP 0 rfl rfl 2 (by decide) hlk24 (fun _ h9 => h9) rfl dX4_giveBack_32 ?_
      refine lv_iconst (v := nI 1) hx hb dX4_giveBack_35 (by decide) ?_
      refine zi_sub hx hb dX4_giveBack_36 (by omega) ?_
      refine va_put (D := G.1) (ci := 3) (v := .int (nI (sz - 1))) (ty := .int) (C := RX4) (T := TX4) (N := 3) hx hb hts hinX4 tyX4 tyX4_ok nmX4 hown hK hP hD hS 0 rfl rfl 2 (by decide) hlk24 (fun _ h9 => h9) rfl (by decide +kernel) rfl rfl (Nat.le_of_ble_eq_true rfl) dX4_giveBack_37 (fun H locs hP hD hS => ?_)
      have hP : va_P G.1 vwCl [(h, .inr (3, [.ref st, .int (nI 13), .int (nI (sz - 1))])), zR G st 14 fr, (q0, .inr (1, [.ref q1, .ref q2, .ref q3, .int (nI k0)])), zA G q1 16 s0, zA G q2 16 t0, zA G q3 16 l0, (e, .inr (1, [.ref a1, .ref a2, .ref a3, .int (nI k)])), zA G a1 16 s, zA G a2 16 t, zA G a3 16 lb] H := hP
      have hD : va_D AM [(h, .inr (3, [.ref st, .int (nI 13), .int (nI (sz - 1))])), zR G st 14 fr, (q0, .inr (1, [.ref q1, .ref q2, .ref q3, .int (nI k0)])), zA G q1 16 s0, zA G q2 16 t0, zA G q3 16 l0, (e, .inr (1, [.ref a1, .ref a2, .ref a3, .int (nI k)])), zA G a1 16 s, zA G a2 16 t, zA G a3 16 lb] := hD
      refine lv_aload_n hx hb dX4_giveBack_40 rfl (lv_at hl 1 rfl) ?_
      refine lv_aload_n hx hb dX4_giveBack_41 rfl (lv_at hl 0 rfl) ?_
      refine va_get (D := G.1) (ci := 3) (v := .ref st) (C := RX4) (T := TX4) (N := 3) hx hb hts hinX4 hown hK hP 0 rfl rfl 0 (by decide) hlk13 (fun _ h9 => h9) rfl dX4_giveBack_42 ?_
      refine lv_aload_n hx hb dX4_giveBack_45 rfl (lv_at hl 0 rfl) ?_
      refine va_get (D := G.1) (ci := 3) (v := .int (nI 13)) (C := RX4) (T := TX4) (N := 3) hx hb hts hinX4 hown hK hP 0 rfl rfl 1 (by decide) hlk20 (fun _ h9 => h9) rfl dX4_giveBack_46 ?_
      refine zr_ald (x := q0) hx hb hK hP 1 rfl (by omega) (by omega) (by rw [← hq0]; unfold zPv; first | rw [if_pos (by omega)] | rw [if_neg (by omega)]) dX4_giveBack_49 ?_
      refine zVv (W1 := [(h, .inr (3, [.ref st, .int (nI 13), .int (nI (sz - 1))])), zR G st 14 fr, (q0, .inr (1, [.ref q1, .ref q2, .ref q3, .int (nI k0)])), zA G q1 16 s0, zA G q2 16 t0, zA G q3 16 l0, (e, .inr (1, [.ref a1, .ref a2, .ref a3, .int (nI k)])), zA G a1 16 s, zA G a2 16 t, zA G a3 16 lb]) (W2 := [(h, .inr (3, [.ref st, .int (nI 13), .int (nI (sz - 1))])), zR G st 14 fr, (q0, .inr (1, [.ref q1, .ref q2, .ref q3, .int (nI k0)])), zA G q1 16 s0, zA G q2 16 t0, zA G q3 16 l0, (e, .inr (1, [.ref a1, .ref a2, .ref a3, .int (nI k0)])), zA G a1 16 (zTk s s0 k0), zA G a2 16 (zTk t t0 k0), zA G a3 16 (zTk lb l0 k0)]) (wr := [(h, .inr (3, [.ref st, .int (nI 13), .int (nI (sz - 1))])), zR G st 14 fr]) (rest := []) SM (c_X2_take l G e a1 a2 a3 16 s t lb k q0 q1 q2 q3 16 s0 t0 l0 k0 (by first | assumption | omega) (by first | assumption | omega) (by first | assumption | omega) (by first | assumption | omega)) (cwV 1 hts gX4_giveBack_X2_take rfl rfl rfl (by decide +kernel) ⟨Nat.le_of_ble_eq_true rfl, Nat.le_of_ble_eq_true rfl⟩) hK hE hA hP hD hS hl.1 [6, 7, 8, 9, 2, 3, 4, 5] [0, 1] [0, 1, 6, 7, 8, 9, 2, 3, 4, 5] rfl rfl rfl (by decide) (ci := 1) rfl rfl rfl rfl rfl (Nat.le_of_ble_eq_true rfl) ⟨Nat.zero_le _, Nat.zero_le _⟩ dX4_giveBack_50 (fun H locs hP hD hS => ?_)
      exact kret _ _ _ _ _ (by unfold zPv; first | rw [if_pos (by omega)] | rw [if_neg (by omega)]) hP hD hS dX4_giveBack_53
    · skip
      refine lv_aload_n hx hb dX4_giveBack_16 rfl (lv_at hl 0 rfl) ?_
      refine va_get (D := G.1) (ci := 3) (v := .int (nI nx)) (C := RX4) (T := TX4) (N := 3) hx hb hts hinX4 hown hK hP 0 rfl rfl 1 (by decide) hlk20 (fun _ h9 => h9) rfl dX4_giveBack_17 ?_
      refine lv_iconst (v := nI 1) hx hb dX4_giveBack_20 (by decide) ?_
      refine zi_sub hx hb dX4_giveBack_21 (by omega) ?_
      refine lv_goto (tgt := 27) hx hb dX4_giveBack_22 (by decide) ?_
      refine va_put (D := G.1) (ci := 3) (v := .int (nI (nx - 1))) (ty := .int) (C := RX4) (T := TX4) (N := 3) hx hb hts hinX4 tyX4 tyX4_ok nmX4 hown hK hP hD hS 0 rfl rfl 1 (by decide) hlk20 (fun _ h9 => h9) rfl (by decide +kernel) rfl rfl (Nat.le_of_ble_eq_true rfl) dX4_giveBack_27 (fun H locs hP hD hS => ?_)
      have hP : va_P G.1 vwCl [(h, .inr (3, [.ref st, .int (nI (nx - 1)), .int (nI sz)])), zR G st 14 fr, (q0, .inr (1, [.ref q1, .ref q2, .ref q3, .int (nI k0)])), zA G q1 16 s0, zA G q2 16 t0, zA G q3 16 l0, (e, .inr (1, [.ref a1, .ref a2, .ref a3, .int (nI k)])), zA G a1 16 s, zA G a2 16 t, zA G a3 16 lb] H := hP
      have hD : va_D AM [(h, .inr (3, [.ref st, .int (nI (nx - 1)), .int (nI sz)])), zR G st 14 fr, (q0, .inr (1, [.ref q1, .ref q2, .ref q3, .int (nI k0)])), zA G q1 16 s0, zA G q2 16 t0, zA G q3 16 l0, (e, .inr (1, [.ref a1, .ref a2, .ref a3, .int (nI k)])), zA G a1 16 s, zA G a2 16 t, zA G a3 16 lb] := hD
      refine lv_aload_n hx hb dX4_giveBack_30 rfl (lv_at hl 0 rfl) ?_
      refine lv_dup hx hb dX4_giveBack_31 rfl ?_
      refine va_get (D := G.1) (ci := 3) (v := .int (nI sz)) (C := RX4) (T := TX4) (N := 3) hx hb hts hinX4 hown hK hP 0 rfl rfl 2 (by decide) hlk24 (fun _ h9 => h9) rfl dX4_giveBack_32 ?_
      refine lv_iconst (v := nI 1) hx hb dX4_giveBack_35 (by decide) ?_
      refine zi_sub hx hb dX4_giveBack_36 (by omega) ?_
      refine va_put (D := G.1) (ci := 3) (v := .int (nI (sz - 1))) (ty := .int) (C := RX4) (T := TX4) (N := 3) hx hb hts hinX4 tyX4 tyX4_ok nmX4 hown hK hP hD hS 0 rfl rfl 2 (by decide) hlk24 (fun _ h9 => h9) rfl (by decide +kernel) rfl rfl (Nat.le_of_ble_eq_true rfl) dX4_giveBack_37 (fun H locs hP hD hS => ?_)
      have hP : va_P G.1 vwCl [(h, .inr (3, [.ref st, .int (nI (nx - 1)), .int (nI (sz - 1))])), zR G st 14 fr, (q0, .inr (1, [.ref q1, .ref q2, .ref q3, .int (nI k0)])), zA G q1 16 s0, zA G q2 16 t0, zA G q3 16 l0, (e, .inr (1, [.ref a1, .ref a2, .ref a3, .int (nI k)])), zA G a1 16 s, zA G a2 16 t, zA G a3 16 lb] H := hP
      have hD : va_D AM [(h, .inr (3, [.ref st, .int (nI (nx - 1)), .int (nI (sz - 1))])), zR G st 14 fr, (q0, .inr (1, [.ref q1, .ref q2, .ref q3, .int (nI k0)])), zA G q1 16 s0, zA G q2 16 t0, zA G q3 16 l0, (e, .inr (1, [.ref a1, .ref a2, .ref a3, .int (nI k)])), zA G a1 16 s, zA G a2 16 t, zA G a3 16 lb] := hD
      refine lv_aload_n hx hb dX4_giveBack_40 rfl (lv_at hl 1 rfl) ?_
      refine lv_aload_n hx hb dX4_giveBack_41 rfl (lv_at hl 0 rfl) ?_
      refine va_get (D := G.1) (ci := 3) (v := .ref st) (C := RX4) (T := TX4) (N := 3) hx hb hts hinX4 hown hK hP 0 rfl rfl 0 (by decide) hlk13 (fun _ h9 => h9) rfl dX4_giveBack_42 ?_
      refine lv_aload_n hx hb dX4_giveBack_45 rfl (lv_at hl 0 rfl) ?_
      refine va_get (D := G.1) (ci := 3) (v := .int (nI (nx - 1))) (C := RX4) (T := TX4) (N := 3) hx hb hts hinX4 hown hK hP 0 rfl rfl 1 (by decide) hlk20 (fun _ h9 => h9) rfl dX4_giveBack_46 ?_
      refine zr_ald (x := q0) hx hb hK hP 1 rfl (by omega) (by omega) (by rw [← hq0]; unfold zPv; first | rw [if_pos (by omega)] | rw [if_neg (by omega)]) dX4_giveBack_49 ?_
      refine zVv (W1 := [(h, .inr (3, [.ref st, .int (nI (nx - 1)), .int (nI (sz - 1))])), zR G st 14 fr, (q0, .inr (1, [.ref q1, .ref q2, .ref q3, .int (nI k0)])), zA G q1 16 s0, zA G q2 16 t0, zA G q3 16 l0, (e, .inr (1, [.ref a1, .ref a2, .ref a3, .int (nI k)])), zA G a1 16 s, zA G a2 16 t, zA G a3 16 lb]) (W2 := [(h, .inr (3, [.ref st, .int (nI (nx - 1)), .int (nI (sz - 1))])), zR G st 14 fr, (q0, .inr (1, [.ref q1, .ref q2, .ref q3, .int (nI k0)])), zA G q1 16 s0, zA G q2 16 t0, zA G q3 16 l0, (e, .inr (1, [.ref a1, .ref a2, .ref a3, .int (nI k0)])), zA G a1 16 (zTk s s0 k0), zA G a2 16 (zTk t t0 k0), zA G a3 16 (zTk lb l0 k0)]) (wr := [(h, .inr (3, [.ref st, .int (nI (nx - 1)), .int (nI (sz - 1))])), zR G st 14 fr]) (rest := []) SM (c_X2_take l G e a1 a2 a3 16 s t lb k q0 q1 q2 q3 16 s0 t0 l0 k0 (by first | assumption | omega) (by first | assumption | omega) (by first | assumption | omega) (by first | assumption | omega)) (cwV 1 hts gX4_giveBack_X2_take rfl rfl rfl (by decide +kernel) ⟨Nat.le_of_ble_eq_true rfl, Nat.le_of_ble_eq_true rfl⟩) hK hE hA hP hD hS hl.1 [6, 7, 8, 9, 2, 3, 4, 5] [0, 1] [0, 1, 6, 7, 8, 9, 2, 3, 4, 5] rfl rfl rfl (by decide) (ci := 1) rfl rfl rfl rfl rfl (Nat.le_of_ble_eq_true rfl) ⟨Nat.zero_le _, Nat.zero_le _⟩ dX4_giveBack_50 (fun H locs hP hD hS => ?_)
      exact kret _ _ _ _ _ (by unfold zPv; first | rw [if_pos (by omega)] | rw [if_neg (by omega)]) hP hD hS dX4_giveBack_53
  · skip
    exfalso; omega
set_option maxHeartbeats 4000000 in
set_option maxRecDepth 100000 in
theorem c_X4_forgetAll (l : Launch) (G : zG) (h st nx sz : Nat)  : MV l yX4_forgetAll wsX4_forgetAll ({ frames := 0, cells := 0, slots := 0, locals := 0 }) G [.ref h] [(h, .inr (3, [.ref st, .int (nI nx), .int (nI sz)]))] [(h, .inr (3, [.ref st, .int (nI nx), .int (nI 0)]))] := by
  refine MV.enter (cc := cX4_forgetAll) (maxL := 1) (by decide) rfl (Nat.le_of_ble_eq_true rfl) ?_
  intro pM eM sM mM bM tM cM QM AM ls hat kret
  obtain ⟨SM, hA, hK, hE, hP, hD, hS, hl⟩ := hat
  have hx := SM.1
  have hb := SM.2.1
  have hown : sM.vm.findClass RX4 = some mM.cls := SM.2.2.2.1
  have hts := SM.2.2.2.2
  have hinX4 : ∀ w ∈ u_ws RX4 TX4 3, w ∈ wsX4_forgetAll := by decide +kernel
  have hlk24 : (Cond.fieldLink RX4 24 "DyckReachability$History" "size" "I").before _ sM = true := hts _ (by decide +kernel)
  have hl : lv_has ls 1 [(0, .ref h)] := hl
  refine lv_aload_n hx hb dX4_forgetAll_0 rfl (lv_at hl 0 rfl) ?_
  refine lv_iconst (v := nI 0) hx hb dX4_forgetAll_1 (by decide) ?_
  refine va_put (D := G.1) (ci := 3) (v := .int (nI 0)) (ty := .int) (C := RX4) (T := TX4) (N := 3) hx hb hts hinX4 tyX4 tyX4_ok nmX4 hown hK hP hD hS 0 rfl rfl 2 (by decide) hlk24 (fun _ h9 => h9) rfl (by decide +kernel) rfl rfl (Nat.le_of_ble_eq_true rfl) dX4_forgetAll_2 (fun H locs hP hD hS => ?_)
  have hP : va_P G.1 vwCl [(h, .inr (3, [.ref st, .int (nI nx), .int (nI 0)]))] H := hP
  have hD : va_D AM [(h, .inr (3, [.ref st, .int (nI nx), .int (nI 0)]))] := hD
  exact kret _ _ _ _ _ rfl hP hD hS dX4_forgetAll_5
set_option maxHeartbeats 4000000 in
set_option maxRecDepth 100000 in
theorem c_X5_isFull (l : Launch) (G : zG) (o o1 o2 o3 n : Nat) (hn : n ≤ 6) : MI l yX5_isFull wsX5_isFull ({ frames := 0, cells := 0, slots := 0, locals := 0 }) G [.ref o] [(o, .inr (4, [.ref o1, .ref o2, .ref o3, .int (nI n)]))] (bI (decide (6 ≤ n))) [(o, .inr (4, [.ref o1, .ref o2, .ref o3, .int (nI n)]))] := by
  refine MI.enter (cc := cX5_isFull) (maxL := 1) (by decide) rfl (Nat.le_of_ble_eq_true rfl) (bI_nar _) ?_
  intro pM eM sM mM bM tM cM QM AM ls hat kret
  obtain ⟨SM, hA, hK, hE, hP, hD, hS, hl⟩ := hat
  have hx := SM.1
  have hb := SM.2.1
  have hown : sM.vm.findClass RX5 = some mM.cls := SM.2.2.2.1
  have hts := SM.2.2.2.2
  have hinX5 : ∀ w ∈ u_ws RX5 TX5 4, w ∈ wsX5_isFull := by decide +kernel
  have hlk19 : (Cond.fieldLink RX5 19 "DyckReachability$Observations" "size" "I").before _ sM = true := hts _ (by decide +kernel)
  have hl : lv_has ls 1 [(0, .ref o)] := hl
  refine lv_aload_n hx hb dX5_isFull_0 rfl (lv_at hl 0 rfl) ?_
  refine va_get (D := G.1) (ci := 4) (v := .int (nI n)) (C := RX5) (T := TX5) (N := 4) hx hb hts hinX5 hown hK hP 0 rfl rfl 3 (by decide) hlk19 (fun _ h9 => h9) rfl dX5_isFull_1 ?_
  refine lv_bipush (v := nI 6) hx hb dX5_isFull_4 (by decide) ?_
  refine zn_lt (tgt := 13) hx hb dX5_isFull_6 (by decide) (by omega) (by omega) (fun c_1 => ?_) (fun c_1 => ?_)
  · skip
    refine lv_iconst (v := nI 0) hx hb dX5_isFull_13 (by decide) ?_
    exact kret _ _ _ _ _ _ (bI_f (by omega)) rfl hP hD hS dX5_isFull_14
  · skip
    refine lv_iconst (v := nI 1) hx hb dX5_isFull_9 (by decide) ?_
    refine lv_goto (tgt := 14) hx hb dX5_isFull_10 (by decide) ?_
    exact kret _ _ _ _ _ _ (bI_t (by omega)) rfl hP hD hS dX5_isFull_14
set_option maxHeartbeats 4000000 in
set_option maxRecDepth 100000 in
theorem c_X5_put (l : Launch) (G : zG) (o o1 o2 o3 : Nat) (os oe oa : Nat → Nat) (n : Nat) (x y z : Nat) (hn : n < 6) : MV l yX5_put wsX5_put ({ frames := 1, cells := 0, slots := 0, locals := 20 }) G [.ref o, .int (nI x), .int (nI y), .int (nI z)] [(o, .inr (4, [.ref o1, .ref o2, .ref o3, .int (nI n)])), zA G o1 6 os, zA G o2 6 oe, zA G o3 6 oa] [(o, .inr (4, [.ref o1, .ref o2, .ref o3, .int (nI (n + 1))])), zA G o1 6 (zU os n x), zA G o2 6 (zU oe n y), zA G o3 6 (zU oa n z)] := by
  refine MV.enter (cc := cX5_put) (maxL := 4) (by decide) rfl (Nat.le_of_ble_eq_true rfl) ?_
  intro pM eM sM mM bM tM cM QM AM ls hat kret
  obtain ⟨SM, hA, hK, hE, hP, hD, hS, hl⟩ := hat
  have hx := SM.1
  have hb := SM.2.1
  have hown : sM.vm.findClass RX5 = some mM.cls := SM.2.2.2.1
  have hts := SM.2.2.2.2
  have hinX5 : ∀ w ∈ u_ws RX5 TX5 4, w ∈ wsX5_put := by decide +kernel
  have hlk9 : (Cond.fieldLink RX5 9 "DyckReachability$Observations" "starts" "[I").before _ sM = true := hts _ (by decide +kernel)
  have hlk19 : (Cond.fieldLink RX5 19 "DyckReachability$Observations" "size" "I").before _ sM = true := hts _ (by decide +kernel)
  have hlk13 : (Cond.fieldLink RX5 13 "DyckReachability$Observations" "ends" "[I").before _ sM = true := hts _ (by decide +kernel)
  have hlk16 : (Cond.fieldLink RX5 16 "DyckReachability$Observations" "answers" "[I").before _ sM = true := hts _ (by decide +kernel)
  have hl : lv_has ls 4 [(0, .ref o), (1, .int (nI x)), (2, .int (nI y)), (3, .int (nI z))] := hl
  refine lv_aload_n hx hb dX5_put_0 rfl (lv_at hl 0 rfl) ?_
  refine zVi (W1 := [(o, .inr (4, [.ref o1, .ref o2, .ref o3, .int (nI n)])), zA G o1 6 os, zA G o2 6 oe, zA G o3 6 oa]) (W2 := [(o, .inr (4, [.ref o1, .ref o2, .ref o3, .int (nI n)])), zA G o1 6 os, zA G o2 6 oe, zA G o3 6 oa]) (wr := [zA G o1 6 os, zA G o2 6 oe, zA G o3 6 oa]) (rest := []) SM (c_X5_isFull l G o o1 o2 o3 n (by first | assumption | omega)) (cwV 0 hts gX5_put_X5_isFull rfl rfl rfl (by decide +kernel) ⟨Nat.le_of_ble_eq_true rfl, Nat.le_of_ble_eq_true rfl⟩) hK hE hA hP hD hS hl.1 [0] [1, 2, 3] [3, 0, 1, 2] rfl rfl rfl (by decide) (ci := 4) rfl rfl rfl rfl rfl (Nat.le_of_ble_eq_true rfl) ⟨Nat.zero_le _, Nat.zero_le _⟩ dX5_put_1 (fun H locs hP hD hS => ?_)
  refine zb_eq (tgt := 8) hx hb dX5_put_4 (by decide) (fun c_1 => ?_) (fun c_1 => ?_)
  · skip
    refine lv_aload_n hx hb dX5_put_8 rfl (lv_at hl 0 rfl) ?_
    refine va_get (D := G.1) (ci := 4) (v := .ref o1) (C := RX5) (T := TX5) (N := 4) hx hb hts hinX5 hown hK hP 0 rfl rfl 0 (by decide) hlk9 (fun _ h9 => h9) rfl dX5_put_9 ?_
    refine lv_aload_n hx hb dX5_put_12 rfl (lv_at hl 0 rfl) ?_
    refine va_get (D := G.1) (ci := 4) (v := .int (nI n)) (C := RX5) (T := TX5) (N := 4) hx hb hts hinX5 hown hK hP 0 rfl rfl 3 (by decide) hlk19 (fun _ h9 => h9) rfl dX5_put_13 ?_
    refine lv_iload_n hx hb dX5_put_16 rfl (lv_at hl 1 rfl) ?_
    refine zi_ast hx hb hK hP hD hS 1 rfl (by omega) (by omega) dX5_put_17 (fun H locs hP hD hS => ?_)
    have hP : va_P G.1 vwCl [(o, .inr (4, [.ref o1, .ref o2, .ref o3, .int (nI n)])), zA G o1 6 (zU os n x), zA G o2 6 oe, zA G o3 6 oa] H := hP
    have hD : va_D AM [(o, .inr (4, [.ref o1, .ref o2, .ref o3, .int (nI n)])), zA G o1 6 (zU os n x), zA G o2 6 oe, zA G o3 6 oa] := hD
    refine lv_aload_n hx hb dX5_put_18 rfl (lv_at hl 0 rfl) ?_
    refine va_get (D := G.1) (ci := 4) (v := .ref o2) (C := RX5) (T := TX5) (N := 4) hx hb hts hinX5 hown hK hP 0 rfl rfl 1 (by decide) hlk13 (fun _ h9 => h9) rfl dX5_put_19 ?_
    refine lv_aload_n hx hb dX5_put_22 rfl (lv_at hl 0 rfl) ?_
    refine va_get (D := G.1) (ci := 4) (v := .int (nI n)) (C := RX5) (T := TX5) (N := 4) hx hb hts hinX5 hown hK hP 0 rfl rfl 3 (by decide) hlk19 (fun _ h9 => h9) rfl dX5_put_23 ?_
    refine lv_iload_n hx hb dX5_put_26 rfl (lv_at hl 2 rfl) ?_
    refine zi_ast hx hb hK hP hD hS 2 rfl (by omega) (by omega) dX5_put_27 (fun H locs hP hD hS => ?_)
    have hP : va_P G.1 vwCl [(o, .inr (4, [.ref o1, .ref o2, .ref o3, .int (nI n)])), zA G o1 6 (zU os n x), zA G o2 6 (zU oe n y), zA G o3 6 oa] H := hP
    have hD : va_D AM [(o, .inr (4, [.ref o1, .ref o2, .ref o3, .int (nI n)])), zA G o1 6 (zU os n x), zA G o2 6 (zU oe n y), zA G o3 6 oa] := hD
    refine lv_aload_n hx hb dX5_put_28 rfl (lv_at hl 0 rfl) ?_
    refine va_get (D := G.1) (ci := 4) (v := .ref o3) (C := RX5) (T := TX5) (N := 4) hx hb hts hinX5 hown hK hP 0 rfl rfl 2 (by decide) hlk16 (fun _ h9 => h9) rfl dX5_put_29 ?_
    refine lv_aload_n hx hb dX5_put_32 rfl (lv_at hl 0 rfl) ?_
    refine va_get (D := G.1) (ci := 4) (v := .int (nI n)) (C := RX5) (T := TX5) (N := 4) hx hb hts hinX5 hown hK hP 0 rfl rfl 3 (by decide) hlk19 (fun _ h9 => h9) rfl dX5_put_33 ?_
    refine lv_iload_n hx hb dX5_put_36 rfl (lv_at hl 3 rfl) ?_
    refine zi_ast hx hb hK hP hD hS 3 rfl (by omega) (by omega) dX5_put_37 (fun H locs hP hD hS => ?_)
    have hP : va_P G.1 vwCl [(o, .inr (4, [.ref o1, .ref o2, .ref o3, .int (nI n)])), zA G o1 6 (zU os n x), zA G o2 6 (zU oe n y), zA G o3 6 (zU oa n z)] H := hP
    have hD : va_D AM [(o, .inr (4, [.ref o1, .ref o2, .ref o3, .int (nI n)])), zA G o1 6 (zU os n x), zA G o2 6 (zU oe n y), zA G o3 6 (zU oa n z)] := hD
    refine lv_aload_n hx hb dX5_put_38 rfl (lv_at hl 0 rfl) ?_
    refine lv_dup hx hb dX5_put_39 rfl ?_
    refine va_get (D := G.1) (ci := 4) (v := .int (nI n)) (C := RX5) (T := TX5) (N := 4) hx hb hts hinX5 hown hK hP 0 rfl rfl 3 (by decide) hlk19 (fun _ h9 => h9) rfl dX5_put_40 ?_
    refine lv_iconst (v := nI 1) hx hb dX5_put_43 (by decide) ?_
    refine zi_addk (n := n + 1) hx hb dX5_put_44 (by omega) ?_
    refine va_put (D := G.1) (ci := 4) (v := .int (nI (n + 1))) (ty := .int) (C := RX5) (T := TX5) (N := 4) hx hb hts hinX5 tyX5 tyX5_ok nmX5 hown hK hP hD hS 0 rfl rfl 3 (by decide) hlk19 (fun _ h9 => h9) rfl (by decide +kernel) rfl rfl (Nat.le_of_ble_eq_true rfl) dX5_put_45 (fun H locs hP hD hS => ?_)
    have hP : va_P G.1 vwCl [(o, .inr (4, [.ref o1, .ref o2, .ref o3, .int (nI (n + 1))])), zA G o1 6 (zU os n x), zA G o2 6 (zU oe n y), zA G o3 6 (zU oa n z)] H := hP
    have hD : va_D AM [(o, .inr (4, [.ref o1, .ref o2, .ref o3, .int (nI (n + 1))])), zA G o1 6 (zU os n x), zA G o2 6 (zU oe n y), zA G o3 6 (zU oa n z)] := hD
    exact kret _ _ _ _ _ rfl hP hD hS dX5_put_48
  · skip
    exfalso; omega
set_option maxHeartbeats 4000000 in
set_option maxRecDepth 100000 in
theorem c_X5_allHold (l : Launch) (G : zG) (o o1 o2 o3 : Nat) (os oe oa : Nat → Nat) (n : Nat) (r V : Nat) (hr : r < 18446744073709551616) (hV : V ≤ 8) (hn : n ≤ 6) (hos : ∀ i, os i < 8) (hoe : ∀ i, oe i < 8) (hoa : ∀ i, oa i < 2) : MI l yX5_allHold wsX5_allHold ({ frames := 2, cells := 0, slots := 0, locals := 45 }) G [.ref o, .long (lN r), .int (nI V)] [(o, .inr (4, [.ref o1, .ref o2, .ref o3, .int (nI n)])), zA G o1 6 os, zA G o2 6 oe, zA G o3 6 oa] (bI (decide (zAh os oe oa n V r = n))) [(o, .inr (4, [.ref o1, .ref o2, .ref o3, .int (nI n)])), zA G o1 6 os, zA G o2 6 oe, zA G o3 6 oa] := by
  refine MI.enter (cc := cX5_allHold) (maxL := 7) (by decide) rfl (Nat.le_of_ble_eq_true rfl) (bI_nar _) ?_
  intro pM eM sM mM bM tM cM QM AM ls hat kret
  obtain ⟨SM, hA, hK, hE, hP, hD, hS, hl⟩ := hat
  have hx := SM.1
  have hb := SM.2.1
  have hown : sM.vm.findClass RX5 = some mM.cls := SM.2.2.2.1
  have hts := SM.2.2.2.2
  have hinX5 : ∀ w ∈ u_ws RX5 TX5 4, w ∈ wsX5_allHold := by decide +kernel
  have hlk19 : (Cond.fieldLink RX5 19 "DyckReachability$Observations" "size" "I").before _ sM = true := hts _ (by decide +kernel)
  have hlk9 : (Cond.fieldLink RX5 9 "DyckReachability$Observations" "starts" "[I").before _ sM = true := hts _ (by decide +kernel)
  have hlk13 : (Cond.fieldLink RX5 13 "DyckReachability$Observations" "ends" "[I").before _ sM = true := hts _ (by decide +kernel)
  have hlk16 : (Cond.fieldLink RX5 16 "DyckReachability$Observations" "answers" "[I").before _ sM = true := hts _ (by decide +kernel)
  have hl : lv_has ls 7 [(0, .ref o), (1, .long (lN r)), (3, .int (nI V))] := hl
  refine lv_iconst (v := nI 0) hx hb dX5_allHold_0 (by decide) ?_
  refine lv_istore (lv' := [(4, .int (nI 0)), (0, .ref o), (1, .long (lN r)), (3, .int (nI V))]) hx hb dX5_allHold_1 hl (by decide) rfl (fun ls hl => ?_)
  have lp3 : ∀ (n9 : Nat), ∀ (i : Nat), (i ≤ n) → (∀ j, j < i → zAhP os oe oa V r j = false) → (n - i) < n9 → ∀ (H : Heap) (locs : List Loc) (ls : Array Slot), va_P G.1 vwCl [(o, .inr (4, [.ref o1, .ref o2, .ref o3, .int (nI n)])), zA G o1 6 os, zA G o2 6 oe, zA G o3 6 oa] H → va_D AM [(o, .inr (4, [.ref o1, .ref o2, .ref o3, .int (nI n)])), zA G o1 6 os, zA G o2 6 oe, zA G o3 6 oa] → va_S AM sM.heap H locs → lv_has ls 7 [(0, .ref o), (1, .long (lN r)), (3, .int (nI V)), (4, .int (nI i))] → W pM l eM ({ frames := 2, cells := 0, slots := 0, locals := 45 }) sM mM (([.ref o, .long (lN r), .int (nI V)] : List Value).toArray) bM tM cM H locs 0 0 QM (F0 mM 3 ls []) := by
    intro n9
    induction n9 with
    | zero =>
      intro _ _ _ h9
      exact absurd h9 (Nat.not_lt_zero _)
    | succ n9 ih9 =>
      intro i h1 h2 hmu3 H locs ls hP hD hS hl
      have ih3 := ih9
      clear ih9
      refine lv_iload hx hb dX5_allHold_3 (lv_at hl 3 rfl) ?_
      refine lv_aload_n hx hb dX5_allHold_5 rfl (lv_at hl 0 rfl) ?_
      refine va_get (D := G.1) (ci := 4) (v := .int (nI n)) (C := RX5) (T := TX5) (N := 4) hx hb hts hinX5 hown hK hP 0 rfl rfl 3 (by decide) hlk19 (fun _ h9 => h9) rfl dX5_allHold_6 ?_
      refine zn_ge (tgt := 95) hx hb dX5_allHold_9 (by decide) (by omega) (by omega) (fun c_1 => ?_) (fun c_1 => ?_)
      · skip
        refine lv_iconst (v := nI 1) hx hb dX5_allHold_95 (by decide) ?_
        exact kret _ _ _ _ _ _ (bI_t (by have hq9 : i = n := (by omega); subst hq9; unfold zAh; exact zFst_none h2)) rfl hP hD hS dX5_allHold_96
      · skip
        refine lv_aload_n hx hb dX5_allHold_12 rfl (lv_at hl 0 rfl) ?_
        refine va_get (D := G.1) (ci := 4) (v := .ref o1) (C := RX5) (T := TX5) (N := 4) hx hb hts hinX5 hown hK hP 0 rfl rfl 0 (by decide) hlk9 (fun _ h9 => h9) rfl dX5_allHold_13 ?_
        refine lv_iload hx hb dX5_allHold_16 (lv_at hl 3 rfl) ?_
        refine zi_ald hx hb hK hP 1 rfl (by omega) (by omega) dX5_allHold_18 ?_
        have hb_2 := hos i
        refine lv_iload_n hx hb dX5_allHold_19 rfl (lv_at hl 2 rfl) ?_
        refine zn_ge (tgt := 38) hx hb dX5_allHold_20 (by decide) (by omega) (by omega) (fun c_3 => ?_) (fun c_3 => ?_)
        · skip
          refine lv_iconst (v := nI 0) hx hb dX5_allHold_38 (by decide) ?_
          refine lv_istore (lv' := [(5, .int (nI 0)), (0, .ref o), (1, .long (lN r)), (3, .int (nI V)), (4, .int (nI i))]) hx hb dX5_allHold_39 hl (by decide) rfl (fun ls hl => ?_)
          refine lv_lload_n hx hb dX5_allHold_41 rfl (lv_at hl 2 rfl) ?_
          refine lv_aload_n hx hb dX5_allHold_42 rfl (lv_at hl 1 rfl) ?_
          refine va_get (D := G.1) (ci := 4) (v := .ref o1) (C := RX5) (T := TX5) (N := 4) hx hb hts hinX5 hown hK hP 0 rfl rfl 0 (by decide) hlk9 (fun _ h9 => h9) rfl dX5_allHold_43 ?_
          refine lv_iload hx hb dX5_allHold_46 (lv_at hl 4 rfl) ?_
          refine zi_ald hx hb hK hP 1 rfl (by omega) (by omega) dX5_allHold_48 ?_
          have hb_4 := hos i
          refine lv_aload_n hx hb dX5_allHold_49 rfl (lv_at hl 1 rfl) ?_
          refine va_get (D := G.1) (ci := 4) (v := .ref o2) (C := RX5) (T := TX5) (N := 4) hx hb hts hinX5 hown hK hP 0 rfl rfl 1 (by decide) hlk13 (fun _ h9 => h9) rfl dX5_allHold_50 ?_
          refine lv_iload hx hb dX5_allHold_53 (lv_at hl 4 rfl) ?_
          refine zi_ald hx hb hK hP 2 rfl (by omega) (by omega) dX5_allHold_55 ?_
          have hb_5 := hoe i
          refine zSi (W1 := [(o, .inr (4, [.ref o1, .ref o2, .ref o3, .int (nI n)])), zA G o1 6 os, zA G o2 6 oe, zA G o3 6 oa]) (W2 := [(o, .inr (4, [.ref o1, .ref o2, .ref o3, .int (nI n)])), zA G o1 6 os, zA G o2 6 oe, zA G o3 6 oa]) (wr := [(o, .inr (4, [.ref o1, .ref o2, .ref o3, .int (nI n)])), zA G o1 6 os, zA G o2 6 oe, zA G o3 6 oa]) (rest := []) SM (c_X6_has l G r (os i) (oe i) (by first | assumption | omega) (by first | assumption | omega) (by first | assumption | omega)) (va_cwS 3 hts gX5_allHold_X6_has rfl rfl rfl (by decide +kernel) ⟨Nat.le_of_ble_eq_true rfl, Nat.le_of_ble_eq_true rfl⟩) hK hE hA hP hD hS hl.1 [] [0, 1, 2, 3] [0, 1, 2, 3] rfl rfl rfl (by decide) rfl rfl (Nat.le_of_ble_eq_true rfl) ⟨Nat.zero_le _, Nat.zero_le _⟩ dX5_allHold_56 (fun H locs hP hD hS => ?_)
          refine lv_istore (lv' := [(6, .int (bI (decide (zHas r (os i) (oe i))))), (5, .int (nI 0)), (0, .ref o), (1, .long (lN r)), (3, .int (nI V)), (4, .int (nI i))]) hx hb dX5_allHold_59 hl (by decide) rfl (fun ls hl => ?_)
          refine lv_iload hx hb dX5_allHold_61 (lv_at hl 1 rfl) ?_
          refine zk_eq_t (tgt := 89) hx hb dX5_allHold_63 (by decide) (by decide) ?_
          refine lv_iinc (v := nI (i + 1)) (lv' := [(4, .int (nI (i + 1))), (6, .int (bI (decide (zHas r (os i) (oe i))))), (5, .int (nI 0)), (0, .ref o), (1, .long (lN r)), (3, .int (nI V))]) hx hb dX5_allHold_89 hl (k := 5) rfl (zinc i 1) (by decide) rfl (fun ls hl => ?_)
          refine lv_goto (tgt := 3) hx hb dX5_allHold_92 (by decide) ?_
          exact ih3 (i + 1) (by first | assumption | omega) (lt_s h2 (by simp only [zAhP, decide_eq_false_iff_not]; omega)) (by omega) _ _ _ hP hD hS (lv_sub hl [3, 4, 5, 0] rfl)
        · skip
          refine lv_aload_n hx hb dX5_allHold_23 rfl (lv_at hl 0 rfl) ?_
          refine va_get (D := G.1) (ci := 4) (v := .ref o2) (C := RX5) (T := TX5) (N := 4) hx hb hts hinX5 hown hK hP 0 rfl rfl 1 (by decide) hlk13 (fun _ h9 => h9) rfl dX5_allHold_24 ?_
          refine lv_iload hx hb dX5_allHold_27 (lv_at hl 3 rfl) ?_
          refine zi_ald hx hb hK hP 2 rfl (by omega) (by omega) dX5_allHold_29 ?_
          have hb_7 := hoe i
          refine lv_iload_n hx hb dX5_allHold_30 rfl (lv_at hl 2 rfl) ?_
          refine zn_ge (tgt := 38) hx hb dX5_allHold_31 (by decide) (by omega) (by omega) (fun c_8 => ?_) (fun c_8 => ?_)
          · skip
            refine lv_iconst (v := nI 0) hx hb dX5_allHold_38 (by decide) ?_
            refine lv_istore (lv' := [(5, .int (nI 0)), (0, .ref o), (1, .long (lN r)), (3, .int (nI V)), (4, .int (nI i))]) hx hb dX5_allHold_39 hl (by decide) rfl (fun ls hl => ?_)
            refine lv_lload_n hx hb dX5_allHold_41 rfl (lv_at hl 2 rfl) ?_
            refine lv_aload_n hx hb dX5_allHold_42 rfl (lv_at hl 1 rfl) ?_
            refine va_get (D := G.1) (ci := 4) (v := .ref o1) (C := RX5) (T := TX5) (N := 4) hx hb hts hinX5 hown hK hP 0 rfl rfl 0 (by decide) hlk9 (fun _ h9 => h9) rfl dX5_allHold_43 ?_
            refine lv_iload hx hb dX5_allHold_46 (lv_at hl 4 rfl) ?_
            refine zi_ald hx hb hK hP 1 rfl (by omega) (by omega) dX5_allHold_48 ?_
            have hb_9 := hos i
            refine lv_aload_n hx hb dX5_allHold_49 rfl (lv_at hl 1 rfl) ?_
            refine va_get (D := G.1) (ci := 4) (v := .ref o2) (C := RX5) (T := TX5) (N := 4) hx hb hts hinX5 hown hK hP 0 rfl rfl 1 (by decide) hlk13 (fun _ h9 => h9) rfl dX5_allHold_50 ?_
            refine lv_iload hx hb dX5_allHold_53 (lv_at hl 4 rfl) ?_
            refine zi_ald hx hb hK hP 2 rfl (by omega) (by omega) dX5_allHold_55 ?_
            have hb_10 := hoe i
            refine zSi (W1 := [(o, .inr (4, [.ref o1, .ref o2, .ref o3, .int (nI n)])), zA G o1 6 os, zA G o2 6 oe, zA G o3 6 oa]) (W2 := [(o, .inr (4, [.ref o1, .ref o2, .ref o3, .int (nI n)])), zA G o1 6 os, zA G o2 6 oe, zA G o3 6 oa]) (wr := [(o, .inr (4, [.ref o1, .ref o2, .ref o3, .int (nI n)])), zA G o1 6 os, zA G o2 6 oe, zA G o3 6 oa]) (rest := []) SM (c_X6_has l G r (os i) (oe i) (by first | assumption | omega) (by first | assumption | omega) (by first | assumption | omega)) (va_cwS 3 hts gX5_allHold_X6_has rfl rfl rfl (by decide +kernel) ⟨Nat.le_of_ble_eq_true rfl, Nat.le_of_ble_eq_true rfl⟩) hK hE hA hP hD hS hl.1 [] [0, 1, 2, 3] [0, 1, 2, 3] rfl rfl rfl (by decide) rfl rfl (Nat.le_of_ble_eq_true rfl) ⟨Nat.zero_le _, Nat.zero_le _⟩ dX5_allHold_56 (fun H locs hP hD hS => ?_)
            refine lv_istore (lv' := [(6, .int (bI (decide (zHas r (os i) (oe i))))), (5, .int (nI 0)), (0, .ref o), (1, .long (lN r)), (3, .int (nI V)), (4, .int (nI i))]) hx hb dX5_allHold_59 hl (by decide) rfl (fun ls hl => ?_)
            refine lv_iload hx hb dX5_allHold_61 (lv_at hl 1 rfl) ?_
            refine zk_eq_t (tgt := 89) hx hb dX5_allHold_63 (by decide) (by decide) ?_
            refine lv_iinc (v := nI (i + 1)) (lv' := [(4, .int (nI (i + 1))), (6, .int (bI (decide (zHas r (os i) (oe i))))), (5, .int (nI 0)), (0, .ref o), (1, .long (lN r)), (3, .int (nI V))]) hx hb dX5_allHold_89 hl (k := 5) rfl (zinc i 1) (by decide) rfl (fun ls hl => ?_)
            refine lv_goto (tgt := 3) hx hb dX5_allHold_92 (by decide) ?_
            exact ih3 (i + 1) (by first | assumption | omega) (lt_s h2 (by simp only [zAhP, decide_eq_false_iff_not]; omega)) (by omega) _ _ _ hP hD hS (lv_sub hl [3, 4, 5, 0] rfl)
          · skip
            refine lv_iconst (v := nI 1) hx hb dX5_allHold_34 (by decide) ?_
            refine lv_goto (tgt := 39) hx hb dX5_allHold_35 (by decide) ?_
            refine lv_istore (lv' := [(5, .int (nI 1)), (0, .ref o), (1, .long (lN r)), (3, .int (nI V)), (4, .int (nI i))]) hx hb dX5_allHold_39 hl (by decide) rfl (fun ls hl => ?_)
            refine lv_lload_n hx hb dX5_allHold_41 rfl (lv_at hl 2 rfl) ?_
            refine lv_aload_n hx hb dX5_allHold_42 rfl (lv_at hl 1 rfl) ?_
            refine va_get (D := G.1) (ci := 4) (v := .ref o1) (C := RX5) (T := TX5) (N := 4) hx hb hts hinX5 hown hK hP 0 rfl rfl 0 (by decide) hlk9 (fun _ h9 => h9) rfl dX5_allHold_43 ?_
            refine lv_iload hx hb dX5_allHold_46 (lv_at hl 4 rfl) ?_
            refine zi_ald hx hb hK hP 1 rfl (by omega) (by omega) dX5_allHold_48 ?_
            have hb_12 := hos i
            refine lv_aload_n hx hb dX5_allHold_49 rfl (lv_at hl 1 rfl) ?_
            refine va_get (D := G.1) (ci := 4) (v := .ref o2) (C := RX5) (T := TX5) (N := 4) hx hb hts hinX5 hown hK hP 0 rfl rfl 1 (by decide) hlk13 (fun _ h9 => h9) rfl dX5_allHold_50 ?_
            refine lv_iload hx hb dX5_allHold_53 (lv_at hl 4 rfl) ?_
            refine zi_ald hx hb hK hP 2 rfl (by omega) (by omega) dX5_allHold_55 ?_
            have hb_13 := hoe i
            refine zSi (W1 := [(o, .inr (4, [.ref o1, .ref o2, .ref o3, .int (nI n)])), zA G o1 6 os, zA G o2 6 oe, zA G o3 6 oa]) (W2 := [(o, .inr (4, [.ref o1, .ref o2, .ref o3, .int (nI n)])), zA G o1 6 os, zA G o2 6 oe, zA G o3 6 oa]) (wr := [(o, .inr (4, [.ref o1, .ref o2, .ref o3, .int (nI n)])), zA G o1 6 os, zA G o2 6 oe, zA G o3 6 oa]) (rest := []) SM (c_X6_has l G r (os i) (oe i) (by first | assumption | omega) (by first | assumption | omega) (by first | assumption | omega)) (va_cwS 3 hts gX5_allHold_X6_has rfl rfl rfl (by decide +kernel) ⟨Nat.le_of_ble_eq_true rfl, Nat.le_of_ble_eq_true rfl⟩) hK hE hA hP hD hS hl.1 [] [0, 1, 2, 3] [0, 1, 2, 3] rfl rfl rfl (by decide) rfl rfl (Nat.le_of_ble_eq_true rfl) ⟨Nat.zero_le _, Nat.zero_le _⟩ dX5_allHold_56 (fun H locs hP hD hS => ?_)
            refine lv_istore (lv' := [(6, .int (bI (decide (zHas r (os i) (oe i))))), (5, .int (nI 1)), (0, .ref o), (1, .long (lN r)), (3, .int (nI V)), (4, .int (nI i))]) hx hb dX5_allHold_59 hl (by decide) rfl (fun ls hl => ?_)
            refine lv_iload hx hb dX5_allHold_61 (lv_at hl 1 rfl) ?_
            refine zk_eq_f hx hb dX5_allHold_63 (by decide) ?_
            refine lv_iload hx hb dX5_allHold_66 (lv_at hl 0 rfl) ?_
            refine lv_aload_n hx hb dX5_allHold_68 rfl (lv_at hl 2 rfl) ?_
            refine va_get (D := G.1) (ci := 4) (v := .ref o3) (C := RX5) (T := TX5) (N := 4) hx hb hts hinX5 hown hK hP 0 rfl rfl 2 (by decide) hlk16 (fun _ h9 => h9) rfl dX5_allHold_69 ?_
            refine lv_iload hx hb dX5_allHold_72 (lv_at hl 5 rfl) ?_
            refine zi_ald hx hb hK hP 3 rfl (by omega) (by omega) dX5_allHold_74 ?_
            have hb_15 := hoa i
            refine lv_iconst (v := nI 1) hx hb dX5_allHold_75 (by decide) ?_
            refine zn_ne (tgt := 83) hx hb dX5_allHold_76 (by decide) (by omega) (by omega) (fun c_16 => ?_) (fun c_16 => ?_)
            · skip
              refine lv_iconst (v := nI 0) hx hb dX5_allHold_83 (by decide) ?_
              refine zb1_eq_0 (tgt := 89) hx hb dX5_allHold_84 (by decide) (fun c_17 => ?_) (fun c_17 => ?_)
              · skip
                refine lv_iinc (v := nI (i + 1)) (lv' := [(4, .int (nI (i + 1))), (6, .int (bI (decide (zHas r (os i) (oe i))))), (5, .int (nI 1)), (0, .ref o), (1, .long (lN r)), (3, .int (nI V))]) hx hb dX5_allHold_89 hl (k := 5) rfl (zinc i 1) (by decide) rfl (fun ls hl => ?_)
                refine lv_goto (tgt := 3) hx hb dX5_allHold_92 (by decide) ?_
                exact ih3 (i + 1) (by first | assumption | omega) (lt_s h2 (by simp only [zAhP, decide_eq_false_iff_not]; omega)) (by omega) _ _ _ hP hD hS (lv_sub hl [3, 4, 5, 0] rfl)
              · skip
                refine lv_iconst (v := nI 0) hx hb dX5_allHold_87 (by decide) ?_
                exact kret _ _ _ _ _ _ (bI_f (by have hz := zFst_at h2 (show zAhP os oe oa V r i = true by simp only [zAhP, decide_eq_true_eq]; omega) (n := n) (by omega); unfold zAh; rw [hz]; omega)) rfl hP hD hS dX5_allHold_88
            · skip
              refine lv_iconst (v := nI 1) hx hb dX5_allHold_79 (by decide) ?_
              refine lv_goto (tgt := 84) hx hb dX5_allHold_80 (by decide) ?_
              refine zb1_eq_1 (tgt := 89) hx hb dX5_allHold_84 (by decide) (fun c_18 => ?_) (fun c_18 => ?_)
              · skip
                refine lv_iinc (v := nI (i + 1)) (lv' := [(4, .int (nI (i + 1))), (6, .int (bI (decide (zHas r (os i) (oe i))))), (5, .int (nI 1)), (0, .ref o), (1, .long (lN r)), (3, .int (nI V))]) hx hb dX5_allHold_89 hl (k := 5) rfl (zinc i 1) (by decide) rfl (fun ls hl => ?_)
                refine lv_goto (tgt := 3) hx hb dX5_allHold_92 (by decide) ?_
                exact ih3 (i + 1) (by first | assumption | omega) (lt_s h2 (by simp only [zAhP, decide_eq_false_iff_not]; omega)) (by omega) _ _ _ hP hD hS (lv_sub hl [3, 4, 5, 0] rfl)
              · skip
                refine lv_iconst (v := nI 0) hx hb dX5_allHold_87 (by decide) ?_
                exact kret _ _ _ _ _ _ (bI_f (by have hz := zFst_at h2 (show zAhP os oe oa V r i = true by simp only [zAhP, decide_eq_true_eq]; omega) (n := n) (by omega); unfold zAh; rw [hz]; omega)) rfl hP hD hS dX5_allHold_88
  exact lp3 (n - 0 + 1) 0 (by first | assumption | omega) (fun i hi => absurd hi (Nat.not_lt_zero i)) (Nat.lt_succ_self _) _ _ _ hP hD hS (lv_sub hl [1, 2, 3, 0] rfl)
set_option maxHeartbeats 4000000 in
set_option maxRecDepth 100000 in
theorem c_X0_ordersOf (l : Launch) (G : zG) (a m : Nat) (ha : a < m) (hm : m ≤ 8) : MI l yX0_ordersOf wsX0_ordersOf ({ frames := 0, cells := 0, slots := 0, locals := 0 }) G [.int (nI a), .int (nI m)] [] (nI (zOrd a m)) [] := by
  refine MI.enter (cc := cX0_ordersOf) (maxL := 3) (by decide) rfl (Nat.le_of_ble_eq_true rfl) rfl ?_
  intro pM eM sM mM bM tM cM QM AM ls hat kret
  obtain ⟨SM, hA, hK, hE, hP, hD, hS, hl⟩ := hat
  have hx := SM.1
  have hb := SM.2.1
  have hown : sM.vm.findClass RX0 = some mM.cls := SM.2.2.2.1
  have hts := SM.2.2.2.2
  have hlk11 : (Cond.fieldLink RX0 11 "DyckReachability$Chance" "FACTORIALS" "[I").before _ sM = true := hts _ (by decide +kernel)
  have hlk15 : (Cond.fieldLink RX0 15 "DyckReachability$Chance" "SCALES" "[I").before _ sM = true := hts _ (by decide +kernel)
  have hl : lv_has ls 3 [(0, .int (nI a)), (1, .int (nI m))] := hl
  refine lv_iload_n hx hb dX0_ordersOf_0 rfl (lv_at hl 1 rfl) ?_
  refine lv_iconst (v := nI 1) hx hb dX0_ordersOf_1 (by decide) ?_
  refine zi_sub hx hb dX0_ordersOf_2 (by omega) ?_
  refine lv_iload_n hx hb dX0_ordersOf_3 rfl (lv_at hl 0 rfl) ?_
  refine zi_sub hx hb dX0_ordersOf_4 (by omega) ?_
  refine lv_istore_n (lv' := [(2, .int (nI ((m - 1) - a))), (0, .int (nI a)), (1, .int (nI m))]) hx hb dX0_ordersOf_5 rfl hl (by decide) rfl (fun ls hl => ?_)
  refine lv_iload_n hx hb dX0_ordersOf_6 rfl (lv_at hl 1 rfl) ?_
  refine zd_lt (a := (a : Nat)) (tgt := 20) hx hb dX0_ordersOf_7 (by decide) (zI (by omega)) (fun c_1 => ?_) (fun c_1 => ?_)
  · skip
    exfalso; omega
  · skip
    refine lv_iload_n hx hb dX0_ordersOf_10 rfl (lv_at hl 0 rfl) ?_
    refine zd_lt (a := ((m - 1) - a : Nat)) (tgt := 20) hx hb dX0_ordersOf_11 (by decide) (zI (by omega)) (fun c_2 => ?_) (fun c_2 => ?_)
    · skip
      exfalso; omega
    · skip
      refine lv_iload_n hx hb dX0_ordersOf_14 rfl (lv_at hl 2 rfl) ?_
      refine lv_bipush (v := nI 8) hx hb dX0_ordersOf_15 (by decide) ?_
      refine zn_le (tgt := 22) hx hb dX0_ordersOf_17 (by decide) (by omega) (by omega) (fun c_3 => ?_) (fun c_3 => ?_)
      · skip
        refine va_gets hx hb hE.1.2.1.1 hS hown hlk11 (fun _ h9 => h9) dX0_ordersOf_22 ?_
        refine lv_iload_n hx hb dX0_ordersOf_25 rfl (lv_at hl 1 rfl) ?_
        refine zt_fac hx hb hE.1.2.1.2 hS (by omega) dX0_ordersOf_26 ?_
        refine va_gets hx hb hE.1.2.1.1 hS hown hlk11 (fun _ h9 => h9) dX0_ordersOf_27 ?_
        refine lv_iload_n hx hb dX0_ordersOf_30 rfl (lv_at hl 0 rfl) ?_
        refine zt_fac hx hb hE.1.2.1.2 hS (by omega) dX0_ordersOf_31 ?_
        refine zi_mul hx hb dX0_ordersOf_32 ?_
        refine va_gets hx hb hE.1.2.2.1 hS hown hlk15 (fun _ h9 => h9) dX0_ordersOf_33 ?_
        refine lv_iload_n hx hb dX0_ordersOf_36 rfl (lv_at hl 2 rfl) ?_
        refine zt_sca hx hb hE.1.2.2.2 hS (by omega) dX0_ordersOf_37 ?_
        refine zi_mul hx hb dX0_ordersOf_38 ?_
        exact kret _ _ _ _ _ _ rfl rfl hP hD hS dX0_ordersOf_39
      · skip
        exfalso; omega
set_option maxHeartbeats 4000000 in
set_option maxRecDepth 100000 in
theorem c_X0_power (l : Launch) (G : zG) (b n : Nat) (hn : n < 2147483648) : MI l yX0_power wsX0_power ({ frames := 0, cells := 0, slots := 0, locals := 0 }) G [.int (nI b), .int (nI n)] [] (nI (b ^ n)) [] := by
  refine MI.enter (cc := cX0_power) (maxL := 4) (by decide) rfl (Nat.le_of_ble_eq_true rfl) rfl ?_
  intro pM eM sM mM bM tM cM QM AM ls hat kret
  obtain ⟨SM, hA, hK, hE, hP, hD, hS, hl⟩ := hat
  have hx := SM.1
  have hb := SM.2.1
  have hown : sM.vm.findClass RX0 = some mM.cls := SM.2.2.2.1
  have hts := SM.2.2.2.2
  have hl : lv_has ls 4 [(0, .int (nI b)), (1, .int (nI n))] := hl
  refine lv_iconst (v := nI 1) hx hb dX0_power_0 (by decide) ?_
  refine lv_istore_n (lv' := [(2, .int (nI 1)), (0, .int (nI b)), (1, .int (nI n))]) hx hb dX0_power_1 rfl hl (by decide) rfl (fun ls hl => ?_)
  refine lv_iconst (v := nI 0) hx hb dX0_power_2 (by decide) ?_
  refine lv_istore_n (lv' := [(3, .int (nI 0)), (2, .int (nI 1)), (0, .int (nI b)), (1, .int (nI n))]) hx hb dX0_power_3 rfl hl (by decide) rfl (fun ls hl => ?_)
  have lp4 : ∀ (n9 : Nat), ∀ (i : Nat), (i ≤ n) → (n - i) < n9 → ∀ (H : Heap) (locs : List Loc) (ls : Array Slot), va_P G.1 vwCl [] H → va_D AM [] → va_S AM sM.heap H locs → lv_has ls 4 [(0, .int (nI b)), (1, .int (nI n)), (2, .int (nI (b ^ i))), (3, .int (nI i))] → W pM l eM ({ frames := 0, cells := 0, slots := 0, locals := 0 }) sM mM (([.int (nI b), .int (nI n)] : List Value).toArray) bM tM cM H locs 0 0 QM (F0 mM 4 ls []) := by
    intro n9
    induction n9 with
    | zero =>
      intro _ _ h9
      exact absurd h9 (Nat.not_lt_zero _)
    | succ n9 ih9 =>
      intro i h1 hmu4 H locs ls hP hD hS hl
      have ih4 := ih9
      clear ih9
      refine lv_iload_n hx hb dX0_power_4 rfl (lv_at hl 3 rfl) ?_
      refine lv_iload_n hx hb dX0_power_5 rfl (lv_at hl 1 rfl) ?_
      refine zn_ge (tgt := 19) hx hb dX0_power_6 (by decide) (by omega) (by omega) (fun c_1 => ?_) (fun c_1 => ?_)
      · skip
        refine lv_iload_n hx hb dX0_power_19 rfl (lv_at hl 2 rfl) ?_
        exact kret _ _ _ _ _ _ (congrArg nI (by have hq9 : i = n := (by omega); subst hq9; rfl)) rfl hP hD hS dX0_power_20
      · skip
        refine lv_iload_n hx hb dX0_power_9 rfl (lv_at hl 2 rfl) ?_
        refine lv_iload_n hx hb dX0_power_10 rfl (lv_at hl 0 rfl) ?_
        refine zi_mul hx hb dX0_power_11 ?_
        refine lv_istore_n (lv' := [(2, .int (nI ((b ^ i) * b))), (0, .int (nI b)), (1, .int (nI n)), (3, .int (nI i))]) hx hb dX0_power_12 rfl hl (by decide) rfl (fun ls hl => ?_)
        refine lv_iinc (v := nI (i + 1)) (lv' := [(3, .int (nI (i + 1))), (2, .int (nI ((b ^ i) * b))), (0, .int (nI b)), (1, .int (nI n))]) hx hb dX0_power_13 hl (k := 3) rfl (zinc i 1) (by decide) rfl (fun ls hl => ?_)
        refine lv_goto (tgt := 4) hx hb dX0_power_16 (by decide) ?_
        have hl : lv_has ls 4 [(0, .int (nI b)), (1, .int (nI n)), (2, .int (nI (b ^ (i + 1)))), (3, .int (nI (i + 1)))] := by (rw [Nat.pow_succ]); exact (lv_sub hl [2, 3, 1, 0] rfl)
        exact ih4 (i + 1) (by first | assumption | omega) (by omega) _ _ _ hP hD hS hl
  exact lp4 (n - 0 + 1) 0 (by first | assumption | omega) (Nat.lt_succ_self _) _ _ _ hP hD hS (lv_sub hl [2, 3, 1, 0] rfl)
set_option maxHeartbeats 4000000 in
set_option maxRecDepth 100000 in
theorem c_X0_nextSeed (l : Launch) (G : zG) (x : Int64)  : ML l yX0_nextSeed wsX0_nextSeed ({ frames := 0, cells := 0, slots := 0, locals := 0 }) G [.long x] [] (x * lN 6364136223846793005 + lN 1442695040888963407) [] := by
  refine ML.enter (cc := cX0_nextSeed) (maxL := 2) (by decide) rfl (Nat.le_of_ble_eq_true rfl) ?_
  intro pM eM sM mM bM tM cM QM AM ls hat kret
  obtain ⟨SM, hA, hK, hE, hP, hD, hS, hl⟩ := hat
  have hx := SM.1
  have hb := SM.2.1
  have hown : sM.vm.findClass RX0 = some mM.cls := SM.2.2.2.1
  have hts := SM.2.2.2.2
  have hl : lv_has ls 2 [(0, .long x)] := hl
  refine lv_lload_n hx hb dX0_nextSeed_0 rfl (lv_at hl 0 rfl) ?_
  refine lv_ldc2 (v := lN 6364136223846793005) hx hb hown (hts (.constantLong RX0 18 (6364136223846793005)) (by decide +kernel)) dX0_nextSeed_1 ?_
  refine lv_lmul hx hb dX0_nextSeed_4 ?_
  refine lv_ldc2 (v := lN 1442695040888963407) hx hb hown (hts (.constantLong RX0 20 (1442695040888963407)) (by decide +kernel)) dX0_nextSeed_5 ?_
  refine lv_ladd hx hb dX0_nextSeed_8 ?_
  exact kret _ _ _ _ _ _ rfl rfl hP hD hS dX0_nextSeed_9
set_option maxHeartbeats 4000000 in
set_option maxRecDepth 100000 in
theorem c_X0_change (l : Launch) (G : zG) (e a1 a2 a3 : Nat) (s t lb : Nat → Nat) (k : Nat) (V d : Nat) (hV1 : 1 ≤ V) (hV : V ≤ 8) (hd : d < 2147483648) (hk : k ≤ 16) (hbs : ∀ i, s i < 8) (hbt : ∀ i, t i < 8) (hlb : ∀ i, lb i < 7) : MV l yX0_change wsX0_change ({ frames := 2, cells := 0, slots := 0, locals := 43 }) G [.ref e, .int (nI V), .int (nI d)] [(e, .inr (1, [.ref a1, .ref a2, .ref a3, .int (nI k)])), zA G a1 16 s, zA G a2 16 t, zA G a3 16 lb] [(e, .inr (1, [.ref a1, .ref a2, .ref a3, .int (nI ((zCh s t lb k V d).2.2.2))])), zA G a1 16 ((zCh s t lb k V d).1), zA G a2 16 ((zCh s t lb k V d).2.1), zA G a3 16 ((zCh s t lb k V d).2.2.1)] := by
  refine MV.enter (cc := cX0_change) (maxL := 7) (by decide) rfl (Nat.le_of_ble_eq_true rfl) ?_
  intro pM eM sM mM bM tM cM QM AM ls hat kret
  obtain ⟨SM, hA, hK, hE, hP, hD, hS, hl⟩ := hat
  have hx := SM.1
  have hb := SM.2.1
  have hown : sM.vm.findClass RX0 = some mM.cls := SM.2.2.2.1
  have hts := SM.2.2.2.2
  have hl : lv_has ls 7 [(0, .ref e), (1, .int (nI V)), (2, .int (nI d))] := hl
  refine lv_iload_n hx hb dX0_change_0 rfl (lv_at hl 1 rfl) ?_
  refine lv_iconst (v := nI 1) hx hb dX0_change_1 (by decide) ?_
  refine zn_ge (tgt := 6) hx hb dX0_change_2 (by decide) (by omega) (by omega) (fun c_1 => ?_) (fun c_1 => ?_)
  · skip
    refine lv_iload_n hx hb dX0_change_6 rfl (lv_at hl 2 rfl) ?_
    refine lv_iload_n hx hb dX0_change_7 rfl (lv_at hl 1 rfl) ?_
    have hm1 := Nat.mod_lt d (show 0 < V by omega)
    have hm2 := Nat.mod_lt (d / 8) (show 0 < V by omega)
    refine zi_rem hx hb dX0_change_8 (by omega) (by omega) (by omega) ?_
    refine lv_istore_n (lv' := [(3, .int (nI (d % V))), (0, .ref e), (1, .int (nI V)), (2, .int (nI d))]) hx hb dX0_change_9 rfl hl (by decide) rfl (fun ls hl => ?_)
    refine lv_iload_n hx hb dX0_change_10 rfl (lv_at hl 3 rfl) ?_
    refine lv_bipush (v := nI 8) hx hb dX0_change_11 (by decide) ?_
    refine zi_div hx hb dX0_change_13 (by omega) (by omega) (by omega) ?_
    refine lv_iload_n hx hb dX0_change_14 rfl (lv_at hl 2 rfl) ?_
    refine zi_rem hx hb dX0_change_15 (by omega) (by omega) (by omega) ?_
    refine lv_istore (lv' := [(4, .int (nI ((d / 8) % V))), (3, .int (nI (d % V))), (0, .ref e), (1, .int (nI V)), (2, .int (nI d))]) hx hb dX0_change_16 hl (by decide) rfl (fun ls hl => ?_)
    refine lv_iload_n hx hb dX0_change_18 rfl (lv_at hl 4 rfl) ?_
    refine lv_bipush (v := nI 64) hx hb dX0_change_19 (by decide) ?_
    refine zi_div hx hb dX0_change_21 (by omega) (by omega) (by omega) ?_
    refine lv_bipush (v := nI 7) hx hb dX0_change_22 (by decide) ?_
    refine zi_rem hx hb dX0_change_24 (by omega) (by omega) (by omega) ?_
    refine lv_istore (lv' := [(5, .int (nI ((d / 64) % 7))), (4, .int (nI ((d / 8) % V))), (3, .int (nI (d % V))), (0, .ref e), (1, .int (nI V)), (2, .int (nI d))]) hx hb dX0_change_25 hl (by decide) rfl (fun ls hl => ?_)
    refine lv_aload_n hx hb dX0_change_27 rfl (lv_at hl 3 rfl) ?_
    refine lv_iload_n hx hb dX0_change_28 rfl (lv_at hl 2 rfl) ?_
    refine lv_iload hx hb dX0_change_29 (lv_at hl 1 rfl) ?_
    refine lv_iload hx hb dX0_change_31 (lv_at hl 0 rfl) ?_
    refine zVi (W1 := [(e, .inr (1, [.ref a1, .ref a2, .ref a3, .int (nI k)])), zA G a1 16 s, zA G a2 16 t, zA G a3 16 lb]) (W2 := [(e, .inr (1, [.ref a1, .ref a2, .ref a3, .int (nI k)])), zA G a1 16 s, zA G a2 16 t, zA G a3 16 lb]) (wr := []) (rest := []) SM (c_X2_find l G e a1 a2 a3 16 s t lb k (d % V) ((d / 8) % V) ((d / 64) % 7) (by first | assumption | omega) (by first | assumption | omega) (by first | assumption | omega) (by first | assumption | omega) (by first | assumption | omega) (by first | assumption | omega) (by first | assumption | omega) (by first | assumption | omega)) (cwV 3 hts gX0_change_X2_find rfl rfl rfl (by decide +kernel) ⟨Nat.le_of_ble_eq_true rfl, Nat.le_of_ble_eq_true rfl⟩) hK hE hA hP hD hS hl.1 [0, 1, 2, 3] [] [0, 1, 2, 3] rfl rfl rfl (by decide) (ci := 1) rfl rfl rfl rfl rfl (Nat.le_of_ble_eq_true rfl) ⟨Nat.zero_le _, Nat.zero_le _⟩ dX0_change_33 (fun H locs hP hD hS => ?_)
    refine lv_istore (lv' := [(6, .int (zOr9 (zFst (zHit s t lb (d % V) ((d / 8) % V) ((d / 64) % 7)) k) k)), (5, .int (nI ((d / 64) % 7))), (4, .int (nI ((d / 8) % V))), (3, .int (nI (d % V))), (0, .ref e), (1, .int (nI V)), (2, .int (nI d))]) hx hb dX0_change_36 hl (by decide) rfl (fun ls hl => ?_)
    refine lv_iload hx hb dX0_change_38 (lv_at hl 0 rfl) ?_
    refine lv_bipush (v := (-9)) hx hb dX0_change_40 (by decide) ?_
    refine z9_ne (tgt := 57) hx hb dX0_change_42 (by decide) (by omega) (fun c_2 => ?_) (fun c_2 => ?_)
    · skip
      have hl : lv_has ls 7 [(6, .int (nI (zFst (zHit s t lb (d % V) ((d / 8) % V) ((d / 64) % 7)) k))), (5, .int (nI ((d / 64) % 7))), (4, .int (nI ((d / 8) % V))), (3, .int (nI (d % V))), (0, .ref e), (1, .int (nI V)), (2, .int (nI d))] := by rw [← zOr9_lt c_2]; exact hl
      refine lv_aload_n hx hb dX0_change_57 rfl (lv_at hl 4 rfl) ?_
      refine lv_iload hx hb dX0_change_58 (lv_at hl 0 rfl) ?_
      refine zVv (W1 := [(e, .inr (1, [.ref a1, .ref a2, .ref a3, .int (nI k)])), zA G a1 16 s, zA G a2 16 t, zA G a3 16 lb]) (W2 := [(e, .inr (1, [.ref a1, .ref a2, .ref a3, .int (nI (k - 1))])), zA G a1 16 (zDr s (zFst (zHit s t lb (d % V) ((d / 8) % V) ((d / 64) % 7)) k) k), zA G a2 16 (zDr t (zFst (zHit s t lb (d % V) ((d / 8) % V) ((d / 64) % 7)) k) k), zA G a3 16 (zDr lb (zFst (zHit s t lb (d % V) ((d / 8) % V) ((d / 64) % 7)) k) k)]) (wr := []) (rest := []) SM (c_X2_drop l G e a1 a2 a3 16 s t lb k (zFst (zHit s t lb (d % V) ((d / 8) % V) ((d / 64) % 7)) k) (by first | assumption | omega) (by first | assumption | omega) (by first | assumption | omega)) (cwV 1 hts gX0_change_X2_drop rfl rfl rfl (by decide +kernel) ⟨Nat.le_of_ble_eq_true rfl, Nat.le_of_ble_eq_true rfl⟩) hK hE hA hP hD hS hl.1 [0, 1, 2, 3] [] [0, 1, 2, 3] rfl rfl rfl (by decide) (ci := 1) rfl rfl rfl rfl rfl (Nat.le_of_ble_eq_true rfl) ⟨Nat.zero_le _, Nat.zero_le _⟩ dX0_change_60 (fun H locs hP hD hS => ?_)
      exact kret _ _ _ _ _ (by unfold zCh; first | rw [if_pos (by assumption)] | rw [if_neg (by assumption), if_pos (by assumption)] | rw [if_neg (by assumption), if_neg (by assumption)]) hP hD hS dX0_change_63
    · skip
      refine lv_aload_n hx hb dX0_change_45 rfl (lv_at hl 4 rfl) ?_
      refine lv_iload_n hx hb dX0_change_46 rfl (lv_at hl 3 rfl) ?_
      refine lv_iload hx hb dX0_change_47 (lv_at hl 2 rfl) ?_
      refine lv_iload hx hb dX0_change_49 (lv_at hl 1 rfl) ?_
      by_cases hfull : k < 16
      · skip
        refine zVv (W1 := [(e, .inr (1, [.ref a1, .ref a2, .ref a3, .int (nI k)])), zA G a1 16 s, zA G a2 16 t, zA G a3 16 lb]) (W2 := [(e, .inr (1, [.ref a1, .ref a2, .ref a3, .int (nI (k + 1))])), zA G a1 16 (zU s k (d % V)), zA G a2 16 (zU t k ((d / 8) % V)), zA G a3 16 (zU lb k ((d / 64) % 7))]) (wr := []) (rest := []) SM (c_X2_put_N l G e a1 a2 a3 16 s t lb k (d % V) ((d / 8) % V) ((d / 64) % 7) (by first | assumption | omega) (by first | assumption | omega)) (cwV 3 hts gX0_change_X2_put rfl rfl rfl (by decide +kernel) ⟨Nat.le_of_ble_eq_true rfl, Nat.le_of_ble_eq_true rfl⟩) hK hE hA hP hD hS hl.1 [0, 1, 2, 3] [] [0, 1, 2, 3] rfl rfl rfl (by decide) (ci := 1) rfl rfl rfl rfl rfl (Nat.le_of_ble_eq_true rfl) ⟨Nat.zero_le _, Nat.zero_le _⟩ dX0_change_51 (fun H locs hP hD hS => ?_)
        refine lv_goto (tgt := 63) hx hb dX0_change_54 (by decide) ?_
        exact kret _ _ _ _ _ (by unfold zCh; first | rw [if_pos (by assumption)] | rw [if_neg (by assumption), if_pos (by assumption)] | rw [if_neg (by assumption), if_neg (by assumption)]) hP hD hS dX0_change_63
      · skip
        refine zVv (W1 := [(e, .inr (1, [.ref a1, .ref a2, .ref a3, .int (nI k)])), zA G a1 16 s, zA G a2 16 t, zA G a3 16 lb]) (W2 := [(e, .inr (1, [.ref a1, .ref a2, .ref a3, .int (nI k)])), zA G a1 16 s, zA G a2 16 t, zA G a3 16 lb]) (wr := []) (rest := []) SM (c_X2_put_F l G e a1 a2 a3 16 s t lb k (d % V) ((d / 8) % V) ((d / 64) % 7) (by first | assumption | omega) (by first | assumption | omega) (by first | assumption | omega)) (cwV 3 hts gX0_change_X2_put rfl rfl rfl (by decide +kernel) ⟨Nat.le_of_ble_eq_true rfl, Nat.le_of_ble_eq_true rfl⟩) hK hE hA hP hD hS hl.1 [0, 1, 2, 3] [] [0, 1, 2, 3] rfl rfl rfl (by decide) (ci := 1) rfl rfl rfl rfl rfl (Nat.le_of_ble_eq_true rfl) ⟨Nat.zero_le _, Nat.zero_le _⟩ dX0_change_51 (fun H locs hP hD hS => ?_)
        refine lv_goto (tgt := 63) hx hb dX0_change_54 (by decide) ?_
        exact kret _ _ _ _ _ (by unfold zCh; first | rw [if_pos (by assumption)] | rw [if_neg (by assumption), if_pos (by assumption)] | rw [if_neg (by assumption), if_neg (by assumption)]) hP hD hS dX0_change_63
  · skip
    exfalso; omega
