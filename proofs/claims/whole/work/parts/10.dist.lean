set_option maxHeartbeats 4000000 in
set_option maxRecDepth 100000 in
theorem c_X1_between (l : Launch) (G : zG) (d tb : Nat) (f : Nat → Nat) (V : Nat) (u v : Nat) (hu : u < 8) (hv : v < 8) : MI l yX1_between wsX1_between ({ frames := 0, cells := 0, slots := 0, locals := 0 }) G [.ref d, .int (nI u), .int (nI v)] [(d, .inr (0, [.ref tb, .int (nI V)])), zA G tb 64 f] (nI (f (8 * u + v))) [(d, .inr (0, [.ref tb, .int (nI V)])), zA G tb 64 f] := by
  refine MI.enter (cc := cX1_between) (maxL := 4) (by decide) rfl (Nat.le_of_ble_eq_true rfl) rfl ?_
  intro pM eM sM mM bM tM cM QM AM ls hat kret
  obtain ⟨SM, hA, hK, hE, hP, hD, hS, hl⟩ := hat
  have hx := SM.1
  have hb := SM.2.1
  have hown : sM.vm.findClass RX1 = some mM.cls := SM.2.2.2.1
  have hts := SM.2.2.2.2
  have hinX1 : ∀ w ∈ u_ws RX1 TX1 2, w ∈ wsX1_between := by decide +kernel
  have hlk11 : (Cond.fieldLink RX1 11 "DyckReachability$Distances" "table" "[I").before _ sM = true := hts _ (by decide +kernel)
  have hl : lv_has ls 4 [(0, .ref d), (1, .int (nI u)), (2, .int (nI v))] := hl
  refine lv_bipush (v := nI 8) hx hb dX1_between_0 (by decide) ?_
  refine lv_iload_n hx hb dX1_between_2 rfl (lv_at hl 1 rfl) ?_
  refine zi_mul hx hb dX1_between_3 ?_
  refine lv_iload_n hx hb dX1_between_4 rfl (lv_at hl 2 rfl) ?_
  refine zi_add hx hb dX1_between_5 ?_
  refine lv_istore_n (lv' := [(3, .int (nI ((8 * u) + v))), (0, .ref d), (1, .int (nI u)), (2, .int (nI v))]) hx hb dX1_between_6 rfl hl (by decide) rfl (fun ls hl => ?_)
  refine lv_iload_n hx hb dX1_between_7 rfl (lv_at hl 0 rfl) ?_
  refine zd_lt (a := ((8 * u) + v : Nat)) (tgt := 26) hx hb dX1_between_8 (by decide) (zI (by omega)) (fun c_1 => ?_) (fun c_1 => ?_)
  · skip
    exfalso; omega
  · skip
    refine lv_iload_n hx hb dX1_between_11 rfl (lv_at hl 0 rfl) ?_
    refine lv_bipush (v := nI 64) hx hb dX1_between_12 (by decide) ?_
    refine zn_ge (tgt := 26) hx hb dX1_between_14 (by decide) (by omega) (by omega) (fun c_2 => ?_) (fun c_2 => ?_)
    · skip
      exfalso; omega
    · skip
      refine lv_aload_n hx hb dX1_between_17 rfl (lv_at hl 1 rfl) ?_
      refine va_get (D := G.1) (ci := 0) (v := .ref tb) (C := RX1) (T := TX1) (N := 2) hx hb hts hinX1 hown hK hP 0 rfl rfl 0 (by decide) hlk11 (fun _ h9 => h9) rfl dX1_between_18 ?_
      refine lv_iload_n hx hb dX1_between_21 rfl (lv_at hl 0 rfl) ?_
      refine zi_ald hx hb hK hP 1 rfl (by omega) (by omega) dX1_between_22 ?_
      refine lv_goto (tgt := 28) hx hb dX1_between_23 (by decide) ?_
      exact kret _ _ _ _ _ _ (congrArg nI (by omega)) rfl hP hD hS dX1_between_28
set_option maxHeartbeats 4000000 in
set_option maxRecDepth 100000 in
theorem c_X1_reaches (l : Launch) (G : zG) (d tb : Nat) (f : Nat → Nat) (V : Nat) (u v : Nat) (hf : zT9 f) (hu : u < 8) (hv : v < 8) : MI l yX1_reaches wsX1_reaches ({ frames := 1, cells := 0, slots := 0, locals := 23 }) G [.ref d, .int (nI u), .int (nI v)] [(d, .inr (0, [.ref tb, .int (nI V)])), zA G tb 64 f] (bI (decide (¬ f (8 * u + v) = 1000001))) [(d, .inr (0, [.ref tb, .int (nI V)])), zA G tb 64 f] := by
  refine MI.enter (cc := cX1_reaches) (maxL := 3) (by decide) rfl (Nat.le_of_ble_eq_true rfl) (bI_nar _) ?_
  intro pM eM sM mM bM tM cM QM AM ls hat kret
  obtain ⟨SM, hA, hK, hE, hP, hD, hS, hl⟩ := hat
  have hx := SM.1
  have hb := SM.2.1
  have hown : sM.vm.findClass RX1 = some mM.cls := SM.2.2.2.1
  have hts := SM.2.2.2.2
  have hl : lv_has ls 3 [(0, .ref d), (1, .int (nI u)), (2, .int (nI v))] := hl
  refine lv_aload_n hx hb dX1_reaches_0 rfl (lv_at hl 0 rfl) ?_
  refine lv_iload_n hx hb dX1_reaches_1 rfl (lv_at hl 1 rfl) ?_
  refine lv_iload_n hx hb dX1_reaches_2 rfl (lv_at hl 2 rfl) ?_
  refine zVi (W1 := [(d, .inr (0, [.ref tb, .int (nI V)])), zA G tb 64 f]) (W2 := [(d, .inr (0, [.ref tb, .int (nI V)])), zA G tb 64 f]) (wr := []) (rest := []) SM (c_X1_between l G d tb f V u v (by first | assumption | omega) (by first | assumption | omega)) (cwV 2 hts gX1_reaches_X1_between rfl rfl rfl (by decide +kernel) ⟨Nat.le_of_ble_eq_true rfl, Nat.le_of_ble_eq_true rfl⟩) hK hE hA hP hD hS hl.1 [0, 1] [] [0, 1] rfl rfl rfl (by decide) (ci := 0) rfl rfl rfl rfl rfl (Nat.le_of_ble_eq_true rfl) ⟨Nat.zero_le _, Nat.zero_le _⟩ dX1_reaches_3 (fun H locs hP hD hS => ?_)
  refine lv_ldc (v := nI 1000001) hx hb hown (hts (.constant RX1 19 (1000001)) (by decide +kernel)) dX1_reaches_6 ?_
  have hb1 := hf (8 * u + v)
  refine zn_eq (tgt := 15) hx hb dX1_reaches_8 (by decide) (by omega) (by omega) (fun c_1 => ?_) (fun c_1 => ?_)
  · skip
    refine lv_iconst (v := nI 0) hx hb dX1_reaches_15 (by decide) ?_
    exact kret _ _ _ _ _ _ (bI_f (by omega)) rfl hP hD hS dX1_reaches_16
  · skip
    refine lv_iconst (v := nI 1) hx hb dX1_reaches_11 (by decide) ?_
    refine lv_goto (tgt := 16) hx hb dX1_reaches_12 (by decide) ?_
    exact kret _ _ _ _ _ _ (bI_t (by omega)) rfl hP hD hS dX1_reaches_16
set_option maxHeartbeats 4000000 in
set_option maxRecDepth 100000 in
theorem c_X8_isVertexNumber_N (l : Launch) (G : zG) (c : Nat) (hc : c < 2147483648) : MI l yX8_isVertexNumber wsX8_isVertexNumber ({ frames := 0, cells := 0, slots := 0, locals := 0 }) G [.int (nI c)] [] (bI (decide (c < 8))) [] := by
  refine MI.enter (cc := cX8_isVertexNumber) (maxL := 1) (by decide) rfl (Nat.le_of_ble_eq_true rfl) (bI_nar _) ?_
  intro pM eM sM mM bM tM cM QM AM ls hat kret
  obtain ⟨SM, hA, hK, hE, hP, hD, hS, hl⟩ := hat
  have hx := SM.1
  have hb := SM.2.1
  have hown : sM.vm.findClass RX8 = some mM.cls := SM.2.2.2.1
  have hts := SM.2.2.2.2
  have hl : lv_has ls 1 [(0, .int (nI c))] := hl
  refine lv_iload_n hx hb dX8_isVertexNumber_0 rfl (lv_at hl 0 rfl) ?_
  refine zd_lt (a := (c : Nat)) (tgt := 14) hx hb dX8_isVertexNumber_1 (by decide) (zI (by omega)) (fun c_1 => ?_) (fun c_1 => ?_)
  · skip
    refine lv_iconst (v := nI 0) hx hb dX8_isVertexNumber_14 (by decide) ?_
    exact kret _ _ _ _ _ _ (bI_f (by omega)) rfl hP hD hS dX8_isVertexNumber_15
  · skip
    refine lv_iload_n hx hb dX8_isVertexNumber_4 rfl (lv_at hl 0 rfl) ?_
    refine lv_bipush (v := nI 8) hx hb dX8_isVertexNumber_5 (by decide) ?_
    refine zn_ge (tgt := 14) hx hb dX8_isVertexNumber_7 (by decide) (by omega) (by omega) (fun c_2 => ?_) (fun c_2 => ?_)
    · skip
      refine lv_iconst (v := nI 0) hx hb dX8_isVertexNumber_14 (by decide) ?_
      exact kret _ _ _ _ _ _ (bI_f (by omega)) rfl hP hD hS dX8_isVertexNumber_15
    · skip
      refine lv_iconst (v := nI 1) hx hb dX8_isVertexNumber_10 (by decide) ?_
      refine lv_goto (tgt := 15) hx hb dX8_isVertexNumber_11 (by decide) ?_
      exact kret _ _ _ _ _ _ (bI_t (by omega)) rfl hP hD hS dX8_isVertexNumber_15
set_option maxHeartbeats 4000000 in
set_option maxRecDepth 100000 in
theorem c_X1_shorten (l : Launch) (G : zG) (d tb : Nat) (f : Nat → Nat) (V : Nat) (u lead n : Nat) (hf : zT9 f) (hu : u < 8) (hn : n < 8) (hV : V ≤ 8) (hld : lead ≤ 2000000) : MI l yX1_shorten wsX1_shorten ({ frames := 2, cells := 0, slots := 0, locals := 45 }) G [.ref d, .int (nI u), .int (nI lead), .int (nI n)] [(d, .inr (0, [.ref tb, .int (nI V)])), zA G tb 64 f] (bI (decide ((zSh u lead n V f).2 = true))) [(d, .inr (0, [.ref tb, .int (nI V)])), zA G tb 64 ((zSh u lead n V f).1)] := by
  refine MI.enter (cc := cX1_shorten) (maxL := 7) (by decide) rfl (Nat.le_of_ble_eq_true rfl) (bI_nar _) ?_
  intro pM eM sM mM bM tM cM QM AM ls hat kret
  obtain ⟨SM, hA, hK, hE, hP, hD, hS, hl⟩ := hat
  have hx := SM.1
  have hb := SM.2.1
  have hown : sM.vm.findClass RX1 = some mM.cls := SM.2.2.2.1
  have hts := SM.2.2.2.2
  have hinX1 : ∀ w ∈ u_ws RX1 TX1 2, w ∈ wsX1_shorten := by decide +kernel
  have hlk15 : (Cond.fieldLink RX1 15 "DyckReachability$Distances" "vertices" "I").before _ sM = true := hts _ (by decide +kernel)
  have hlk11 : (Cond.fieldLink RX1 11 "DyckReachability$Distances" "table" "[I").before _ sM = true := hts _ (by decide +kernel)
  have hl : lv_has ls 7 [(0, .ref d), (1, .int (nI u)), (2, .int (nI lead)), (3, .int (nI n))] := hl
  refine lv_iload_n hx hb dX1_shorten_0 rfl (lv_at hl 1 rfl) ?_
  refine zNi (W1 := [(d, .inr (0, [.ref tb, .int (nI V)])), zA G tb 64 f]) (W2 := [(d, .inr (0, [.ref tb, .int (nI V)])), zA G tb 64 f]) (wr := [(d, .inr (0, [.ref tb, .int (nI V)])), zA G tb 64 f]) (rest := []) SM (c_X8_isVertexNumber_N l G u (by first | assumption | omega)) ⟨va_cnB (host := RX8) 1 hts gX1_shorten_X8_isVertexNumber_n62 rfl rfl rfl hE.2.2 (hts (.initialized RX8) (by decide +kernel)) (by decide +kernel) ⟨Nat.le_of_ble_eq_true rfl, Nat.le_of_ble_eq_true rfl⟩, hts (.static yX8_isVertexNumber) (by decide +kernel), trivial⟩ hK hE hA hP hD hS hl.1 [] [0, 1] [0, 1] rfl rfl rfl (by decide) rfl rfl (Nat.le_of_ble_eq_true rfl) ⟨Nat.zero_le _, Nat.zero_le _⟩ dX1_shorten_1 (fun H locs hP hD hS => ?_)
  refine zb_ne (tgt := 9) hx hb dX1_shorten_4 (by decide) (fun c_1 => ?_) (fun c_1 => ?_)
  · skip
    refine lv_iconst (v := nI 0) hx hb dX1_shorten_9 (by decide) ?_
    refine lv_istore (lv' := [(4, .int (nI 0)), (0, .ref d), (1, .int (nI u)), (2, .int (nI lead)), (3, .int (nI n))]) hx hb dX1_shorten_10 hl (by decide) rfl (fun ls hl => ?_)
    refine lv_iconst (v := nI 0) hx hb dX1_shorten_12 (by decide) ?_
    refine lv_istore (lv' := [(5, .int (nI 0)), (4, .int (nI 0)), (0, .ref d), (1, .int (nI u)), (2, .int (nI lead)), (3, .int (nI n))]) hx hb dX1_shorten_13 hl (by decide) rfl (fun ls hl => ?_)
    have lp15 : ∀ (n9 : Nat), ∀ (o : Nat) (g : Nat → Nat) (b : Bool), (o ≤ V) → ((g, b) = zIt (zSt u lead n) o (f, false)) → (zT9 g) → (V - o) < n9 → ∀ (H : Heap) (locs : List Loc) (ls : Array Slot), va_P G.1 vwCl [(d, .inr (0, [.ref tb, .int (nI V)])), zA G tb 64 g] H → va_D AM [(d, .inr (0, [.ref tb, .int (nI V)])), zA G tb 64 g] → va_S AM sM.heap H locs → lv_has ls 7 [(0, .ref d), (1, .int (nI u)), (2, .int (nI lead)), (3, .int (nI n)), (4, .int (bI (decide (b = true)))), (5, .int (nI o))] → W pM l eM ({ frames := 2, cells := 0, slots := 0, locals := 45 }) sM mM (([.ref d, .int (nI u), .int (nI lead), .int (nI n)] : List Value).toArray) bM tM cM H locs 0 0 QM (F0 mM 15 ls []) := by
      intro n9
      induction n9 with
      | zero =>
        intro _ _ _ _ _ _ h9
        exact absurd h9 (Nat.not_lt_zero _)
      | succ n9 ih9 =>
        intro o g b h1 hq hg hmu15 H locs ls hP hD hS hl
        have ih15 := ih9
        clear ih9
        have hb1 := hg (8 * n + o)
        have hb2 := hg (8 * u + o)
        refine lv_iload hx hb dX1_shorten_15 (lv_at hl 5 rfl) ?_
        refine lv_aload_n hx hb dX1_shorten_17 rfl (lv_at hl 0 rfl) ?_
        refine va_get (D := G.1) (ci := 0) (v := .int (nI V)) (C := RX1) (T := TX1) (N := 2) hx hb hts hinX1 hown hK hP 0 rfl rfl 1 (by decide) hlk15 (fun _ h9 => h9) rfl dX1_shorten_18 ?_
        refine zn_ge (tgt := 85) hx hb dX1_shorten_21 (by decide) (by omega) (by omega) (fun c_2 => ?_) (fun c_2 => ?_)
        · skip
          refine lv_iload hx hb dX1_shorten_85 (lv_at hl 4 rfl) ?_
          exact kret _ _ _ _ _ _ (by have hq9 : o = V := (by omega); subst hq9; unfold zSh; rw [← hq]) (by have hq9 : o = V := (by omega); subst hq9; unfold zSh; rw [← hq]) hP hD hS dX1_shorten_87
        · skip
          refine lv_aload_n hx hb dX1_shorten_24 rfl (lv_at hl 0 rfl) ?_
          refine lv_iload_n hx hb dX1_shorten_25 rfl (lv_at hl 3 rfl) ?_
          refine lv_iload hx hb dX1_shorten_26 (lv_at hl 5 rfl) ?_
          refine zVi (W1 := [(d, .inr (0, [.ref tb, .int (nI V)])), zA G tb 64 g]) (W2 := [(d, .inr (0, [.ref tb, .int (nI V)])), zA G tb 64 g]) (wr := []) (rest := []) SM (c_X1_reaches l G d tb g V n o (by first | assumption | omega) (by first | assumption | omega) (by first | assumption | omega)) (cwV 2 hts gX1_shorten_X1_reaches rfl rfl rfl (by decide +kernel) ⟨Nat.le_of_ble_eq_true rfl, Nat.le_of_ble_eq_true rfl⟩) hK hE hA hP hD hS hl.1 [0, 1] [] [0, 1] rfl rfl rfl (by decide) (ci := 0) rfl rfl rfl rfl rfl (Nat.le_of_ble_eq_true rfl) ⟨Nat.zero_le _, Nat.zero_le _⟩ dX1_shorten_28 (fun H locs hP hD hS => ?_)
          refine zb_eq (tgt := 79) hx hb dX1_shorten_31 (by decide) (fun c_3 => ?_) (fun c_3 => ?_)
          · skip
            refine lv_iinc (v := nI (o + 1)) (lv' := [(5, .int (nI (o + 1))), (0, .ref d), (1, .int (nI u)), (2, .int (nI lead)), (3, .int (nI n)), (4, .int (bI (decide (b = true))))]) hx hb dX1_shorten_79 hl (k := 5) rfl (zinc o 1) (by decide) rfl (fun ls hl => ?_)
            refine lv_goto (tgt := 15) hx hb dX1_shorten_82 (by decide) ?_
            exact ih15 (o + 1) g b (by first | assumption | omega) (by rw [zIt_s, ← hq]; unfold zSt; dsimp only; split <;> first | rfl | (exfalso; omega)) (by first | exact hg | exact zT9_U hg (by omega)) (by omega) _ _ _ hP hD hS (lv_sub hl [1, 2, 3, 4, 5, 0] rfl)
          · skip
            refine lv_iload_n hx hb dX1_shorten_34 rfl (lv_at hl 2 rfl) ?_
            refine lv_aload_n hx hb dX1_shorten_35 rfl (lv_at hl 0 rfl) ?_
            refine lv_iload_n hx hb dX1_shorten_36 rfl (lv_at hl 3 rfl) ?_
            refine lv_iload hx hb dX1_shorten_37 (lv_at hl 5 rfl) ?_
            refine zVi (W1 := [(d, .inr (0, [.ref tb, .int (nI V)])), zA G tb 64 g]) (W2 := [(d, .inr (0, [.ref tb, .int (nI V)])), zA G tb 64 g]) (wr := []) (rest := [.int (nI lead)]) SM (c_X1_between l G d tb g V n o (by first | assumption | omega) (by first | assumption | omega)) (cwV 2 hts gX1_shorten_X1_between rfl rfl rfl (by decide +kernel) ⟨Nat.le_of_ble_eq_true rfl, Nat.le_of_ble_eq_true rfl⟩) hK hE hA hP hD hS hl.1 [0, 1] [] [0, 1] rfl rfl rfl (by decide) (ci := 0) rfl rfl rfl rfl rfl (Nat.le_of_ble_eq_true rfl) ⟨Nat.zero_le _, Nat.zero_le _⟩ dX1_shorten_39 (fun H locs hP hD hS => ?_)
            refine zi_add hx hb dX1_shorten_42 ?_
            refine lv_ldc (v := nI 1000000) hx hb hown (hts (.constant RX1 65 (1000000)) (by decide +kernel)) dX1_shorten_43 ?_
            refine va_mmin hx hb (SM.2.2.1.trans hl.1.symm) hown (hts (.methodLink RX1 24 Lib.Math.min.name) (by decide +kernel)) (hts (.static Lib.Math.min.name) (by decide +kernel)) (hts (.initialized "java/lang/Math") (by decide +kernel)) (hts (.code Lib.Math.min.name Lib.Math.min.code 2 (some .int)) (by decide +kernel)) (Nat.le_of_ble_eq_true rfl) (Nat.le_of_ble_eq_true rfl) (Nat.zero_le _) (Nat.zero_le _) dX1_shorten_45 ?_
            refine zti (y := nI (min (lead + (g (8 * n + o))) 1000000)) (zmin (by omega) (by omega)) ?_
            refine lv_istore (lv' := [(6, .int (nI (min (lead + (g (8 * n + o))) 1000000))), (0, .ref d), (1, .int (nI u)), (2, .int (nI lead)), (3, .int (nI n)), (4, .int (bI (decide (b = true)))), (5, .int (nI o))]) hx hb dX1_shorten_48 hl (by decide) rfl (fun ls hl => ?_)
            refine lv_iload hx hb dX1_shorten_50 (lv_at hl 0 rfl) ?_
            refine lv_aload_n hx hb dX1_shorten_52 rfl (lv_at hl 1 rfl) ?_
            refine lv_iload_n hx hb dX1_shorten_53 rfl (lv_at hl 2 rfl) ?_
            refine lv_iload hx hb dX1_shorten_54 (lv_at hl 6 rfl) ?_
            refine zVi (W1 := [(d, .inr (0, [.ref tb, .int (nI V)])), zA G tb 64 g]) (W2 := [(d, .inr (0, [.ref tb, .int (nI V)])), zA G tb 64 g]) (wr := []) (rest := [.int (nI (min (lead + (g (8 * n + o))) 1000000))]) SM (c_X1_between l G d tb g V u o (by first | assumption | omega) (by first | assumption | omega)) (cwV 2 hts gX1_shorten_X1_between rfl rfl rfl (by decide +kernel) ⟨Nat.le_of_ble_eq_true rfl, Nat.le_of_ble_eq_true rfl⟩) hK hE hA hP hD hS hl.1 [0, 1] [] [0, 1] rfl rfl rfl (by decide) (ci := 0) rfl rfl rfl rfl rfl (Nat.le_of_ble_eq_true rfl) ⟨Nat.zero_le _, Nat.zero_le _⟩ dX1_shorten_56 (fun H locs hP hD hS => ?_)
            refine zn_ge (tgt := 79) hx hb dX1_shorten_59 (by decide) (by omega) (by omega) (fun c_4 => ?_) (fun c_4 => ?_)
            · skip
              refine lv_iinc (v := nI (o + 1)) (lv' := [(5, .int (nI (o + 1))), (6, .int (nI (min (lead + (g (8 * n + o))) 1000000))), (0, .ref d), (1, .int (nI u)), (2, .int (nI lead)), (3, .int (nI n)), (4, .int (bI (decide (b = true))))]) hx hb dX1_shorten_79 hl (k := 6) rfl (zinc o 1) (by decide) rfl (fun ls hl => ?_)
              refine lv_goto (tgt := 15) hx hb dX1_shorten_82 (by decide) ?_
              exact ih15 (o + 1) g b (by first | assumption | omega) (by rw [zIt_s, ← hq]; unfold zSt; dsimp only; split <;> first | rfl | (exfalso; omega)) (by first | exact hg | exact zT9_U hg (by omega)) (by omega) _ _ _ hP hD hS (lv_sub hl [2, 3, 4, 5, 6, 0] rfl)
            · skip
              refine lv_aload_n hx hb dX1_shorten_62 rfl (lv_at hl 1 rfl) ?_
              refine va_get (D := G.1) (ci := 0) (v := .ref tb) (C := RX1) (T := TX1) (N := 2) hx hb hts hinX1 hown hK hP 0 rfl rfl 0 (by decide) hlk11 (fun _ h9 => h9) rfl dX1_shorten_63 ?_
              refine lv_bipush (v := nI 8) hx hb dX1_shorten_66 (by decide) ?_
              refine lv_iload_n hx hb dX1_shorten_68 rfl (lv_at hl 2 rfl) ?_
              refine zi_mul hx hb dX1_shorten_69 ?_
              refine lv_iload hx hb dX1_shorten_70 (lv_at hl 6 rfl) ?_
              refine zi_add hx hb dX1_shorten_72 ?_
              refine lv_iload hx hb dX1_shorten_73 (lv_at hl 0 rfl) ?_
              refine zi_ast hx hb hK hP hD hS 1 rfl (by omega) (by omega) dX1_shorten_75 (fun H locs hP hD hS => ?_)
              have hP : va_P G.1 vwCl [(d, .inr (0, [.ref tb, .int (nI V)])), zA G tb 64 (zU g ((8 * u) + o) (min (lead + (g (8 * n + o))) 1000000))] H := hP
              have hD : va_D AM [(d, .inr (0, [.ref tb, .int (nI V)])), zA G tb 64 (zU g ((8 * u) + o) (min (lead + (g (8 * n + o))) 1000000))] := hD
              refine lv_iconst (v := nI 1) hx hb dX1_shorten_76 (by decide) ?_
              refine lv_istore (lv' := [(4, .int (nI 1)), (6, .int (nI (min (lead + (g (8 * n + o))) 1000000))), (0, .ref d), (1, .int (nI u)), (2, .int (nI lead)), (3, .int (nI n)), (5, .int (nI o))]) hx hb dX1_shorten_77 hl (by decide) rfl (fun ls hl => ?_)
              refine lv_iinc (v := nI (o + 1)) (lv' := [(5, .int (nI (o + 1))), (4, .int (nI 1)), (6, .int (nI (min (lead + (g (8 * n + o))) 1000000))), (0, .ref d), (1, .int (nI u)), (2, .int (nI lead)), (3, .int (nI n))]) hx hb dX1_shorten_79 hl (k := 6) rfl (zinc o 1) (by decide) rfl (fun ls hl => ?_)
              refine lv_goto (tgt := 15) hx hb dX1_shorten_82 (by decide) ?_
              exact ih15 (o + 1) (zU g ((8 * u) + o) (min (lead + (g (8 * n + o))) 1000000)) true (by first | assumption | omega) (by rw [zIt_s, ← hq]; unfold zSt; dsimp only; split <;> first | rfl | (exfalso; omega)) (by first | exact hg | exact zT9_U hg (by omega)) (by omega) _ _ _ hP hD hS (lv_sub hl [3, 4, 5, 6, 1, 0] rfl)
    exact lp15 (V - 0 + 1) 0 f false (by first | assumption | omega) rfl hf (Nat.lt_succ_self _) _ _ _ hP hD hS (lv_sub hl [2, 3, 4, 5, 1, 0] rfl)
  · skip
    exfalso; omega
set_option maxHeartbeats 4000000 in
set_option maxRecDepth 100000 in
theorem c_X1_shortenBehind (l : Launch) (G : zG) (d tb : Nat) (f : Nat → Nat) (V : Nat) (j : Nat) (e a1 a2 a3 : Nat) (cap : Nat) (s t lb : Nat → Nat) (k : Nat) (hf : zT9 f) (hj : j < k) (hV : V ≤ 8) (hk : k ≤ cap) (hc : cap < 2147483648) (hbs : ∀ i, s i < 8) (hbt : ∀ i, t i < 8) (hlb : ∀ i, lb i < 7) : MI l yX1_shortenBehind wsX1_shortenBehind ({ frames := 3, cells := 0, slots := 0, locals := 71 }) G [.ref d, .int (nI j), .ref e] [(d, .inr (0, [.ref tb, .int (nI V)])), zA G tb 64 f, (e, .inr (1, [.ref a1, .ref a2, .ref a3, .int (nI k)])), zA G a1 cap s, zA G a2 cap t, zA G a3 cap lb] (bI (decide ((zBh s t lb k V j f).2 = true))) [(d, .inr (0, [.ref tb, .int (nI V)])), zA G tb 64 ((zBh s t lb k V j f).1), (e, .inr (1, [.ref a1, .ref a2, .ref a3, .int (nI k)])), zA G a1 cap s, zA G a2 cap t, zA G a3 cap lb] := by
  refine MI.enter (cc := cX1_shortenBehind) (maxL := 8) (by decide) rfl (Nat.le_of_ble_eq_true rfl) (bI_nar _) ?_
  intro pM eM sM mM bM tM cM QM AM ls hat kret
  obtain ⟨SM, hA, hK, hE, hP, hD, hS, hl⟩ := hat
  have hx := SM.1
  have hb := SM.2.1
  have hown : sM.vm.findClass RX1 = some mM.cls := SM.2.2.2.1
  have hts := SM.2.2.2.2
  have hinX2 : ∀ w ∈ u_ws RX2 TX2 4, w ∈ wsX1_shortenBehind := by decide +kernel
  have hlk38 : (Cond.fieldLink RX1 38 "DyckReachability$Edges" "sources" "[I").before _ sM = true := hts _ (by decide +kernel)
  have hlk41 : (Cond.fieldLink RX1 41 "DyckReachability$Edges" "targets" "[I").before _ sM = true := hts _ (by decide +kernel)
  have hlk29 : (Cond.fieldLink RX1 29 "DyckReachability$Edges" "size" "I").before _ sM = true := hts _ (by decide +kernel)
  have hl : lv_has ls 8 [(0, .ref d), (1, .int (nI j)), (2, .ref e)] := hl
  refine lv_aload_n hx hb dX1_shortenBehind_0 rfl (lv_at hl 2 rfl) ?_
  refine va_get (D := G.1) (ci := 1) (v := .ref a1) (C := RX2) (T := TX2) (N := 4) hx hb hts hinX2 hown hK hP 2 rfl rfl 0 (by decide) hlk38 (fun _ h9 => h9) rfl dX1_shortenBehind_1 ?_
  refine lv_iload_n hx hb dX1_shortenBehind_4 rfl (lv_at hl 1 rfl) ?_
  refine zi_ald hx hb hK hP 3 rfl (by omega) (by omega) dX1_shortenBehind_5 ?_
  have hb_1 := hbs j
  refine lv_istore_n (lv' := [(3, .int (nI (s j))), (0, .ref d), (1, .int (nI j)), (2, .ref e)]) hx hb dX1_shortenBehind_6 rfl hl (by decide) rfl (fun ls hl => ?_)
  refine lv_aload_n hx hb dX1_shortenBehind_7 rfl (lv_at hl 3 rfl) ?_
  refine va_get (D := G.1) (ci := 1) (v := .ref a2) (C := RX2) (T := TX2) (N := 4) hx hb hts hinX2 hown hK hP 2 rfl rfl 1 (by decide) hlk41 (fun _ h9 => h9) rfl dX1_shortenBehind_8 ?_
  refine lv_iload_n hx hb dX1_shortenBehind_11 rfl (lv_at hl 2 rfl) ?_
  refine zi_ald hx hb hK hP 4 rfl (by omega) (by omega) dX1_shortenBehind_12 ?_
  have hb_2 := hbt j
  refine lv_istore (lv' := [(4, .int (nI (t j))), (3, .int (nI (s j))), (0, .ref d), (1, .int (nI j)), (2, .ref e)]) hx hb dX1_shortenBehind_13 hl (by decide) rfl (fun ls hl => ?_)
  refine lv_aload_n hx hb dX1_shortenBehind_15 rfl (lv_at hl 4 rfl) ?_
  refine lv_iload_n hx hb dX1_shortenBehind_16 rfl (lv_at hl 3 rfl) ?_
  refine zVi (W1 := [(d, .inr (0, [.ref tb, .int (nI V)])), zA G tb 64 f, (e, .inr (1, [.ref a1, .ref a2, .ref a3, .int (nI k)])), zA G a1 cap s, zA G a2 cap t, zA G a3 cap lb]) (W2 := [(d, .inr (0, [.ref tb, .int (nI V)])), zA G tb 64 f, (e, .inr (1, [.ref a1, .ref a2, .ref a3, .int (nI k)])), zA G a1 cap s, zA G a2 cap t, zA G a3 cap lb]) (wr := [(d, .inr (0, [.ref tb, .int (nI V)])), zA G tb 64 f, zA G a1 cap s, zA G a2 cap t]) (rest := []) SM (c_X2_isEmptyLabelled l G e a1 a2 a3 cap lb k j (by first | assumption | omega) (by first | assumption | omega) (by first | assumption | omega)) (cwV 1 hts gX1_shortenBehind_X2_isEmptyLabelled rfl rfl rfl (by decide +kernel) ⟨Nat.le_of_ble_eq_true rfl, Nat.le_of_ble_eq_true rfl⟩) hK hE hA hP hD hS hl.1 [2, 5] [0, 1, 3, 4] [0, 1, 4, 2, 3, 5] rfl rfl rfl (by decide) (ci := 1) rfl rfl rfl rfl rfl (Nat.le_of_ble_eq_true rfl) ⟨Nat.zero_le _, Nat.zero_le _⟩ dX1_shortenBehind_17 (fun H locs hP hD hS => ?_)
  refine zb_eq (tgt := 32) hx hb dX1_shortenBehind_20 (by decide) (fun c_3 => ?_) (fun c_3 => ?_)
  · skip
    refine lv_aload_n hx hb dX1_shortenBehind_32 rfl (lv_at hl 4 rfl) ?_
    refine lv_iload_n hx hb dX1_shortenBehind_33 rfl (lv_at hl 3 rfl) ?_
    refine zVi (W1 := [(d, .inr (0, [.ref tb, .int (nI V)])), zA G tb 64 f, (e, .inr (1, [.ref a1, .ref a2, .ref a3, .int (nI k)])), zA G a1 cap s, zA G a2 cap t, zA G a3 cap lb]) (W2 := [(d, .inr (0, [.ref tb, .int (nI V)])), zA G tb 64 f, (e, .inr (1, [.ref a1, .ref a2, .ref a3, .int (nI k)])), zA G a1 cap s, zA G a2 cap t, zA G a3 cap lb]) (wr := [(d, .inr (0, [.ref tb, .int (nI V)])), zA G tb 64 f, zA G a1 cap s, zA G a2 cap t]) (rest := []) SM (c_X2_opens l G e a1 a2 a3 cap lb k j (by first | assumption | omega) (by first | assumption | omega) (by first | assumption | omega)) (cwV 1 hts gX1_shortenBehind_X2_opens rfl rfl rfl (by decide +kernel) ⟨Nat.le_of_ble_eq_true rfl, Nat.le_of_ble_eq_true rfl⟩) hK hE hA hP hD hS hl.1 [2, 5] [0, 1, 3, 4] [0, 1, 4, 2, 3, 5] rfl rfl rfl (by decide) (ci := 1) rfl rfl rfl rfl rfl (Nat.le_of_ble_eq_true rfl) ⟨Nat.zero_le _, Nat.zero_le _⟩ dX1_shortenBehind_34 (fun H locs hP hD hS => ?_)
    refine zb_ne (tgt := 42) hx hb dX1_shortenBehind_37 (by decide) (fun c_4 => ?_) (fun c_4 => ?_)
    · skip
      refine lv_iconst (v := nI 0) hx hb dX1_shortenBehind_42 (by decide) ?_
      refine lv_istore (lv' := [(5, .int (nI 0)), (4, .int (nI (t j))), (3, .int (nI (s j))), (0, .ref d), (1, .int (nI j)), (2, .ref e)]) hx hb dX1_shortenBehind_43 hl (by decide) rfl (fun ls hl => ?_)
      refine lv_iconst (v := nI 0) hx hb dX1_shortenBehind_45 (by decide) ?_
      refine lv_istore (lv' := [(6, .int (nI 0)), (5, .int (nI 0)), (4, .int (nI (t j))), (3, .int (nI (s j))), (0, .ref d), (1, .int (nI j)), (2, .ref e)]) hx hb dX1_shortenBehind_46 hl (by decide) rfl (fun ls hl => ?_)
      have lp48 : ∀ (n9 : Nat), ∀ (c : Nat) (g : Nat → Nat) (b : Bool), (c ≤ k) → ((g, b) = zIt (zBhC s t lb V j) c (f, false)) → (zT9 g) → (k - c) < n9 → ∀ (H : Heap) (locs : List Loc) (ls : Array Slot), va_P G.1 vwCl [(d, .inr (0, [.ref tb, .int (nI V)])), zA G tb 64 g, (e, .inr (1, [.ref a1, .ref a2, .ref a3, .int (nI k)])), zA G a1 cap s, zA G a2 cap t, zA G a3 cap lb] H → va_D AM [(d, .inr (0, [.ref tb, .int (nI V)])), zA G tb 64 g, (e, .inr (1, [.ref a1, .ref a2, .ref a3, .int (nI k)])), zA G a1 cap s, zA G a2 cap t, zA G a3 cap lb] → va_S AM sM.heap H locs → lv_has ls 8 [(0, .ref d), (1, .int (nI j)), (2, .ref e), (3, .int (nI (s j))), (4, .int (nI (t j))), (5, .int (bI (decide (b = true)))), (6, .int (nI c))] → W pM l eM ({ frames := 3, cells := 0, slots := 0, locals := 71 }) sM mM (([.ref d, .int (nI j), .ref e] : List Value).toArray) bM tM cM H locs 0 0 QM (F0 mM 48 ls []) := by
        intro n9
        induction n9 with
        | zero =>
          intro _ _ _ _ _ _ h9
          exact absurd h9 (Nat.not_lt_zero _)
        | succ n9 ih9 =>
          intro c g b h1 hq hg hmu48 H locs ls hP hD hS hl
          have ih48 := ih9
          clear ih9
          refine lv_iload hx hb dX1_shortenBehind_48 (lv_at hl 6 rfl) ?_
          refine lv_aload_n hx hb dX1_shortenBehind_50 rfl (lv_at hl 2 rfl) ?_
          refine va_get (D := G.1) (ci := 1) (v := .int (nI k)) (C := RX2) (T := TX2) (N := 4) hx hb hts hinX2 hown hK hP 2 rfl rfl 3 (by decide) hlk29 (fun _ h9 => h9) rfl dX1_shortenBehind_51 ?_
          refine zn_ge (tgt := 126) hx hb dX1_shortenBehind_54 (by decide) (by omega) (by omega) (fun c_5 => ?_) (fun c_5 => ?_)
          · skip
            refine lv_iload hx hb dX1_shortenBehind_126 (lv_at hl 5 rfl) ?_
            exact kret _ _ _ _ _ _ (by have hq9 : c = k := (by omega); subst hq9; unfold zBh; rw [if_neg (by assumption), if_pos (by assumption), ← hq]) (by have hq9 : c = k := (by omega); subst hq9; unfold zBh; rw [if_neg (by assumption), if_pos (by assumption), ← hq]) hP hD hS dX1_shortenBehind_128
          · skip
            refine lv_aload_n hx hb dX1_shortenBehind_57 rfl (lv_at hl 2 rfl) ?_
            refine lv_iload hx hb dX1_shortenBehind_58 (lv_at hl 6 rfl) ?_
            refine lv_iload_n hx hb dX1_shortenBehind_60 rfl (lv_at hl 1 rfl) ?_
            refine zVi (W1 := [(d, .inr (0, [.ref tb, .int (nI V)])), zA G tb 64 g, (e, .inr (1, [.ref a1, .ref a2, .ref a3, .int (nI k)])), zA G a1 cap s, zA G a2 cap t, zA G a3 cap lb]) (W2 := [(d, .inr (0, [.ref tb, .int (nI V)])), zA G tb 64 g, (e, .inr (1, [.ref a1, .ref a2, .ref a3, .int (nI k)])), zA G a1 cap s, zA G a2 cap t, zA G a3 cap lb]) (wr := [(d, .inr (0, [.ref tb, .int (nI V)])), zA G tb 64 g, zA G a1 cap s, zA G a2 cap t]) (rest := []) SM (c_X2_closes l G e a1 a2 a3 cap lb k c j (by first | assumption | omega) (by first | assumption | omega) (by first | assumption | omega) (by first | assumption | omega)) (cwV 2 hts gX1_shortenBehind_X2_closes rfl rfl rfl (by decide +kernel) ⟨Nat.le_of_ble_eq_true rfl, Nat.le_of_ble_eq_true rfl⟩) hK hE hA hP hD hS hl.1 [2, 5] [0, 1, 3, 4] [0, 1, 4, 2, 3, 5] rfl rfl rfl (by decide) (ci := 1) rfl rfl rfl rfl rfl (Nat.le_of_ble_eq_true rfl) ⟨Nat.zero_le _, Nat.zero_le _⟩ dX1_shortenBehind_61 (fun H locs hP hD hS => ?_)
            refine zb_eq (tgt := 120) hx hb dX1_shortenBehind_64 (by decide) (fun c_6 => ?_) (fun c_6 => ?_)
            · skip
              refine lv_iinc (v := nI (c + 1)) (lv' := [(6, .int (nI (c + 1))), (0, .ref d), (1, .int (nI j)), (2, .ref e), (3, .int (nI (s j))), (4, .int (nI (t j))), (5, .int (bI (decide (b = true))))]) hx hb dX1_shortenBehind_120 hl (k := 6) rfl (zinc c 1) (by decide) rfl (fun ls hl => ?_)
              refine lv_goto (tgt := 48) hx hb dX1_shortenBehind_123 (by decide) ?_
              exact ih48 (c + 1) g b (by first | assumption | omega) (by rw [zIt_s, ← hq]; unfold zBhC; dsimp only; split <;> first | rfl | (exfalso; omega) | (apply Prod.ext <;> simp_all)) (by first | exact hg | exact zShI_9 hg) (by omega) _ _ _ hP hD hS (lv_sub hl [1, 2, 3, 4, 5, 6, 0] rfl)
            · skip
              refine lv_aload_n hx hb dX1_shortenBehind_67 rfl (lv_at hl 0 rfl) ?_
              refine lv_iload hx hb dX1_shortenBehind_68 (lv_at hl 4 rfl) ?_
              refine lv_aload_n hx hb dX1_shortenBehind_70 rfl (lv_at hl 2 rfl) ?_
              refine va_get (D := G.1) (ci := 1) (v := .ref a1) (C := RX2) (T := TX2) (N := 4) hx hb hts hinX2 hown hK hP 2 rfl rfl 0 (by decide) hlk38 (fun _ h9 => h9) rfl dX1_shortenBehind_71 ?_
              refine lv_iload hx hb dX1_shortenBehind_74 (lv_at hl 6 rfl) ?_
              refine zi_ald hx hb hK hP 3 rfl (by omega) (by omega) dX1_shortenBehind_76 ?_
              have hb_7 := hbs c
              refine zVi (W1 := [(d, .inr (0, [.ref tb, .int (nI V)])), zA G tb 64 g, (e, .inr (1, [.ref a1, .ref a2, .ref a3, .int (nI k)])), zA G a1 cap s, zA G a2 cap t, zA G a3 cap lb]) (W2 := [(d, .inr (0, [.ref tb, .int (nI V)])), zA G tb 64 g, (e, .inr (1, [.ref a1, .ref a2, .ref a3, .int (nI k)])), zA G a1 cap s, zA G a2 cap t, zA G a3 cap lb]) (wr := [(e, .inr (1, [.ref a1, .ref a2, .ref a3, .int (nI k)])), zA G a1 cap s, zA G a2 cap t, zA G a3 cap lb]) (rest := []) SM (c_X1_reaches l G d tb g V (t j) (s c) (by first | assumption | omega) (by first | assumption | omega) (by first | assumption | omega)) (cwV 2 hts gX1_shortenBehind_X1_reaches rfl rfl rfl (by decide +kernel) ⟨Nat.le_of_ble_eq_true rfl, Nat.le_of_ble_eq_true rfl⟩) hK hE hA hP hD hS hl.1 [0, 1] [2, 3, 4, 5] [4, 5, 0, 1, 2, 3] rfl rfl rfl (by decide) (ci := 0) rfl rfl rfl rfl rfl (Nat.le_of_ble_eq_true rfl) ⟨Nat.zero_le _, Nat.zero_le _⟩ dX1_shortenBehind_77 (fun H locs hP hD hS => ?_)
              refine zb_eq (tgt := 120) hx hb dX1_shortenBehind_80 (by decide) (fun c_8 => ?_) (fun c_8 => ?_)
              · skip
                refine lv_iinc (v := nI (c + 1)) (lv' := [(6, .int (nI (c + 1))), (0, .ref d), (1, .int (nI j)), (2, .ref e), (3, .int (nI (s j))), (4, .int (nI (t j))), (5, .int (bI (decide (b = true))))]) hx hb dX1_shortenBehind_120 hl (k := 6) rfl (zinc c 1) (by decide) rfl (fun ls hl => ?_)
                refine lv_goto (tgt := 48) hx hb dX1_shortenBehind_123 (by decide) ?_
                exact ih48 (c + 1) g b (by first | assumption | omega) (by rw [zIt_s, ← hq]; unfold zBhC; dsimp only; split <;> first | rfl | (exfalso; omega) | (apply Prod.ext <;> simp_all)) (by first | exact hg | exact zShI_9 hg) (by omega) _ _ _ hP hD hS (lv_sub hl [1, 2, 3, 4, 5, 6, 0] rfl)
              · skip
                refine lv_aload_n hx hb dX1_shortenBehind_83 rfl (lv_at hl 0 rfl) ?_
                refine lv_iload hx hb dX1_shortenBehind_84 (lv_at hl 4 rfl) ?_
                refine lv_aload_n hx hb dX1_shortenBehind_86 rfl (lv_at hl 2 rfl) ?_
                refine va_get (D := G.1) (ci := 1) (v := .ref a1) (C := RX2) (T := TX2) (N := 4) hx hb hts hinX2 hown hK hP 2 rfl rfl 0 (by decide) hlk38 (fun _ h9 => h9) rfl dX1_shortenBehind_87 ?_
                refine lv_iload hx hb dX1_shortenBehind_90 (lv_at hl 6 rfl) ?_
                refine zi_ald hx hb hK hP 3 rfl (by omega) (by omega) dX1_shortenBehind_92 ?_
                have hb_9 := hbs c
                refine zVi (W1 := [(d, .inr (0, [.ref tb, .int (nI V)])), zA G tb 64 g, (e, .inr (1, [.ref a1, .ref a2, .ref a3, .int (nI k)])), zA G a1 cap s, zA G a2 cap t, zA G a3 cap lb]) (W2 := [(d, .inr (0, [.ref tb, .int (nI V)])), zA G tb 64 g, (e, .inr (1, [.ref a1, .ref a2, .ref a3, .int (nI k)])), zA G a1 cap s, zA G a2 cap t, zA G a3 cap lb]) (wr := [(e, .inr (1, [.ref a1, .ref a2, .ref a3, .int (nI k)])), zA G a1 cap s, zA G a2 cap t, zA G a3 cap lb]) (rest := []) SM (c_X1_between l G d tb g V (t j) (s c) (by first | assumption | omega) (by first | assumption | omega)) (cwV 2 hts gX1_shortenBehind_X1_between rfl rfl rfl (by decide +kernel) ⟨Nat.le_of_ble_eq_true rfl, Nat.le_of_ble_eq_true rfl⟩) hK hE hA hP hD hS hl.1 [0, 1] [2, 3, 4, 5] [4, 5, 0, 1, 2, 3] rfl rfl rfl (by decide) (ci := 0) rfl rfl rfl rfl rfl (Nat.le_of_ble_eq_true rfl) ⟨Nat.zero_le _, Nat.zero_le _⟩ dX1_shortenBehind_93 (fun H locs hP hD hS => ?_)
                have hb8 := hg (8 * t j + s c)
                refine lv_iconst (v := nI 2) hx hb dX1_shortenBehind_96 (by decide) ?_
                refine zi_addk (n := (g (8 * (t j) + (s c))) + 2) hx hb dX1_shortenBehind_97 (by omega) ?_
                refine lv_istore (lv' := [(7, .int (nI ((g (8 * (t j) + (s c))) + 2))), (0, .ref d), (1, .int (nI j)), (2, .ref e), (3, .int (nI (s j))), (4, .int (nI (t j))), (5, .int (bI (decide (b = true)))), (6, .int (nI c))]) hx hb dX1_shortenBehind_98 hl (by decide) rfl (fun ls hl => ?_)
                refine lv_aload_n hx hb dX1_shortenBehind_100 rfl (lv_at hl 1 rfl) ?_
                refine lv_iload_n hx hb dX1_shortenBehind_101 rfl (lv_at hl 4 rfl) ?_
                refine lv_iload hx hb dX1_shortenBehind_102 (lv_at hl 0 rfl) ?_
                refine lv_aload_n hx hb dX1_shortenBehind_104 rfl (lv_at hl 3 rfl) ?_
                refine va_get (D := G.1) (ci := 1) (v := .ref a2) (C := RX2) (T := TX2) (N := 4) hx hb hts hinX2 hown hK hP 2 rfl rfl 1 (by decide) hlk41 (fun _ h9 => h9) rfl dX1_shortenBehind_105 ?_
                refine lv_iload hx hb dX1_shortenBehind_108 (lv_at hl 7 rfl) ?_
                refine zi_ald hx hb hK hP 4 rfl (by omega) (by omega) dX1_shortenBehind_110 ?_
                have hb_10 := hbt c
                refine zVi (W1 := [(d, .inr (0, [.ref tb, .int (nI V)])), zA G tb 64 g, (e, .inr (1, [.ref a1, .ref a2, .ref a3, .int (nI k)])), zA G a1 cap s, zA G a2 cap t, zA G a3 cap lb]) (W2 := [(d, .inr (0, [.ref tb, .int (nI V)])), zA G tb 64 ((zSh (s j) ((g (8 * (t j) + (s c))) + 2) (t c) V g).1), (e, .inr (1, [.ref a1, .ref a2, .ref a3, .int (nI k)])), zA G a1 cap s, zA G a2 cap t, zA G a3 cap lb]) (wr := [(e, .inr (1, [.ref a1, .ref a2, .ref a3, .int (nI k)])), zA G a1 cap s, zA G a2 cap t, zA G a3 cap lb]) (rest := []) SM (c_X1_shorten l G d tb g V (s j) ((g (8 * (t j) + (s c))) + 2) (t c) (by first | assumption | omega) (by first | assumption | omega) (by first | assumption | omega) (by first | assumption | omega) (by first | assumption | omega)) (cwV 3 hts gX1_shortenBehind_X1_shorten rfl rfl rfl (by decide +kernel) ⟨Nat.le_of_ble_eq_true rfl, Nat.le_of_ble_eq_true rfl⟩) hK hE hA hP hD hS hl.1 [0, 1] [2, 3, 4, 5] [4, 5, 0, 1, 2, 3] rfl rfl rfl (by decide) (ci := 0) rfl rfl rfl rfl rfl (Nat.le_of_ble_eq_true rfl) ⟨Nat.zero_le _, Nat.zero_le _⟩ dX1_shortenBehind_111 (fun H locs hP hD hS => ?_)
                refine zb_eq (tgt := 120) hx hb dX1_shortenBehind_114 (by decide) (fun c_11 => ?_) (fun c_11 => ?_)
                · skip
                  refine lv_iinc (v := nI (c + 1)) (lv' := [(6, .int (nI (c + 1))), (7, .int (nI ((g (8 * (t j) + (s c))) + 2))), (0, .ref d), (1, .int (nI j)), (2, .ref e), (3, .int (nI (s j))), (4, .int (nI (t j))), (5, .int (bI (decide (b = true))))]) hx hb dX1_shortenBehind_120 hl (k := 7) rfl (zinc c 1) (by decide) rfl (fun ls hl => ?_)
                  refine lv_goto (tgt := 48) hx hb dX1_shortenBehind_123 (by decide) ?_
                  exact ih48 (c + 1) ((zSh (s j) ((g (8 * (t j) + (s c))) + 2) (t c) V g).1) b (by first | assumption | omega) (by rw [zIt_s, ← hq]; unfold zBhC; dsimp only; split <;> first | rfl | (exfalso; omega) | (apply Prod.ext <;> simp_all)) (by first | exact hg | exact zShI_9 hg) (by omega) _ _ _ hP hD hS (lv_sub hl [2, 3, 4, 5, 6, 7, 0] rfl)
                · skip
                  refine lv_iconst (v := nI 1) hx hb dX1_shortenBehind_117 (by decide) ?_
                  refine lv_istore (lv' := [(5, .int (nI 1)), (7, .int (nI ((g (8 * (t j) + (s c))) + 2))), (0, .ref d), (1, .int (nI j)), (2, .ref e), (3, .int (nI (s j))), (4, .int (nI (t j))), (6, .int (nI c))]) hx hb dX1_shortenBehind_118 hl (by decide) rfl (fun ls hl => ?_)
                  refine lv_iinc (v := nI (c + 1)) (lv' := [(6, .int (nI (c + 1))), (5, .int (nI 1)), (7, .int (nI ((g (8 * (t j) + (s c))) + 2))), (0, .ref d), (1, .int (nI j)), (2, .ref e), (3, .int (nI (s j))), (4, .int (nI (t j)))]) hx hb dX1_shortenBehind_120 hl (k := 7) rfl (zinc c 1) (by decide) rfl (fun ls hl => ?_)
                  refine lv_goto (tgt := 48) hx hb dX1_shortenBehind_123 (by decide) ?_
                  exact ih48 (c + 1) ((zSh (s j) ((g (8 * (t j) + (s c))) + 2) (t c) V g).1) true (by first | assumption | omega) (by rw [zIt_s, ← hq]; unfold zBhC; dsimp only; split <;> first | rfl | (exfalso; omega) | (apply Prod.ext <;> simp_all)) (by first | exact hg | exact zShI_9 hg) (by omega) _ _ _ hP hD hS (lv_sub hl [3, 4, 5, 6, 7, 1, 0] rfl)
      exact lp48 (k - 0 + 1) 0 f false (by first | assumption | omega) rfl hf (Nat.lt_succ_self _) _ _ _ hP hD hS (lv_sub hl [4, 5, 6, 3, 2, 1, 0] rfl)
    · skip
      refine lv_iconst (v := nI 0) hx hb dX1_shortenBehind_40 (by decide) ?_
      exact kret _ _ _ _ _ _ (by unfold zBh; rw [if_neg (by assumption), if_neg (by assumption)]; rfl) (by unfold zBh; rw [if_neg (by assumption), if_neg (by assumption)]) hP hD hS dX1_shortenBehind_41
  · skip
    refine lv_aload_n hx hb dX1_shortenBehind_23 rfl (lv_at hl 2 rfl) ?_
    refine lv_iload_n hx hb dX1_shortenBehind_24 rfl (lv_at hl 1 rfl) ?_
    refine lv_iconst (v := nI 1) hx hb dX1_shortenBehind_25 (by decide) ?_
    refine lv_iload hx hb dX1_shortenBehind_26 (lv_at hl 0 rfl) ?_
    refine zVi (W1 := [(d, .inr (0, [.ref tb, .int (nI V)])), zA G tb 64 f, (e, .inr (1, [.ref a1, .ref a2, .ref a3, .int (nI k)])), zA G a1 cap s, zA G a2 cap t, zA G a3 cap lb]) (W2 := [(d, .inr (0, [.ref tb, .int (nI V)])), zA G tb 64 ((zSh (s j) 1 (t j) V f).1), (e, .inr (1, [.ref a1, .ref a2, .ref a3, .int (nI k)])), zA G a1 cap s, zA G a2 cap t, zA G a3 cap lb]) (wr := [(e, .inr (1, [.ref a1, .ref a2, .ref a3, .int (nI k)])), zA G a1 cap s, zA G a2 cap t, zA G a3 cap lb]) (rest := []) SM (c_X1_shorten l G d tb f V (s j) 1 (t j) (by first | assumption | omega) (by first | assumption | omega) (by first | assumption | omega) (by first | assumption | omega) (by first | assumption | omega)) (cwV 3 hts gX1_shortenBehind_X1_shorten rfl rfl rfl (by decide +kernel) ⟨Nat.le_of_ble_eq_true rfl, Nat.le_of_ble_eq_true rfl⟩) hK hE hA hP hD hS hl.1 [0, 1] [2, 3, 4, 5] [4, 5, 0, 1, 2, 3] rfl rfl rfl (by decide) (ci := 0) rfl rfl rfl rfl rfl (Nat.le_of_ble_eq_true rfl) ⟨Nat.zero_le _, Nat.zero_le _⟩ dX1_shortenBehind_28 (fun H locs hP hD hS => ?_)
    exact kret _ _ _ _ _ _ (congrArg bI (by unfold zBh; rw [if_pos (by assumption)])) (by unfold zBh; rw [if_pos (by assumption)]) hP hD hS dX1_shortenBehind_31
set_option maxHeartbeats 4000000 in
set_option maxRecDepth 100000 in
theorem c_X1_measure (l : Launch) (G : zG) (d tb : Nat) (f : Nat → Nat) (V0 : Nat) (e a1 a2 a3 : Nat) (cap : Nat) (s t lb : Nat → Nat) (k : Nat) (V : Nat) (hf : zT9 f) (hV : V ≤ 8) (hk : k ≤ cap) (hc : cap < 2147483648) (hbs : ∀ i, s i < 8) (hbt : ∀ i, t i < 8) (hlb : ∀ i, lb i < 7) : MV l yX1_measure wsX1_measure ({ frames := 4, cells := 0, slots := 0, locals := 98 }) G [.ref d, .ref e, .int (nI V)] [(d, .inr (0, [.ref tb, .int (nI V0)])), zA G tb 64 f, (e, .inr (1, [.ref a1, .ref a2, .ref a3, .int (nI k)])), zA G a1 cap s, zA G a2 cap t, zA G a3 cap lb] [(d, .inr (0, [.ref tb, .int (nI V)])), zA G tb 64 (zMs f s t lb k V), (e, .inr (1, [.ref a1, .ref a2, .ref a3, .int (nI k)])), zA G a1 cap s, zA G a2 cap t, zA G a3 cap lb] := by
  refine MV.enter (cc := cX1_measure) (maxL := 6) (by decide) rfl (Nat.le_of_ble_eq_true rfl) ?_
  intro pM eM sM mM bM tM cM QM AM ls hat kret
  obtain ⟨SM, hA, hK, hE, hP, hD, hS, hl⟩ := hat
  have hx := SM.1
  have hb := SM.2.1
  have hown : sM.vm.findClass RX1 = some mM.cls := SM.2.2.2.1
  have hts := SM.2.2.2.2
  have hinX1 : ∀ w ∈ u_ws RX1 TX1 2, w ∈ wsX1_measure := by decide +kernel
  have hlk15 : (Cond.fieldLink RX1 15 "DyckReachability$Distances" "vertices" "I").before _ sM = true := hts _ (by decide +kernel)
  have hinX2 : ∀ w ∈ u_ws RX2 TX2 4, w ∈ wsX1_measure := by decide +kernel
  have hlk29 : (Cond.fieldLink RX1 29 "DyckReachability$Edges" "size" "I").before _ sM = true := hts _ (by decide +kernel)
  have hlk11 : (Cond.fieldLink RX1 11 "DyckReachability$Distances" "table" "[I").before _ sM = true := hts _ (by decide +kernel)
  have hl : lv_has ls 6 [(0, .ref d), (1, .ref e), (2, .int (nI V))] := hl
  refine lv_aload_n hx hb dX1_measure_0 rfl (lv_at hl 0 rfl) ?_
  refine lv_iload_n hx hb dX1_measure_1 rfl (lv_at hl 2 rfl) ?_
  refine lv_bipush (v := nI 8) hx hb dX1_measure_2 (by decide) ?_
  refine va_mmin hx hb (SM.2.2.1.trans hl.1.symm) hown (hts (.methodLink RX1 24 Lib.Math.min.name) (by decide +kernel)) (hts (.static Lib.Math.min.name) (by decide +kernel)) (hts (.initialized "java/lang/Math") (by decide +kernel)) (hts (.code Lib.Math.min.name Lib.Math.min.code 2 (some .int)) (by decide +kernel)) (Nat.le_of_ble_eq_true rfl) (Nat.le_of_ble_eq_true rfl) (Nat.zero_le _) (Nat.zero_le _) dX1_measure_4 ?_
  refine zti (y := nI V) ((zmin (by omega) (by omega)).trans (congrArg nI (by omega))) ?_
  refine va_put (D := G.1) (ci := 0) (v := .int (nI V)) (ty := .int) (C := RX1) (T := TX1) (N := 2) hx hb hts hinX1 tyX1 tyX1_ok nmX1 hown hK hP hD hS 0 rfl rfl 1 (by decide) hlk15 (fun _ h9 => h9) rfl (by decide +kernel) rfl rfl (Nat.le_of_ble_eq_true rfl) dX1_measure_7 (fun H locs hP hD hS => ?_)
  have hP : va_P G.1 vwCl [(d, .inr (0, [.ref tb, .int (nI V)])), zA G tb 64 f, (e, .inr (1, [.ref a1, .ref a2, .ref a3, .int (nI k)])), zA G a1 cap s, zA G a2 cap t, zA G a3 cap lb] H := hP
  have hD : va_D AM [(d, .inr (0, [.ref tb, .int (nI V)])), zA G tb 64 f, (e, .inr (1, [.ref a1, .ref a2, .ref a3, .int (nI k)])), zA G a1 cap s, zA G a2 cap t, zA G a3 cap lb] := hD
  refine lv_iconst (v := nI 0) hx hb dX1_measure_10 (by decide) ?_
  refine lv_istore_n (lv' := [(3, .int (nI 0)), (0, .ref d), (1, .ref e), (2, .int (nI V))]) hx hb dX1_measure_11 rfl hl (by decide) rfl (fun ls hl => ?_)
  have lp12 : ∀ (n9 : Nat), ∀ (i : Nat) (g : Nat → Nat), (i ≤ 64) → (g = zIt zM1 i f) → (64 - i) < n9 → ∀ (H : Heap) (locs : List Loc) (ls : Array Slot), va_P G.1 vwCl [(d, .inr (0, [.ref tb, .int (nI V)])), zA G tb 64 g, (e, .inr (1, [.ref a1, .ref a2, .ref a3, .int (nI k)])), zA G a1 cap s, zA G a2 cap t, zA G a3 cap lb] H → va_D AM [(d, .inr (0, [.ref tb, .int (nI V)])), zA G tb 64 g, (e, .inr (1, [.ref a1, .ref a2, .ref a3, .int (nI k)])), zA G a1 cap s, zA G a2 cap t, zA G a3 cap lb] → va_S AM sM.heap H locs → lv_has ls 6 [(0, .ref d), (1, .ref e), (2, .int (nI V)), (3, .int (nI i))] → W pM l eM ({ frames := 4, cells := 0, slots := 0, locals := 98 }) sM mM (([.ref d, .ref e, .int (nI V)] : List Value).toArray) bM tM cM H locs 0 0 QM (F0 mM 12 ls []) := by
    intro n9
    induction n9 with
    | zero =>
      intro _ _ _ _ h9
      exact absurd h9 (Nat.not_lt_zero _)
    | succ n9 ih9 =>
      intro i g h1 hq hmu12 H locs ls hP hD hS hl
      have ih12 := ih9
      clear ih9
      refine lv_iload_n hx hb dX1_measure_12 rfl (lv_at hl 3 rfl) ?_
      refine lv_bipush (v := nI 64) hx hb dX1_measure_13 (by decide) ?_
      refine zn_ge (tgt := 32) hx hb dX1_measure_15 (by decide) (by omega) (by omega) (fun c_1 => ?_) (fun c_1 => ?_)
      · skip
        refine lv_iconst (v := nI 0) hx hb dX1_measure_32 (by decide) ?_
        refine lv_istore_n (lv' := [(3, .int (nI 0)), (0, .ref d), (1, .ref e), (2, .int (nI V))]) hx hb dX1_measure_33 rfl hl (by decide) rfl (fun ls hl => ?_)
        have lp34 : ∀ (n9 : Nat), ∀ (i2 : Nat) (g2 : Nat → Nat), (i2 ≤ V) → (g2 = zIt zM2 i2 (zIt zM1 64 f)) → (V - i2) < n9 → ∀ (H : Heap) (locs : List Loc) (ls : Array Slot), va_P G.1 vwCl [(d, .inr (0, [.ref tb, .int (nI V)])), zA G tb 64 g2, (e, .inr (1, [.ref a1, .ref a2, .ref a3, .int (nI k)])), zA G a1 cap s, zA G a2 cap t, zA G a3 cap lb] H → va_D AM [(d, .inr (0, [.ref tb, .int (nI V)])), zA G tb 64 g2, (e, .inr (1, [.ref a1, .ref a2, .ref a3, .int (nI k)])), zA G a1 cap s, zA G a2 cap t, zA G a3 cap lb] → va_S AM sM.heap H locs → lv_has ls 6 [(0, .ref d), (1, .ref e), (2, .int (nI V)), (3, .int (nI i2))] → W pM l eM ({ frames := 4, cells := 0, slots := 0, locals := 98 }) sM mM (([.ref d, .ref e, .int (nI V)] : List Value).toArray) bM tM cM H locs 0 0 QM (F0 mM 34 ls []) := by
          intro n9
          induction n9 with
          | zero =>
            intro _ _ _ _ h9
            exact absurd h9 (Nat.not_lt_zero _)
          | succ n9 ih9 =>
            intro i2 g2 h2 hq2 hmu34 H locs ls hP hD hS hl
            have ih34 := ih9
            clear ih9
            refine lv_iload_n hx hb dX1_measure_34 rfl (lv_at hl 3 rfl) ?_
            refine lv_aload_n hx hb dX1_measure_35 rfl (lv_at hl 0 rfl) ?_
            refine va_get (D := G.1) (ci := 0) (v := .int (nI V)) (C := RX1) (T := TX1) (N := 2) hx hb hts hinX1 hown hK hP 0 rfl rfl 1 (by decide) hlk15 (fun _ h9 => h9) rfl dX1_measure_36 ?_
            refine zn_ge (tgt := 60) hx hb dX1_measure_39 (by decide) (by omega) (by omega) (fun c_2 => ?_) (fun c_2 => ?_)
            · skip
              refine lv_iconst (v := nI 1) hx hb dX1_measure_60 (by decide) ?_
              refine lv_istore_n (lv' := [(3, .int (nI 1)), (0, .ref d), (1, .ref e), (2, .int (nI V))]) hx hb dX1_measure_61 rfl hl (by decide) rfl (fun ls hl => ?_)
              refine lv_iconst (v := nI 0) hx hb dX1_measure_62 (by decide) ?_
              refine lv_istore (lv' := [(4, .int (nI 0)), (3, .int (nI 1)), (0, .ref d), (1, .ref e), (2, .int (nI V))]) hx hb dX1_measure_63 hl (by decide) rfl (fun ls hl => ?_)
              have lp65 : ∀ (n9 : Nat), ∀ (r : Nat) (g3 : Nat → Nat) (b : Bool), (r ≤ 65) → (g3 = zIt (fun _ => zMrN s t lb k V) r (zM0 f V)) → (b = false → zMrN s t lb k V g3 = g3) → (zT9 g3) → (65 - r) < n9 → ∀ (H : Heap) (locs : List Loc) (ls : Array Slot), va_P G.1 vwCl [(d, .inr (0, [.ref tb, .int (nI V)])), zA G tb 64 g3, (e, .inr (1, [.ref a1, .ref a2, .ref a3, .int (nI k)])), zA G a1 cap s, zA G a2 cap t, zA G a3 cap lb] H → va_D AM [(d, .inr (0, [.ref tb, .int (nI V)])), zA G tb 64 g3, (e, .inr (1, [.ref a1, .ref a2, .ref a3, .int (nI k)])), zA G a1 cap s, zA G a2 cap t, zA G a3 cap lb] → va_S AM sM.heap H locs → lv_has ls 6 [(0, .ref d), (1, .ref e), (2, .int (nI V)), (3, .int (bI (decide (b = true)))), (4, .int (nI r))] → W pM l eM ({ frames := 4, cells := 0, slots := 0, locals := 98 }) sM mM (([.ref d, .ref e, .int (nI V)] : List Value).toArray) bM tM cM H locs 0 0 QM (F0 mM 65 ls []) := by
                intro n9
                induction n9 with
                | zero =>
                  intro _ _ _ _ _ _ _ h9
                  exact absurd h9 (Nat.not_lt_zero _)
                | succ n9 ih9 =>
                  intro r g3 b h3 hq3 hb3 hg3 hmu65 H locs ls hP hD hS hl
                  have ih65 := ih9
                  clear ih9
                  refine lv_iload hx hb dX1_measure_65 (lv_at hl 4 rfl) ?_
                  refine lv_bipush (v := nI 64) hx hb dX1_measure_67 (by decide) ?_
                  refine zn_gt (tgt := 114) hx hb dX1_measure_69 (by decide) (by omega) (by omega) (fun c_3 => ?_) (fun c_3 => ?_)
                  · skip
                    exact kret _ _ _ _ _ (by have hz9 : g3 = zMs f s t lb k V := (by first | exact zMs_brk hq3 (hb3 (by simpa using ‹¬ b = true›)) h3 | (have hq9 : r = 65 := (by omega); subst hq9; exact hq3)); rw [hz9]) hP hD hS dX1_measure_114
                  · skip
                    refine lv_iload_n hx hb dX1_measure_72 rfl (lv_at hl 3 rfl) ?_
                    refine zb_eq (tgt := 114) hx hb dX1_measure_73 (by decide) (fun c_4 => ?_) (fun c_4 => ?_)
                    · skip
                      exact kret _ _ _ _ _ (by have hz9 : g3 = zMs f s t lb k V := (by first | exact zMs_brk hq3 (hb3 (by simpa using ‹¬ b = true›)) h3 | (have hq9 : r = 65 := (by omega); subst hq9; exact hq3)); rw [hz9]) hP hD hS dX1_measure_114
                    · skip
                      refine lv_iconst (v := nI 0) hx hb dX1_measure_76 (by decide) ?_
                      refine lv_istore_n (lv' := [(3, .int (nI 0)), (0, .ref d), (1, .ref e), (2, .int (nI V)), (4, .int (nI r))]) hx hb dX1_measure_77 rfl hl (by decide) rfl (fun ls hl => ?_)
                      refine lv_iconst (v := nI 0) hx hb dX1_measure_78 (by decide) ?_
                      refine lv_istore (lv' := [(5, .int (nI 0)), (3, .int (nI 0)), (0, .ref d), (1, .ref e), (2, .int (nI V)), (4, .int (nI r))]) hx hb dX1_measure_79 hl (by decide) rfl (fun ls hl => ?_)
                      have lp81 : ∀ (n9 : Nat), ∀ (j : Nat) (g4 : Nat → Nat) (b4 : Bool), (j ≤ k) → ((g4, b4) = zIt (zMrF s t lb k V) j (g3, false)) → (zT9 g4) → (k - j) < n9 → ∀ (H : Heap) (locs : List Loc) (ls : Array Slot), va_P G.1 vwCl [(d, .inr (0, [.ref tb, .int (nI V)])), zA G tb 64 g4, (e, .inr (1, [.ref a1, .ref a2, .ref a3, .int (nI k)])), zA G a1 cap s, zA G a2 cap t, zA G a3 cap lb] H → va_D AM [(d, .inr (0, [.ref tb, .int (nI V)])), zA G tb 64 g4, (e, .inr (1, [.ref a1, .ref a2, .ref a3, .int (nI k)])), zA G a1 cap s, zA G a2 cap t, zA G a3 cap lb] → va_S AM sM.heap H locs → lv_has ls 6 [(0, .ref d), (1, .ref e), (2, .int (nI V)), (3, .int (bI (decide (b4 = true)))), (4, .int (nI r)), (5, .int (nI j))] → W pM l eM ({ frames := 4, cells := 0, slots := 0, locals := 98 }) sM mM (([.ref d, .ref e, .int (nI V)] : List Value).toArray) bM tM cM H locs 0 0 QM (F0 mM 81 ls []) := by
                        intro n9
                        induction n9 with
                        | zero =>
                          intro _ _ _ _ _ _ h9
                          exact absurd h9 (Nat.not_lt_zero _)
                        | succ n9 ih9 =>
                          intro j g4 b4 h4 hq4 hg4 hmu81 H locs ls hP hD hS hl
                          have ih81 := ih9
                          clear ih9
                          refine lv_iload hx hb dX1_measure_81 (lv_at hl 5 rfl) ?_
                          refine lv_aload_n hx hb dX1_measure_83 rfl (lv_at hl 1 rfl) ?_
                          refine va_get (D := G.1) (ci := 1) (v := .int (nI k)) (C := RX2) (T := TX2) (N := 4) hx hb hts hinX2 hown hK hP 2 rfl rfl 3 (by decide) hlk29 (fun _ h9 => h9) rfl dX1_measure_84 ?_
                          refine zn_ge (tgt := 108) hx hb dX1_measure_87 (by decide) (by omega) (by omega) (fun c_5 => ?_) (fun c_5 => ?_)
                          · skip
                            refine lv_iinc (v := nI (r + 1)) (lv' := [(4, .int (nI (r + 1))), (0, .ref d), (1, .ref e), (2, .int (nI V)), (3, .int (bI (decide (b4 = true)))), (5, .int (nI j))]) hx hb dX1_measure_108 hl (k := 4) rfl (zinc r 1) (by decide) rfl (fun ls hl => ?_)
                            refine lv_goto (tgt := 65) hx hb dX1_measure_111 (by decide) ?_
                            exact ih65 (r + 1) g4 b4 (by first | assumption | omega) (by have hq9 : j = k := (by omega); subst hq9; rw [zIt_s, ← hq3]; unfold zMrN zMr; rw [← hq4]) (fun h => by have hq9 : j = k := (by omega); subst hq9; have hf3 : zMrN s t lb j V g3 = g3 := zMr_f (by unfold zMr; rw [← hq4]; exact h); have hf4 : g4 = zMrN s t lb j V g3 := (by unfold zMrN zMr; rw [← hq4]); rw [hf4, hf3, hf3]) hg4 (by omega) _ _ _ hP hD hS (lv_sub hl [1, 2, 3, 4, 0] rfl)
                          · skip
                            refine lv_aload_n hx hb dX1_measure_90 rfl (lv_at hl 0 rfl) ?_
                            refine lv_iload hx hb dX1_measure_91 (lv_at hl 5 rfl) ?_
                            refine lv_aload_n hx hb dX1_measure_93 rfl (lv_at hl 1 rfl) ?_
                            refine zVi (W1 := [(d, .inr (0, [.ref tb, .int (nI V)])), zA G tb 64 g4, (e, .inr (1, [.ref a1, .ref a2, .ref a3, .int (nI k)])), zA G a1 cap s, zA G a2 cap t, zA G a3 cap lb]) (W2 := [(d, .inr (0, [.ref tb, .int (nI V)])), zA G tb 64 ((zBh s t lb k V j g4).1), (e, .inr (1, [.ref a1, .ref a2, .ref a3, .int (nI k)])), zA G a1 cap s, zA G a2 cap t, zA G a3 cap lb]) (wr := []) (rest := []) SM (c_X1_shortenBehind l G d tb g4 V j e a1 a2 a3 cap s t lb k (by first | assumption | omega) (by first | assumption | omega) (by first | assumption | omega) (by first | assumption | omega) (by first | assumption | omega) (by first | assumption | omega) (by first | assumption | omega) (by first | assumption | omega)) (cwV 2 hts gX1_measure_X1_shortenBehind rfl rfl rfl (by decide +kernel) ⟨Nat.le_of_ble_eq_true rfl, Nat.le_of_ble_eq_true rfl⟩) hK hE hA hP hD hS hl.1 [0, 1, 2, 3, 4, 5] [] [0, 1, 2, 3, 4, 5] rfl rfl rfl (by decide) (ci := 0) rfl rfl rfl rfl rfl (Nat.le_of_ble_eq_true rfl) ⟨Nat.zero_le _, Nat.zero_le _⟩ dX1_measure_94 (fun H locs hP hD hS => ?_)
                            refine zb_eq (tgt := 102) hx hb dX1_measure_97 (by decide) (fun c_6 => ?_) (fun c_6 => ?_)
                            · skip
                              refine lv_iinc (v := nI (j + 1)) (lv' := [(5, .int (nI (j + 1))), (0, .ref d), (1, .ref e), (2, .int (nI V)), (3, .int (bI (decide (b4 = true)))), (4, .int (nI r))]) hx hb dX1_measure_102 hl (k := 5) rfl (zinc j 1) (by decide) rfl (fun ls hl => ?_)
                              refine lv_goto (tgt := 81) hx hb dX1_measure_105 (by decide) ?_
                              exact ih81 (j + 1) ((zBh s t lb k V j g4).1) b4 (by first | assumption | omega) (by rw [zIt_s, ← hq4]; unfold zMrF; apply Prod.ext <;> simp_all) (zBh_9 hg4) (by omega) _ _ _ hP hD hS (lv_sub hl [1, 2, 3, 4, 5, 0] rfl)
                            · skip
                              refine lv_iconst (v := nI 1) hx hb dX1_measure_100 (by decide) ?_
                              refine lv_istore_n (lv' := [(3, .int (nI 1)), (0, .ref d), (1, .ref e), (2, .int (nI V)), (4, .int (nI r)), (5, .int (nI j))]) hx hb dX1_measure_101 rfl hl (by decide) rfl (fun ls hl => ?_)
                              refine lv_iinc (v := nI (j + 1)) (lv' := [(5, .int (nI (j + 1))), (3, .int (nI 1)), (0, .ref d), (1, .ref e), (2, .int (nI V)), (4, .int (nI r))]) hx hb dX1_measure_102 hl (k := 5) rfl (zinc j 1) (by decide) rfl (fun ls hl => ?_)
                              refine lv_goto (tgt := 81) hx hb dX1_measure_105 (by decide) ?_
                              exact ih81 (j + 1) ((zBh s t lb k V j g4).1) true (by first | assumption | omega) (by rw [zIt_s, ← hq4]; unfold zMrF; apply Prod.ext <;> simp_all) (zBh_9 hg4) (by omega) _ _ _ hP hD hS (lv_sub hl [2, 3, 4, 1, 5, 0] rfl)
                      exact lp81 (k - 0 + 1) 0 g3 false (by first | assumption | omega) rfl hg3 (Nat.lt_succ_self _) _ _ _ hP hD hS (lv_sub hl [2, 3, 4, 1, 5, 0] rfl)
              exact lp65 (65 - 0 + 1) 0 g2 true (by first | assumption | omega) (by have hq9 : i2 = V := (by omega); subst hq9; exact hq2) (fun h => by cases h) (by rw [hq2]; exact zM2_9 (zM1_9 hf)) (Nat.lt_succ_self _) _ _ _ hP hD hS (lv_sub hl [2, 3, 4, 1, 0] rfl)
            · skip
              refine lv_aload_n hx hb dX1_measure_42 rfl (lv_at hl 0 rfl) ?_
              refine va_get (D := G.1) (ci := 0) (v := .ref tb) (C := RX1) (T := TX1) (N := 2) hx hb hts hinX1 hown hK hP 0 rfl rfl 0 (by decide) hlk11 (fun _ h9 => h9) rfl dX1_measure_43 ?_
              refine lv_bipush (v := nI 8) hx hb dX1_measure_46 (by decide) ?_
              refine lv_iload_n hx hb dX1_measure_48 rfl (lv_at hl 3 rfl) ?_
              refine zi_mul hx hb dX1_measure_49 ?_
              refine lv_iload_n hx hb dX1_measure_50 rfl (lv_at hl 3 rfl) ?_
              refine zi_add hx hb dX1_measure_51 ?_
              refine lv_iconst (v := nI 0) hx hb dX1_measure_52 (by decide) ?_
              refine zi_ast hx hb hK hP hD hS 1 rfl (by omega) (by omega) dX1_measure_53 (fun H locs hP hD hS => ?_)
              have hP : va_P G.1 vwCl [(d, .inr (0, [.ref tb, .int (nI V)])), zA G tb 64 (zU g2 ((8 * i2) + i2) 0), (e, .inr (1, [.ref a1, .ref a2, .ref a3, .int (nI k)])), zA G a1 cap s, zA G a2 cap t, zA G a3 cap lb] H := hP
              have hD : va_D AM [(d, .inr (0, [.ref tb, .int (nI V)])), zA G tb 64 (zU g2 ((8 * i2) + i2) 0), (e, .inr (1, [.ref a1, .ref a2, .ref a3, .int (nI k)])), zA G a1 cap s, zA G a2 cap t, zA G a3 cap lb] := hD
              refine lv_iinc (v := nI (i2 + 1)) (lv' := [(3, .int (nI (i2 + 1))), (0, .ref d), (1, .ref e), (2, .int (nI V))]) hx hb dX1_measure_54 hl (k := 3) rfl (zinc i2 1) (by decide) rfl (fun ls hl => ?_)
              refine lv_goto (tgt := 34) hx hb dX1_measure_57 (by decide) ?_
              exact ih34 (i2 + 1) (zU g2 ((8 * i2) + i2) 0) (by first | assumption | omega) (by rw [zIt_s, ← hq2] <;> rfl) (by omega) _ _ _ hP hD hS (lv_sub hl [1, 2, 3, 0] rfl)
        exact lp34 (V - 0 + 1) 0 g (by first | assumption | omega) (by have hq9 : i = 64 := (by omega); subst hq9; exact hq) (Nat.lt_succ_self _) _ _ _ hP hD hS (lv_sub hl [1, 2, 3, 0] rfl)
      · skip
        refine lv_aload_n hx hb dX1_measure_18 rfl (lv_at hl 0 rfl) ?_
        refine va_get (D := G.1) (ci := 0) (v := .ref tb) (C := RX1) (T := TX1) (N := 2) hx hb hts hinX1 hown hK hP 0 rfl rfl 0 (by decide) hlk11 (fun _ h9 => h9) rfl dX1_measure_19 ?_
        refine lv_iload_n hx hb dX1_measure_22 rfl (lv_at hl 3 rfl) ?_
        refine lv_ldc (v := nI 1000001) hx hb hown (hts (.constant RX1 19 (1000001)) (by decide +kernel)) dX1_measure_23 ?_
        refine zi_ast hx hb hK hP hD hS 1 rfl (by omega) (by omega) dX1_measure_25 (fun H locs hP hD hS => ?_)
        have hP : va_P G.1 vwCl [(d, .inr (0, [.ref tb, .int (nI V)])), zA G tb 64 (zU g i 1000001), (e, .inr (1, [.ref a1, .ref a2, .ref a3, .int (nI k)])), zA G a1 cap s, zA G a2 cap t, zA G a3 cap lb] H := hP
        have hD : va_D AM [(d, .inr (0, [.ref tb, .int (nI V)])), zA G tb 64 (zU g i 1000001), (e, .inr (1, [.ref a1, .ref a2, .ref a3, .int (nI k)])), zA G a1 cap s, zA G a2 cap t, zA G a3 cap lb] := hD
        refine lv_iinc (v := nI (i + 1)) (lv' := [(3, .int (nI (i + 1))), (0, .ref d), (1, .ref e), (2, .int (nI V))]) hx hb dX1_measure_26 hl (k := 3) rfl (zinc i 1) (by decide) rfl (fun ls hl => ?_)
        refine lv_goto (tgt := 12) hx hb dX1_measure_29 (by decide) ?_
        exact ih12 (i + 1) (zU g i 1000001) (by first | assumption | omega) (by rw [zIt_s, ← hq] <;> rfl) (by omega) _ _ _ hP hD hS (lv_sub hl [1, 2, 3, 0] rfl)
  exact lp12 (64 - 0 + 1) 0 f (by first | assumption | omega) rfl (Nat.lt_succ_self _) _ _ _ hP hD hS (lv_sub hl [1, 2, 3, 0] rfl)
set_option maxHeartbeats 4000000 in
set_option maxRecDepth 100000 in
theorem c_X1_closingOnWitness (l : Launch) (G : zG) (d tb : Nat) (f : Nat → Nat) (V : Nat) (e a1 a2 a3 : Nat) (cap : Nat) (s t lb : Nat → Nat) (k : Nat) (j v : Nat) (hf : zT9 f) (hk : k ≤ cap) (hc : cap < 2147483648) (hbs : ∀ i, s i < 8) (hbt : ∀ i, t i < 8) (hlb : ∀ i, lb i < 7) (hj : j < k) (hv : v < 8) : MI l yX1_closingOnWitness wsX1_closingOnWitness ({ frames := 1, cells := 0, slots := 0, locals := 23 }) G [.ref d, .ref e, .int (nI j), .int (nI v)] [(d, .inr (0, [.ref tb, .int (nI V)])), zA G tb 64 f, (e, .inr (1, [.ref a1, .ref a2, .ref a3, .int (nI k)])), zA G a1 cap s, zA G a2 cap t, zA G a3 cap lb] (zOr9 (zCw s t lb f k j v) k) [(d, .inr (0, [.ref tb, .int (nI V)])), zA G tb 64 f, (e, .inr (1, [.ref a1, .ref a2, .ref a3, .int (nI k)])), zA G a1 cap s, zA G a2 cap t, zA G a3 cap lb] := by
  refine MI.enter (cc := cX1_closingOnWitness) (maxL := 8) (by decide) rfl (Nat.le_of_ble_eq_true rfl) rfl ?_
  intro pM eM sM mM bM tM cM QM AM ls hat kret
  obtain ⟨SM, hA, hK, hE, hP, hD, hS, hl⟩ := hat
  have hx := SM.1
  have hb := SM.2.1
  have hown : sM.vm.findClass RX1 = some mM.cls := SM.2.2.2.1
  have hts := SM.2.2.2.2
  have hinX2 : ∀ w ∈ u_ws RX2 TX2 4, w ∈ wsX1_closingOnWitness := by decide +kernel
  have hlk38 : (Cond.fieldLink RX1 38 "DyckReachability$Edges" "sources" "[I").before _ sM = true := hts _ (by decide +kernel)
  have hlk29 : (Cond.fieldLink RX1 29 "DyckReachability$Edges" "size" "I").before _ sM = true := hts _ (by decide +kernel)
  have hlk41 : (Cond.fieldLink RX1 41 "DyckReachability$Edges" "targets" "[I").before _ sM = true := hts _ (by decide +kernel)
  have hl : lv_has ls 8 [(0, .ref d), (1, .ref e), (2, .int (nI j)), (3, .int (nI v))] := hl
  refine lv_aload_n hx hb dX1_closingOnWitness_0 rfl (lv_at hl 0 rfl) ?_
  refine lv_aload_n hx hb dX1_closingOnWitness_1 rfl (lv_at hl 1 rfl) ?_
  refine va_get (D := G.1) (ci := 1) (v := .ref a1) (C := RX2) (T := TX2) (N := 4) hx hb hts hinX2 hown hK hP 2 rfl rfl 0 (by decide) hlk38 (fun _ h9 => h9) rfl dX1_closingOnWitness_2 ?_
  refine lv_iload_n hx hb dX1_closingOnWitness_5 rfl (lv_at hl 2 rfl) ?_
  refine zi_ald hx hb hK hP 3 rfl (by omega) (by omega) dX1_closingOnWitness_6 ?_
  have hb_1 := hbs j
  refine lv_iload_n hx hb dX1_closingOnWitness_7 rfl (lv_at hl 3 rfl) ?_
  refine zVi (W1 := [(d, .inr (0, [.ref tb, .int (nI V)])), zA G tb 64 f, (e, .inr (1, [.ref a1, .ref a2, .ref a3, .int (nI k)])), zA G a1 cap s, zA G a2 cap t, zA G a3 cap lb]) (W2 := [(d, .inr (0, [.ref tb, .int (nI V)])), zA G tb 64 f, (e, .inr (1, [.ref a1, .ref a2, .ref a3, .int (nI k)])), zA G a1 cap s, zA G a2 cap t, zA G a3 cap lb]) (wr := [(e, .inr (1, [.ref a1, .ref a2, .ref a3, .int (nI k)])), zA G a1 cap s, zA G a2 cap t, zA G a3 cap lb]) (rest := []) SM (c_X1_between l G d tb f V (s j) v (by first | assumption | omega) (by first | assumption | omega)) (cwV 2 hts gX1_closingOnWitness_X1_between rfl rfl rfl (by decide +kernel) ⟨Nat.le_of_ble_eq_true rfl, Nat.le_of_ble_eq_true rfl⟩) hK hE hA hP hD hS hl.1 [0, 1] [2, 3, 4, 5] [4, 5, 0, 1, 2, 3] rfl rfl rfl (by decide) (ci := 0) rfl rfl rfl rfl rfl (Nat.le_of_ble_eq_true rfl) ⟨Nat.zero_le _, Nat.zero_le _⟩ dX1_closingOnWitness_8 (fun H locs hP hD hS => ?_)
  have hb7 := hf (8 * s j + v)
  refine lv_istore (lv' := [(4, .int (nI (f (8 * (s j) + v)))), (0, .ref d), (1, .ref e), (2, .int (nI j)), (3, .int (nI v))]) hx hb dX1_closingOnWitness_11 hl (by decide) rfl (fun ls hl => ?_)
  refine lv_iconst (v := nI 0) hx hb dX1_closingOnWitness_13 (by decide) ?_
  refine lv_istore (lv' := [(5, .int (nI 0)), (4, .int (nI (f (8 * (s j) + v)))), (0, .ref d), (1, .ref e), (2, .int (nI j)), (3, .int (nI v))]) hx hb dX1_closingOnWitness_14 hl (by decide) rfl (fun ls hl => ?_)
  have lp16 : ∀ (n9 : Nat), ∀ (c : Nat), (c ≤ k) → (∀ i, i < c → zCwP s t lb f j v i = false) → (k - c) < n9 → ∀ (H : Heap) (locs : List Loc) (ls : Array Slot), va_P G.1 vwCl [(d, .inr (0, [.ref tb, .int (nI V)])), zA G tb 64 f, (e, .inr (1, [.ref a1, .ref a2, .ref a3, .int (nI k)])), zA G a1 cap s, zA G a2 cap t, zA G a3 cap lb] H → va_D AM [(d, .inr (0, [.ref tb, .int (nI V)])), zA G tb 64 f, (e, .inr (1, [.ref a1, .ref a2, .ref a3, .int (nI k)])), zA G a1 cap s, zA G a2 cap t, zA G a3 cap lb] → va_S AM sM.heap H locs → lv_has ls 8 [(0, .ref d), (1, .ref e), (2, .int (nI j)), (3, .int (nI v)), (4, .int (nI (f (8 * s j + v)))), (5, .int (nI c))] → W pM l eM ({ frames := 1, cells := 0, slots := 0, locals := 23 }) sM mM (([.ref d, .ref e, .int (nI j), .int (nI v)] : List Value).toArray) bM tM cM H locs 0 0 QM (F0 mM 16 ls []) := by
    intro n9
    induction n9 with
    | zero =>
      intro _ _ _ h9
      exact absurd h9 (Nat.not_lt_zero _)
    | succ n9 ih9 =>
      intro c h1 h2 hmu16 H locs ls hP hD hS hl
      have ih16 := ih9
      clear ih9
      refine lv_iload hx hb dX1_closingOnWitness_16 (lv_at hl 5 rfl) ?_
      refine lv_aload_n hx hb dX1_closingOnWitness_18 rfl (lv_at hl 1 rfl) ?_
      refine va_get (D := G.1) (ci := 1) (v := .int (nI k)) (C := RX2) (T := TX2) (N := 4) hx hb hts hinX2 hown hK hP 2 rfl rfl 3 (by decide) hlk29 (fun _ h9 => h9) rfl dX1_closingOnWitness_19 ?_
      refine zn_ge (tgt := 89) hx hb dX1_closingOnWitness_22 (by decide) (by omega) (by omega) (fun c_2 => ?_) (fun c_2 => ?_)
      · skip
        refine lv_bipush (v := (-9)) hx hb dX1_closingOnWitness_89 (by decide) ?_
        exact kret _ _ _ _ _ _ (by have hq9 : c = k := (by omega); subst hq9; unfold zCw; rw [zFst_none h2, zOr9_ge (Nat.lt_irrefl _)]) rfl hP hD hS dX1_closingOnWitness_91
      · skip
        refine lv_aload_n hx hb dX1_closingOnWitness_25 rfl (lv_at hl 1 rfl) ?_
        refine lv_iload hx hb dX1_closingOnWitness_26 (lv_at hl 5 rfl) ?_
        refine lv_iload_n hx hb dX1_closingOnWitness_28 rfl (lv_at hl 2 rfl) ?_
        refine zVi (W1 := [(d, .inr (0, [.ref tb, .int (nI V)])), zA G tb 64 f, (e, .inr (1, [.ref a1, .ref a2, .ref a3, .int (nI k)])), zA G a1 cap s, zA G a2 cap t, zA G a3 cap lb]) (W2 := [(d, .inr (0, [.ref tb, .int (nI V)])), zA G tb 64 f, (e, .inr (1, [.ref a1, .ref a2, .ref a3, .int (nI k)])), zA G a1 cap s, zA G a2 cap t, zA G a3 cap lb]) (wr := [(d, .inr (0, [.ref tb, .int (nI V)])), zA G tb 64 f, zA G a1 cap s, zA G a2 cap t]) (rest := []) SM (c_X2_closes l G e a1 a2 a3 cap lb k c j (by first | assumption | omega) (by first | assumption | omega) (by first | assumption | omega) (by first | assumption | omega)) (cwV 2 hts gX1_closingOnWitness_X2_closes rfl rfl rfl (by decide +kernel) ⟨Nat.le_of_ble_eq_true rfl, Nat.le_of_ble_eq_true rfl⟩) hK hE hA hP hD hS hl.1 [2, 5] [0, 1, 3, 4] [0, 1, 4, 2, 3, 5] rfl rfl rfl (by decide) (ci := 1) rfl rfl rfl rfl rfl (Nat.le_of_ble_eq_true rfl) ⟨Nat.zero_le _, Nat.zero_le _⟩ dX1_closingOnWitness_29 (fun H locs hP hD hS => ?_)
        refine zb_eq (tgt := 83) hx hb dX1_closingOnWitness_32 (by decide) (fun c_3 => ?_) (fun c_3 => ?_)
        · skip
          refine lv_iinc (v := nI (c + 1)) (lv' := [(5, .int (nI (c + 1))), (0, .ref d), (1, .ref e), (2, .int (nI j)), (3, .int (nI v)), (4, .int (nI (f (8 * s j + v))))]) hx hb dX1_closingOnWitness_83 hl (k := 5) rfl (zinc c 1) (by decide) rfl (fun ls hl => ?_)
          refine lv_goto (tgt := 16) hx hb dX1_closingOnWitness_86 (by decide) ?_
          exact ih16 (c + 1) (by first | assumption | omega) (lt_s h2 (by simp only [zCwP, decide_eq_false_iff_not]; omega)) (by omega) _ _ _ hP hD hS (lv_sub hl [1, 2, 3, 4, 5, 0] rfl)
        · skip
          refine lv_aload_n hx hb dX1_closingOnWitness_35 rfl (lv_at hl 0 rfl) ?_
          refine lv_aload_n hx hb dX1_closingOnWitness_36 rfl (lv_at hl 1 rfl) ?_
          refine va_get (D := G.1) (ci := 1) (v := .ref a2) (C := RX2) (T := TX2) (N := 4) hx hb hts hinX2 hown hK hP 2 rfl rfl 1 (by decide) hlk41 (fun _ h9 => h9) rfl dX1_closingOnWitness_37 ?_
          refine lv_iload_n hx hb dX1_closingOnWitness_40 rfl (lv_at hl 2 rfl) ?_
          refine zi_ald hx hb hK hP 4 rfl (by omega) (by omega) dX1_closingOnWitness_41 ?_
          have hb_4 := hbt j
          refine lv_aload_n hx hb dX1_closingOnWitness_42 rfl (lv_at hl 1 rfl) ?_
          refine va_get (D := G.1) (ci := 1) (v := .ref a1) (C := RX2) (T := TX2) (N := 4) hx hb hts hinX2 hown hK hP 2 rfl rfl 0 (by decide) hlk38 (fun _ h9 => h9) rfl dX1_closingOnWitness_43 ?_
          refine lv_iload hx hb dX1_closingOnWitness_46 (lv_at hl 5 rfl) ?_
          refine zi_ald hx hb hK hP 3 rfl (by omega) (by omega) dX1_closingOnWitness_48 ?_
          have hb_5 := hbs c
          refine zVi (W1 := [(d, .inr (0, [.ref tb, .int (nI V)])), zA G tb 64 f, (e, .inr (1, [.ref a1, .ref a2, .ref a3, .int (nI k)])), zA G a1 cap s, zA G a2 cap t, zA G a3 cap lb]) (W2 := [(d, .inr (0, [.ref tb, .int (nI V)])), zA G tb 64 f, (e, .inr (1, [.ref a1, .ref a2, .ref a3, .int (nI k)])), zA G a1 cap s, zA G a2 cap t, zA G a3 cap lb]) (wr := [(e, .inr (1, [.ref a1, .ref a2, .ref a3, .int (nI k)])), zA G a1 cap s, zA G a2 cap t, zA G a3 cap lb]) (rest := []) SM (c_X1_between l G d tb f V (t j) (s c) (by first | assumption | omega) (by first | assumption | omega)) (cwV 2 hts gX1_closingOnWitness_X1_between rfl rfl rfl (by decide +kernel) ⟨Nat.le_of_ble_eq_true rfl, Nat.le_of_ble_eq_true rfl⟩) hK hE hA hP hD hS hl.1 [0, 1] [2, 3, 4, 5] [4, 5, 0, 1, 2, 3] rfl rfl rfl (by decide) (ci := 0) rfl rfl rfl rfl rfl (Nat.le_of_ble_eq_true rfl) ⟨Nat.zero_le _, Nat.zero_le _⟩ dX1_closingOnWitness_49 (fun H locs hP hD hS => ?_)
          have hb8 := hf (8 * t j + s c)
          refine lv_istore (lv' := [(6, .int (nI (f (8 * (t j) + (s c))))), (0, .ref d), (1, .ref e), (2, .int (nI j)), (3, .int (nI v)), (4, .int (nI (f (8 * s j + v)))), (5, .int (nI c))]) hx hb dX1_closingOnWitness_52 hl (by decide) rfl (fun ls hl => ?_)
          refine lv_aload_n hx hb dX1_closingOnWitness_54 rfl (lv_at hl 1 rfl) ?_
          refine lv_aload_n hx hb dX1_closingOnWitness_55 rfl (lv_at hl 2 rfl) ?_
          refine va_get (D := G.1) (ci := 1) (v := .ref a2) (C := RX2) (T := TX2) (N := 4) hx hb hts hinX2 hown hK hP 2 rfl rfl 1 (by decide) hlk41 (fun _ h9 => h9) rfl dX1_closingOnWitness_56 ?_
          refine lv_iload hx hb dX1_closingOnWitness_59 (lv_at hl 6 rfl) ?_
          refine zi_ald hx hb hK hP 4 rfl (by omega) (by omega) dX1_closingOnWitness_61 ?_
          have hb_6 := hbt c
          refine lv_iload_n hx hb dX1_closingOnWitness_62 rfl (lv_at hl 4 rfl) ?_
          refine zVi (W1 := [(d, .inr (0, [.ref tb, .int (nI V)])), zA G tb 64 f, (e, .inr (1, [.ref a1, .ref a2, .ref a3, .int (nI k)])), zA G a1 cap s, zA G a2 cap t, zA G a3 cap lb]) (W2 := [(d, .inr (0, [.ref tb, .int (nI V)])), zA G tb 64 f, (e, .inr (1, [.ref a1, .ref a2, .ref a3, .int (nI k)])), zA G a1 cap s, zA G a2 cap t, zA G a3 cap lb]) (wr := [(e, .inr (1, [.ref a1, .ref a2, .ref a3, .int (nI k)])), zA G a1 cap s, zA G a2 cap t, zA G a3 cap lb]) (rest := []) SM (c_X1_between l G d tb f V (t c) v (by first | assumption | omega) (by first | assumption | omega)) (cwV 2 hts gX1_closingOnWitness_X1_between rfl rfl rfl (by decide +kernel) ⟨Nat.le_of_ble_eq_true rfl, Nat.le_of_ble_eq_true rfl⟩) hK hE hA hP hD hS hl.1 [0, 1] [2, 3, 4, 5] [4, 5, 0, 1, 2, 3] rfl rfl rfl (by decide) (ci := 0) rfl rfl rfl rfl rfl (Nat.le_of_ble_eq_true rfl) ⟨Nat.zero_le _, Nat.zero_le _⟩ dX1_closingOnWitness_63 (fun H locs hP hD hS => ?_)
          have hb9 := hf (8 * t c + v)
          refine lv_istore (lv' := [(7, .int (nI (f (8 * (t c) + v)))), (6, .int (nI (f (8 * (t j) + (s c))))), (0, .ref d), (1, .ref e), (2, .int (nI j)), (3, .int (nI v)), (4, .int (nI (f (8 * s j + v)))), (5, .int (nI c))]) hx hb dX1_closingOnWitness_66 hl (by decide) rfl (fun ls hl => ?_)
          refine lv_iload hx hb dX1_closingOnWitness_68 (lv_at hl 1 rfl) ?_
          refine lv_iload hx hb dX1_closingOnWitness_70 (lv_at hl 0 rfl) ?_
          refine zi_add hx hb dX1_closingOnWitness_72 ?_
          refine lv_iconst (v := nI 2) hx hb dX1_closingOnWitness_73 (by decide) ?_
          refine zi_addk (n := ((f (8 * (t j) + (s c))) + (f (8 * (t c) + v))) + 2) hx hb dX1_closingOnWitness_74 (by omega) ?_
          refine lv_iload hx hb dX1_closingOnWitness_75 (lv_at hl 6 rfl) ?_
          refine zn_ne (tgt := 83) hx hb dX1_closingOnWitness_77 (by decide) (by omega) (by omega) (fun c_7 => ?_) (fun c_7 => ?_)
          · skip
            refine lv_iinc (v := nI (c + 1)) (lv' := [(5, .int (nI (c + 1))), (7, .int (nI (f (8 * (t c) + v)))), (6, .int (nI (f (8 * (t j) + (s c))))), (0, .ref d), (1, .ref e), (2, .int (nI j)), (3, .int (nI v)), (4, .int (nI (f (8 * s j + v))))]) hx hb dX1_closingOnWitness_83 hl (k := 7) rfl (zinc c 1) (by decide) rfl (fun ls hl => ?_)
            refine lv_goto (tgt := 16) hx hb dX1_closingOnWitness_86 (by decide) ?_
            exact ih16 (c + 1) (by first | assumption | omega) (lt_s h2 (by simp only [zCwP, decide_eq_false_iff_not]; omega)) (by omega) _ _ _ hP hD hS (lv_sub hl [3, 4, 5, 6, 7, 0] rfl)
          · skip
            refine lv_iload hx hb dX1_closingOnWitness_80 (lv_at hl 7 rfl) ?_
            exact kret _ _ _ _ _ _ (by have hz := zFst_at h2 (show zCwP s t lb f j v c = true by simp only [zCwP, decide_eq_true_eq]; omega) (n := k) (by omega); unfold zCw; rw [hz, zOr9_lt (by omega)]) rfl hP hD hS dX1_closingOnWitness_82
  exact lp16 (k - 0 + 1) 0 (by first | assumption | omega) (fun i hi => absurd hi (Nat.not_lt_zero i)) (Nat.lt_succ_self _) _ _ _ hP hD hS (lv_sub hl [2, 3, 4, 5, 1, 0] rfl)
set_option maxHeartbeats 4000000 in
set_option maxRecDepth 100000 in
theorem c_X1_beginsShortest (l : Launch) (G : zG) (d tb : Nat) (f : Nat → Nat) (V : Nat) (e a1 a2 a3 : Nat) (cap : Nat) (s t lb : Nat → Nat) (k : Nat) (j v : Nat) (hf : zT9 f) (hk : k ≤ cap) (hc : cap < 2147483648) (hbs : ∀ i, s i < 8) (hbt : ∀ i, t i < 8) (hlb : ∀ i, lb i < 7) (hj : j < k) (hv : v < 8) : MI l yX1_beginsShortest wsX1_beginsShortest ({ frames := 2, cells := 0, slots := 0, locals := 50 }) G [.ref d, .ref e, .int (nI j), .int (nI v)] [(d, .inr (0, [.ref tb, .int (nI V)])), zA G tb 64 f, (e, .inr (1, [.ref a1, .ref a2, .ref a3, .int (nI k)])), zA G a1 cap s, zA G a2 cap t, zA G a3 cap lb] (bI (decide (zBs s t lb f k j v = true))) [(d, .inr (0, [.ref tb, .int (nI V)])), zA G tb 64 f, (e, .inr (1, [.ref a1, .ref a2, .ref a3, .int (nI k)])), zA G a1 cap s, zA G a2 cap t, zA G a3 cap lb] := by
  refine MI.enter (cc := cX1_beginsShortest) (maxL := 4) (by decide) rfl (Nat.le_of_ble_eq_true rfl) (bI_nar _) ?_
  intro pM eM sM mM bM tM cM QM AM ls hat kret
  obtain ⟨SM, hA, hK, hE, hP, hD, hS, hl⟩ := hat
  have hx := SM.1
  have hb := SM.2.1
  have hown : sM.vm.findClass RX1 = some mM.cls := SM.2.2.2.1
  have hts := SM.2.2.2.2
  have hinX2 : ∀ w ∈ u_ws RX2 TX2 4, w ∈ wsX1_beginsShortest := by decide +kernel
  have hlk38 : (Cond.fieldLink RX1 38 "DyckReachability$Edges" "sources" "[I").before _ sM = true := hts _ (by decide +kernel)
  have hlk41 : (Cond.fieldLink RX1 41 "DyckReachability$Edges" "targets" "[I").before _ sM = true := hts _ (by decide +kernel)
  have hl : lv_has ls 4 [(0, .ref d), (1, .ref e), (2, .int (nI j)), (3, .int (nI v))] := hl
  refine lv_aload_n hx hb dX1_beginsShortest_0 rfl (lv_at hl 1 rfl) ?_
  refine lv_iload_n hx hb dX1_beginsShortest_1 rfl (lv_at hl 2 rfl) ?_
  refine zVi (W1 := [(d, .inr (0, [.ref tb, .int (nI V)])), zA G tb 64 f, (e, .inr (1, [.ref a1, .ref a2, .ref a3, .int (nI k)])), zA G a1 cap s, zA G a2 cap t, zA G a3 cap lb]) (W2 := [(d, .inr (0, [.ref tb, .int (nI V)])), zA G tb 64 f, (e, .inr (1, [.ref a1, .ref a2, .ref a3, .int (nI k)])), zA G a1 cap s, zA G a2 cap t, zA G a3 cap lb]) (wr := [(d, .inr (0, [.ref tb, .int (nI V)])), zA G tb 64 f, zA G a1 cap s, zA G a2 cap t]) (rest := []) SM (c_X2_isEmptyLabelled l G e a1 a2 a3 cap lb k j (by first | assumption | omega) (by first | assumption | omega) (by first | assumption | omega)) (cwV 1 hts gX1_beginsShortest_X2_isEmptyLabelled rfl rfl rfl (by decide +kernel) ⟨Nat.le_of_ble_eq_true rfl, Nat.le_of_ble_eq_true rfl⟩) hK hE hA hP hD hS hl.1 [2, 5] [0, 1, 3, 4] [0, 1, 4, 2, 3, 5] rfl rfl rfl (by decide) (ci := 1) rfl rfl rfl rfl rfl (Nat.le_of_ble_eq_true rfl) ⟨Nat.zero_le _, Nat.zero_le _⟩ dX1_beginsShortest_2 (fun H locs hP hD hS => ?_)
  refine zb_eq (tgt := 41) hx hb dX1_beginsShortest_5 (by decide) (fun c_1 => ?_) (fun c_1 => ?_)
  · skip
    refine lv_aload_n hx hb dX1_beginsShortest_41 rfl (lv_at hl 1 rfl) ?_
    refine lv_iload_n hx hb dX1_beginsShortest_42 rfl (lv_at hl 2 rfl) ?_
    refine zVi (W1 := [(d, .inr (0, [.ref tb, .int (nI V)])), zA G tb 64 f, (e, .inr (1, [.ref a1, .ref a2, .ref a3, .int (nI k)])), zA G a1 cap s, zA G a2 cap t, zA G a3 cap lb]) (W2 := [(d, .inr (0, [.ref tb, .int (nI V)])), zA G tb 64 f, (e, .inr (1, [.ref a1, .ref a2, .ref a3, .int (nI k)])), zA G a1 cap s, zA G a2 cap t, zA G a3 cap lb]) (wr := [(d, .inr (0, [.ref tb, .int (nI V)])), zA G tb 64 f, zA G a1 cap s, zA G a2 cap t]) (rest := []) SM (c_X2_opens l G e a1 a2 a3 cap lb k j (by first | assumption | omega) (by first | assumption | omega) (by first | assumption | omega)) (cwV 1 hts gX1_beginsShortest_X2_opens rfl rfl rfl (by decide +kernel) ⟨Nat.le_of_ble_eq_true rfl, Nat.le_of_ble_eq_true rfl⟩) hK hE hA hP hD hS hl.1 [2, 5] [0, 1, 3, 4] [0, 1, 4, 2, 3, 5] rfl rfl rfl (by decide) (ci := 1) rfl rfl rfl rfl rfl (Nat.le_of_ble_eq_true rfl) ⟨Nat.zero_le _, Nat.zero_le _⟩ dX1_beginsShortest_43 (fun H locs hP hD hS => ?_)
    refine zb_eq (tgt := 65) hx hb dX1_beginsShortest_46 (by decide) (fun c_2 => ?_) (fun c_2 => ?_)
    · skip
      refine lv_iconst (v := nI 0) hx hb dX1_beginsShortest_65 (by decide) ?_
      exact kret _ _ _ _ _ _ (bI_f (by unfold zBs; first | (rw [if_pos (by assumption)]; simp only [decide_eq_true_eq]; omega) | (rw [if_neg (by assumption)]; simp only [decide_eq_true_eq]; omega))) rfl hP hD hS dX1_beginsShortest_66
    · skip
      refine lv_aload_n hx hb dX1_beginsShortest_49 rfl (lv_at hl 0 rfl) ?_
      refine lv_aload_n hx hb dX1_beginsShortest_50 rfl (lv_at hl 1 rfl) ?_
      refine lv_iload_n hx hb dX1_beginsShortest_51 rfl (lv_at hl 2 rfl) ?_
      refine lv_iload_n hx hb dX1_beginsShortest_52 rfl (lv_at hl 3 rfl) ?_
      refine zVi (W1 := [(d, .inr (0, [.ref tb, .int (nI V)])), zA G tb 64 f, (e, .inr (1, [.ref a1, .ref a2, .ref a3, .int (nI k)])), zA G a1 cap s, zA G a2 cap t, zA G a3 cap lb]) (W2 := [(d, .inr (0, [.ref tb, .int (nI V)])), zA G tb 64 f, (e, .inr (1, [.ref a1, .ref a2, .ref a3, .int (nI k)])), zA G a1 cap s, zA G a2 cap t, zA G a3 cap lb]) (wr := []) (rest := []) SM (c_X1_closingOnWitness l G d tb f V e a1 a2 a3 cap s t lb k j v (by first | assumption | omega) (by first | assumption | omega) (by first | assumption | omega) (by first | assumption | omega) (by first | assumption | omega) (by first | assumption | omega) (by first | assumption | omega) (by first | assumption | omega)) (cwV 3 hts gX1_beginsShortest_X1_closingOnWitness rfl rfl rfl (by decide +kernel) ⟨Nat.le_of_ble_eq_true rfl, Nat.le_of_ble_eq_true rfl⟩) hK hE hA hP hD hS hl.1 [0, 1, 2, 3, 4, 5] [] [0, 1, 2, 3, 4, 5] rfl rfl rfl (by decide) (ci := 0) rfl rfl rfl rfl rfl (Nat.le_of_ble_eq_true rfl) ⟨Nat.zero_le _, Nat.zero_le _⟩ dX1_beginsShortest_53 (fun H locs hP hD hS => ?_)
      refine lv_bipush (v := (-9)) hx hb dX1_beginsShortest_56 (by decide) ?_
      refine z9_eq (tgt := 65) hx hb dX1_beginsShortest_58 (by decide) (by omega) (fun c_3 => ?_) (fun c_3 => ?_)
      · skip
        refine lv_iconst (v := nI 0) hx hb dX1_beginsShortest_65 (by decide) ?_
        exact kret _ _ _ _ _ _ (bI_f (by unfold zBs; first | (rw [if_pos (by assumption)]; simp only [decide_eq_true_eq]; omega) | (rw [if_neg (by assumption)]; simp only [decide_eq_true_eq]; omega))) rfl hP hD hS dX1_beginsShortest_66
      · skip
        refine lv_iconst (v := nI 1) hx hb dX1_beginsShortest_61 (by decide) ?_
        refine lv_goto (tgt := 66) hx hb dX1_beginsShortest_62 (by decide) ?_
        exact kret _ _ _ _ _ _ (bI_t (by unfold zBs; first | (rw [if_pos (by assumption)]; simp only [decide_eq_true_eq]; omega) | (rw [if_neg (by assumption)]; simp only [decide_eq_true_eq]; omega))) rfl hP hD hS dX1_beginsShortest_66
  · skip
    refine lv_aload_n hx hb dX1_beginsShortest_8 rfl (lv_at hl 0 rfl) ?_
    refine lv_aload_n hx hb dX1_beginsShortest_9 rfl (lv_at hl 1 rfl) ?_
    refine va_get (D := G.1) (ci := 1) (v := .ref a1) (C := RX2) (T := TX2) (N := 4) hx hb hts hinX2 hown hK hP 2 rfl rfl 0 (by decide) hlk38 (fun _ h9 => h9) rfl dX1_beginsShortest_10 ?_
    refine lv_iload_n hx hb dX1_beginsShortest_13 rfl (lv_at hl 2 rfl) ?_
    refine zi_ald hx hb hK hP 3 rfl (by omega) (by omega) dX1_beginsShortest_14 ?_
    have hb_4 := hbs j
    refine lv_iload_n hx hb dX1_beginsShortest_15 rfl (lv_at hl 3 rfl) ?_
    refine zVi (W1 := [(d, .inr (0, [.ref tb, .int (nI V)])), zA G tb 64 f, (e, .inr (1, [.ref a1, .ref a2, .ref a3, .int (nI k)])), zA G a1 cap s, zA G a2 cap t, zA G a3 cap lb]) (W2 := [(d, .inr (0, [.ref tb, .int (nI V)])), zA G tb 64 f, (e, .inr (1, [.ref a1, .ref a2, .ref a3, .int (nI k)])), zA G a1 cap s, zA G a2 cap t, zA G a3 cap lb]) (wr := [(e, .inr (1, [.ref a1, .ref a2, .ref a3, .int (nI k)])), zA G a1 cap s, zA G a2 cap t, zA G a3 cap lb]) (rest := []) SM (c_X1_between l G d tb f V (s j) v (by first | assumption | omega) (by first | assumption | omega)) (cwV 2 hts gX1_beginsShortest_X1_between rfl rfl rfl (by decide +kernel) ⟨Nat.le_of_ble_eq_true rfl, Nat.le_of_ble_eq_true rfl⟩) hK hE hA hP hD hS hl.1 [0, 1] [2, 3, 4, 5] [4, 5, 0, 1, 2, 3] rfl rfl rfl (by decide) (ci := 0) rfl rfl rfl rfl rfl (Nat.le_of_ble_eq_true rfl) ⟨Nat.zero_le _, Nat.zero_le _⟩ dX1_beginsShortest_16 (fun H locs hP hD hS => ?_)
    have hb7 := hf (8 * s j + v)
    refine lv_aload_n hx hb dX1_beginsShortest_19 rfl (lv_at hl 0 rfl) ?_
    refine lv_aload_n hx hb dX1_beginsShortest_20 rfl (lv_at hl 1 rfl) ?_
    refine va_get (D := G.1) (ci := 1) (v := .ref a2) (C := RX2) (T := TX2) (N := 4) hx hb hts hinX2 hown hK hP 2 rfl rfl 1 (by decide) hlk41 (fun _ h9 => h9) rfl dX1_beginsShortest_21 ?_
    refine lv_iload_n hx hb dX1_beginsShortest_24 rfl (lv_at hl 2 rfl) ?_
    refine zi_ald hx hb hK hP 4 rfl (by omega) (by omega) dX1_beginsShortest_25 ?_
    have hb_5 := hbt j
    refine lv_iload_n hx hb dX1_beginsShortest_26 rfl (lv_at hl 3 rfl) ?_
    refine zVi (W1 := [(d, .inr (0, [.ref tb, .int (nI V)])), zA G tb 64 f, (e, .inr (1, [.ref a1, .ref a2, .ref a3, .int (nI k)])), zA G a1 cap s, zA G a2 cap t, zA G a3 cap lb]) (W2 := [(d, .inr (0, [.ref tb, .int (nI V)])), zA G tb 64 f, (e, .inr (1, [.ref a1, .ref a2, .ref a3, .int (nI k)])), zA G a1 cap s, zA G a2 cap t, zA G a3 cap lb]) (wr := [(e, .inr (1, [.ref a1, .ref a2, .ref a3, .int (nI k)])), zA G a1 cap s, zA G a2 cap t, zA G a3 cap lb]) (rest := [.int (nI (f (8 * (s j) + v)))]) SM (c_X1_between l G d tb f V (t j) v (by first | assumption | omega) (by first | assumption | omega)) (cwV 2 hts gX1_beginsShortest_X1_between rfl rfl rfl (by decide +kernel) ⟨Nat.le_of_ble_eq_true rfl, Nat.le_of_ble_eq_true rfl⟩) hK hE hA hP hD hS hl.1 [0, 1] [2, 3, 4, 5] [4, 5, 0, 1, 2, 3] rfl rfl rfl (by decide) (ci := 0) rfl rfl rfl rfl rfl (Nat.le_of_ble_eq_true rfl) ⟨Nat.zero_le _, Nat.zero_le _⟩ dX1_beginsShortest_27 (fun H locs hP hD hS => ?_)
    have hb8 := hf (8 * t j + v)
    refine lv_iconst (v := nI 1) hx hb dX1_beginsShortest_30 (by decide) ?_
    refine zi_addk (n := (f (8 * (t j) + v)) + 1) hx hb dX1_beginsShortest_31 (by omega) ?_
    refine zn_ne (tgt := 39) hx hb dX1_beginsShortest_32 (by decide) (by omega) (by omega) (fun c_6 => ?_) (fun c_6 => ?_)
    · skip
      refine lv_iconst (v := nI 0) hx hb dX1_beginsShortest_39 (by decide) ?_
      exact kret _ _ _ _ _ _ (bI_f (by unfold zBs; first | (rw [if_pos (by assumption)]; simp only [decide_eq_true_eq]; omega) | (rw [if_neg (by assumption)]; simp only [decide_eq_true_eq]; omega))) rfl hP hD hS dX1_beginsShortest_40
    · skip
      refine lv_iconst (v := nI 1) hx hb dX1_beginsShortest_35 (by decide) ?_
      refine lv_goto (tgt := 40) hx hb dX1_beginsShortest_36 (by decide) ?_
      exact kret _ _ _ _ _ _ (bI_t (by unfold zBs; first | (rw [if_pos (by assumption)]; simp only [decide_eq_true_eq]; omega) | (rw [if_neg (by assumption)]; simp only [decide_eq_true_eq]; omega))) rfl hP hD hS dX1_beginsShortest_40
set_option maxHeartbeats 4000000 in
set_option maxRecDepth 100000 in
theorem c_X1_firstOnWitness (l : Launch) (G : zG) (d tb : Nat) (f : Nat → Nat) (V : Nat) (e a1 a2 a3 : Nat) (cap : Nat) (s t lb : Nat → Nat) (k : Nat) (u v : Nat) (hf : zT9 f) (hk : k ≤ cap) (hc : cap < 2147483648) (hbs : ∀ i, s i < 8) (hbt : ∀ i, t i < 8) (hlb : ∀ i, lb i < 7) (hu : u < 8) (hv : v < 8) : MI l yX1_firstOnWitness wsX1_firstOnWitness ({ frames := 3, cells := 0, slots := 0, locals := 73 }) G [.ref d, .ref e, .int (nI u), .int (nI v)] [(d, .inr (0, [.ref tb, .int (nI V)])), zA G tb 64 f, (e, .inr (1, [.ref a1, .ref a2, .ref a3, .int (nI k)])), zA G a1 cap s, zA G a2 cap t, zA G a3 cap lb] (zOr9 (zFw s t lb f k u v) k) [(d, .inr (0, [.ref tb, .int (nI V)])), zA G tb 64 f, (e, .inr (1, [.ref a1, .ref a2, .ref a3, .int (nI k)])), zA G a1 cap s, zA G a2 cap t, zA G a3 cap lb] := by
  refine MI.enter (cc := cX1_firstOnWitness) (maxL := 5) (by decide) rfl (Nat.le_of_ble_eq_true rfl) rfl ?_
  intro pM eM sM mM bM tM cM QM AM ls hat kret
  obtain ⟨SM, hA, hK, hE, hP, hD, hS, hl⟩ := hat
  have hx := SM.1
  have hb := SM.2.1
  have hown : sM.vm.findClass RX1 = some mM.cls := SM.2.2.2.1
  have hts := SM.2.2.2.2
  have hinX2 : ∀ w ∈ u_ws RX2 TX2 4, w ∈ wsX1_firstOnWitness := by decide +kernel
  have hlk29 : (Cond.fieldLink RX1 29 "DyckReachability$Edges" "size" "I").before _ sM = true := hts _ (by decide +kernel)
  have hlk38 : (Cond.fieldLink RX1 38 "DyckReachability$Edges" "sources" "[I").before _ sM = true := hts _ (by decide +kernel)
  have hl : lv_has ls 5 [(0, .ref d), (1, .ref e), (2, .int (nI u)), (3, .int (nI v))] := hl
  refine lv_iconst (v := nI 0) hx hb dX1_firstOnWitness_0 (by decide) ?_
  refine lv_istore (lv' := [(4, .int (nI 0)), (0, .ref d), (1, .ref e), (2, .int (nI u)), (3, .int (nI v))]) hx hb dX1_firstOnWitness_1 hl (by decide) rfl (fun ls hl => ?_)
  have lp3 : ∀ (n9 : Nat), ∀ (j : Nat), (j ≤ k) → (∀ i, i < j → zFwP s t lb f k u v i = false) → (k - j) < n9 → ∀ (H : Heap) (locs : List Loc) (ls : Array Slot), va_P G.1 vwCl [(d, .inr (0, [.ref tb, .int (nI V)])), zA G tb 64 f, (e, .inr (1, [.ref a1, .ref a2, .ref a3, .int (nI k)])), zA G a1 cap s, zA G a2 cap t, zA G a3 cap lb] H → va_D AM [(d, .inr (0, [.ref tb, .int (nI V)])), zA G tb 64 f, (e, .inr (1, [.ref a1, .ref a2, .ref a3, .int (nI k)])), zA G a1 cap s, zA G a2 cap t, zA G a3 cap lb] → va_S AM sM.heap H locs → lv_has ls 5 [(0, .ref d), (1, .ref e), (2, .int (nI u)), (3, .int (nI v)), (4, .int (nI j))] → W pM l eM ({ frames := 3, cells := 0, slots := 0, locals := 73 }) sM mM (([.ref d, .ref e, .int (nI u), .int (nI v)] : List Value).toArray) bM tM cM H locs 0 0 QM (F0 mM 3 ls []) := by
    intro n9
    induction n9 with
    | zero =>
      intro _ _ _ h9
      exact absurd h9 (Nat.not_lt_zero _)
    | succ n9 ih9 =>
      intro j h1 h2 hmu3 H locs ls hP hD hS hl
      have ih3 := ih9
      clear ih9
      refine lv_iload hx hb dX1_firstOnWitness_3 (lv_at hl 4 rfl) ?_
      refine lv_aload_n hx hb dX1_firstOnWitness_5 rfl (lv_at hl 1 rfl) ?_
      refine va_get (D := G.1) (ci := 1) (v := .int (nI k)) (C := RX2) (T := TX2) (N := 4) hx hb hts hinX2 hown hK hP 2 rfl rfl 3 (by decide) hlk29 (fun _ h9 => h9) rfl dX1_firstOnWitness_6 ?_
      refine zn_ge (tgt := 43) hx hb dX1_firstOnWitness_9 (by decide) (by omega) (by omega) (fun c_1 => ?_) (fun c_1 => ?_)
      · skip
        refine lv_bipush (v := (-9)) hx hb dX1_firstOnWitness_43 (by decide) ?_
        exact kret _ _ _ _ _ _ (by have hq9 : j = k := (by omega); subst hq9; unfold zFw; rw [zFst_none h2, zOr9_ge (Nat.lt_irrefl _)]) rfl hP hD hS dX1_firstOnWitness_45
      · skip
        refine lv_aload_n hx hb dX1_firstOnWitness_12 rfl (lv_at hl 1 rfl) ?_
        refine va_get (D := G.1) (ci := 1) (v := .ref a1) (C := RX2) (T := TX2) (N := 4) hx hb hts hinX2 hown hK hP 2 rfl rfl 0 (by decide) hlk38 (fun _ h9 => h9) rfl dX1_firstOnWitness_13 ?_
        refine lv_iload hx hb dX1_firstOnWitness_16 (lv_at hl 4 rfl) ?_
        refine zi_ald hx hb hK hP 3 rfl (by omega) (by omega) dX1_firstOnWitness_18 ?_
        have hb_2 := hbs j
        refine lv_iload_n hx hb dX1_firstOnWitness_19 rfl (lv_at hl 2 rfl) ?_
        refine zn_ne (tgt := 37) hx hb dX1_firstOnWitness_20 (by decide) (by omega) (by omega) (fun c_3 => ?_) (fun c_3 => ?_)
        · skip
          refine lv_iinc (v := nI (j + 1)) (lv' := [(4, .int (nI (j + 1))), (0, .ref d), (1, .ref e), (2, .int (nI u)), (3, .int (nI v))]) hx hb dX1_firstOnWitness_37 hl (k := 4) rfl (zinc j 1) (by decide) rfl (fun ls hl => ?_)
          refine lv_goto (tgt := 3) hx hb dX1_firstOnWitness_40 (by decide) ?_
          exact ih3 (j + 1) (by first | assumption | omega) (lt_s h2 (by simp only [zFwP]; simp_all)) (by omega) _ _ _ hP hD hS (lv_sub hl [1, 2, 3, 4, 0] rfl)
        · skip
          refine lv_aload_n hx hb dX1_firstOnWitness_23 rfl (lv_at hl 0 rfl) ?_
          refine lv_aload_n hx hb dX1_firstOnWitness_24 rfl (lv_at hl 1 rfl) ?_
          refine lv_iload hx hb dX1_firstOnWitness_25 (lv_at hl 4 rfl) ?_
          refine lv_iload_n hx hb dX1_firstOnWitness_27 rfl (lv_at hl 3 rfl) ?_
          refine zVi (W1 := [(d, .inr (0, [.ref tb, .int (nI V)])), zA G tb 64 f, (e, .inr (1, [.ref a1, .ref a2, .ref a3, .int (nI k)])), zA G a1 cap s, zA G a2 cap t, zA G a3 cap lb]) (W2 := [(d, .inr (0, [.ref tb, .int (nI V)])), zA G tb 64 f, (e, .inr (1, [.ref a1, .ref a2, .ref a3, .int (nI k)])), zA G a1 cap s, zA G a2 cap t, zA G a3 cap lb]) (wr := []) (rest := []) SM (c_X1_beginsShortest l G d tb f V e a1 a2 a3 cap s t lb k j v (by first | assumption | omega) (by first | assumption | omega) (by first | assumption | omega) (by first | assumption | omega) (by first | assumption | omega) (by first | assumption | omega) (by first | assumption | omega) (by first | assumption | omega)) (cwV 3 hts gX1_firstOnWitness_X1_beginsShortest rfl rfl rfl (by decide +kernel) ⟨Nat.le_of_ble_eq_true rfl, Nat.le_of_ble_eq_true rfl⟩) hK hE hA hP hD hS hl.1 [0, 1, 2, 3, 4, 5] [] [0, 1, 2, 3, 4, 5] rfl rfl rfl (by decide) (ci := 0) rfl rfl rfl rfl rfl (Nat.le_of_ble_eq_true rfl) ⟨Nat.zero_le _, Nat.zero_le _⟩ dX1_firstOnWitness_28 (fun H locs hP hD hS => ?_)
          refine zb_eq (tgt := 37) hx hb dX1_firstOnWitness_31 (by decide) (fun c_4 => ?_) (fun c_4 => ?_)
          · skip
            refine lv_iinc (v := nI (j + 1)) (lv' := [(4, .int (nI (j + 1))), (0, .ref d), (1, .ref e), (2, .int (nI u)), (3, .int (nI v))]) hx hb dX1_firstOnWitness_37 hl (k := 4) rfl (zinc j 1) (by decide) rfl (fun ls hl => ?_)
            refine lv_goto (tgt := 3) hx hb dX1_firstOnWitness_40 (by decide) ?_
            exact ih3 (j + 1) (by first | assumption | omega) (lt_s h2 (by simp only [zFwP]; simp_all)) (by omega) _ _ _ hP hD hS (lv_sub hl [1, 2, 3, 4, 0] rfl)
          · skip
            refine lv_iload hx hb dX1_firstOnWitness_34 (lv_at hl 4 rfl) ?_
            exact kret _ _ _ _ _ _ (by have hz := zFst_at h2 (show zFwP s t lb f k u v j = true by simp only [zFwP]; simp_all) (n := k) (by omega); unfold zFw; rw [hz, zOr9_lt (by omega)]) rfl hP hD hS dX1_firstOnWitness_36
  exact lp3 (k - 0 + 1) 0 (by first | assumption | omega) (fun i hi => absurd hi (Nat.not_lt_zero i)) (Nat.lt_succ_self _) _ _ _ hP hD hS (lv_sub hl [1, 2, 3, 4, 0] rfl)
set_option maxHeartbeats 4000000 in
set_option maxRecDepth 100000 in
theorem c_X1_edgeOnWitness (l : Launch) (G : zG) (d tb : Nat) (f : Nat → Nat) (V : Nat) (e a1 a2 a3 : Nat) (cap : Nat) (s t lb : Nat → Nat) (k : Nat) (u v : Nat) (x : Int32) (hf : zT9 f) (hk : k ≤ cap) (hc : cap < 2147483648) (hbs : ∀ i, s i < 8) (hbt : ∀ i, t i < 8) (hlb : ∀ i, lb i < 7) (hu : u < 8) (hv : v < 8) : MI l yX1_edgeOnWitness wsX1_edgeOnWitness ({ frames := 4, cells := 0, slots := 0, locals := 97 }) G [.ref d, .ref e, .int (nI u), .int (nI v), .int x] [(d, .inr (0, [.ref tb, .int (nI V)])), zA G tb 64 f, (e, .inr (1, [.ref a1, .ref a2, .ref a3, .int (nI k)])), zA G a1 cap s, zA G a2 cap t, zA G a3 cap lb] (zEwA s t lb f k u v x) [(d, .inr (0, [.ref tb, .int (nI V)])), zA G tb 64 f, (e, .inr (1, [.ref a1, .ref a2, .ref a3, .int (nI k)])), zA G a1 cap s, zA G a2 cap t, zA G a3 cap lb] := by
  refine MI.enter (cc := cX1_edgeOnWitness) (maxL := 12) (by decide) rfl (Nat.le_of_ble_eq_true rfl) rfl ?_
  intro pM eM sM mM bM tM cM QM AM ls hat kret
  obtain ⟨SM, hA, hK, hE, hP, hD, hS, hl⟩ := hat
  have hx := SM.1
  have hb := SM.2.1
  have hown : sM.vm.findClass RX1 = some mM.cls := SM.2.2.2.1
  have hts := SM.2.2.2.2
  have hinX2 : ∀ w ∈ u_ws RX2 TX2 4, w ∈ wsX1_edgeOnWitness := by decide +kernel
  have hlk41 : (Cond.fieldLink RX1 41 "DyckReachability$Edges" "targets" "[I").before _ sM = true := hts _ (by decide +kernel)
  have hlk38 : (Cond.fieldLink RX1 38 "DyckReachability$Edges" "sources" "[I").before _ sM = true := hts _ (by decide +kernel)
  have hl : lv_has ls 12 [(0, .ref d), (1, .ref e), (2, .int (nI u)), (3, .int (nI v)), (4, .int x)] := hl
  refine lv_aload_n hx hb dX1_edgeOnWitness_0 rfl (lv_at hl 0 rfl) ?_
  refine lv_iload_n hx hb dX1_edgeOnWitness_1 rfl (lv_at hl 2 rfl) ?_
  refine lv_iload_n hx hb dX1_edgeOnWitness_2 rfl (lv_at hl 3 rfl) ?_
  refine zVi (W1 := [(d, .inr (0, [.ref tb, .int (nI V)])), zA G tb 64 f, (e, .inr (1, [.ref a1, .ref a2, .ref a3, .int (nI k)])), zA G a1 cap s, zA G a2 cap t, zA G a3 cap lb]) (W2 := [(d, .inr (0, [.ref tb, .int (nI V)])), zA G tb 64 f, (e, .inr (1, [.ref a1, .ref a2, .ref a3, .int (nI k)])), zA G a1 cap s, zA G a2 cap t, zA G a3 cap lb]) (wr := [(e, .inr (1, [.ref a1, .ref a2, .ref a3, .int (nI k)])), zA G a1 cap s, zA G a2 cap t, zA G a3 cap lb]) (rest := []) SM (c_X1_between l G d tb f V u v (by first | assumption | omega) (by first | assumption | omega)) (cwV 2 hts gX1_edgeOnWitness_X1_between rfl rfl rfl (by decide +kernel) ⟨Nat.le_of_ble_eq_true rfl, Nat.le_of_ble_eq_true rfl⟩) hK hE hA hP hD hS hl.1 [0, 1] [2, 3, 4, 5] [4, 5, 0, 1, 2, 3] rfl rfl rfl (by decide) (ci := 0) rfl rfl rfl rfl rfl (Nat.le_of_ble_eq_true rfl) ⟨Nat.zero_le _, Nat.zero_le _⟩ dX1_edgeOnWitness_3 (fun H locs hP hD hS => ?_)
  have hb7 := hf (8 * u + v)
  refine lv_ldc (v := nI 1000000) hx hb hown (hts (.constant RX1 65 (1000000)) (by decide +kernel)) dX1_edgeOnWitness_6 ?_
  refine zn_ge (tgt := 27) hx hb dX1_edgeOnWitness_8 (by decide) (by omega) (by omega) (fun c_1 => ?_) (fun c_1 => ?_)
  · skip
    refine lv_bipush (v := (-9)) hx hb dX1_edgeOnWitness_27 (by decide) ?_
    exact kret _ _ _ _ _ _ (by unfold zEwA; rw [if_pos (by omega)]) rfl hP hD hS dX1_edgeOnWitness_29
  · skip
    refine lv_iload hx hb dX1_edgeOnWitness_11 (lv_at hl 4 rfl) ?_
    refine zd_lt (a := (x).toInt) (tgt := 27) hx hb dX1_edgeOnWitness_13 (by decide) rfl (fun c_2 => ?_) (fun c_2 => ?_)
    · skip
      refine lv_bipush (v := (-9)) hx hb dX1_edgeOnWitness_27 (by decide) ?_
      exact kret _ _ _ _ _ _ (by unfold zEwA; rw [if_pos (by omega)]) rfl hP hD hS dX1_edgeOnWitness_29
    · skip
      refine lv_iload hx hb dX1_edgeOnWitness_16 (lv_at hl 4 rfl) ?_
      refine lv_aload_n hx hb dX1_edgeOnWitness_18 rfl (lv_at hl 0 rfl) ?_
      refine lv_iload_n hx hb dX1_edgeOnWitness_19 rfl (lv_at hl 2 rfl) ?_
      refine lv_iload_n hx hb dX1_edgeOnWitness_20 rfl (lv_at hl 3 rfl) ?_
      refine zVi (W1 := [(d, .inr (0, [.ref tb, .int (nI V)])), zA G tb 64 f, (e, .inr (1, [.ref a1, .ref a2, .ref a3, .int (nI k)])), zA G a1 cap s, zA G a2 cap t, zA G a3 cap lb]) (W2 := [(d, .inr (0, [.ref tb, .int (nI V)])), zA G tb 64 f, (e, .inr (1, [.ref a1, .ref a2, .ref a3, .int (nI k)])), zA G a1 cap s, zA G a2 cap t, zA G a3 cap lb]) (wr := [(e, .inr (1, [.ref a1, .ref a2, .ref a3, .int (nI k)])), zA G a1 cap s, zA G a2 cap t, zA G a3 cap lb]) (rest := [.int x]) SM (c_X1_between l G d tb f V u v (by first | assumption | omega) (by first | assumption | omega)) (cwV 2 hts gX1_edgeOnWitness_X1_between rfl rfl rfl (by decide +kernel) ⟨Nat.le_of_ble_eq_true rfl, Nat.le_of_ble_eq_true rfl⟩) hK hE hA hP hD hS hl.1 [0, 1] [2, 3, 4, 5] [4, 5, 0, 1, 2, 3] rfl rfl rfl (by decide) (ci := 0) rfl rfl rfl rfl rfl (Nat.le_of_ble_eq_true rfl) ⟨Nat.zero_le _, Nat.zero_le _⟩ dX1_edgeOnWitness_21 (fun H locs hP hD hS => ?_)
      refine zc_lt (a := (x).toInt) (b := (f (8 * u + v) : Nat)) (tgt := 30) hx hb dX1_edgeOnWitness_24 (by decide) rfl (zI (by omega)) (fun c_3 => ?_) (fun c_3 => ?_)
      · skip
        have hl : lv_has ls 12 [(0, .ref d), (1, .ref e), (2, .int (nI u)), (3, .int (nI v)), (4, .int (nI x.toInt.toNat))] := by have hxn : x = nI x.toInt.toNat := (by apply Int32.toInt_inj.mp; rw [zI (by omega)]; omega); rw [← hxn]; exact hl
        refine lv_iload_n hx hb dX1_edgeOnWitness_30 rfl (lv_at hl 2 rfl) ?_
        refine lv_istore (lv' := [(5, .int (nI u)), (0, .ref d), (1, .ref e), (2, .int (nI u)), (3, .int (nI v)), (4, .int (nI x.toInt.toNat))]) hx hb dX1_edgeOnWitness_31 hl (by decide) rfl (fun ls hl => ?_)
        refine lv_iload_n hx hb dX1_edgeOnWitness_33 rfl (lv_at hl 4 rfl) ?_
        refine lv_istore (lv' := [(6, .int (nI v)), (5, .int (nI u)), (0, .ref d), (1, .ref e), (2, .int (nI u)), (3, .int (nI v)), (4, .int (nI x.toInt.toNat))]) hx hb dX1_edgeOnWitness_34 hl (by decide) rfl (fun ls hl => ?_)
        refine lv_iload hx hb dX1_edgeOnWitness_36 (lv_at hl 6 rfl) ?_
        refine lv_istore (lv' := [(7, .int (nI x.toInt.toNat)), (6, .int (nI v)), (5, .int (nI u)), (0, .ref d), (1, .ref e), (2, .int (nI u)), (3, .int (nI v)), (4, .int (nI x.toInt.toNat))]) hx hb dX1_edgeOnWitness_38 hl (by decide) rfl (fun ls hl => ?_)
        refine lv_iconst (v := nI 0) hx hb dX1_edgeOnWitness_40 (by decide) ?_
        refine lv_istore (lv' := [(8, .int (nI 0)), (7, .int (nI x.toInt.toNat)), (6, .int (nI v)), (5, .int (nI u)), (0, .ref d), (1, .ref e), (2, .int (nI u)), (3, .int (nI v)), (4, .int (nI x.toInt.toNat))]) hx hb dX1_edgeOnWitness_41 hl (by decide) rfl (fun ls hl => ?_)
        have lp43 : ∀ (n9 : Nat), ∀ (n u2 v2 i : Nat), (n ≤ 65) → (u2 < 8) → (v2 < 8) → (i < 1000001) → (zEwA s t lb f k u v x = zEw s t lb f k (65 - n) u2 v2 i) → (65 - n) < n9 → ∀ (H : Heap) (locs : List Loc) (ls : Array Slot), va_P G.1 vwCl [(d, .inr (0, [.ref tb, .int (nI V)])), zA G tb 64 f, (e, .inr (1, [.ref a1, .ref a2, .ref a3, .int (nI k)])), zA G a1 cap s, zA G a2 cap t, zA G a3 cap lb] H → va_D AM [(d, .inr (0, [.ref tb, .int (nI V)])), zA G tb 64 f, (e, .inr (1, [.ref a1, .ref a2, .ref a3, .int (nI k)])), zA G a1 cap s, zA G a2 cap t, zA G a3 cap lb] → va_S AM sM.heap H locs → lv_has ls 12 [(0, .ref d), (1, .ref e), (5, .int (nI u2)), (6, .int (nI v2)), (7, .int (nI i)), (8, .int (nI n))] → W pM l eM ({ frames := 4, cells := 0, slots := 0, locals := 97 }) sM mM (([.ref d, .ref e, .int (nI u), .int (nI v), .int x] : List Value).toArray) bM tM cM H locs 0 0 QM (F0 mM 43 ls []) := by
          intro n9
          induction n9 with
          | zero =>
            intro _ _ _ _ _ _ _ _ _ h9
            exact absurd h9 (Nat.not_lt_zero _)
          | succ n9 ih9 =>
            intro n u2 v2 i h1 hu2 hv2 hi hq hmu43 H locs ls hP hD hS hl
            have ih43 := ih9
            clear ih9
            refine lv_iload hx hb dX1_edgeOnWitness_43 (lv_at hl 5 rfl) ?_
            refine lv_bipush (v := nI 64) hx hb dX1_edgeOnWitness_45 (by decide) ?_
            refine zn_gt (tgt := 203) hx hb dX1_edgeOnWitness_47 (by decide) (by omega) (by omega) (fun c_4 => ?_) (fun c_4 => ?_)
            · skip
              refine lv_bipush (v := (-9)) hx hb dX1_edgeOnWitness_203 (by decide) ?_
              exact kret _ _ _ _ _ _ (by rw [hq, show 65 - n = 0 by omega, zEw]) rfl hP hD hS dX1_edgeOnWitness_205
            · skip
              refine lv_aload_n hx hb dX1_edgeOnWitness_50 rfl (lv_at hl 0 rfl) ?_
              refine lv_aload_n hx hb dX1_edgeOnWitness_51 rfl (lv_at hl 1 rfl) ?_
              refine lv_iload hx hb dX1_edgeOnWitness_52 (lv_at hl 2 rfl) ?_
              refine lv_iload hx hb dX1_edgeOnWitness_54 (lv_at hl 3 rfl) ?_
              refine zVi (W1 := [(d, .inr (0, [.ref tb, .int (nI V)])), zA G tb 64 f, (e, .inr (1, [.ref a1, .ref a2, .ref a3, .int (nI k)])), zA G a1 cap s, zA G a2 cap t, zA G a3 cap lb]) (W2 := [(d, .inr (0, [.ref tb, .int (nI V)])), zA G tb 64 f, (e, .inr (1, [.ref a1, .ref a2, .ref a3, .int (nI k)])), zA G a1 cap s, zA G a2 cap t, zA G a3 cap lb]) (wr := []) (rest := []) SM (c_X1_firstOnWitness l G d tb f V e a1 a2 a3 cap s t lb k u2 v2 (by first | assumption | omega) (by first | assumption | omega) (by first | assumption | omega) (by first | assumption | omega) (by first | assumption | omega) (by first | assumption | omega) (by first | assumption | omega) (by first | assumption | omega)) (cwV 3 hts gX1_edgeOnWitness_X1_firstOnWitness rfl rfl rfl (by decide +kernel) ⟨Nat.le_of_ble_eq_true rfl, Nat.le_of_ble_eq_true rfl⟩) hK hE hA hP hD hS hl.1 [0, 1, 2, 3, 4, 5] [] [0, 1, 2, 3, 4, 5] rfl rfl rfl (by decide) (ci := 0) rfl rfl rfl rfl rfl (Nat.le_of_ble_eq_true rfl) ⟨Nat.zero_le _, Nat.zero_le _⟩ dX1_edgeOnWitness_56 (fun H locs hP hD hS => ?_)
              refine lv_istore (lv' := [(9, .int (zOr9 (zFw s t lb f k u2 v2) k)), (0, .ref d), (1, .ref e), (5, .int (nI u2)), (6, .int (nI v2)), (7, .int (nI i)), (8, .int (nI n))]) hx hb dX1_edgeOnWitness_59 hl (by decide) rfl (fun ls hl => ?_)
              refine lv_iload hx hb dX1_edgeOnWitness_61 (lv_at hl 0 rfl) ?_
              refine lv_bipush (v := (-9)) hx hb dX1_edgeOnWitness_63 (by decide) ?_
              refine z9_eq (tgt := 73) hx hb dX1_edgeOnWitness_65 (by decide) (by omega) (fun c_5 => ?_) (fun c_5 => ?_)
              · skip
                refine lv_iload hx hb dX1_edgeOnWitness_73 (lv_at hl 0 rfl) ?_
                exact kret _ _ _ _ _ _ (by rw [hq, show 65 - n = (65 - (n + 1)) + 1 by omega, zEw]; first | (rw [if_neg (by assumption)]; exact zOr9_ge (by assumption)) | (rw [if_pos (by assumption), if_pos (by omega)])) rfl hP hD hS dX1_edgeOnWitness_75
              · skip
                have hl : lv_has ls 12 [(9, .int (nI (zFw s t lb f k u2 v2))), (0, .ref d), (1, .ref e), (5, .int (nI u2)), (6, .int (nI v2)), (7, .int (nI i)), (8, .int (nI n))] := by rw [← zOr9_lt c_5]; exact hl
                refine lv_iload hx hb dX1_edgeOnWitness_68 (lv_at hl 5 rfl) ?_
                refine zd_ne (a := (i : Nat)) (tgt := 76) hx hb dX1_edgeOnWitness_70 (by decide) (zI (by omega)) (fun c_6 => ?_) (fun c_6 => ?_)
                · skip
                  refine lv_iinc (v := nI (i - 1)) (lv' := [(7, .int (nI (i - 1))), (9, .int (nI (zFw s t lb f k u2 v2))), (0, .ref d), (1, .ref e), (5, .int (nI u2)), (6, .int (nI v2)), (8, .int (nI n))]) hx hb dX1_edgeOnWitness_76 hl (k := 5) rfl (zdec (by omega)) (by decide) rfl (fun ls hl => ?_)
                  refine lv_aload_n hx hb dX1_edgeOnWitness_79 rfl (lv_at hl 3 rfl) ?_
                  refine lv_iload hx hb dX1_edgeOnWitness_80 (lv_at hl 1 rfl) ?_
                  refine zVi (W1 := [(d, .inr (0, [.ref tb, .int (nI V)])), zA G tb 64 f, (e, .inr (1, [.ref a1, .ref a2, .ref a3, .int (nI k)])), zA G a1 cap s, zA G a2 cap t, zA G a3 cap lb]) (W2 := [(d, .inr (0, [.ref tb, .int (nI V)])), zA G tb 64 f, (e, .inr (1, [.ref a1, .ref a2, .ref a3, .int (nI k)])), zA G a1 cap s, zA G a2 cap t, zA G a3 cap lb]) (wr := [(d, .inr (0, [.ref tb, .int (nI V)])), zA G tb 64 f, zA G a1 cap s, zA G a2 cap t]) (rest := []) SM (c_X2_isEmptyLabelled l G e a1 a2 a3 cap lb k (zFw s t lb f k u2 v2) (by first | assumption | omega) (by first | assumption | omega) (by first | assumption | omega)) (cwV 1 hts gX1_edgeOnWitness_X2_isEmptyLabelled rfl rfl rfl (by decide +kernel) ⟨Nat.le_of_ble_eq_true rfl, Nat.le_of_ble_eq_true rfl⟩) hK hE hA hP hD hS hl.1 [2, 5] [0, 1, 3, 4] [0, 1, 4, 2, 3, 5] rfl rfl rfl (by decide) (ci := 1) rfl rfl rfl rfl rfl (Nat.le_of_ble_eq_true rfl) ⟨Nat.zero_le _, Nat.zero_le _⟩ dX1_edgeOnWitness_82 (fun H locs hP hD hS => ?_)
                  refine zb_eq (tgt := 100) hx hb dX1_edgeOnWitness_85 (by decide) (fun c_7 => ?_) (fun c_7 => ?_)
                  · skip
                    refine lv_aload_n hx hb dX1_edgeOnWitness_100 rfl (lv_at hl 2 rfl) ?_
                    refine lv_aload_n hx hb dX1_edgeOnWitness_101 rfl (lv_at hl 3 rfl) ?_
                    refine lv_iload hx hb dX1_edgeOnWitness_102 (lv_at hl 1 rfl) ?_
                    refine lv_iload hx hb dX1_edgeOnWitness_104 (lv_at hl 5 rfl) ?_
                    refine zVi (W1 := [(d, .inr (0, [.ref tb, .int (nI V)])), zA G tb 64 f, (e, .inr (1, [.ref a1, .ref a2, .ref a3, .int (nI k)])), zA G a1 cap s, zA G a2 cap t, zA G a3 cap lb]) (W2 := [(d, .inr (0, [.ref tb, .int (nI V)])), zA G tb 64 f, (e, .inr (1, [.ref a1, .ref a2, .ref a3, .int (nI k)])), zA G a1 cap s, zA G a2 cap t, zA G a3 cap lb]) (wr := []) (rest := []) SM (c_X1_closingOnWitness l G d tb f V e a1 a2 a3 cap s t lb k (zFw s t lb f k u2 v2) v2 (by first | assumption | omega) (by first | assumption | omega) (by first | assumption | omega) (by first | assumption | omega) (by first | assumption | omega) (by first | assumption | omega) (by first | assumption | omega) (by first | assumption | omega)) (cwV 3 hts gX1_edgeOnWitness_X1_closingOnWitness rfl rfl rfl (by decide +kernel) ⟨Nat.le_of_ble_eq_true rfl, Nat.le_of_ble_eq_true rfl⟩) hK hE hA hP hD hS hl.1 [0, 1, 2, 3, 4, 5] [] [0, 1, 2, 3, 4, 5] rfl rfl rfl (by decide) (ci := 0) rfl rfl rfl rfl rfl (Nat.le_of_ble_eq_true rfl) ⟨Nat.zero_le _, Nat.zero_le _⟩ dX1_edgeOnWitness_106 (fun H locs hP hD hS => ?_)
                    refine lv_istore (lv' := [(10, .int (zOr9 (zCw s t lb f k (zFw s t lb f k u2 v2) v2) k)), (7, .int (nI (i - 1))), (9, .int (nI (zFw s t lb f k u2 v2))), (0, .ref d), (1, .ref e), (5, .int (nI u2)), (6, .int (nI v2)), (8, .int (nI n))]) hx hb dX1_edgeOnWitness_109 hl (by decide) rfl (fun ls hl => ?_)
                    refine lv_iload hx hb dX1_edgeOnWitness_111 (lv_at hl 0 rfl) ?_
                    refine lv_bipush (v := (-9)) hx hb dX1_edgeOnWitness_113 (by decide) ?_
                    refine z9_ne (tgt := 121) hx hb dX1_edgeOnWitness_115 (by decide) (by omega) (fun c_8 => ?_) (fun c_8 => ?_)
                    · skip
                      have hl : lv_has ls 12 [(10, .int (nI (zCw s t lb f k (zFw s t lb f k u2 v2) v2))), (7, .int (nI (i - 1))), (9, .int (nI (zFw s t lb f k u2 v2))), (0, .ref d), (1, .ref e), (5, .int (nI u2)), (6, .int (nI v2)), (8, .int (nI n))] := by rw [← zOr9_lt c_8]; exact hl
                      refine lv_aload_n hx hb dX1_edgeOnWitness_121 rfl (lv_at hl 3 rfl) ?_
                      refine lv_aload_n hx hb dX1_edgeOnWitness_122 rfl (lv_at hl 4 rfl) ?_
                      refine va_get (D := G.1) (ci := 1) (v := .ref a2) (C := RX2) (T := TX2) (N := 4) hx hb hts hinX2 hown hK hP 2 rfl rfl 1 (by decide) hlk41 (fun _ h9 => h9) rfl dX1_edgeOnWitness_123 ?_
                      refine lv_iload hx hb dX1_edgeOnWitness_126 (lv_at hl 2 rfl) ?_
                      refine zi_ald hx hb hK hP 4 rfl (by omega) (by omega) dX1_edgeOnWitness_128 ?_
                      have hb_9 := hbt (zFw s t lb f k u2 v2)
                      refine lv_aload_n hx hb dX1_edgeOnWitness_129 rfl (lv_at hl 4 rfl) ?_
                      refine va_get (D := G.1) (ci := 1) (v := .ref a1) (C := RX2) (T := TX2) (N := 4) hx hb hts hinX2 hown hK hP 2 rfl rfl 0 (by decide) hlk38 (fun _ h9 => h9) rfl dX1_edgeOnWitness_130 ?_
                      refine lv_iload hx hb dX1_edgeOnWitness_133 (lv_at hl 0 rfl) ?_
                      refine zi_ald hx hb hK hP 3 rfl (by omega) (by omega) dX1_edgeOnWitness_135 ?_
                      have hb_10 := hbs (zCw s t lb f k (zFw s t lb f k u2 v2) v2)
                      refine zVi (W1 := [(d, .inr (0, [.ref tb, .int (nI V)])), zA G tb 64 f, (e, .inr (1, [.ref a1, .ref a2, .ref a3, .int (nI k)])), zA G a1 cap s, zA G a2 cap t, zA G a3 cap lb]) (W2 := [(d, .inr (0, [.ref tb, .int (nI V)])), zA G tb 64 f, (e, .inr (1, [.ref a1, .ref a2, .ref a3, .int (nI k)])), zA G a1 cap s, zA G a2 cap t, zA G a3 cap lb]) (wr := [(e, .inr (1, [.ref a1, .ref a2, .ref a3, .int (nI k)])), zA G a1 cap s, zA G a2 cap t, zA G a3 cap lb]) (rest := []) SM (c_X1_between l G d tb f V (t (zFw s t lb f k u2 v2)) (s (zCw s t lb f k (zFw s t lb f k u2 v2) v2)) (by first | assumption | omega) (by first | assumption | omega)) (cwV 2 hts gX1_edgeOnWitness_X1_between rfl rfl rfl (by decide +kernel) ⟨Nat.le_of_ble_eq_true rfl, Nat.le_of_ble_eq_true rfl⟩) hK hE hA hP hD hS hl.1 [0, 1] [2, 3, 4, 5] [4, 5, 0, 1, 2, 3] rfl rfl rfl (by decide) (ci := 0) rfl rfl rfl rfl rfl (Nat.le_of_ble_eq_true rfl) ⟨Nat.zero_le _, Nat.zero_le _⟩ dX1_edgeOnWitness_136 (fun H locs hP hD hS => ?_)
                      have hb8 := hf (8 * t (zFw s t lb f k u2 v2) + s (zCw s t lb f k (zFw s t lb f k u2 v2) v2))
                      refine lv_istore (lv' := [(11, .int (nI (f (8 * (t (zFw s t lb f k u2 v2)) + (s (zCw s t lb f k (zFw s t lb f k u2 v2) v2)))))), (10, .int (nI (zCw s t lb f k (zFw s t lb f k u2 v2) v2))), (7, .int (nI (i - 1))), (9, .int (nI (zFw s t lb f k u2 v2))), (0, .ref d), (1, .ref e), (5, .int (nI u2)), (6, .int (nI v2)), (8, .int (nI n))]) hx hb dX1_edgeOnWitness_139 hl (by decide) rfl (fun ls hl => ?_)
                      refine lv_iload hx hb dX1_edgeOnWitness_141 (lv_at hl 2 rfl) ?_
                      refine lv_iload hx hb dX1_edgeOnWitness_143 (lv_at hl 0 rfl) ?_
                      refine zn_ne (tgt := 151) hx hb dX1_edgeOnWitness_145 (by decide) (by omega) (by omega) (fun c_11 => ?_) (fun c_11 => ?_)
                      · skip
                        refine lv_iload hx hb dX1_edgeOnWitness_151 (lv_at hl 2 rfl) ?_
                        refine lv_iload hx hb dX1_edgeOnWitness_153 (lv_at hl 0 rfl) ?_
                        refine zn_ge (tgt := 179) hx hb dX1_edgeOnWitness_155 (by decide) (by omega) (by omega) (fun c_12 => ?_) (fun c_12 => ?_)
                        · skip
                          refine lv_aload_n hx hb dX1_edgeOnWitness_179 rfl (lv_at hl 5 rfl) ?_
                          refine va_get (D := G.1) (ci := 1) (v := .ref a2) (C := RX2) (T := TX2) (N := 4) hx hb hts hinX2 hown hK hP 2 rfl rfl 1 (by decide) hlk41 (fun _ h9 => h9) rfl dX1_edgeOnWitness_180 ?_
                          refine lv_iload hx hb dX1_edgeOnWitness_183 (lv_at hl 1 rfl) ?_
                          refine zi_ald hx hb hK hP 4 rfl (by omega) (by omega) dX1_edgeOnWitness_185 ?_
                          have hb_13 := hbt (zCw s t lb f k (zFw s t lb f k u2 v2) v2)
                          refine lv_istore (lv' := [(5, .int (nI (t (zCw s t lb f k (zFw s t lb f k u2 v2) v2)))), (11, .int (nI (f (8 * (t (zFw s t lb f k u2 v2)) + (s (zCw s t lb f k (zFw s t lb f k u2 v2) v2)))))), (10, .int (nI (zCw s t lb f k (zFw s t lb f k u2 v2) v2))), (7, .int (nI (i - 1))), (9, .int (nI (zFw s t lb f k u2 v2))), (0, .ref d), (1, .ref e), (6, .int (nI v2)), (8, .int (nI n))]) hx hb dX1_edgeOnWitness_186 hl (by decide) rfl (fun ls hl => ?_)
                          refine lv_iload hx hb dX1_edgeOnWitness_188 (lv_at hl 3 rfl) ?_
                          refine lv_iload hx hb dX1_edgeOnWitness_190 (lv_at hl 1 rfl) ?_
                          refine lv_iconst (v := nI 1) hx hb dX1_edgeOnWitness_192 (by decide) ?_
                          refine zi_addk (n := (f (8 * (t (zFw s t lb f k u2 v2)) + (s (zCw s t lb f k (zFw s t lb f k u2 v2) v2)))) + 1) hx hb dX1_edgeOnWitness_193 (by omega) ?_
                          refine zi_sub hx hb dX1_edgeOnWitness_194 (by omega) ?_
                          refine lv_istore (lv' := [(7, .int (nI ((i - 1) - ((f (8 * (t (zFw s t lb f k u2 v2)) + (s (zCw s t lb f k (zFw s t lb f k u2 v2) v2)))) + 1)))), (5, .int (nI (t (zCw s t lb f k (zFw s t lb f k u2 v2) v2)))), (11, .int (nI (f (8 * (t (zFw s t lb f k u2 v2)) + (s (zCw s t lb f k (zFw s t lb f k u2 v2) v2)))))), (10, .int (nI (zCw s t lb f k (zFw s t lb f k u2 v2) v2))), (9, .int (nI (zFw s t lb f k u2 v2))), (0, .ref d), (1, .ref e), (6, .int (nI v2)), (8, .int (nI n))]) hx hb dX1_edgeOnWitness_195 hl (by decide) rfl (fun ls hl => ?_)
                          refine lv_iinc (v := nI (n + 1)) (lv' := [(8, .int (nI (n + 1))), (7, .int (nI ((i - 1) - ((f (8 * (t (zFw s t lb f k u2 v2)) + (s (zCw s t lb f k (zFw s t lb f k u2 v2) v2)))) + 1)))), (5, .int (nI (t (zCw s t lb f k (zFw s t lb f k u2 v2) v2)))), (11, .int (nI (f (8 * (t (zFw s t lb f k u2 v2)) + (s (zCw s t lb f k (zFw s t lb f k u2 v2) v2)))))), (10, .int (nI (zCw s t lb f k (zFw s t lb f k u2 v2) v2))), (9, .int (nI (zFw s t lb f k u2 v2))), (0, .ref d), (1, .ref e), (6, .int (nI v2))]) hx hb dX1_edgeOnWitness_197 hl (k := 8) rfl (zinc n 1) (by decide) rfl (fun ls hl => ?_)
                          refine lv_goto (tgt := 43) hx hb dX1_edgeOnWitness_200 (by decide) ?_
                          exact ih43 (n + 1) (t (zCw s t lb f k (zFw s t lb f k u2 v2) v2)) v2 ((i - 1) - ((f (8 * (t (zFw s t lb f k u2 v2)) + (s (zCw s t lb f k (zFw s t lb f k u2 v2) v2)))) + 1)) (by first | assumption | omega) (by first | assumption | omega) (by first | assumption | omega) (by first | assumption | omega) (by rw [hq, show 65 - n = (65 - (n + 1)) + 1 by omega, zEw]; repeat (first | rw [if_pos (by first | assumption | omega)] | rw [if_neg (by first | assumption | omega)])) (by omega) _ _ _ hP hD hS (lv_sub hl [6, 7, 2, 8, 1, 0] rfl)
                        · skip
                          refine lv_aload_n hx hb dX1_edgeOnWitness_158 rfl (lv_at hl 5 rfl) ?_
                          refine va_get (D := G.1) (ci := 1) (v := .ref a2) (C := RX2) (T := TX2) (N := 4) hx hb hts hinX2 hown hK hP 2 rfl rfl 1 (by decide) hlk41 (fun _ h9 => h9) rfl dX1_edgeOnWitness_159 ?_
                          refine lv_iload hx hb dX1_edgeOnWitness_162 (lv_at hl 3 rfl) ?_
                          refine zi_ald hx hb hK hP 4 rfl (by omega) (by omega) dX1_edgeOnWitness_164 ?_
                          have hb_14 := hbt (zFw s t lb f k u2 v2)
                          refine lv_istore (lv' := [(5, .int (nI (t (zFw s t lb f k u2 v2)))), (11, .int (nI (f (8 * (t (zFw s t lb f k u2 v2)) + (s (zCw s t lb f k (zFw s t lb f k u2 v2) v2)))))), (10, .int (nI (zCw s t lb f k (zFw s t lb f k u2 v2) v2))), (7, .int (nI (i - 1))), (9, .int (nI (zFw s t lb f k u2 v2))), (0, .ref d), (1, .ref e), (6, .int (nI v2)), (8, .int (nI n))]) hx hb dX1_edgeOnWitness_165 hl (by decide) rfl (fun ls hl => ?_)
                          refine lv_aload_n hx hb dX1_edgeOnWitness_167 rfl (lv_at hl 6 rfl) ?_
                          refine va_get (D := G.1) (ci := 1) (v := .ref a1) (C := RX2) (T := TX2) (N := 4) hx hb hts hinX2 hown hK hP 2 rfl rfl 0 (by decide) hlk38 (fun _ h9 => h9) rfl dX1_edgeOnWitness_168 ?_
                          refine lv_iload hx hb dX1_edgeOnWitness_171 (lv_at hl 2 rfl) ?_
                          refine zi_ald hx hb hK hP 3 rfl (by omega) (by omega) dX1_edgeOnWitness_173 ?_
                          have hb_15 := hbs (zCw s t lb f k (zFw s t lb f k u2 v2) v2)
                          refine lv_istore (lv' := [(6, .int (nI (s (zCw s t lb f k (zFw s t lb f k u2 v2) v2)))), (5, .int (nI (t (zFw s t lb f k u2 v2)))), (11, .int (nI (f (8 * (t (zFw s t lb f k u2 v2)) + (s (zCw s t lb f k (zFw s t lb f k u2 v2) v2)))))), (10, .int (nI (zCw s t lb f k (zFw s t lb f k u2 v2) v2))), (7, .int (nI (i - 1))), (9, .int (nI (zFw s t lb f k u2 v2))), (0, .ref d), (1, .ref e), (8, .int (nI n))]) hx hb dX1_edgeOnWitness_174 hl (by decide) rfl (fun ls hl => ?_)
                          refine lv_goto (tgt := 197) hx hb dX1_edgeOnWitness_176 (by decide) ?_
                          refine lv_iinc (v := nI (n + 1)) (lv' := [(8, .int (nI (n + 1))), (6, .int (nI (s (zCw s t lb f k (zFw s t lb f k u2 v2) v2)))), (5, .int (nI (t (zFw s t lb f k u2 v2)))), (11, .int (nI (f (8 * (t (zFw s t lb f k u2 v2)) + (s (zCw s t lb f k (zFw s t lb f k u2 v2) v2)))))), (10, .int (nI (zCw s t lb f k (zFw s t lb f k u2 v2) v2))), (7, .int (nI (i - 1))), (9, .int (nI (zFw s t lb f k u2 v2))), (0, .ref d), (1, .ref e)]) hx hb dX1_edgeOnWitness_197 hl (k := 8) rfl (zinc n 1) (by decide) rfl (fun ls hl => ?_)
                          refine lv_goto (tgt := 43) hx hb dX1_edgeOnWitness_200 (by decide) ?_
                          exact ih43 (n + 1) (t (zFw s t lb f k u2 v2)) (s (zCw s t lb f k (zFw s t lb f k u2 v2) v2)) (i - 1) (by first | assumption | omega) (by first | assumption | omega) (by first | assumption | omega) (by first | assumption | omega) (by rw [hq, show 65 - n = (65 - (n + 1)) + 1 by omega, zEw]; repeat (first | rw [if_pos (by first | assumption | omega)] | rw [if_neg (by first | assumption | omega)])) (by omega) _ _ _ hP hD hS (lv_sub hl [7, 8, 2, 1, 5, 0] rfl)
                      · skip
                        refine lv_iload hx hb dX1_edgeOnWitness_148 (lv_at hl 1 rfl) ?_
                        exact kret _ _ _ _ _ _ (by rw [hq, show 65 - n = (65 - (n + 1)) + 1 by omega, zEw]; repeat (first | rw [if_pos (by first | assumption | omega)] | rw [if_neg (by first | assumption | omega)])) rfl hP hD hS dX1_edgeOnWitness_150
                    · skip
                      refine lv_bipush (v := (-9)) hx hb dX1_edgeOnWitness_118 (by decide) ?_
                      exact kret _ _ _ _ _ _ (by rw [hq, show 65 - n = (65 - (n + 1)) + 1 by omega, zEw]; repeat (first | rw [if_pos (by first | assumption | omega)] | rw [if_neg (by first | assumption | omega)])) rfl hP hD hS dX1_edgeOnWitness_120
                  · skip
                    refine lv_aload_n hx hb dX1_edgeOnWitness_88 rfl (lv_at hl 3 rfl) ?_
                    refine va_get (D := G.1) (ci := 1) (v := .ref a2) (C := RX2) (T := TX2) (N := 4) hx hb hts hinX2 hown hK hP 2 rfl rfl 1 (by decide) hlk41 (fun _ h9 => h9) rfl dX1_edgeOnWitness_89 ?_
                    refine lv_iload hx hb dX1_edgeOnWitness_92 (lv_at hl 1 rfl) ?_
                    refine zi_ald hx hb hK hP 4 rfl (by omega) (by omega) dX1_edgeOnWitness_94 ?_
                    have hb_16 := hbt (zFw s t lb f k u2 v2)
                    refine lv_istore (lv' := [(5, .int (nI (t (zFw s t lb f k u2 v2)))), (7, .int (nI (i - 1))), (9, .int (nI (zFw s t lb f k u2 v2))), (0, .ref d), (1, .ref e), (6, .int (nI v2)), (8, .int (nI n))]) hx hb dX1_edgeOnWitness_95 hl (by decide) rfl (fun ls hl => ?_)
                    refine lv_goto (tgt := 197) hx hb dX1_edgeOnWitness_97 (by decide) ?_
                    refine lv_iinc (v := nI (n + 1)) (lv' := [(8, .int (nI (n + 1))), (5, .int (nI (t (zFw s t lb f k u2 v2)))), (7, .int (nI (i - 1))), (9, .int (nI (zFw s t lb f k u2 v2))), (0, .ref d), (1, .ref e), (6, .int (nI v2))]) hx hb dX1_edgeOnWitness_197 hl (k := 6) rfl (zinc n 1) (by decide) rfl (fun ls hl => ?_)
                    refine lv_goto (tgt := 43) hx hb dX1_edgeOnWitness_200 (by decide) ?_
                    exact ih43 (n + 1) (t (zFw s t lb f k u2 v2)) v2 (i - 1) (by first | assumption | omega) (by first | assumption | omega) (by first | assumption | omega) (by first | assumption | omega) (by rw [hq, show 65 - n = (65 - (n + 1)) + 1 by omega, zEw]; repeat (first | rw [if_pos (by first | assumption | omega)] | rw [if_neg (by first | assumption | omega)])) (by omega) _ _ _ hP hD hS (lv_sub hl [4, 5, 1, 6, 2, 0] rfl)
                · skip
                  refine lv_iload hx hb dX1_edgeOnWitness_73 (lv_at hl 0 rfl) ?_
                  exact kret _ _ _ _ _ _ (by rw [hq, show 65 - n = (65 - (n + 1)) + 1 by omega, zEw]; first | (rw [if_neg (by assumption)]; exact zOr9_ge (by assumption)) | (rw [if_pos (by assumption), if_pos (by omega)])) rfl hP hD hS dX1_edgeOnWitness_75
        exact lp43 (65 - 0 + 1) 0 u v x.toInt.toNat (by first | assumption | omega) (by first | assumption | omega) (by first | assumption | omega) (by first | assumption | omega) (by unfold zEwA; rw [if_neg (by omega)]) (Nat.lt_succ_self _) _ _ _ hP hD hS (lv_sub hl [4, 5, 3, 2, 1, 0] rfl)
      · skip
        refine lv_bipush (v := (-9)) hx hb dX1_edgeOnWitness_27 (by decide) ?_
        exact kret _ _ _ _ _ _ (by unfold zEwA; rw [if_pos (by omega)]) rfl hP hD hS dX1_edgeOnWitness_29
