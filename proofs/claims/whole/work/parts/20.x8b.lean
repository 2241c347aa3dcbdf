set_option maxHeartbeats 4000000 in
set_option maxRecDepth 100000 in
theorem c_X8_share_bad (l : Launch) (G : zG) (o e cp bw ds hs sl sf tx ob V : Nat) (sd : Int64) (a1 a2 a3 k : Nat) (x : Int32) (hk : k ≤ 16) (hb0 : ¬ ((0 ≤ x.toInt ∧ x.toInt < k) ∧ k ≤ 8)) : MI l yX8_share wsX8_share ({ frames := 1, cells := 0, slots := 0, locals := 21 }) G [.ref o, .int x] [(o, .inr (5, [.int (nI V), .long sd, .ref e, .ref cp, .ref bw, .ref ds, .ref hs, .ref sl, .ref sf, .ref tx, .ref ob])), (e, .inr (1, [.ref a1, .ref a2, .ref a3, .int (nI k)]))] (zShE k x) [(o, .inr (5, [.int (nI V), .long sd, .ref e, .ref cp, .ref bw, .ref ds, .ref hs, .ref sl, .ref sf, .ref tx, .ref ob])), (e, .inr (1, [.ref a1, .ref a2, .ref a3, .int (nI k)]))] := by
  refine MI.enter (cc := cX8_share) (maxL := 7) (by decide) rfl (Nat.le_of_ble_eq_true rfl) rfl ?_
  intro pM eM sM mM bM tM cM QM AM ls hat kret
  obtain ⟨SM, hA, hK, hE, hP, hD, hS, hl⟩ := hat
  have hx := SM.1
  have hb := SM.2.1
  have hown : sM.vm.findClass RX8 = some mM.cls := SM.2.2.2.1
  have hts := SM.2.2.2.2
  have hinX8 : ∀ w ∈ u_ws RX8 TX8 11, w ∈ wsX8_share := by decide +kernel
  have hlk22 : (Cond.fieldLink RX8 22 "DyckReachability" "edges" "LDyckReachability$Edges;").before _ sM = true := hts _ (by decide +kernel)
  have hinX2 : ∀ w ∈ u_ws RX2 TX2 4, w ∈ wsX8_share := by decide +kernel
  have hlk92 : (Cond.fieldLink RX8 92 "DyckReachability$Edges" "size" "I").before _ sM = true := hts _ (by decide +kernel)
  have hl : lv_has ls 7 [(0, .ref o), (1, .int x)] := hl
  refine lv_aload_n hx hb dX8_share_0 rfl (lv_at hl 0 rfl) ?_
  refine va_get (D := G.1) (ci := 5) (v := .ref e) (C := RX8) (T := TX8) (N := 11) hx hb hts hinX8 hown hK hP 0 rfl rfl 2 (by decide) hlk22 (fun _ h9 => h9) rfl dX8_share_1 ?_
  refine lv_iload_n hx hb dX8_share_4 rfl (lv_at hl 1 rfl) ?_
  refine zVi (W1 := [(o, .inr (5, [.int (nI V), .long sd, .ref e, .ref cp, .ref bw, .ref ds, .ref hs, .ref sl, .ref sf, .ref tx, .ref ob])), (e, .inr (1, [.ref a1, .ref a2, .ref a3, .int (nI k)]))]) (W2 := [(o, .inr (5, [.int (nI V), .long sd, .ref e, .ref cp, .ref bw, .ref ds, .ref hs, .ref sl, .ref sf, .ref tx, .ref ob])), (e, .inr (1, [.ref a1, .ref a2, .ref a3, .int (nI k)]))]) (wr := [(o, .inr (5, [.int (nI V), .long sd, .ref e, .ref cp, .ref bw, .ref ds, .ref hs, .ref sl, .ref sf, .ref tx, .ref ob]))]) (rest := []) SM (c_X2_holds l G e a1 a2 a3 k x (by first | assumption | omega)) (cwV 1 hts gX8_share_X2_holds rfl rfl rfl (by decide +kernel) ⟨Nat.le_of_ble_eq_true rfl, Nat.le_of_ble_eq_true rfl⟩) hK hE hA hP hD hS hl.1 [1] [0] [0, 1] rfl rfl rfl (by decide) (ci := 1) rfl rfl rfl rfl rfl (Nat.le_of_ble_eq_true rfl) ⟨Nat.zero_le _, Nat.zero_le _⟩ dX8_share_5 (fun H locs hP hD hS => ?_)
  refine zb_ne (tgt := 13) hx hb dX8_share_8 (by decide) (fun c_1 => ?_) (fun c_1 => ?_)
  · skip
    refine lv_aload_n hx hb dX8_share_13 rfl (lv_at hl 0 rfl) ?_
    refine va_get (D := G.1) (ci := 5) (v := .ref e) (C := RX8) (T := TX8) (N := 11) hx hb hts hinX8 hown hK hP 0 rfl rfl 2 (by decide) hlk22 (fun _ h9 => h9) rfl dX8_share_14 ?_
    refine va_get (D := G.1) (ci := 1) (v := .int (nI k)) (C := RX2) (T := TX2) (N := 4) hx hb hts hinX2 hown hK hP 1 rfl rfl 3 (by decide) hlk92 (fun _ h9 => h9) rfl dX8_share_17 ?_
    refine lv_bipush (v := nI 8) hx hb dX8_share_20 (by decide) ?_
    refine zn_le (tgt := 28) hx hb dX8_share_22 (by decide) (by omega) (by omega) (fun c_2 => ?_) (fun c_2 => ?_)
    · skip
      exfalso; omega
    · skip
      refine lv_bipush (v := (-3)) hx hb dX8_share_25 (by decide) ?_
      exact kret _ _ _ _ _ _ (by unfold zShE; repeat (first | rw [if_pos (by first | assumption | omega)] | rw [if_neg (by first | assumption | omega)])) rfl hP hD hS dX8_share_27
  · skip
    refine lv_iconst (v := (-1)) hx hb dX8_share_11 (by decide) ?_
    exact kret _ _ _ _ _ _ (by unfold zShE; repeat (first | rw [if_pos (by first | assumption | omega)] | rw [if_neg (by first | assumption | omega)])) rfl hP hD hS dX8_share_12
set_option maxHeartbeats 4000000 in
set_option maxRecDepth 100000 in
theorem c_X8_share_ok (l : Launch) (G : zG) (o e cp bw ds hs sl sf tx ob V : Nat) (sd : Int64) (a1 a2 a3 : Nat) (s t lb : Nat → Nat) (k : Nat) (c1 c2 c3 : Nat) (sc tc lc : Nat → Nat) (kc : Nat) (x : Int32) (hV : V ≤ 8) (hx : 0 ≤ x.toInt ∧ x.toInt < k) (hk8 : k ≤ 8) (hbs : ∀ i, s i < 8) (hbt : ∀ i, t i < 8) (hlb : ∀ i, lb i < 7) (hkc : kc ≤ 16) (hcs : ∀ i, sc i < 8) (hct : ∀ i, tc i < 8) (hcl : ∀ i, lc i < 7) : MX (zQ4) l yX8_share wsX8_share ({ frames := 6, cells := 0, slots := 0, locals := 142 }) G [.ref o, .int x] [(o, .inr (5, [.int (nI V), .long sd, .ref e, .ref cp, .ref bw, .ref ds, .ref hs, .ref sl, .ref sf, .ref tx, .ref ob])), (e, .inr (1, [.ref a1, .ref a2, .ref a3, .int (nI k)])), zA G a1 16 s, zA G a2 16 t, zA G a3 16 lb, (cp, .inr (1, [.ref c1, .ref c2, .ref c3, .int (nI kc)])), zA G c1 16 sc, zA G c2 16 tc, zA G c3 16 lc] (zShX s t lb k V x.toInt.toNat) (fun u : zQ4 => [(o, .inr (5, [.int (nI V), .long sd, .ref e, .ref cp, .ref bw, .ref ds, .ref hs, .ref sl, .ref sf, .ref tx, .ref ob])), (e, .inr (1, [.ref a1, .ref a2, .ref a3, .int (nI k)])), zA G a1 16 s, zA G a2 16 t, zA G a3 16 lb, (cp, .inr (1, [.ref c1, .ref c2, .ref c3, .int (nI u.2.2.2)])), zA G c1 16 u.1, zA G c2 16 u.2.1, zA G c3 16 u.2.2.1]) (fun u : zQ4 => zQ4ok u) := by
  refine MX.enter (cc := cX8_share) (maxL := 7) (by decide) rfl (Nat.le_of_ble_eq_true rfl) ?_
  intro pM eM sM mM bM tM cM QM AM ls hat kret
  obtain ⟨SM, hA, hK, hE, hP, hD, hS, hl⟩ := hat
  have hx := SM.1
  have hb := SM.2.1
  have hown : sM.vm.findClass RX8 = some mM.cls := SM.2.2.2.1
  have hts := SM.2.2.2.2
  have hinX8 : ∀ w ∈ u_ws RX8 TX8 11, w ∈ wsX8_share := by decide +kernel
  have hlk22 : (Cond.fieldLink RX8 22 "DyckReachability" "edges" "LDyckReachability$Edges;").before _ sM = true := hts _ (by decide +kernel)
  have hinX2 : ∀ w ∈ u_ws RX2 TX2 4, w ∈ wsX8_share := by decide +kernel
  have hlk92 : (Cond.fieldLink RX8 92 "DyckReachability$Edges" "size" "I").before _ sM = true := hts _ (by decide +kernel)
  have h2k := z2pk k hk8
  have hk : k ≤ 16 := by omega
  have h2x : 2 ^ x.toInt.toNat ≤ 128 := Nat.le_trans (Nat.pow_le_pow_right (by decide) (show x.toInt.toNat ≤ 7 by omega)) (by decide)
  have hl : lv_has ls 7 [(0, .ref o), (1, .int x)] := hl
  refine lv_aload_n hx hb dX8_share_0 rfl (lv_at hl 0 rfl) ?_
  refine va_get (D := G.1) (ci := 5) (v := .ref e) (C := RX8) (T := TX8) (N := 11) hx hb hts hinX8 hown hK hP 0 rfl rfl 2 (by decide) hlk22 (fun _ h9 => h9) rfl dX8_share_1 ?_
  refine lv_iload_n hx hb dX8_share_4 rfl (lv_at hl 1 rfl) ?_
  refine zVi (W1 := [(o, .inr (5, [.int (nI V), .long sd, .ref e, .ref cp, .ref bw, .ref ds, .ref hs, .ref sl, .ref sf, .ref tx, .ref ob])), (e, .inr (1, [.ref a1, .ref a2, .ref a3, .int (nI k)])), zA G a1 16 s, zA G a2 16 t, zA G a3 16 lb, (cp, .inr (1, [.ref c1, .ref c2, .ref c3, .int (nI kc)])), zA G c1 16 sc, zA G c2 16 tc, zA G c3 16 lc]) (W2 := [(o, .inr (5, [.int (nI V), .long sd, .ref e, .ref cp, .ref bw, .ref ds, .ref hs, .ref sl, .ref sf, .ref tx, .ref ob])), (e, .inr (1, [.ref a1, .ref a2, .ref a3, .int (nI k)])), zA G a1 16 s, zA G a2 16 t, zA G a3 16 lb, (cp, .inr (1, [.ref c1, .ref c2, .ref c3, .int (nI kc)])), zA G c1 16 sc, zA G c2 16 tc, zA G c3 16 lc]) (wr := [(o, .inr (5, [.int (nI V), .long sd, .ref e, .ref cp, .ref bw, .ref ds, .ref hs, .ref sl, .ref sf, .ref tx, .ref ob])), zA G a1 16 s, zA G a2 16 t, zA G a3 16 lb, (cp, .inr (1, [.ref c1, .ref c2, .ref c3, .int (nI kc)])), zA G c1 16 sc, zA G c2 16 tc, zA G c3 16 lc]) (rest := []) SM (c_X2_holds l G e a1 a2 a3 k x (by first | assumption | omega)) (cwV 1 hts gX8_share_X2_holds rfl rfl rfl (by decide +kernel) ⟨Nat.le_of_ble_eq_true rfl, Nat.le_of_ble_eq_true rfl⟩) hK hE hA hP hD hS hl.1 [1] [0, 2, 3, 4, 5, 6, 7, 8] [0, 8, 1, 2, 3, 4, 5, 6, 7] rfl rfl rfl (by decide) (ci := 1) rfl rfl rfl rfl rfl (Nat.le_of_ble_eq_true rfl) ⟨Nat.zero_le _, Nat.zero_le _⟩ dX8_share_5 (fun H locs hP hD hS => ?_)
  refine zb_ne (tgt := 13) hx hb dX8_share_8 (by decide) (fun c_1 => ?_) (fun c_1 => ?_)
  · skip
    have hl : lv_has ls 7 [(0, .ref o), (1, .int (nI x.toInt.toNat))] := by rw [← xN_eq (x := x) (by omega)]; exact hl
    refine lv_aload_n hx hb dX8_share_13 rfl (lv_at hl 0 rfl) ?_
    refine va_get (D := G.1) (ci := 5) (v := .ref e) (C := RX8) (T := TX8) (N := 11) hx hb hts hinX8 hown hK hP 0 rfl rfl 2 (by decide) hlk22 (fun _ h9 => h9) rfl dX8_share_14 ?_
    refine va_get (D := G.1) (ci := 1) (v := .int (nI k)) (C := RX2) (T := TX2) (N := 4) hx hb hts hinX2 hown hK hP 1 rfl rfl 3 (by decide) hlk92 (fun _ h9 => h9) rfl dX8_share_17 ?_
    refine lv_bipush (v := nI 8) hx hb dX8_share_20 (by decide) ?_
    refine zn_le (tgt := 28) hx hb dX8_share_22 (by decide) (by omega) (by omega) (fun c_2 => ?_) (fun c_2 => ?_)
    · skip
      refine lv_iconst (v := nI 1) hx hb dX8_share_28 (by decide) ?_
      refine lv_iload_n hx hb dX8_share_29 rfl (lv_at hl 1 rfl) ?_
      refine zi_shl1 hx hb dX8_share_30 (by omega) ?_
      refine lv_istore_n (lv' := [(2, .int (nI (2 ^ x.toInt.toNat))), (0, .ref o), (1, .int (nI x.toInt.toNat))]) hx hb dX8_share_31 rfl hl (by decide) rfl (fun ls hl => ?_)
      refine lv_iconst (v := nI 1) hx hb dX8_share_32 (by decide) ?_
      refine lv_aload_n hx hb dX8_share_33 rfl (lv_at hl 1 rfl) ?_
      refine va_get (D := G.1) (ci := 5) (v := .ref e) (C := RX8) (T := TX8) (N := 11) hx hb hts hinX8 hown hK hP 0 rfl rfl 2 (by decide) hlk22 (fun _ h9 => h9) rfl dX8_share_34 ?_
      refine va_get (D := G.1) (ci := 1) (v := .int (nI k)) (C := RX2) (T := TX2) (N := 4) hx hb hts hinX2 hown hK hP 1 rfl rfl 3 (by decide) hlk92 (fun _ h9 => h9) rfl dX8_share_37 ?_
      refine zi_shl1 hx hb dX8_share_40 (by omega) ?_
      refine lv_istore_n (lv' := [(3, .int (nI (2 ^ k))), (2, .int (nI (2 ^ x.toInt.toNat))), (0, .ref o), (1, .int (nI x.toInt.toNat))]) hx hb dX8_share_41 rfl hl (by decide) rfl (fun ls hl => ?_)
      refine lv_iconst (v := nI 0) hx hb dX8_share_42 (by decide) ?_
      refine lv_istore (lv' := [(4, .int (nI 0)), (3, .int (nI (2 ^ k))), (2, .int (nI (2 ^ x.toInt.toNat))), (0, .ref o), (1, .int (nI x.toInt.toNat))]) hx hb dX8_share_43 hl (by decide) rfl (fun ls hl => ?_)
      refine lv_iconst (v := nI 0) hx hb dX8_share_45 (by decide) ?_
      refine lv_istore (lv' := [(5, .int (nI 0)), (4, .int (nI 0)), (3, .int (nI (2 ^ k))), (2, .int (nI (2 ^ x.toInt.toNat))), (0, .ref o), (1, .int (nI x.toInt.toNat))]) hx hb dX8_share_46 hl (by decide) rfl (fun ls hl => ?_)
      have lp48 : ∀ (n9 : Nat), ∀ (b : Nat) (a : Int32) (sc2 tc2 lc2 : Nat → Nat) (kc2 : Nat), (b ≤ 2 ^ k) → (a = zIt (zShF s t lb k V x.toInt.toNat) b (nI 0)) → (∀ i, sc2 i < 8) → (∀ i, tc2 i < 8) → (∀ i, lc2 i < 7) → (kc2 ≤ 16) → (2 ^ k - b) < n9 → ∀ (H : Heap) (locs : List Loc) (ls : Array Slot), va_P G.1 vwCl [(o, .inr (5, [.int (nI V), .long sd, .ref e, .ref cp, .ref bw, .ref ds, .ref hs, .ref sl, .ref sf, .ref tx, .ref ob])), (e, .inr (1, [.ref a1, .ref a2, .ref a3, .int (nI k)])), zA G a1 16 s, zA G a2 16 t, zA G a3 16 lb, (cp, .inr (1, [.ref c1, .ref c2, .ref c3, .int (nI kc2)])), zA G c1 16 sc2, zA G c2 16 tc2, zA G c3 16 lc2] H → va_D AM [(o, .inr (5, [.int (nI V), .long sd, .ref e, .ref cp, .ref bw, .ref ds, .ref hs, .ref sl, .ref sf, .ref tx, .ref ob])), (e, .inr (1, [.ref a1, .ref a2, .ref a3, .int (nI k)])), zA G a1 16 s, zA G a2 16 t, zA G a3 16 lb, (cp, .inr (1, [.ref c1, .ref c2, .ref c3, .int (nI kc2)])), zA G c1 16 sc2, zA G c2 16 tc2, zA G c3 16 lc2] → va_S AM sM.heap H locs → lv_has ls 7 [(0, .ref o), (1, .int (nI x.toInt.toNat)), (2, .int (nI (2 ^ (x.toInt.toNat)))), (3, .int (nI (2 ^ k))), (4, .int a), (5, .int (nI b))] → W pM l eM ({ frames := 6, cells := 0, slots := 0, locals := 142 }) sM mM (([.ref o, .int x] : List Value).toArray) bM tM cM H locs 0 0 QM (F0 mM 48 ls []) := by
        intro n9
        induction n9 with
        | zero =>
          intro _ _ _ _ _ _ _ _ _ _ _ _ h9
          exact absurd h9 (Nat.not_lt_zero _)
        | succ n9 ih9 =>
          intro b a sc2 tc2 lc2 kc2 h1 hq g1 g2 g3 g4 hmu48 H locs ls hP hD hS hl
          have ih48 := ih9
          clear ih9
          refine lv_iload hx hb dX8_share_48 (lv_at hl 5 rfl) ?_
          refine lv_iload_n hx hb dX8_share_50 rfl (lv_at hl 3 rfl) ?_
          refine zn_ge (tgt := 107) hx hb dX8_share_51 (by decide) (by omega) (by omega) (fun c_3 => ?_) (fun c_3 => ?_)
          · skip
            refine lv_iload hx hb dX8_share_107 (lv_at hl 4 rfl) ?_
            exact kret _ _ _ _ _ _ (sc2, tc2, lc2, kc2) (by have hq9 : b = 2 ^ k := (by omega); subst hq9; exact hq) ⟨by assumption, by assumption, by assumption, by first | assumption | omega⟩ rfl hP hD hS dX8_share_109
          · skip
            refine lv_iload hx hb dX8_share_54 (lv_at hl 5 rfl) ?_
            refine lv_iload_n hx hb dX8_share_56 rfl (lv_at hl 2 rfl) ?_
            refine zi_and hx hb dX8_share_57 ?_
            have hba := Nat.and_le_left (n := b) (m := 2 ^ (x.toInt.toNat))
            refine zd_ne (a := (b &&& (2 ^ (x.toInt.toNat)) : Nat)) (tgt := 101) hx hb dX8_share_58 (by decide) (zI (by omega)) (fun c_4 => ?_) (fun c_4 => ?_)
            · skip
              refine lv_iinc (v := nI (b + 1)) (lv' := [(5, .int (nI (b + 1))), (0, .ref o), (1, .int (nI x.toInt.toNat)), (2, .int (nI (2 ^ (x.toInt.toNat)))), (3, .int (nI (2 ^ k))), (4, .int a)]) hx hb dX8_share_101 hl (k := 5) rfl (zinc b 1) (by decide) rfl (fun ls hl => ?_)
              refine lv_goto (tgt := 48) hx hb dX8_share_104 (by decide) ?_
              exact ih48 (b + 1) a sc2 tc2 lc2 kc2 (by first | assumption | omega) (by rw [zIt_s, ← hq]; unfold zShF; first | rw [if_pos (by omega)] | rw [if_neg (by omega)]) (by first | assumption | exact zSel_lt (zSel_lt g1 hbs _) hbs _) (by first | assumption | exact zSel_lt (zSel_lt g2 hbt _) hbt _) (by first | assumption | exact zSel_lt (zSel_lt g3 hlb _) hlb _) (by first | assumption | (have hw2 := zCt_le b k; omega)) (by omega) _ _ _ hP hD hS (lv_sub hl [1, 2, 3, 4, 5, 0] rfl)
            · skip
              refine lv_aload_n hx hb dX8_share_61 rfl (lv_at hl 0 rfl) ?_
              refine lv_iload hx hb dX8_share_62 (lv_at hl 5 rfl) ?_
              refine lv_iload_n hx hb dX8_share_64 rfl (lv_at hl 2 rfl) ?_
              refine zi_or hx hb dX8_share_65 ?_
              have hbo := Nat.or_lt_two_pow (n := 8) (show b < 2 ^ 8 by omega) (show 2 ^ (x.toInt.toNat) < 2 ^ 8 by omega)
              refine zVi (W1 := [(o, .inr (5, [.int (nI V), .long sd, .ref e, .ref cp, .ref bw, .ref ds, .ref hs, .ref sl, .ref sf, .ref tx, .ref ob])), (e, .inr (1, [.ref a1, .ref a2, .ref a3, .int (nI k)])), zA G a1 16 s, zA G a2 16 t, zA G a3 16 lb, (cp, .inr (1, [.ref c1, .ref c2, .ref c3, .int (nI kc2)])), zA G c1 16 sc2, zA G c2 16 tc2, zA G c3 16 lc2]) (W2 := [(o, .inr (5, [.int (nI V), .long sd, .ref e, .ref cp, .ref bw, .ref ds, .ref hs, .ref sl, .ref sf, .ref tx, .ref ob])), (e, .inr (1, [.ref a1, .ref a2, .ref a3, .int (nI k)])), zA G a1 16 s, zA G a2 16 t, zA G a3 16 lb, (cp, .inr (1, [.ref c1, .ref c2, .ref c3, .int (nI (zCt (b ||| (2 ^ (x.toInt.toNat))) k))])), zA G c1 16 (zSel (b ||| (2 ^ (x.toInt.toNat))) sc2 s k), zA G c2 16 (zSel (b ||| (2 ^ (x.toInt.toNat))) tc2 t k), zA G c3 16 (zSel (b ||| (2 ^ (x.toInt.toNat))) lc2 lb k)]) (wr := []) (rest := []) SM (c_X8_worth l G o e cp bw ds hs sl sf tx ob V sd a1 a2 a3 s t lb k c1 c2 c3 sc2 tc2 lc2 kc2 (b ||| (2 ^ (x.toInt.toNat))) (by first | assumption | omega) (by first | assumption | omega) (by first | assumption | omega) (by first | assumption | omega) (by first | assumption | omega) (by first | assumption | omega) (by first | assumption | omega) (by first | assumption | omega) (by first | assumption | omega) (by first | assumption | omega)) (cwV 1 hts gX8_share_X8_worth rfl rfl rfl (by decide +kernel) ⟨Nat.le_of_ble_eq_true rfl, Nat.le_of_ble_eq_true rfl⟩) hK hE hA hP hD hS hl.1 [0, 1, 2, 3, 4, 5, 6, 7, 8] [] [0, 1, 2, 3, 4, 5, 6, 7, 8] rfl rfl rfl (by decide) (ci := 5) rfl rfl rfl rfl rfl (Nat.le_of_ble_eq_true rfl) ⟨Nat.zero_le _, Nat.zero_le _⟩ dX8_share_66 (fun H locs hP hD hS => ?_)
              refine lv_aload_n hx hb dX8_share_69 rfl (lv_at hl 0 rfl) ?_
              refine lv_iload hx hb dX8_share_70 (lv_at hl 5 rfl) ?_
              have hw1 := zCt_le (b ||| 2 ^ (x.toInt.toNat)) k
              refine zVi (W1 := [(o, .inr (5, [.int (nI V), .long sd, .ref e, .ref cp, .ref bw, .ref ds, .ref hs, .ref sl, .ref sf, .ref tx, .ref ob])), (e, .inr (1, [.ref a1, .ref a2, .ref a3, .int (nI k)])), zA G a1 16 s, zA G a2 16 t, zA G a3 16 lb, (cp, .inr (1, [.ref c1, .ref c2, .ref c3, .int (nI (zCt (b ||| (2 ^ (x.toInt.toNat))) k))])), zA G c1 16 (zSel (b ||| (2 ^ (x.toInt.toNat))) sc2 s k), zA G c2 16 (zSel (b ||| (2 ^ (x.toInt.toNat))) tc2 t k), zA G c3 16 (zSel (b ||| (2 ^ (x.toInt.toNat))) lc2 lb k)]) (W2 := [(o, .inr (5, [.int (nI V), .long sd, .ref e, .ref cp, .ref bw, .ref ds, .ref hs, .ref sl, .ref sf, .ref tx, .ref ob])), (e, .inr (1, [.ref a1, .ref a2, .ref a3, .int (nI k)])), zA G a1 16 s, zA G a2 16 t, zA G a3 16 lb, (cp, .inr (1, [.ref c1, .ref c2, .ref c3, .int (nI (zCt b k))])), zA G c1 16 (zSel b (zSel (b ||| (2 ^ (x.toInt.toNat))) sc2 s k) s k), zA G c2 16 (zSel b (zSel (b ||| (2 ^ (x.toInt.toNat))) tc2 t k) t k), zA G c3 16 (zSel b (zSel (b ||| (2 ^ (x.toInt.toNat))) lc2 lb k) lb k)]) (wr := []) (rest := [.int (nI (zWo s t lb k V (b ||| (2 ^ (x.toInt.toNat)))))]) SM (c_X8_worth l G o e cp bw ds hs sl sf tx ob V sd a1 a2 a3 s t lb k c1 c2 c3 (zSel (b ||| (2 ^ (x.toInt.toNat))) sc2 s k) (zSel (b ||| (2 ^ (x.toInt.toNat))) tc2 t k) (zSel (b ||| (2 ^ (x.toInt.toNat))) lc2 lb k) (zCt (b ||| (2 ^ (x.toInt.toNat))) k) b (by first | assumption | omega) (by first | assumption | omega) (by first | assumption | omega) (by first | assumption | omega) (by first | assumption | omega) (by first | assumption | omega) (by omega) (zSel_lt g1 hbs _) (zSel_lt g2 hbt _) (zSel_lt g3 hlb _)) (cwV 1 hts gX8_share_X8_worth rfl rfl rfl (by decide +kernel) ⟨Nat.le_of_ble_eq_true rfl, Nat.le_of_ble_eq_true rfl⟩) hK hE hA hP hD hS hl.1 [0, 1, 2, 3, 4, 5, 6, 7, 8] [] [0, 1, 2, 3, 4, 5, 6, 7, 8] rfl rfl rfl (by decide) (ci := 5) rfl rfl rfl rfl rfl (Nat.le_of_ble_eq_true rfl) ⟨Nat.zero_le _, Nat.zero_le _⟩ dX8_share_72 (fun H locs hP hD hS => ?_)
              refine lv_isub hx hb dX8_share_75 ?_
              refine lv_istore (lv' := [(6, .int ((nI (zWo s t lb k V (b ||| (2 ^ (x.toInt.toNat))))) - (nI (zWo s t lb k V b)))), (0, .ref o), (1, .int (nI x.toInt.toNat)), (2, .int (nI (2 ^ (x.toInt.toNat)))), (3, .int (nI (2 ^ k))), (4, .int a), (5, .int (nI b))]) hx hb dX8_share_76 hl (by decide) rfl (fun ls hl => ?_)
              refine lv_iload hx hb dX8_share_78 (lv_at hl 5 rfl) ?_
              refine lv_iload hx hb dX8_share_80 (lv_at hl 0 rfl) ?_
              refine lv_iload hx hb dX8_share_82 (lv_at hl 6 rfl) ?_
              have hpo := zp8_own k hk8 (x.toInt.toNat) (by omega) b (by omega) (by omega)
              refine zSi (W1 := [(o, .inr (5, [.int (nI V), .long sd, .ref e, .ref cp, .ref bw, .ref ds, .ref hs, .ref sl, .ref sf, .ref tx, .ref ob])), (e, .inr (1, [.ref a1, .ref a2, .ref a3, .int (nI k)])), zA G a1 16 s, zA G a2 16 t, zA G a3 16 lb, (cp, .inr (1, [.ref c1, .ref c2, .ref c3, .int (nI (zCt b k))])), zA G c1 16 (zSel b (zSel (b ||| (2 ^ (x.toInt.toNat))) sc2 s k) s k), zA G c2 16 (zSel b (zSel (b ||| (2 ^ (x.toInt.toNat))) tc2 t k) t k), zA G c3 16 (zSel b (zSel (b ||| (2 ^ (x.toInt.toNat))) lc2 lb k) lb k)]) (W2 := [(o, .inr (5, [.int (nI V), .long sd, .ref e, .ref cp, .ref bw, .ref ds, .ref hs, .ref sl, .ref sf, .ref tx, .ref ob])), (e, .inr (1, [.ref a1, .ref a2, .ref a3, .int (nI k)])), zA G a1 16 s, zA G a2 16 t, zA G a3 16 lb, (cp, .inr (1, [.ref c1, .ref c2, .ref c3, .int (nI (zCt b k))])), zA G c1 16 (zSel b (zSel (b ||| (2 ^ (x.toInt.toNat))) sc2 s k) s k), zA G c2 16 (zSel b (zSel (b ||| (2 ^ (x.toInt.toNat))) tc2 t k) t k), zA G c3 16 (zSel b (zSel (b ||| (2 ^ (x.toInt.toNat))) lc2 lb k) lb k)]) (wr := [(o, .inr (5, [.int (nI V), .long sd, .ref e, .ref cp, .ref bw, .ref ds, .ref hs, .ref sl, .ref sf, .ref tx, .ref ob])), (e, .inr (1, [.ref a1, .ref a2, .ref a3, .int (nI k)])), zA G a1 16 s, zA G a2 16 t, zA G a3 16 lb, (cp, .inr (1, [.ref c1, .ref c2, .ref c3, .int (nI (zCt b k))])), zA G c1 16 (zSel b (zSel (b ||| (2 ^ (x.toInt.toNat))) sc2 s k) s k), zA G c2 16 (zSel b (zSel (b ||| (2 ^ (x.toInt.toNat))) tc2 t k) t k), zA G c3 16 (zSel b (zSel (b ||| (2 ^ (x.toInt.toNat))) lc2 lb k) lb k)]) (rest := [.int ((nI (zWo s t lb k V (b ||| (2 ^ (x.toInt.toNat))))) - (nI (zWo s t lb k V b))), .int a]) SM (c_J6_bitCount_0f7a4 l G b (by first | assumption | omega)) (va_cwS 1 hts gX8_share_J6_bitCount_0f7a4 rfl rfl rfl (by decide +kernel) ⟨Nat.le_of_ble_eq_true rfl, Nat.le_of_ble_eq_true rfl⟩) hK hE hA hP hD hS hl.1 [] [0, 1, 2, 3, 4, 5, 6, 7, 8] [0, 1, 2, 3, 4, 5, 6, 7, 8] rfl rfl rfl (by decide) rfl rfl (Nat.le_of_ble_eq_true rfl) ⟨Nat.zero_le _, Nat.zero_le _⟩ dX8_share_84 (fun H locs hP hD hS => ?_)
              refine lv_aload_n hx hb dX8_share_87 rfl (lv_at hl 1 rfl) ?_
              refine va_get (D := G.1) (ci := 5) (v := .ref e) (C := RX8) (T := TX8) (N := 11) hx hb hts hinX8 hown hK hP 0 rfl rfl 2 (by decide) hlk22 (fun _ h9 => h9) rfl dX8_share_88 ?_
              refine va_get (D := G.1) (ci := 1) (v := .int (nI k)) (C := RX2) (T := TX2) (N := 4) hx hb hts hinX2 hown hK hP 1 rfl rfl 3 (by decide) hlk92 (fun _ h9 => h9) rfl dX8_share_91 ?_
              refine zSi (W1 := [(o, .inr (5, [.int (nI V), .long sd, .ref e, .ref cp, .ref bw, .ref ds, .ref hs, .ref sl, .ref sf, .ref tx, .ref ob])), (e, .inr (1, [.ref a1, .ref a2, .ref a3, .int (nI k)])), zA G a1 16 s, zA G a2 16 t, zA G a3 16 lb, (cp, .inr (1, [.ref c1, .ref c2, .ref c3, .int (nI (zCt b k))])), zA G c1 16 (zSel b (zSel (b ||| (2 ^ (x.toInt.toNat))) sc2 s k) s k), zA G c2 16 (zSel b (zSel (b ||| (2 ^ (x.toInt.toNat))) tc2 t k) t k), zA G c3 16 (zSel b (zSel (b ||| (2 ^ (x.toInt.toNat))) lc2 lb k) lb k)]) (W2 := [(o, .inr (5, [.int (nI V), .long sd, .ref e, .ref cp, .ref bw, .ref ds, .ref hs, .ref sl, .ref sf, .ref tx, .ref ob])), (e, .inr (1, [.ref a1, .ref a2, .ref a3, .int (nI k)])), zA G a1 16 s, zA G a2 16 t, zA G a3 16 lb, (cp, .inr (1, [.ref c1, .ref c2, .ref c3, .int (nI (zCt b k))])), zA G c1 16 (zSel b (zSel (b ||| (2 ^ (x.toInt.toNat))) sc2 s k) s k), zA G c2 16 (zSel b (zSel (b ||| (2 ^ (x.toInt.toNat))) tc2 t k) t k), zA G c3 16 (zSel b (zSel (b ||| (2 ^ (x.toInt.toNat))) lc2 lb k) lb k)]) (wr := [(o, .inr (5, [.int (nI V), .long sd, .ref e, .ref cp, .ref bw, .ref ds, .ref hs, .ref sl, .ref sf, .ref tx, .ref ob])), (e, .inr (1, [.ref a1, .ref a2, .ref a3, .int (nI k)])), zA G a1 16 s, zA G a2 16 t, zA G a3 16 lb, (cp, .inr (1, [.ref c1, .ref c2, .ref c3, .int (nI (zCt b k))])), zA G c1 16 (zSel b (zSel (b ||| (2 ^ (x.toInt.toNat))) sc2 s k) s k), zA G c2 16 (zSel b (zSel (b ||| (2 ^ (x.toInt.toNat))) tc2 t k) t k), zA G c3 16 (zSel b (zSel (b ||| (2 ^ (x.toInt.toNat))) lc2 lb k) lb k)]) (rest := [.int ((nI (zWo s t lb k V (b ||| (2 ^ (x.toInt.toNat))))) - (nI (zWo s t lb k V b))), .int a]) SM (c_X0_ordersOf l G (zp8 b) k (by first | assumption | omega) (by first | assumption | omega)) (va_cwS 2 hts gX8_share_X0_ordersOf rfl rfl rfl (by decide +kernel) ⟨Nat.le_of_ble_eq_true rfl, Nat.le_of_ble_eq_true rfl⟩) hK hE hA hP hD hS hl.1 [] [0, 1, 2, 3, 4, 5, 6, 7, 8] [0, 1, 2, 3, 4, 5, 6, 7, 8] rfl rfl rfl (by decide) rfl rfl (Nat.le_of_ble_eq_true rfl) ⟨Nat.zero_le _, Nat.zero_le _⟩ dX8_share_94 (fun H locs hP hD hS => ?_)
              refine lv_imul hx hb dX8_share_97 ?_
              refine lv_iadd hx hb dX8_share_98 ?_
              refine lv_istore (lv' := [(4, .int (a + (((nI (zWo s t lb k V (b ||| (2 ^ (x.toInt.toNat))))) - (nI (zWo s t lb k V b))) * (nI (zOrd (zp8 b) k))))), (6, .int ((nI (zWo s t lb k V (b ||| (2 ^ (x.toInt.toNat))))) - (nI (zWo s t lb k V b)))), (0, .ref o), (1, .int (nI x.toInt.toNat)), (2, .int (nI (2 ^ (x.toInt.toNat)))), (3, .int (nI (2 ^ k))), (5, .int (nI b))]) hx hb dX8_share_99 hl (by decide) rfl (fun ls hl => ?_)
              refine lv_iinc (v := nI (b + 1)) (lv' := [(5, .int (nI (b + 1))), (4, .int (a + (((nI (zWo s t lb k V (b ||| (2 ^ (x.toInt.toNat))))) - (nI (zWo s t lb k V b))) * (nI (zOrd (zp8 b) k))))), (6, .int ((nI (zWo s t lb k V (b ||| (2 ^ (x.toInt.toNat))))) - (nI (zWo s t lb k V b)))), (0, .ref o), (1, .int (nI x.toInt.toNat)), (2, .int (nI (2 ^ (x.toInt.toNat)))), (3, .int (nI (2 ^ k)))]) hx hb dX8_share_101 hl (k := 6) rfl (zinc b 1) (by decide) rfl (fun ls hl => ?_)
              refine lv_goto (tgt := 48) hx hb dX8_share_104 (by decide) ?_
              exact ih48 (b + 1) (a + (((nI (zWo s t lb k V (b ||| (2 ^ (x.toInt.toNat))))) - (nI (zWo s t lb k V b))) * (nI (zOrd (zp8 b) k)))) (zSel b (zSel (b ||| (2 ^ (x.toInt.toNat))) sc2 s k) s k) (zSel b (zSel (b ||| (2 ^ (x.toInt.toNat))) tc2 t k) t k) (zSel b (zSel (b ||| (2 ^ (x.toInt.toNat))) lc2 lb k) lb k) (zCt b k) (by first | assumption | omega) (by rw [zIt_s, ← hq]; unfold zShF; first | rw [if_pos (by omega)] | rw [if_neg (by omega)]) (by first | assumption | exact zSel_lt (zSel_lt g1 hbs _) hbs _) (by first | assumption | exact zSel_lt (zSel_lt g2 hbt _) hbt _) (by first | assumption | exact zSel_lt (zSel_lt g3 hlb _) hlb _) (by first | assumption | (have hw2 := zCt_le b k; omega)) (by omega) _ _ _ hP hD hS (lv_sub hl [3, 4, 5, 6, 1, 0] rfl)
      exact lp48 (2 ^ k - 0 + 1) 0 (nI 0) sc tc lc kc (Nat.zero_le _) rfl (by first | assumption | omega) (by first | assumption | omega) (by first | assumption | omega) (by first | assumption | omega) (Nat.lt_succ_self _) _ _ _ hP hD hS (lv_sub hl [4, 5, 3, 2, 1, 0] rfl)
    · skip
      exfalso; omega
  · skip
    exfalso; omega
set_option maxHeartbeats 4000000 in
set_option maxRecDepth 100000 in
theorem c_X8_reliability_bad (l : Launch) (G : zG) (o e cp bw ds hs sl sf tx ob V : Nat) (sd : Int64) (a1 a2 a3 k : Nat) (x y z : Int32) (hV : V ≤ 8) (hk : k ≤ 16) (hb0 : ¬ ((0 ≤ x.toInt ∧ x.toInt < V) ∧ (0 ≤ y.toInt ∧ y.toInt < V) ∧ (0 ≤ z.toInt ∧ z.toInt < 11) ∧ k ≤ 8)) : MI l yX8_reliability wsX8_reliability ({ frames := 1, cells := 0, slots := 0, locals := 21 }) G [.ref o, .int x, .int y, .int z] [(o, .inr (5, [.int (nI V), .long sd, .ref e, .ref cp, .ref bw, .ref ds, .ref hs, .ref sl, .ref sf, .ref tx, .ref ob])), (e, .inr (1, [.ref a1, .ref a2, .ref a3, .int (nI k)]))] (zReE k V x y z) [(o, .inr (5, [.int (nI V), .long sd, .ref e, .ref cp, .ref bw, .ref ds, .ref hs, .ref sl, .ref sf, .ref tx, .ref ob])), (e, .inr (1, [.ref a1, .ref a2, .ref a3, .int (nI k)]))] := by
  refine MI.enter (cc := cX8_reliability) (maxL := 8) (by decide) rfl (Nat.le_of_ble_eq_true rfl) rfl ?_
  intro pM eM sM mM bM tM cM QM AM ls hat kret
  obtain ⟨SM, hA, hK, hE, hP, hD, hS, hl⟩ := hat
  have hx := SM.1
  have hb := SM.2.1
  have hown : sM.vm.findClass RX8 = some mM.cls := SM.2.2.2.1
  have hts := SM.2.2.2.2
  have hinX8 : ∀ w ∈ u_ws RX8 TX8 11, w ∈ wsX8_reliability := by decide +kernel
  have hlk22 : (Cond.fieldLink RX8 22 "DyckReachability" "edges" "LDyckReachability$Edges;").before _ sM = true := hts _ (by decide +kernel)
  have hinX2 : ∀ w ∈ u_ws RX2 TX2 4, w ∈ wsX8_reliability := by decide +kernel
  have hlk92 : (Cond.fieldLink RX8 92 "DyckReachability$Edges" "size" "I").before _ sM = true := hts _ (by decide +kernel)
  have hl : lv_has ls 8 [(0, .ref o), (1, .int x), (2, .int y), (3, .int z)] := hl
  refine lv_aload_n hx hb dX8_reliability_0 rfl (lv_at hl 0 rfl) ?_
  refine lv_iload_n hx hb dX8_reliability_1 rfl (lv_at hl 1 rfl) ?_
  refine zVi (W1 := [(o, .inr (5, [.int (nI V), .long sd, .ref e, .ref cp, .ref bw, .ref ds, .ref hs, .ref sl, .ref sf, .ref tx, .ref ob])), (e, .inr (1, [.ref a1, .ref a2, .ref a3, .int (nI k)]))]) (W2 := [(o, .inr (5, [.int (nI V), .long sd, .ref e, .ref cp, .ref bw, .ref ds, .ref hs, .ref sl, .ref sf, .ref tx, .ref ob])), (e, .inr (1, [.ref a1, .ref a2, .ref a3, .int (nI k)]))]) (wr := [(e, .inr (1, [.ref a1, .ref a2, .ref a3, .int (nI k)]))]) (rest := []) SM (c_X8_isVertex l G o e cp bw ds hs sl sf tx ob V sd x (by first | assumption | omega)) (cwV 1 hts gX8_reliability_X8_isVertex rfl rfl rfl (by decide +kernel) ⟨Nat.le_of_ble_eq_true rfl, Nat.le_of_ble_eq_true rfl⟩) hK hE hA hP hD hS hl.1 [0] [1] [1, 0] rfl rfl rfl (by decide) (ci := 5) rfl rfl rfl rfl rfl (Nat.le_of_ble_eq_true rfl) ⟨Nat.zero_le _, Nat.zero_le _⟩ dX8_reliability_2 (fun H locs hP hD hS => ?_)
  refine zb_eq (tgt := 16) hx hb dX8_reliability_5 (by decide) (fun c_1 => ?_) (fun c_1 => ?_)
  · skip
    refine lv_iconst (v := (-1)) hx hb dX8_reliability_16 (by decide) ?_
    exact kret _ _ _ _ _ _ (by unfold zReE; repeat (first | rw [if_pos (by first | assumption | omega)] | rw [if_neg (by first | assumption | omega)])) rfl hP hD hS dX8_reliability_17
  · skip
    refine lv_aload_n hx hb dX8_reliability_8 rfl (lv_at hl 0 rfl) ?_
    refine lv_iload_n hx hb dX8_reliability_9 rfl (lv_at hl 2 rfl) ?_
    refine zVi (W1 := [(o, .inr (5, [.int (nI V), .long sd, .ref e, .ref cp, .ref bw, .ref ds, .ref hs, .ref sl, .ref sf, .ref tx, .ref ob])), (e, .inr (1, [.ref a1, .ref a2, .ref a3, .int (nI k)]))]) (W2 := [(o, .inr (5, [.int (nI V), .long sd, .ref e, .ref cp, .ref bw, .ref ds, .ref hs, .ref sl, .ref sf, .ref tx, .ref ob])), (e, .inr (1, [.ref a1, .ref a2, .ref a3, .int (nI k)]))]) (wr := [(e, .inr (1, [.ref a1, .ref a2, .ref a3, .int (nI k)]))]) (rest := []) SM (c_X8_isVertex l G o e cp bw ds hs sl sf tx ob V sd y (by first | assumption | omega)) (cwV 1 hts gX8_reliability_X8_isVertex rfl rfl rfl (by decide +kernel) ⟨Nat.le_of_ble_eq_true rfl, Nat.le_of_ble_eq_true rfl⟩) hK hE hA hP hD hS hl.1 [0] [1] [1, 0] rfl rfl rfl (by decide) (ci := 5) rfl rfl rfl rfl rfl (Nat.le_of_ble_eq_true rfl) ⟨Nat.zero_le _, Nat.zero_le _⟩ dX8_reliability_10 (fun H locs hP hD hS => ?_)
    refine zb_ne (tgt := 18) hx hb dX8_reliability_13 (by decide) (fun c_2 => ?_) (fun c_2 => ?_)
    · skip
      refine lv_iload_n hx hb dX8_reliability_18 rfl (lv_at hl 3 rfl) ?_
      refine zd_lt (a := (z).toInt) (tgt := 28) hx hb dX8_reliability_19 (by decide) rfl (fun c_3 => ?_) (fun c_3 => ?_)
      · skip
        refine lv_bipush (v := (-2)) hx hb dX8_reliability_28 (by decide) ?_
        exact kret _ _ _ _ _ _ (by unfold zReE; repeat (first | rw [if_pos (by first | assumption | omega)] | rw [if_neg (by first | assumption | omega)])) rfl hP hD hS dX8_reliability_30
      · skip
        refine lv_iload_n hx hb dX8_reliability_22 rfl (lv_at hl 3 rfl) ?_
        refine lv_bipush (v := nI 10) hx hb dX8_reliability_23 (by decide) ?_
        refine zc_le (a := (z).toInt) (b := (10 : Nat)) (tgt := 31) hx hb dX8_reliability_25 (by decide) rfl (zI (by omega)) (fun c_4 => ?_) (fun c_4 => ?_)
        · skip
          refine lv_aload_n hx hb dX8_reliability_31 rfl (lv_at hl 0 rfl) ?_
          refine va_get (D := G.1) (ci := 5) (v := .ref e) (C := RX8) (T := TX8) (N := 11) hx hb hts hinX8 hown hK hP 0 rfl rfl 2 (by decide) hlk22 (fun _ h9 => h9) rfl dX8_reliability_32 ?_
          refine va_get (D := G.1) (ci := 1) (v := .int (nI k)) (C := RX2) (T := TX2) (N := 4) hx hb hts hinX2 hown hK hP 1 rfl rfl 3 (by decide) hlk92 (fun _ h9 => h9) rfl dX8_reliability_35 ?_
          refine lv_bipush (v := nI 8) hx hb dX8_reliability_38 (by decide) ?_
          refine zn_le (tgt := 46) hx hb dX8_reliability_40 (by decide) (by omega) (by omega) (fun c_5 => ?_) (fun c_5 => ?_)
          · skip
            exfalso; omega
          · skip
            refine lv_bipush (v := (-3)) hx hb dX8_reliability_43 (by decide) ?_
            exact kret _ _ _ _ _ _ (by unfold zReE; repeat (first | rw [if_pos (by first | assumption | omega)] | rw [if_neg (by first | assumption | omega)])) rfl hP hD hS dX8_reliability_45
        · skip
          refine lv_bipush (v := (-2)) hx hb dX8_reliability_28 (by decide) ?_
          exact kret _ _ _ _ _ _ (by unfold zReE; repeat (first | rw [if_pos (by first | assumption | omega)] | rw [if_neg (by first | assumption | omega)])) rfl hP hD hS dX8_reliability_30
    · skip
      refine lv_iconst (v := (-1)) hx hb dX8_reliability_16 (by decide) ?_
      exact kret _ _ _ _ _ _ (by unfold zReE; repeat (first | rw [if_pos (by first | assumption | omega)] | rw [if_neg (by first | assumption | omega)])) rfl hP hD hS dX8_reliability_17
set_option maxHeartbeats 4000000 in
set_option maxRecDepth 100000 in
theorem c_X8_reliability_ok (l : Launch) (G : zG) (o e cp bw ds hs sl sf tx ob V : Nat) (sd : Int64) (a1 a2 a3 : Nat) (s t lb : Nat → Nat) (k : Nat) (c1 c2 c3 : Nat) (sc tc lc : Nat → Nat) (kc : Nat) (x y z : Int32) (hV : V ≤ 8) (hx : 0 ≤ x.toInt ∧ x.toInt < V) (hy : 0 ≤ y.toInt ∧ y.toInt < V) (hz : 0 ≤ z.toInt ∧ z.toInt < 11) (hk8 : k ≤ 8) (hbs : ∀ i, s i < 8) (hbt : ∀ i, t i < 8) (hlb : ∀ i, lb i < 7) (hkc : kc ≤ 16) (hcs : ∀ i, sc i < 8) (hct : ∀ i, tc i < 8) (hcl : ∀ i, lc i < 7) : MX (zQ4) l yX8_reliability wsX8_reliability ({ frames := 4, cells := 0, slots := 0, locals := 100 }) G [.ref o, .int x, .int y, .int z] [(o, .inr (5, [.int (nI V), .long sd, .ref e, .ref cp, .ref bw, .ref ds, .ref hs, .ref sl, .ref sf, .ref tx, .ref ob])), (e, .inr (1, [.ref a1, .ref a2, .ref a3, .int (nI k)])), zA G a1 16 s, zA G a2 16 t, zA G a3 16 lb, (cp, .inr (1, [.ref c1, .ref c2, .ref c3, .int (nI kc)])), zA G c1 16 sc, zA G c2 16 tc, zA G c3 16 lc] (nI (zReX s t lb k V (x.toInt.toNat) (y.toInt.toNat) (z.toInt.toNat))) (fun u : zQ4 => [(o, .inr (5, [.int (nI V), .long sd, .ref e, .ref cp, .ref bw, .ref ds, .ref hs, .ref sl, .ref sf, .ref tx, .ref ob])), (e, .inr (1, [.ref a1, .ref a2, .ref a3, .int (nI k)])), zA G a1 16 s, zA G a2 16 t, zA G a3 16 lb, (cp, .inr (1, [.ref c1, .ref c2, .ref c3, .int (nI u.2.2.2)])), zA G c1 16 u.1, zA G c2 16 u.2.1, zA G c3 16 u.2.2.1]) (fun u : zQ4 => zQ4ok u) := by
  refine MX.enter (cc := cX8_reliability) (maxL := 8) (by decide) rfl (Nat.le_of_ble_eq_true rfl) ?_
  intro pM eM sM mM bM tM cM QM AM ls hat kret
  obtain ⟨SM, hA, hK, hE, hP, hD, hS, hl⟩ := hat
  have hx := SM.1
  have hb := SM.2.1
  have hown : sM.vm.findClass RX8 = some mM.cls := SM.2.2.2.1
  have hts := SM.2.2.2.2
  have hinX8 : ∀ w ∈ u_ws RX8 TX8 11, w ∈ wsX8_reliability := by decide +kernel
  have hlk22 : (Cond.fieldLink RX8 22 "DyckReachability" "edges" "LDyckReachability$Edges;").before _ sM = true := hts _ (by decide +kernel)
  have hinX2 : ∀ w ∈ u_ws RX2 TX2 4, w ∈ wsX8_reliability := by decide +kernel
  have hlk92 : (Cond.fieldLink RX8 92 "DyckReachability$Edges" "size" "I").before _ sM = true := hts _ (by decide +kernel)
  have hlk26 : (Cond.fieldLink RX8 26 "DyckReachability" "copy" "LDyckReachability$Edges;").before _ sM = true := hts _ (by decide +kernel)
  have hlk9 : (Cond.fieldLink RX8 9 "DyckReachability" "vertices" "I").before _ sM = true := hts _ (by decide +kernel)
  have h2k := z2pk k hk8
  have hk : k ≤ 16 := by omega
  have hl : lv_has ls 8 [(0, .ref o), (1, .int x), (2, .int y), (3, .int z)] := hl
  refine lv_aload_n hx hb dX8_reliability_0 rfl (lv_at hl 0 rfl) ?_
  refine lv_iload_n hx hb dX8_reliability_1 rfl (lv_at hl 1 rfl) ?_
  refine zVi (W1 := [(o, .inr (5, [.int (nI V), .long sd, .ref e, .ref cp, .ref bw, .ref ds, .ref hs, .ref sl, .ref sf, .ref tx, .ref ob])), (e, .inr (1, [.ref a1, .ref a2, .ref a3, .int (nI k)])), zA G a1 16 s, zA G a2 16 t, zA G a3 16 lb, (cp, .inr (1, [.ref c1, .ref c2, .ref c3, .int (nI kc)])), zA G c1 16 sc, zA G c2 16 tc, zA G c3 16 lc]) (W2 := [(o, .inr (5, [.int (nI V), .long sd, .ref e, .ref cp, .ref bw, .ref ds, .ref hs, .ref sl, .ref sf, .ref tx, .ref ob])), (e, .inr (1, [.ref a1, .ref a2, .ref a3, .int (nI k)])), zA G a1 16 s, zA G a2 16 t, zA G a3 16 lb, (cp, .inr (1, [.ref c1, .ref c2, .ref c3, .int (nI kc)])), zA G c1 16 sc, zA G c2 16 tc, zA G c3 16 lc]) (wr := [(e, .inr (1, [.ref a1, .ref a2, .ref a3, .int (nI k)])), zA G a1 16 s, zA G a2 16 t, zA G a3 16 lb, (cp, .inr (1, [.ref c1, .ref c2, .ref c3, .int (nI kc)])), zA G c1 16 sc, zA G c2 16 tc, zA G c3 16 lc]) (rest := []) SM (c_X8_isVertex l G o e cp bw ds hs sl sf tx ob V sd x (by first | assumption | omega)) (cwV 1 hts gX8_reliability_X8_isVertex rfl rfl rfl (by decide +kernel) ⟨Nat.le_of_ble_eq_true rfl, Nat.le_of_ble_eq_true rfl⟩) hK hE hA hP hD hS hl.1 [0] [1, 2, 3, 4, 5, 6, 7, 8] [8, 0, 1, 2, 3, 4, 5, 6, 7] rfl rfl rfl (by decide) (ci := 5) rfl rfl rfl rfl rfl (Nat.le_of_ble_eq_true rfl) ⟨Nat.zero_le _, Nat.zero_le _⟩ dX8_reliability_2 (fun H locs hP hD hS => ?_)
  refine zb_eq (tgt := 16) hx hb dX8_reliability_5 (by decide) (fun c_1 => ?_) (fun c_1 => ?_)
  · skip
    exfalso; omega
  · skip
    refine lv_aload_n hx hb dX8_reliability_8 rfl (lv_at hl 0 rfl) ?_
    refine lv_iload_n hx hb dX8_reliability_9 rfl (lv_at hl 2 rfl) ?_
    refine zVi (W1 := [(o, .inr (5, [.int (nI V), .long sd, .ref e, .ref cp, .ref bw, .ref ds, .ref hs, .ref sl, .ref sf, .ref tx, .ref ob])), (e, .inr (1, [.ref a1, .ref a2, .ref a3, .int (nI k)])), zA G a1 16 s, zA G a2 16 t, zA G a3 16 lb, (cp, .inr (1, [.ref c1, .ref c2, .ref c3, .int (nI kc)])), zA G c1 16 sc, zA G c2 16 tc, zA G c3 16 lc]) (W2 := [(o, .inr (5, [.int (nI V), .long sd, .ref e, .ref cp, .ref bw, .ref ds, .ref hs, .ref sl, .ref sf, .ref tx, .ref ob])), (e, .inr (1, [.ref a1, .ref a2, .ref a3, .int (nI k)])), zA G a1 16 s, zA G a2 16 t, zA G a3 16 lb, (cp, .inr (1, [.ref c1, .ref c2, .ref c3, .int (nI kc)])), zA G c1 16 sc, zA G c2 16 tc, zA G c3 16 lc]) (wr := [(e, .inr (1, [.ref a1, .ref a2, .ref a3, .int (nI k)])), zA G a1 16 s, zA G a2 16 t, zA G a3 16 lb, (cp, .inr (1, [.ref c1, .ref c2, .ref c3, .int (nI kc)])), zA G c1 16 sc, zA G c2 16 tc, zA G c3 16 lc]) (rest := []) SM (c_X8_isVertex l G o e cp bw ds hs sl sf tx ob V sd y (by first | assumption | omega)) (cwV 1 hts gX8_reliability_X8_isVertex rfl rfl rfl (by decide +kernel) ⟨Nat.le_of_ble_eq_true rfl, Nat.le_of_ble_eq_true rfl⟩) hK hE hA hP hD hS hl.1 [0] [1, 2, 3, 4, 5, 6, 7, 8] [8, 0, 1, 2, 3, 4, 5, 6, 7] rfl rfl rfl (by decide) (ci := 5) rfl rfl rfl rfl rfl (Nat.le_of_ble_eq_true rfl) ⟨Nat.zero_le _, Nat.zero_le _⟩ dX8_reliability_10 (fun H locs hP hD hS => ?_)
    refine zb_ne (tgt := 18) hx hb dX8_reliability_13 (by decide) (fun c_2 => ?_) (fun c_2 => ?_)
    · skip
      refine lv_iload_n hx hb dX8_reliability_18 rfl (lv_at hl 3 rfl) ?_
      refine zd_lt (a := (z).toInt) (tgt := 28) hx hb dX8_reliability_19 (by decide) rfl (fun c_3 => ?_) (fun c_3 => ?_)
      · skip
        exfalso; omega
      · skip
        refine lv_iload_n hx hb dX8_reliability_22 rfl (lv_at hl 3 rfl) ?_
        refine lv_bipush (v := nI 10) hx hb dX8_reliability_23 (by decide) ?_
        refine zc_le (a := (z).toInt) (b := (10 : Nat)) (tgt := 31) hx hb dX8_reliability_25 (by decide) rfl (zI (by omega)) (fun c_4 => ?_) (fun c_4 => ?_)
        · skip
          refine lv_aload_n hx hb dX8_reliability_31 rfl (lv_at hl 0 rfl) ?_
          refine va_get (D := G.1) (ci := 5) (v := .ref e) (C := RX8) (T := TX8) (N := 11) hx hb hts hinX8 hown hK hP 0 rfl rfl 2 (by decide) hlk22 (fun _ h9 => h9) rfl dX8_reliability_32 ?_
          refine va_get (D := G.1) (ci := 1) (v := .int (nI k)) (C := RX2) (T := TX2) (N := 4) hx hb hts hinX2 hown hK hP 1 rfl rfl 3 (by decide) hlk92 (fun _ h9 => h9) rfl dX8_reliability_35 ?_
          refine lv_bipush (v := nI 8) hx hb dX8_reliability_38 (by decide) ?_
          refine zn_le (tgt := 46) hx hb dX8_reliability_40 (by decide) (by omega) (by omega) (fun c_5 => ?_) (fun c_5 => ?_)
          · skip
            have hl : lv_has ls 8 [(0, .ref o), (1, .int (nI x.toInt.toNat)), (2, .int (nI y.toInt.toNat)), (3, .int (nI z.toInt.toNat))] := by rw [← xN_eq (x := x) (by omega), ← xN_eq (x := y) (by omega), ← xN_eq (x := z) (by omega)]; exact hl
            refine lv_iconst (v := nI 1) hx hb dX8_reliability_46 (by decide) ?_
            refine lv_aload_n hx hb dX8_reliability_47 rfl (lv_at hl 0 rfl) ?_
            refine va_get (D := G.1) (ci := 5) (v := .ref e) (C := RX8) (T := TX8) (N := 11) hx hb hts hinX8 hown hK hP 0 rfl rfl 2 (by decide) hlk22 (fun _ h9 => h9) rfl dX8_reliability_48 ?_
            refine va_get (D := G.1) (ci := 1) (v := .int (nI k)) (C := RX2) (T := TX2) (N := 4) hx hb hts hinX2 hown hK hP 1 rfl rfl 3 (by decide) hlk92 (fun _ h9 => h9) rfl dX8_reliability_51 ?_
            refine zi_shl1 hx hb dX8_reliability_54 (by omega) ?_
            refine lv_istore (lv' := [(4, .int (nI (2 ^ k))), (0, .ref o), (1, .int (nI x.toInt.toNat)), (2, .int (nI y.toInt.toNat)), (3, .int (nI z.toInt.toNat))]) hx hb dX8_reliability_55 hl (by decide) rfl (fun ls hl => ?_)
            refine lv_iconst (v := nI 0) hx hb dX8_reliability_57 (by decide) ?_
            refine lv_istore (lv' := [(5, .int (nI 0)), (4, .int (nI (2 ^ k))), (0, .ref o), (1, .int (nI x.toInt.toNat)), (2, .int (nI y.toInt.toNat)), (3, .int (nI z.toInt.toNat))]) hx hb dX8_reliability_58 hl (by decide) rfl (fun ls hl => ?_)
            refine lv_iconst (v := nI 0) hx hb dX8_reliability_60 (by decide) ?_
            refine lv_istore (lv' := [(6, .int (nI 0)), (5, .int (nI 0)), (4, .int (nI (2 ^ k))), (0, .ref o), (1, .int (nI x.toInt.toNat)), (2, .int (nI y.toInt.toNat)), (3, .int (nI z.toInt.toNat))]) hx hb dX8_reliability_61 hl (by decide) rfl (fun ls hl => ?_)
            have lp63 : ∀ (n9 : Nat), ∀ (p a : Nat) (sc2 tc2 lc2 : Nat → Nat) (kc2 : Nat), (p ≤ 2 ^ k) → (a = zIt (zReF s t lb k V (x.toInt.toNat) (y.toInt.toNat) (z.toInt.toNat)) p 0) → (∀ i, sc2 i < 8) → (∀ i, tc2 i < 8) → (∀ i, lc2 i < 7) → (kc2 ≤ 16) → (2 ^ k - p) < n9 → ∀ (H : Heap) (locs : List Loc) (ls : Array Slot), va_P G.1 vwCl [(o, .inr (5, [.int (nI V), .long sd, .ref e, .ref cp, .ref bw, .ref ds, .ref hs, .ref sl, .ref sf, .ref tx, .ref ob])), (e, .inr (1, [.ref a1, .ref a2, .ref a3, .int (nI k)])), zA G a1 16 s, zA G a2 16 t, zA G a3 16 lb, (cp, .inr (1, [.ref c1, .ref c2, .ref c3, .int (nI kc2)])), zA G c1 16 sc2, zA G c2 16 tc2, zA G c3 16 lc2] H → va_D AM [(o, .inr (5, [.int (nI V), .long sd, .ref e, .ref cp, .ref bw, .ref ds, .ref hs, .ref sl, .ref sf, .ref tx, .ref ob])), (e, .inr (1, [.ref a1, .ref a2, .ref a3, .int (nI k)])), zA G a1 16 s, zA G a2 16 t, zA G a3 16 lb, (cp, .inr (1, [.ref c1, .ref c2, .ref c3, .int (nI kc2)])), zA G c1 16 sc2, zA G c2 16 tc2, zA G c3 16 lc2] → va_S AM sM.heap H locs → lv_has ls 8 [(0, .ref o), (1, .int (nI x.toInt.toNat)), (2, .int (nI y.toInt.toNat)), (3, .int (nI z.toInt.toNat)), (4, .int (nI (2 ^ k))), (5, .int (nI a)), (6, .int (nI p))] → W pM l eM ({ frames := 4, cells := 0, slots := 0, locals := 100 }) sM mM (([.ref o, .int x, .int y, .int z] : List Value).toArray) bM tM cM H locs 0 0 QM (F0 mM 63 ls []) := by
              intro n9
              induction n9 with
              | zero =>
                intro _ _ _ _ _ _ _ _ _ _ _ _ h9
                exact absurd h9 (Nat.not_lt_zero _)
              | succ n9 ih9 =>
                intro p a sc2 tc2 lc2 kc2 h1 hq g1 g2 g3 g4 hmu63 H locs ls hP hD hS hl
                have ih63 := ih9
                clear ih9
                refine lv_iload hx hb dX8_reliability_63 (lv_at hl 6 rfl) ?_
                refine lv_iload hx hb dX8_reliability_65 (lv_at hl 4 rfl) ?_
                refine zn_ge (tgt := 151) hx hb dX8_reliability_67 (by decide) (by omega) (by omega) (fun c_6 => ?_) (fun c_6 => ?_)
                · skip
                  refine lv_iload hx hb dX8_reliability_151 (lv_at hl 5 rfl) ?_
                  exact kret _ _ _ _ _ _ (sc2, tc2, lc2, kc2) (congrArg nI (by have hq9 : p = 2 ^ k := (by omega); subst hq9; exact hq)) ⟨by assumption, by assumption, by assumption, by first | assumption | omega⟩ rfl hP hD hS dX8_reliability_153
                · skip
                  refine lv_aload_n hx hb dX8_reliability_70 rfl (lv_at hl 0 rfl) ?_
                  refine va_get (D := G.1) (ci := 5) (v := .ref cp) (C := RX8) (T := TX8) (N := 11) hx hb hts hinX8 hown hK hP 0 rfl rfl 3 (by decide) hlk26 (fun _ h9 => h9) rfl dX8_reliability_71 ?_
                  refine lv_aload_n hx hb dX8_reliability_74 rfl (lv_at hl 0 rfl) ?_
                  refine va_get (D := G.1) (ci := 5) (v := .ref e) (C := RX8) (T := TX8) (N := 11) hx hb hts hinX8 hown hK hP 0 rfl rfl 2 (by decide) hlk22 (fun _ h9 => h9) rfl dX8_reliability_75 ?_
                  refine lv_iload hx hb dX8_reliability_78 (lv_at hl 6 rfl) ?_
                  refine zVv (W1 := [(o, .inr (5, [.int (nI V), .long sd, .ref e, .ref cp, .ref bw, .ref ds, .ref hs, .ref sl, .ref sf, .ref tx, .ref ob])), (e, .inr (1, [.ref a1, .ref a2, .ref a3, .int (nI k)])), zA G a1 16 s, zA G a2 16 t, zA G a3 16 lb, (cp, .inr (1, [.ref c1, .ref c2, .ref c3, .int (nI kc2)])), zA G c1 16 sc2, zA G c2 16 tc2, zA G c3 16 lc2]) (W2 := [(o, .inr (5, [.int (nI V), .long sd, .ref e, .ref cp, .ref bw, .ref ds, .ref hs, .ref sl, .ref sf, .ref tx, .ref ob])), (e, .inr (1, [.ref a1, .ref a2, .ref a3, .int (nI k)])), zA G a1 16 s, zA G a2 16 t, zA G a3 16 lb, (cp, .inr (1, [.ref c1, .ref c2, .ref c3, .int (nI (zCt p k))])), zA G c1 16 (zSel p sc2 s k), zA G c2 16 (zSel p tc2 t k), zA G c3 16 (zSel p lc2 lb k)]) (wr := [(o, .inr (5, [.int (nI V), .long sd, .ref e, .ref cp, .ref bw, .ref ds, .ref hs, .ref sl, .ref sf, .ref tx, .ref ob]))]) (rest := []) SM (c_X2_takeSome l G cp c1 c2 c3 16 sc2 tc2 lc2 kc2 e a1 a2 a3 16 s t lb k p (by first | assumption | omega) (by first | assumption | omega) (by first | assumption | omega) (by first | assumption | omega) (by first | assumption | omega) (by first | assumption | omega)) (cwV 2 hts gX8_reliability_X2_takeSome rfl rfl rfl (by decide +kernel) ⟨Nat.le_of_ble_eq_true rfl, Nat.le_of_ble_eq_true rfl⟩) hK hE hA hP hD hS hl.1 [5, 6, 7, 8, 1, 2, 3, 4] [0] [0, 5, 6, 7, 8, 1, 2, 3, 4] rfl rfl rfl (by decide) (ci := 1) rfl rfl rfl rfl rfl (Nat.le_of_ble_eq_true rfl) ⟨Nat.zero_le _, Nat.zero_le _⟩ dX8_reliability_80 (fun H locs hP hD hS => ?_)
                  have hct2 := zCt_le p k
                  refine lv_aload_n hx hb dX8_reliability_83 rfl (lv_at hl 0 rfl) ?_
                  refine va_get (D := G.1) (ci := 5) (v := .ref cp) (C := RX8) (T := TX8) (N := 11) hx hb hts hinX8 hown hK hP 0 rfl rfl 3 (by decide) hlk26 (fun _ h9 => h9) rfl dX8_reliability_84 ?_
                  refine lv_aload_n hx hb dX8_reliability_87 rfl (lv_at hl 0 rfl) ?_
                  refine va_get (D := G.1) (ci := 5) (v := .int (nI V)) (C := RX8) (T := TX8) (N := 11) hx hb hts hinX8 hown hK hP 0 rfl rfl 0 (by decide) hlk9 (fun _ h9 => h9) rfl dX8_reliability_88 ?_
                  refine zSl (W1 := [(o, .inr (5, [.int (nI V), .long sd, .ref e, .ref cp, .ref bw, .ref ds, .ref hs, .ref sl, .ref sf, .ref tx, .ref ob])), (e, .inr (1, [.ref a1, .ref a2, .ref a3, .int (nI k)])), zA G a1 16 s, zA G a2 16 t, zA G a3 16 lb, (cp, .inr (1, [.ref c1, .ref c2, .ref c3, .int (nI (zCt p k))])), zA G c1 16 (zSel p sc2 s k), zA G c2 16 (zSel p tc2 t k), zA G c3 16 (zSel p lc2 lb k)]) (W2 := [(o, .inr (5, [.int (nI V), .long sd, .ref e, .ref cp, .ref bw, .ref ds, .ref hs, .ref sl, .ref sf, .ref tx, .ref ob])), (e, .inr (1, [.ref a1, .ref a2, .ref a3, .int (nI k)])), zA G a1 16 s, zA G a2 16 t, zA G a3 16 lb, (cp, .inr (1, [.ref c1, .ref c2, .ref c3, .int (nI (zCt p k))])), zA G c1 16 (zSel p sc2 s k), zA G c2 16 (zSel p tc2 t k), zA G c3 16 (zSel p lc2 lb k)]) (wr := [(o, .inr (5, [.int (nI V), .long sd, .ref e, .ref cp, .ref bw, .ref ds, .ref hs, .ref sl, .ref sf, .ref tx, .ref ob])), (e, .inr (1, [.ref a1, .ref a2, .ref a3, .int (nI k)])), zA G a1 16 s, zA G a2 16 t, zA G a3 16 lb]) (rest := []) SM (c_X6_ofBalancedPaths l G cp c1 c2 c3 16 (zSel p sc2 s k) (zSel p tc2 t k) (zSel p lc2 lb k) (zCt p k) V (by first | assumption | omega) (by omega) (by first | assumption | omega) (zSel_lt g1 hbs _) (zSel_lt g2 hbt _) (zSel_lt g3 hlb _)) (va_cwS 2 hts gX8_reliability_X6_ofBalancedPaths rfl rfl rfl (by decide +kernel) ⟨Nat.le_of_ble_eq_true rfl, Nat.le_of_ble_eq_true rfl⟩) hK hE hA hP hD hS hl.1 [5, 6, 7, 8] [0, 1, 2, 3, 4] [0, 1, 2, 3, 4, 5, 6, 7, 8] rfl rfl rfl (by decide) rfl rfl (Nat.le_of_ble_eq_true rfl) ⟨Nat.zero_le _, Nat.zero_le _⟩ dX8_reliability_91 (fun H locs hP hD hS => ?_)
                  refine ztl (y := lN (zWoR s t lb k V p)) (congrArg lN (zWo_eq s t lb sc2 tc2 lc2 k V p)) ?_
                  have hbl : zWoR s t lb k V p < 18446744073709551616 := zBp_lt (zSel_lt (fun i => (show 0 < 8 by decide)) hbs _) hV
                  refine lv_iload_n hx hb dX8_reliability_94 rfl (lv_at hl 1 rfl) ?_
                  refine lv_iload_n hx hb dX8_reliability_95 rfl (lv_at hl 2 rfl) ?_
                  refine zSi (W1 := [(o, .inr (5, [.int (nI V), .long sd, .ref e, .ref cp, .ref bw, .ref ds, .ref hs, .ref sl, .ref sf, .ref tx, .ref ob])), (e, .inr (1, [.ref a1, .ref a2, .ref a3, .int (nI k)])), zA G a1 16 s, zA G a2 16 t, zA G a3 16 lb, (cp, .inr (1, [.ref c1, .ref c2, .ref c3, .int (nI (zCt p k))])), zA G c1 16 (zSel p sc2 s k), zA G c2 16 (zSel p tc2 t k), zA G c3 16 (zSel p lc2 lb k)]) (W2 := [(o, .inr (5, [.int (nI V), .long sd, .ref e, .ref cp, .ref bw, .ref ds, .ref hs, .ref sl, .ref sf, .ref tx, .ref ob])), (e, .inr (1, [.ref a1, .ref a2, .ref a3, .int (nI k)])), zA G a1 16 s, zA G a2 16 t, zA G a3 16 lb, (cp, .inr (1, [.ref c1, .ref c2, .ref c3, .int (nI (zCt p k))])), zA G c1 16 (zSel p sc2 s k), zA G c2 16 (zSel p tc2 t k), zA G c3 16 (zSel p lc2 lb k)]) (wr := [(o, .inr (5, [.int (nI V), .long sd, .ref e, .ref cp, .ref bw, .ref ds, .ref hs, .ref sl, .ref sf, .ref tx, .ref ob])), (e, .inr (1, [.ref a1, .ref a2, .ref a3, .int (nI k)])), zA G a1 16 s, zA G a2 16 t, zA G a3 16 lb, (cp, .inr (1, [.ref c1, .ref c2, .ref c3, .int (nI (zCt p k))])), zA G c1 16 (zSel p sc2 s k), zA G c2 16 (zSel p tc2 t k), zA G c3 16 (zSel p lc2 lb k)]) (rest := []) SM (c_X6_has l G (zWoR s t lb k V p) x.toInt.toNat y.toInt.toNat (by first | assumption | omega) (by first | assumption | omega) (by first | assumption | omega)) (va_cwS 3 hts gX8_reliability_X6_has rfl rfl rfl (by decide +kernel) ⟨Nat.le_of_ble_eq_true rfl, Nat.le_of_ble_eq_true rfl⟩) hK hE hA hP hD hS hl.1 [] [0, 1, 2, 3, 4, 5, 6, 7, 8] [0, 1, 2, 3, 4, 5, 6, 7, 8] rfl rfl rfl (by decide) rfl rfl (Nat.le_of_ble_eq_true rfl) ⟨Nat.zero_le _, Nat.zero_le _⟩ dX8_reliability_96 (fun H locs hP hD hS => ?_)
                  refine zb_eq (tgt := 145) hx hb dX8_reliability_99 (by decide) (fun c_7 => ?_) (fun c_7 => ?_)
                  · skip
                    refine lv_iinc (v := nI (p + 1)) (lv' := [(6, .int (nI (p + 1))), (0, .ref o), (1, .int (nI x.toInt.toNat)), (2, .int (nI y.toInt.toNat)), (3, .int (nI z.toInt.toNat)), (4, .int (nI (2 ^ k))), (5, .int (nI a))]) hx hb dX8_reliability_145 hl (k := 6) rfl (zinc p 1) (by decide) rfl (fun ls hl => ?_)
                    refine lv_goto (tgt := 63) hx hb dX8_reliability_148 (by decide) ?_
                    exact ih63 (p + 1) a (zSel p sc2 s k) (zSel p tc2 t k) (zSel p lc2 lb k) (zCt p k) (by first | assumption | omega) (by rw [zIt_s, ← hq]; unfold zReF; first | rw [if_pos (by assumption)] | rw [if_neg (by assumption)]) (zSel_lt g1 hbs _) (zSel_lt g2 hbt _) (zSel_lt g3 hlb _) (by omega) (by omega) _ _ _ hP hD hS (lv_sub hl [1, 2, 3, 4, 5, 6, 0] rfl)
                  · skip
                    refine lv_aload_n hx hb dX8_reliability_102 rfl (lv_at hl 0 rfl) ?_
                    refine va_get (D := G.1) (ci := 5) (v := .ref e) (C := RX8) (T := TX8) (N := 11) hx hb hts hinX8 hown hK hP 0 rfl rfl 2 (by decide) hlk22 (fun _ h9 => h9) rfl dX8_reliability_103 ?_
                    refine va_get (D := G.1) (ci := 1) (v := .int (nI k)) (C := RX2) (T := TX2) (N := 4) hx hb hts hinX2 hown hK hP 1 rfl rfl 3 (by decide) hlk92 (fun _ h9 => h9) rfl dX8_reliability_106 ?_
                    refine lv_aload_n hx hb dX8_reliability_109 rfl (lv_at hl 0 rfl) ?_
                    refine va_get (D := G.1) (ci := 5) (v := .ref cp) (C := RX8) (T := TX8) (N := 11) hx hb hts hinX8 hown hK hP 0 rfl rfl 3 (by decide) hlk26 (fun _ h9 => h9) rfl dX8_reliability_110 ?_
                    refine va_get (D := G.1) (ci := 1) (v := .int (nI (zCt p k))) (C := RX2) (T := TX2) (N := 4) hx hb hts hinX2 hown hK hP 5 rfl rfl 3 (by decide) hlk92 (fun _ h9 => h9) rfl dX8_reliability_113 ?_
                    refine zi_sub hx hb dX8_reliability_116 (by omega) ?_
                    refine lv_istore (lv' := [(7, .int (nI (k - (zCt p k)))), (0, .ref o), (1, .int (nI x.toInt.toNat)), (2, .int (nI y.toInt.toNat)), (3, .int (nI z.toInt.toNat)), (4, .int (nI (2 ^ k))), (5, .int (nI a)), (6, .int (nI p))]) hx hb dX8_reliability_117 hl (by decide) rfl (fun ls hl => ?_)
                    refine lv_iload hx hb dX8_reliability_119 (lv_at hl 6 rfl) ?_
                    refine lv_bipush (v := nI 10) hx hb dX8_reliability_121 (by decide) ?_
                    refine lv_iload_n hx hb dX8_reliability_123 rfl (lv_at hl 4 rfl) ?_
                    refine zi_sub hx hb dX8_reliability_124 (by omega) ?_
                    refine lv_aload_n hx hb dX8_reliability_125 rfl (lv_at hl 1 rfl) ?_
                    refine va_get (D := G.1) (ci := 5) (v := .ref cp) (C := RX8) (T := TX8) (N := 11) hx hb hts hinX8 hown hK hP 0 rfl rfl 3 (by decide) hlk26 (fun _ h9 => h9) rfl dX8_reliability_126 ?_
                    refine va_get (D := G.1) (ci := 1) (v := .int (nI (zCt p k))) (C := RX2) (T := TX2) (N := 4) hx hb hts hinX2 hown hK hP 5 rfl rfl 3 (by decide) hlk92 (fun _ h9 => h9) rfl dX8_reliability_129 ?_
                    refine zSi (W1 := [(o, .inr (5, [.int (nI V), .long sd, .ref e, .ref cp, .ref bw, .ref ds, .ref hs, .ref sl, .ref sf, .ref tx, .ref ob])), (e, .inr (1, [.ref a1, .ref a2, .ref a3, .int (nI k)])), zA G a1 16 s, zA G a2 16 t, zA G a3 16 lb, (cp, .inr (1, [.ref c1, .ref c2, .ref c3, .int (nI (zCt p k))])), zA G c1 16 (zSel p sc2 s k), zA G c2 16 (zSel p tc2 t k), zA G c3 16 (zSel p lc2 lb k)]) (W2 := [(o, .inr (5, [.int (nI V), .long sd, .ref e, .ref cp, .ref bw, .ref ds, .ref hs, .ref sl, .ref sf, .ref tx, .ref ob])), (e, .inr (1, [.ref a1, .ref a2, .ref a3, .int (nI k)])), zA G a1 16 s, zA G a2 16 t, zA G a3 16 lb, (cp, .inr (1, [.ref c1, .ref c2, .ref c3, .int (nI (zCt p k))])), zA G c1 16 (zSel p sc2 s k), zA G c2 16 (zSel p tc2 t k), zA G c3 16 (zSel p lc2 lb k)]) (wr := [(o, .inr (5, [.int (nI V), .long sd, .ref e, .ref cp, .ref bw, .ref ds, .ref hs, .ref sl, .ref sf, .ref tx, .ref ob])), (e, .inr (1, [.ref a1, .ref a2, .ref a3, .int (nI k)])), zA G a1 16 s, zA G a2 16 t, zA G a3 16 lb, (cp, .inr (1, [.ref c1, .ref c2, .ref c3, .int (nI (zCt p k))])), zA G c1 16 (zSel p sc2 s k), zA G c2 16 (zSel p tc2 t k), zA G c3 16 (zSel p lc2 lb k)]) (rest := [.int (nI a)]) SM (c_X0_power l G (10 - z.toInt.toNat) (zCt p k) (by first | assumption | omega)) (va_cwS 2 hts gX8_reliability_X0_power rfl rfl rfl (by decide +kernel) ⟨Nat.le_of_ble_eq_true rfl, Nat.le_of_ble_eq_true rfl⟩) hK hE hA hP hD hS hl.1 [] [0, 1, 2, 3, 4, 5, 6, 7, 8] [0, 1, 2, 3, 4, 5, 6, 7, 8] rfl rfl rfl (by decide) rfl rfl (Nat.le_of_ble_eq_true rfl) ⟨Nat.zero_le _, Nat.zero_le _⟩ dX8_reliability_132 (fun H locs hP hD hS => ?_)
                    refine lv_iload_n hx hb dX8_reliability_135 rfl (lv_at hl 4 rfl) ?_
                    refine lv_iload hx hb dX8_reliability_136 (lv_at hl 0 rfl) ?_
                    refine zSi (W1 := [(o, .inr (5, [.int (nI V), .long sd, .ref e, .ref cp, .ref bw, .ref ds, .ref hs, .ref sl, .ref sf, .ref tx, .ref ob])), (e, .inr (1, [.ref a1, .ref a2, .ref a3, .int (nI k)])), zA G a1 16 s, zA G a2 16 t, zA G a3 16 lb, (cp, .inr (1, [.ref c1, .ref c2, .ref c3, .int (nI (zCt p k))])), zA G c1 16 (zSel p sc2 s k), zA G c2 16 (zSel p tc2 t k), zA G c3 16 (zSel p lc2 lb k)]) (W2 := [(o, .inr (5, [.int (nI V), .long sd, .ref e, .ref cp, .ref bw, .ref ds, .ref hs, .ref sl, .ref sf, .ref tx, .ref ob])), (e, .inr (1, [.ref a1, .ref a2, .ref a3, .int (nI k)])), zA G a1 16 s, zA G a2 16 t, zA G a3 16 lb, (cp, .inr (1, [.ref c1, .ref c2, .ref c3, .int (nI (zCt p k))])), zA G c1 16 (zSel p sc2 s k), zA G c2 16 (zSel p tc2 t k), zA G c3 16 (zSel p lc2 lb k)]) (wr := [(o, .inr (5, [.int (nI V), .long sd, .ref e, .ref cp, .ref bw, .ref ds, .ref hs, .ref sl, .ref sf, .ref tx, .ref ob])), (e, .inr (1, [.ref a1, .ref a2, .ref a3, .int (nI k)])), zA G a1 16 s, zA G a2 16 t, zA G a3 16 lb, (cp, .inr (1, [.ref c1, .ref c2, .ref c3, .int (nI (zCt p k))])), zA G c1 16 (zSel p sc2 s k), zA G c2 16 (zSel p tc2 t k), zA G c3 16 (zSel p lc2 lb k)]) (rest := [.int (nI ((10 - z.toInt.toNat) ^ (zCt p k))), .int (nI a)]) SM (c_X0_power l G z.toInt.toNat (k - (zCt p k)) (by first | assumption | omega)) (va_cwS 2 hts gX8_reliability_X0_power rfl rfl rfl (by decide +kernel) ⟨Nat.le_of_ble_eq_true rfl, Nat.le_of_ble_eq_true rfl⟩) hK hE hA hP hD hS hl.1 [] [0, 1, 2, 3, 4, 5, 6, 7, 8] [0, 1, 2, 3, 4, 5, 6, 7, 8] rfl rfl rfl (by decide) rfl rfl (Nat.le_of_ble_eq_true rfl) ⟨Nat.zero_le _, Nat.zero_le _⟩ dX8_reliability_138 (fun H locs hP hD hS => ?_)
                    refine zi_mul hx hb dX8_reliability_141 ?_
                    refine zi_add hx hb dX8_reliability_142 ?_
                    refine lv_istore (lv' := [(5, .int (nI (a + (((10 - z.toInt.toNat) ^ (zCt p k)) * (z.toInt.toNat ^ (k - (zCt p k))))))), (7, .int (nI (k - (zCt p k)))), (0, .ref o), (1, .int (nI x.toInt.toNat)), (2, .int (nI y.toInt.toNat)), (3, .int (nI z.toInt.toNat)), (4, .int (nI (2 ^ k))), (6, .int (nI p))]) hx hb dX8_reliability_143 hl (by decide) rfl (fun ls hl => ?_)
                    refine lv_iinc (v := nI (p + 1)) (lv' := [(6, .int (nI (p + 1))), (5, .int (nI (a + (((10 - z.toInt.toNat) ^ (zCt p k)) * (z.toInt.toNat ^ (k - (zCt p k))))))), (7, .int (nI (k - (zCt p k)))), (0, .ref o), (1, .int (nI x.toInt.toNat)), (2, .int (nI y.toInt.toNat)), (3, .int (nI z.toInt.toNat)), (4, .int (nI (2 ^ k)))]) hx hb dX8_reliability_145 hl (k := 7) rfl (zinc p 1) (by decide) rfl (fun ls hl => ?_)
                    refine lv_goto (tgt := 63) hx hb dX8_reliability_148 (by decide) ?_
                    exact ih63 (p + 1) (a + (((10 - z.toInt.toNat) ^ (zCt p k)) * (z.toInt.toNat ^ (k - (zCt p k))))) (zSel p sc2 s k) (zSel p tc2 t k) (zSel p lc2 lb k) (zCt p k) (by first | assumption | omega) (by rw [zIt_s, ← hq]; unfold zReF; first | rw [if_pos (by assumption)] | rw [if_neg (by assumption)]) (zSel_lt g1 hbs _) (zSel_lt g2 hbt _) (zSel_lt g3 hlb _) (by omega) (by omega) _ _ _ hP hD hS (lv_sub hl [3, 4, 5, 6, 7, 1, 0] rfl)
            exact lp63 (2 ^ k - 0 + 1) 0 0 sc tc lc kc (Nat.zero_le _) rfl (by first | assumption | omega) (by first | assumption | omega) (by first | assumption | omega) (by first | assumption | omega) (Nat.lt_succ_self _) _ _ _ hP hD hS (lv_sub hl [3, 4, 5, 6, 2, 1, 0] rfl)
          · skip
            exfalso; omega
        · skip
          exfalso; omega
    · skip
      exfalso; omega
set_option maxHeartbeats 4000000 in
set_option maxRecDepth 100000 in
theorem c_X8_setSeed (l : Launch) (G : zG) (o e cp bw ds hs sl sf tx ob V : Nat) (sd : Int64) (v : Int64)  : ML l yX8_setSeed wsX8_setSeed ({ frames := 0, cells := 0, slots := 0, locals := 0 }) G [.ref o, .long v] [(o, .inr (5, [.int (nI V), .long sd, .ref e, .ref cp, .ref bw, .ref ds, .ref hs, .ref sl, .ref sf, .ref tx, .ref ob]))] sd [(o, .inr (5, [.int (nI V), .long v, .ref e, .ref cp, .ref bw, .ref ds, .ref hs, .ref sl, .ref sf, .ref tx, .ref ob]))] := by
  refine ML.enter (cc := cX8_setSeed) (maxL := 5) (by decide) rfl (Nat.le_of_ble_eq_true rfl) ?_
  intro pM eM sM mM bM tM cM QM AM ls hat kret
  obtain ⟨SM, hA, hK, hE, hP, hD, hS, hl⟩ := hat
  have hx := SM.1
  have hb := SM.2.1
  have hown : sM.vm.findClass RX8 = some mM.cls := SM.2.2.2.1
  have hts := SM.2.2.2.2
  have hinX8 : ∀ w ∈ u_ws RX8 TX8 11, w ∈ wsX8_setSeed := by decide +kernel
  have hlk13 : (Cond.fieldLink RX8 13 "DyckReachability" "seed" "J").before _ sM = true := hts _ (by decide +kernel)
  have hl : lv_has ls 5 [(0, .ref o), (1, .long v)] := hl
  refine lv_aload_n hx hb dX8_setSeed_0 rfl (lv_at hl 0 rfl) ?_
  refine va_get (D := G.1) (ci := 5) (v := .long sd) (C := RX8) (T := TX8) (N := 11) hx hb hts hinX8 hown hK hP 0 rfl rfl 1 (by decide) hlk13 (fun _ h9 => h9) rfl dX8_setSeed_1 ?_
  refine lv_lstore_n (lv' := [(3, .long sd), (0, .ref o), (1, .long v)]) hx hb dX8_setSeed_4 rfl hl (by decide) rfl (fun ls hl => ?_)
  refine lv_aload_n hx hb dX8_setSeed_5 rfl (lv_at hl 1 rfl) ?_
  refine lv_lload_n hx hb dX8_setSeed_6 rfl (lv_at hl 2 rfl) ?_
  refine va_put (D := G.1) (ci := 5) (v := .long v) (ty := .long) (C := RX8) (T := TX8) (N := 11) hx hb hts hinX8 tyX8 tyX8_ok nmX8 hown hK hP hD hS 0 rfl rfl 1 (by decide) hlk13 (fun _ h9 => h9) rfl (by decide +kernel) rfl rfl (Nat.le_of_ble_eq_true rfl) dX8_setSeed_7 (fun H locs hP hD hS => ?_)
  have hP : va_P G.1 vwCl [(o, .inr (5, [.int (nI V), .long v, .ref e, .ref cp, .ref bw, .ref ds, .ref hs, .ref sl, .ref sf, .ref tx, .ref ob]))] H := hP
  have hD : va_D AM [(o, .inr (5, [.int (nI V), .long v, .ref e, .ref cp, .ref bw, .ref ds, .ref hs, .ref sl, .ref sf, .ref tx, .ref ob]))] := hD
  refine lv_lload_n hx hb dX8_setSeed_10 rfl (lv_at hl 0 rfl) ?_
  exact kret _ _ _ _ _ _ rfl rfl hP hD hS dX8_setSeed_11
set_option maxHeartbeats 4000000 in
set_option maxRecDepth 100000 in
theorem c_X8_simulate_bad (l : Launch) (G : zG) (o e cp bw ds hs sl sf tx ob V : Nat) (sd : Int64) (x : Int32) (hb0 : ¬ (1 ≤ x.toInt ∧ x.toInt ≤ 40)) : MI l yX8_simulate wsX8_simulate ({ frames := 0, cells := 0, slots := 0, locals := 0 }) G [.ref o, .int x] [(o, .inr (5, [.int (nI V), .long sd, .ref e, .ref cp, .ref bw, .ref ds, .ref hs, .ref sl, .ref sf, .ref tx, .ref ob]))] (-2) [(o, .inr (5, [.int (nI V), .long sd, .ref e, .ref cp, .ref bw, .ref ds, .ref hs, .ref sl, .ref sf, .ref tx, .ref ob]))] := by
  refine MI.enter (cc := cX8_simulate) (maxL := 4) (by decide) rfl (Nat.le_of_ble_eq_true rfl) rfl ?_
  intro pM eM sM mM bM tM cM QM AM ls hat kret
  obtain ⟨SM, hA, hK, hE, hP, hD, hS, hl⟩ := hat
  have hx := SM.1
  have hb := SM.2.1
  have hown : sM.vm.findClass RX8 = some mM.cls := SM.2.2.2.1
  have hts := SM.2.2.2.2
  have hl : lv_has ls 4 [(0, .ref o), (1, .int x)] := hl
  refine lv_iload_n hx hb dX8_simulate_0 rfl (lv_at hl 1 rfl) ?_
  refine lv_iconst (v := nI 1) hx hb dX8_simulate_1 (by decide) ?_
  refine zc_lt (a := (x).toInt) (b := (1 : Nat)) (tgt := 11) hx hb dX8_simulate_2 (by decide) rfl (zI (by omega)) (fun c_1 => ?_) (fun c_1 => ?_)
  · skip
    refine lv_bipush (v := (-2)) hx hb dX8_simulate_11 (by decide) ?_
    exact kret _ _ _ _ _ _ rfl rfl hP hD hS dX8_simulate_13
  · skip
    refine lv_iload_n hx hb dX8_simulate_5 rfl (lv_at hl 1 rfl) ?_
    refine lv_bipush (v := nI 40) hx hb dX8_simulate_6 (by decide) ?_
    refine zc_le (a := (x).toInt) (b := (40 : Nat)) (tgt := 14) hx hb dX8_simulate_8 (by decide) rfl (zI (by omega)) (fun c_2 => ?_) (fun c_2 => ?_)
    · skip
      exfalso; omega
    · skip
      refine lv_bipush (v := (-2)) hx hb dX8_simulate_11 (by decide) ?_
      exact kret _ _ _ _ _ _ rfl rfl hP hD hS dX8_simulate_13
set_option maxHeartbeats 4000000 in
set_option maxRecDepth 100000 in
theorem c_X8_simulate_ok (l : Launch) (G : zG) (o e cp bw ds hs sl sf tx ob V : Nat) (sd : Int64) (a1 a2 a3 : Nat) (s t lb : Nat → Nat) (k : Nat) (c1 c2 c3 : Nat) (sc tc lc : Nat → Nat) (kc : Nat) (x : Int32) (hV : V ≤ 8) (hV1 : 1 ≤ V) (hx : 1 ≤ x.toInt ∧ x.toInt ≤ 40) (hk : k ≤ 16) (hbs : ∀ i, s i < 8) (hbt : ∀ i, t i < 8) (hlb : ∀ i, lb i < 7) (hkc : kc ≤ 16) (hcs : ∀ i, sc i < 8) (hct : ∀ i, tc i < 8) (hcl : ∀ i, lc i < 7) : MI l yX8_simulate wsX8_simulate ({ frames := 5, cells := 0, slots := 0, locals := 121 }) G [.ref o, .int x] [(o, .inr (5, [.int (nI V), .long sd, .ref e, .ref cp, .ref bw, .ref ds, .ref hs, .ref sl, .ref sf, .ref tx, .ref ob])), (e, .inr (1, [.ref a1, .ref a2, .ref a3, .int (nI k)])), zA G a1 16 s, zA G a2 16 t, zA G a3 16 lb, (cp, .inr (1, [.ref c1, .ref c2, .ref c3, .int (nI kc)])), zA G c1 16 sc, zA G c2 16 tc, zA G c3 16 lc] (nI ((zIt (zSmF V) (x.toInt.toNat) ((zTk sc s k, zTk tc t k, zTk lc lb k, k), sd, 0)).2.2)) [(o, .inr (5, [.int (nI V), .long ((zIt (zSmF V) (x.toInt.toNat) ((zTk sc s k, zTk tc t k, zTk lc lb k, k), sd, 0)).2.1), .ref e, .ref cp, .ref bw, .ref ds, .ref hs, .ref sl, .ref sf, .ref tx, .ref ob])), (e, .inr (1, [.ref a1, .ref a2, .ref a3, .int (nI k)])), zA G a1 16 s, zA G a2 16 t, zA G a3 16 lb, (cp, .inr (1, [.ref c1, .ref c2, .ref c3, .int (nI (((zIt (zSmF V) (x.toInt.toNat) ((zTk sc s k, zTk tc t k, zTk lc lb k, k), sd, 0)).1).2.2.2))])), zA G c1 16 (((zIt (zSmF V) (x.toInt.toNat) ((zTk sc s k, zTk tc t k, zTk lc lb k, k), sd, 0)).1).1), zA G c2 16 (((zIt (zSmF V) (x.toInt.toNat) ((zTk sc s k, zTk tc t k, zTk lc lb k, k), sd, 0)).1).2.1), zA G c3 16 (((zIt (zSmF V) (x.toInt.toNat) ((zTk sc s k, zTk tc t k, zTk lc lb k, k), sd, 0)).1).2.2.1)] := by
  refine MI.enter (cc := cX8_simulate) (maxL := 4) (by decide) rfl (Nat.le_of_ble_eq_true rfl) rfl ?_
  intro pM eM sM mM bM tM cM QM AM ls hat kret
  obtain ⟨SM, hA, hK, hE, hP, hD, hS, hl⟩ := hat
  have hx := SM.1
  have hb := SM.2.1
  have hown : sM.vm.findClass RX8 = some mM.cls := SM.2.2.2.1
  have hts := SM.2.2.2.2
  have hinX8 : ∀ w ∈ u_ws RX8 TX8 11, w ∈ wsX8_simulate := by decide +kernel
  have hlk26 : (Cond.fieldLink RX8 26 "DyckReachability" "copy" "LDyckReachability$Edges;").before _ sM = true := hts _ (by decide +kernel)
  have hlk22 : (Cond.fieldLink RX8 22 "DyckReachability" "edges" "LDyckReachability$Edges;").before _ sM = true := hts _ (by decide +kernel)
  have hlk13 : (Cond.fieldLink RX8 13 "DyckReachability" "seed" "J").before _ sM = true := hts _ (by decide +kernel)
  have hlk9 : (Cond.fieldLink RX8 9 "DyckReachability" "vertices" "I").before _ sM = true := hts _ (by decide +kernel)
  have hl : lv_has ls 4 [(0, .ref o), (1, .int x)] := hl
  refine lv_iload_n hx hb dX8_simulate_0 rfl (lv_at hl 1 rfl) ?_
  refine lv_iconst (v := nI 1) hx hb dX8_simulate_1 (by decide) ?_
  refine zc_lt (a := (x).toInt) (b := (1 : Nat)) (tgt := 11) hx hb dX8_simulate_2 (by decide) rfl (zI (by omega)) (fun c_1 => ?_) (fun c_1 => ?_)
  · skip
    exfalso; omega
  · skip
    refine lv_iload_n hx hb dX8_simulate_5 rfl (lv_at hl 1 rfl) ?_
    refine lv_bipush (v := nI 40) hx hb dX8_simulate_6 (by decide) ?_
    refine zc_le (a := (x).toInt) (b := (40 : Nat)) (tgt := 14) hx hb dX8_simulate_8 (by decide) rfl (zI (by omega)) (fun c_2 => ?_) (fun c_2 => ?_)
    · skip
      have hl : lv_has ls 4 [(0, .ref o), (1, .int (nI x.toInt.toNat))] := by rw [← xN_eq (x := x) (by omega)]; exact hl
      refine lv_aload_n hx hb dX8_simulate_14 rfl (lv_at hl 0 rfl) ?_
      refine va_get (D := G.1) (ci := 5) (v := .ref cp) (C := RX8) (T := TX8) (N := 11) hx hb hts hinX8 hown hK hP 0 rfl rfl 3 (by decide) hlk26 (fun _ h9 => h9) rfl dX8_simulate_15 ?_
      refine lv_aload_n hx hb dX8_simulate_18 rfl (lv_at hl 0 rfl) ?_
      refine va_get (D := G.1) (ci := 5) (v := .ref e) (C := RX8) (T := TX8) (N := 11) hx hb hts hinX8 hown hK hP 0 rfl rfl 2 (by decide) hlk22 (fun _ h9 => h9) rfl dX8_simulate_19 ?_
      refine zVv (W1 := [(o, .inr (5, [.int (nI V), .long sd, .ref e, .ref cp, .ref bw, .ref ds, .ref hs, .ref sl, .ref sf, .ref tx, .ref ob])), (e, .inr (1, [.ref a1, .ref a2, .ref a3, .int (nI k)])), zA G a1 16 s, zA G a2 16 t, zA G a3 16 lb, (cp, .inr (1, [.ref c1, .ref c2, .ref c3, .int (nI kc)])), zA G c1 16 sc, zA G c2 16 tc, zA G c3 16 lc]) (W2 := [(o, .inr (5, [.int (nI V), .long sd, .ref e, .ref cp, .ref bw, .ref ds, .ref hs, .ref sl, .ref sf, .ref tx, .ref ob])), (e, .inr (1, [.ref a1, .ref a2, .ref a3, .int (nI k)])), zA G a1 16 s, zA G a2 16 t, zA G a3 16 lb, (cp, .inr (1, [.ref c1, .ref c2, .ref c3, .int (nI k)])), zA G c1 16 (zTk sc s k), zA G c2 16 (zTk tc t k), zA G c3 16 (zTk lc lb k)]) (wr := [(o, .inr (5, [.int (nI V), .long sd, .ref e, .ref cp, .ref bw, .ref ds, .ref hs, .ref sl, .ref sf, .ref tx, .ref ob]))]) (rest := []) SM (c_X2_take l G cp c1 c2 c3 16 sc tc lc kc e a1 a2 a3 16 s t lb k (by first | assumption | omega) (by first | assumption | omega) (by first | assumption | omega) (by first | assumption | omega)) (cwV 1 hts gX8_simulate_X2_take rfl rfl rfl (by decide +kernel) ⟨Nat.le_of_ble_eq_true rfl, Nat.le_of_ble_eq_true rfl⟩) hK hE hA hP hD hS hl.1 [5, 6, 7, 8, 1, 2, 3, 4] [0] [0, 5, 6, 7, 8, 1, 2, 3, 4] rfl rfl rfl (by decide) (ci := 1) rfl rfl rfl rfl rfl (Nat.le_of_ble_eq_true rfl) ⟨Nat.zero_le _, Nat.zero_le _⟩ dX8_simulate_22 (fun H locs hP hD hS => ?_)
      refine lv_iconst (v := nI 0) hx hb dX8_simulate_25 (by decide) ?_
      refine lv_istore_n (lv' := [(2, .int (nI 0)), (0, .ref o), (1, .int (nI x.toInt.toNat))]) hx hb dX8_simulate_26 rfl hl (by decide) rfl (fun ls hl => ?_)
      refine lv_iconst (v := nI 0) hx hb dX8_simulate_27 (by decide) ?_
      refine lv_istore_n (lv' := [(3, .int (nI 0)), (2, .int (nI 0)), (0, .ref o), (1, .int (nI x.toInt.toNat))]) hx hb dX8_simulate_28 rfl hl (by decide) rfl (fun ls hl => ?_)
      have lp29 : ∀ (n9 : Nat), ∀ (i a : Nat) (sd2 : Int64) (sc2 tc2 lc2 : Nat → Nat) (kc2 : Nat), (i ≤ x.toInt.toNat) → (((sc2, tc2, lc2, kc2), sd2, a) = zIt (zSmF V) i ((zTk sc s k, zTk tc t k, zTk lc lb k, k), sd, 0)) → (∀ i, sc2 i < 8) → (∀ i, tc2 i < 8) → (∀ i, lc2 i < 7) → (kc2 ≤ 16) → (x.toInt.toNat - i) < n9 → ∀ (H : Heap) (locs : List Loc) (ls : Array Slot), va_P G.1 vwCl [(o, .inr (5, [.int (nI V), .long sd2, .ref e, .ref cp, .ref bw, .ref ds, .ref hs, .ref sl, .ref sf, .ref tx, .ref ob])), (e, .inr (1, [.ref a1, .ref a2, .ref a3, .int (nI k)])), zA G a1 16 s, zA G a2 16 t, zA G a3 16 lb, (cp, .inr (1, [.ref c1, .ref c2, .ref c3, .int (nI kc2)])), zA G c1 16 sc2, zA G c2 16 tc2, zA G c3 16 lc2] H → va_D AM [(o, .inr (5, [.int (nI V), .long sd2, .ref e, .ref cp, .ref bw, .ref ds, .ref hs, .ref sl, .ref sf, .ref tx, .ref ob])), (e, .inr (1, [.ref a1, .ref a2, .ref a3, .int (nI k)])), zA G a1 16 s, zA G a2 16 t, zA G a3 16 lb, (cp, .inr (1, [.ref c1, .ref c2, .ref c3, .int (nI kc2)])), zA G c1 16 sc2, zA G c2 16 tc2, zA G c3 16 lc2] → va_S AM sM.heap H locs → lv_has ls 4 [(0, .ref o), (1, .int (nI x.toInt.toNat)), (2, .int (nI a)), (3, .int (nI i))] → W pM l eM ({ frames := 5, cells := 0, slots := 0, locals := 121 }) sM mM (([.ref o, .int x] : List Value).toArray) bM tM cM H locs 0 0 QM (F0 mM 29 ls []) := by
        intro n9
        induction n9 with
        | zero =>
          intro _ _ _ _ _ _ _ _ _ _ _ _ _ h9
          exact absurd h9 (Nat.not_lt_zero _)
        | succ n9 ih9 =>
          intro i a sd2 sc2 tc2 lc2 kc2 h1 hq g1 g2 g3 g4 hmu29 H locs ls hP hD hS hl
          have ih29 := ih9
          clear ih9
          refine lv_iload_n hx hb dX8_simulate_29 rfl (lv_at hl 3 rfl) ?_
          refine lv_iload_n hx hb dX8_simulate_30 rfl (lv_at hl 1 rfl) ?_
          refine zn_ge (tgt := 81) hx hb dX8_simulate_31 (by decide) (by omega) (by omega) (fun c_3 => ?_) (fun c_3 => ?_)
          · skip
            refine lv_iload_n hx hb dX8_simulate_81 rfl (lv_at hl 2 rfl) ?_
            exact kret _ _ _ _ _ _ (congrArg nI (by have hq9 : i = x.toInt.toNat := (by omega); subst hq9; rw [← hq])) (by have hq9 : i = x.toInt.toNat := (by omega); subst hq9; rw [← hq]) hP hD hS dX8_simulate_82
          · skip
            refine lv_aload_n hx hb dX8_simulate_34 rfl (lv_at hl 0 rfl) ?_
            refine lv_aload_n hx hb dX8_simulate_35 rfl (lv_at hl 0 rfl) ?_
            refine va_get (D := G.1) (ci := 5) (v := .long sd2) (C := RX8) (T := TX8) (N := 11) hx hb hts hinX8 hown hK hP 0 rfl rfl 1 (by decide) hlk13 (fun _ h9 => h9) rfl dX8_simulate_36 ?_
            refine zSl (W1 := [(o, .inr (5, [.int (nI V), .long sd2, .ref e, .ref cp, .ref bw, .ref ds, .ref hs, .ref sl, .ref sf, .ref tx, .ref ob])), (e, .inr (1, [.ref a1, .ref a2, .ref a3, .int (nI k)])), zA G a1 16 s, zA G a2 16 t, zA G a3 16 lb, (cp, .inr (1, [.ref c1, .ref c2, .ref c3, .int (nI kc2)])), zA G c1 16 sc2, zA G c2 16 tc2, zA G c3 16 lc2]) (W2 := [(o, .inr (5, [.int (nI V), .long sd2, .ref e, .ref cp, .ref bw, .ref ds, .ref hs, .ref sl, .ref sf, .ref tx, .ref ob])), (e, .inr (1, [.ref a1, .ref a2, .ref a3, .int (nI k)])), zA G a1 16 s, zA G a2 16 t, zA G a3 16 lb, (cp, .inr (1, [.ref c1, .ref c2, .ref c3, .int (nI kc2)])), zA G c1 16 sc2, zA G c2 16 tc2, zA G c3 16 lc2]) (wr := [(o, .inr (5, [.int (nI V), .long sd2, .ref e, .ref cp, .ref bw, .ref ds, .ref hs, .ref sl, .ref sf, .ref tx, .ref ob])), (e, .inr (1, [.ref a1, .ref a2, .ref a3, .int (nI k)])), zA G a1 16 s, zA G a2 16 t, zA G a3 16 lb, (cp, .inr (1, [.ref c1, .ref c2, .ref c3, .int (nI kc2)])), zA G c1 16 sc2, zA G c2 16 tc2, zA G c3 16 lc2]) (rest := [.ref o]) SM (c_X0_nextSeed l G sd2 ) (va_cwS 1 hts gX8_simulate_X0_nextSeed rfl rfl rfl (by decide +kernel) ⟨Nat.le_of_ble_eq_true rfl, Nat.le_of_ble_eq_true rfl⟩) hK hE hA hP hD hS hl.1 [] [0, 1, 2, 3, 4, 5, 6, 7, 8] [0, 1, 2, 3, 4, 5, 6, 7, 8] rfl rfl rfl (by decide) rfl rfl (Nat.le_of_ble_eq_true rfl) ⟨Nat.zero_le _, Nat.zero_le _⟩ dX8_simulate_39 (fun H locs hP hD hS => ?_)
            refine ztl (y := zNs sd2) rfl ?_
            refine va_put (D := G.1) (ci := 5) (v := .long (zNs sd2)) (ty := .long) (C := RX8) (T := TX8) (N := 11) hx hb hts hinX8 tyX8 tyX8_ok nmX8 hown hK hP hD hS 0 rfl rfl 1 (by decide) hlk13 (fun _ h9 => h9) rfl (by decide +kernel) rfl rfl (Nat.le_of_ble_eq_true rfl) dX8_simulate_42 (fun H locs hP hD hS => ?_)
            have hP : va_P G.1 vwCl [(o, .inr (5, [.int (nI V), .long (zNs sd2), .ref e, .ref cp, .ref bw, .ref ds, .ref hs, .ref sl, .ref sf, .ref tx, .ref ob])), (e, .inr (1, [.ref a1, .ref a2, .ref a3, .int (nI k)])), zA G a1 16 s, zA G a2 16 t, zA G a3 16 lb, (cp, .inr (1, [.ref c1, .ref c2, .ref c3, .int (nI kc2)])), zA G c1 16 sc2, zA G c2 16 tc2, zA G c3 16 lc2] H := hP
            have hD : va_D AM [(o, .inr (5, [.int (nI V), .long (zNs sd2), .ref e, .ref cp, .ref bw, .ref ds, .ref hs, .ref sl, .ref sf, .ref tx, .ref ob])), (e, .inr (1, [.ref a1, .ref a2, .ref a3, .int (nI k)])), zA G a1 16 s, zA G a2 16 t, zA G a3 16 lb, (cp, .inr (1, [.ref c1, .ref c2, .ref c3, .int (nI kc2)])), zA G c1 16 sc2, zA G c2 16 tc2, zA G c3 16 lc2] := hD
            refine lv_aload_n hx hb dX8_simulate_45 rfl (lv_at hl 0 rfl) ?_
            refine va_get (D := G.1) (ci := 5) (v := .ref cp) (C := RX8) (T := TX8) (N := 11) hx hb hts hinX8 hown hK hP 0 rfl rfl 3 (by decide) hlk26 (fun _ h9 => h9) rfl dX8_simulate_46 ?_
            refine lv_aload_n hx hb dX8_simulate_49 rfl (lv_at hl 0 rfl) ?_
            refine va_get (D := G.1) (ci := 5) (v := .int (nI V)) (C := RX8) (T := TX8) (N := 11) hx hb hts hinX8 hown hK hP 0 rfl rfl 0 (by decide) hlk9 (fun _ h9 => h9) rfl dX8_simulate_50 ?_
            refine lv_aload_n hx hb dX8_simulate_53 rfl (lv_at hl 0 rfl) ?_
            refine va_get (D := G.1) (ci := 5) (v := .long (zNs sd2)) (C := RX8) (T := TX8) (N := 11) hx hb hts hinX8 hown hK hP 0 rfl rfl 1 (by decide) hlk13 (fun _ h9 => h9) rfl dX8_simulate_54 ?_
            refine lv_bipush (v := nI 33) hx hb dX8_simulate_57 (by decide) ?_
            refine lv_lushr hx hb dX8_simulate_59 rfl ?_
            refine lv_l2i hx hb dX8_simulate_60 rfl ?_
            refine zti (y := nI (zDw (zNs sd2))) (zDw_eq (zNs sd2)) ?_
            have hdl := zDw_lt (zNs sd2)
            have hco := zCh_ok (s := sc2) (t := tc2) (lb := lc2) (k := kc2) (V := V) (d := zDw (zNs sd2)) ⟨g1, g2, g3, g4⟩ hV hV1
            refine zSv (W1 := [(o, .inr (5, [.int (nI V), .long (zNs sd2), .ref e, .ref cp, .ref bw, .ref ds, .ref hs, .ref sl, .ref sf, .ref tx, .ref ob])), (e, .inr (1, [.ref a1, .ref a2, .ref a3, .int (nI k)])), zA G a1 16 s, zA G a2 16 t, zA G a3 16 lb, (cp, .inr (1, [.ref c1, .ref c2, .ref c3, .int (nI kc2)])), zA G c1 16 sc2, zA G c2 16 tc2, zA G c3 16 lc2]) (W2 := [(o, .inr (5, [.int (nI V), .long (zNs sd2), .ref e, .ref cp, .ref bw, .ref ds, .ref hs, .ref sl, .ref sf, .ref tx, .ref ob])), (e, .inr (1, [.ref a1, .ref a2, .ref a3, .int (nI k)])), zA G a1 16 s, zA G a2 16 t, zA G a3 16 lb, (cp, .inr (1, [.ref c1, .ref c2, .ref c3, .int (nI ((zCh sc2 tc2 lc2 kc2 V (zDw (zNs sd2))).2.2.2))])), zA G c1 16 ((zCh sc2 tc2 lc2 kc2 V (zDw (zNs sd2))).1), zA G c2 16 ((zCh sc2 tc2 lc2 kc2 V (zDw (zNs sd2))).2.1), zA G c3 16 ((zCh sc2 tc2 lc2 kc2 V (zDw (zNs sd2))).2.2.1)]) (wr := [(o, .inr (5, [.int (nI V), .long (zNs sd2), .ref e, .ref cp, .ref bw, .ref ds, .ref hs, .ref sl, .ref sf, .ref tx, .ref ob])), (e, .inr (1, [.ref a1, .ref a2, .ref a3, .int (nI k)])), zA G a1 16 s, zA G a2 16 t, zA G a3 16 lb]) (rest := []) SM (c_X0_change l G cp c1 c2 c3 sc2 tc2 lc2 kc2 V (zDw (zNs sd2)) (by first | assumption | omega) (by first | assumption | omega) (by first | assumption | omega) (by first | assumption | omega) (by first | assumption | omega) (by first | assumption | omega) (by first | assumption | omega)) (va_cwS 3 hts gX8_simulate_X0_change rfl rfl rfl (by decide +kernel) ⟨Nat.le_of_ble_eq_true rfl, Nat.le_of_ble_eq_true rfl⟩) hK hE hA hP hD hS hl.1 [5, 6, 7, 8] [0, 1, 2, 3, 4] [0, 1, 2, 3, 4, 5, 6, 7, 8] rfl rfl rfl (by decide) rfl rfl (Nat.le_of_ble_eq_true rfl) ⟨Nat.zero_le _, Nat.zero_le _⟩ dX8_simulate_61 (fun H locs hP hD hS => ?_)
            refine lv_iload_n hx hb dX8_simulate_64 rfl (lv_at hl 2 rfl) ?_
            refine lv_aload_n hx hb dX8_simulate_65 rfl (lv_at hl 0 rfl) ?_
            refine lv_aload_n hx hb dX8_simulate_66 rfl (lv_at hl 0 rfl) ?_
            refine va_get (D := G.1) (ci := 5) (v := .ref cp) (C := RX8) (T := TX8) (N := 11) hx hb hts hinX8 hown hK hP 0 rfl rfl 3 (by decide) hlk26 (fun _ h9 => h9) rfl dX8_simulate_67 ?_
            refine zVi (W1 := [(o, .inr (5, [.int (nI V), .long (zNs sd2), .ref e, .ref cp, .ref bw, .ref ds, .ref hs, .ref sl, .ref sf, .ref tx, .ref ob])), (e, .inr (1, [.ref a1, .ref a2, .ref a3, .int (nI k)])), zA G a1 16 s, zA G a2 16 t, zA G a3 16 lb, (cp, .inr (1, [.ref c1, .ref c2, .ref c3, .int (nI ((zCh sc2 tc2 lc2 kc2 V (zDw (zNs sd2))).2.2.2))])), zA G c1 16 ((zCh sc2 tc2 lc2 kc2 V (zDw (zNs sd2))).1), zA G c2 16 ((zCh sc2 tc2 lc2 kc2 V (zDw (zNs sd2))).2.1), zA G c3 16 ((zCh sc2 tc2 lc2 kc2 V (zDw (zNs sd2))).2.2.1)]) (W2 := [(o, .inr (5, [.int (nI V), .long (zNs sd2), .ref e, .ref cp, .ref bw, .ref ds, .ref hs, .ref sl, .ref sf, .ref tx, .ref ob])), (e, .inr (1, [.ref a1, .ref a2, .ref a3, .int (nI k)])), zA G a1 16 s, zA G a2 16 t, zA G a3 16 lb, (cp, .inr (1, [.ref c1, .ref c2, .ref c3, .int (nI ((zCh sc2 tc2 lc2 kc2 V (zDw (zNs sd2))).2.2.2))])), zA G c1 16 ((zCh sc2 tc2 lc2 kc2 V (zDw (zNs sd2))).1), zA G c2 16 ((zCh sc2 tc2 lc2 kc2 V (zDw (zNs sd2))).2.1), zA G c3 16 ((zCh sc2 tc2 lc2 kc2 V (zDw (zNs sd2))).2.2.1)]) (wr := [(e, .inr (1, [.ref a1, .ref a2, .ref a3, .int (nI k)])), zA G a1 16 s, zA G a2 16 t, zA G a3 16 lb]) (rest := [.int (nI a)]) SM (c_X8_countPairs l G o e cp bw ds hs sl sf tx ob V (zNs sd2) cp c1 c2 c3 ((zCh sc2 tc2 lc2 kc2 V (zDw (zNs sd2))).1) ((zCh sc2 tc2 lc2 kc2 V (zDw (zNs sd2))).2.1) ((zCh sc2 tc2 lc2 kc2 V (zDw (zNs sd2))).2.2.1) ((zCh sc2 tc2 lc2 kc2 V (zDw (zNs sd2))).2.2.2) (by first | assumption | omega) hco.2.2.2 hco.1 hco.2.1 hco.2.2.1) (cwV 1 hts gX8_simulate_X8_countPairs rfl rfl rfl (by decide +kernel) ⟨Nat.le_of_ble_eq_true rfl, Nat.le_of_ble_eq_true rfl⟩) hK hE hA hP hD hS hl.1 [0, 5, 6, 7, 8] [1, 2, 3, 4] [4, 0, 1, 2, 3, 5, 6, 7, 8] rfl rfl rfl (by decide) (ci := 5) rfl rfl rfl rfl rfl (Nat.le_of_ble_eq_true rfl) ⟨Nat.zero_le _, Nat.zero_le _⟩ dX8_simulate_70 (fun H locs hP hD hS => ?_)
            refine zi_add hx hb dX8_simulate_73 ?_
            refine lv_istore_n (lv' := [(2, .int (nI (a + (zPr ((zCh sc2 tc2 lc2 kc2 V (zDw (zNs sd2))).1) ((zCh sc2 tc2 lc2 kc2 V (zDw (zNs sd2))).2.1) ((zCh sc2 tc2 lc2 kc2 V (zDw (zNs sd2))).2.2.1) ((zCh sc2 tc2 lc2 kc2 V (zDw (zNs sd2))).2.2.2) V)))), (0, .ref o), (1, .int (nI x.toInt.toNat)), (3, .int (nI i))]) hx hb dX8_simulate_74 rfl hl (by decide) rfl (fun ls hl => ?_)
            refine lv_iinc (v := nI (i + 1)) (lv' := [(3, .int (nI (i + 1))), (2, .int (nI (a + (zPr ((zCh sc2 tc2 lc2 kc2 V (zDw (zNs sd2))).1) ((zCh sc2 tc2 lc2 kc2 V (zDw (zNs sd2))).2.1) ((zCh sc2 tc2 lc2 kc2 V (zDw (zNs sd2))).2.2.1) ((zCh sc2 tc2 lc2 kc2 V (zDw (zNs sd2))).2.2.2) V)))), (0, .ref o), (1, .int (nI x.toInt.toNat))]) hx hb dX8_simulate_75 hl (k := 3) rfl (zinc i 1) (by decide) rfl (fun ls hl => ?_)
            refine lv_goto (tgt := 29) hx hb dX8_simulate_78 (by decide) ?_
            exact ih29 (i + 1) (a + (zPr ((zCh sc2 tc2 lc2 kc2 V (zDw (zNs sd2))).1) ((zCh sc2 tc2 lc2 kc2 V (zDw (zNs sd2))).2.1) ((zCh sc2 tc2 lc2 kc2 V (zDw (zNs sd2))).2.2.1) ((zCh sc2 tc2 lc2 kc2 V (zDw (zNs sd2))).2.2.2) V)) (zNs sd2) ((zCh sc2 tc2 lc2 kc2 V (zDw (zNs sd2))).1) ((zCh sc2 tc2 lc2 kc2 V (zDw (zNs sd2))).2.1) ((zCh sc2 tc2 lc2 kc2 V (zDw (zNs sd2))).2.2.1) ((zCh sc2 tc2 lc2 kc2 V (zDw (zNs sd2))).2.2.2) (by first | assumption | omega) (by rw [zIt_s, ← hq]; rfl) hco.1 hco.2.1 hco.2.2.1 hco.2.2.2 (by omega) _ _ _ hP hD hS (lv_sub hl [2, 3, 1, 0] rfl)
      exact lp29 (x.toInt.toNat - 0 + 1) 0 0 sd (zTk sc s k) (zTk tc t k) (zTk lc lb k) k (by first | assumption | omega) rfl (zTk_lt hcs hbs) (zTk_lt hct hbt) (zTk_lt hcl hlb) (by first | assumption | omega) (Nat.lt_succ_self _) _ _ _ hP hD hS (lv_sub hl [2, 3, 1, 0] rfl)
    · skip
      exfalso; omega
set_option maxHeartbeats 4000000 in
set_option maxRecDepth 100000 in
theorem c_X8_runScript_bad (l : Launch) (G : zG) (o e cp bw ds hs sl sf tx ob V : Nat) (sd : Int64) (x : Int32) (y : Int64) (hb0 : ¬ ((1 ≤ x.toInt ∧ x.toInt ≤ 4) ∧ 0 ≤ y.toInt ∧ y.toInt.toNat / 10000 ^ x.toInt.toNat = 0)) : MI l yX8_runScript wsX8_runScript ({ frames := 1, cells := 0, slots := 0, locals := 25 }) G [.ref o, .int x, .long y] [(o, .inr (5, [.int (nI V), .long sd, .ref e, .ref cp, .ref bw, .ref ds, .ref hs, .ref sl, .ref sf, .ref tx, .ref ob]))] (-2) [(o, .inr (5, [.int (nI V), .long sd, .ref e, .ref cp, .ref bw, .ref ds, .ref hs, .ref sl, .ref sf, .ref tx, .ref ob]))] := by
  refine MI.enter (cc := cX8_runScript) (maxL := 6) (by decide) rfl (Nat.le_of_ble_eq_true rfl) rfl ?_
  intro pM eM sM mM bM tM cM QM AM ls hat kret
  obtain ⟨SM, hA, hK, hE, hP, hD, hS, hl⟩ := hat
  have hx := SM.1
  have hb := SM.2.1
  have hown : sM.vm.findClass RX8 = some mM.cls := SM.2.2.2.1
  have hts := SM.2.2.2.2
  have hl : lv_has ls 6 [(0, .ref o), (1, .int x), (2, .long y)] := hl
  refine lv_iload_n hx hb dX8_runScript_0 rfl (lv_at hl 1 rfl) ?_
  refine lv_iconst (v := nI 1) hx hb dX8_runScript_1 (by decide) ?_
  refine zc_lt (a := (x).toInt) (b := (1 : Nat)) (tgt := 16) hx hb dX8_runScript_2 (by decide) rfl (zI (by omega)) (fun c_1 => ?_) (fun c_1 => ?_)
  · skip
    refine lv_bipush (v := (-2)) hx hb dX8_runScript_16 (by decide) ?_
    exact kret _ _ _ _ _ _ rfl rfl hP hD hS dX8_runScript_18
  · skip
    refine lv_iload_n hx hb dX8_runScript_5 rfl (lv_at hl 1 rfl) ?_
    refine lv_iconst (v := nI 4) hx hb dX8_runScript_6 (by decide) ?_
    refine zc_gt (a := (x).toInt) (b := (4 : Nat)) (tgt := 16) hx hb dX8_runScript_7 (by decide) rfl (zI (by omega)) (fun c_2 => ?_) (fun c_2 => ?_)
    · skip
      refine lv_bipush (v := (-2)) hx hb dX8_runScript_16 (by decide) ?_
      exact kret _ _ _ _ _ _ rfl rfl hP hD hS dX8_runScript_18
    · skip
      refine lv_lload_n hx hb dX8_runScript_10 rfl (lv_at hl 2 rfl) ?_
      refine lv_lconst (v := lN 0) hx hb dX8_runScript_11 (by decide) ?_
      refine zl_ge (tgt := 19) hx hb dX8_runScript_12 dX8_runScript_13 (by decide) (fun c_3 => ?_) (fun c_3 => ?_)
      · skip
        have hy0 : 0 ≤ y.toInt := by have hz0 := z_lT (n := 0) (by decide); omega
        have hylt := Int64.toInt_lt y
        have hdl := Nat.div_le_self y.toInt.toNat (10000 ^ x.toInt.toNat)
        have hl : lv_has ls 6 [(0, .ref o), (1, .int (nI x.toInt.toNat)), (2, .long (lN y.toInt.toNat))] := by rw [← xN_eq (x := x) (by omega), ← yN_eq hy0]; exact hl
        refine lv_iload_n hx hb dX8_runScript_19 rfl (lv_at hl 1 rfl) ?_
        refine lv_lload_n hx hb dX8_runScript_20 rfl (lv_at hl 2 rfl) ?_
        refine zSl (W1 := [(o, .inr (5, [.int (nI V), .long sd, .ref e, .ref cp, .ref bw, .ref ds, .ref hs, .ref sl, .ref sf, .ref tx, .ref ob]))]) (W2 := [(o, .inr (5, [.int (nI V), .long sd, .ref e, .ref cp, .ref bw, .ref ds, .ref hs, .ref sl, .ref sf, .ref tx, .ref ob]))]) (wr := [(o, .inr (5, [.int (nI V), .long sd, .ref e, .ref cp, .ref bw, .ref ds, .ref hs, .ref sl, .ref sf, .ref tx, .ref ob]))]) (rest := []) SM (c_X7_withoutLowest l G x.toInt.toNat y.toInt.toNat (by first | assumption | omega) (by first | assumption | omega)) (va_cwS 2 hts gX8_runScript_X7_withoutLowest rfl rfl rfl (by decide +kernel) ⟨Nat.le_of_ble_eq_true rfl, Nat.le_of_ble_eq_true rfl⟩) hK hE hA hP hD hS hl.1 [] [0] [0] rfl rfl rfl (by decide) rfl rfl (Nat.le_of_ble_eq_true rfl) ⟨Nat.zero_le _, Nat.zero_le _⟩ dX8_runScript_21 (fun H locs hP hD hS => ?_)
        refine lv_lconst (v := lN 0) hx hb dX8_runScript_24 (by decide) ?_
        refine zll_eq (tgt := 32) hx hb dX8_runScript_25 dX8_runScript_26 (by decide) (by omega) (by omega) (fun c_4 => ?_) (fun c_4 => ?_)
        · skip
          exfalso; omega
        · skip
          refine lv_bipush (v := (-2)) hx hb dX8_runScript_29 (by decide) ?_
          exact kret _ _ _ _ _ _ rfl rfl hP hD hS dX8_runScript_31
      · skip
        refine lv_bipush (v := (-2)) hx hb dX8_runScript_16 (by decide) ?_
        exact kret _ _ _ _ _ _ rfl rfl hP hD hS dX8_runScript_18
set_option maxHeartbeats 4000000 in
set_option maxRecDepth 100000 in
theorem c_X8_runScript_ok (l : Launch) (G : zG) (o e cp bw ds hs sl sf tx ob V : Nat) (sd : Int64) (a1 a2 a3 : Nat) (s t lb : Nat → Nat) (k : Nat) (c1 c2 c3 : Nat) (sc tc lc : Nat → Nat) (kc : Nat) (tb : Nat) (f : Nat → Nat) (V0 : Nat) (x : Int32) (y : Int64) (hV : V ≤ 8) (hxy : (1 ≤ x.toInt ∧ x.toInt ≤ 4) ∧ 0 ≤ y.toInt ∧ y.toInt.toNat / 10000 ^ x.toInt.toNat = 0) (hk : k ≤ 16) (hbs : ∀ i, s i < 8) (hbt : ∀ i, t i < 8) (hlb : ∀ i, lb i < 7) (hkc : kc ≤ 16) (hcs : ∀ i, sc i < 8) (hct : ∀ i, tc i < 8) (hcl : ∀ i, lc i < 7) (hf : zT9 f) : MX (zQ4 × (Nat → Nat) × Nat) l yX8_runScript wsX8_runScript ({ frames := 6, cells := 0, slots := 0, locals := 149 }) G [.ref o, .int x, .long y] [(o, .inr (5, [.int (nI V), .long sd, .ref e, .ref cp, .ref bw, .ref ds, .ref hs, .ref sl, .ref sf, .ref tx, .ref ob])), (e, .inr (1, [.ref a1, .ref a2, .ref a3, .int (nI k)])), zA G a1 16 s, zA G a2 16 t, zA G a3 16 lb, (cp, .inr (1, [.ref c1, .ref c2, .ref c3, .int (nI kc)])), zA G c1 16 sc, zA G c2 16 tc, zA G c3 16 lc, (ds, .inr (0, [.ref tb, .int (nI V0)])), zA G tb 64 f] (zRs V (x.toInt.toNat) (y.toInt.toNat) (x.toInt.toNat) 0 (zTk sc s k, zTk tc t k, zTk lc lb k, k) f) (fun u : zQ4 × (Nat → Nat) × Nat => [(o, .inr (5, [.int (nI V), .long sd, .ref e, .ref cp, .ref bw, .ref ds, .ref hs, .ref sl, .ref sf, .ref tx, .ref ob])), (e, .inr (1, [.ref a1, .ref a2, .ref a3, .int (nI k)])), zA G a1 16 s, zA G a2 16 t, zA G a3 16 lb, (cp, .inr (1, [.ref c1, .ref c2, .ref c3, .int (nI u.1.2.2.2)])), zA G c1 16 u.1.1, zA G c2 16 u.1.2.1, zA G c3 16 u.1.2.2.1, (ds, .inr (0, [.ref tb, .int (nI u.2.2)])), zA G tb 64 u.2.1]) (fun u : zQ4 × (Nat → Nat) × Nat => zQ4ok u.1 ∧ zT9 u.2.1) := by
  refine MX.enter (cc := cX8_runScript) (maxL := 6) (by decide) rfl (Nat.le_of_ble_eq_true rfl) ?_
  intro pM eM sM mM bM tM cM QM AM ls hat kret
  obtain ⟨SM, hA, hK, hE, hP, hD, hS, hl⟩ := hat
  have hx := SM.1
  have hb := SM.2.1
  have hown : sM.vm.findClass RX8 = some mM.cls := SM.2.2.2.1
  have hts := SM.2.2.2.2
  have hinX8 : ∀ w ∈ u_ws RX8 TX8 11, w ∈ wsX8_runScript := by decide +kernel
  have hlk26 : (Cond.fieldLink RX8 26 "DyckReachability" "copy" "LDyckReachability$Edges;").before _ sM = true := hts _ (by decide +kernel)
  have hlk22 : (Cond.fieldLink RX8 22 "DyckReachability" "edges" "LDyckReachability$Edges;").before _ sM = true := hts _ (by decide +kernel)
  have hlk9 : (Cond.fieldLink RX8 9 "DyckReachability" "vertices" "I").before _ sM = true := hts _ (by decide +kernel)
  have hlk35 : (Cond.fieldLink RX8 35 "DyckReachability" "distances" "LDyckReachability$Distances;").before _ sM = true := hts _ (by decide +kernel)
  have hl : lv_has ls 6 [(0, .ref o), (1, .int x), (2, .long y)] := hl
  refine lv_iload_n hx hb dX8_runScript_0 rfl (lv_at hl 1 rfl) ?_
  refine lv_iconst (v := nI 1) hx hb dX8_runScript_1 (by decide) ?_
  refine zc_lt (a := (x).toInt) (b := (1 : Nat)) (tgt := 16) hx hb dX8_runScript_2 (by decide) rfl (zI (by omega)) (fun c_1 => ?_) (fun c_1 => ?_)
  · skip
    exfalso; omega
  · skip
    refine lv_iload_n hx hb dX8_runScript_5 rfl (lv_at hl 1 rfl) ?_
    refine lv_iconst (v := nI 4) hx hb dX8_runScript_6 (by decide) ?_
    refine zc_gt (a := (x).toInt) (b := (4 : Nat)) (tgt := 16) hx hb dX8_runScript_7 (by decide) rfl (zI (by omega)) (fun c_2 => ?_) (fun c_2 => ?_)
    · skip
      exfalso; omega
    · skip
      refine lv_lload_n hx hb dX8_runScript_10 rfl (lv_at hl 2 rfl) ?_
      refine lv_lconst (v := lN 0) hx hb dX8_runScript_11 (by decide) ?_
      refine zl_ge (tgt := 19) hx hb dX8_runScript_12 dX8_runScript_13 (by decide) (fun c_3 => ?_) (fun c_3 => ?_)
      · skip
        have hy0 : 0 ≤ y.toInt := by omega
        have hylt := Int64.toInt_lt y
        have hdl := Nat.div_le_self y.toInt.toNat (10000 ^ x.toInt.toNat)
        have hl : lv_has ls 6 [(0, .ref o), (1, .int (nI x.toInt.toNat)), (2, .long (lN y.toInt.toNat))] := by rw [← xN_eq (x := x) (by omega), ← yN_eq hy0]; exact hl
        refine lv_iload_n hx hb dX8_runScript_19 rfl (lv_at hl 1 rfl) ?_
        refine lv_lload_n hx hb dX8_runScript_20 rfl (lv_at hl 2 rfl) ?_
        refine zSl (W1 := [(o, .inr (5, [.int (nI V), .long sd, .ref e, .ref cp, .ref bw, .ref ds, .ref hs, .ref sl, .ref sf, .ref tx, .ref ob])), (e, .inr (1, [.ref a1, .ref a2, .ref a3, .int (nI k)])), zA G a1 16 s, zA G a2 16 t, zA G a3 16 lb, (cp, .inr (1, [.ref c1, .ref c2, .ref c3, .int (nI kc)])), zA G c1 16 sc, zA G c2 16 tc, zA G c3 16 lc, (ds, .inr (0, [.ref tb, .int (nI V0)])), zA G tb 64 f]) (W2 := [(o, .inr (5, [.int (nI V), .long sd, .ref e, .ref cp, .ref bw, .ref ds, .ref hs, .ref sl, .ref sf, .ref tx, .ref ob])), (e, .inr (1, [.ref a1, .ref a2, .ref a3, .int (nI k)])), zA G a1 16 s, zA G a2 16 t, zA G a3 16 lb, (cp, .inr (1, [.ref c1, .ref c2, .ref c3, .int (nI kc)])), zA G c1 16 sc, zA G c2 16 tc, zA G c3 16 lc, (ds, .inr (0, [.ref tb, .int (nI V0)])), zA G tb 64 f]) (wr := [(o, .inr (5, [.int (nI V), .long sd, .ref e, .ref cp, .ref bw, .ref ds, .ref hs, .ref sl, .ref sf, .ref tx, .ref ob])), (e, .inr (1, [.ref a1, .ref a2, .ref a3, .int (nI k)])), zA G a1 16 s, zA G a2 16 t, zA G a3 16 lb, (cp, .inr (1, [.ref c1, .ref c2, .ref c3, .int (nI kc)])), zA G c1 16 sc, zA G c2 16 tc, zA G c3 16 lc, (ds, .inr (0, [.ref tb, .int (nI V0)])), zA G tb 64 f]) (rest := []) SM (c_X7_withoutLowest l G x.toInt.toNat y.toInt.toNat (by first | assumption | omega) (by first | assumption | omega)) (va_cwS 2 hts gX8_runScript_X7_withoutLowest rfl rfl rfl (by decide +kernel) ⟨Nat.le_of_ble_eq_true rfl, Nat.le_of_ble_eq_true rfl⟩) hK hE hA hP hD hS hl.1 [] [0, 1, 2, 3, 4, 5, 6, 7, 8, 9, 10] [0, 1, 2, 3, 4, 5, 6, 7, 8, 9, 10] rfl rfl rfl (by decide) rfl rfl (Nat.le_of_ble_eq_true rfl) ⟨Nat.zero_le _, Nat.zero_le _⟩ dX8_runScript_21 (fun H locs hP hD hS => ?_)
        refine lv_lconst (v := lN 0) hx hb dX8_runScript_24 (by decide) ?_
        refine zll_eq (tgt := 32) hx hb dX8_runScript_25 dX8_runScript_26 (by decide) (by omega) (by omega) (fun c_4 => ?_) (fun c_4 => ?_)
        · skip
          refine lv_aload_n hx hb dX8_runScript_32 rfl (lv_at hl 0 rfl) ?_
          refine va_get (D := G.1) (ci := 5) (v := .ref cp) (C := RX8) (T := TX8) (N := 11) hx hb hts hinX8 hown hK hP 0 rfl rfl 3 (by decide) hlk26 (fun _ h9 => h9) rfl dX8_runScript_33 ?_
          refine lv_aload_n hx hb dX8_runScript_36 rfl (lv_at hl 0 rfl) ?_
          refine va_get (D := G.1) (ci := 5) (v := .ref e) (C := RX8) (T := TX8) (N := 11) hx hb hts hinX8 hown hK hP 0 rfl rfl 2 (by decide) hlk22 (fun _ h9 => h9) rfl dX8_runScript_37 ?_
          refine zVv (W1 := [(o, .inr (5, [.int (nI V), .long sd, .ref e, .ref cp, .ref bw, .ref ds, .ref hs, .ref sl, .ref sf, .ref tx, .ref ob])), (e, .inr (1, [.ref a1, .ref a2, .ref a3, .int (nI k)])), zA G a1 16 s, zA G a2 16 t, zA G a3 16 lb, (cp, .inr (1, [.ref c1, .ref c2, .ref c3, .int (nI kc)])), zA G c1 16 sc, zA G c2 16 tc, zA G c3 16 lc, (ds, .inr (0, [.ref tb, .int (nI V0)])), zA G tb 64 f]) (W2 := [(o, .inr (5, [.int (nI V), .long sd, .ref e, .ref cp, .ref bw, .ref ds, .ref hs, .ref sl, .ref sf, .ref tx, .ref ob])), (e, .inr (1, [.ref a1, .ref a2, .ref a3, .int (nI k)])), zA G a1 16 s, zA G a2 16 t, zA G a3 16 lb, (cp, .inr (1, [.ref c1, .ref c2, .ref c3, .int (nI k)])), zA G c1 16 (zTk sc s k), zA G c2 16 (zTk tc t k), zA G c3 16 (zTk lc lb k), (ds, .inr (0, [.ref tb, .int (nI V0)])), zA G tb 64 f]) (wr := [(o, .inr (5, [.int (nI V), .long sd, .ref e, .ref cp, .ref bw, .ref ds, .ref hs, .ref sl, .ref sf, .ref tx, .ref ob])), (ds, .inr (0, [.ref tb, .int (nI V0)])), zA G tb 64 f]) (rest := []) SM (c_X2_take l G cp c1 c2 c3 16 sc tc lc kc e a1 a2 a3 16 s t lb k (by first | assumption | omega) (by first | assumption | omega) (by first | assumption | omega) (by first | assumption | omega)) (cwV 1 hts gX8_runScript_X2_take rfl rfl rfl (by decide +kernel) ⟨Nat.le_of_ble_eq_true rfl, Nat.le_of_ble_eq_true rfl⟩) hK hE hA hP hD hS hl.1 [5, 6, 7, 8, 1, 2, 3, 4] [0, 9, 10] [0, 7, 8, 9, 10, 3, 4, 5, 6, 1, 2] rfl rfl rfl (by decide) (ci := 1) rfl rfl rfl rfl rfl (Nat.le_of_ble_eq_true rfl) ⟨Nat.zero_le _, Nat.zero_le _⟩ dX8_runScript_40 (fun H locs hP hD hS => ?_)
          refine lv_iconst (v := nI 0) hx hb dX8_runScript_43 (by decide) ?_
          refine lv_istore (lv' := [(4, .int (nI 0)), (0, .ref o), (1, .int (nI x.toInt.toNat)), (2, .long (lN y.toInt.toNat))]) hx hb dX8_runScript_44 hl (by decide) rfl (fun ls hl => ?_)
          have lp46 : ∀ (n9 : Nat), ∀ (c : Nat) (sc2 tc2 lc2 : Nat → Nat) (kc2 : Nat) (f2 : Nat → Nat) (W0 : Nat), (c ≤ x.toInt.toNat) → (zRs V (x.toInt.toNat) (y.toInt.toNat) (x.toInt.toNat) 0 (zTk sc s k, zTk tc t k, zTk lc lb k, k) f = zRs V (x.toInt.toNat) (y.toInt.toNat) (x.toInt.toNat - c) c (sc2, tc2, lc2, kc2) f2) → (∀ i, sc2 i < 8) → (∀ i, tc2 i < 8) → (∀ i, lc2 i < 7) → (kc2 ≤ 16) → (zT9 f2) → (x.toInt.toNat - c) < n9 → ∀ (H : Heap) (locs : List Loc) (ls : Array Slot), va_P G.1 vwCl [(o, .inr (5, [.int (nI V), .long sd, .ref e, .ref cp, .ref bw, .ref ds, .ref hs, .ref sl, .ref sf, .ref tx, .ref ob])), (e, .inr (1, [.ref a1, .ref a2, .ref a3, .int (nI k)])), zA G a1 16 s, zA G a2 16 t, zA G a3 16 lb, (cp, .inr (1, [.ref c1, .ref c2, .ref c3, .int (nI kc2)])), zA G c1 16 sc2, zA G c2 16 tc2, zA G c3 16 lc2, (ds, .inr (0, [.ref tb, .int (nI W0)])), zA G tb 64 f2] H → va_D AM [(o, .inr (5, [.int (nI V), .long sd, .ref e, .ref cp, .ref bw, .ref ds, .ref hs, .ref sl, .ref sf, .ref tx, .ref ob])), (e, .inr (1, [.ref a1, .ref a2, .ref a3, .int (nI k)])), zA G a1 16 s, zA G a2 16 t, zA G a3 16 lb, (cp, .inr (1, [.ref c1, .ref c2, .ref c3, .int (nI kc2)])), zA G c1 16 sc2, zA G c2 16 tc2, zA G c3 16 lc2, (ds, .inr (0, [.ref tb, .int (nI W0)])), zA G tb 64 f2] → va_S AM sM.heap H locs → lv_has ls 6 [(0, .ref o), (1, .int (nI x.toInt.toNat)), (2, .long (lN y.toInt.toNat)), (4, .int (nI c))] → W pM l eM ({ frames := 6, cells := 0, slots := 0, locals := 149 }) sM mM (([.ref o, .int x, .long y] : List Value).toArray) bM tM cM H locs 0 0 QM (F0 mM 46 ls []) := by
            intro n9
            induction n9 with
            | zero =>
              intro _ _ _ _ _ _ _ _ _ _ _ _ _ _ h9
              exact absurd h9 (Nat.not_lt_zero _)
            | succ n9 ih9 =>
              intro c sc2 tc2 lc2 kc2 f2 W0 h1 hq g1 g2 g3 g4 g9 hmu46 H locs ls hP hD hS hl
              have ih46 := ih9
              clear ih9
              refine lv_iload hx hb dX8_runScript_46 (lv_at hl 3 rfl) ?_
              refine lv_iload_n hx hb dX8_runScript_48 rfl (lv_at hl 1 rfl) ?_
              refine zn_ge (tgt := 96) hx hb dX8_runScript_49 (by decide) (by omega) (by omega) (fun c_5 => ?_) (fun c_5 => ?_)
              · skip
                refine lv_bipush (v := (-9)) hx hb dX8_runScript_96 (by decide) ?_
                exact kret _ _ _ _ _ _ ((sc2, tc2, lc2, kc2), f2, W0) (by rw [hq, show x.toInt.toNat - c = 0 by omega, zRs]) ⟨⟨g1, g2, g3, g4⟩, g9⟩ rfl hP hD hS dX8_runScript_98
              · skip
                refine lv_iload_n hx hb dX8_runScript_52 rfl (lv_at hl 1 rfl) ?_
                refine lv_iconst (v := nI 1) hx hb dX8_runScript_53 (by decide) ?_
                refine zi_sub hx hb dX8_runScript_54 (by omega) ?_
                refine lv_iload hx hb dX8_runScript_55 (lv_at hl 3 rfl) ?_
                refine zi_sub hx hb dX8_runScript_57 (by omega) ?_
                refine lv_lload_n hx hb dX8_runScript_58 rfl (lv_at hl 2 rfl) ?_
                refine zSl (W1 := [(o, .inr (5, [.int (nI V), .long sd, .ref e, .ref cp, .ref bw, .ref ds, .ref hs, .ref sl, .ref sf, .ref tx, .ref ob])), (e, .inr (1, [.ref a1, .ref a2, .ref a3, .int (nI k)])), zA G a1 16 s, zA G a2 16 t, zA G a3 16 lb, (cp, .inr (1, [.ref c1, .ref c2, .ref c3, .int (nI kc2)])), zA G c1 16 sc2, zA G c2 16 tc2, zA G c3 16 lc2, (ds, .inr (0, [.ref tb, .int (nI W0)])), zA G tb 64 f2]) (W2 := [(o, .inr (5, [.int (nI V), .long sd, .ref e, .ref cp, .ref bw, .ref ds, .ref hs, .ref sl, .ref sf, .ref tx, .ref ob])), (e, .inr (1, [.ref a1, .ref a2, .ref a3, .int (nI k)])), zA G a1 16 s, zA G a2 16 t, zA G a3 16 lb, (cp, .inr (1, [.ref c1, .ref c2, .ref c3, .int (nI kc2)])), zA G c1 16 sc2, zA G c2 16 tc2, zA G c3 16 lc2, (ds, .inr (0, [.ref tb, .int (nI W0)])), zA G tb 64 f2]) (wr := [(o, .inr (5, [.int (nI V), .long sd, .ref e, .ref cp, .ref bw, .ref ds, .ref hs, .ref sl, .ref sf, .ref tx, .ref ob])), (e, .inr (1, [.ref a1, .ref a2, .ref a3, .int (nI k)])), zA G a1 16 s, zA G a2 16 t, zA G a3 16 lb, (cp, .inr (1, [.ref c1, .ref c2, .ref c3, .int (nI kc2)])), zA G c1 16 sc2, zA G c2 16 tc2, zA G c3 16 lc2, (ds, .inr (0, [.ref tb, .int (nI W0)])), zA G tb 64 f2]) (rest := []) SM (c_X7_withoutLowest l G ((x.toInt.toNat - 1) - c) y.toInt.toNat (by first | assumption | omega) (by first | assumption | omega)) (va_cwS 2 hts gX8_runScript_X7_withoutLowest rfl rfl rfl (by decide +kernel) ⟨Nat.le_of_ble_eq_true rfl, Nat.le_of_ble_eq_true rfl⟩) hK hE hA hP hD hS hl.1 [] [0, 1, 2, 3, 4, 5, 6, 7, 8, 9, 10] [0, 1, 2, 3, 4, 5, 6, 7, 8, 9, 10] rfl rfl rfl (by decide) rfl rfl (Nat.le_of_ble_eq_true rfl) ⟨Nat.zero_le _, Nat.zero_le _⟩ dX8_runScript_59 (fun H locs hP hD hS => ?_)
                have hdl2 := Nat.div_le_self y.toInt.toNat (10000 ^ (x.toInt.toNat - 1 - c))
                refine zSi (W1 := [(o, .inr (5, [.int (nI V), .long sd, .ref e, .ref cp, .ref bw, .ref ds, .ref hs, .ref sl, .ref sf, .ref tx, .ref ob])), (e, .inr (1, [.ref a1, .ref a2, .ref a3, .int (nI k)])), zA G a1 16 s, zA G a2 16 t, zA G a3 16 lb, (cp, .inr (1, [.ref c1, .ref c2, .ref c3, .int (nI kc2)])), zA G c1 16 sc2, zA G c2 16 tc2, zA G c3 16 lc2, (ds, .inr (0, [.ref tb, .int (nI W0)])), zA G tb 64 f2]) (W2 := [(o, .inr (5, [.int (nI V), .long sd, .ref e, .ref cp, .ref bw, .ref ds, .ref hs, .ref sl, .ref sf, .ref tx, .ref ob])), (e, .inr (1, [.ref a1, .ref a2, .ref a3, .int (nI k)])), zA G a1 16 s, zA G a2 16 t, zA G a3 16 lb, (cp, .inr (1, [.ref c1, .ref c2, .ref c3, .int (nI kc2)])), zA G c1 16 sc2, zA G c2 16 tc2, zA G c3 16 lc2, (ds, .inr (0, [.ref tb, .int (nI W0)])), zA G tb 64 f2]) (wr := [(o, .inr (5, [.int (nI V), .long sd, .ref e, .ref cp, .ref bw, .ref ds, .ref hs, .ref sl, .ref sf, .ref tx, .ref ob])), (e, .inr (1, [.ref a1, .ref a2, .ref a3, .int (nI k)])), zA G a1 16 s, zA G a2 16 t, zA G a3 16 lb, (cp, .inr (1, [.ref c1, .ref c2, .ref c3, .int (nI kc2)])), zA G c1 16 sc2, zA G c2 16 tc2, zA G c3 16 lc2, (ds, .inr (0, [.ref tb, .int (nI W0)])), zA G tb 64 f2]) (rest := []) SM (c_X7_lowestGroup l G (y.toInt.toNat / 10000 ^ ((x.toInt.toNat - 1) - c)) (by first | assumption | omega)) (va_cwS 1 hts gX8_runScript_X7_lowestGroup rfl rfl rfl (by decide +kernel) ⟨Nat.le_of_ble_eq_true rfl, Nat.le_of_ble_eq_true rfl⟩) hK hE hA hP hD hS hl.1 [] [0, 1, 2, 3, 4, 5, 6, 7, 8, 9, 10] [0, 1, 2, 3, 4, 5, 6, 7, 8, 9, 10] rfl rfl rfl (by decide) rfl rfl (Nat.le_of_ble_eq_true rfl) ⟨Nat.zero_le _, Nat.zero_le _⟩ dX8_runScript_62 (fun H locs hP hD hS => ?_)
                refine zti (y := nI (zRsG (x.toInt.toNat) (y.toInt.toNat) c)) rfl ?_
                have hgl : zRsG (x.toInt.toNat) (y.toInt.toNat) c < 10000 := Nat.mod_lt _ (by decide)
                refine lv_istore (lv' := [(5, .int (nI (zRsG (x.toInt.toNat) (y.toInt.toNat) c))), (0, .ref o), (1, .int (nI x.toInt.toNat)), (2, .long (lN y.toInt.toNat)), (4, .int (nI c))]) hx hb dX8_runScript_65 hl (by decide) rfl (fun ls hl => ?_)
                refine lv_iload hx hb dX8_runScript_67 (lv_at hl 0 rfl) ?_
                refine lv_aload_n hx hb dX8_runScript_69 rfl (lv_at hl 1 rfl) ?_
                refine va_get (D := G.1) (ci := 5) (v := .ref cp) (C := RX8) (T := TX8) (N := 11) hx hb hts hinX8 hown hK hP 0 rfl rfl 3 (by decide) hlk26 (fun _ h9 => h9) rfl dX8_runScript_70 ?_
                refine lv_aload_n hx hb dX8_runScript_73 rfl (lv_at hl 1 rfl) ?_
                refine va_get (D := G.1) (ci := 5) (v := .int (nI V)) (C := RX8) (T := TX8) (N := 11) hx hb hts hinX8 hown hK hP 0 rfl rfl 0 (by decide) hlk9 (fun _ h9 => h9) rfl dX8_runScript_74 ?_
                refine lv_aload_n hx hb dX8_runScript_77 rfl (lv_at hl 1 rfl) ?_
                refine va_get (D := G.1) (ci := 5) (v := .ref ds) (C := RX8) (T := TX8) (N := 11) hx hb hts hinX8 hown hK hP 0 rfl rfl 5 (by decide) hlk35 (fun _ h9 => h9) rfl dX8_runScript_78 ?_
                refine zSi (W1 := [(o, .inr (5, [.int (nI V), .long sd, .ref e, .ref cp, .ref bw, .ref ds, .ref hs, .ref sl, .ref sf, .ref tx, .ref ob])), (e, .inr (1, [.ref a1, .ref a2, .ref a3, .int (nI k)])), zA G a1 16 s, zA G a2 16 t, zA G a3 16 lb, (cp, .inr (1, [.ref c1, .ref c2, .ref c3, .int (nI kc2)])), zA G c1 16 sc2, zA G c2 16 tc2, zA G c3 16 lc2, (ds, .inr (0, [.ref tb, .int (nI W0)])), zA G tb 64 f2]) (W2 := [(o, .inr (5, [.int (nI V), .long sd, .ref e, .ref cp, .ref bw, .ref ds, .ref hs, .ref sl, .ref sf, .ref tx, .ref ob])), (e, .inr (1, [.ref a1, .ref a2, .ref a3, .int (nI k)])), zA G a1 16 s, zA G a2 16 t, zA G a3 16 lb, (cp, .inr (1, [.ref c1, .ref c2, .ref c3, .int (nI ((zSuE sc2 tc2 lc2 kc2 V (zRsG (x.toInt.toNat) (y.toInt.toNat) c)).2.2.2))])), zA G c1 16 ((zSuE sc2 tc2 lc2 kc2 V (zRsG (x.toInt.toNat) (y.toInt.toNat) c)).1), zA G c2 16 ((zSuE sc2 tc2 lc2 kc2 V (zRsG (x.toInt.toNat) (y.toInt.toNat) c)).2.1), zA G c3 16 ((zSuE sc2 tc2 lc2 kc2 V (zRsG (x.toInt.toNat) (y.toInt.toNat) c)).2.2.1), (ds, .inr (0, [.ref tb, .int (nI (zSuV V W0 (zRsG (x.toInt.toNat) (y.toInt.toNat) c)))])), zA G tb 64 (zSuF f2 sc2 tc2 lc2 kc2 V (zRsG (x.toInt.toNat) (y.toInt.toNat) c))]) (wr := [(o, .inr (5, [.int (nI V), .long sd, .ref e, .ref cp, .ref bw, .ref ds, .ref hs, .ref sl, .ref sf, .ref tx, .ref ob])), (e, .inr (1, [.ref a1, .ref a2, .ref a3, .int (nI k)])), zA G a1 16 s, zA G a2 16 t, zA G a3 16 lb]) (rest := []) SM (c_X7_succeeds l G (zRsG (x.toInt.toNat) (y.toInt.toNat) c) cp c1 c2 c3 sc2 tc2 lc2 kc2 V ds tb f2 W0 (by first | assumption | omega) (by first | assumption | omega) (by first | assumption | omega) (by first | assumption | omega) (by first | assumption | omega) (by first | assumption | omega) (by first | assumption | omega)) (va_cwS 4 hts gX8_runScript_X7_succeeds rfl rfl rfl (by decide +kernel) ⟨Nat.le_of_ble_eq_true rfl, Nat.le_of_ble_eq_true rfl⟩) hK hE hA hP hD hS hl.1 [5, 6, 7, 8, 9, 10] [0, 1, 2, 3, 4] [0, 1, 2, 3, 4, 5, 6, 7, 8, 9, 10] rfl rfl rfl (by decide) rfl rfl (Nat.le_of_ble_eq_true rfl) ⟨Nat.zero_le _, Nat.zero_le _⟩ dX8_runScript_81 (fun H locs hP hD hS => ?_)
                have hok := zSuE_ok (s := sc2) (t := tc2) (lb := lc2) (k := kc2) (V := V) (gp := zRsG (x.toInt.toNat) (y.toInt.toNat) c) ⟨g1, g2, g3, g4⟩ hV
                have h9f := zSuF_9 (s := sc2) (t := tc2) (lb := lc2) (k := kc2) (V := V) (gp := zRsG (x.toInt.toNat) (y.toInt.toNat) c) g9
                refine zb_ne (tgt := 90) hx hb dX8_runScript_84 (by decide) (fun c_6 => ?_) (fun c_6 => ?_)
                · skip
                  refine lv_iinc (v := nI (c + 1)) (lv' := [(4, .int (nI (c + 1))), (5, .int (nI (zRsG (x.toInt.toNat) (y.toInt.toNat) c))), (0, .ref o), (1, .int (nI x.toInt.toNat)), (2, .long (lN y.toInt.toNat))]) hx hb dX8_runScript_90 hl (k := 4) rfl (zinc c 1) (by decide) rfl (fun ls hl => ?_)
                  refine lv_goto (tgt := 46) hx hb dX8_runScript_93 (by decide) ?_
                  exact ih46 (c + 1) ((zSuE sc2 tc2 lc2 kc2 V (zRsG (x.toInt.toNat) (y.toInt.toNat) c)).1) ((zSuE sc2 tc2 lc2 kc2 V (zRsG (x.toInt.toNat) (y.toInt.toNat) c)).2.1) ((zSuE sc2 tc2 lc2 kc2 V (zRsG (x.toInt.toNat) (y.toInt.toNat) c)).2.2.1) ((zSuE sc2 tc2 lc2 kc2 V (zRsG (x.toInt.toNat) (y.toInt.toNat) c)).2.2.2) (zSuF f2 sc2 tc2 lc2 kc2 V (zRsG (x.toInt.toNat) (y.toInt.toNat) c)) (zSuV V W0 (zRsG (x.toInt.toNat) (y.toInt.toNat) c)) (by first | assumption | omega) (by rw [hq, show x.toInt.toNat - c = (x.toInt.toNat - (c + 1)) + 1 by omega, zRs, if_pos (by assumption)]) hok.1 hok.2.1 hok.2.2.1 hok.2.2.2 h9f (by omega) _ _ _ hP hD hS (lv_sub hl [2, 3, 4, 0] rfl)
                · skip
                  refine lv_iload hx hb dX8_runScript_87 (lv_at hl 4 rfl) ?_
                  exact kret _ _ _ _ _ _ (((zSuE sc2 tc2 lc2 kc2 V (zRsG (x.toInt.toNat) (y.toInt.toNat) c)).1, (zSuE sc2 tc2 lc2 kc2 V (zRsG (x.toInt.toNat) (y.toInt.toNat) c)).2.1, (zSuE sc2 tc2 lc2 kc2 V (zRsG (x.toInt.toNat) (y.toInt.toNat) c)).2.2.1, (zSuE sc2 tc2 lc2 kc2 V (zRsG (x.toInt.toNat) (y.toInt.toNat) c)).2.2.2), zSuF f2 sc2 tc2 lc2 kc2 V (zRsG (x.toInt.toNat) (y.toInt.toNat) c), zSuV V W0 (zRsG (x.toInt.toNat) (y.toInt.toNat) c)) (by rw [hq, show x.toInt.toNat - c = (x.toInt.toNat - (c + 1)) + 1 by omega, zRs, if_neg (by assumption)]) ⟨hok, h9f⟩ rfl hP hD hS dX8_runScript_89
          exact lp46 (x.toInt.toNat - 0 + 1) 0 (zTk sc s k) (zTk tc t k) (zTk lc lb k) k f V0 (by first | assumption | omega) rfl (zTk_lt hcs hbs) (zTk_lt hct hbt) (zTk_lt hcl hlb) (by first | assumption | omega) (by first | assumption | omega) (Nat.lt_succ_self _) _ _ _ hP hD hS (lv_sub hl [1, 2, 3, 0] rfl)
        · skip
          exfalso; omega
      · skip
        have hz0 := z_lT (n := 0) (by decide)
        exfalso; omega
set_option maxHeartbeats 4000000 in
set_option maxRecDepth 100000 in
theorem c_X8_save_bad (l : Launch) (G : zG) (o e cp bw ds hs sl sf tx ob V : Nat) (sd : Int64) (x : Int32) (hb0 : ¬ (0 ≤ x.toInt ∧ x.toInt < 2)) : MI l yX8_save wsX8_save ({ frames := 1, cells := 0, slots := 0, locals := 20 }) G [.ref o, .int x] [(o, .inr (5, [.int (nI V), .long sd, .ref e, .ref cp, .ref bw, .ref ds, .ref hs, .ref sl, .ref sf, .ref tx, .ref ob]))] (-1) [(o, .inr (5, [.int (nI V), .long sd, .ref e, .ref cp, .ref bw, .ref ds, .ref hs, .ref sl, .ref sf, .ref tx, .ref ob]))] := by
  refine MI.enter (cc := cX8_save) (maxL := 2) (by decide) rfl (Nat.le_of_ble_eq_true rfl) rfl ?_
  intro pM eM sM mM bM tM cM QM AM ls hat kret
  obtain ⟨SM, hA, hK, hE, hP, hD, hS, hl⟩ := hat
  have hx := SM.1
  have hb := SM.2.1
  have hown : sM.vm.findClass RX8 = some mM.cls := SM.2.2.2.1
  have hts := SM.2.2.2.2
  have hl : lv_has ls 2 [(0, .ref o), (1, .int x)] := hl
  refine lv_iload_n hx hb dX8_save_0 rfl (lv_at hl 1 rfl) ?_
  refine zSi (W1 := [(o, .inr (5, [.int (nI V), .long sd, .ref e, .ref cp, .ref bw, .ref ds, .ref hs, .ref sl, .ref sf, .ref tx, .ref ob]))]) (W2 := [(o, .inr (5, [.int (nI V), .long sd, .ref e, .ref cp, .ref bw, .ref ds, .ref hs, .ref sl, .ref sf, .ref tx, .ref ob]))]) (wr := [(o, .inr (5, [.int (nI V), .long sd, .ref e, .ref cp, .ref bw, .ref ds, .ref hs, .ref sl, .ref sf, .ref tx, .ref ob]))]) (rest := []) SM (c_X8_isSlot l G x ) (va_cwS 1 hts gX8_save_X8_isSlot rfl rfl rfl (by decide +kernel) ⟨Nat.le_of_ble_eq_true rfl, Nat.le_of_ble_eq_true rfl⟩) hK hE hA hP hD hS hl.1 [] [0] [0] rfl rfl rfl (by decide) rfl rfl (Nat.le_of_ble_eq_true rfl) ⟨Nat.zero_le _, Nat.zero_le _⟩ dX8_save_1 (fun H locs hP hD hS => ?_)
  refine zb_ne (tgt := 9) hx hb dX8_save_4 (by decide) (fun c_1 => ?_) (fun c_1 => ?_)
  · skip
    exfalso; omega
  · skip
    refine lv_iconst (v := (-1)) hx hb dX8_save_7 (by decide) ?_
    exact kret _ _ _ _ _ _ rfl rfl hP hD hS dX8_save_8
set_option maxHeartbeats 4000000 in
set_option maxRecDepth 100000 in
theorem c_X8_save_ok (l : Launch) (G : zG) (o e cp bw ds hs sl sf tx ob V : Nat) (sd : Int64) (a1 a2 a3 : Nat) (s t lb : Nat → Nat) (k : Nat) (fsl : Nat → Option Nat) (sfl : Nat → Nat) (q0 q1 q2 q3 : Nat) (s0 t0 l0 : Nat → Nat) (k0 : Nat) (x : Int32) (hx : 0 ≤ x.toInt ∧ x.toInt < 2) (hk : k ≤ 16) (hq0 : fsl (x.toInt.toNat) = some q0) : MI l yX8_save wsX8_save ({ frames := 3, cells := 0, slots := 0, locals := 65 }) G [.ref o, .int x] [(o, .inr (5, [.int (nI V), .long sd, .ref e, .ref cp, .ref bw, .ref ds, .ref hs, .ref sl, .ref sf, .ref tx, .ref ob])), (e, .inr (1, [.ref a1, .ref a2, .ref a3, .int (nI k)])), zA G a1 16 s, zA G a2 16 t, zA G a3 16 lb, zR G sl 2 fsl, (q0, .inr (1, [.ref q1, .ref q2, .ref q3, .int (nI k0)])), zA G q1 16 s0, zA G q2 16 t0, zA G q3 16 l0, zB G sf 2 sfl] (nI k) [(o, .inr (5, [.int (nI V), .long sd, .ref e, .ref cp, .ref bw, .ref ds, .ref hs, .ref sl, .ref sf, .ref tx, .ref ob])), (e, .inr (1, [.ref a1, .ref a2, .ref a3, .int (nI k)])), zA G a1 16 s, zA G a2 16 t, zA G a3 16 lb, zR G sl 2 fsl, (q0, .inr (1, [.ref q1, .ref q2, .ref q3, .int (nI k)])), zA G q1 16 (zTk s0 s k), zA G q2 16 (zTk t0 t k), zA G q3 16 (zTk l0 lb k), zB G sf 2 (zU sfl (x.toInt.toNat) 1)] := by
  refine MI.enter (cc := cX8_save) (maxL := 2) (by decide) rfl (Nat.le_of_ble_eq_true rfl) rfl ?_
  intro pM eM sM mM bM tM cM QM AM ls hat kret
  obtain ⟨SM, hA, hK, hE, hP, hD, hS, hl⟩ := hat
  have hx := SM.1
  have hb := SM.2.1
  have hown : sM.vm.findClass RX8 = some mM.cls := SM.2.2.2.1
  have hts := SM.2.2.2.2
  have hinX8 : ∀ w ∈ u_ws RX8 TX8 11, w ∈ wsX8_save := by decide +kernel
  have hlk46 : (Cond.fieldLink RX8 46 "DyckReachability" "slots" "[LDyckReachability$Edges;").before _ sM = true := hts _ (by decide +kernel)
  have hlk22 : (Cond.fieldLink RX8 22 "DyckReachability" "edges" "LDyckReachability$Edges;").before _ sM = true := hts _ (by decide +kernel)
  have hlk50 : (Cond.fieldLink RX8 50 "DyckReachability" "slotFilled" "[Z").before _ sM = true := hts _ (by decide +kernel)
  have hinX2 : ∀ w ∈ u_ws RX2 TX2 4, w ∈ wsX8_save := by decide +kernel
  have hlk92 : (Cond.fieldLink RX8 92 "DyckReachability$Edges" "size" "I").before _ sM = true := hts _ (by decide +kernel)
  have hl : lv_has ls 2 [(0, .ref o), (1, .int x)] := hl
  refine lv_iload_n hx hb dX8_save_0 rfl (lv_at hl 1 rfl) ?_
  refine zSi (W1 := [(o, .inr (5, [.int (nI V), .long sd, .ref e, .ref cp, .ref bw, .ref ds, .ref hs, .ref sl, .ref sf, .ref tx, .ref ob])), (e, .inr (1, [.ref a1, .ref a2, .ref a3, .int (nI k)])), zA G a1 16 s, zA G a2 16 t, zA G a3 16 lb, zR G sl 2 fsl, (q0, .inr (1, [.ref q1, .ref q2, .ref q3, .int (nI k0)])), zA G q1 16 s0, zA G q2 16 t0, zA G q3 16 l0, zB G sf 2 sfl]) (W2 := [(o, .inr (5, [.int (nI V), .long sd, .ref e, .ref cp, .ref bw, .ref ds, .ref hs, .ref sl, .ref sf, .ref tx, .ref ob])), (e, .inr (1, [.ref a1, .ref a2, .ref a3, .int (nI k)])), zA G a1 16 s, zA G a2 16 t, zA G a3 16 lb, zR G sl 2 fsl, (q0, .inr (1, [.ref q1, .ref q2, .ref q3, .int (nI k0)])), zA G q1 16 s0, zA G q2 16 t0, zA G q3 16 l0, zB G sf 2 sfl]) (wr := [(o, .inr (5, [.int (nI V), .long sd, .ref e, .ref cp, .ref bw, .ref ds, .ref hs, .ref sl, .ref sf, .ref tx, .ref ob])), (e, .inr (1, [.ref a1, .ref a2, .ref a3, .int (nI k)])), zA G a1 16 s, zA G a2 16 t, zA G a3 16 lb, zR G sl 2 fsl, (q0, .inr (1, [.ref q1, .ref q2, .ref q3, .int (nI k0)])), zA G q1 16 s0, zA G q2 16 t0, zA G q3 16 l0, zB G sf 2 sfl]) (rest := []) SM (c_X8_isSlot l G x ) (va_cwS 1 hts gX8_save_X8_isSlot rfl rfl rfl (by decide +kernel) ⟨Nat.le_of_ble_eq_true rfl, Nat.le_of_ble_eq_true rfl⟩) hK hE hA hP hD hS hl.1 [] [0, 1, 2, 3, 4, 5, 6, 7, 8, 9, 10] [0, 1, 2, 3, 4, 5, 6, 7, 8, 9, 10] rfl rfl rfl (by decide) rfl rfl (Nat.le_of_ble_eq_true rfl) ⟨Nat.zero_le _, Nat.zero_le _⟩ dX8_save_1 (fun H locs hP hD hS => ?_)
  refine zb_ne (tgt := 9) hx hb dX8_save_4 (by decide) (fun c_1 => ?_) (fun c_1 => ?_)
  · skip
    have hl : lv_has ls 2 [(0, .ref o), (1, .int (nI x.toInt.toNat))] := by rw [← xN_eq (x := x) (by omega)]; exact hl
    refine lv_aload_n hx hb dX8_save_9 rfl (lv_at hl 0 rfl) ?_
    refine va_get (D := G.1) (ci := 5) (v := .ref sl) (C := RX8) (T := TX8) (N := 11) hx hb hts hinX8 hown hK hP 0 rfl rfl 7 (by decide) hlk46 (fun _ h9 => h9) rfl dX8_save_10 ?_
    refine lv_iload_n hx hb dX8_save_13 rfl (lv_at hl 1 rfl) ?_
    refine zr_ald (x := q0) hx hb hK hP 5 rfl (by omega) (by omega) hq0 dX8_save_14 ?_
    refine lv_aload_n hx hb dX8_save_15 rfl (lv_at hl 0 rfl) ?_
    refine va_get (D := G.1) (ci := 5) (v := .ref e) (C := RX8) (T := TX8) (N := 11) hx hb hts hinX8 hown hK hP 0 rfl rfl 2 (by decide) hlk22 (fun _ h9 => h9) rfl dX8_save_16 ?_
    refine zVv (W1 := [(o, .inr (5, [.int (nI V), .long sd, .ref e, .ref cp, .ref bw, .ref ds, .ref hs, .ref sl, .ref sf, .ref tx, .ref ob])), (e, .inr (1, [.ref a1, .ref a2, .ref a3, .int (nI k)])), zA G a1 16 s, zA G a2 16 t, zA G a3 16 lb, zR G sl 2 fsl, (q0, .inr (1, [.ref q1, .ref q2, .ref q3, .int (nI k0)])), zA G q1 16 s0, zA G q2 16 t0, zA G q3 16 l0, zB G sf 2 sfl]) (W2 := [(o, .inr (5, [.int (nI V), .long sd, .ref e, .ref cp, .ref bw, .ref ds, .ref hs, .ref sl, .ref sf, .ref tx, .ref ob])), (e, .inr (1, [.ref a1, .ref a2, .ref a3, .int (nI k)])), zA G a1 16 s, zA G a2 16 t, zA G a3 16 lb, zR G sl 2 fsl, (q0, .inr (1, [.ref q1, .ref q2, .ref q3, .int (nI k)])), zA G q1 16 (zTk s0 s k), zA G q2 16 (zTk t0 t k), zA G q3 16 (zTk l0 lb k), zB G sf 2 sfl]) (wr := [(o, .inr (5, [.int (nI V), .long sd, .ref e, .ref cp, .ref bw, .ref ds, .ref hs, .ref sl, .ref sf, .ref tx, .ref ob])), zR G sl 2 fsl, zB G sf 2 sfl]) (rest := []) SM (c_X2_take l G q0 q1 q2 q3 16 s0 t0 l0 k0 e a1 a2 a3 16 s t lb k (by first | assumption | omega) (by first | assumption | omega) (by first | assumption | omega) (by first | assumption | omega)) (cwV 1 hts gX8_save_X2_take rfl rfl rfl (by decide +kernel) ⟨Nat.le_of_ble_eq_true rfl, Nat.le_of_ble_eq_true rfl⟩) hK hE hA hP hD hS hl.1 [6, 7, 8, 9, 1, 2, 3, 4] [0, 5, 10] [0, 7, 8, 9, 10, 1, 3, 4, 5, 6, 2] rfl rfl rfl (by decide) (ci := 1) rfl rfl rfl rfl rfl (Nat.le_of_ble_eq_true rfl) ⟨Nat.zero_le _, Nat.zero_le _⟩ dX8_save_19 (fun H locs hP hD hS => ?_)
    refine lv_aload_n hx hb dX8_save_22 rfl (lv_at hl 0 rfl) ?_
    refine va_get (D := G.1) (ci := 5) (v := .ref sf) (C := RX8) (T := TX8) (N := 11) hx hb hts hinX8 hown hK hP 0 rfl rfl 8 (by decide) hlk50 (fun _ h9 => h9) rfl dX8_save_23 ?_
    refine lv_iload_n hx hb dX8_save_26 rfl (lv_at hl 1 rfl) ?_
    refine lv_iconst (v := nI 1) hx hb dX8_save_27 (by decide) ?_
    refine zz_ast hx hb hK hP hD hS 10 rfl (by omega) (by omega) (by omega) dX8_save_28 (fun H locs hP hD hS => ?_)
    have hP : va_P G.1 vwCl [(o, .inr (5, [.int (nI V), .long sd, .ref e, .ref cp, .ref bw, .ref ds, .ref hs, .ref sl, .ref sf, .ref tx, .ref ob])), (e, .inr (1, [.ref a1, .ref a2, .ref a3, .int (nI k)])), zA G a1 16 s, zA G a2 16 t, zA G a3 16 lb, zR G sl 2 fsl, (q0, .inr (1, [.ref q1, .ref q2, .ref q3, .int (nI k)])), zA G q1 16 (zTk s0 s k), zA G q2 16 (zTk t0 t k), zA G q3 16 (zTk l0 lb k), zB G sf 2 (zU sfl x.toInt.toNat 1)] H := hP
    have hD : va_D AM [(o, .inr (5, [.int (nI V), .long sd, .ref e, .ref cp, .ref bw, .ref ds, .ref hs, .ref sl, .ref sf, .ref tx, .ref ob])), (e, .inr (1, [.ref a1, .ref a2, .ref a3, .int (nI k)])), zA G a1 16 s, zA G a2 16 t, zA G a3 16 lb, zR G sl 2 fsl, (q0, .inr (1, [.ref q1, .ref q2, .ref q3, .int (nI k)])), zA G q1 16 (zTk s0 s k), zA G q2 16 (zTk t0 t k), zA G q3 16 (zTk l0 lb k), zB G sf 2 (zU sfl x.toInt.toNat 1)] := hD
    refine lv_aload_n hx hb dX8_save_29 rfl (lv_at hl 0 rfl) ?_
    refine va_get (D := G.1) (ci := 5) (v := .ref e) (C := RX8) (T := TX8) (N := 11) hx hb hts hinX8 hown hK hP 0 rfl rfl 2 (by decide) hlk22 (fun _ h9 => h9) rfl dX8_save_30 ?_
    refine va_get (D := G.1) (ci := 1) (v := .int (nI k)) (C := RX2) (T := TX2) (N := 4) hx hb hts hinX2 hown hK hP 1 rfl rfl 3 (by decide) hlk92 (fun _ h9 => h9) rfl dX8_save_33 ?_
    exact kret _ _ _ _ _ _ rfl rfl hP hD hS dX8_save_36
  · skip
    exfalso; omega
set_option maxHeartbeats 4000000 in
set_option maxRecDepth 100000 in
theorem c_X8_restore_bad (l : Launch) (G : zG) (o e cp bw ds hs sl sf tx ob V : Nat) (sd : Int64) (sfl : Nat → Nat) (x : Int32) (hsf : ∀ i, sfl i < 2) (hb0 : ¬ ((0 ≤ x.toInt ∧ x.toInt < 2) ∧ ¬ sfl (x.toInt.toNat) = 0)) : MI l yX8_restore wsX8_restore ({ frames := 1, cells := 0, slots := 0, locals := 20 }) G [.ref o, .int x] [(o, .inr (5, [.int (nI V), .long sd, .ref e, .ref cp, .ref bw, .ref ds, .ref hs, .ref sl, .ref sf, .ref tx, .ref ob])), zB G sf 2 sfl] (zRtX sfl x) [(o, .inr (5, [.int (nI V), .long sd, .ref e, .ref cp, .ref bw, .ref ds, .ref hs, .ref sl, .ref sf, .ref tx, .ref ob])), zB G sf 2 sfl] := by
  refine MI.enter (cc := cX8_restore) (maxL := 2) (by decide) rfl (Nat.le_of_ble_eq_true rfl) rfl ?_
  intro pM eM sM mM bM tM cM QM AM ls hat kret
  obtain ⟨SM, hA, hK, hE, hP, hD, hS, hl⟩ := hat
  have hx := SM.1
  have hb := SM.2.1
  have hown : sM.vm.findClass RX8 = some mM.cls := SM.2.2.2.1
  have hts := SM.2.2.2.2
  have hinX8 : ∀ w ∈ u_ws RX8 TX8 11, w ∈ wsX8_restore := by decide +kernel
  have hlk50 : (Cond.fieldLink RX8 50 "DyckReachability" "slotFilled" "[Z").before _ sM = true := hts _ (by decide +kernel)
  have hl : lv_has ls 2 [(0, .ref o), (1, .int x)] := hl
  refine lv_iload_n hx hb dX8_restore_0 rfl (lv_at hl 1 rfl) ?_
  refine zSi (W1 := [(o, .inr (5, [.int (nI V), .long sd, .ref e, .ref cp, .ref bw, .ref ds, .ref hs, .ref sl, .ref sf, .ref tx, .ref ob])), zB G sf 2 sfl]) (W2 := [(o, .inr (5, [.int (nI V), .long sd, .ref e, .ref cp, .ref bw, .ref ds, .ref hs, .ref sl, .ref sf, .ref tx, .ref ob])), zB G sf 2 sfl]) (wr := [(o, .inr (5, [.int (nI V), .long sd, .ref e, .ref cp, .ref bw, .ref ds, .ref hs, .ref sl, .ref sf, .ref tx, .ref ob])), zB G sf 2 sfl]) (rest := []) SM (c_X8_isSlot l G x ) (va_cwS 1 hts gX8_restore_X8_isSlot rfl rfl rfl (by decide +kernel) ⟨Nat.le_of_ble_eq_true rfl, Nat.le_of_ble_eq_true rfl⟩) hK hE hA hP hD hS hl.1 [] [0, 1] [0, 1] rfl rfl rfl (by decide) rfl rfl (Nat.le_of_ble_eq_true rfl) ⟨Nat.zero_le _, Nat.zero_le _⟩ dX8_restore_1 (fun H locs hP hD hS => ?_)
  refine zb_ne (tgt := 9) hx hb dX8_restore_4 (by decide) (fun c_1 => ?_) (fun c_1 => ?_)
  · skip
    have hl : lv_has ls 2 [(0, .ref o), (1, .int (nI x.toInt.toNat))] := by rw [← xN_eq (x := x) (by omega)]; exact hl
    refine lv_aload_n hx hb dX8_restore_9 rfl (lv_at hl 0 rfl) ?_
    refine va_get (D := G.1) (ci := 5) (v := .ref sf) (C := RX8) (T := TX8) (N := 11) hx hb hts hinX8 hown hK hP 0 rfl rfl 8 (by decide) hlk50 (fun _ h9 => h9) rfl dX8_restore_10 ?_
    refine lv_iload_n hx hb dX8_restore_13 rfl (lv_at hl 1 rfl) ?_
    refine zz_ald hx hb hK hP 1 rfl (by omega) (by omega) dX8_restore_14 ?_
    have hb_2 := hsf x.toInt.toNat
    refine zd_ne (a := (sfl x.toInt.toNat : Nat)) (tgt := 21) hx hb dX8_restore_15 (by decide) (zI (by omega)) (fun c_3 => ?_) (fun c_3 => ?_)
    · skip
      exfalso; omega
    · skip
      refine lv_bipush (v := (-3)) hx hb dX8_restore_18 (by decide) ?_
      exact kret _ _ _ _ _ _ (by unfold zRtX; repeat (first | rw [if_pos (by first | assumption | omega)] | rw [if_neg (by first | assumption | omega)])) rfl hP hD hS dX8_restore_20
  · skip
    refine lv_iconst (v := (-1)) hx hb dX8_restore_7 (by decide) ?_
    exact kret _ _ _ _ _ _ (by unfold zRtX; repeat (first | rw [if_pos (by first | assumption | omega)] | rw [if_neg (by first | assumption | omega)])) rfl hP hD hS dX8_restore_8
set_option maxHeartbeats 4000000 in
set_option maxRecDepth 100000 in
theorem c_X8_restore_ok (l : Launch) (G : zG) (o e cp bw ds hs sl sf tx ob V : Nat) (sd : Int64) (a1 a2 a3 : Nat) (s t lb : Nat → Nat) (k : Nat) (fsl : Nat → Option Nat) (sfl : Nat → Nat) (q0 q1 q2 q3 : Nat) (s0 t0 l0 : Nat → Nat) (k0 : Nat) (st nx sz : Nat) (x : Int32) (hx : 0 ≤ x.toInt ∧ x.toInt < 2) (hsf : ∀ i, sfl i < 2) (hs1 : ¬ sfl (x.toInt.toNat) = 0) (hk0 : k0 ≤ 16) (hq0 : fsl (x.toInt.toNat) = some q0) : MI l yX8_restore wsX8_restore ({ frames := 3, cells := 0, slots := 0, locals := 65 }) G [.ref o, .int x] [(o, .inr (5, [.int (nI V), .long sd, .ref e, .ref cp, .ref bw, .ref ds, .ref hs, .ref sl, .ref sf, .ref tx, .ref ob])), (e, .inr (1, [.ref a1, .ref a2, .ref a3, .int (nI k)])), zA G a1 16 s, zA G a2 16 t, zA G a3 16 lb, zR G sl 2 fsl, (q0, .inr (1, [.ref q1, .ref q2, .ref q3, .int (nI k0)])), zA G q1 16 s0, zA G q2 16 t0, zA G q3 16 l0, zB G sf 2 sfl, (hs, .inr (3, [.ref st, .int (nI nx), .int (nI sz)]))] (nI k0) [(o, .inr (5, [.int (nI V), .long sd, .ref e, .ref cp, .ref bw, .ref ds, .ref hs, .ref sl, .ref sf, .ref tx, .ref ob])), (e, .inr (1, [.ref a1, .ref a2, .ref a3, .int (nI k0)])), zA G a1 16 (zTk s s0 k0), zA G a2 16 (zTk t t0 k0), zA G a3 16 (zTk lb l0 k0), zR G sl 2 fsl, (q0, .inr (1, [.ref q1, .ref q2, .ref q3, .int (nI k0)])), zA G q1 16 s0, zA G q2 16 t0, zA G q3 16 l0, zB G sf 2 sfl, (hs, .inr (3, [.ref st, .int (nI nx), .int (nI 0)]))] := by
  refine MI.enter (cc := cX8_restore) (maxL := 2) (by decide) rfl (Nat.le_of_ble_eq_true rfl) rfl ?_
  intro pM eM sM mM bM tM cM QM AM ls hat kret
  obtain ⟨SM, hA, hK, hE, hP, hD, hS, hl⟩ := hat
  have hx := SM.1
  have hb := SM.2.1
  have hown : sM.vm.findClass RX8 = some mM.cls := SM.2.2.2.1
  have hts := SM.2.2.2.2
  have hinX8 : ∀ w ∈ u_ws RX8 TX8 11, w ∈ wsX8_restore := by decide +kernel
  have hlk50 : (Cond.fieldLink RX8 50 "DyckReachability" "slotFilled" "[Z").before _ sM = true := hts _ (by decide +kernel)
  have hlk22 : (Cond.fieldLink RX8 22 "DyckReachability" "edges" "LDyckReachability$Edges;").before _ sM = true := hts _ (by decide +kernel)
  have hlk46 : (Cond.fieldLink RX8 46 "DyckReachability" "slots" "[LDyckReachability$Edges;").before _ sM = true := hts _ (by decide +kernel)
  have hlk42 : (Cond.fieldLink RX8 42 "DyckReachability" "history" "LDyckReachability$History;").before _ sM = true := hts _ (by decide +kernel)
  have hinX2 : ∀ w ∈ u_ws RX2 TX2 4, w ∈ wsX8_restore := by decide +kernel
  have hlk92 : (Cond.fieldLink RX8 92 "DyckReachability$Edges" "size" "I").before _ sM = true := hts _ (by decide +kernel)
  have hl : lv_has ls 2 [(0, .ref o), (1, .int x)] := hl
  refine lv_iload_n hx hb dX8_restore_0 rfl (lv_at hl 1 rfl) ?_
  refine zSi (W1 := [(o, .inr (5, [.int (nI V), .long sd, .ref e, .ref cp, .ref bw, .ref ds, .ref hs, .ref sl, .ref sf, .ref tx, .ref ob])), (e, .inr (1, [.ref a1, .ref a2, .ref a3, .int (nI k)])), zA G a1 16 s, zA G a2 16 t, zA G a3 16 lb, zR G sl 2 fsl, (q0, .inr (1, [.ref q1, .ref q2, .ref q3, .int (nI k0)])), zA G q1 16 s0, zA G q2 16 t0, zA G q3 16 l0, zB G sf 2 sfl, (hs, .inr (3, [.ref st, .int (nI nx), .int (nI sz)]))]) (W2 := [(o, .inr (5, [.int (nI V), .long sd, .ref e, .ref cp, .ref bw, .ref ds, .ref hs, .ref sl, .ref sf, .ref tx, .ref ob])), (e, .inr (1, [.ref a1, .ref a2, .ref a3, .int (nI k)])), zA G a1 16 s, zA G a2 16 t, zA G a3 16 lb, zR G sl 2 fsl, (q0, .inr (1, [.ref q1, .ref q2, .ref q3, .int (nI k0)])), zA G q1 16 s0, zA G q2 16 t0, zA G q3 16 l0, zB G sf 2 sfl, (hs, .inr (3, [.ref st, .int (nI nx), .int (nI sz)]))]) (wr := [(o, .inr (5, [.int (nI V), .long sd, .ref e, .ref cp, .ref bw, .ref ds, .ref hs, .ref sl, .ref sf, .ref tx, .ref ob])), (e, .inr (1, [.ref a1, .ref a2, .ref a3, .int (nI k)])), zA G a1 16 s, zA G a2 16 t, zA G a3 16 lb, zR G sl 2 fsl, (q0, .inr (1, [.ref q1, .ref q2, .ref q3, .int (nI k0)])), zA G q1 16 s0, zA G q2 16 t0, zA G q3 16 l0, zB G sf 2 sfl, (hs, .inr (3, [.ref st, .int (nI nx), .int (nI sz)]))]) (rest := []) SM (c_X8_isSlot l G x ) (va_cwS 1 hts gX8_restore_X8_isSlot rfl rfl rfl (by decide +kernel) ⟨Nat.le_of_ble_eq_true rfl, Nat.le_of_ble_eq_true rfl⟩) hK hE hA hP hD hS hl.1 [] [0, 1, 2, 3, 4, 5, 6, 7, 8, 9, 10, 11] [0, 1, 2, 3, 4, 5, 6, 7, 8, 9, 10, 11] rfl rfl rfl (by decide) rfl rfl (Nat.le_of_ble_eq_true rfl) ⟨Nat.zero_le _, Nat.zero_le _⟩ dX8_restore_1 (fun H locs hP hD hS => ?_)
  refine zb_ne (tgt := 9) hx hb dX8_restore_4 (by decide) (fun c_1 => ?_) (fun c_1 => ?_)
  · skip
    have hl : lv_has ls 2 [(0, .ref o), (1, .int (nI x.toInt.toNat))] := by rw [← xN_eq (x := x) (by omega)]; exact hl
    refine lv_aload_n hx hb dX8_restore_9 rfl (lv_at hl 0 rfl) ?_
    refine va_get (D := G.1) (ci := 5) (v := .ref sf) (C := RX8) (T := TX8) (N := 11) hx hb hts hinX8 hown hK hP 0 rfl rfl 8 (by decide) hlk50 (fun _ h9 => h9) rfl dX8_restore_10 ?_
    refine lv_iload_n hx hb dX8_restore_13 rfl (lv_at hl 1 rfl) ?_
    refine zz_ald hx hb hK hP 10 rfl (by omega) (by omega) dX8_restore_14 ?_
    have hb_2 := hsf x.toInt.toNat
    refine zd_ne (a := (sfl x.toInt.toNat : Nat)) (tgt := 21) hx hb dX8_restore_15 (by decide) (zI (by omega)) (fun c_3 => ?_) (fun c_3 => ?_)
    · skip
      refine lv_aload_n hx hb dX8_restore_21 rfl (lv_at hl 0 rfl) ?_
      refine va_get (D := G.1) (ci := 5) (v := .ref e) (C := RX8) (T := TX8) (N := 11) hx hb hts hinX8 hown hK hP 0 rfl rfl 2 (by decide) hlk22 (fun _ h9 => h9) rfl dX8_restore_22 ?_
      refine lv_aload_n hx hb dX8_restore_25 rfl (lv_at hl 0 rfl) ?_
      refine va_get (D := G.1) (ci := 5) (v := .ref sl) (C := RX8) (T := TX8) (N := 11) hx hb hts hinX8 hown hK hP 0 rfl rfl 7 (by decide) hlk46 (fun _ h9 => h9) rfl dX8_restore_26 ?_
      refine lv_iload_n hx hb dX8_restore_29 rfl (lv_at hl 1 rfl) ?_
      refine zr_ald (x := q0) hx hb hK hP 5 rfl (by omega) (by omega) hq0 dX8_restore_30 ?_
      refine zVv (W1 := [(o, .inr (5, [.int (nI V), .long sd, .ref e, .ref cp, .ref bw, .ref ds, .ref hs, .ref sl, .ref sf, .ref tx, .ref ob])), (e, .inr (1, [.ref a1, .ref a2, .ref a3, .int (nI k)])), zA G a1 16 s, zA G a2 16 t, zA G a3 16 lb, zR G sl 2 fsl, (q0, .inr (1, [.ref q1, .ref q2, .ref q3, .int (nI k0)])), zA G q1 16 s0, zA G q2 16 t0, zA G q3 16 l0, zB G sf 2 sfl, (hs, .inr (3, [.ref st, .int (nI nx), .int (nI sz)]))]) (W2 := [(o, .inr (5, [.int (nI V), .long sd, .ref e, .ref cp, .ref bw, .ref ds, .ref hs, .ref sl, .ref sf, .ref tx, .ref ob])), (e, .inr (1, [.ref a1, .ref a2, .ref a3, .int (nI k0)])), zA G a1 16 (zTk s s0 k0), zA G a2 16 (zTk t t0 k0), zA G a3 16 (zTk lb l0 k0), zR G sl 2 fsl, (q0, .inr (1, [.ref q1, .ref q2, .ref q3, .int (nI k0)])), zA G q1 16 s0, zA G q2 16 t0, zA G q3 16 l0, zB G sf 2 sfl, (hs, .inr (3, [.ref st, .int (nI nx), .int (nI sz)]))]) (wr := [(o, .inr (5, [.int (nI V), .long sd, .ref e, .ref cp, .ref bw, .ref ds, .ref hs, .ref sl, .ref sf, .ref tx, .ref ob])), zR G sl 2 fsl, zB G sf 2 sfl, (hs, .inr (3, [.ref st, .int (nI nx), .int (nI sz)]))]) (rest := []) SM (c_X2_take l G e a1 a2 a3 16 s t lb k q0 q1 q2 q3 16 s0 t0 l0 k0 (by first | assumption | omega) (by first | assumption | omega) (by first | assumption | omega) (by first | assumption | omega)) (cwV 1 hts gX8_restore_X2_take rfl rfl rfl (by decide +kernel) ⟨Nat.le_of_ble_eq_true rfl, Nat.le_of_ble_eq_true rfl⟩) hK hE hA hP hD hS hl.1 [1, 2, 3, 4, 6, 7, 8, 9] [0, 5, 10, 11] [0, 4, 5, 6, 7, 1, 8, 9, 10, 11, 2, 3] rfl rfl rfl (by decide) (ci := 1) rfl rfl rfl rfl rfl (Nat.le_of_ble_eq_true rfl) ⟨Nat.zero_le _, Nat.zero_le _⟩ dX8_restore_31 (fun H locs hP hD hS => ?_)
      refine lv_aload_n hx hb dX8_restore_34 rfl (lv_at hl 0 rfl) ?_
      refine va_get (D := G.1) (ci := 5) (v := .ref hs) (C := RX8) (T := TX8) (N := 11) hx hb hts hinX8 hown hK hP 0 rfl rfl 6 (by decide) hlk42 (fun _ h9 => h9) rfl dX8_restore_35 ?_
      refine zVv (W1 := [(o, .inr (5, [.int (nI V), .long sd, .ref e, .ref cp, .ref bw, .ref ds, .ref hs, .ref sl, .ref sf, .ref tx, .ref ob])), (e, .inr (1, [.ref a1, .ref a2, .ref a3, .int (nI k0)])), zA G a1 16 (zTk s s0 k0), zA G a2 16 (zTk t t0 k0), zA G a3 16 (zTk lb l0 k0), zR G sl 2 fsl, (q0, .inr (1, [.ref q1, .ref q2, .ref q3, .int (nI k0)])), zA G q1 16 s0, zA G q2 16 t0, zA G q3 16 l0, zB G sf 2 sfl, (hs, .inr (3, [.ref st, .int (nI nx), .int (nI sz)]))]) (W2 := [(o, .inr (5, [.int (nI V), .long sd, .ref e, .ref cp, .ref bw, .ref ds, .ref hs, .ref sl, .ref sf, .ref tx, .ref ob])), (e, .inr (1, [.ref a1, .ref a2, .ref a3, .int (nI k0)])), zA G a1 16 (zTk s s0 k0), zA G a2 16 (zTk t t0 k0), zA G a3 16 (zTk lb l0 k0), zR G sl 2 fsl, (q0, .inr (1, [.ref q1, .ref q2, .ref q3, .int (nI k0)])), zA G q1 16 s0, zA G q2 16 t0, zA G q3 16 l0, zB G sf 2 sfl, (hs, .inr (3, [.ref st, .int (nI nx), .int (nI 0)]))]) (wr := [(o, .inr (5, [.int (nI V), .long sd, .ref e, .ref cp, .ref bw, .ref ds, .ref hs, .ref sl, .ref sf, .ref tx, .ref ob])), (e, .inr (1, [.ref a1, .ref a2, .ref a3, .int (nI k0)])), zA G a1 16 (zTk s s0 k0), zA G a2 16 (zTk t t0 k0), zA G a3 16 (zTk lb l0 k0), zR G sl 2 fsl, (q0, .inr (1, [.ref q1, .ref q2, .ref q3, .int (nI k0)])), zA G q1 16 s0, zA G q2 16 t0, zA G q3 16 l0, zB G sf 2 sfl]) (rest := []) SM (c_X4_forgetAll l G hs st nx sz ) (cwV 0 hts gX8_restore_X4_forgetAll rfl rfl rfl (by decide +kernel) ⟨Nat.le_of_ble_eq_true rfl, Nat.le_of_ble_eq_true rfl⟩) hK hE hA hP hD hS hl.1 [11] [0, 1, 2, 3, 4, 5, 6, 7, 8, 9, 10] [0, 1, 2, 3, 4, 5, 6, 7, 8, 9, 10, 11] rfl rfl rfl (by decide) (ci := 3) rfl rfl rfl rfl rfl (Nat.le_of_ble_eq_true rfl) ⟨Nat.zero_le _, Nat.zero_le _⟩ dX8_restore_38 (fun H locs hP hD hS => ?_)
      refine lv_aload_n hx hb dX8_restore_41 rfl (lv_at hl 0 rfl) ?_
      refine va_get (D := G.1) (ci := 5) (v := .ref e) (C := RX8) (T := TX8) (N := 11) hx hb hts hinX8 hown hK hP 0 rfl rfl 2 (by decide) hlk22 (fun _ h9 => h9) rfl dX8_restore_42 ?_
      refine va_get (D := G.1) (ci := 1) (v := .int (nI k0)) (C := RX2) (T := TX2) (N := 4) hx hb hts hinX2 hown hK hP 1 rfl rfl 3 (by decide) hlk92 (fun _ h9 => h9) rfl dX8_restore_45 ?_
      exact kret _ _ _ _ _ _ rfl rfl hP hD hS dX8_restore_48
    · skip
      exfalso; omega
  · skip
    exfalso; omega
