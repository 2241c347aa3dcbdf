set_option maxHeartbeats 400000 in
set_option maxRecDepth 100000 in
theorem c_X9_command (l : Launch) (G : zG) (m mt mp mg mc mh ms mu of1 ot1 oi1 ml md mw th ts ps V rm on : Nat) (pv : Int32) (sd : Int64) (f wd gc : Nat → Nat) (o a b c : Nat) (hV : V ≤ 8) (hV1 : 1 ≤ V) (hL : zL2 f) (hw8 : ∀ i, wd i < 8) (hc : mOk gc) (ho10 : o < 10) (ha10 : a < 10) (hb10 : b < 10) (hc10 : c < 10) : MX ((Nat → Nat) × (Nat → Nat)) l yX9_command wsX9_command ({ frames := 4, cells := 0, slots := 0, locals := 98 }) G [.ref m, .int (nI o), .int (nI a), .int (nI b), .int (nI c)] [(m, .inr (6, [.int (nI th), .ref mt, .int (nI ts), .int (nI ps), .int pv, .ref mp, .int (nI V), .ref mg, .ref mc, .ref mh, .int (nI rm), .ref ms, .ref mu, .int (nI on), .ref of1, .ref ot1, .ref oi1, .long sd, .ref ml, .ref md, .ref mw])), zA G ml 64 f, zA G mw 96 wd, zA G mc 49 gc] (bI (decide (mCm V gc o a b c = true))) (fun u : (Nat → Nat) × (Nat → Nat) => [(m, .inr (6, [.int (nI th), .ref mt, .int (nI ts), .int (nI ps), .int pv, .ref mp, .int (nI V), .ref mg, .ref mc, .ref mh, .int (nI rm), .ref ms, .ref mu, .int (nI on), .ref of1, .ref ot1, .ref oi1, .long sd, .ref ml, .ref md, .ref mw])), zA G ml 64 u.1, zA G mw 96 u.2, zA G mc 49 (mCmG V gc o a b c)]) (fun u : (Nat → Nat) × (Nat → Nat) => zL2 u.1 ∧ ∀ i, u.2 i < 8) := by
  refine MXB.enter (cc := cX9_command) (maxL := 6) (by decide) rfl (Nat.le_of_ble_eq_true rfl) ?_
  intro pM eM sM mM bM tM cM QM AM ls hat kret
  obtain ⟨SM, hA, hK, hE, hP, hD, hS, hl⟩ := hat
  have hx := SM.1
  have hb := SM.2.1
  have hown : sM.vm.findClass RX9 = some mM.cls := SM.2.2.2.1
  have hts := SM.2.2.2.2
  have hinX9 : ∀ w ∈ u_ws RX9 TX9 21, w ∈ wsX9_command := by decide +kernel
  have hlk23 : (Cond.fieldLink RX9 23 "DyckReachabilityModel" "copy" "[I").before _ sM = true := hts _ (by decide +kernel)
  have hlk45 : (Cond.fieldLink RX9 45 "DyckReachabilityModel" "lengths" "[I").before _ sM = true := hts _ (by decide +kernel)
  have hc0 := hc.1
  have hc8 := hc.2
  have hl : lv_has ls 6 [(0, .ref m), (1, .int (nI o)), (2, .int (nI a)), (3, .int (nI b)), (4, .int (nI c))] := hl
  refine lv_bipush (v := nI 10) hx hb dX9_command_0 (by decide) ?_
  refine lv_iload_n hx hb dX9_command_2 rfl (lv_at hl 3 rfl) ?_
  refine zi_mul hx hb dX9_command_3 ?_
  refine lv_iload hx hb dX9_command_4 (lv_at hl 4 rfl) ?_
  refine zi_add hx hb dX9_command_6 ?_
  refine lv_istore (lv' := [(5, .int (nI ((10 * b) + c))), (0, .ref m), (1, .int (nI o)), (2, .int (nI a)), (3, .int (nI b)), (4, .int (nI c))]) hx hb dX9_command_7 hl (by decide) rfl (fun ls hl => ?_)
  refine lv_iload_n hx hb dX9_command_9 rfl (lv_at hl 2 rfl) ?_
  by_cases c_1k1 : o = 1
  · refine lv_tableIn (off := 34) (tgt := 44) hx hb dX9_command_10 (by rw [zI (by omega)]; omega) (by rw [zI (by omega)]; omega) (by rw [c_1k1]; decide) (by decide) ?_
    have ho : o = 1 := c_1k1
    refine lv_aload_n hx hb dX9_command_44 rfl (lv_at hl 1 rfl) ?_
    refine lv_iload_n hx hb dX9_command_45 rfl (lv_at hl 3 rfl) ?_
    refine zVi (W1 := [(m, .inr (6, [.int (nI th), .ref mt, .int (nI ts), .int (nI ps), .int pv, .ref mp, .int (nI V), .ref mg, .ref mc, .ref mh, .int (nI rm), .ref ms, .ref mu, .int (nI on), .ref of1, .ref ot1, .ref oi1, .long sd, .ref ml, .ref md, .ref mw])), zA G ml 64 f, zA G mw 96 wd, zA G mc 49 gc]) (W2 := [(m, .inr (6, [.int (nI th), .ref mt, .int (nI ts), .int (nI ps), .int pv, .ref mp, .int (nI V), .ref mg, .ref mc, .ref mh, .int (nI rm), .ref ms, .ref mu, .int (nI on), .ref of1, .ref ot1, .ref oi1, .long sd, .ref ml, .ref md, .ref mw])), zA G ml 64 f, zA G mw 96 wd, zA G mc 49 gc]) (wr := [zA G ml 64 f, zA G mw 96 wd, zA G mc 49 gc]) (rest := []) SM (c_X9_noVertex_N l G m mt mp mg mc mh ms mu of1 ot1 oi1 ml md mw th ts ps V rm on pv sd a (by omega) (by omega) (by omega)) (cwV 1 hts gX9_command_X9_noVertex rfl rfl rfl (by decide +kernel) ⟨Nat.le_of_ble_eq_true rfl, Nat.le_of_ble_eq_true rfl⟩) hK hE hA hP hD hS hl.1 [0] [1, 2, 3] [3, 0, 1, 2] rfl rfl rfl (by decide) (ci := 6) rfl rfl rfl rfl rfl (Nat.le_of_ble_eq_true rfl) ⟨Nat.zero_le _, Nat.zero_le _⟩ dX9_command_46 (fun H locs hP hD hS => ?_)
    refine zb_ne (tgt := 78) hx hb dX9_command_49 (by decide) (fun c_2 => ?_) (fun c_2 => ?_)
    · skip
      refine lv_iconst (v := nI 0) hx hb dX9_command_78 (by decide) ?_
      exact kret _ _ _ _ _ _ (f, wd) (by first | exact bI_t (by rw [mCm_1 ho]; omega) | exact bI_f (by rw [mCm_1 ho]; omega)) ⟨by first | exact hL | exact mT_2 _ _, by first | exact hw8 | exact zWd_8 hw8 hc8 _⟩ (by rw [mCmG_n (by omega) (by omega)]) hP hD hS dX9_command_79
    · skip
      refine lv_aload_n hx hb dX9_command_52 rfl (lv_at hl 1 rfl) ?_
      refine lv_iload_n hx hb dX9_command_53 rfl (lv_at hl 4 rfl) ?_
      refine zVi (W1 := [(m, .inr (6, [.int (nI th), .ref mt, .int (nI ts), .int (nI ps), .int pv, .ref mp, .int (nI V), .ref mg, .ref mc, .ref mh, .int (nI rm), .ref ms, .ref mu, .int (nI on), .ref of1, .ref ot1, .ref oi1, .long sd, .ref ml, .ref md, .ref mw])), zA G ml 64 f, zA G mw 96 wd, zA G mc 49 gc]) (W2 := [(m, .inr (6, [.int (nI th), .ref mt, .int (nI ts), .int (nI ps), .int pv, .ref mp, .int (nI V), .ref mg, .ref mc, .ref mh, .int (nI rm), .ref ms, .ref mu, .int (nI on), .ref of1, .ref ot1, .ref oi1, .long sd, .ref ml, .ref md, .ref mw])), zA G ml 64 f, zA G mw 96 wd, zA G mc 49 gc]) (wr := [zA G ml 64 f, zA G mw 96 wd, zA G mc 49 gc]) (rest := []) SM (c_X9_noVertex_N l G m mt mp mg mc mh ms mu of1 ot1 oi1 ml md mw th ts ps V rm on pv sd b (by omega) (by omega) (by omega)) (cwV 1 hts gX9_command_X9_noVertex rfl rfl rfl (by decide +kernel) ⟨Nat.le_of_ble_eq_true rfl, Nat.le_of_ble_eq_true rfl⟩) hK hE hA hP hD hS hl.1 [0] [1, 2, 3] [3, 0, 1, 2] rfl rfl rfl (by decide) (ci := 6) rfl rfl rfl rfl rfl (Nat.le_of_ble_eq_true rfl) ⟨Nat.zero_le _, Nat.zero_le _⟩ dX9_command_54 (fun H locs hP hD hS => ?_)
      refine zb_ne (tgt := 78) hx hb dX9_command_57 (by decide) (fun c_3 => ?_) (fun c_3 => ?_)
      · skip
        refine lv_iconst (v := nI 0) hx hb dX9_command_78 (by decide) ?_
        exact kret _ _ _ _ _ _ (f, wd) (by first | exact bI_t (by rw [mCm_1 ho]; omega) | exact bI_f (by rw [mCm_1 ho]; omega)) ⟨by first | exact hL | exact mT_2 _ _, by first | exact hw8 | exact zWd_8 hw8 hc8 _⟩ (by rw [mCmG_n (by omega) (by omega)]) hP hD hS dX9_command_79
      · skip
        refine lv_iload hx hb dX9_command_60 (lv_at hl 5 rfl) ?_
        refine lv_bipush (v := nI 6) hx hb dX9_command_62 (by decide) ?_
        refine zn_gt (tgt := 78) hx hb dX9_command_64 (by decide) (by omega) (by omega) (fun c_4 => ?_) (fun c_4 => ?_)
        · skip
          refine lv_iconst (v := nI 0) hx hb dX9_command_78 (by decide) ?_
          exact kret _ _ _ _ _ _ (f, wd) (by first | exact bI_t (by rw [mCm_1 ho]; omega) | exact bI_f (by rw [mCm_1 ho]; omega)) ⟨by first | exact hL | exact mT_2 _ _, by first | exact hw8 | exact zWd_8 hw8 hc8 _⟩ (by rw [mCmG_n (by omega) (by omega)]) hP hD hS dX9_command_79
        · skip
          refine lv_aload_n hx hb dX9_command_67 rfl (lv_at hl 1 rfl) ?_
          refine va_get (D := G.1) (ci := 6) (v := .ref mc) (C := RX9) (T := TX9) (N := 21) hx hb hts hinX9 hown hK hP 0 rfl rfl 8 (by decide) hlk23 (fun _ h9 => h9) rfl dX9_command_68 ?_
          refine lv_iconst (v := nI 0) hx hb dX9_command_71 (by decide) ?_
          refine zi_ald hx hb hK hP 3 rfl (by omega) (by omega) dX9_command_72 ?_
          have hb_5 := hc0
          refine lv_bipush (v := nI 16) hx hb dX9_command_73 (by decide) ?_
          refine zn_ne (tgt := 80) hx hb dX9_command_75 (by decide) (by omega) (by omega) (fun c_6 => ?_) (fun c_6 => ?_)
          · skip
            refine lv_aload_n hx hb dX9_command_80 rfl (lv_at hl 1 rfl) ?_
            refine va_get (D := G.1) (ci := 6) (v := .ref mc) (C := RX9) (T := TX9) (N := 21) hx hb hts hinX9 hown hK hP 0 rfl rfl 8 (by decide) hlk23 (fun _ h9 => h9) rfl dX9_command_81 ?_
            refine lv_iload_n hx hb dX9_command_84 rfl (lv_at hl 3 rfl) ?_
            refine lv_iload_n hx hb dX9_command_85 rfl (lv_at hl 4 rfl) ?_
            refine lv_iload hx hb dX9_command_86 (lv_at hl 5 rfl) ?_
            refine zSv (W1 := [(m, .inr (6, [.int (nI th), .ref mt, .int (nI ts), .int (nI ps), .int pv, .ref mp, .int (nI V), .ref mg, .ref mc, .ref mh, .int (nI rm), .ref ms, .ref mu, .int (nI on), .ref of1, .ref ot1, .ref oi1, .long sd, .ref ml, .ref md, .ref mw])), zA G ml 64 f, zA G mw 96 wd, zA G mc 49 gc]) (W2 := [(m, .inr (6, [.int (nI th), .ref mt, .int (nI ts), .int (nI ps), .int pv, .ref mp, .int (nI V), .ref mg, .ref mc, .ref mh, .int (nI rm), .ref ms, .ref mu, .int (nI on), .ref of1, .ref ot1, .ref oi1, .long sd, .ref ml, .ref md, .ref mw])), zA G ml 64 f, zA G mw 96 wd, zA G mc 49 (zMp gc a b c)]) (wr := [(m, .inr (6, [.int (nI th), .ref mt, .int (nI ts), .int (nI ps), .int pv, .ref mp, .int (nI V), .ref mg, .ref mc, .ref mh, .int (nI rm), .ref ms, .ref mu, .int (nI on), .ref of1, .ref ot1, .ref oi1, .long sd, .ref ml, .ref md, .ref mw])), zA G ml 64 f, zA G mw 96 wd]) (rest := []) SM (c_X9_put l G mc gc a b c (by omega)) (va_cwS 4 hts gX9_command_X9_put rfl rfl rfl (by decide +kernel) ⟨Nat.le_of_ble_eq_true rfl, Nat.le_of_ble_eq_true rfl⟩) hK hE hA hP hD hS hl.1 [3] [0, 1, 2] [0, 1, 2, 3] rfl rfl rfl (by decide) rfl rfl (Nat.le_of_ble_eq_true rfl) ⟨Nat.zero_le _, Nat.zero_le _⟩ dX9_command_88 (fun H locs hP hD hS => ?_)
            refine lv_iconst (v := nI 1) hx hb dX9_command_91 (by decide) ?_
            exact kret _ _ _ _ _ _ (f, wd) (by first | exact bI_t (by rw [mCm_1 ho]; omega) | exact bI_f (by rw [mCm_1 ho]; omega)) ⟨by first | exact hL | exact mT_2 _ _, by first | exact hw8 | exact zWd_8 hw8 hc8 _⟩ (by rw [mCmG_1 (by omega)]) hP hD hS dX9_command_92
          · skip
            refine lv_iconst (v := nI 0) hx hb dX9_command_78 (by decide) ?_
            exact kret _ _ _ _ _ _ (f, wd) (by first | exact bI_t (by rw [mCm_1 ho]; omega) | exact bI_f (by rw [mCm_1 ho]; omega)) ⟨by first | exact hL | exact mT_2 _ _, by first | exact hw8 | exact zWd_8 hw8 hc8 _⟩ (by rw [mCmG_n (by omega) (by omega)]) hP hD hS dX9_command_79
  by_cases c_1k2 : o = 2
  · refine lv_tableIn (off := 83) (tgt := 93) hx hb dX9_command_10 (by rw [zI (by omega)]; omega) (by rw [zI (by omega)]; omega) (by rw [c_1k2]; decide) (by decide) ?_
    have ho : o = 2 := c_1k2
    refine lv_iload_n hx hb dX9_command_93 rfl (lv_at hl 3 rfl) ?_
    refine zd_ne (a := (a : Nat)) (tgt := 108) hx hb dX9_command_94 (by decide) (zI (by omega)) (fun c_7 => ?_) (fun c_7 => ?_)
    · skip
      refine lv_iconst (v := nI 0) hx hb dX9_command_108 (by decide) ?_
      exact kret _ _ _ _ _ _ (f, wd) (by first | exact bI_t (by rw [mCm_2 ho]; omega) | exact bI_f (by rw [mCm_2 ho]; omega)) ⟨by first | exact hL | exact mT_2 _ _, by first | exact hw8 | exact zWd_8 hw8 hc8 _⟩ (by rw [mCmG_n (by omega) (by omega)]) hP hD hS dX9_command_109
    · skip
      refine lv_iload hx hb dX9_command_97 (lv_at hl 0 rfl) ?_
      refine lv_aload_n hx hb dX9_command_99 rfl (lv_at hl 1 rfl) ?_
      refine va_get (D := G.1) (ci := 6) (v := .ref mc) (C := RX9) (T := TX9) (N := 21) hx hb hts hinX9 hown hK hP 0 rfl rfl 8 (by decide) hlk23 (fun _ h9 => h9) rfl dX9_command_100 ?_
      refine lv_iconst (v := nI 0) hx hb dX9_command_103 (by decide) ?_
      refine zi_ald hx hb hK hP 3 rfl (by omega) (by omega) dX9_command_104 ?_
      have hb_8 := hc0
      refine zn_lt (tgt := 110) hx hb dX9_command_105 (by decide) (by omega) (by omega) (fun c_9 => ?_) (fun c_9 => ?_)
      · skip
        refine lv_aload_n hx hb dX9_command_110 rfl (lv_at hl 1 rfl) ?_
        refine va_get (D := G.1) (ci := 6) (v := .ref mc) (C := RX9) (T := TX9) (N := 21) hx hb hts hinX9 hown hK hP 0 rfl rfl 8 (by decide) hlk23 (fun _ h9 => h9) rfl dX9_command_111 ?_
        refine lv_iload hx hb dX9_command_114 (lv_at hl 0 rfl) ?_
        refine zSv (W1 := [(m, .inr (6, [.int (nI th), .ref mt, .int (nI ts), .int (nI ps), .int pv, .ref mp, .int (nI V), .ref mg, .ref mc, .ref mh, .int (nI rm), .ref ms, .ref mu, .int (nI on), .ref of1, .ref ot1, .ref oi1, .long sd, .ref ml, .ref md, .ref mw])), zA G ml 64 f, zA G mw 96 wd, zA G mc 49 gc]) (W2 := [(m, .inr (6, [.int (nI th), .ref mt, .int (nI ts), .int (nI ps), .int pv, .ref mp, .int (nI V), .ref mg, .ref mc, .ref mh, .int (nI rm), .ref ms, .ref mu, .int (nI on), .ref of1, .ref ot1, .ref oi1, .long sd, .ref ml, .ref md, .ref mw])), zA G ml 64 f, zA G mw 96 wd, zA G mc 49 (zMd gc ((10 * b) + c))]) (wr := [(m, .inr (6, [.int (nI th), .ref mt, .int (nI ts), .int (nI ps), .int pv, .ref mp, .int (nI V), .ref mg, .ref mc, .ref mh, .int (nI rm), .ref ms, .ref mu, .int (nI on), .ref of1, .ref ot1, .ref oi1, .long sd, .ref ml, .ref md, .ref mw])), zA G ml 64 f, zA G mw 96 wd]) (rest := []) SM (c_X9_drop l G mc gc ((10 * b) + c) (by omega) (by omega)) (va_cwS 2 hts gX9_command_X9_drop rfl rfl rfl (by decide +kernel) ⟨Nat.le_of_ble_eq_true rfl, Nat.le_of_ble_eq_true rfl⟩) hK hE hA hP hD hS hl.1 [3] [0, 1, 2] [0, 1, 2, 3] rfl rfl rfl (by decide) rfl rfl (Nat.le_of_ble_eq_true rfl) ⟨Nat.zero_le _, Nat.zero_le _⟩ dX9_command_116 (fun H locs hP hD hS => ?_)
        refine lv_iconst (v := nI 1) hx hb dX9_command_119 (by decide) ?_
        exact kret _ _ _ _ _ _ (f, wd) (by first | exact bI_t (by rw [mCm_2 ho]; omega) | exact bI_f (by rw [mCm_2 ho]; omega)) ⟨by first | exact hL | exact mT_2 _ _, by first | exact hw8 | exact zWd_8 hw8 hc8 _⟩ (by rw [mCmG_2 (by omega)]) hP hD hS dX9_command_120
      · skip
        refine lv_iconst (v := nI 0) hx hb dX9_command_108 (by decide) ?_
        exact kret _ _ _ _ _ _ (f, wd) (by first | exact bI_t (by rw [mCm_2 ho]; omega) | exact bI_f (by rw [mCm_2 ho]; omega)) ⟨by first | exact hL | exact mT_2 _ _, by first | exact hw8 | exact zWd_8 hw8 hc8 _⟩ (by rw [mCmG_n (by omega) (by omega)]) hP hD hS dX9_command_109
  by_cases c_1k3 : o = 3
  · refine lv_tableIn (off := 111) (tgt := 121) hx hb dX9_command_10 (by rw [zI (by omega)]; omega) (by rw [zI (by omega)]; omega) (by rw [c_1k3]; decide) (by decide) ?_
    have ho : o = 3 := c_1k3
    refine lv_aload_n hx hb dX9_command_121 rfl (lv_at hl 1 rfl) ?_
    refine lv_iload_n hx hb dX9_command_122 rfl (lv_at hl 3 rfl) ?_
    refine zVi (W1 := [(m, .inr (6, [.int (nI th), .ref mt, .int (nI ts), .int (nI ps), .int pv, .ref mp, .int (nI V), .ref mg, .ref mc, .ref mh, .int (nI rm), .ref ms, .ref mu, .int (nI on), .ref of1, .ref ot1, .ref oi1, .long sd, .ref ml, .ref md, .ref mw])), zA G ml 64 f, zA G mw 96 wd, zA G mc 49 gc]) (W2 := [(m, .inr (6, [.int (nI th), .ref mt, .int (nI ts), .int (nI ps), .int pv, .ref mp, .int (nI V), .ref mg, .ref mc, .ref mh, .int (nI rm), .ref ms, .ref mu, .int (nI on), .ref of1, .ref ot1, .ref oi1, .long sd, .ref ml, .ref md, .ref mw])), zA G ml 64 f, zA G mw 96 wd, zA G mc 49 gc]) (wr := [zA G ml 64 f, zA G mw 96 wd, zA G mc 49 gc]) (rest := []) SM (c_X9_noVertex_N l G m mt mp mg mc mh ms mu of1 ot1 oi1 ml md mw th ts ps V rm on pv sd a (by omega) (by omega) (by omega)) (cwV 1 hts gX9_command_X9_noVertex rfl rfl rfl (by decide +kernel) ⟨Nat.le_of_ble_eq_true rfl, Nat.le_of_ble_eq_true rfl⟩) hK hE hA hP hD hS hl.1 [0] [1, 2, 3] [3, 0, 1, 2] rfl rfl rfl (by decide) (ci := 6) rfl rfl rfl rfl rfl (Nat.le_of_ble_eq_true rfl) ⟨Nat.zero_le _, Nat.zero_le _⟩ dX9_command_123 (fun H locs hP hD hS => ?_)
    refine zb_ne (tgt := 143) hx hb dX9_command_126 (by decide) (fun c_10 => ?_) (fun c_10 => ?_)
    · skip
      refine lv_iconst (v := nI 0) hx hb dX9_command_143 (by decide) ?_
      exact kret _ _ _ _ _ _ (f, wd) (by first | exact bI_t (by rw [mCm_3 ho]; omega) | exact bI_f (by rw [mCm_3 ho]; omega)) ⟨by first | exact hL | exact mT_2 _ _, by first | exact hw8 | exact zWd_8 hw8 hc8 _⟩ (by rw [mCmG_n (by omega) (by omega)]) hP hD hS dX9_command_144
    · skip
      refine lv_aload_n hx hb dX9_command_129 rfl (lv_at hl 1 rfl) ?_
      refine lv_iload_n hx hb dX9_command_130 rfl (lv_at hl 4 rfl) ?_
      refine zVi (W1 := [(m, .inr (6, [.int (nI th), .ref mt, .int (nI ts), .int (nI ps), .int pv, .ref mp, .int (nI V), .ref mg, .ref mc, .ref mh, .int (nI rm), .ref ms, .ref mu, .int (nI on), .ref of1, .ref ot1, .ref oi1, .long sd, .ref ml, .ref md, .ref mw])), zA G ml 64 f, zA G mw 96 wd, zA G mc 49 gc]) (W2 := [(m, .inr (6, [.int (nI th), .ref mt, .int (nI ts), .int (nI ps), .int pv, .ref mp, .int (nI V), .ref mg, .ref mc, .ref mh, .int (nI rm), .ref ms, .ref mu, .int (nI on), .ref of1, .ref ot1, .ref oi1, .long sd, .ref ml, .ref md, .ref mw])), zA G ml 64 f, zA G mw 96 wd, zA G mc 49 gc]) (wr := [zA G ml 64 f, zA G mw 96 wd, zA G mc 49 gc]) (rest := []) SM (c_X9_noVertex_N l G m mt mp mg mc mh ms mu of1 ot1 oi1 ml md mw th ts ps V rm on pv sd b (by omega) (by omega) (by omega)) (cwV 1 hts gX9_command_X9_noVertex rfl rfl rfl (by decide +kernel) ⟨Nat.le_of_ble_eq_true rfl, Nat.le_of_ble_eq_true rfl⟩) hK hE hA hP hD hS hl.1 [0] [1, 2, 3] [3, 0, 1, 2] rfl rfl rfl (by decide) (ci := 6) rfl rfl rfl rfl rfl (Nat.le_of_ble_eq_true rfl) ⟨Nat.zero_le _, Nat.zero_le _⟩ dX9_command_131 (fun H locs hP hD hS => ?_)
      refine zb_ne (tgt := 143) hx hb dX9_command_134 (by decide) (fun c_11 => ?_) (fun c_11 => ?_)
      · skip
        refine lv_iconst (v := nI 0) hx hb dX9_command_143 (by decide) ?_
        exact kret _ _ _ _ _ _ (f, wd) (by first | exact bI_t (by rw [mCm_3 ho]; omega) | exact bI_f (by rw [mCm_3 ho]; omega)) ⟨by first | exact hL | exact mT_2 _ _, by first | exact hw8 | exact zWd_8 hw8 hc8 _⟩ (by rw [mCmG_n (by omega) (by omega)]) hP hD hS dX9_command_144
      · skip
        refine lv_iload hx hb dX9_command_137 (lv_at hl 5 rfl) ?_
        refine lv_iconst (v := nI 1) hx hb dX9_command_139 (by decide) ?_
        refine zn_le (tgt := 145) hx hb dX9_command_140 (by decide) (by omega) (by omega) (fun c_12 => ?_) (fun c_12 => ?_)
        · skip
          refine lv_aload_n hx hb dX9_command_145 rfl (lv_at hl 1 rfl) ?_
          refine lv_aload_n hx hb dX9_command_146 rfl (lv_at hl 1 rfl) ?_
          refine va_get (D := G.1) (ci := 6) (v := .ref mc) (C := RX9) (T := TX9) (N := 21) hx hb hts hinX9 hown hK hP 0 rfl rfl 8 (by decide) hlk23 (fun _ h9 => h9) rfl dX9_command_147 ?_
          refine lv_ldc (v := nI 65535) hx hb hown (hts (.constant RX9 140 (65535)) (by decide +kernel)) dX9_command_150 ?_
          refine zVv (W1 := [(m, .inr (6, [.int (nI th), .ref mt, .int (nI ts), .int (nI ps), .int pv, .ref mp, .int (nI V), .ref mg, .ref mc, .ref mh, .int (nI rm), .ref ms, .ref mu, .int (nI on), .ref of1, .ref ot1, .ref oi1, .long sd, .ref ml, .ref md, .ref mw])), zA G ml 64 f, zA G mw 96 wd, zA G mc 49 gc]) (W2 := [(m, .inr (6, [.int (nI th), .ref mt, .int (nI ts), .int (nI ps), .int pv, .ref mp, .int (nI V), .ref mg, .ref mc, .ref mh, .int (nI rm), .ref ms, .ref mu, .int (nI on), .ref of1, .ref ot1, .ref oi1, .long sd, .ref ml, .ref md, .ref mw])), zA G ml 64 (mT gc 65535), zA G mw 96 (zWd 65535 gc wd (gc 0)), zA G mc 49 gc]) (wr := []) (rest := []) SM (c_X9_closeOf l G m mt mp mg mc mh ms mu of1 ot1 oi1 ml md mw th ts ps V rm on pv sd f wd mc gc 65535 hL hw8 hc0 hc8 (by omega)) (cwV 2 hts gX9_command_X9_closeOf rfl rfl rfl (by decide +kernel) ⟨Nat.le_of_ble_eq_true rfl, Nat.le_of_ble_eq_true rfl⟩) hK hE hA hP hD hS hl.1 [0, 1, 2, 3] [] [0, 1, 2, 3] rfl rfl rfl (by decide) (ci := 6) rfl rfl rfl rfl rfl (Nat.le_of_ble_eq_true rfl) ⟨Nat.zero_le _, Nat.zero_le _⟩ dX9_command_152 (fun H locs hP hD hS => ?_)
          refine lv_aload_n hx hb dX9_command_155 rfl (lv_at hl 1 rfl) ?_
          refine lv_iload_n hx hb dX9_command_156 rfl (lv_at hl 3 rfl) ?_
          refine lv_iload_n hx hb dX9_command_157 rfl (lv_at hl 4 rfl) ?_
          refine zVi (W1 := [(m, .inr (6, [.int (nI th), .ref mt, .int (nI ts), .int (nI ps), .int pv, .ref mp, .int (nI V), .ref mg, .ref mc, .ref mh, .int (nI rm), .ref ms, .ref mu, .int (nI on), .ref of1, .ref ot1, .ref oi1, .long sd, .ref ml, .ref md, .ref mw])), zA G ml 64 (mT gc 65535), zA G mw 96 (zWd 65535 gc wd (gc 0)), zA G mc 49 gc]) (W2 := [(m, .inr (6, [.int (nI th), .ref mt, .int (nI ts), .int (nI ps), .int pv, .ref mp, .int (nI V), .ref mg, .ref mc, .ref mh, .int (nI rm), .ref ms, .ref mu, .int (nI on), .ref of1, .ref ot1, .ref oi1, .long sd, .ref ml, .ref md, .ref mw])), zA G ml 64 (mT gc 65535), zA G mw 96 (zWd 65535 gc wd (gc 0)), zA G mc 49 gc]) (wr := [zA G mw 96 (zWd 65535 gc wd (gc 0)), zA G mc 49 gc]) (rest := []) SM (c_X9_reaches l G m mt mp mg mc mh ms mu of1 ot1 oi1 ml md mw th ts ps V rm on pv sd (mT gc 65535) a b (mT_2 _ _) (by omega) (by omega)) (cwV 2 hts gX9_command_X9_reaches rfl rfl rfl (by decide +kernel) ⟨Nat.le_of_ble_eq_true rfl, Nat.le_of_ble_eq_true rfl⟩) hK hE hA hP hD hS hl.1 [0, 1] [2, 3] [2, 3, 0, 1] rfl rfl rfl (by decide) (ci := 6) rfl rfl rfl rfl rfl (Nat.le_of_ble_eq_true rfl) ⟨Nat.zero_le _, Nat.zero_le _⟩ dX9_command_158 (fun H locs hP hD hS => ?_)
          refine lv_iload hx hb dX9_command_161 (lv_at hl 5 rfl) ?_
          refine lv_iconst (v := nI 1) hx hb dX9_command_163 (by decide) ?_
          refine zn_ne (tgt := 171) hx hb dX9_command_164 (by decide) (by omega) (by omega) (fun c_13 => ?_) (fun c_13 => ?_)
          · skip
            refine lv_iconst (v := nI 0) hx hb dX9_command_171 (by decide) ?_
            refine zb1_ne_0 (tgt := 179) hx hb dX9_command_172 (by decide) (fun c_14 => ?_) (fun c_14 => ?_)
            · skip
              refine lv_iconst (v := nI 0) hx hb dX9_command_179 (by decide) ?_
              exact kret _ _ _ _ _ _ ((mT gc 65535), zWd 65535 gc wd (gc 0)) (by first | exact bI_t (by rw [mCm_3 ho]; omega) | exact bI_f (by rw [mCm_3 ho]; omega)) ⟨by first | exact hL | exact mT_2 _ _, by first | exact hw8 | exact zWd_8 hw8 hc8 _⟩ (by rw [mCmG_n (by omega) (by omega)]) hP hD hS dX9_command_180
            · skip
              refine lv_iconst (v := nI 1) hx hb dX9_command_175 (by decide) ?_
              refine lv_goto (tgt := 180) hx hb dX9_command_176 (by decide) ?_
              exact kret _ _ _ _ _ _ ((mT gc 65535), zWd 65535 gc wd (gc 0)) (by first | exact bI_t (by rw [mCm_3 ho]; omega) | exact bI_f (by rw [mCm_3 ho]; omega)) ⟨by first | exact hL | exact mT_2 _ _, by first | exact hw8 | exact zWd_8 hw8 hc8 _⟩ (by rw [mCmG_n (by omega) (by omega)]) hP hD hS dX9_command_180
          · skip
            refine lv_iconst (v := nI 1) hx hb dX9_command_167 (by decide) ?_
            refine lv_goto (tgt := 172) hx hb dX9_command_168 (by decide) ?_
            refine zb1_ne_1 (tgt := 179) hx hb dX9_command_172 (by decide) (fun c_15 => ?_) (fun c_15 => ?_)
            · skip
              refine lv_iconst (v := nI 0) hx hb dX9_command_179 (by decide) ?_
              exact kret _ _ _ _ _ _ ((mT gc 65535), zWd 65535 gc wd (gc 0)) (by first | exact bI_t (by rw [mCm_3 ho]; omega) | exact bI_f (by rw [mCm_3 ho]; omega)) ⟨by first | exact hL | exact mT_2 _ _, by first | exact hw8 | exact zWd_8 hw8 hc8 _⟩ (by rw [mCmG_n (by omega) (by omega)]) hP hD hS dX9_command_180
            · skip
              refine lv_iconst (v := nI 1) hx hb dX9_command_175 (by decide) ?_
              refine lv_goto (tgt := 180) hx hb dX9_command_176 (by decide) ?_
              exact kret _ _ _ _ _ _ ((mT gc 65535), zWd 65535 gc wd (gc 0)) (by first | exact bI_t (by rw [mCm_3 ho]; omega) | exact bI_f (by rw [mCm_3 ho]; omega)) ⟨by first | exact hL | exact mT_2 _ _, by first | exact hw8 | exact zWd_8 hw8 hc8 _⟩ (by rw [mCmG_n (by omega) (by omega)]) hP hD hS dX9_command_180
        · skip
          refine lv_iconst (v := nI 0) hx hb dX9_command_143 (by decide) ?_
          exact kret _ _ _ _ _ _ (f, wd) (by first | exact bI_t (by rw [mCm_3 ho]; omega) | exact bI_f (by rw [mCm_3 ho]; omega)) ⟨by first | exact hL | exact mT_2 _ _, by first | exact hw8 | exact zWd_8 hw8 hc8 _⟩ (by rw [mCmG_n (by omega) (by omega)]) hP hD hS dX9_command_144
  by_cases c_1k4 : o = 4
  · refine lv_tableIn (off := 171) (tgt := 181) hx hb dX9_command_10 (by rw [zI (by omega)]; omega) (by rw [zI (by omega)]; omega) (by rw [c_1k4]; decide) (by decide) ?_
    have ho : o = 4 := c_1k4
    refine lv_iload_n hx hb dX9_command_181 rfl (lv_at hl 3 rfl) ?_
    refine zd_ne (a := (a : Nat)) (tgt := 204) hx hb dX9_command_182 (by decide) (zI (by omega)) (fun c_16 => ?_) (fun c_16 => ?_)
    · skip
      refine lv_iconst (v := nI 0) hx hb dX9_command_204 (by decide) ?_
      exact kret _ _ _ _ _ _ (f, wd) (by first | exact bI_t (by rw [mCm_4 ho]; omega) | exact bI_f (by rw [mCm_4 ho]; omega)) ⟨by first | exact hL | exact mT_2 _ _, by first | exact hw8 | exact zWd_8 hw8 hc8 _⟩ (by rw [mCmG_n (by omega) (by omega)]) hP hD hS dX9_command_205
    · skip
      refine lv_aload_n hx hb dX9_command_185 rfl (lv_at hl 1 rfl) ?_
      refine lv_aload_n hx hb dX9_command_186 rfl (lv_at hl 1 rfl) ?_
      refine va_get (D := G.1) (ci := 6) (v := .ref mc) (C := RX9) (T := TX9) (N := 21) hx hb hts hinX9 hown hK hP 0 rfl rfl 8 (by decide) hlk23 (fun _ h9 => h9) rfl dX9_command_187 ?_
      refine lv_ldc (v := nI 65535) hx hb hown (hts (.constant RX9 140 (65535)) (by decide +kernel)) dX9_command_190 ?_
      refine zVi (W1 := [(m, .inr (6, [.int (nI th), .ref mt, .int (nI ts), .int (nI ps), .int pv, .ref mp, .int (nI V), .ref mg, .ref mc, .ref mh, .int (nI rm), .ref ms, .ref mu, .int (nI on), .ref of1, .ref ot1, .ref oi1, .long sd, .ref ml, .ref md, .ref mw])), zA G ml 64 f, zA G mw 96 wd, zA G mc 49 gc]) (W2 := [(m, .inr (6, [.int (nI th), .ref mt, .int (nI ts), .int (nI ps), .int pv, .ref mp, .int (nI V), .ref mg, .ref mc, .ref mh, .int (nI rm), .ref ms, .ref mu, .int (nI on), .ref of1, .ref ot1, .ref oi1, .long sd, .ref ml, .ref md, .ref mw])), zA G ml 64 (mT gc 65535), zA G mw 96 (zWd 65535 gc wd (gc 0)), zA G mc 49 gc]) (wr := []) (rest := []) SM (c_X9_pairsOf l G m mt mp mg mc mh ms mu of1 ot1 oi1 ml md mw th ts ps V rm on pv sd f wd mc gc 65535 (by omega) hL hw8 hc0 hc8 (by omega)) (cwV 2 hts gX9_command_X9_pairsOf rfl rfl rfl (by decide +kernel) ⟨Nat.le_of_ble_eq_true rfl, Nat.le_of_ble_eq_true rfl⟩) hK hE hA hP hD hS hl.1 [0, 1, 2, 3] [] [0, 1, 2, 3] rfl rfl rfl (by decide) (ci := 6) rfl rfl rfl rfl rfl (Nat.le_of_ble_eq_true rfl) ⟨Nat.zero_le _, Nat.zero_le _⟩ dX9_command_192 (fun H locs hP hD hS => ?_)
      have hpl := mPr_le V gc 65535
      refine lv_iload hx hb dX9_command_195 (lv_at hl 0 rfl) ?_
      refine zn_ne (tgt := 204) hx hb dX9_command_197 (by decide) (by omega) (by omega) (fun c_17 => ?_) (fun c_17 => ?_)
      · skip
        refine lv_iconst (v := nI 0) hx hb dX9_command_204 (by decide) ?_
        exact kret _ _ _ _ _ _ (mT gc 65535, zWd 65535 gc wd (gc 0)) (by first | exact bI_t (by rw [mCm_4 ho]; omega) | exact bI_f (by rw [mCm_4 ho]; omega)) ⟨by first | exact hL | exact mT_2 _ _, by first | exact hw8 | exact zWd_8 hw8 hc8 _⟩ (by rw [mCmG_n (by omega) (by omega)]) hP hD hS dX9_command_205
      · skip
        refine lv_iconst (v := nI 1) hx hb dX9_command_200 (by decide) ?_
        refine lv_goto (tgt := 205) hx hb dX9_command_201 (by decide) ?_
        exact kret _ _ _ _ _ _ (mT gc 65535, zWd 65535 gc wd (gc 0)) (by first | exact bI_t (by rw [mCm_4 ho]; omega) | exact bI_f (by rw [mCm_4 ho]; omega)) ⟨by first | exact hL | exact mT_2 _ _, by first | exact hw8 | exact zWd_8 hw8 hc8 _⟩ (by rw [mCmG_n (by omega) (by omega)]) hP hD hS dX9_command_205
  by_cases c_1k5 : o = 5
  · refine lv_tableIn (off := 196) (tgt := 206) hx hb dX9_command_10 (by rw [zI (by omega)]; omega) (by rw [zI (by omega)]; omega) (by rw [c_1k5]; decide) (by decide) ?_
    have ho : o = 5 := c_1k5
    refine lv_aload_n hx hb dX9_command_206 rfl (lv_at hl 1 rfl) ?_
    refine lv_iload_n hx hb dX9_command_207 rfl (lv_at hl 3 rfl) ?_
    refine zVi (W1 := [(m, .inr (6, [.int (nI th), .ref mt, .int (nI ts), .int (nI ps), .int pv, .ref mp, .int (nI V), .ref mg, .ref mc, .ref mh, .int (nI rm), .ref ms, .ref mu, .int (nI on), .ref of1, .ref ot1, .ref oi1, .long sd, .ref ml, .ref md, .ref mw])), zA G ml 64 f, zA G mw 96 wd, zA G mc 49 gc]) (W2 := [(m, .inr (6, [.int (nI th), .ref mt, .int (nI ts), .int (nI ps), .int pv, .ref mp, .int (nI V), .ref mg, .ref mc, .ref mh, .int (nI rm), .ref ms, .ref mu, .int (nI on), .ref of1, .ref ot1, .ref oi1, .long sd, .ref ml, .ref md, .ref mw])), zA G ml 64 f, zA G mw 96 wd, zA G mc 49 gc]) (wr := [zA G ml 64 f, zA G mw 96 wd, zA G mc 49 gc]) (rest := []) SM (c_X9_noVertex_N l G m mt mp mg mc mh ms mu of1 ot1 oi1 ml md mw th ts ps V rm on pv sd a (by omega) (by omega) (by omega)) (cwV 1 hts gX9_command_X9_noVertex rfl rfl rfl (by decide +kernel) ⟨Nat.le_of_ble_eq_true rfl, Nat.le_of_ble_eq_true rfl⟩) hK hE hA hP hD hS hl.1 [0] [1, 2, 3] [3, 0, 1, 2] rfl rfl rfl (by decide) (ci := 6) rfl rfl rfl rfl rfl (Nat.le_of_ble_eq_true rfl) ⟨Nat.zero_le _, Nat.zero_le _⟩ dX9_command_208 (fun H locs hP hD hS => ?_)
    refine zb_ne (tgt := 222) hx hb dX9_command_211 (by decide) (fun c_18 => ?_) (fun c_18 => ?_)
    · skip
      refine lv_iconst (v := nI 0) hx hb dX9_command_222 (by decide) ?_
      exact kret _ _ _ _ _ _ (f, wd) (by first | exact bI_t (by rw [mCm_5 ho]; omega) | exact bI_f (by rw [mCm_5 ho]; omega)) ⟨by first | exact hL | exact mT_2 _ _, by first | exact hw8 | exact zWd_8 hw8 hc8 _⟩ (by rw [mCmG_n (by omega) (by omega)]) hP hD hS dX9_command_223
    · skip
      refine lv_aload_n hx hb dX9_command_214 rfl (lv_at hl 1 rfl) ?_
      refine lv_iload_n hx hb dX9_command_215 rfl (lv_at hl 4 rfl) ?_
      refine zVi (W1 := [(m, .inr (6, [.int (nI th), .ref mt, .int (nI ts), .int (nI ps), .int pv, .ref mp, .int (nI V), .ref mg, .ref mc, .ref mh, .int (nI rm), .ref ms, .ref mu, .int (nI on), .ref of1, .ref ot1, .ref oi1, .long sd, .ref ml, .ref md, .ref mw])), zA G ml 64 f, zA G mw 96 wd, zA G mc 49 gc]) (W2 := [(m, .inr (6, [.int (nI th), .ref mt, .int (nI ts), .int (nI ps), .int pv, .ref mp, .int (nI V), .ref mg, .ref mc, .ref mh, .int (nI rm), .ref ms, .ref mu, .int (nI on), .ref of1, .ref ot1, .ref oi1, .long sd, .ref ml, .ref md, .ref mw])), zA G ml 64 f, zA G mw 96 wd, zA G mc 49 gc]) (wr := [zA G ml 64 f, zA G mw 96 wd, zA G mc 49 gc]) (rest := []) SM (c_X9_noVertex_N l G m mt mp mg mc mh ms mu of1 ot1 oi1 ml md mw th ts ps V rm on pv sd b (by omega) (by omega) (by omega)) (cwV 1 hts gX9_command_X9_noVertex rfl rfl rfl (by decide +kernel) ⟨Nat.le_of_ble_eq_true rfl, Nat.le_of_ble_eq_true rfl⟩) hK hE hA hP hD hS hl.1 [0] [1, 2, 3] [3, 0, 1, 2] rfl rfl rfl (by decide) (ci := 6) rfl rfl rfl rfl rfl (Nat.le_of_ble_eq_true rfl) ⟨Nat.zero_le _, Nat.zero_le _⟩ dX9_command_216 (fun H locs hP hD hS => ?_)
      refine zb_eq (tgt := 224) hx hb dX9_command_219 (by decide) (fun c_19 => ?_) (fun c_19 => ?_)
      · skip
        refine lv_aload_n hx hb dX9_command_224 rfl (lv_at hl 1 rfl) ?_
        refine lv_aload_n hx hb dX9_command_225 rfl (lv_at hl 1 rfl) ?_
        refine va_get (D := G.1) (ci := 6) (v := .ref mc) (C := RX9) (T := TX9) (N := 21) hx hb hts hinX9 hown hK hP 0 rfl rfl 8 (by decide) hlk23 (fun _ h9 => h9) rfl dX9_command_226 ?_
        refine lv_ldc (v := nI 65535) hx hb hown (hts (.constant RX9 140 (65535)) (by decide +kernel)) dX9_command_229 ?_
        refine zVv (W1 := [(m, .inr (6, [.int (nI th), .ref mt, .int (nI ts), .int (nI ps), .int pv, .ref mp, .int (nI V), .ref mg, .ref mc, .ref mh, .int (nI rm), .ref ms, .ref mu, .int (nI on), .ref of1, .ref ot1, .ref oi1, .long sd, .ref ml, .ref md, .ref mw])), zA G ml 64 f, zA G mw 96 wd, zA G mc 49 gc]) (W2 := [(m, .inr (6, [.int (nI th), .ref mt, .int (nI ts), .int (nI ps), .int pv, .ref mp, .int (nI V), .ref mg, .ref mc, .ref mh, .int (nI rm), .ref ms, .ref mu, .int (nI on), .ref of1, .ref ot1, .ref oi1, .long sd, .ref ml, .ref md, .ref mw])), zA G ml 64 (mT gc 65535), zA G mw 96 (zWd 65535 gc wd (gc 0)), zA G mc 49 gc]) (wr := []) (rest := []) SM (c_X9_closeOf l G m mt mp mg mc mh ms mu of1 ot1 oi1 ml md mw th ts ps V rm on pv sd f wd mc gc 65535 hL hw8 hc0 hc8 (by omega)) (cwV 2 hts gX9_command_X9_closeOf rfl rfl rfl (by decide +kernel) ⟨Nat.le_of_ble_eq_true rfl, Nat.le_of_ble_eq_true rfl⟩) hK hE hA hP hD hS hl.1 [0, 1, 2, 3] [] [0, 1, 2, 3] rfl rfl rfl (by decide) (ci := 6) rfl rfl rfl rfl rfl (Nat.le_of_ble_eq_true rfl) ⟨Nat.zero_le _, Nat.zero_le _⟩ dX9_command_231 (fun H locs hP hD hS => ?_)
        refine lv_aload_n hx hb dX9_command_234 rfl (lv_at hl 1 rfl) ?_
        refine va_get (D := G.1) (ci := 6) (v := .ref ml) (C := RX9) (T := TX9) (N := 21) hx hb hts hinX9 hown hK hP 0 rfl rfl 18 (by decide) hlk45 (fun _ h9 => h9) rfl dX9_command_235 ?_
        refine lv_bipush (v := nI 8) hx hb dX9_command_238 (by decide) ?_
        refine lv_iload_n hx hb dX9_command_240 rfl (lv_at hl 3 rfl) ?_
        refine zi_mul hx hb dX9_command_241 ?_
        refine lv_iload_n hx hb dX9_command_242 rfl (lv_at hl 4 rfl) ?_
        refine zi_add hx hb dX9_command_243 ?_
        refine zi_ald hx hb hK hP 1 rfl (by omega) (by omega) dX9_command_244 ?_
        have hb_20 := mT_2 gc 65535 ((8 * a) + b)
        refine lv_iload hx hb dX9_command_245 (lv_at hl 5 rfl) ?_
        refine zn_ne (tgt := 254) hx hb dX9_command_247 (by decide) (by omega) (by omega) (fun c_21 => ?_) (fun c_21 => ?_)
        · skip
          refine lv_iconst (v := nI 0) hx hb dX9_command_254 (by decide) ?_
          exact kret _ _ _ _ _ _ (mT gc 65535, zWd 65535 gc wd (gc 0)) (by first | exact bI_t (by rw [mCm_5 ho]; omega) | exact bI_f (by rw [mCm_5 ho]; omega)) ⟨by first | exact hL | exact mT_2 _ _, by first | exact hw8 | exact zWd_8 hw8 hc8 _⟩ (by rw [mCmG_n (by omega) (by omega)]) hP hD hS dX9_command_255
        · skip
          refine lv_iconst (v := nI 1) hx hb dX9_command_250 (by decide) ?_
          refine lv_goto (tgt := 255) hx hb dX9_command_251 (by decide) ?_
          exact kret _ _ _ _ _ _ (mT gc 65535, zWd 65535 gc wd (gc 0)) (by first | exact bI_t (by rw [mCm_5 ho]; omega) | exact bI_f (by rw [mCm_5 ho]; omega)) ⟨by first | exact hL | exact mT_2 _ _, by first | exact hw8 | exact zWd_8 hw8 hc8 _⟩ (by rw [mCmG_n (by omega) (by omega)]) hP hD hS dX9_command_255
      · skip
        refine lv_iconst (v := nI 0) hx hb dX9_command_222 (by decide) ?_
        exact kret _ _ _ _ _ _ (f, wd) (by first | exact bI_t (by rw [mCm_5 ho]; omega) | exact bI_f (by rw [mCm_5 ho]; omega)) ⟨by first | exact hL | exact mT_2 _ _, by first | exact hw8 | exact zWd_8 hw8 hc8 _⟩ (by rw [mCmG_n (by omega) (by omega)]) hP hD hS dX9_command_223
  refine lv_tableOut (tgt := 256) hx hb dX9_command_10 (by rw [zI (by omega)]; omega) (by decide) ?_
  refine lv_iconst (v := nI 0) hx hb dX9_command_256 (by decide) ?_
  exact kret _ _ _ _ _ _ (f, wd) (bI_f (mCm_6 (by omega))) ⟨by first | exact hL | exact mT_2 _ _, by first | exact hw8 | exact zWd_8 hw8 hc8 _⟩ (by rw [mCmG_n (by omega) (by omega)]) hP hD hS dX9_command_257
set_option maxHeartbeats 400000 in
set_option maxRecDepth 100000 in
theorem c_X9_runScript_bad (l : Launch) (G : zG) (m mt mp mg mc mh ms mu of1 ot1 oi1 ml md mw th ts ps V rm on : Nat) (pv : Int32) (sd : Int64) (x : Int32) (y : Int64) (N : Nat) (hN : N = 10000 ^ x.toInt.toNat) (hN4 : x.toInt ≤ 4 → 1 ≤ N ∧ N ≤ 10000000000000000) (hb0 : ¬ ((1 ≤ x.toInt ∧ x.toInt ≤ 4) ∧ 0 ≤ y.toInt ∧ y.toInt < N)) : MI l yX9_runScript wsX9_runScript ({ frames := 1, cells := 0, slots := 0, locals := 25 }) G [.ref m, .int x, .long y] [(m, .inr (6, [.int (nI th), .ref mt, .int (nI ts), .int (nI ps), .int pv, .ref mp, .int (nI V), .ref mg, .ref mc, .ref mh, .int (nI rm), .ref ms, .ref mu, .int (nI on), .ref of1, .ref ot1, .ref oi1, .long sd, .ref ml, .ref md, .ref mw]))] (-2) [(m, .inr (6, [.int (nI 0), .ref mt, .int (nI ts), .int (nI ps), .int pv, .ref mp, .int (nI V), .ref mg, .ref mc, .ref mh, .int (nI rm), .ref ms, .ref mu, .int (nI on), .ref of1, .ref ot1, .ref oi1, .long sd, .ref ml, .ref md, .ref mw]))] := by
  refine MI.enter (cc := cX9_runScript) (maxL := 6) (by decide) rfl (Nat.le_of_ble_eq_true rfl) rfl ?_
  intro pM eM sM mM bM tM cM QM AM ls hat kret
  obtain ⟨SM, hA, hK, hE, hP, hD, hS, hl⟩ := hat
  have hx := SM.1
  have hb := SM.2.1
  have hown : sM.vm.findClass RX9 = some mM.cls := SM.2.2.2.1
  have hts := SM.2.2.2.2
  have hinX9 : ∀ w ∈ u_ws RX9 TX9 21, w ∈ wsX9_runScript := by decide +kernel
  have hlk54 : (Cond.fieldLink RX9 54 "DyckReachabilityModel" "thrown" "I").before _ sM = true := hts _ (by decide +kernel)
  have hl : lv_has ls 6 [(0, .ref m), (1, .int x), (2, .long y)] := hl
  refine lv_aload_n hx hb dX9_runScript_0 rfl (lv_at hl 0 rfl) ?_
  refine lv_iconst (v := nI 0) hx hb dX9_runScript_1 (by decide) ?_
  refine va_put (D := G.1) (ci := 6) (v := .int (nI 0)) (ty := .int) (C := RX9) (T := TX9) (N := 21) hx hb hts hinX9 tyX9 tyX9_ok nmX9 hown hK hP hD hS 0 rfl rfl 0 (by decide) hlk54 (fun _ h9 => h9) rfl (by decide +kernel) rfl rfl (Nat.le_of_ble_eq_true rfl) dX9_runScript_2 (fun H locs hP hD hS => ?_)
  have hP : va_P G.1 vwCl [(m, .inr (6, [.int (nI 0), .ref mt, .int (nI ts), .int (nI ps), .int pv, .ref mp, .int (nI V), .ref mg, .ref mc, .ref mh, .int (nI rm), .ref ms, .ref mu, .int (nI on), .ref of1, .ref ot1, .ref oi1, .long sd, .ref ml, .ref md, .ref mw]))] H := hP
  have hD : va_D AM [(m, .inr (6, [.int (nI 0), .ref mt, .int (nI ts), .int (nI ps), .int pv, .ref mp, .int (nI V), .ref mg, .ref mc, .ref mh, .int (nI rm), .ref ms, .ref mu, .int (nI on), .ref of1, .ref ot1, .ref oi1, .long sd, .ref ml, .ref md, .ref mw]))] := hD
  refine lv_iload_n hx hb dX9_runScript_5 rfl (lv_at hl 1 rfl) ?_
  refine lv_i2l hx hb dX9_runScript_6 rfl ?_
  refine lv_lconst (v := lN 1) hx hb dX9_runScript_7 (by decide) ?_
  refine lv_ldc2 (v := lN 4) hx hb hown (hts (.constantLong RX9 167 (4)) (by decide +kernel)) dX9_runScript_8 ?_
  refine zSi (W1 := [(m, .inr (6, [.int (nI 0), .ref mt, .int (nI ts), .int (nI ps), .int pv, .ref mp, .int (nI V), .ref mg, .ref mc, .ref mh, .int (nI rm), .ref ms, .ref mu, .int (nI on), .ref of1, .ref ot1, .ref oi1, .long sd, .ref ml, .ref md, .ref mw]))]) (W2 := [(m, .inr (6, [.int (nI 0), .ref mt, .int (nI ts), .int (nI ps), .int pv, .ref mp, .int (nI V), .ref mg, .ref mc, .ref mh, .int (nI rm), .ref ms, .ref mu, .int (nI on), .ref of1, .ref ot1, .ref oi1, .long sd, .ref ml, .ref md, .ref mw]))]) (wr := [(m, .inr (6, [.int (nI 0), .ref mt, .int (nI ts), .int (nI ps), .int pv, .ref mp, .int (nI V), .ref mg, .ref mc, .ref mh, .int (nI rm), .ref ms, .ref mu, .int (nI on), .ref of1, .ref ot1, .ref oi1, .long sd, .ref ml, .ref md, .ref mw]))]) (rest := []) SM (c_X9_in_X l G (x) 1 4 (by omega) (by omega)) (va_cwS 3 hts gX9_runScript_X9_in rfl rfl rfl (by decide +kernel) ⟨Nat.le_of_ble_eq_true rfl, Nat.le_of_ble_eq_true rfl⟩) hK hE hA hP hD hS hl.1 [] [0] [0] rfl rfl rfl (by decide) rfl rfl (Nat.le_of_ble_eq_true rfl) ⟨Nat.zero_le _, Nat.zero_le _⟩ dX9_runScript_11 (fun H locs hP hD hS => ?_)
  refine zb_eq (tgt := 31) hx hb dX9_runScript_14 (by decide) (fun c_1 => ?_) (fun c_1 => ?_)
  · skip
    refine lv_bipush (v := (-2)) hx hb dX9_runScript_31 (by decide) ?_
    exact kret _ _ _ _ _ _ rfl rfl hP hD hS dX9_runScript_33
  · skip
    have hl : lv_has ls 6 [(0, .ref m), (1, .int (nI x.toInt.toNat)), (2, .long y)] := by rw [← xN_eq (x := x) (by omega)]; exact hl
    refine lv_lload_n hx hb dX9_runScript_17 rfl (lv_at hl 2 rfl) ?_
    refine lv_lconst (v := lN 0) hx hb dX9_runScript_18 (by decide) ?_
    refine lv_iload_n hx hb dX9_runScript_19 rfl (lv_at hl 1 rfl) ?_
    refine zSl (W1 := [(m, .inr (6, [.int (nI 0), .ref mt, .int (nI ts), .int (nI ps), .int pv, .ref mp, .int (nI V), .ref mg, .ref mc, .ref mh, .int (nI rm), .ref ms, .ref mu, .int (nI on), .ref of1, .ref ot1, .ref oi1, .long sd, .ref ml, .ref md, .ref mw]))]) (W2 := [(m, .inr (6, [.int (nI 0), .ref mt, .int (nI ts), .int (nI ps), .int pv, .ref mp, .int (nI V), .ref mg, .ref mc, .ref mh, .int (nI rm), .ref ms, .ref mu, .int (nI on), .ref of1, .ref ot1, .ref oi1, .long sd, .ref ml, .ref md, .ref mw]))]) (wr := [(m, .inr (6, [.int (nI 0), .ref mt, .int (nI ts), .int (nI ps), .int pv, .ref mp, .int (nI V), .ref mg, .ref mc, .ref mh, .int (nI rm), .ref ms, .ref mu, .int (nI on), .ref of1, .ref ot1, .ref oi1, .long sd, .ref ml, .ref md, .ref mw]))]) (rest := [.long (lN 0), .long y]) SM (c_X9_tenThousands l G x.toInt.toNat (by omega)) (va_cwS 1 hts gX9_runScript_X9_tenThousands rfl rfl rfl (by decide +kernel) ⟨Nat.le_of_ble_eq_true rfl, Nat.le_of_ble_eq_true rfl⟩) hK hE hA hP hD hS hl.1 [] [0] [0] rfl rfl rfl (by decide) rfl rfl (Nat.le_of_ble_eq_true rfl) ⟨Nat.zero_le _, Nat.zero_le _⟩ dX9_runScript_20 (fun H locs hP hD hS => ?_)
    refine ztl (y := lN N) (congrArg lN hN.symm) ?_
    refine lv_lconst (v := lN 1) hx hb dX9_runScript_23 (by decide) ?_
    refine zl_sub hx hb dX9_runScript_24 (by omega) ?_
    refine zSi (W1 := [(m, .inr (6, [.int (nI 0), .ref mt, .int (nI ts), .int (nI ps), .int pv, .ref mp, .int (nI V), .ref mg, .ref mc, .ref mh, .int (nI rm), .ref ms, .ref mu, .int (nI on), .ref of1, .ref ot1, .ref oi1, .long sd, .ref ml, .ref md, .ref mw]))]) (W2 := [(m, .inr (6, [.int (nI 0), .ref mt, .int (nI ts), .int (nI ps), .int pv, .ref mp, .int (nI V), .ref mg, .ref mc, .ref mh, .int (nI rm), .ref ms, .ref mu, .int (nI on), .ref of1, .ref ot1, .ref oi1, .long sd, .ref ml, .ref md, .ref mw]))]) (wr := [(m, .inr (6, [.int (nI 0), .ref mt, .int (nI ts), .int (nI ps), .int pv, .ref mp, .int (nI V), .ref mg, .ref mc, .ref mh, .int (nI rm), .ref ms, .ref mu, .int (nI on), .ref of1, .ref ot1, .ref oi1, .long sd, .ref ml, .ref md, .ref mw]))]) (rest := []) SM (c_X9_in_L l G y 0 (N - 1) (by omega) (by omega)) (va_cwS 3 hts gX9_runScript_X9_in rfl rfl rfl (by decide +kernel) ⟨Nat.le_of_ble_eq_true rfl, Nat.le_of_ble_eq_true rfl⟩) hK hE hA hP hD hS hl.1 [] [0] [0] rfl rfl rfl (by decide) rfl rfl (Nat.le_of_ble_eq_true rfl) ⟨Nat.zero_le _, Nat.zero_le _⟩ dX9_runScript_25 (fun H locs hP hD hS => ?_)
    refine zb_ne (tgt := 34) hx hb dX9_runScript_28 (by decide) (fun c_2 => ?_) (fun c_2 => ?_)
    · skip
      exfalso; omega
    · skip
      refine lv_bipush (v := (-2)) hx hb dX9_runScript_31 (by decide) ?_
      exact kret _ _ _ _ _ _ rfl rfl hP hD hS dX9_runScript_33
set_option maxHeartbeats 400000 in
set_option maxRecDepth 100000 in
theorem c_X9_runScript_ok (l : Launch) (G : zG) (m mt mp mg mc mh ms mu of1 ot1 oi1 ml md mw th ts ps V rm on : Nat) (pv : Int32) (sd : Int64) (f wd g : Nat → Nat) (gc : Nat → Nat) (x : Int32) (y : Int64) (N : Nat) (hV : V ≤ 8) (hV1 : 1 ≤ V) (hL : zL2 f) (hw8 : ∀ i, wd i < 8) (hg0 : g 0 ≤ 16) (hg8 : ∀ i, 1 ≤ i → g i < 8) (hN : N = 10000 ^ x.toInt.toNat) (hN4 : x.toInt ≤ 4 → 1 ≤ N ∧ N ≤ 10000000000000000) (hxy : (1 ≤ x.toInt ∧ x.toInt ≤ 4) ∧ 0 ≤ y.toInt ∧ y.toInt < N) : MX ((Nat → Nat) × (Nat → Nat) × (Nat → Nat)) l yX9_runScript wsX9_runScript ({ frames := 5, cells := 0, slots := 0, locals := 123 }) G [.ref m, .int x, .long y] [(m, .inr (6, [.int (nI th), .ref mt, .int (nI ts), .int (nI ps), .int pv, .ref mp, .int (nI V), .ref mg, .ref mc, .ref mh, .int (nI rm), .ref ms, .ref mu, .int (nI on), .ref of1, .ref ot1, .ref oi1, .long sd, .ref ml, .ref md, .ref mw])), zA G ml 64 f, zA G mw 96 wd, zA G mg 49 g, zA G mc 49 gc] (mRs V x.toInt.toNat y.toInt.toNat x.toInt.toNat 0 g) (fun u : (Nat → Nat) × (Nat → Nat) × (Nat → Nat) => [(m, .inr (6, [.int (nI 0), .ref mt, .int (nI ts), .int (nI ps), .int pv, .ref mp, .int (nI V), .ref mg, .ref mc, .ref mh, .int (nI rm), .ref ms, .ref mu, .int (nI on), .ref of1, .ref ot1, .ref oi1, .long sd, .ref ml, .ref md, .ref mw])), zA G ml 64 u.1, zA G mw 96 u.2.1, zA G mg 49 g, zA G mc 49 u.2.2]) (fun u : (Nat → Nat) × (Nat → Nat) × (Nat → Nat) => zL2 u.1 ∧ (∀ i, u.2.1 i < 8) ∧ mOk u.2.2) := by
  refine MX.enter (cc := cX9_runScript) (maxL := 6) (by decide) rfl (Nat.le_of_ble_eq_true rfl) ?_
  intro pM eM sM mM bM tM cM QM AM ls hat kret
  obtain ⟨SM, hA, hK, hE, hP, hD, hS, hl⟩ := hat
  have hx := SM.1
  have hb := SM.2.1
  have hown : sM.vm.findClass RX9 = some mM.cls := SM.2.2.2.1
  have hts := SM.2.2.2.2
  have hinX9 : ∀ w ∈ u_ws RX9 TX9 21, w ∈ wsX9_runScript := by decide +kernel
  have hlk54 : (Cond.fieldLink RX9 54 "DyckReachabilityModel" "thrown" "I").before _ sM = true := hts _ (by decide +kernel)
  have hlk20 : (Cond.fieldLink RX9 20 "DyckReachabilityModel" "graph" "[I").before _ sM = true := hts _ (by decide +kernel)
  have hlk23 : (Cond.fieldLink RX9 23 "DyckReachabilityModel" "copy" "[I").before _ sM = true := hts _ (by decide +kernel)
  have hl : lv_has ls 6 [(0, .ref m), (1, .int x), (2, .long y)] := hl
  refine lv_aload_n hx hb dX9_runScript_0 rfl (lv_at hl 0 rfl) ?_
  refine lv_iconst (v := nI 0) hx hb dX9_runScript_1 (by decide) ?_
  refine va_put (D := G.1) (ci := 6) (v := .int (nI 0)) (ty := .int) (C := RX9) (T := TX9) (N := 21) hx hb hts hinX9 tyX9 tyX9_ok nmX9 hown hK hP hD hS 0 rfl rfl 0 (by decide) hlk54 (fun _ h9 => h9) rfl (by decide +kernel) rfl rfl (Nat.le_of_ble_eq_true rfl) dX9_runScript_2 (fun H locs hP hD hS => ?_)
  have hP : va_P G.1 vwCl [(m, .inr (6, [.int (nI 0), .ref mt, .int (nI ts), .int (nI ps), .int pv, .ref mp, .int (nI V), .ref mg, .ref mc, .ref mh, .int (nI rm), .ref ms, .ref mu, .int (nI on), .ref of1, .ref ot1, .ref oi1, .long sd, .ref ml, .ref md, .ref mw])), zA G ml 64 f, zA G mw 96 wd, zA G mg 49 g, zA G mc 49 gc] H := hP
  have hD : va_D AM [(m, .inr (6, [.int (nI 0), .ref mt, .int (nI ts), .int (nI ps), .int pv, .ref mp, .int (nI V), .ref mg, .ref mc, .ref mh, .int (nI rm), .ref ms, .ref mu, .int (nI on), .ref of1, .ref ot1, .ref oi1, .long sd, .ref ml, .ref md, .ref mw])), zA G ml 64 f, zA G mw 96 wd, zA G mg 49 g, zA G mc 49 gc] := hD
  refine lv_iload_n hx hb dX9_runScript_5 rfl (lv_at hl 1 rfl) ?_
  refine lv_i2l hx hb dX9_runScript_6 rfl ?_
  refine lv_lconst (v := lN 1) hx hb dX9_runScript_7 (by decide) ?_
  refine lv_ldc2 (v := lN 4) hx hb hown (hts (.constantLong RX9 167 (4)) (by decide +kernel)) dX9_runScript_8 ?_
  refine zSi (W1 := [(m, .inr (6, [.int (nI 0), .ref mt, .int (nI ts), .int (nI ps), .int pv, .ref mp, .int (nI V), .ref mg, .ref mc, .ref mh, .int (nI rm), .ref ms, .ref mu, .int (nI on), .ref of1, .ref ot1, .ref oi1, .long sd, .ref ml, .ref md, .ref mw])), zA G ml 64 f, zA G mw 96 wd, zA G mg 49 g, zA G mc 49 gc]) (W2 := [(m, .inr (6, [.int (nI 0), .ref mt, .int (nI ts), .int (nI ps), .int pv, .ref mp, .int (nI V), .ref mg, .ref mc, .ref mh, .int (nI rm), .ref ms, .ref mu, .int (nI on), .ref of1, .ref ot1, .ref oi1, .long sd, .ref ml, .ref md, .ref mw])), zA G ml 64 f, zA G mw 96 wd, zA G mg 49 g, zA G mc 49 gc]) (wr := [(m, .inr (6, [.int (nI 0), .ref mt, .int (nI ts), .int (nI ps), .int pv, .ref mp, .int (nI V), .ref mg, .ref mc, .ref mh, .int (nI rm), .ref ms, .ref mu, .int (nI on), .ref of1, .ref ot1, .ref oi1, .long sd, .ref ml, .ref md, .ref mw])), zA G ml 64 f, zA G mw 96 wd, zA G mg 49 g, zA G mc 49 gc]) (rest := []) SM (c_X9_in_X l G (x) 1 4 (by omega) (by omega)) (va_cwS 3 hts gX9_runScript_X9_in rfl rfl rfl (by decide +kernel) ⟨Nat.le_of_ble_eq_true rfl, Nat.le_of_ble_eq_true rfl⟩) hK hE hA hP hD hS hl.1 [] [0, 1, 2, 3, 4] [0, 1, 2, 3, 4] rfl rfl rfl (by decide) rfl rfl (Nat.le_of_ble_eq_true rfl) ⟨Nat.zero_le _, Nat.zero_le _⟩ dX9_runScript_11 (fun H locs hP hD hS => ?_)
  refine zb_eq (tgt := 31) hx hb dX9_runScript_14 (by decide) (fun c_1 => ?_) (fun c_1 => ?_)
  · skip
    exfalso; omega
  · skip
    have hl : lv_has ls 6 [(0, .ref m), (1, .int (nI x.toInt.toNat)), (2, .long y)] := by rw [← xN_eq (x := x) (by omega)]; exact hl
    refine lv_lload_n hx hb dX9_runScript_17 rfl (lv_at hl 2 rfl) ?_
    refine lv_lconst (v := lN 0) hx hb dX9_runScript_18 (by decide) ?_
    refine lv_iload_n hx hb dX9_runScript_19 rfl (lv_at hl 1 rfl) ?_
    refine zSl (W1 := [(m, .inr (6, [.int (nI 0), .ref mt, .int (nI ts), .int (nI ps), .int pv, .ref mp, .int (nI V), .ref mg, .ref mc, .ref mh, .int (nI rm), .ref ms, .ref mu, .int (nI on), .ref of1, .ref ot1, .ref oi1, .long sd, .ref ml, .ref md, .ref mw])), zA G ml 64 f, zA G mw 96 wd, zA G mg 49 g, zA G mc 49 gc]) (W2 := [(m, .inr (6, [.int (nI 0), .ref mt, .int (nI ts), .int (nI ps), .int pv, .ref mp, .int (nI V), .ref mg, .ref mc, .ref mh, .int (nI rm), .ref ms, .ref mu, .int (nI on), .ref of1, .ref ot1, .ref oi1, .long sd, .ref ml, .ref md, .ref mw])), zA G ml 64 f, zA G mw 96 wd, zA G mg 49 g, zA G mc 49 gc]) (wr := [(m, .inr (6, [.int (nI 0), .ref mt, .int (nI ts), .int (nI ps), .int pv, .ref mp, .int (nI V), .ref mg, .ref mc, .ref mh, .int (nI rm), .ref ms, .ref mu, .int (nI on), .ref of1, .ref ot1, .ref oi1, .long sd, .ref ml, .ref md, .ref mw])), zA G ml 64 f, zA G mw 96 wd, zA G mg 49 g, zA G mc 49 gc]) (rest := [.long (lN 0), .long y]) SM (c_X9_tenThousands l G x.toInt.toNat (by omega)) (va_cwS 1 hts gX9_runScript_X9_tenThousands rfl rfl rfl (by decide +kernel) ⟨Nat.le_of_ble_eq_true rfl, Nat.le_of_ble_eq_true rfl⟩) hK hE hA hP hD hS hl.1 [] [0, 1, 2, 3, 4] [0, 1, 2, 3, 4] rfl rfl rfl (by decide) rfl rfl (Nat.le_of_ble_eq_true rfl) ⟨Nat.zero_le _, Nat.zero_le _⟩ dX9_runScript_20 (fun H locs hP hD hS => ?_)
    refine ztl (y := lN N) (congrArg lN hN.symm) ?_
    refine lv_lconst (v := lN 1) hx hb dX9_runScript_23 (by decide) ?_
    refine zl_sub hx hb dX9_runScript_24 (by omega) ?_
    refine zSi (W1 := [(m, .inr (6, [.int (nI 0), .ref mt, .int (nI ts), .int (nI ps), .int pv, .ref mp, .int (nI V), .ref mg, .ref mc, .ref mh, .int (nI rm), .ref ms, .ref mu, .int (nI on), .ref of1, .ref ot1, .ref oi1, .long sd, .ref ml, .ref md, .ref mw])), zA G ml 64 f, zA G mw 96 wd, zA G mg 49 g, zA G mc 49 gc]) (W2 := [(m, .inr (6, [.int (nI 0), .ref mt, .int (nI ts), .int (nI ps), .int pv, .ref mp, .int (nI V), .ref mg, .ref mc, .ref mh, .int (nI rm), .ref ms, .ref mu, .int (nI on), .ref of1, .ref ot1, .ref oi1, .long sd, .ref ml, .ref md, .ref mw])), zA G ml 64 f, zA G mw 96 wd, zA G mg 49 g, zA G mc 49 gc]) (wr := [(m, .inr (6, [.int (nI 0), .ref mt, .int (nI ts), .int (nI ps), .int pv, .ref mp, .int (nI V), .ref mg, .ref mc, .ref mh, .int (nI rm), .ref ms, .ref mu, .int (nI on), .ref of1, .ref ot1, .ref oi1, .long sd, .ref ml, .ref md, .ref mw])), zA G ml 64 f, zA G mw 96 wd, zA G mg 49 g, zA G mc 49 gc]) (rest := []) SM (c_X9_in_L l G y 0 (N - 1) (by omega) (by omega)) (va_cwS 3 hts gX9_runScript_X9_in rfl rfl rfl (by decide +kernel) ⟨Nat.le_of_ble_eq_true rfl, Nat.le_of_ble_eq_true rfl⟩) hK hE hA hP hD hS hl.1 [] [0, 1, 2, 3, 4] [0, 1, 2, 3, 4] rfl rfl rfl (by decide) rfl rfl (Nat.le_of_ble_eq_true rfl) ⟨Nat.zero_le _, Nat.zero_le _⟩ dX9_runScript_25 (fun H locs hP hD hS => ?_)
    refine zb_ne (tgt := 34) hx hb dX9_runScript_28 (by decide) (fun c_2 => ?_) (fun c_2 => ?_)
    · skip
      have hy0 : 0 ≤ y.toInt := by omega
      have hylt := Int64.toInt_lt y
      have hl : lv_has ls 6 [(0, .ref m), (1, .int (nI x.toInt.toNat)), (2, .long (lN y.toInt.toNat))] := by rw [← yN_eq hy0]; exact hl
      refine lv_aload_n hx hb dX9_runScript_34 rfl (lv_at hl 0 rfl) ?_
      refine va_get (D := G.1) (ci := 6) (v := .ref mg) (C := RX9) (T := TX9) (N := 21) hx hb hts hinX9 hown hK hP 0 rfl rfl 7 (by decide) hlk20 (fun _ h9 => h9) rfl dX9_runScript_35 ?_
      refine lv_aload_n hx hb dX9_runScript_38 rfl (lv_at hl 0 rfl) ?_
      refine va_get (D := G.1) (ci := 6) (v := .ref mc) (C := RX9) (T := TX9) (N := 21) hx hb hts hinX9 hown hK hP 0 rfl rfl 8 (by decide) hlk23 (fun _ h9 => h9) rfl dX9_runScript_39 ?_
      refine zSv (W1 := [(m, .inr (6, [.int (nI 0), .ref mt, .int (nI ts), .int (nI ps), .int pv, .ref mp, .int (nI V), .ref mg, .ref mc, .ref mh, .int (nI rm), .ref ms, .ref mu, .int (nI on), .ref of1, .ref ot1, .ref oi1, .long sd, .ref ml, .ref md, .ref mw])), zA G ml 64 f, zA G mw 96 wd, zA G mg 49 g, zA G mc 49 gc]) (W2 := [(m, .inr (6, [.int (nI 0), .ref mt, .int (nI ts), .int (nI ps), .int pv, .ref mp, .int (nI V), .ref mg, .ref mc, .ref mh, .int (nI rm), .ref ms, .ref mu, .int (nI on), .ref of1, .ref ot1, .ref oi1, .long sd, .ref ml, .ref md, .ref mw])), zA G ml 64 f, zA G mw 96 wd, zA G mg 49 g, zA G mc 49 g]) (wr := [(m, .inr (6, [.int (nI 0), .ref mt, .int (nI ts), .int (nI ps), .int pv, .ref mp, .int (nI V), .ref mg, .ref mc, .ref mh, .int (nI rm), .ref ms, .ref mu, .int (nI on), .ref of1, .ref ot1, .ref oi1, .long sd, .ref ml, .ref md, .ref mw])), zA G ml 64 f, zA G mw 96 wd]) (rest := []) SM (c_X9_assign l G mg mc g gc ) (va_cwS 2 hts gX9_runScript_X9_assign rfl rfl rfl (by decide +kernel) ⟨Nat.le_of_ble_eq_true rfl, Nat.le_of_ble_eq_true rfl⟩) hK hE hA hP hD hS hl.1 [3, 4] [0, 1, 2] [0, 1, 2, 3, 4] rfl rfl rfl (by decide) rfl rfl (Nat.le_of_ble_eq_true rfl) ⟨Nat.zero_le _, Nat.zero_le _⟩ dX9_runScript_42 (fun H locs hP hD hS => ?_)
      refine lv_iconst (v := nI 0) hx hb dX9_runScript_45 (by decide) ?_
      refine lv_istore (lv' := [(4, .int (nI 0)), (0, .ref m), (1, .int (nI x.toInt.toNat)), (2, .long (lN y.toInt.toNat))]) hx hb dX9_runScript_46 hl (by decide) rfl (fun ls hl => ?_)
      have lp48 : ∀ (n9 : Nat), ∀ (c : Nat) (gc2 : Nat → Nat) (fl wl : Nat → Nat), (c ≤ x.toInt.toNat) → (mRs V x.toInt.toNat y.toInt.toNat x.toInt.toNat 0 g = mRs V x.toInt.toNat y.toInt.toNat (x.toInt.toNat - c) c gc2) → (mOk gc2) → (zL2 fl) → (∀ i, wl i < 8) → (x.toInt.toNat - c) < n9 → ∀ (H : Heap) (locs : List Loc) (ls : Array Slot), va_P G.1 vwCl [(m, .inr (6, [.int (nI 0), .ref mt, .int (nI ts), .int (nI ps), .int pv, .ref mp, .int (nI V), .ref mg, .ref mc, .ref mh, .int (nI rm), .ref ms, .ref mu, .int (nI on), .ref of1, .ref ot1, .ref oi1, .long sd, .ref ml, .ref md, .ref mw])), zA G ml 64 fl, zA G mw 96 wl, zA G mg 49 g, zA G mc 49 gc2] H → va_D AM [(m, .inr (6, [.int (nI 0), .ref mt, .int (nI ts), .int (nI ps), .int pv, .ref mp, .int (nI V), .ref mg, .ref mc, .ref mh, .int (nI rm), .ref ms, .ref mu, .int (nI on), .ref of1, .ref ot1, .ref oi1, .long sd, .ref ml, .ref md, .ref mw])), zA G ml 64 fl, zA G mw 96 wl, zA G mg 49 g, zA G mc 49 gc2] → va_S AM sM.heap H locs → lv_has ls 6 [(0, .ref m), (1, .int (nI x.toInt.toNat)), (2, .long (lN y.toInt.toNat)), (4, .int (nI c))] → W pM l eM ({ frames := 5, cells := 0, slots := 0, locals := 123 }) sM mM (([.ref m, .int x, .long y] : List Value).toArray) bM tM cM H locs 0 0 QM (F0 mM 48 ls []) := by
        intro n9
        induction n9 with
        | zero =>
          intro _ _ _ _ _ _ _ _ _ h9
          exact absurd h9 (Nat.not_lt_zero _)
        | succ n9 ih9 =>
          intro c gc2 fl wl h1 hq hok hfl hwl hmu48 H locs ls hP hD hS hl
          have ih48 := ih9
          clear ih9
          refine lv_iload hx hb dX9_runScript_48 (lv_at hl 3 rfl) ?_
          refine lv_iload_n hx hb dX9_runScript_50 rfl (lv_at hl 1 rfl) ?_
          refine zn_ge (tgt := 115) hx hb dX9_runScript_51 (by decide) (by omega) (by omega) (fun c_3 => ?_) (fun c_3 => ?_)
          · skip
            refine lv_bipush (v := (-9)) hx hb dX9_runScript_115 (by decide) ?_
            exact kret _ _ _ _ _ _ (fl, wl, gc2) (by rw [hq, show x.toInt.toNat - c = 0 by omega, mRs]) ⟨hfl, hwl, hok⟩ rfl hP hD hS dX9_runScript_117
          · skip
            refine lv_lload_n hx hb dX9_runScript_54 rfl (lv_at hl 2 rfl) ?_
            refine lv_iload_n hx hb dX9_runScript_55 rfl (lv_at hl 1 rfl) ?_
            refine lv_iconst (v := nI 1) hx hb dX9_runScript_56 (by decide) ?_
            refine zi_sub hx hb dX9_runScript_57 (by omega) ?_
            refine lv_iload hx hb dX9_runScript_58 (lv_at hl 3 rfl) ?_
            refine zi_sub hx hb dX9_runScript_60 (by omega) ?_
            refine zSl (W1 := [(m, .inr (6, [.int (nI 0), .ref mt, .int (nI ts), .int (nI ps), .int pv, .ref mp, .int (nI V), .ref mg, .ref mc, .ref mh, .int (nI rm), .ref ms, .ref mu, .int (nI on), .ref of1, .ref ot1, .ref oi1, .long sd, .ref ml, .ref md, .ref mw])), zA G ml 64 fl, zA G mw 96 wl, zA G mg 49 g, zA G mc 49 gc2]) (W2 := [(m, .inr (6, [.int (nI 0), .ref mt, .int (nI ts), .int (nI ps), .int pv, .ref mp, .int (nI V), .ref mg, .ref mc, .ref mh, .int (nI rm), .ref ms, .ref mu, .int (nI on), .ref of1, .ref ot1, .ref oi1, .long sd, .ref ml, .ref md, .ref mw])), zA G ml 64 fl, zA G mw 96 wl, zA G mg 49 g, zA G mc 49 gc2]) (wr := [(m, .inr (6, [.int (nI 0), .ref mt, .int (nI ts), .int (nI ps), .int pv, .ref mp, .int (nI V), .ref mg, .ref mc, .ref mh, .int (nI rm), .ref ms, .ref mu, .int (nI on), .ref of1, .ref ot1, .ref oi1, .long sd, .ref ml, .ref md, .ref mw])), zA G ml 64 fl, zA G mw 96 wl, zA G mg 49 g, zA G mc 49 gc2]) (rest := [.long (lN y.toInt.toNat)]) SM (c_X9_tenThousands l G ((x.toInt.toNat - 1) - c) (by omega)) (va_cwS 1 hts gX9_runScript_X9_tenThousands rfl rfl rfl (by decide +kernel) ⟨Nat.le_of_ble_eq_true rfl, Nat.le_of_ble_eq_true rfl⟩) hK hE hA hP hD hS hl.1 [] [0, 1, 2, 3, 4] [0, 1, 2, 3, 4] rfl rfl rfl (by decide) rfl rfl (Nat.le_of_ble_eq_true rfl) ⟨Nat.zero_le _, Nat.zero_le _⟩ dX9_runScript_61 (fun H locs hP hD hS => ?_)
            have hp4 := m10k (x.toInt.toNat - 1 - c) (by omega)
            have hdl := Nat.div_le_self y.toInt.toNat (10000 ^ (x.toInt.toNat - 1 - c))
            refine zl_div hx hb dX9_runScript_64 (by omega) hp4.1 (Nat.lt_of_le_of_lt hp4.2 (by decide)) ?_
            refine lv_ldc2 (v := lN 10000) hx hb hown (hts (.constantLong RX9 165 (10000)) (by decide +kernel)) dX9_runScript_65 ?_
            refine zl_rem hx hb dX9_runScript_68 (by omega) (by omega) (by omega) ?_
            refine lv_l2i (v := nI ((y.toInt.toNat / (10000 ^ ((x.toInt.toNat - 1) - c))) % 10000)) hx hb dX9_runScript_69 (lN_i _) ?_
            refine zti (y := nI (zRsG x.toInt.toNat y.toInt.toNat c)) rfl ?_
            have hgl : zRsG x.toInt.toNat y.toInt.toNat c < 10000 := Nat.mod_lt _ (by decide)
            refine lv_istore (lv' := [(5, .int (nI (zRsG x.toInt.toNat y.toInt.toNat c))), (0, .ref m), (1, .int (nI x.toInt.toNat)), (2, .long (lN y.toInt.toNat)), (4, .int (nI c))]) hx hb dX9_runScript_70 hl (by decide) rfl (fun ls hl => ?_)
            refine lv_aload_n hx hb dX9_runScript_72 rfl (lv_at hl 1 rfl) ?_
            refine lv_iload hx hb dX9_runScript_73 (lv_at hl 0 rfl) ?_
            refine lv_sipush (v := nI 1000) hx hb dX9_runScript_75 (by decide) ?_
            refine zi_div hx hb dX9_runScript_78 (by omega) (by omega) (by omega) ?_
            refine lv_iload hx hb dX9_runScript_79 (lv_at hl 0 rfl) ?_
            refine lv_bipush (v := nI 100) hx hb dX9_runScript_81 (by decide) ?_
            refine zi_div hx hb dX9_runScript_83 (by omega) (by omega) (by omega) ?_
            refine lv_bipush (v := nI 10) hx hb dX9_runScript_84 (by decide) ?_
            refine zi_rem hx hb dX9_runScript_86 (by omega) (by omega) (by omega) ?_
            refine lv_iload hx hb dX9_runScript_87 (lv_at hl 0 rfl) ?_
            refine lv_bipush (v := nI 10) hx hb dX9_runScript_89 (by decide) ?_
            refine zi_div hx hb dX9_runScript_91 (by omega) (by omega) (by omega) ?_
            refine lv_bipush (v := nI 10) hx hb dX9_runScript_92 (by decide) ?_
            refine zi_rem hx hb dX9_runScript_94 (by omega) (by omega) (by omega) ?_
            refine lv_iload hx hb dX9_runScript_95 (lv_at hl 0 rfl) ?_
            refine lv_bipush (v := nI 10) hx hb dX9_runScript_97 (by decide) ?_
            refine zi_rem hx hb dX9_runScript_99 (by omega) (by omega) (by omega) ?_
            have hokg : mOk (mCmG V gc2 (zRsG x.toInt.toNat y.toInt.toNat c / 1000) (zRsG x.toInt.toNat y.toInt.toNat c / 100 % 10) (zRsG x.toInt.toNat y.toInt.toNat c / 10 % 10) (zRsG x.toInt.toNat y.toInt.toNat c % 10)) := mCmG_ok hok hV
            refine zVx (S := (Nat → Nat) × (Nat → Nat)) (W1 := [(m, .inr (6, [.int (nI 0), .ref mt, .int (nI ts), .int (nI ps), .int pv, .ref mp, .int (nI V), .ref mg, .ref mc, .ref mh, .int (nI rm), .ref ms, .ref mu, .int (nI on), .ref of1, .ref ot1, .ref oi1, .long sd, .ref ml, .ref md, .ref mw])), zA G ml 64 fl, zA G mw 96 wl, zA G mg 49 g, zA G mc 49 gc2]) (W2 := fun u => [(m, .inr (6, [.int (nI 0), .ref mt, .int (nI ts), .int (nI ps), .int pv, .ref mp, .int (nI V), .ref mg, .ref mc, .ref mh, .int (nI rm), .ref ms, .ref mu, .int (nI on), .ref of1, .ref ot1, .ref oi1, .long sd, .ref ml, .ref md, .ref mw])), zA G ml 64 u.1, zA G mw 96 u.2, zA G mg 49 g, zA G mc 49 (mCmG V gc2 ((zRsG x.toInt.toNat y.toInt.toNat c) / 1000) (((zRsG x.toInt.toNat y.toInt.toNat c) / 100) % 10) (((zRsG x.toInt.toNat y.toInt.toNat c) / 10) % 10) ((zRsG x.toInt.toNat y.toInt.toNat c) % 10))]) (wr := [zA G mg 49 g]) (rest := []) SM (c_X9_command l G m mt mp mg mc mh ms mu of1 ot1 oi1 ml md mw 0 ts ps V rm on pv sd fl wl gc2 ((zRsG x.toInt.toNat y.toInt.toNat c) / 1000) (((zRsG x.toInt.toNat y.toInt.toNat c) / 100) % 10) (((zRsG x.toInt.toNat y.toInt.toNat c) / 10) % 10) ((zRsG x.toInt.toNat y.toInt.toNat c) % 10) (by omega) (by omega) hfl hwl hok (by omega) (by omega) (by omega) (by omega)) (cwV 4 hts gX9_runScript_X9_command rfl rfl rfl (by decide +kernel) ⟨Nat.le_of_ble_eq_true rfl, Nat.le_of_ble_eq_true rfl⟩) hK hE hA hP hD hS hl.1 [0, 1, 2, 4] [3] [1, 2, 3, 0, 4] rfl rfl (fun _ => rfl) (by decide) (ci := 6) rfl rfl rfl rfl rfl (Nat.le_of_ble_eq_true rfl) ⟨Nat.zero_le _, Nat.zero_le _⟩ dX9_runScript_100 (fun H locs u_4 hok_5 hP hD hS => ?_)
            have hP : va_P G.1 vwCl [(m, .inr (6, [.int (nI 0), .ref mt, .int (nI ts), .int (nI ps), .int pv, .ref mp, .int (nI V), .ref mg, .ref mc, .ref mh, .int (nI rm), .ref ms, .ref mu, .int (nI on), .ref of1, .ref ot1, .ref oi1, .long sd, .ref ml, .ref md, .ref mw])), zA G ml 64 u_4.1, zA G mw 96 u_4.2, zA G mg 49 g, zA G mc 49 (mCmG V gc2 ((zRsG x.toInt.toNat y.toInt.toNat c) / 1000) (((zRsG x.toInt.toNat y.toInt.toNat c) / 100) % 10) (((zRsG x.toInt.toNat y.toInt.toNat c) / 10) % 10) ((zRsG x.toInt.toNat y.toInt.toNat c) % 10))] H := hP
            have hD : va_D AM [(m, .inr (6, [.int (nI 0), .ref mt, .int (nI ts), .int (nI ps), .int pv, .ref mp, .int (nI V), .ref mg, .ref mc, .ref mh, .int (nI rm), .ref ms, .ref mu, .int (nI on), .ref of1, .ref ot1, .ref oi1, .long sd, .ref ml, .ref md, .ref mw])), zA G ml 64 u_4.1, zA G mw 96 u_4.2, zA G mg 49 g, zA G mc 49 (mCmG V gc2 ((zRsG x.toInt.toNat y.toInt.toNat c) / 1000) (((zRsG x.toInt.toNat y.toInt.toNat c) / 100) % 10) (((zRsG x.toInt.toNat y.toInt.toNat c) / 10) % 10) ((zRsG x.toInt.toNat y.toInt.toNat c) % 10))] := hD
            have hok_5 : zL2 u_4.1 ∧ ∀ i, u_4.2 i < 8 := hok_5
            have hokk := hok_5
            refine zb_ne (tgt := 109) hx hb dX9_runScript_103 (by decide) (fun c_6 => ?_) (fun c_6 => ?_)
            · skip
              have hct := c_6
              refine lv_iinc (v := nI (c + 1)) (lv' := [(4, .int (nI (c + 1))), (5, .int (nI (zRsG x.toInt.toNat y.toInt.toNat c))), (0, .ref m), (1, .int (nI x.toInt.toNat)), (2, .long (lN y.toInt.toNat))]) hx hb dX9_runScript_109 hl (k := 4) rfl (zinc c 1) (by decide) rfl (fun ls hl => ?_)
              refine lv_goto (tgt := 48) hx hb dX9_runScript_112 (by decide) ?_
              exact ih48 (c + 1) (mCmG V gc2 ((zRsG x.toInt.toNat y.toInt.toNat c) / 1000) (((zRsG x.toInt.toNat y.toInt.toNat c) / 100) % 10) (((zRsG x.toInt.toNat y.toInt.toNat c) / 10) % 10) ((zRsG x.toInt.toNat y.toInt.toNat c) % 10)) u_4.1 u_4.2 (by omega) (by rw [hq, show x.toInt.toNat - c = (x.toInt.toNat - (c + 1)) + 1 by omega, mRs, if_pos hct]) hokg hokk.1 hokk.2 (by omega) _ _ _ hP hD hS (lv_sub hl [2, 3, 4, 0] rfl)
            · skip
              have hcf := c_6
              refine lv_iload hx hb dX9_runScript_106 (lv_at hl 4 rfl) ?_
              exact kret _ _ _ _ _ _ (u_4.1, u_4.2, mCmG V gc2 ((zRsG x.toInt.toNat y.toInt.toNat c) / 1000) (((zRsG x.toInt.toNat y.toInt.toNat c) / 100) % 10) (((zRsG x.toInt.toNat y.toInt.toNat c) / 10) % 10) ((zRsG x.toInt.toNat y.toInt.toNat c) % 10)) (by rw [hq, show x.toInt.toNat - c = (x.toInt.toNat - (c + 1)) + 1 by omega, mRs, if_neg hcf]) ⟨hokk.1, hokk.2, hokg⟩ rfl hP hD hS dX9_runScript_108
      exact lp48 (x.toInt.toNat - 0 + 1) 0 g f wd (by omega) rfl (⟨hg0, hg8⟩) hL hw8 (Nat.lt_succ_self _) _ _ _ hP hD hS (lv_sub hl [1, 2, 3, 0] rfl)
    · skip
      exfalso; omega
