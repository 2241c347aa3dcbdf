set_option maxHeartbeats 4000000 in
set_option maxRecDepth 100000 in
theorem c_J13_bitCount_95d88 (l : Launch) (G : zG) (r : Nat) (hr : r < 18446744073709551616) : MI l yJ13_bitCount_95d88 wsJ13_bitCount_95d88 ({ frames := 0, cells := 0, slots := 0, locals := 0 }) G [.long (lN r)] [] (nI (zPop r)) [] := by
  refine MI.enter (cc := cJ13_bitCount_95d88) (maxL := 2) (by decide) rfl (Nat.le_of_ble_eq_true rfl) rfl ?_
  intro pM eM sM mM bM tM cM QM AM ls hat kret
  obtain ⟨SM, hA, hK, hE, hP, hD, hS, hl⟩ := hat
  have hx := SM.1
  have hb := SM.2.1
  have hown : sM.vm.findClass RJ13 = some mM.cls := SM.2.2.2.1
  have hts := SM.2.2.2.2
  have hl : lv_has ls 2 [(0, .long (lN r))] := hl
  refine lv_lload_n hx hb dJ13_bitCount_95d88_0 rfl (lv_at hl 0 rfl) ?_
  refine lv_lload_n hx hb dJ13_bitCount_95d88_1 rfl (lv_at hl 0 rfl) ?_
  refine lv_iconst (v := nI 1) hx hb dJ13_bitCount_95d88_2 (by decide) ?_
  refine zl_ushr hx hb dJ13_bitCount_95d88_3 (by omega) (by omega) ?_
  refine lv_ldc2 (v := lN 6148914691236517205) hx hb hown (hts (.constantLong RJ13 314 (6148914691236517205)) (by decide +kernel)) dJ13_bitCount_95d88_4 ?_
  refine zl_and hx hb dJ13_bitCount_95d88_7 ?_
  refine zl_sub hx hb dJ13_bitCount_95d88_8 (zB1_le r) ?_
  refine ztl (y := lN (zB1 r)) rfl ?_
  have h1 : zB1 r ≤ r := Nat.sub_le _ _
  refine lv_lstore_n (lv' := [(0, .long (lN (zB1 r)))]) hx hb dJ13_bitCount_95d88_9 rfl hl (by decide) rfl (fun ls hl => ?_)
  refine lv_lload_n hx hb dJ13_bitCount_95d88_10 rfl (lv_at hl 0 rfl) ?_
  refine lv_ldc2 (v := lN 3689348814741910323) hx hb hown (hts (.constantLong RJ13 316 (3689348814741910323)) (by decide +kernel)) dJ13_bitCount_95d88_11 ?_
  refine zl_and hx hb dJ13_bitCount_95d88_14 ?_
  refine lv_lload_n hx hb dJ13_bitCount_95d88_15 rfl (lv_at hl 0 rfl) ?_
  refine lv_iconst (v := nI 2) hx hb dJ13_bitCount_95d88_16 (by decide) ?_
  refine zl_ushr hx hb dJ13_bitCount_95d88_17 (by omega) (by omega) ?_
  refine lv_ldc2 (v := lN 3689348814741910323) hx hb hown (hts (.constantLong RJ13 316 (3689348814741910323)) (by decide +kernel)) dJ13_bitCount_95d88_18 ?_
  refine zl_and hx hb dJ13_bitCount_95d88_21 ?_
  refine zl_add hx hb dJ13_bitCount_95d88_22 ?_
  refine ztl (y := lN (zB2 (zB1 r))) rfl ?_
  have h2 := zB2_le (zB1 r)
  refine lv_lstore_n (lv' := [(0, .long (lN (zB2 (zB1 r))))]) hx hb dJ13_bitCount_95d88_23 rfl hl (by decide) rfl (fun ls hl => ?_)
  refine lv_lload_n hx hb dJ13_bitCount_95d88_24 rfl (lv_at hl 0 rfl) ?_
  refine lv_lload_n hx hb dJ13_bitCount_95d88_25 rfl (lv_at hl 0 rfl) ?_
  refine lv_iconst (v := nI 4) hx hb dJ13_bitCount_95d88_26 (by decide) ?_
  refine zl_ushr hx hb dJ13_bitCount_95d88_27 (by omega) (by omega) ?_
  refine zl_add hx hb dJ13_bitCount_95d88_28 ?_
  refine lv_ldc2 (v := lN 1085102592571150095) hx hb hown (hts (.constantLong RJ13 318 (1085102592571150095)) (by decide +kernel)) dJ13_bitCount_95d88_29 ?_
  refine zl_and hx hb dJ13_bitCount_95d88_32 ?_
  refine ztl (y := lN (zB3 (zB2 (zB1 r)))) rfl ?_
  have h3 := zB3_le (zB2 (zB1 r))
  refine lv_lstore_n (lv' := [(0, .long (lN (zB3 (zB2 (zB1 r)))))]) hx hb dJ13_bitCount_95d88_33 rfl hl (by decide) rfl (fun ls hl => ?_)
  refine lv_lload_n hx hb dJ13_bitCount_95d88_34 rfl (lv_at hl 0 rfl) ?_
  refine lv_lload_n hx hb dJ13_bitCount_95d88_35 rfl (lv_at hl 0 rfl) ?_
  refine lv_bipush (v := nI 8) hx hb dJ13_bitCount_95d88_36 (by decide) ?_
  refine zl_ushr hx hb dJ13_bitCount_95d88_38 (by omega) (by omega) ?_
  refine zl_add hx hb dJ13_bitCount_95d88_39 ?_
  refine ztl (y := lN (zB4 (zB3 (zB2 (zB1 r))))) rfl ?_
  have h4 : zB4 (zB3 (zB2 (zB1 r))) < 2 * 1085102592571150096 := by unfold zB4; omega
  refine lv_lstore_n (lv' := [(0, .long (lN (zB4 (zB3 (zB2 (zB1 r))))))]) hx hb dJ13_bitCount_95d88_40 rfl hl (by decide) rfl (fun ls hl => ?_)
  refine lv_lload_n hx hb dJ13_bitCount_95d88_41 rfl (lv_at hl 0 rfl) ?_
  refine lv_lload_n hx hb dJ13_bitCount_95d88_42 rfl (lv_at hl 0 rfl) ?_
  refine lv_bipush (v := nI 16) hx hb dJ13_bitCount_95d88_43 (by decide) ?_
  refine zl_ushr hx hb dJ13_bitCount_95d88_45 (by omega) (by omega) ?_
  refine zl_add hx hb dJ13_bitCount_95d88_46 ?_
  refine ztl (y := lN (zB5 (zB4 (zB3 (zB2 (zB1 r)))))) rfl ?_
  have h5 : zB5 (zB4 (zB3 (zB2 (zB1 r)))) < 4 * 1085102592571150096 := by unfold zB5; omega
  refine lv_lstore_n (lv' := [(0, .long (lN (zB5 (zB4 (zB3 (zB2 (zB1 r)))))))]) hx hb dJ13_bitCount_95d88_47 rfl hl (by decide) rfl (fun ls hl => ?_)
  refine lv_lload_n hx hb dJ13_bitCount_95d88_48 rfl (lv_at hl 0 rfl) ?_
  refine lv_lload_n hx hb dJ13_bitCount_95d88_49 rfl (lv_at hl 0 rfl) ?_
  refine lv_bipush (v := nI 32) hx hb dJ13_bitCount_95d88_50 (by decide) ?_
  refine zl_ushr hx hb dJ13_bitCount_95d88_52 (by omega) (by omega) ?_
  refine zl_add hx hb dJ13_bitCount_95d88_53 ?_
  refine ztl (y := lN (zB6 (zB5 (zB4 (zB3 (zB2 (zB1 r))))))) rfl ?_
  refine lv_lstore_n (lv' := [(0, .long (lN (zB6 (zB5 (zB4 (zB3 (zB2 (zB1 r))))))))]) hx hb dJ13_bitCount_95d88_54 rfl hl (by decide) rfl (fun ls hl => ?_)
  refine lv_lload_n hx hb dJ13_bitCount_95d88_55 rfl (lv_at hl 0 rfl) ?_
  refine lv_l2i (v := nI (zB6 (zB5 (zB4 (zB3 (zB2 (zB1 r))))))) hx hb dJ13_bitCount_95d88_56 (lN_i _) ?_
  refine lv_bipush (v := nI 127) hx hb dJ13_bitCount_95d88_57 (by decide) ?_
  refine zi_and127 hx hb dJ13_bitCount_95d88_59 ?_
  exact kret _ _ _ _ _ _ (congrArg nI (zPop_swar hr)) rfl hP hD hS dJ13_bitCount_95d88_60
set_option maxHeartbeats 4000000 in
set_option maxRecDepth 100000 in
theorem c_J6_bitCount_0f7a4 (l : Launch) (G : zG) (b : Nat) (hb256 : b < 256) : MI l yJ6_bitCount_0f7a4 wsJ6_bitCount_0f7a4 ({ frames := 0, cells := 0, slots := 0, locals := 0 }) G [.int (nI b)] [] (nI (zp8 b)) [] := by
  refine MI.enter (cc := cJ6_bitCount_0f7a4) (maxL := 1) (by decide) rfl (Nat.le_of_ble_eq_true rfl) rfl ?_
  intro pM eM sM mM bM tM cM QM AM ls hat kret
  obtain ⟨SM, hA, hK, hE, hP, hD, hS, hl⟩ := hat
  have hx := SM.1
  have hb := SM.2.1
  have hown : sM.vm.findClass RJ6 = some mM.cls := SM.2.2.2.1
  have hts := SM.2.2.2.2
  have hz := zc_all b hb256
  have hl : lv_has ls 1 [(0, .int (nI b))] := hl
  refine lv_iload_n hx hb dJ6_bitCount_0f7a4_0 rfl (lv_at hl 0 rfl) ?_
  refine lv_iload_n hx hb dJ6_bitCount_0f7a4_1 rfl (lv_at hl 0 rfl) ?_
  refine lv_iconst (v := nI 1) hx hb dJ6_bitCount_0f7a4_2 (by decide) ?_
  refine zi_ushr hx hb dJ6_bitCount_0f7a4_3 (by omega) (by omega) ?_
  refine lv_ldcw (v := nI 1431655765) hx hb hown (hts (.constant RJ6 265 (1431655765)) (by decide +kernel)) dJ6_bitCount_0f7a4_4 ?_
  refine zi_and hx hb dJ6_bitCount_0f7a4_7 ?_
  refine zi_sub hx hb dJ6_bitCount_0f7a4_8 hz.1.1 ?_
  refine zti (y := nI (zc1 b)) rfl ?_
  refine lv_istore_n (lv' := [(0, .int (nI (zc1 b)))]) hx hb dJ6_bitCount_0f7a4_9 rfl hl (by decide) rfl (fun ls hl => ?_)
  refine lv_iload_n hx hb dJ6_bitCount_0f7a4_10 rfl (lv_at hl 0 rfl) ?_
  refine lv_ldcw (v := nI 858993459) hx hb hown (hts (.constant RJ6 266 (858993459)) (by decide +kernel)) dJ6_bitCount_0f7a4_11 ?_
  refine zi_and hx hb dJ6_bitCount_0f7a4_14 ?_
  refine lv_iload_n hx hb dJ6_bitCount_0f7a4_15 rfl (lv_at hl 0 rfl) ?_
  refine lv_iconst (v := nI 2) hx hb dJ6_bitCount_0f7a4_16 (by decide) ?_
  refine zi_ushr hx hb dJ6_bitCount_0f7a4_17 (by omega) (by omega) ?_
  refine lv_ldcw (v := nI 858993459) hx hb hown (hts (.constant RJ6 266 (858993459)) (by decide +kernel)) dJ6_bitCount_0f7a4_18 ?_
  refine zi_and hx hb dJ6_bitCount_0f7a4_21 ?_
  refine zi_add hx hb dJ6_bitCount_0f7a4_22 ?_
  refine zti (y := nI (zc2 b)) rfl ?_
  refine lv_istore_n (lv' := [(0, .int (nI (zc2 b)))]) hx hb dJ6_bitCount_0f7a4_23 rfl hl (by decide) rfl (fun ls hl => ?_)
  refine lv_iload_n hx hb dJ6_bitCount_0f7a4_24 rfl (lv_at hl 0 rfl) ?_
  refine lv_iload_n hx hb dJ6_bitCount_0f7a4_25 rfl (lv_at hl 0 rfl) ?_
  refine lv_iconst (v := nI 4) hx hb dJ6_bitCount_0f7a4_26 (by decide) ?_
  refine zi_ushr hx hb dJ6_bitCount_0f7a4_27 (by omega) (by omega) ?_
  refine zi_add hx hb dJ6_bitCount_0f7a4_28 ?_
  refine lv_ldcw (v := nI 252645135) hx hb hown (hts (.constant RJ6 267 (252645135)) (by decide +kernel)) dJ6_bitCount_0f7a4_29 ?_
  refine zi_and hx hb dJ6_bitCount_0f7a4_32 ?_
  refine zti (y := nI (zc3 b)) rfl ?_
  refine lv_istore_n (lv' := [(0, .int (nI (zc3 b)))]) hx hb dJ6_bitCount_0f7a4_33 rfl hl (by decide) rfl (fun ls hl => ?_)
  refine lv_iload_n hx hb dJ6_bitCount_0f7a4_34 rfl (lv_at hl 0 rfl) ?_
  refine lv_iload_n hx hb dJ6_bitCount_0f7a4_35 rfl (lv_at hl 0 rfl) ?_
  refine lv_bipush (v := nI 8) hx hb dJ6_bitCount_0f7a4_36 (by decide) ?_
  refine zi_ushr hx hb dJ6_bitCount_0f7a4_38 (by omega) (by omega) ?_
  refine zi_add hx hb dJ6_bitCount_0f7a4_39 ?_
  refine zti (y := nI (zc4 b)) rfl ?_
  refine lv_istore_n (lv' := [(0, .int (nI (zc4 b)))]) hx hb dJ6_bitCount_0f7a4_40 rfl hl (by decide) rfl (fun ls hl => ?_)
  refine lv_iload_n hx hb dJ6_bitCount_0f7a4_41 rfl (lv_at hl 0 rfl) ?_
  refine lv_iload_n hx hb dJ6_bitCount_0f7a4_42 rfl (lv_at hl 0 rfl) ?_
  refine lv_bipush (v := nI 16) hx hb dJ6_bitCount_0f7a4_43 (by decide) ?_
  refine zi_ushr hx hb dJ6_bitCount_0f7a4_45 (by omega) (by omega) ?_
  refine zi_add hx hb dJ6_bitCount_0f7a4_46 ?_
  refine zti (y := nI (zc5 b)) rfl ?_
  refine lv_istore_n (lv' := [(0, .int (nI (zc5 b)))]) hx hb dJ6_bitCount_0f7a4_47 rfl hl (by decide) rfl (fun ls hl => ?_)
  refine lv_iload_n hx hb dJ6_bitCount_0f7a4_48 rfl (lv_at hl 0 rfl) ?_
  refine lv_bipush (v := nI 63) hx hb dJ6_bitCount_0f7a4_49 (by decide) ?_
  refine zi_and63 hx hb dJ6_bitCount_0f7a4_51 ?_
  exact kret _ _ _ _ _ _ (congrArg nI hz.2) rfl hP hD hS dJ6_bitCount_0f7a4_52
set_option maxHeartbeats 4000000 in
set_option maxRecDepth 100000 in
theorem c_J6_numberOfTrailingZeros_0f7a4 (l : Launch) (G : zG) (x : Nat) (hx1 : 0 < x) (hx2 : x < 256) : MI l yJ6_numberOfTrailingZeros_0f7a4 wsJ6_numberOfTrailingZeros_0f7a4 ({ frames := 0, cells := 0, slots := 0, locals := 0 }) G [.int (nI x)] [] (nI (zTz x)) [] := by
  refine MI.enter (cc := cJ6_numberOfTrailingZeros_0f7a4) (maxL := 2) (by decide) rfl (Nat.le_of_ble_eq_true rfl) rfl ?_
  intro pM eM sM mM bM tM cM QM AM ls hat kret
  obtain ⟨SM, hA, hK, hE, hP, hD, hS, hl⟩ := hat
  have hx := SM.1
  have hb := SM.2.1
  have hown : sM.vm.findClass RJ6 = some mM.cls := SM.2.2.2.1
  have hts := SM.2.2.2.2
  have hz := zTm_p x hx2 hx1
  have hzb := hz.2
  have hl : lv_has ls 2 [(0, .int (nI x))] := hl
  refine lv_iload_n hx hb dJ6_numberOfTrailingZeros_0f7a4_0 rfl (lv_at hl 0 rfl) ?_
  refine lv_iconst (v := (-1)) hx hb dJ6_numberOfTrailingZeros_0f7a4_1 (by decide) ?_
  refine lv_ixor hx hb dJ6_numberOfTrailingZeros_0f7a4_2 ?_
  refine lv_iload_n hx hb dJ6_numberOfTrailingZeros_0f7a4_3 rfl (lv_at hl 0 rfl) ?_
  refine lv_iconst (v := nI 1) hx hb dJ6_numberOfTrailingZeros_0f7a4_4 (by decide) ?_
  refine zi_sub hx hb dJ6_numberOfTrailingZeros_0f7a4_5 (by omega) ?_
  refine lv_iand hx hb dJ6_numberOfTrailingZeros_0f7a4_6 ?_
  refine zti (y := nI (zTm x)) hz.1 ?_
  refine lv_istore_n (lv' := [(0, .int (nI (zTm x)))]) hx hb dJ6_numberOfTrailingZeros_0f7a4_7 rfl hl (by decide) rfl (fun ls hl => ?_)
  refine lv_iload_n hx hb dJ6_numberOfTrailingZeros_0f7a4_8 rfl (lv_at hl 0 rfl) ?_
  refine zd_gt (a := (zTm x : Nat)) (tgt := 17) hx hb dJ6_numberOfTrailingZeros_0f7a4_9 (by decide) (zI (by omega)) (fun c_1 => ?_) (fun c_1 => ?_)
  · skip
    refine lv_iconst (v := nI 1) hx hb dJ6_numberOfTrailingZeros_0f7a4_17 (by decide) ?_
    refine lv_istore_n (lv' := [(1, .int (nI 1)), (0, .int (nI (zTm x)))]) hx hb dJ6_numberOfTrailingZeros_0f7a4_18 rfl hl (by decide) rfl (fun ls hl => ?_)
    refine lv_iload_n hx hb dJ6_numberOfTrailingZeros_0f7a4_19 rfl (lv_at hl 1 rfl) ?_
    refine lv_ldcw (v := nI 65536) hx hb hown (hts (.constant RJ6 264 (65536)) (by decide +kernel)) dJ6_numberOfTrailingZeros_0f7a4_20 ?_
    refine zn_le (tgt := 34) hx hb dJ6_numberOfTrailingZeros_0f7a4_23 (by decide) (by omega) (by omega) (fun c_2 => ?_) (fun c_2 => ?_)
    · skip
      refine lv_iload_n hx hb dJ6_numberOfTrailingZeros_0f7a4_34 rfl (lv_at hl 1 rfl) ?_
      refine lv_sipush (v := nI 256) hx hb dJ6_numberOfTrailingZeros_0f7a4_35 (by decide) ?_
      refine zn_le (tgt := 49) hx hb dJ6_numberOfTrailingZeros_0f7a4_38 (by decide) (by omega) (by omega) (fun c_3 => ?_) (fun c_3 => ?_)
      · skip
        refine lv_iload_n hx hb dJ6_numberOfTrailingZeros_0f7a4_49 rfl (lv_at hl 1 rfl) ?_
        refine lv_bipush (v := nI 16) hx hb dJ6_numberOfTrailingZeros_0f7a4_50 (by decide) ?_
        refine zn_le (tgt := 62) hx hb dJ6_numberOfTrailingZeros_0f7a4_52 (by decide) (by omega) (by omega) (fun c_4 => ?_) (fun c_4 => ?_)
        · skip
          refine lv_iload_n hx hb dJ6_numberOfTrailingZeros_0f7a4_62 rfl (lv_at hl 1 rfl) ?_
          refine lv_iconst (v := nI 4) hx hb dJ6_numberOfTrailingZeros_0f7a4_63 (by decide) ?_
          refine zn_le (tgt := 74) hx hb dJ6_numberOfTrailingZeros_0f7a4_64 (by decide) (by omega) (by omega) (fun c_5 => ?_) (fun c_5 => ?_)
          · skip
            refine lv_iload_n hx hb dJ6_numberOfTrailingZeros_0f7a4_74 rfl (lv_at hl 0 rfl) ?_
            refine lv_iload_n hx hb dJ6_numberOfTrailingZeros_0f7a4_75 rfl (lv_at hl 1 rfl) ?_
            refine lv_iconst (v := nI 1) hx hb dJ6_numberOfTrailingZeros_0f7a4_76 (by decide) ?_
            refine zi_ushr hx hb dJ6_numberOfTrailingZeros_0f7a4_77 (by omega) (by omega) ?_
            refine zi_addk (n := 1 + ((zTm x) / 2 ^ 1)) hx hb dJ6_numberOfTrailingZeros_0f7a4_78 (by omega) ?_
            exact kret _ _ _ _ _ _ (congrArg nI (by rw [zTz_c x hx2 hx1]; unfold zTzF; repeat (first | rw [if_pos (by omega)] | rw [if_neg (by omega)]))) rfl hP hD hS dJ6_numberOfTrailingZeros_0f7a4_79
          · skip
            refine lv_iinc (v := nI 3) (lv' := [(1, .int (nI 3)), (0, .int (nI (zTm x)))]) hx hb dJ6_numberOfTrailingZeros_0f7a4_67 hl (k := 0) rfl (zinc 1 2) (by decide) rfl (fun ls hl => ?_)
            refine lv_iload_n hx hb dJ6_numberOfTrailingZeros_0f7a4_70 rfl (lv_at hl 1 rfl) ?_
            refine lv_iconst (v := nI 2) hx hb dJ6_numberOfTrailingZeros_0f7a4_71 (by decide) ?_
            refine zi_ushr hx hb dJ6_numberOfTrailingZeros_0f7a4_72 (by omega) (by omega) ?_
            refine lv_istore_n (lv' := [(0, .int (nI ((zTm x) / 2 ^ 2))), (1, .int (nI 3))]) hx hb dJ6_numberOfTrailingZeros_0f7a4_73 rfl hl (by decide) rfl (fun ls hl => ?_)
            refine lv_iload_n hx hb dJ6_numberOfTrailingZeros_0f7a4_74 rfl (lv_at hl 1 rfl) ?_
            refine lv_iload_n hx hb dJ6_numberOfTrailingZeros_0f7a4_75 rfl (lv_at hl 0 rfl) ?_
            refine lv_iconst (v := nI 1) hx hb dJ6_numberOfTrailingZeros_0f7a4_76 (by decide) ?_
            refine zi_ushr hx hb dJ6_numberOfTrailingZeros_0f7a4_77 (by omega) (by omega) ?_
            refine zi_addk (n := 3 + (((zTm x) / 2 ^ 2) / 2 ^ 1)) hx hb dJ6_numberOfTrailingZeros_0f7a4_78 (by omega) ?_
            exact kret _ _ _ _ _ _ (congrArg nI (by rw [zTz_c x hx2 hx1]; unfold zTzF; repeat (first | rw [if_pos (by omega)] | rw [if_neg (by omega)]))) rfl hP hD hS dJ6_numberOfTrailingZeros_0f7a4_79
        · skip
          refine lv_iinc (v := nI 5) (lv' := [(1, .int (nI 5)), (0, .int (nI (zTm x)))]) hx hb dJ6_numberOfTrailingZeros_0f7a4_55 hl (k := 0) rfl (zinc 1 4) (by decide) rfl (fun ls hl => ?_)
          refine lv_iload_n hx hb dJ6_numberOfTrailingZeros_0f7a4_58 rfl (lv_at hl 1 rfl) ?_
          refine lv_iconst (v := nI 4) hx hb dJ6_numberOfTrailingZeros_0f7a4_59 (by decide) ?_
          refine zi_ushr hx hb dJ6_numberOfTrailingZeros_0f7a4_60 (by omega) (by omega) ?_
          refine lv_istore_n (lv' := [(0, .int (nI ((zTm x) / 2 ^ 4))), (1, .int (nI 5))]) hx hb dJ6_numberOfTrailingZeros_0f7a4_61 rfl hl (by decide) rfl (fun ls hl => ?_)
          refine lv_iload_n hx hb dJ6_numberOfTrailingZeros_0f7a4_62 rfl (lv_at hl 0 rfl) ?_
          refine lv_iconst (v := nI 4) hx hb dJ6_numberOfTrailingZeros_0f7a4_63 (by decide) ?_
          refine zn_le (tgt := 74) hx hb dJ6_numberOfTrailingZeros_0f7a4_64 (by decide) (by omega) (by omega) (fun c_6 => ?_) (fun c_6 => ?_)
          · skip
            refine lv_iload_n hx hb dJ6_numberOfTrailingZeros_0f7a4_74 rfl (lv_at hl 1 rfl) ?_
            refine lv_iload_n hx hb dJ6_numberOfTrailingZeros_0f7a4_75 rfl (lv_at hl 0 rfl) ?_
            refine lv_iconst (v := nI 1) hx hb dJ6_numberOfTrailingZeros_0f7a4_76 (by decide) ?_
            refine zi_ushr hx hb dJ6_numberOfTrailingZeros_0f7a4_77 (by omega) (by omega) ?_
            refine zi_addk (n := 5 + (((zTm x) / 2 ^ 4) / 2 ^ 1)) hx hb dJ6_numberOfTrailingZeros_0f7a4_78 (by omega) ?_
            exact kret _ _ _ _ _ _ (congrArg nI (by rw [zTz_c x hx2 hx1]; unfold zTzF; repeat (first | rw [if_pos (by omega)] | rw [if_neg (by omega)]))) rfl hP hD hS dJ6_numberOfTrailingZeros_0f7a4_79
          · skip
            refine lv_iinc (v := nI 7) (lv' := [(1, .int (nI 7)), (0, .int (nI ((zTm x) / 2 ^ 4)))]) hx hb dJ6_numberOfTrailingZeros_0f7a4_67 hl (k := 1) rfl (zinc 5 2) (by decide) rfl (fun ls hl => ?_)
            refine lv_iload_n hx hb dJ6_numberOfTrailingZeros_0f7a4_70 rfl (lv_at hl 1 rfl) ?_
            refine lv_iconst (v := nI 2) hx hb dJ6_numberOfTrailingZeros_0f7a4_71 (by decide) ?_
            refine zi_ushr hx hb dJ6_numberOfTrailingZeros_0f7a4_72 (by omega) (by omega) ?_
            refine lv_istore_n (lv' := [(0, .int (nI (((zTm x) / 2 ^ 4) / 2 ^ 2))), (1, .int (nI 7))]) hx hb dJ6_numberOfTrailingZeros_0f7a4_73 rfl hl (by decide) rfl (fun ls hl => ?_)
            refine lv_iload_n hx hb dJ6_numberOfTrailingZeros_0f7a4_74 rfl (lv_at hl 1 rfl) ?_
            refine lv_iload_n hx hb dJ6_numberOfTrailingZeros_0f7a4_75 rfl (lv_at hl 0 rfl) ?_
            refine lv_iconst (v := nI 1) hx hb dJ6_numberOfTrailingZeros_0f7a4_76 (by decide) ?_
            refine zi_ushr hx hb dJ6_numberOfTrailingZeros_0f7a4_77 (by omega) (by omega) ?_
            refine zi_addk (n := 7 + ((((zTm x) / 2 ^ 4) / 2 ^ 2) / 2 ^ 1)) hx hb dJ6_numberOfTrailingZeros_0f7a4_78 (by omega) ?_
            exact kret _ _ _ _ _ _ (congrArg nI (by rw [zTz_c x hx2 hx1]; unfold zTzF; repeat (first | rw [if_pos (by omega)] | rw [if_neg (by omega)]))) rfl hP hD hS dJ6_numberOfTrailingZeros_0f7a4_79
      · skip
        exfalso; omega
    · skip
      exfalso; omega
  · skip
    refine lv_iload_n hx hb dJ6_numberOfTrailingZeros_0f7a4_12 rfl (lv_at hl 0 rfl) ?_
    refine lv_bipush (v := nI 32) hx hb dJ6_numberOfTrailingZeros_0f7a4_13 (by decide) ?_
    refine zi_and hx hb dJ6_numberOfTrailingZeros_0f7a4_15 ?_
    refine zti (y := nI 0) (by rw [show zTm x = 0 by omega]; decide) ?_
    exact kret _ _ _ _ _ _ (congrArg nI (by rw [zTz_c x hx2 hx1]; unfold zTzF; repeat (first | rw [if_pos (by omega)] | rw [if_neg (by omega)]))) rfl hP hD hS dJ6_numberOfTrailingZeros_0f7a4_16
set_option maxHeartbeats 4000000 in
set_option maxRecDepth 100000 in
theorem c_X8_isLabel_N (l : Launch) (G : zG) (c : Nat) (hc : c < 2147483648) : MI l yX8_isLabel wsX8_isLabel ({ frames := 0, cells := 0, slots := 0, locals := 0 }) G [.int (nI c)] [] (bI (decide (c < 7))) [] := by
  refine MI.enter (cc := cX8_isLabel) (maxL := 1) (by decide) rfl (Nat.le_of_ble_eq_true rfl) (bI_nar _) ?_
  intro pM eM sM mM bM tM cM QM AM ls hat kret
  obtain ⟨SM, hA, hK, hE, hP, hD, hS, hl⟩ := hat
  have hx := SM.1
  have hb := SM.2.1
  have hown : sM.vm.findClass RX8 = some mM.cls := SM.2.2.2.1
  have hts := SM.2.2.2.2
  have hl : lv_has ls 1 [(0, .int (nI c))] := hl
  refine lv_iload_n hx hb dX8_isLabel_0 rfl (lv_at hl 0 rfl) ?_
  refine zd_lt (a := (c : Nat)) (tgt := 14) hx hb dX8_isLabel_1 (by decide) (zI (by omega)) (fun c_1 => ?_) (fun c_1 => ?_)
  · skip
    refine lv_iconst (v := nI 0) hx hb dX8_isLabel_14 (by decide) ?_
    exact kret _ _ _ _ _ _ (bI_f (by omega)) rfl hP hD hS dX8_isLabel_15
  · skip
    refine lv_iload_n hx hb dX8_isLabel_4 rfl (lv_at hl 0 rfl) ?_
    refine lv_bipush (v := nI 7) hx hb dX8_isLabel_5 (by decide) ?_
    refine zn_ge (tgt := 14) hx hb dX8_isLabel_7 (by decide) (by omega) (by omega) (fun c_2 => ?_) (fun c_2 => ?_)
    · skip
      refine lv_iconst (v := nI 0) hx hb dX8_isLabel_14 (by decide) ?_
      exact kret _ _ _ _ _ _ (bI_f (by omega)) rfl hP hD hS dX8_isLabel_15
    · skip
      refine lv_iconst (v := nI 1) hx hb dX8_isLabel_10 (by decide) ?_
      refine lv_goto (tgt := 15) hx hb dX8_isLabel_11 (by decide) ?_
      exact kret _ _ _ _ _ _ (bI_t (by omega)) rfl hP hD hS dX8_isLabel_15
set_option maxHeartbeats 4000000 in
set_option maxRecDepth 100000 in
theorem c_X8_isLabel (l : Launch) (G : zG) (x : Int32)  : MI l yX8_isLabel wsX8_isLabel ({ frames := 0, cells := 0, slots := 0, locals := 0 }) G [.int x] [] (bI (decide (0 ≤ x.toInt ∧ x.toInt < 7))) [] := by
  refine MI.enter (cc := cX8_isLabel) (maxL := 1) (by decide) rfl (Nat.le_of_ble_eq_true rfl) (bI_nar _) ?_
  intro pM eM sM mM bM tM cM QM AM ls hat kret
  obtain ⟨SM, hA, hK, hE, hP, hD, hS, hl⟩ := hat
  have hx := SM.1
  have hb := SM.2.1
  have hown : sM.vm.findClass RX8 = some mM.cls := SM.2.2.2.1
  have hts := SM.2.2.2.2
  have hl : lv_has ls 1 [(0, .int x)] := hl
  refine lv_iload_n hx hb dX8_isLabel_0 rfl (lv_at hl 0 rfl) ?_
  refine zd_lt (a := (x).toInt) (tgt := 14) hx hb dX8_isLabel_1 (by decide) rfl (fun c_1 => ?_) (fun c_1 => ?_)
  · skip
    refine lv_iconst (v := nI 0) hx hb dX8_isLabel_14 (by decide) ?_
    exact kret _ _ _ _ _ _ (bI_f (by omega)) rfl hP hD hS dX8_isLabel_15
  · skip
    refine lv_iload_n hx hb dX8_isLabel_4 rfl (lv_at hl 0 rfl) ?_
    refine lv_bipush (v := nI 7) hx hb dX8_isLabel_5 (by decide) ?_
    refine zc_ge (a := (x).toInt) (b := (7 : Nat)) (tgt := 14) hx hb dX8_isLabel_7 (by decide) rfl (zI (by omega)) (fun c_2 => ?_) (fun c_2 => ?_)
    · skip
      refine lv_iconst (v := nI 0) hx hb dX8_isLabel_14 (by decide) ?_
      exact kret _ _ _ _ _ _ (bI_f (by omega)) rfl hP hD hS dX8_isLabel_15
    · skip
      refine lv_iconst (v := nI 1) hx hb dX8_isLabel_10 (by decide) ?_
      refine lv_goto (tgt := 15) hx hb dX8_isLabel_11 (by decide) ?_
      exact kret _ _ _ _ _ _ (bI_t (by omega)) rfl hP hD hS dX8_isLabel_15
set_option maxHeartbeats 4000000 in
set_option maxRecDepth 100000 in
theorem c_X7_withoutLowest (l : Launch) (G : zG) (n x : Nat) (hn : n < 2147483648) (hx63 : x < 9223372036854775808) : ML l yX7_withoutLowest wsX7_withoutLowest ({ frames := 0, cells := 0, slots := 0, locals := 0 }) G [.int (nI n), .long (lN x)] [] (lN (x / 10000 ^ n)) [] := by
  refine ML.enter (cc := cX7_withoutLowest) (maxL := 6) (by decide) rfl (Nat.le_of_ble_eq_true rfl) ?_
  intro pM eM sM mM bM tM cM QM AM ls hat kret
  obtain ⟨SM, hA, hK, hE, hP, hD, hS, hl⟩ := hat
  have hx := SM.1
  have hb := SM.2.1
  have hown : sM.vm.findClass RX7 = some mM.cls := SM.2.2.2.1
  have hts := SM.2.2.2.2
  have hl : lv_has ls 6 [(0, .int (nI n)), (1, .long (lN x))] := hl
  refine lv_lload_n hx hb dX7_withoutLowest_0 rfl (lv_at hl 1 rfl) ?_
  refine lv_lstore_n (lv' := [(3, .long (lN x)), (0, .int (nI n)), (1, .long (lN x))]) hx hb dX7_withoutLowest_1 rfl hl (by decide) rfl (fun ls hl => ?_)
  refine lv_iconst (v := nI 0) hx hb dX7_withoutLowest_2 (by decide) ?_
  refine lv_istore (lv' := [(5, .int (nI 0)), (3, .long (lN x)), (0, .int (nI n)), (1, .long (lN x))]) hx hb dX7_withoutLowest_3 hl (by decide) rfl (fun ls hl => ?_)
  have lp5 : ∀ (n9 : Nat), ∀ (i : Nat), (i ≤ n) → (n - i) < n9 → ∀ (H : Heap) (locs : List Loc) (ls : Array Slot), va_P G.1 vwCl [] H → va_D AM [] → va_S AM sM.heap H locs → lv_has ls 6 [(0, .int (nI n)), (1, .long (lN x)), (3, .long (lN (x / 10000 ^ i))), (5, .int (nI i))] → W pM l eM ({ frames := 0, cells := 0, slots := 0, locals := 0 }) sM mM (([.int (nI n), .long (lN x)] : List Value).toArray) bM tM cM H locs 0 0 QM (F0 mM 5 ls []) := by
    intro n9
    induction n9 with
    | zero =>
      intro _ _ h9
      exact absurd h9 (Nat.not_lt_zero _)
    | succ n9 ih9 =>
      intro i h1 hmu5 H locs ls hP hD hS hl
      have ih5 := ih9
      clear ih9
      have hdl := Nat.div_le_self x (10000 ^ i)
      refine lv_iload hx hb dX7_withoutLowest_5 (lv_at hl 3 rfl) ?_
      refine lv_iload_n hx hb dX7_withoutLowest_7 rfl (lv_at hl 0 rfl) ?_
      refine zn_ge (tgt := 23) hx hb dX7_withoutLowest_8 (by decide) (by omega) (by omega) (fun c_1 => ?_) (fun c_1 => ?_)
      · skip
        refine lv_lload_n hx hb dX7_withoutLowest_23 rfl (lv_at hl 2 rfl) ?_
        exact kret _ _ _ _ _ _ (congrArg lN (by have hq9 : i = n := (by omega); subst hq9; rfl)) rfl hP hD hS dX7_withoutLowest_24
      · skip
        refine lv_lload_n hx hb dX7_withoutLowest_11 rfl (lv_at hl 2 rfl) ?_
        refine lv_ldc2 (v := lN 10000) hx hb hown (hts (.constantLong RX7 9 (10000)) (by decide +kernel)) dX7_withoutLowest_12 ?_
        refine zl_div hx hb dX7_withoutLowest_15 (by omega) (by omega) (by omega) ?_
        refine lv_lstore_n (lv' := [(3, .long (lN ((x / 10000 ^ i) / 10000))), (0, .int (nI n)), (1, .long (lN x)), (5, .int (nI i))]) hx hb dX7_withoutLowest_16 rfl hl (by decide) rfl (fun ls hl => ?_)
        refine lv_iinc (v := nI (i + 1)) (lv' := [(5, .int (nI (i + 1))), (3, .long (lN ((x / 10000 ^ i) / 10000))), (0, .int (nI n)), (1, .long (lN x))]) hx hb dX7_withoutLowest_17 hl (k := 3) rfl (zinc i 1) (by decide) rfl (fun ls hl => ?_)
        refine lv_goto (tgt := 5) hx hb dX7_withoutLowest_20 (by decide) ?_
        have hl : lv_has ls 6 [(0, .int (nI n)), (1, .long (lN x)), (3, .long (lN (x / 10000 ^ (i + 1)))), (5, .int (nI (i + 1)))] := by (rw [Nat.pow_succ, ← Nat.div_div_eq_div_mul]); exact (lv_sub hl [2, 3, 1, 0] rfl)
        exact ih5 (i + 1) (by first | assumption | omega) (by omega) _ _ _ hP hD hS hl
  have hl : lv_has ls 6 [(0, .int (nI n)), (1, .long (lN x)), (3, .long (lN (x / 10000 ^ 0))), (5, .int (nI 0))] := by (rw [Nat.pow_zero, Nat.div_one]); exact (lv_sub hl [2, 3, 1, 0] rfl)
  exact lp5 (n - 0 + 1) 0 (by first | assumption | omega) (Nat.lt_succ_self _) _ _ _ hP hD hS hl
set_option maxHeartbeats 4000000 in
set_option maxRecDepth 100000 in
theorem c_X7_lowestGroup (l : Launch) (G : zG) (x : Nat) (hx63 : x < 9223372036854775808) : MI l yX7_lowestGroup wsX7_lowestGroup ({ frames := 0, cells := 0, slots := 0, locals := 0 }) G [.long (lN x)] [] (nI (x % 10000)) [] := by
  refine MI.enter (cc := cX7_lowestGroup) (maxL := 2) (by decide) rfl (Nat.le_of_ble_eq_true rfl) rfl ?_
  intro pM eM sM mM bM tM cM QM AM ls hat kret
  obtain ⟨SM, hA, hK, hE, hP, hD, hS, hl⟩ := hat
  have hx := SM.1
  have hb := SM.2.1
  have hown : sM.vm.findClass RX7 = some mM.cls := SM.2.2.2.1
  have hts := SM.2.2.2.2
  have hl : lv_has ls 2 [(0, .long (lN x))] := hl
  refine lv_lload_n hx hb dX7_lowestGroup_0 rfl (lv_at hl 0 rfl) ?_
  refine lv_ldc2 (v := lN 10000) hx hb hown (hts (.constantLong RX7 9 (10000)) (by decide +kernel)) dX7_lowestGroup_1 ?_
  refine zl_rem hx hb dX7_lowestGroup_4 (by omega) (by omega) (by omega) ?_
  refine lv_l2i (v := nI (x % 10000)) hx hb dX7_lowestGroup_5 (lN_i _) ?_
  exact kret _ _ _ _ _ _ rfl rfl hP hD hS dX7_lowestGroup_6
set_option maxHeartbeats 4000000 in
set_option maxRecDepth 100000 in
theorem c_X7_adds (l : Launch) (G : zG) (e a1 a2 a3 : Nat) (s t lb : Nat → Nat) (k : Nat) (V a b c : Nat) (hk : k ≤ 16) (hV : V ≤ 8) (ha : a < 10) (hb10 : b < 10) (hc10 : c < 10) : MI l yX7_adds wsX7_adds ({ frames := 2, cells := 0, slots := 0, locals := 43 }) G [.ref e, .int (nI V), .int (nI a), .int (nI b), .int (nI c)] [(e, .inr (1, [.ref a1, .ref a2, .ref a3, .int (nI k)])), zA G a1 16 s, zA G a2 16 t, zA G a3 16 lb] (bI (decide (zAdP k V a b c))) [(e, .inr (1, [.ref a1, .ref a2, .ref a3, .int (nI ((zAdE s t lb k V a b c).2.2.2))])), zA G a1 16 ((zAdE s t lb k V a b c).1), zA G a2 16 ((zAdE s t lb k V a b c).2.1), zA G a3 16 ((zAdE s t lb k V a b c).2.2.1)] := by
  refine MI.enter (cc := cX7_adds) (maxL := 5) (by decide) rfl (Nat.le_of_ble_eq_true rfl) (bI_nar _) ?_
  intro pM eM sM mM bM tM cM QM AM ls hat kret
  obtain ⟨SM, hA, hK, hE, hP, hD, hS, hl⟩ := hat
  have hx := SM.1
  have hb := SM.2.1
  have hown : sM.vm.findClass RX7 = some mM.cls := SM.2.2.2.1
  have hts := SM.2.2.2.2
  have hl : lv_has ls 5 [(0, .ref e), (1, .int (nI V)), (2, .int (nI a)), (3, .int (nI b)), (4, .int (nI c))] := hl
  refine lv_iload_n hx hb dX7_adds_0 rfl (lv_at hl 2 rfl) ?_
  refine lv_iload_n hx hb dX7_adds_1 rfl (lv_at hl 1 rfl) ?_
  refine zn_ge (tgt := 25) hx hb dX7_adds_2 (by decide) (by omega) (by omega) (fun c_1 => ?_) (fun c_1 => ?_)
  · skip
    refine lv_iconst (v := nI 0) hx hb dX7_adds_25 (by decide) ?_
    exact kret _ _ _ _ _ _ (bI_f (by unfold zAdP; omega)) (by unfold zAdE; first | rw [if_pos (by unfold zAdP; omega)] | rw [if_neg (by unfold zAdP; omega)]) hP hD hS dX7_adds_26
  · skip
    refine lv_iload_n hx hb dX7_adds_5 rfl (lv_at hl 3 rfl) ?_
    refine lv_iload_n hx hb dX7_adds_6 rfl (lv_at hl 1 rfl) ?_
    refine zn_ge (tgt := 25) hx hb dX7_adds_7 (by decide) (by omega) (by omega) (fun c_2 => ?_) (fun c_2 => ?_)
    · skip
      refine lv_iconst (v := nI 0) hx hb dX7_adds_25 (by decide) ?_
      exact kret _ _ _ _ _ _ (bI_f (by unfold zAdP; omega)) (by unfold zAdE; first | rw [if_pos (by unfold zAdP; omega)] | rw [if_neg (by unfold zAdP; omega)]) hP hD hS dX7_adds_26
    · skip
      refine lv_iload hx hb dX7_adds_10 (lv_at hl 4 rfl) ?_
      refine zNi (W1 := [(e, .inr (1, [.ref a1, .ref a2, .ref a3, .int (nI k)])), zA G a1 16 s, zA G a2 16 t, zA G a3 16 lb]) (W2 := [(e, .inr (1, [.ref a1, .ref a2, .ref a3, .int (nI k)])), zA G a1 16 s, zA G a2 16 t, zA G a3 16 lb]) (wr := [(e, .inr (1, [.ref a1, .ref a2, .ref a3, .int (nI k)])), zA G a1 16 s, zA G a2 16 t, zA G a3 16 lb]) (rest := []) SM (c_X8_isLabel_N l G c (by first | assumption | omega)) ⟨va_cnB (host := RX8) 1 hts gX7_adds_X8_isLabel_n45 rfl rfl rfl hE.2.1 (hts (.initialized RX8) (by decide +kernel)) (by decide +kernel) ⟨Nat.le_of_ble_eq_true rfl, Nat.le_of_ble_eq_true rfl⟩, hts (.static yX8_isLabel) (by decide +kernel), trivial⟩ hK hE hA hP hD hS hl.1 [] [0, 1, 2, 3] [0, 1, 2, 3] rfl rfl rfl (by decide) rfl rfl (Nat.le_of_ble_eq_true rfl) ⟨Nat.zero_le _, Nat.zero_le _⟩ dX7_adds_12 (fun H locs hP hD hS => ?_)
      refine zb_eq (tgt := 25) hx hb dX7_adds_15 (by decide) (fun c_3 => ?_) (fun c_3 => ?_)
      · skip
        refine lv_iconst (v := nI 0) hx hb dX7_adds_25 (by decide) ?_
        exact kret _ _ _ _ _ _ (bI_f (by unfold zAdP; omega)) (by unfold zAdE; first | rw [if_pos (by unfold zAdP; omega)] | rw [if_neg (by unfold zAdP; omega)]) hP hD hS dX7_adds_26
      · skip
        refine lv_aload_n hx hb dX7_adds_18 rfl (lv_at hl 0 rfl) ?_
        refine zVi (W1 := [(e, .inr (1, [.ref a1, .ref a2, .ref a3, .int (nI k)])), zA G a1 16 s, zA G a2 16 t, zA G a3 16 lb]) (W2 := [(e, .inr (1, [.ref a1, .ref a2, .ref a3, .int (nI k)])), zA G a1 16 s, zA G a2 16 t, zA G a3 16 lb]) (wr := [zA G a2 16 t, zA G a3 16 lb]) (rest := []) SM (c_X2_isFull l G e a1 a2 a3 16 s k (by first | assumption | omega) (by first | assumption | omega)) (cwV 0 hts gX7_adds_X2_isFull rfl rfl rfl (by decide +kernel) ⟨Nat.le_of_ble_eq_true rfl, Nat.le_of_ble_eq_true rfl⟩) hK hE hA hP hD hS hl.1 [0, 1] [2, 3] [2, 3, 0, 1] rfl rfl rfl (by decide) (ci := 1) rfl rfl rfl rfl rfl (Nat.le_of_ble_eq_true rfl) ⟨Nat.zero_le _, Nat.zero_le _⟩ dX7_adds_19 (fun H locs hP hD hS => ?_)
        refine zb_eq (tgt := 27) hx hb dX7_adds_22 (by decide) (fun c_4 => ?_) (fun c_4 => ?_)
        · skip
          refine lv_aload_n hx hb dX7_adds_27 rfl (lv_at hl 0 rfl) ?_
          refine lv_iload_n hx hb dX7_adds_28 rfl (lv_at hl 2 rfl) ?_
          refine lv_iload_n hx hb dX7_adds_29 rfl (lv_at hl 3 rfl) ?_
          refine lv_iload hx hb dX7_adds_30 (lv_at hl 4 rfl) ?_
          refine zVv (W1 := [(e, .inr (1, [.ref a1, .ref a2, .ref a3, .int (nI k)])), zA G a1 16 s, zA G a2 16 t, zA G a3 16 lb]) (W2 := [(e, .inr (1, [.ref a1, .ref a2, .ref a3, .int (nI (k + 1))])), zA G a1 16 (zU s k a), zA G a2 16 (zU t k b), zA G a3 16 (zU lb k c)]) (wr := []) (rest := []) SM (c_X2_put_N l G e a1 a2 a3 16 s t lb k a b c (by first | assumption | omega) (by first | assumption | omega)) (cwV 3 hts gX7_adds_X2_put rfl rfl rfl (by decide +kernel) ⟨Nat.le_of_ble_eq_true rfl, Nat.le_of_ble_eq_true rfl⟩) hK hE hA hP hD hS hl.1 [0, 1, 2, 3] [] [0, 1, 2, 3] rfl rfl rfl (by decide) (ci := 1) rfl rfl rfl rfl rfl (Nat.le_of_ble_eq_true rfl) ⟨Nat.zero_le _, Nat.zero_le _⟩ dX7_adds_32 (fun H locs hP hD hS => ?_)
          refine lv_iconst (v := nI 1) hx hb dX7_adds_35 (by decide) ?_
          exact kret _ _ _ _ _ _ (bI_t (by unfold zAdP; omega)) (by unfold zAdE; first | rw [if_pos (by unfold zAdP; omega)] | rw [if_neg (by unfold zAdP; omega)]) hP hD hS dX7_adds_36
        · skip
          refine lv_iconst (v := nI 0) hx hb dX7_adds_25 (by decide) ?_
          exact kret _ _ _ _ _ _ (bI_f (by unfold zAdP; omega)) (by unfold zAdE; first | rw [if_pos (by unfold zAdP; omega)] | rw [if_neg (by unfold zAdP; omega)]) hP hD hS dX7_adds_26
set_option maxHeartbeats 4000000 in
set_option maxRecDepth 100000 in
theorem c_X7_removes (l : Launch) (G : zG) (e a1 a2 a3 : Nat) (s t lb : Nat → Nat) (k : Nat) (j : Nat) (hk : k ≤ 16) (hj : j < 100) : MI l yX7_removes wsX7_removes ({ frames := 2, cells := 0, slots := 0, locals := 43 }) G [.ref e, .int (nI j)] [(e, .inr (1, [.ref a1, .ref a2, .ref a3, .int (nI k)])), zA G a1 16 s, zA G a2 16 t, zA G a3 16 lb] (bI (decide (j < k))) [(e, .inr (1, [.ref a1, .ref a2, .ref a3, .int (nI ((zRmE s t lb k j).2.2.2))])), zA G a1 16 ((zRmE s t lb k j).1), zA G a2 16 ((zRmE s t lb k j).2.1), zA G a3 16 ((zRmE s t lb k j).2.2.1)] := by
  refine MI.enter (cc := cX7_removes) (maxL := 2) (by decide) rfl (Nat.le_of_ble_eq_true rfl) (bI_nar _) ?_
  intro pM eM sM mM bM tM cM QM AM ls hat kret
  obtain ⟨SM, hA, hK, hE, hP, hD, hS, hl⟩ := hat
  have hx := SM.1
  have hb := SM.2.1
  have hown : sM.vm.findClass RX7 = some mM.cls := SM.2.2.2.1
  have hts := SM.2.2.2.2
  have hl : lv_has ls 2 [(0, .ref e), (1, .int (nI j))] := hl
  refine lv_aload_n hx hb dX7_removes_0 rfl (lv_at hl 0 rfl) ?_
  refine lv_iload_n hx hb dX7_removes_1 rfl (lv_at hl 1 rfl) ?_
  refine zVi (W1 := [(e, .inr (1, [.ref a1, .ref a2, .ref a3, .int (nI k)])), zA G a1 16 s, zA G a2 16 t, zA G a3 16 lb]) (W2 := [(e, .inr (1, [.ref a1, .ref a2, .ref a3, .int (nI k)])), zA G a1 16 s, zA G a2 16 t, zA G a3 16 lb]) (wr := [zA G a1 16 s, zA G a2 16 t, zA G a3 16 lb]) (rest := []) SM (c_X2_holds_N l G e a1 a2 a3 k j (by first | assumption | omega) (by first | assumption | omega)) (cwV 1 hts gX7_removes_X2_holds rfl rfl rfl (by decide +kernel) ⟨Nat.le_of_ble_eq_true rfl, Nat.le_of_ble_eq_true rfl⟩) hK hE hA hP hD hS hl.1 [0] [1, 2, 3] [3, 0, 1, 2] rfl rfl rfl (by decide) (ci := 1) rfl rfl rfl rfl rfl (Nat.le_of_ble_eq_true rfl) ⟨Nat.zero_le _, Nat.zero_le _⟩ dX7_removes_2 (fun H locs hP hD hS => ?_)
  refine zb_ne (tgt := 10) hx hb dX7_removes_5 (by decide) (fun c_1 => ?_) (fun c_1 => ?_)
  · skip
    refine lv_aload_n hx hb dX7_removes_10 rfl (lv_at hl 0 rfl) ?_
    refine lv_iload_n hx hb dX7_removes_11 rfl (lv_at hl 1 rfl) ?_
    refine zVv (W1 := [(e, .inr (1, [.ref a1, .ref a2, .ref a3, .int (nI k)])), zA G a1 16 s, zA G a2 16 t, zA G a3 16 lb]) (W2 := [(e, .inr (1, [.ref a1, .ref a2, .ref a3, .int (nI (k - 1))])), zA G a1 16 (zDr s j k), zA G a2 16 (zDr t j k), zA G a3 16 (zDr lb j k)]) (wr := []) (rest := []) SM (c_X2_drop l G e a1 a2 a3 16 s t lb k j (by first | assumption | omega) (by first | assumption | omega) (by first | assumption | omega)) (cwV 1 hts gX7_removes_X2_drop rfl rfl rfl (by decide +kernel) ⟨Nat.le_of_ble_eq_true rfl, Nat.le_of_ble_eq_true rfl⟩) hK hE hA hP hD hS hl.1 [0, 1, 2, 3] [] [0, 1, 2, 3] rfl rfl rfl (by decide) (ci := 1) rfl rfl rfl rfl rfl (Nat.le_of_ble_eq_true rfl) ⟨Nat.zero_le _, Nat.zero_le _⟩ dX7_removes_12 (fun H locs hP hD hS => ?_)
    refine lv_iconst (v := nI 1) hx hb dX7_removes_15 (by decide) ?_
    exact kret _ _ _ _ _ _ (bI_t (by omega)) (by unfold zRmE; first | rw [if_pos (by assumption)] | rw [if_neg (by assumption)]) hP hD hS dX7_removes_16
  · skip
    refine lv_iconst (v := nI 0) hx hb dX7_removes_8 (by decide) ?_
    exact kret _ _ _ _ _ _ (bI_f (by omega)) (by unfold zRmE; first | rw [if_pos (by assumption)] | rw [if_neg (by assumption)]) hP hD hS dX7_removes_9
set_option maxHeartbeats 4000000 in
set_option maxRecDepth 100000 in
theorem c_X7_succeeds (l : Launch) (G : zG) (gp : Nat) (e a1 a2 a3 : Nat) (s t lb : Nat → Nat) (k : Nat) (V : Nat) (d tb : Nat) (f : Nat → Nat) (V0 : Nat) (hgp : gp < 10000) (hV : V ≤ 8) (hf : zT9 f) (hk : k ≤ 16) (hbs : ∀ i, s i < 8) (hbt : ∀ i, t i < 8) (hlb : ∀ i, lb i < 7) : MI l yX7_succeeds wsX7_succeeds ({ frames := 5, cells := 0, slots := 0, locals := 123 }) G [.int (nI gp), .ref e, .int (nI V), .ref d] [(e, .inr (1, [.ref a1, .ref a2, .ref a3, .int (nI k)])), zA G a1 16 s, zA G a2 16 t, zA G a3 16 lb, (d, .inr (0, [.ref tb, .int (nI V0)])), zA G tb 64 f] (bI (decide (zSuB f s t lb k V gp = true))) [(e, .inr (1, [.ref a1, .ref a2, .ref a3, .int (nI ((zSuE s t lb k V gp).2.2.2))])), zA G a1 16 ((zSuE s t lb k V gp).1), zA G a2 16 ((zSuE s t lb k V gp).2.1), zA G a3 16 ((zSuE s t lb k V gp).2.2.1), (d, .inr (0, [.ref tb, .int (nI (zSuV V V0 gp))])), zA G tb 64 (zSuF f s t lb k V gp)] := by
  refine MI.enter (cc := cX7_succeeds) (maxL := 7) (by decide) rfl (Nat.le_of_ble_eq_true rfl) (bI_nar _) ?_
  intro pM eM sM mM bM tM cM QM AM ls hat kret
  obtain ⟨SM, hA, hK, hE, hP, hD, hS, hl⟩ := hat
  have hx := SM.1
  have hb := SM.2.1
  have hown : sM.vm.findClass RX7 = some mM.cls := SM.2.2.2.1
  have hts := SM.2.2.2.2
  have hl : lv_has ls 7 [(0, .int (nI gp)), (1, .ref e), (2, .int (nI V)), (3, .ref d)] := hl
  refine lv_iload_n hx hb dX7_succeeds_0 rfl (lv_at hl 0 rfl) ?_
  refine lv_bipush (v := nI 100) hx hb dX7_succeeds_1 (by decide) ?_
  refine zi_div hx hb dX7_succeeds_3 (by omega) (by omega) (by omega) ?_
  refine lv_bipush (v := nI 10) hx hb dX7_succeeds_4 (by decide) ?_
  refine zi_rem hx hb dX7_succeeds_6 (by omega) (by omega) (by omega) ?_
  refine lv_istore (lv' := [(4, .int (nI ((gp / 100) % 10))), (0, .int (nI gp)), (1, .ref e), (2, .int (nI V)), (3, .ref d)]) hx hb dX7_succeeds_7 hl (by decide) rfl (fun ls hl => ?_)
  refine lv_iload_n hx hb dX7_succeeds_9 rfl (lv_at hl 1 rfl) ?_
  refine lv_bipush (v := nI 10) hx hb dX7_succeeds_10 (by decide) ?_
  refine zi_div hx hb dX7_succeeds_12 (by omega) (by omega) (by omega) ?_
  refine lv_bipush (v := nI 10) hx hb dX7_succeeds_13 (by decide) ?_
  refine zi_rem hx hb dX7_succeeds_15 (by omega) (by omega) (by omega) ?_
  refine lv_istore (lv' := [(5, .int (nI ((gp / 10) % 10))), (4, .int (nI ((gp / 100) % 10))), (0, .int (nI gp)), (1, .ref e), (2, .int (nI V)), (3, .ref d)]) hx hb dX7_succeeds_16 hl (by decide) rfl (fun ls hl => ?_)
  refine lv_iload_n hx hb dX7_succeeds_18 rfl (lv_at hl 2 rfl) ?_
  refine lv_bipush (v := nI 10) hx hb dX7_succeeds_19 (by decide) ?_
  refine zi_rem hx hb dX7_succeeds_21 (by omega) (by omega) (by omega) ?_
  refine lv_istore (lv' := [(6, .int (nI (gp % 10))), (5, .int (nI ((gp / 10) % 10))), (4, .int (nI ((gp / 100) % 10))), (0, .int (nI gp)), (1, .ref e), (2, .int (nI V)), (3, .ref d)]) hx hb dX7_succeeds_22 hl (by decide) rfl (fun ls hl => ?_)
  refine lv_iload_n hx hb dX7_succeeds_24 rfl (lv_at hl 3 rfl) ?_
  refine lv_sipush (v := nI 1000) hx hb dX7_succeeds_25 (by decide) ?_
  refine zi_div hx hb dX7_succeeds_28 (by omega) (by omega) (by omega) ?_
  by_cases c_1k1 : gp / 1000 = 1
  · refine lv_tableIn (off := 35) (tgt := 64) hx hb dX7_succeeds_29 (by rw [zI (by omega)]; omega) (by rw [zI (by omega)]; omega) (by rw [c_1k1]; decide) (by decide) ?_
    refine lv_aload_n hx hb dX7_succeeds_64 rfl (lv_at hl 4 rfl) ?_
    refine lv_iload_n hx hb dX7_succeeds_65 rfl (lv_at hl 5 rfl) ?_
    refine lv_iload hx hb dX7_succeeds_66 (lv_at hl 2 rfl) ?_
    refine lv_iload hx hb dX7_succeeds_68 (lv_at hl 1 rfl) ?_
    refine lv_iload hx hb dX7_succeeds_70 (lv_at hl 0 rfl) ?_
    refine zSi (W1 := [(e, .inr (1, [.ref a1, .ref a2, .ref a3, .int (nI k)])), zA G a1 16 s, zA G a2 16 t, zA G a3 16 lb, (d, .inr (0, [.ref tb, .int (nI V0)])), zA G tb 64 f]) (W2 := [(e, .inr (1, [.ref a1, .ref a2, .ref a3, .int (nI ((zAdE s t lb k V ((gp / 100) % 10) ((gp / 10) % 10) (gp % 10)).2.2.2))])), zA G a1 16 ((zAdE s t lb k V ((gp / 100) % 10) ((gp / 10) % 10) (gp % 10)).1), zA G a2 16 ((zAdE s t lb k V ((gp / 100) % 10) ((gp / 10) % 10) (gp % 10)).2.1), zA G a3 16 ((zAdE s t lb k V ((gp / 100) % 10) ((gp / 10) % 10) (gp % 10)).2.2.1), (d, .inr (0, [.ref tb, .int (nI V0)])), zA G tb 64 f]) (wr := [(d, .inr (0, [.ref tb, .int (nI V0)])), zA G tb 64 f]) (rest := []) SM (c_X7_adds l G e a1 a2 a3 s t lb k V ((gp / 100) % 10) ((gp / 10) % 10) (gp % 10) (by first | assumption | omega) (by first | assumption | omega) (by first | assumption | omega) (by first | assumption | omega) (by first | assumption | omega)) (va_cwS 5 hts gX7_succeeds_X7_adds rfl rfl rfl (by decide +kernel) ⟨Nat.le_of_ble_eq_true rfl, Nat.le_of_ble_eq_true rfl⟩) hK hE hA hP hD hS hl.1 [0, 1, 2, 3] [4, 5] [2, 3, 4, 5, 0, 1] rfl rfl rfl (by decide) rfl rfl (Nat.le_of_ble_eq_true rfl) ⟨Nat.zero_le _, Nat.zero_le _⟩ dX7_succeeds_72 (fun H locs hP hD hS => ?_)
    exact kret _ _ _ _ _ _ (by unfold zSuB; rw [if_pos (by assumption)]; simp) (by unfold zSuE zSuF zSuV; repeat (first | rw [if_pos (by first | assumption | omega)] | rw [if_neg (by first | assumption | omega)])) hP hD hS dX7_succeeds_75
  by_cases c_1k2 : gp / 1000 = 2
  · refine lv_tableIn (off := 47) (tgt := 76) hx hb dX7_succeeds_29 (by rw [zI (by omega)]; omega) (by rw [zI (by omega)]; omega) (by rw [c_1k2]; decide) (by decide) ?_
    refine lv_iload hx hb dX7_succeeds_76 (lv_at hl 2 rfl) ?_
    refine zd_ne (a := ((gp / 100) % 10 : Nat)) (tgt := 100) hx hb dX7_succeeds_78 (by decide) (zI (by omega)) (fun c_2 => ?_) (fun c_2 => ?_)
    · skip
      refine lv_iconst (v := nI 0) hx hb dX7_succeeds_100 (by decide) ?_
      exact kret _ _ _ _ _ _ (by unfold zSuB; rw [if_neg (by omega), if_pos (by assumption)]; first | exact bI_t (by simp only [decide_eq_true_eq]; omega) | exact bI_f (by simp only [decide_eq_true_eq]; omega)) (by unfold zSuE zSuF zSuV; repeat (first | rw [if_pos (by first | assumption | omega)] | rw [if_neg (by first | assumption | omega)])) hP hD hS dX7_succeeds_101
    · skip
      refine lv_aload_n hx hb dX7_succeeds_81 rfl (lv_at hl 4 rfl) ?_
      refine lv_bipush (v := nI 10) hx hb dX7_succeeds_82 (by decide) ?_
      refine lv_iload hx hb dX7_succeeds_84 (lv_at hl 1 rfl) ?_
      refine zi_mul hx hb dX7_succeeds_86 ?_
      refine lv_iload hx hb dX7_succeeds_87 (lv_at hl 0 rfl) ?_
      refine zi_add hx hb dX7_succeeds_89 ?_
      refine zSi (W1 := [(e, .inr (1, [.ref a1, .ref a2, .ref a3, .int (nI k)])), zA G a1 16 s, zA G a2 16 t, zA G a3 16 lb, (d, .inr (0, [.ref tb, .int (nI V0)])), zA G tb 64 f]) (W2 := [(e, .inr (1, [.ref a1, .ref a2, .ref a3, .int (nI ((zRmE s t lb k ((10 * ((gp / 10) % 10)) + (gp % 10))).2.2.2))])), zA G a1 16 ((zRmE s t lb k ((10 * ((gp / 10) % 10)) + (gp % 10))).1), zA G a2 16 ((zRmE s t lb k ((10 * ((gp / 10) % 10)) + (gp % 10))).2.1), zA G a3 16 ((zRmE s t lb k ((10 * ((gp / 10) % 10)) + (gp % 10))).2.2.1), (d, .inr (0, [.ref tb, .int (nI V0)])), zA G tb 64 f]) (wr := [(d, .inr (0, [.ref tb, .int (nI V0)])), zA G tb 64 f]) (rest := []) SM (c_X7_removes l G e a1 a2 a3 s t lb k ((10 * ((gp / 10) % 10)) + (gp % 10)) (by first | assumption | omega) (by first | assumption | omega)) (va_cwS 2 hts gX7_succeeds_X7_removes rfl rfl rfl (by decide +kernel) ⟨Nat.le_of_ble_eq_true rfl, Nat.le_of_ble_eq_true rfl⟩) hK hE hA hP hD hS hl.1 [0, 1, 2, 3] [4, 5] [2, 3, 4, 5, 0, 1] rfl rfl rfl (by decide) rfl rfl (Nat.le_of_ble_eq_true rfl) ⟨Nat.zero_le _, Nat.zero_le _⟩ dX7_succeeds_90 (fun H locs hP hD hS => ?_)
      refine zb_eq (tgt := 100) hx hb dX7_succeeds_93 (by decide) (fun c_3 => ?_) (fun c_3 => ?_)
      · skip
        refine lv_iconst (v := nI 0) hx hb dX7_succeeds_100 (by decide) ?_
        exact kret _ _ _ _ _ _ (by unfold zSuB; rw [if_neg (by omega), if_pos (by assumption)]; first | exact bI_t (by simp only [decide_eq_true_eq]; omega) | exact bI_f (by simp only [decide_eq_true_eq]; omega)) (by unfold zSuE zSuF zSuV; repeat (first | rw [if_pos (by first | assumption | omega)] | rw [if_neg (by first | assumption | omega)])) hP hD hS dX7_succeeds_101
      · skip
        refine lv_iconst (v := nI 1) hx hb dX7_succeeds_96 (by decide) ?_
        refine lv_goto (tgt := 101) hx hb dX7_succeeds_97 (by decide) ?_
        exact kret _ _ _ _ _ _ (by unfold zSuB; rw [if_neg (by omega), if_pos (by assumption)]; first | exact bI_t (by simp only [decide_eq_true_eq]; omega) | exact bI_f (by simp only [decide_eq_true_eq]; omega)) (by unfold zSuE zSuF zSuV; repeat (first | rw [if_pos (by first | assumption | omega)] | rw [if_neg (by first | assumption | omega)])) hP hD hS dX7_succeeds_101
  by_cases c_1k3 : gp / 1000 = 3
  · refine lv_tableIn (off := 73) (tgt := 102) hx hb dX7_succeeds_29 (by rw [zI (by omega)]; omega) (by rw [zI (by omega)]; omega) (by rw [c_1k3]; decide) (by decide) ?_
    refine lv_iload hx hb dX7_succeeds_102 (lv_at hl 2 rfl) ?_
    refine lv_iload_n hx hb dX7_succeeds_104 rfl (lv_at hl 5 rfl) ?_
    refine zn_ge (tgt := 150) hx hb dX7_succeeds_105 (by decide) (by omega) (by omega) (fun c_4 => ?_) (fun c_4 => ?_)
    · skip
      refine lv_iconst (v := nI 0) hx hb dX7_succeeds_150 (by decide) ?_
      exact kret _ _ _ _ _ _ (by unfold zSuB; rw [if_neg (by omega), if_neg (by omega), if_pos (by assumption)]; first | exact bI_t (by simp only [decide_eq_true_eq]; omega) | exact bI_f (by simp only [decide_eq_true_eq]; omega)) (by unfold zSuE zSuF zSuV; repeat (first | rw [if_pos (by first | assumption | omega)] | rw [if_neg (by first | assumption | omega)])) hP hD hS dX7_succeeds_151
    · skip
      refine lv_iload hx hb dX7_succeeds_108 (lv_at hl 1 rfl) ?_
      refine lv_iload_n hx hb dX7_succeeds_110 rfl (lv_at hl 5 rfl) ?_
      refine zn_ge (tgt := 150) hx hb dX7_succeeds_111 (by decide) (by omega) (by omega) (fun c_5 => ?_) (fun c_5 => ?_)
      · skip
        refine lv_iconst (v := nI 0) hx hb dX7_succeeds_150 (by decide) ?_
        exact kret _ _ _ _ _ _ (by unfold zSuB; rw [if_neg (by omega), if_neg (by omega), if_pos (by assumption)]; first | exact bI_t (by simp only [decide_eq_true_eq]; omega) | exact bI_f (by simp only [decide_eq_true_eq]; omega)) (by unfold zSuE zSuF zSuV; repeat (first | rw [if_pos (by first | assumption | omega)] | rw [if_neg (by first | assumption | omega)])) hP hD hS dX7_succeeds_151
      · skip
        refine lv_iload hx hb dX7_succeeds_114 (lv_at hl 0 rfl) ?_
        refine lv_iconst (v := nI 1) hx hb dX7_succeeds_116 (by decide) ?_
        refine zn_gt (tgt := 150) hx hb dX7_succeeds_117 (by decide) (by omega) (by omega) (fun c_6 => ?_) (fun c_6 => ?_)
        · skip
          refine lv_iconst (v := nI 0) hx hb dX7_succeeds_150 (by decide) ?_
          exact kret _ _ _ _ _ _ (by unfold zSuB; rw [if_neg (by omega), if_neg (by omega), if_pos (by assumption)]; first | exact bI_t (by simp only [decide_eq_true_eq]; omega) | exact bI_f (by simp only [decide_eq_true_eq]; omega)) (by unfold zSuE zSuF zSuV; repeat (first | rw [if_pos (by first | assumption | omega)] | rw [if_neg (by first | assumption | omega)])) hP hD hS dX7_succeeds_151
        · skip
          refine lv_aload_n hx hb dX7_succeeds_120 rfl (lv_at hl 4 rfl) ?_
          refine lv_iload_n hx hb dX7_succeeds_121 rfl (lv_at hl 5 rfl) ?_
          refine zSl (W1 := [(e, .inr (1, [.ref a1, .ref a2, .ref a3, .int (nI k)])), zA G a1 16 s, zA G a2 16 t, zA G a3 16 lb, (d, .inr (0, [.ref tb, .int (nI V0)])), zA G tb 64 f]) (W2 := [(e, .inr (1, [.ref a1, .ref a2, .ref a3, .int (nI k)])), zA G a1 16 s, zA G a2 16 t, zA G a3 16 lb, (d, .inr (0, [.ref tb, .int (nI V0)])), zA G tb 64 f]) (wr := [(d, .inr (0, [.ref tb, .int (nI V0)])), zA G tb 64 f]) (rest := []) SM (c_X6_ofBalancedPaths l G e a1 a2 a3 16 s t lb k V (by first | assumption | omega) (by first | assumption | omega) (by first | assumption | omega) (by first | assumption | omega) (by first | assumption | omega) (by first | assumption | omega)) (va_cwS 2 hts gX7_succeeds_X6_ofBalancedPaths rfl rfl rfl (by decide +kernel) ⟨Nat.le_of_ble_eq_true rfl, Nat.le_of_ble_eq_true rfl⟩) hK hE hA hP hD hS hl.1 [0, 1, 2, 3] [4, 5] [2, 3, 4, 5, 0, 1] rfl rfl rfl (by decide) rfl rfl (Nat.le_of_ble_eq_true rfl) ⟨Nat.zero_le _, Nat.zero_le _⟩ dX7_succeeds_122 (fun H locs hP hD hS => ?_)
          have hbl := zBp_lt (s := s) (t := t) (lb := lb) (k := k) (V := V) hbs hV
          refine lv_iload hx hb dX7_succeeds_125 (lv_at hl 2 rfl) ?_
          refine lv_iload hx hb dX7_succeeds_127 (lv_at hl 1 rfl) ?_
          refine zSi (W1 := [(e, .inr (1, [.ref a1, .ref a2, .ref a3, .int (nI k)])), zA G a1 16 s, zA G a2 16 t, zA G a3 16 lb, (d, .inr (0, [.ref tb, .int (nI V0)])), zA G tb 64 f]) (W2 := [(e, .inr (1, [.ref a1, .ref a2, .ref a3, .int (nI k)])), zA G a1 16 s, zA G a2 16 t, zA G a3 16 lb, (d, .inr (0, [.ref tb, .int (nI V0)])), zA G tb 64 f]) (wr := [(e, .inr (1, [.ref a1, .ref a2, .ref a3, .int (nI k)])), zA G a1 16 s, zA G a2 16 t, zA G a3 16 lb, (d, .inr (0, [.ref tb, .int (nI V0)])), zA G tb 64 f]) (rest := []) SM (c_X6_has l G (zBp s t lb k V) ((gp / 100) % 10) ((gp / 10) % 10) (by first | assumption | omega) (by first | assumption | omega) (by first | assumption | omega)) (va_cwS 3 hts gX7_succeeds_X6_has rfl rfl rfl (by decide +kernel) ⟨Nat.le_of_ble_eq_true rfl, Nat.le_of_ble_eq_true rfl⟩) hK hE hA hP hD hS hl.1 [] [0, 1, 2, 3, 4, 5] [0, 1, 2, 3, 4, 5] rfl rfl rfl (by decide) rfl rfl (Nat.le_of_ble_eq_true rfl) ⟨Nat.zero_le _, Nat.zero_le _⟩ dX7_succeeds_129 (fun H locs hP hD hS => ?_)
          refine lv_iload hx hb dX7_succeeds_132 (lv_at hl 0 rfl) ?_
          refine lv_iconst (v := nI 1) hx hb dX7_succeeds_134 (by decide) ?_
          refine zn_ne (tgt := 142) hx hb dX7_succeeds_135 (by decide) (by omega) (by omega) (fun c_7 => ?_) (fun c_7 => ?_)
          · skip
            refine lv_iconst (v := nI 0) hx hb dX7_succeeds_142 (by decide) ?_
            refine zb1_ne_0 (tgt := 150) hx hb dX7_succeeds_143 (by decide) (fun c_8 => ?_) (fun c_8 => ?_)
            · skip
              refine lv_iconst (v := nI 0) hx hb dX7_succeeds_150 (by decide) ?_
              exact kret _ _ _ _ _ _ (by unfold zSuB; rw [if_neg (by omega), if_neg (by omega), if_pos (by assumption)]; first | exact bI_t (by simp only [decide_eq_true_eq]; omega) | exact bI_f (by simp only [decide_eq_true_eq]; omega)) (by unfold zSuE zSuF zSuV; repeat (first | rw [if_pos (by first | assumption | omega)] | rw [if_neg (by first | assumption | omega)])) hP hD hS dX7_succeeds_151
            · skip
              refine lv_iconst (v := nI 1) hx hb dX7_succeeds_146 (by decide) ?_
              refine lv_goto (tgt := 151) hx hb dX7_succeeds_147 (by decide) ?_
              exact kret _ _ _ _ _ _ (by unfold zSuB; rw [if_neg (by omega), if_neg (by omega), if_pos (by assumption)]; first | exact bI_t (by simp only [decide_eq_true_eq]; omega) | exact bI_f (by simp only [decide_eq_true_eq]; omega)) (by unfold zSuE zSuF zSuV; repeat (first | rw [if_pos (by first | assumption | omega)] | rw [if_neg (by first | assumption | omega)])) hP hD hS dX7_succeeds_151
          · skip
            refine lv_iconst (v := nI 1) hx hb dX7_succeeds_138 (by decide) ?_
            refine lv_goto (tgt := 143) hx hb dX7_succeeds_139 (by decide) ?_
            refine zb1_ne_1 (tgt := 150) hx hb dX7_succeeds_143 (by decide) (fun c_9 => ?_) (fun c_9 => ?_)
            · skip
              refine lv_iconst (v := nI 0) hx hb dX7_succeeds_150 (by decide) ?_
              exact kret _ _ _ _ _ _ (by unfold zSuB; rw [if_neg (by omega), if_neg (by omega), if_pos (by assumption)]; first | exact bI_t (by simp only [decide_eq_true_eq]; omega) | exact bI_f (by simp only [decide_eq_true_eq]; omega)) (by unfold zSuE zSuF zSuV; repeat (first | rw [if_pos (by first | assumption | omega)] | rw [if_neg (by first | assumption | omega)])) hP hD hS dX7_succeeds_151
            · skip
              refine lv_iconst (v := nI 1) hx hb dX7_succeeds_146 (by decide) ?_
              refine lv_goto (tgt := 151) hx hb dX7_succeeds_147 (by decide) ?_
              exact kret _ _ _ _ _ _ (by unfold zSuB; rw [if_neg (by omega), if_neg (by omega), if_pos (by assumption)]; first | exact bI_t (by simp only [decide_eq_true_eq]; omega) | exact bI_f (by simp only [decide_eq_true_eq]; omega)) (by unfold zSuE zSuF zSuV; repeat (first | rw [if_pos (by first | assumption | omega)] | rw [if_neg (by first | assumption | omega)])) hP hD hS dX7_succeeds_151
  by_cases c_1k4 : gp / 1000 = 4
  · refine lv_tableIn (off := 123) (tgt := 152) hx hb dX7_succeeds_29 (by rw [zI (by omega)]; omega) (by rw [zI (by omega)]; omega) (by rw [c_1k4]; decide) (by decide) ?_
    refine lv_iload hx hb dX7_succeeds_152 (lv_at hl 2 rfl) ?_
    refine zd_ne (a := ((gp / 100) % 10 : Nat)) (tgt := 180) hx hb dX7_succeeds_154 (by decide) (zI (by omega)) (fun c_10 => ?_) (fun c_10 => ?_)
    · skip
      refine lv_iconst (v := nI 0) hx hb dX7_succeeds_180 (by decide) ?_
      exact kret _ _ _ _ _ _ (by unfold zSuB; rw [if_neg (by omega), if_neg (by omega), if_neg (by omega), if_pos (by assumption)]; first | exact bI_t (by simp only [decide_eq_true_eq]; omega) | exact bI_f (by simp only [decide_eq_true_eq]; omega)) (by unfold zSuE zSuF zSuV; repeat (first | rw [if_pos (by first | assumption | omega)] | rw [if_neg (by first | assumption | omega)])) hP hD hS dX7_succeeds_181
    · skip
      refine lv_aload_n hx hb dX7_succeeds_157 rfl (lv_at hl 4 rfl) ?_
      refine lv_iload_n hx hb dX7_succeeds_158 rfl (lv_at hl 5 rfl) ?_
      refine zSl (W1 := [(e, .inr (1, [.ref a1, .ref a2, .ref a3, .int (nI k)])), zA G a1 16 s, zA G a2 16 t, zA G a3 16 lb, (d, .inr (0, [.ref tb, .int (nI V0)])), zA G tb 64 f]) (W2 := [(e, .inr (1, [.ref a1, .ref a2, .ref a3, .int (nI k)])), zA G a1 16 s, zA G a2 16 t, zA G a3 16 lb, (d, .inr (0, [.ref tb, .int (nI V0)])), zA G tb 64 f]) (wr := [(d, .inr (0, [.ref tb, .int (nI V0)])), zA G tb 64 f]) (rest := []) SM (c_X6_ofBalancedPaths l G e a1 a2 a3 16 s t lb k V (by first | assumption | omega) (by first | assumption | omega) (by first | assumption | omega) (by first | assumption | omega) (by first | assumption | omega) (by first | assumption | omega)) (va_cwS 2 hts gX7_succeeds_X6_ofBalancedPaths rfl rfl rfl (by decide +kernel) ⟨Nat.le_of_ble_eq_true rfl, Nat.le_of_ble_eq_true rfl⟩) hK hE hA hP hD hS hl.1 [0, 1, 2, 3] [4, 5] [2, 3, 4, 5, 0, 1] rfl rfl rfl (by decide) rfl rfl (Nat.le_of_ble_eq_true rfl) ⟨Nat.zero_le _, Nat.zero_le _⟩ dX7_succeeds_159 (fun H locs hP hD hS => ?_)
      have hbl := zBp_lt (s := s) (t := t) (lb := lb) (k := k) (V := V) hbs hV
      refine zSi (W1 := [(e, .inr (1, [.ref a1, .ref a2, .ref a3, .int (nI k)])), zA G a1 16 s, zA G a2 16 t, zA G a3 16 lb, (d, .inr (0, [.ref tb, .int (nI V0)])), zA G tb 64 f]) (W2 := [(e, .inr (1, [.ref a1, .ref a2, .ref a3, .int (nI k)])), zA G a1 16 s, zA G a2 16 t, zA G a3 16 lb, (d, .inr (0, [.ref tb, .int (nI V0)])), zA G tb 64 f]) (wr := [(e, .inr (1, [.ref a1, .ref a2, .ref a3, .int (nI k)])), zA G a1 16 s, zA G a2 16 t, zA G a3 16 lb, (d, .inr (0, [.ref tb, .int (nI V0)])), zA G tb 64 f]) (rest := []) SM (c_J13_bitCount_95d88 l G (zBp s t lb k V) (by first | assumption | omega)) (va_cwS 1 hts gX7_succeeds_J13_bitCount_95d88 rfl rfl rfl (by decide +kernel) ⟨Nat.le_of_ble_eq_true rfl, Nat.le_of_ble_eq_true rfl⟩) hK hE hA hP hD hS hl.1 [] [0, 1, 2, 3, 4, 5] [0, 1, 2, 3, 4, 5] rfl rfl rfl (by decide) rfl rfl (Nat.le_of_ble_eq_true rfl) ⟨Nat.zero_le _, Nat.zero_le _⟩ dX7_succeeds_162 (fun H locs hP hD hS => ?_)
      have hpl := zPop_le (zBp s t lb k V)
      refine lv_bipush (v := nI 10) hx hb dX7_succeeds_165 (by decide) ?_
      refine lv_iload hx hb dX7_succeeds_167 (lv_at hl 1 rfl) ?_
      refine zi_mul hx hb dX7_succeeds_169 ?_
      refine lv_iload hx hb dX7_succeeds_170 (lv_at hl 0 rfl) ?_
      refine zi_add hx hb dX7_succeeds_172 ?_
      refine zn_ne (tgt := 180) hx hb dX7_succeeds_173 (by decide) (by omega) (by omega) (fun c_11 => ?_) (fun c_11 => ?_)
      · skip
        refine lv_iconst (v := nI 0) hx hb dX7_succeeds_180 (by decide) ?_
        exact kret _ _ _ _ _ _ (by unfold zSuB; rw [if_neg (by omega), if_neg (by omega), if_neg (by omega), if_pos (by assumption)]; first | exact bI_t (by simp only [decide_eq_true_eq]; omega) | exact bI_f (by simp only [decide_eq_true_eq]; omega)) (by unfold zSuE zSuF zSuV; repeat (first | rw [if_pos (by first | assumption | omega)] | rw [if_neg (by first | assumption | omega)])) hP hD hS dX7_succeeds_181
      · skip
        refine lv_iconst (v := nI 1) hx hb dX7_succeeds_176 (by decide) ?_
        refine lv_goto (tgt := 181) hx hb dX7_succeeds_177 (by decide) ?_
        exact kret _ _ _ _ _ _ (by unfold zSuB; rw [if_neg (by omega), if_neg (by omega), if_neg (by omega), if_pos (by assumption)]; first | exact bI_t (by simp only [decide_eq_true_eq]; omega) | exact bI_f (by simp only [decide_eq_true_eq]; omega)) (by unfold zSuE zSuF zSuV; repeat (first | rw [if_pos (by first | assumption | omega)] | rw [if_neg (by first | assumption | omega)])) hP hD hS dX7_succeeds_181
  by_cases c_1k5 : gp / 1000 = 5
  · refine lv_tableIn (off := 153) (tgt := 182) hx hb dX7_succeeds_29 (by rw [zI (by omega)]; omega) (by rw [zI (by omega)]; omega) (by rw [c_1k5]; decide) (by decide) ?_
    refine lv_iload hx hb dX7_succeeds_182 (lv_at hl 2 rfl) ?_
    refine lv_iload_n hx hb dX7_succeeds_184 rfl (lv_at hl 5 rfl) ?_
    refine zn_ge (tgt := 194) hx hb dX7_succeeds_185 (by decide) (by omega) (by omega) (fun c_12 => ?_) (fun c_12 => ?_)
    · skip
      refine lv_iconst (v := nI 0) hx hb dX7_succeeds_194 (by decide) ?_
      exact kret _ _ _ _ _ _ (by unfold zSuB; rw [if_neg (by omega), if_neg (by omega), if_neg (by omega), if_neg (by omega), if_pos (by assumption)]; first | exact bI_t (by simp only [decide_eq_true_eq]; omega) | exact bI_f (by simp only [decide_eq_true_eq]; omega)) (by unfold zSuE zSuF zSuV; repeat (first | rw [if_pos (by first | assumption | omega)] | rw [if_neg (by first | assumption | omega)])) hP hD hS dX7_succeeds_195
    · skip
      refine lv_iload hx hb dX7_succeeds_188 (lv_at hl 1 rfl) ?_
      refine lv_iload_n hx hb dX7_succeeds_190 rfl (lv_at hl 5 rfl) ?_
      refine zn_lt (tgt := 196) hx hb dX7_succeeds_191 (by decide) (by omega) (by omega) (fun c_13 => ?_) (fun c_13 => ?_)
      · skip
        refine lv_aload_n hx hb dX7_succeeds_196 rfl (lv_at hl 6 rfl) ?_
        refine lv_aload_n hx hb dX7_succeeds_197 rfl (lv_at hl 4 rfl) ?_
        refine lv_iload_n hx hb dX7_succeeds_198 rfl (lv_at hl 5 rfl) ?_
        refine zVv (W1 := [(e, .inr (1, [.ref a1, .ref a2, .ref a3, .int (nI k)])), zA G a1 16 s, zA G a2 16 t, zA G a3 16 lb, (d, .inr (0, [.ref tb, .int (nI V0)])), zA G tb 64 f]) (W2 := [(e, .inr (1, [.ref a1, .ref a2, .ref a3, .int (nI k)])), zA G a1 16 s, zA G a2 16 t, zA G a3 16 lb, (d, .inr (0, [.ref tb, .int (nI V)])), zA G tb 64 (zMs f s t lb k V)]) (wr := []) (rest := []) SM (c_X1_measure l G d tb f V0 e a1 a2 a3 16 s t lb k V (by first | assumption | omega) (by first | assumption | omega) (by first | assumption | omega) (by first | assumption | omega) (by first | assumption | omega) (by first | assumption | omega) (by first | assumption | omega)) (cwV 2 hts gX7_succeeds_X1_measure rfl rfl rfl (by decide +kernel) ⟨Nat.le_of_ble_eq_true rfl, Nat.le_of_ble_eq_true rfl⟩) hK hE hA hP hD hS hl.1 [4, 5, 0, 1, 2, 3] [] [2, 3, 4, 5, 0, 1] rfl rfl rfl (by decide) (ci := 0) rfl rfl rfl rfl rfl (Nat.le_of_ble_eq_true rfl) ⟨Nat.zero_le _, Nat.zero_le _⟩ dX7_succeeds_199 (fun H locs hP hD hS => ?_)
        refine lv_aload_n hx hb dX7_succeeds_202 rfl (lv_at hl 6 rfl) ?_
        refine lv_iload hx hb dX7_succeeds_203 (lv_at hl 2 rfl) ?_
        refine lv_iload hx hb dX7_succeeds_205 (lv_at hl 1 rfl) ?_
        refine zVi (W1 := [(e, .inr (1, [.ref a1, .ref a2, .ref a3, .int (nI k)])), zA G a1 16 s, zA G a2 16 t, zA G a3 16 lb, (d, .inr (0, [.ref tb, .int (nI V)])), zA G tb 64 (zMs f s t lb k V)]) (W2 := [(e, .inr (1, [.ref a1, .ref a2, .ref a3, .int (nI k)])), zA G a1 16 s, zA G a2 16 t, zA G a3 16 lb, (d, .inr (0, [.ref tb, .int (nI V)])), zA G tb 64 (zMs f s t lb k V)]) (wr := [(e, .inr (1, [.ref a1, .ref a2, .ref a3, .int (nI k)])), zA G a1 16 s, zA G a2 16 t, zA G a3 16 lb]) (rest := []) SM (c_X1_between l G d tb (zMs f s t lb k V) V ((gp / 100) % 10) ((gp / 10) % 10) (by first | assumption | omega) (by first | assumption | omega)) (cwV 2 hts gX7_succeeds_X1_between rfl rfl rfl (by decide +kernel) ⟨Nat.le_of_ble_eq_true rfl, Nat.le_of_ble_eq_true rfl⟩) hK hE hA hP hD hS hl.1 [4, 5] [0, 1, 2, 3] [0, 1, 2, 3, 4, 5] rfl rfl rfl (by decide) (ci := 0) rfl rfl rfl rfl rfl (Nat.le_of_ble_eq_true rfl) ⟨Nat.zero_le _, Nat.zero_le _⟩ dX7_succeeds_207 (fun H locs hP hD hS => ?_)
        have hml := zMs_9 (s := s) (t := t) (lb := lb) (k := k) (V := V) hf (8 * (gp / 100 % 10) + gp / 10 % 10)
        refine lv_iload hx hb dX7_succeeds_210 (lv_at hl 0 rfl) ?_
        refine zn_ne (tgt := 219) hx hb dX7_succeeds_212 (by decide) (by omega) (by omega) (fun c_14 => ?_) (fun c_14 => ?_)
        · skip
          refine lv_iconst (v := nI 0) hx hb dX7_succeeds_219 (by decide) ?_
          exact kret _ _ _ _ _ _ (by unfold zSuB; rw [if_neg (by omega), if_neg (by omega), if_neg (by omega), if_neg (by omega), if_pos (by assumption)]; first | exact bI_t (by simp only [decide_eq_true_eq]; omega) | exact bI_f (by simp only [decide_eq_true_eq]; omega)) (by unfold zSuE zSuF zSuV; repeat (first | rw [if_pos (by first | assumption | omega)] | rw [if_neg (by first | assumption | omega)])) hP hD hS dX7_succeeds_220
        · skip
          refine lv_iconst (v := nI 1) hx hb dX7_succeeds_215 (by decide) ?_
          refine lv_goto (tgt := 220) hx hb dX7_succeeds_216 (by decide) ?_
          exact kret _ _ _ _ _ _ (by unfold zSuB; rw [if_neg (by omega), if_neg (by omega), if_neg (by omega), if_neg (by omega), if_pos (by assumption)]; first | exact bI_t (by simp only [decide_eq_true_eq]; omega) | exact bI_f (by simp only [decide_eq_true_eq]; omega)) (by unfold zSuE zSuF zSuV; repeat (first | rw [if_pos (by first | assumption | omega)] | rw [if_neg (by first | assumption | omega)])) hP hD hS dX7_succeeds_220
      · skip
        refine lv_iconst (v := nI 0) hx hb dX7_succeeds_194 (by decide) ?_
        exact kret _ _ _ _ _ _ (by unfold zSuB; rw [if_neg (by omega), if_neg (by omega), if_neg (by omega), if_neg (by omega), if_pos (by assumption)]; first | exact bI_t (by simp only [decide_eq_true_eq]; omega) | exact bI_f (by simp only [decide_eq_true_eq]; omega)) (by unfold zSuE zSuF zSuV; repeat (first | rw [if_pos (by first | assumption | omega)] | rw [if_neg (by first | assumption | omega)])) hP hD hS dX7_succeeds_195
  refine lv_tableOut (tgt := 221) hx hb dX7_succeeds_29 (by rw [zI (by omega)]; omega) (by decide) ?_
  refine lv_iconst (v := nI 0) hx hb dX7_succeeds_221 (by decide) ?_
  exact kret _ _ _ _ _ _ (by unfold zSuB; rw [if_neg (by omega), if_neg (by omega), if_neg (by omega), if_neg (by omega), if_neg (by omega)]; rfl) (by unfold zSuE zSuF zSuV; repeat (first | rw [if_pos (by first | assumption | omega)] | rw [if_neg (by first | assumption | omega)])) hP hD hS dX7_succeeds_222
