set_option maxHeartbeats 4000000 in
set_option maxRecDepth 100000 in
theorem c_X9_in_X (l : Launch) (G : zG) (x : Int32) (lo hi : Nat) (hlo : lo < 9223372036854775808) (hhi : hi < 9223372036854775808) : MI l yX9_in wsX9_in ({ frames := 0, cells := 0, slots := 0, locals := 0 }) G [.long x.toInt64, .long (lN lo), .long (lN hi)] [] (bI (decide (lo ≤ x.toInt ∧ x.toInt ≤ hi))) [] := by
  refine MI.enter (cc := cX9_in) (maxL := 6) (by decide) rfl (Nat.le_of_ble_eq_true rfl) (bI_nar _) ?_
  intro pM eM sM mM bM tM cM QM AM ls hat kret
  obtain ⟨SM, hA, hK, hE, hP, hD, hS, hl⟩ := hat
  have hx := SM.1
  have hb := SM.2.1
  have hown : sM.vm.findClass RX9 = some mM.cls := SM.2.2.2.1
  have hts := SM.2.2.2.2
  have hll := z_lT (n := lo) hlo
  have hhh := z_lT (n := hi) hhi
  have hxx : (x.toInt64).toInt = x.toInt := Int32.toInt_toInt64 x
  have hl : lv_has ls 6 [(0, .long x.toInt64), (2, .long (lN lo)), (4, .long (lN hi))] := hl
  refine lv_lload_n hx hb dX9_in_0 rfl (lv_at hl 0 rfl) ?_
  refine lv_lload_n hx hb dX9_in_1 rfl (lv_at hl 1 rfl) ?_
  refine zl_lt (tgt := 17) hx hb dX9_in_2 dX9_in_3 (by decide) (fun c_1 => ?_) (fun c_1 => ?_)
  · skip
    refine lv_iconst (v := nI 0) hx hb dX9_in_17 (by decide) ?_
    exact kret _ _ _ _ _ _ (bI_f (by omega)) rfl hP hD hS dX9_in_18
  · skip
    refine lv_lload_n hx hb dX9_in_6 rfl (lv_at hl 0 rfl) ?_
    refine lv_lload hx hb dX9_in_7 (lv_at hl 2 rfl) ?_
    refine zl_gt (tgt := 17) hx hb dX9_in_9 dX9_in_10 (by decide) (fun c_2 => ?_) (fun c_2 => ?_)
    · skip
      refine lv_iconst (v := nI 0) hx hb dX9_in_17 (by decide) ?_
      exact kret _ _ _ _ _ _ (bI_f (by omega)) rfl hP hD hS dX9_in_18
    · skip
      refine lv_iconst (v := nI 1) hx hb dX9_in_13 (by decide) ?_
      refine lv_goto (tgt := 18) hx hb dX9_in_14 (by decide) ?_
      exact kret _ _ _ _ _ _ (bI_t (by omega)) rfl hP hD hS dX9_in_18
set_option maxHeartbeats 4000000 in
set_option maxRecDepth 100000 in
theorem c_X9_in_XY (l : Launch) (G : zG) (x h : Int32) (lo : Nat) (hlo : lo < 9223372036854775808) : MI l yX9_in wsX9_in ({ frames := 0, cells := 0, slots := 0, locals := 0 }) G [.long x.toInt64, .long (lN lo), .long h.toInt64] [] (bI (decide (lo ≤ x.toInt ∧ x.toInt ≤ h.toInt))) [] := by
  refine MI.enter (cc := cX9_in) (maxL := 6) (by decide) rfl (Nat.le_of_ble_eq_true rfl) (bI_nar _) ?_
  intro pM eM sM mM bM tM cM QM AM ls hat kret
  obtain ⟨SM, hA, hK, hE, hP, hD, hS, hl⟩ := hat
  have hx := SM.1
  have hb := SM.2.1
  have hown : sM.vm.findClass RX9 = some mM.cls := SM.2.2.2.1
  have hts := SM.2.2.2.2
  have hll := z_lT (n := lo) hlo
  have hxx : (x.toInt64).toInt = x.toInt := Int32.toInt_toInt64 x
  have hyy : (h.toInt64).toInt = h.toInt := Int32.toInt_toInt64 h
  have hl : lv_has ls 6 [(0, .long x.toInt64), (2, .long (lN lo)), (4, .long h.toInt64)] := hl
  refine lv_lload_n hx hb dX9_in_0 rfl (lv_at hl 0 rfl) ?_
  refine lv_lload_n hx hb dX9_in_1 rfl (lv_at hl 1 rfl) ?_
  refine zl_lt (tgt := 17) hx hb dX9_in_2 dX9_in_3 (by decide) (fun c_1 => ?_) (fun c_1 => ?_)
  · skip
    refine lv_iconst (v := nI 0) hx hb dX9_in_17 (by decide) ?_
    exact kret _ _ _ _ _ _ (bI_f (by omega)) rfl hP hD hS dX9_in_18
  · skip
    refine lv_lload_n hx hb dX9_in_6 rfl (lv_at hl 0 rfl) ?_
    refine lv_lload hx hb dX9_in_7 (lv_at hl 2 rfl) ?_
    refine zl_gt (tgt := 17) hx hb dX9_in_9 dX9_in_10 (by decide) (fun c_2 => ?_) (fun c_2 => ?_)
    · skip
      refine lv_iconst (v := nI 0) hx hb dX9_in_17 (by decide) ?_
      exact kret _ _ _ _ _ _ (bI_f (by omega)) rfl hP hD hS dX9_in_18
    · skip
      refine lv_iconst (v := nI 1) hx hb dX9_in_13 (by decide) ?_
      refine lv_goto (tgt := 18) hx hb dX9_in_14 (by decide) ?_
      exact kret _ _ _ _ _ _ (bI_t (by omega)) rfl hP hD hS dX9_in_18
set_option maxHeartbeats 4000000 in
set_option maxRecDepth 100000 in
theorem c_X9_in_L (l : Launch) (G : zG) (x : Int64) (lo hi : Nat) (hlo : lo < 9223372036854775808) (hhi : hi < 9223372036854775808) : MI l yX9_in wsX9_in ({ frames := 0, cells := 0, slots := 0, locals := 0 }) G [.long x, .long (lN lo), .long (lN hi)] [] (bI (decide (lo ≤ x.toInt ∧ x.toInt ≤ hi))) [] := by
  refine MI.enter (cc := cX9_in) (maxL := 6) (by decide) rfl (Nat.le_of_ble_eq_true rfl) (bI_nar _) ?_
  intro pM eM sM mM bM tM cM QM AM ls hat kret
  obtain ⟨SM, hA, hK, hE, hP, hD, hS, hl⟩ := hat
  have hx := SM.1
  have hb := SM.2.1
  have hown : sM.vm.findClass RX9 = some mM.cls := SM.2.2.2.1
  have hts := SM.2.2.2.2
  have hll := z_lT (n := lo) hlo
  have hhh := z_lT (n := hi) hhi
  have hl : lv_has ls 6 [(0, .long x), (2, .long (lN lo)), (4, .long (lN hi))] := hl
  refine lv_lload_n hx hb dX9_in_0 rfl (lv_at hl 0 rfl) ?_
  refine lv_lload_n hx hb dX9_in_1 rfl (lv_at hl 1 rfl) ?_
  refine zl_lt (tgt := 17) hx hb dX9_in_2 dX9_in_3 (by decide) (fun c_1 => ?_) (fun c_1 => ?_)
  · skip
    refine lv_iconst (v := nI 0) hx hb dX9_in_17 (by decide) ?_
    exact kret _ _ _ _ _ _ (bI_f (by omega)) rfl hP hD hS dX9_in_18
  · skip
    refine lv_lload_n hx hb dX9_in_6 rfl (lv_at hl 0 rfl) ?_
    refine lv_lload hx hb dX9_in_7 (lv_at hl 2 rfl) ?_
    refine zl_gt (tgt := 17) hx hb dX9_in_9 dX9_in_10 (by decide) (fun c_2 => ?_) (fun c_2 => ?_)
    · skip
      refine lv_iconst (v := nI 0) hx hb dX9_in_17 (by decide) ?_
      exact kret _ _ _ _ _ _ (bI_f (by omega)) rfl hP hD hS dX9_in_18
    · skip
      refine lv_iconst (v := nI 1) hx hb dX9_in_13 (by decide) ?_
      refine lv_goto (tgt := 18) hx hb dX9_in_14 (by decide) ?_
      exact kret _ _ _ _ _ _ (bI_t (by omega)) rfl hP hD hS dX9_in_18
set_option maxHeartbeats 4000000 in
set_option maxRecDepth 100000 in
theorem c_X9_in_N (l : Launch) (G : zG) (x lo hi : Nat) (hx63 : x < 9223372036854775808) (hlo : lo < 9223372036854775808) (hhi : hi < 9223372036854775808) : MI l yX9_in wsX9_in ({ frames := 0, cells := 0, slots := 0, locals := 0 }) G [.long (lN x), .long (lN lo), .long (lN hi)] [] (bI (decide (lo ≤ x ∧ x ≤ hi))) [] := by
  refine MI.enter (cc := cX9_in) (maxL := 6) (by decide) rfl (Nat.le_of_ble_eq_true rfl) (bI_nar _) ?_
  intro pM eM sM mM bM tM cM QM AM ls hat kret
  obtain ⟨SM, hA, hK, hE, hP, hD, hS, hl⟩ := hat
  have hx := SM.1
  have hb := SM.2.1
  have hown : sM.vm.findClass RX9 = some mM.cls := SM.2.2.2.1
  have hts := SM.2.2.2.2
  have hll := z_lT (n := lo) hlo
  have hhh := z_lT (n := hi) hhi
  have hxx := z_lT (n := x) hx63
  have hl : lv_has ls 6 [(0, .long (lN x)), (2, .long (lN lo)), (4, .long (lN hi))] := hl
  refine lv_lload_n hx hb dX9_in_0 rfl (lv_at hl 0 rfl) ?_
  refine lv_lload_n hx hb dX9_in_1 rfl (lv_at hl 1 rfl) ?_
  refine zl_lt (tgt := 17) hx hb dX9_in_2 dX9_in_3 (by decide) (fun c_1 => ?_) (fun c_1 => ?_)
  · skip
    refine lv_iconst (v := nI 0) hx hb dX9_in_17 (by decide) ?_
    exact kret _ _ _ _ _ _ (bI_f (by omega)) rfl hP hD hS dX9_in_18
  · skip
    refine lv_lload_n hx hb dX9_in_6 rfl (lv_at hl 0 rfl) ?_
    refine lv_lload hx hb dX9_in_7 (lv_at hl 2 rfl) ?_
    refine zl_gt (tgt := 17) hx hb dX9_in_9 dX9_in_10 (by decide) (fun c_2 => ?_) (fun c_2 => ?_)
    · skip
      refine lv_iconst (v := nI 0) hx hb dX9_in_17 (by decide) ?_
      exact kret _ _ _ _ _ _ (bI_f (by omega)) rfl hP hD hS dX9_in_18
    · skip
      refine lv_iconst (v := nI 1) hx hb dX9_in_13 (by decide) ?_
      refine lv_goto (tgt := 18) hx hb dX9_in_14 (by decide) ?_
      exact kret _ _ _ _ _ _ (bI_t (by omega)) rfl hP hD hS dX9_in_18
set_option maxHeartbeats 4000000 in
set_option maxRecDepth 100000 in
theorem c_X9_has (l : Launch) (G : zG) (a b : Nat) (ha : a < 2147483648) (hb32 : b < 32) : MI l yX9_has wsX9_has ({ frames := 0, cells := 0, slots := 0, locals := 0 }) G [.int (nI a), .int (nI b)] [] (bI (decide (a / 2 ^ b % 2 = 1))) [] := by
  refine MI.enter (cc := cX9_has) (maxL := 2) (by decide) rfl (Nat.le_of_ble_eq_true rfl) (bI_nar _) ?_
  intro pM eM sM mM bM tM cM QM AM ls hat kret
  obtain ⟨SM, hA, hK, hE, hP, hD, hS, hl⟩ := hat
  have hx := SM.1
  have hb := SM.2.1
  have hown : sM.vm.findClass RX9 = some mM.cls := SM.2.2.2.1
  have hts := SM.2.2.2.2
  have hl : lv_has ls 2 [(0, .int (nI a)), (1, .int (nI b))] := hl
  refine lv_iload_n hx hb dX9_has_0 rfl (lv_at hl 0 rfl) ?_
  refine lv_iload_n hx hb dX9_has_1 rfl (lv_at hl 1 rfl) ?_
  refine zi_shr hx hb dX9_has_2 (by omega) (by omega) ?_
  refine lv_iconst (v := nI 1) hx hb dX9_has_3 (by decide) ?_
  refine zi_and1 hx hb dX9_has_4 ?_
  refine lv_iconst (v := nI 1) hx hb dX9_has_5 (by decide) ?_
  refine zn_ne (tgt := 13) hx hb dX9_has_6 (by decide) (by omega) (by omega) (fun c_1 => ?_) (fun c_1 => ?_)
  · skip
    refine lv_iconst (v := nI 0) hx hb dX9_has_13 (by decide) ?_
    exact kret _ _ _ _ _ _ (bI_f (by omega)) rfl hP hD hS dX9_has_14
  · skip
    refine lv_iconst (v := nI 1) hx hb dX9_has_9 (by decide) ?_
    refine lv_goto (tgt := 14) hx hb dX9_has_10 (by decide) ?_
    exact kret _ _ _ _ _ _ (bI_t (by omega)) rfl hP hD hS dX9_has_14
set_option maxHeartbeats 4000000 in
set_option maxRecDepth 100000 in
theorem c_X9_bits (l : Launch) (G : zG) (a : Nat) (ha : a < 2147483648) : MI l yX9_bits wsX9_bits ({ frames := 0, cells := 0, slots := 0, locals := 0 }) G [.int (nI a)] [] (nI (zBits a)) [] := by
  refine MI.enter (cc := cX9_bits) (maxL := 3) (by decide) rfl (Nat.le_of_ble_eq_true rfl) rfl ?_
  intro pM eM sM mM bM tM cM QM AM ls hat kret
  obtain ⟨SM, hA, hK, hE, hP, hD, hS, hl⟩ := hat
  have hx := SM.1
  have hb := SM.2.1
  have hown : sM.vm.findClass RX9 = some mM.cls := SM.2.2.2.1
  have hts := SM.2.2.2.2
  have hl : lv_has ls 3 [(0, .int (nI a))] := hl
  refine lv_iconst (v := nI 0) hx hb dX9_bits_0 (by decide) ?_
  refine lv_istore_n (lv' := [(1, .int (nI 0)), (0, .int (nI a))]) hx hb dX9_bits_1 rfl hl (by decide) rfl (fun ls hl => ?_)
  refine lv_iconst (v := nI 0) hx hb dX9_bits_2 (by decide) ?_
  refine lv_istore_n (lv' := [(2, .int (nI 0)), (1, .int (nI 0)), (0, .int (nI a))]) hx hb dX9_bits_3 rfl hl (by decide) rfl (fun ls hl => ?_)
  have lp4 : ∀ (n9 : Nat), ∀ (i n : Nat), (i ≤ 16) → (n = zIt (zPopF a) i 0) → (16 - i) < n9 → ∀ (H : Heap) (locs : List Loc) (ls : Array Slot), va_P G.1 vwCl [] H → va_D AM [] → va_S AM sM.heap H locs → lv_has ls 3 [(0, .int (nI a)), (1, .int (nI n)), (2, .int (nI i))] → W pM l eM ({ frames := 0, cells := 0, slots := 0, locals := 0 }) sM mM (([.int (nI a)] : List Value).toArray) bM tM cM H locs 0 0 QM (F0 mM 4 ls []) := by
    intro n9
    induction n9 with
    | zero =>
      intro _ _ _ _ h9
      exact absurd h9 (Nat.not_lt_zero _)
    | succ n9 ih9 =>
      intro i n h1 hq hmu4 H locs ls hP hD hS hl
      have ih4 := ih9
      clear ih9
      refine lv_iload_n hx hb dX9_bits_4 rfl (lv_at hl 2 rfl) ?_
      refine lv_bipush (v := nI 16) hx hb dX9_bits_5 (by decide) ?_
      refine zn_ge (tgt := 24) hx hb dX9_bits_7 (by decide) (by omega) (by omega) (fun c_1 => ?_) (fun c_1 => ?_)
      · skip
        refine lv_iload_n hx hb dX9_bits_24 rfl (lv_at hl 1 rfl) ?_
        exact kret _ _ _ _ _ _ (congrArg nI (by have hq9 : i = 16 := (by omega); subst hq9; exact hq)) rfl hP hD hS dX9_bits_25
      · skip
        refine lv_iload_n hx hb dX9_bits_10 rfl (lv_at hl 1 rfl) ?_
        refine lv_iload_n hx hb dX9_bits_11 rfl (lv_at hl 0 rfl) ?_
        refine lv_iload_n hx hb dX9_bits_12 rfl (lv_at hl 2 rfl) ?_
        refine zi_shr hx hb dX9_bits_13 (by omega) (by omega) ?_
        refine lv_iconst (v := nI 1) hx hb dX9_bits_14 (by decide) ?_
        refine zi_and1 hx hb dX9_bits_15 ?_
        refine zi_add hx hb dX9_bits_16 ?_
        refine lv_istore_n (lv' := [(1, .int (nI (n + ((a / 2 ^ i) % 2)))), (0, .int (nI a)), (2, .int (nI i))]) hx hb dX9_bits_17 rfl hl (by decide) rfl (fun ls hl => ?_)
        refine lv_iinc (v := nI (i + 1)) (lv' := [(2, .int (nI (i + 1))), (1, .int (nI (n + ((a / 2 ^ i) % 2)))), (0, .int (nI a))]) hx hb dX9_bits_18 hl (k := 2) rfl (zinc i 1) (by decide) rfl (fun ls hl => ?_)
        refine lv_goto (tgt := 4) hx hb dX9_bits_21 (by decide) ?_
        exact ih4 (i + 1) (n + ((a / 2 ^ i) % 2)) (by first | assumption | omega) (by rw [zIt_s, ← hq] <;> rfl) (by omega) _ _ _ hP hD hS (lv_sub hl [2, 1, 0] rfl)
  exact lp4 (16 - 0 + 1) 0 0 (by first | assumption | omega) rfl (Nat.lt_succ_self _) _ _ _ hP hD hS (lv_sub hl [2, 1, 0] rfl)
set_option maxHeartbeats 4000000 in
set_option maxRecDepth 100000 in
theorem c_X9_assign (l : Launch) (G : zG) (a b : Nat) (g1 g2 : Nat → Nat)  : MV l yX9_assign wsX9_assign ({ frames := 0, cells := 0, slots := 0, locals := 0 }) G [.ref a, .ref b] [zA G a 49 g1, zA G b 49 g2] [zA G a 49 g1, zA G b 49 g1] := by
  refine MV.enter (cc := cX9_assign) (maxL := 3) (by decide) rfl (Nat.le_of_ble_eq_true rfl) ?_
  intro pM eM sM mM bM tM cM QM AM ls hat kret
  obtain ⟨SM, hA, hK, hE, hP, hD, hS, hl⟩ := hat
  have hx := SM.1
  have hb := SM.2.1
  have hown : sM.vm.findClass RX9 = some mM.cls := SM.2.2.2.1
  have hts := SM.2.2.2.2
  have hl : lv_has ls 3 [(0, .ref a), (1, .ref b)] := hl
  refine lv_iconst (v := nI 0) hx hb dX9_assign_0 (by decide) ?_
  refine lv_istore_n (lv' := [(2, .int (nI 0)), (0, .ref a), (1, .ref b)]) hx hb dX9_assign_1 rfl hl (by decide) rfl (fun ls hl => ?_)
  have lp2 : ∀ (n9 : Nat), ∀ (i : Nat), (i ≤ 49) → (49 - i) < n9 → ∀ (H : Heap) (locs : List Loc) (ls : Array Slot), va_P G.1 vwCl [zA G a 49 g1, zA G b 49 (zTk g2 g1 i)] H → va_D AM [zA G a 49 g1, zA G b 49 (zTk g2 g1 i)] → va_S AM sM.heap H locs → lv_has ls 3 [(0, .ref a), (1, .ref b), (2, .int (nI i))] → W pM l eM ({ frames := 0, cells := 0, slots := 0, locals := 0 }) sM mM (([.ref a, .ref b] : List Value).toArray) bM tM cM H locs 0 0 QM (F0 mM 2 ls []) := by
    intro n9
    induction n9 with
    | zero =>
      intro _ _ h9
      exact absurd h9 (Nat.not_lt_zero _)
    | succ n9 ih9 =>
      intro i h1 hmu2 H locs ls hP hD hS hl
      have ih2 := ih9
      clear ih9
      refine lv_iload_n hx hb dX9_assign_2 rfl (lv_at hl 2 rfl) ?_
      refine lv_bipush (v := nI 49) hx hb dX9_assign_3 (by decide) ?_
      refine zn_ge (tgt := 20) hx hb dX9_assign_5 (by decide) (by omega) (by omega) (fun c_1 => ?_) (fun c_1 => ?_)
      · skip
        obtain ⟨hP, hD⟩ := zcanon hP hD 1 rfl g1 (fun j h9 => by have hq9 : i = 49 := (by omega); subst hq9; unfold zTk; rw [if_pos h9])
        have hP : va_P G.1 vwCl [zA G a 49 g1, zA G b 49 g1] H := hP
        have hD : va_D AM [zA G a 49 g1, zA G b 49 g1] := hD
        exact kret _ _ _ _ _ rfl hP hD hS dX9_assign_20
      · skip
        refine lv_aload_n hx hb dX9_assign_8 rfl (lv_at hl 1 rfl) ?_
        refine lv_iload_n hx hb dX9_assign_9 rfl (lv_at hl 2 rfl) ?_
        refine lv_aload_n hx hb dX9_assign_10 rfl (lv_at hl 0 rfl) ?_
        refine lv_iload_n hx hb dX9_assign_11 rfl (lv_at hl 2 rfl) ?_
        refine zi_ald hx hb hK hP 0 rfl (by omega) (by omega) dX9_assign_12 ?_
        refine zi_ast hx hb hK hP hD hS 1 rfl (by omega) (by omega) dX9_assign_13 (fun H locs hP hD hS => ?_)
        have hP : va_P G.1 vwCl [zA G a 49 g1, zA G b 49 (zU (zTk g2 g1 i) i (g1 i))] H := hP
        have hD : va_D AM [zA G a 49 g1, zA G b 49 (zU (zTk g2 g1 i) i (g1 i))] := hD
        refine lv_iinc (v := nI (i + 1)) (lv' := [(2, .int (nI (i + 1))), (0, .ref a), (1, .ref b)]) hx hb dX9_assign_14 hl (k := 2) rfl (zinc i 1) (by decide) rfl (fun ls hl => ?_)
        refine lv_goto (tgt := 2) hx hb dX9_assign_17 (by decide) ?_
        have hP : va_P G.1 vwCl [zA G a 49 g1, zA G b 49 (zTk g2 g1 (i + 1))] H := by (simp only [zTk_step]); exact hP
        have hD : va_D AM [zA G a 49 g1, zA G b 49 (zTk g2 g1 (i + 1))] := by (simp only [zTk_step]); exact hD
        exact ih2 (i + 1) (by first | assumption | omega) (by omega) _ _ _ hP hD hS (lv_sub hl [1, 2, 0] rfl)
  have hP : va_P G.1 vwCl [zA G a 49 g1, zA G b 49 (zTk g2 g1 0)] sM.heap := by (simp only [zTk_0]); exact hP
  have hD : va_D AM [zA G a 49 g1, zA G b 49 (zTk g2 g1 0)] := by (simp only [zTk_0]); exact hD
  exact lp2 (49 - 0 + 1) 0 (by first | assumption | omega) (Nat.lt_succ_self _) _ _ _ hP hD hS (lv_sub hl [1, 2, 0] rfl)
set_option maxHeartbeats 4000000 in
set_option maxRecDepth 100000 in
theorem c_X9_put (l : Launch) (G : zG) (a : Nat) (g : Nat → Nat) (x y z : Nat) (hk : g 0 < 16) : MV l yX9_put wsX9_put ({ frames := 0, cells := 0, slots := 0, locals := 0 }) G [.ref a, .int (nI x), .int (nI y), .int (nI z)] [zA G a 49 g] [zA G a 49 (zMp g x y z)] := by
  refine MV.enter (cc := cX9_put) (maxL := 5) (by decide) rfl (Nat.le_of_ble_eq_true rfl) ?_
  intro pM eM sM mM bM tM cM QM AM ls hat kret
  obtain ⟨SM, hA, hK, hE, hP, hD, hS, hl⟩ := hat
  have hx := SM.1
  have hb := SM.2.1
  have hown : sM.vm.findClass RX9 = some mM.cls := SM.2.2.2.1
  have hts := SM.2.2.2.2
  have hl : lv_has ls 5 [(0, .ref a), (1, .int (nI x)), (2, .int (nI y)), (3, .int (nI z))] := hl
  refine lv_iconst (v := nI 1) hx hb dX9_put_0 (by decide) ?_
  refine lv_iconst (v := nI 3) hx hb dX9_put_1 (by decide) ?_
  refine lv_aload_n hx hb dX9_put_2 rfl (lv_at hl 0 rfl) ?_
  refine lv_iconst (v := nI 0) hx hb dX9_put_3 (by decide) ?_
  refine zi_ald hx hb hK hP 0 rfl (by omega) (by omega) dX9_put_4 ?_
  refine zi_mul hx hb dX9_put_5 ?_
  refine zi_addk (n := 1 + (3 * (g 0))) hx hb dX9_put_6 (by omega) ?_
  refine lv_istore (lv' := [(4, .int (nI (1 + (3 * (g 0))))), (0, .ref a), (1, .int (nI x)), (2, .int (nI y)), (3, .int (nI z))]) hx hb dX9_put_7 hl (by decide) rfl (fun ls hl => ?_)
  refine lv_aload_n hx hb dX9_put_9 rfl (lv_at hl 1 rfl) ?_
  refine lv_iload hx hb dX9_put_10 (lv_at hl 0 rfl) ?_
  refine lv_iload_n hx hb dX9_put_12 rfl (lv_at hl 2 rfl) ?_
  refine zi_ast hx hb hK hP hD hS 0 rfl (by omega) (by omega) dX9_put_13 (fun H locs hP hD hS => ?_)
  have hP : va_P G.1 vwCl [zA G a 49 (zU g (1 + (3 * (g 0))) x)] H := hP
  have hD : va_D AM [zA G a 49 (zU g (1 + (3 * (g 0))) x)] := hD
  refine lv_aload_n hx hb dX9_put_14 rfl (lv_at hl 1 rfl) ?_
  refine lv_iload hx hb dX9_put_15 (lv_at hl 0 rfl) ?_
  refine lv_iconst (v := nI 1) hx hb dX9_put_17 (by decide) ?_
  refine zi_addk (n := (1 + (3 * (g 0))) + 1) hx hb dX9_put_18 (by omega) ?_
  refine lv_iload_n hx hb dX9_put_19 rfl (lv_at hl 3 rfl) ?_
  refine zi_ast hx hb hK hP hD hS 0 rfl (by omega) (by omega) dX9_put_20 (fun H locs hP hD hS => ?_)
  have hP : va_P G.1 vwCl [zA G a 49 (zU (zU g (1 + (3 * (g 0))) x) ((1 + (3 * (g 0))) + 1) y)] H := hP
  have hD : va_D AM [zA G a 49 (zU (zU g (1 + (3 * (g 0))) x) ((1 + (3 * (g 0))) + 1) y)] := hD
  refine lv_aload_n hx hb dX9_put_21 rfl (lv_at hl 1 rfl) ?_
  refine lv_iload hx hb dX9_put_22 (lv_at hl 0 rfl) ?_
  refine lv_iconst (v := nI 2) hx hb dX9_put_24 (by decide) ?_
  refine zi_addk (n := (1 + (3 * (g 0))) + 2) hx hb dX9_put_25 (by omega) ?_
  refine lv_iload_n hx hb dX9_put_26 rfl (lv_at hl 4 rfl) ?_
  refine zi_ast hx hb hK hP hD hS 0 rfl (by omega) (by omega) dX9_put_27 (fun H locs hP hD hS => ?_)
  have hP : va_P G.1 vwCl [zA G a 49 (zU (zU (zU g (1 + (3 * (g 0))) x) ((1 + (3 * (g 0))) + 1) y) ((1 + (3 * (g 0))) + 2) z)] H := hP
  have hD : va_D AM [zA G a 49 (zU (zU (zU g (1 + (3 * (g 0))) x) ((1 + (3 * (g 0))) + 1) y) ((1 + (3 * (g 0))) + 2) z)] := hD
  refine lv_aload_n hx hb dX9_put_28 rfl (lv_at hl 1 rfl) ?_
  refine lv_iconst (v := nI 0) hx hb dX9_put_29 (by decide) ?_
  refine lv_dup2_11 hx hb dX9_put_30 rfl rfl ?_
  refine zi_ald hx hb hK hP 0 rfl (by omega) (by omega) dX9_put_31 ?_
  refine lv_iconst (v := nI 1) hx hb dX9_put_32 (by decide) ?_
  refine zi_addk (n := ((zU (zU (zU g (1 + (3 * (g 0))) x) ((1 + (3 * (g 0))) + 1) y) ((1 + (3 * (g 0))) + 2) z) 0) + 1) hx hb dX9_put_33 (by omega) ?_
  refine zi_ast hx hb hK hP hD hS 0 rfl (by omega) (by omega) dX9_put_34 (fun H locs hP hD hS => ?_)
  have hP : va_P G.1 vwCl [zA G a 49 (zU (zU (zU (zU g (1 + (3 * (g 0))) x) ((1 + (3 * (g 0))) + 1) y) ((1 + (3 * (g 0))) + 2) z) 0 (((zU (zU (zU g (1 + (3 * (g 0))) x) ((1 + (3 * (g 0))) + 1) y) ((1 + (3 * (g 0))) + 2) z) 0) + 1))] H := hP
  have hD : va_D AM [zA G a 49 (zU (zU (zU (zU g (1 + (3 * (g 0))) x) ((1 + (3 * (g 0))) + 1) y) ((1 + (3 * (g 0))) + 2) z) 0 (((zU (zU (zU g (1 + (3 * (g 0))) x) ((1 + (3 * (g 0))) + 1) y) ((1 + (3 * (g 0))) + 2) z) 0) + 1))] := hD
  exact kret _ _ _ _ _ (by unfold zMp; rw [zMp_0]) hP hD hS dX9_put_35
set_option maxHeartbeats 4000000 in
set_option maxRecDepth 100000 in
theorem c_X9_drop (l : Launch) (G : zG) (a : Nat) (g : Nat → Nat) (j : Nat) (hk : g 0 ≤ 16) (hj : j < g 0) : MV l yX9_drop wsX9_drop ({ frames := 0, cells := 0, slots := 0, locals := 0 }) G [.ref a, .int (nI j)] [zA G a 49 g] [zA G a 49 (zMd g j)] := by
  refine MV.enter (cc := cX9_drop) (maxL := 3) (by decide) rfl (Nat.le_of_ble_eq_true rfl) ?_
  intro pM eM sM mM bM tM cM QM AM ls hat kret
  obtain ⟨SM, hA, hK, hE, hP, hD, hS, hl⟩ := hat
  have hx := SM.1
  have hb := SM.2.1
  have hown : sM.vm.findClass RX9 = some mM.cls := SM.2.2.2.1
  have hts := SM.2.2.2.2
  have hl : lv_has ls 3 [(0, .ref a), (1, .int (nI j))] := hl
  refine lv_iconst (v := nI 1) hx hb dX9_drop_0 (by decide) ?_
  refine lv_iconst (v := nI 3) hx hb dX9_drop_1 (by decide) ?_
  refine lv_iload_n hx hb dX9_drop_2 rfl (lv_at hl 1 rfl) ?_
  refine zi_mul hx hb dX9_drop_3 ?_
  refine zi_addk (n := 1 + (3 * j)) hx hb dX9_drop_4 (by omega) ?_
  refine lv_istore_n (lv' := [(2, .int (nI (1 + (3 * j)))), (0, .ref a), (1, .int (nI j))]) hx hb dX9_drop_5 rfl hl (by decide) rfl (fun ls hl => ?_)
  have lp6 : ∀ (n9 : Nat), ∀ (q : Nat), (1 + 3 * j ≤ q) → (q ≤ 46) → (46 - q) < n9 → ∀ (H : Heap) (locs : List Loc) (ls : Array Slot), va_P G.1 vwCl [zA G a 49 (zDq g (1 + 3 * j) q)] H → va_D AM [zA G a 49 (zDq g (1 + 3 * j) q)] → va_S AM sM.heap H locs → lv_has ls 3 [(0, .ref a), (1, .int (nI j)), (2, .int (nI q))] → W pM l eM ({ frames := 0, cells := 0, slots := 0, locals := 0 }) sM mM (([.ref a, .int (nI j)] : List Value).toArray) bM tM cM H locs 0 0 QM (F0 mM 6 ls []) := by
    intro n9
    induction n9 with
    | zero =>
      intro _ _ _ h9
      exact absurd h9 (Nat.not_lt_zero _)
    | succ n9 ih9 =>
      intro q h1 h2 hmu6 H locs ls hP hD hS hl
      have ih6 := ih9
      clear ih9
      refine lv_iload_n hx hb dX9_drop_6 rfl (lv_at hl 2 rfl) ?_
      refine lv_iconst (v := nI 3) hx hb dX9_drop_7 (by decide) ?_
      refine zi_addk (n := q + 3) hx hb dX9_drop_8 (by omega) ?_
      refine lv_bipush (v := nI 49) hx hb dX9_drop_9 (by decide) ?_
      refine zn_ge (tgt := 28) hx hb dX9_drop_11 (by decide) (by omega) (by omega) (fun c_1 => ?_) (fun c_1 => ?_)
      · skip
        have hd0 : zDq g (1 + 3 * j) q 0 = g 0 := zDq_lo (by omega)
        refine lv_aload_n hx hb dX9_drop_28 rfl (lv_at hl 0 rfl) ?_
        refine lv_iconst (v := nI 0) hx hb dX9_drop_29 (by decide) ?_
        refine lv_dup2_11 hx hb dX9_drop_30 rfl rfl ?_
        refine zi_ald hx hb hK hP 0 rfl (by omega) (by omega) dX9_drop_31 ?_
        refine lv_iconst (v := nI 1) hx hb dX9_drop_32 (by decide) ?_
        refine zi_sub hx hb dX9_drop_33 (by omega) ?_
        refine zi_ast hx hb hK hP hD hS 0 rfl (by omega) (by omega) dX9_drop_34 (fun H locs hP hD hS => ?_)
        have hP : va_P G.1 vwCl [zA G a 49 (zU (zDq g (1 + 3 * j) q) 0 (((zDq g (1 + 3 * j) q) 0) - 1))] H := hP
        have hD : va_D AM [zA G a 49 (zU (zDq g (1 + 3 * j) q) 0 (((zDq g (1 + 3 * j) q) 0) - 1))] := hD
        exact kret _ _ _ _ _ (by have hq9 : q = 46 := (by omega); subst hq9; unfold zMd; rw [hd0]) hP hD hS dX9_drop_35
      · skip
        refine lv_aload_n hx hb dX9_drop_14 rfl (lv_at hl 0 rfl) ?_
        refine lv_iload_n hx hb dX9_drop_15 rfl (lv_at hl 2 rfl) ?_
        refine lv_aload_n hx hb dX9_drop_16 rfl (lv_at hl 0 rfl) ?_
        refine lv_iload_n hx hb dX9_drop_17 rfl (lv_at hl 2 rfl) ?_
        refine lv_iconst (v := nI 3) hx hb dX9_drop_18 (by decide) ?_
        refine zi_addk (n := q + 3) hx hb dX9_drop_19 (by omega) ?_
        refine zi_ald hx hb hK hP 0 rfl (by omega) (by omega) dX9_drop_20 ?_
        refine zi_ast hx hb hK hP hD hS 0 rfl (by omega) (by omega) dX9_drop_21 (fun H locs hP hD hS => ?_)
        have hP : va_P G.1 vwCl [zA G a 49 (zU (zDq g (1 + 3 * j) q) q ((zDq g (1 + 3 * j) q) (q + 3)))] H := hP
        have hD : va_D AM [zA G a 49 (zU (zDq g (1 + 3 * j) q) q ((zDq g (1 + 3 * j) q) (q + 3)))] := hD
        refine lv_iinc (v := nI (q + 1)) (lv' := [(2, .int (nI (q + 1))), (0, .ref a), (1, .int (nI j))]) hx hb dX9_drop_22 hl (k := 2) rfl (zinc q 1) (by decide) rfl (fun ls hl => ?_)
        refine lv_goto (tgt := 6) hx hb dX9_drop_25 (by decide) ?_
        have hP : va_P G.1 vwCl [zA G a 49 (zDq g (1 + 3 * j) (q + 1))] H := by (simp only [zDq_s h1]); exact hP
        have hD : va_D AM [zA G a 49 (zDq g (1 + 3 * j) (q + 1))] := by (simp only [zDq_s h1]); exact hD
        exact ih6 (q + 1) (by first | assumption | omega) (by first | assumption | omega) (by omega) _ _ _ hP hD hS (lv_sub hl [1, 2, 0] rfl)
  have hP : va_P G.1 vwCl [zA G a 49 (zDq g (1 + 3 * j) (1 + (3 * j)))] sM.heap := by (simp only [zDq_0]); exact hP
  have hD : va_D AM [zA G a 49 (zDq g (1 + 3 * j) (1 + (3 * j)))] := by (simp only [zDq_0]); exact hD
  exact lp6 (46 - (1 + (3 * j)) + 1) (1 + (3 * j)) (by first | assumption | omega) (by first | assumption | omega) (Nat.lt_succ_self _) _ _ _ hP hD hS (lv_sub hl [1, 2, 0] rfl)
set_option maxHeartbeats 4000000 in
set_option maxRecDepth 100000 in
theorem c_X9_noVertex (l : Launch) (G : zG) (m mt mp mg mc mh ms mu of1 ot1 oi1 ml md mw th ts ps V rm on : Nat) (pv : Int32) (sd : Int64) (x : Int32) (hV : V ≤ 8) (hV1 : 1 ≤ V) : MI l yX9_noVertex wsX9_noVertex ({ frames := 1, cells := 0, slots := 0, locals := 25 }) G [.ref m, .int x] [(m, .inr (6, [.int (nI th), .ref mt, .int (nI ts), .int (nI ps), .int pv, .ref mp, .int (nI V), .ref mg, .ref mc, .ref mh, .int (nI rm), .ref ms, .ref mu, .int (nI on), .ref of1, .ref ot1, .ref oi1, .long sd, .ref ml, .ref md, .ref mw]))] (bI (decide (¬ (0 ≤ x.toInt ∧ x.toInt < V)))) [(m, .inr (6, [.int (nI th), .ref mt, .int (nI ts), .int (nI ps), .int pv, .ref mp, .int (nI V), .ref mg, .ref mc, .ref mh, .int (nI rm), .ref ms, .ref mu, .int (nI on), .ref of1, .ref ot1, .ref oi1, .long sd, .ref ml, .ref md, .ref mw]))] := by
  refine MI.enter (cc := cX9_noVertex) (maxL := 2) (by decide) rfl (Nat.le_of_ble_eq_true rfl) (bI_nar _) ?_
  intro pM eM sM mM bM tM cM QM AM ls hat kret
  obtain ⟨SM, hA, hK, hE, hP, hD, hS, hl⟩ := hat
  have hx := SM.1
  have hb := SM.2.1
  have hown : sM.vm.findClass RX9 = some mM.cls := SM.2.2.2.1
  have hts := SM.2.2.2.2
  have hinX9 : ∀ w ∈ u_ws RX9 TX9 21, w ∈ wsX9_noVertex := by decide +kernel
  have hlk16 : (Cond.fieldLink RX9 16 "DyckReachabilityModel" "vertices" "I").before _ sM = true := hts _ (by decide +kernel)
  have hl : lv_has ls 2 [(0, .ref m), (1, .int x)] := hl
  refine lv_iload_n hx hb dX9_noVertex_0 rfl (lv_at hl 1 rfl) ?_
  refine lv_i2l hx hb dX9_noVertex_1 rfl ?_
  refine lv_lconst (v := lN 0) hx hb dX9_noVertex_2 (by decide) ?_
  refine lv_aload_n hx hb dX9_noVertex_3 rfl (lv_at hl 0 rfl) ?_
  refine va_get (D := G.1) (ci := 6) (v := .int (nI V)) (C := RX9) (T := TX9) (N := 21) hx hb hts hinX9 hown hK hP 0 rfl rfl 6 (by decide) hlk16 (fun _ h9 => h9) rfl dX9_noVertex_4 ?_
  refine lv_iconst (v := nI 1) hx hb dX9_noVertex_7 (by decide) ?_
  refine zi_sub hx hb dX9_noVertex_8 (by omega) ?_
  refine lv_i2l (v := lN (V - 1)) hx hb dX9_noVertex_9 (nI_l (by omega)) ?_
  refine zSi (W1 := [(m, .inr (6, [.int (nI th), .ref mt, .int (nI ts), .int (nI ps), .int pv, .ref mp, .int (nI V), .ref mg, .ref mc, .ref mh, .int (nI rm), .ref ms, .ref mu, .int (nI on), .ref of1, .ref ot1, .ref oi1, .long sd, .ref ml, .ref md, .ref mw]))]) (W2 := [(m, .inr (6, [.int (nI th), .ref mt, .int (nI ts), .int (nI ps), .int pv, .ref mp, .int (nI V), .ref mg, .ref mc, .ref mh, .int (nI rm), .ref ms, .ref mu, .int (nI on), .ref of1, .ref ot1, .ref oi1, .long sd, .ref ml, .ref md, .ref mw]))]) (wr := [(m, .inr (6, [.int (nI th), .ref mt, .int (nI ts), .int (nI ps), .int pv, .ref mp, .int (nI V), .ref mg, .ref mc, .ref mh, .int (nI rm), .ref ms, .ref mu, .int (nI on), .ref of1, .ref ot1, .ref oi1, .long sd, .ref ml, .ref md, .ref mw]))]) (rest := []) SM (c_X9_in_X l G (x) 0 (V - 1) (by first | assumption | omega) (by first | assumption | omega)) (va_cwS 3 hts gX9_noVertex_X9_in rfl rfl rfl (by decide +kernel) ⟨Nat.le_of_ble_eq_true rfl, Nat.le_of_ble_eq_true rfl⟩) hK hE hA hP hD hS hl.1 [] [0] [0] rfl rfl rfl (by decide) rfl rfl (Nat.le_of_ble_eq_true rfl) ⟨Nat.zero_le _, Nat.zero_le _⟩ dX9_noVertex_10 (fun H locs hP hD hS => ?_)
  refine zb_ne (tgt := 20) hx hb dX9_noVertex_13 (by decide) (fun c_1 => ?_) (fun c_1 => ?_)
  · skip
    refine lv_iconst (v := nI 0) hx hb dX9_noVertex_20 (by decide) ?_
    exact kret _ _ _ _ _ _ (bI_f (by omega)) rfl hP hD hS dX9_noVertex_21
  · skip
    refine lv_iconst (v := nI 1) hx hb dX9_noVertex_16 (by decide) ?_
    refine lv_goto (tgt := 21) hx hb dX9_noVertex_17 (by decide) ?_
    exact kret _ _ _ _ _ _ (bI_t (by omega)) rfl hP hD hS dX9_noVertex_21
set_option maxHeartbeats 4000000 in
set_option maxRecDepth 100000 in
theorem c_X9_noVertex_N (l : Launch) (G : zG) (m mt mp mg mc mh ms mu of1 ot1 oi1 ml md mw th ts ps V rm on : Nat) (pv : Int32) (sd : Int64) (x : Nat) (hV : V ≤ 8) (hV1 : 1 ≤ V) (hx : x < 2147483648) : MI l yX9_noVertex wsX9_noVertex ({ frames := 1, cells := 0, slots := 0, locals := 25 }) G [.ref m, .int (nI x)] [(m, .inr (6, [.int (nI th), .ref mt, .int (nI ts), .int (nI ps), .int pv, .ref mp, .int (nI V), .ref mg, .ref mc, .ref mh, .int (nI rm), .ref ms, .ref mu, .int (nI on), .ref of1, .ref ot1, .ref oi1, .long sd, .ref ml, .ref md, .ref mw]))] (bI (decide (¬ x < V))) [(m, .inr (6, [.int (nI th), .ref mt, .int (nI ts), .int (nI ps), .int pv, .ref mp, .int (nI V), .ref mg, .ref mc, .ref mh, .int (nI rm), .ref ms, .ref mu, .int (nI on), .ref of1, .ref ot1, .ref oi1, .long sd, .ref ml, .ref md, .ref mw]))] := by
  refine MI.enter (cc := cX9_noVertex) (maxL := 2) (by decide) rfl (Nat.le_of_ble_eq_true rfl) (bI_nar _) ?_
  intro pM eM sM mM bM tM cM QM AM ls hat kret
  obtain ⟨SM, hA, hK, hE, hP, hD, hS, hl⟩ := hat
  have hx := SM.1
  have hb := SM.2.1
  have hown : sM.vm.findClass RX9 = some mM.cls := SM.2.2.2.1
  have hts := SM.2.2.2.2
  have hinX9 : ∀ w ∈ u_ws RX9 TX9 21, w ∈ wsX9_noVertex := by decide +kernel
  have hlk16 : (Cond.fieldLink RX9 16 "DyckReachabilityModel" "vertices" "I").before _ sM = true := hts _ (by decide +kernel)
  have hl : lv_has ls 2 [(0, .ref m), (1, .int (nI x))] := hl
  refine lv_iload_n hx hb dX9_noVertex_0 rfl (lv_at hl 1 rfl) ?_
  refine lv_i2l (v := lN x) hx hb dX9_noVertex_1 (nI_l (by omega)) ?_
  refine lv_lconst (v := lN 0) hx hb dX9_noVertex_2 (by decide) ?_
  refine lv_aload_n hx hb dX9_noVertex_3 rfl (lv_at hl 0 rfl) ?_
  refine va_get (D := G.1) (ci := 6) (v := .int (nI V)) (C := RX9) (T := TX9) (N := 21) hx hb hts hinX9 hown hK hP 0 rfl rfl 6 (by decide) hlk16 (fun _ h9 => h9) rfl dX9_noVertex_4 ?_
  refine lv_iconst (v := nI 1) hx hb dX9_noVertex_7 (by decide) ?_
  refine zi_sub hx hb dX9_noVertex_8 (by omega) ?_
  refine lv_i2l (v := lN (V - 1)) hx hb dX9_noVertex_9 (nI_l (by omega)) ?_
  refine zSi (W1 := [(m, .inr (6, [.int (nI th), .ref mt, .int (nI ts), .int (nI ps), .int pv, .ref mp, .int (nI V), .ref mg, .ref mc, .ref mh, .int (nI rm), .ref ms, .ref mu, .int (nI on), .ref of1, .ref ot1, .ref oi1, .long sd, .ref ml, .ref md, .ref mw]))]) (W2 := [(m, .inr (6, [.int (nI th), .ref mt, .int (nI ts), .int (nI ps), .int pv, .ref mp, .int (nI V), .ref mg, .ref mc, .ref mh, .int (nI rm), .ref ms, .ref mu, .int (nI on), .ref of1, .ref ot1, .ref oi1, .long sd, .ref ml, .ref md, .ref mw]))]) (wr := [(m, .inr (6, [.int (nI th), .ref mt, .int (nI ts), .int (nI ps), .int pv, .ref mp, .int (nI V), .ref mg, .ref mc, .ref mh, .int (nI rm), .ref ms, .ref mu, .int (nI on), .ref of1, .ref ot1, .ref oi1, .long sd, .ref ml, .ref md, .ref mw]))]) (rest := []) SM (c_X9_in_N l G x 0 (V - 1) (by first | assumption | omega) (by first | assumption | omega) (by first | assumption | omega)) (va_cwS 3 hts gX9_noVertex_X9_in rfl rfl rfl (by decide +kernel) ⟨Nat.le_of_ble_eq_true rfl, Nat.le_of_ble_eq_true rfl⟩) hK hE hA hP hD hS hl.1 [] [0] [0] rfl rfl rfl (by decide) rfl rfl (Nat.le_of_ble_eq_true rfl) ⟨Nat.zero_le _, Nat.zero_le _⟩ dX9_noVertex_10 (fun H locs hP hD hS => ?_)
  refine zb_ne (tgt := 20) hx hb dX9_noVertex_13 (by decide) (fun c_1 => ?_) (fun c_1 => ?_)
  · skip
    refine lv_iconst (v := nI 0) hx hb dX9_noVertex_20 (by decide) ?_
    exact kret _ _ _ _ _ _ (bI_f (by omega)) rfl hP hD hS dX9_noVertex_21
  · skip
    refine lv_iconst (v := nI 1) hx hb dX9_noVertex_16 (by decide) ?_
    refine lv_goto (tgt := 21) hx hb dX9_noVertex_17 (by decide) ?_
    exact kret _ _ _ _ _ _ (bI_t (by omega)) rfl hP hD hS dX9_noVertex_21
set_option maxHeartbeats 4000000 in
set_option maxRecDepth 100000 in
theorem c_X9_noEdge (l : Launch) (G : zG) (m mt mp mg mc mh ms mu of1 ot1 oi1 ml md mw th ts ps V rm on : Nat) (pv : Int32) (sd : Int64) (g : Nat → Nat) (x : Int32) (hg0 : g 0 ≤ 16) : MI l yX9_noEdge wsX9_noEdge ({ frames := 1, cells := 0, slots := 0, locals := 25 }) G [.ref m, .int x] [(m, .inr (6, [.int (nI th), .ref mt, .int (nI ts), .int (nI ps), .int pv, .ref mp, .int (nI V), .ref mg, .ref mc, .ref mh, .int (nI rm), .ref ms, .ref mu, .int (nI on), .ref of1, .ref ot1, .ref oi1, .long sd, .ref ml, .ref md, .ref mw])), zA G mg 49 g] (bI (decide (¬ (0 ≤ x.toInt ∧ x.toInt < g 0)))) [(m, .inr (6, [.int (nI th), .ref mt, .int (nI ts), .int (nI ps), .int pv, .ref mp, .int (nI V), .ref mg, .ref mc, .ref mh, .int (nI rm), .ref ms, .ref mu, .int (nI on), .ref of1, .ref ot1, .ref oi1, .long sd, .ref ml, .ref md, .ref mw])), zA G mg 49 g] := by
  refine MI.enter (cc := cX9_noEdge) (maxL := 2) (by decide) rfl (Nat.le_of_ble_eq_true rfl) (bI_nar _) ?_
  intro pM eM sM mM bM tM cM QM AM ls hat kret
  obtain ⟨SM, hA, hK, hE, hP, hD, hS, hl⟩ := hat
  have hx := SM.1
  have hb := SM.2.1
  have hown : sM.vm.findClass RX9 = some mM.cls := SM.2.2.2.1
  have hts := SM.2.2.2.2
  have hinX9 : ∀ w ∈ u_ws RX9 TX9 21, w ∈ wsX9_noEdge := by decide +kernel
  have hlk20 : (Cond.fieldLink RX9 20 "DyckReachabilityModel" "graph" "[I").before _ sM = true := hts _ (by decide +kernel)
  have hl : lv_has ls 2 [(0, .ref m), (1, .int x)] := hl
  refine lv_iload_n hx hb dX9_noEdge_0 rfl (lv_at hl 1 rfl) ?_
  refine lv_i2l hx hb dX9_noEdge_1 rfl ?_
  refine lv_lconst (v := lN 0) hx hb dX9_noEdge_2 (by decide) ?_
  refine lv_aload_n hx hb dX9_noEdge_3 rfl (lv_at hl 0 rfl) ?_
  refine va_get (D := G.1) (ci := 6) (v := .ref mg) (C := RX9) (T := TX9) (N := 21) hx hb hts hinX9 hown hK hP 0 rfl rfl 7 (by decide) hlk20 (fun _ h9 => h9) rfl dX9_noEdge_4 ?_
  refine lv_iconst (v := nI 0) hx hb dX9_noEdge_7 (by decide) ?_
  refine zi_ald hx hb hK hP 1 rfl (by omega) (by omega) dX9_noEdge_8 ?_
  refine lv_iconst (v := nI 1) hx hb dX9_noEdge_9 (by decide) ?_
  refine lv_isub hx hb dX9_noEdge_10 ?_
  refine lv_i2l hx hb dX9_noEdge_11 rfl ?_
  refine zSi (W1 := [(m, .inr (6, [.int (nI th), .ref mt, .int (nI ts), .int (nI ps), .int pv, .ref mp, .int (nI V), .ref mg, .ref mc, .ref mh, .int (nI rm), .ref ms, .ref mu, .int (nI on), .ref of1, .ref ot1, .ref oi1, .long sd, .ref ml, .ref md, .ref mw])), zA G mg 49 g]) (W2 := [(m, .inr (6, [.int (nI th), .ref mt, .int (nI ts), .int (nI ps), .int pv, .ref mp, .int (nI V), .ref mg, .ref mc, .ref mh, .int (nI rm), .ref ms, .ref mu, .int (nI on), .ref of1, .ref ot1, .ref oi1, .long sd, .ref ml, .ref md, .ref mw])), zA G mg 49 g]) (wr := [(m, .inr (6, [.int (nI th), .ref mt, .int (nI ts), .int (nI ps), .int pv, .ref mp, .int (nI V), .ref mg, .ref mc, .ref mh, .int (nI rm), .ref ms, .ref mu, .int (nI on), .ref of1, .ref ot1, .ref oi1, .long sd, .ref ml, .ref md, .ref mw])), zA G mg 49 g]) (rest := []) SM (c_X9_in_XY l G (x) ((nI (g 0)) - (nI 1)) 0 (by first | assumption | omega)) (va_cwS 3 hts gX9_noEdge_X9_in rfl rfl rfl (by decide +kernel) ⟨Nat.le_of_ble_eq_true rfl, Nat.le_of_ble_eq_true rfl⟩) hK hE hA hP hD hS hl.1 [] [0, 1] [0, 1] rfl rfl rfl (by decide) rfl rfl (Nat.le_of_ble_eq_true rfl) ⟨Nat.zero_le _, Nat.zero_le _⟩ dX9_noEdge_12 (fun H locs hP hD hS => ?_)
  refine zti (y := bI (decide (0 ≤ x.toInt ∧ x.toInt < g 0))) (congrArg bI (decide_eq_decide.mpr (by rw [zSubI (by omega) (by omega)]; omega))) ?_
  refine zb_ne (tgt := 22) hx hb dX9_noEdge_15 (by decide) (fun c_1 => ?_) (fun c_1 => ?_)
  · skip
    refine lv_iconst (v := nI 0) hx hb dX9_noEdge_22 (by decide) ?_
    exact kret _ _ _ _ _ _ (bI_f (by omega)) rfl hP hD hS dX9_noEdge_23
  · skip
    refine lv_iconst (v := nI 1) hx hb dX9_noEdge_18 (by decide) ?_
    refine lv_goto (tgt := 23) hx hb dX9_noEdge_19 (by decide) ?_
    exact kret _ _ _ _ _ _ (bI_t (by omega)) rfl hP hD hS dX9_noEdge_23
set_option maxHeartbeats 4000000 in
set_option maxRecDepth 100000 in
theorem c_X9_improve (l : Launch) (G : zG) (m mt mp mg mc mh ms mu of1 ot1 oi1 ml md mw th ts ps V rm on : Nat) (pv : Int32) (sd : Int64) (f : Nat → Nat) (u v len : Nat) (hL : zL2 f) (hu : u < 8) (hv : v < 8) (hlen : len < 2147483648) : MI l yX9_improve wsX9_improve ({ frames := 0, cells := 0, slots := 0, locals := 0 }) G [.ref m, .int (nI u), .int (nI v), .int (nI len)] [(m, .inr (6, [.int (nI th), .ref mt, .int (nI ts), .int (nI ps), .int pv, .ref mp, .int (nI V), .ref mg, .ref mc, .ref mh, .int (nI rm), .ref ms, .ref mu, .int (nI on), .ref of1, .ref ot1, .ref oi1, .long sd, .ref ml, .ref md, .ref mw])), zA G ml 64 f] (bI (decide (min len 1000000 < f (8 * u + v)))) [(m, .inr (6, [.int (nI th), .ref mt, .int (nI ts), .int (nI ps), .int pv, .ref mp, .int (nI V), .ref mg, .ref mc, .ref mh, .int (nI rm), .ref ms, .ref mu, .int (nI on), .ref of1, .ref ot1, .ref oi1, .long sd, .ref ml, .ref md, .ref mw])), zA G ml 64 (zImT u v len f)] := by
  refine MI.enter (cc := cX9_improve) (maxL := 6) (by decide) rfl (Nat.le_of_ble_eq_true rfl) (bI_nar _) ?_
  intro pM eM sM mM bM tM cM QM AM ls hat kret
  obtain ⟨SM, hA, hK, hE, hP, hD, hS, hl⟩ := hat
  have hx := SM.1
  have hb := SM.2.1
  have hown : sM.vm.findClass RX9 = some mM.cls := SM.2.2.2.1
  have hts := SM.2.2.2.2
  have hinX9 : ∀ w ∈ u_ws RX9 TX9 21, w ∈ wsX9_improve := by decide +kernel
  have hlk45 : (Cond.fieldLink RX9 45 "DyckReachabilityModel" "lengths" "[I").before _ sM = true := hts _ (by decide +kernel)
  have hl : lv_has ls 6 [(0, .ref m), (1, .int (nI u)), (2, .int (nI v)), (3, .int (nI len))] := hl
  refine lv_iload_n hx hb dX9_improve_0 rfl (lv_at hl 3 rfl) ?_
  refine lv_ldc (v := nI 1000000) hx hb hown (hts (.constant RX9 61 (1000000)) (by decide +kernel)) dX9_improve_1 ?_
  refine zn_le (tgt := 11) hx hb dX9_improve_3 (by decide) (by omega) (by omega) (fun c_1 => ?_) (fun c_1 => ?_)
  · skip
    refine lv_iload_n hx hb dX9_improve_11 rfl (lv_at hl 3 rfl) ?_
    refine lv_istore (lv' := [(4, .int (nI len)), (0, .ref m), (1, .int (nI u)), (2, .int (nI v)), (3, .int (nI len))]) hx hb dX9_improve_12 hl (by decide) rfl (fun ls hl => ?_)
    refine lv_iload hx hb dX9_improve_14 (lv_at hl 0 rfl) ?_
    refine lv_aload_n hx hb dX9_improve_16 rfl (lv_at hl 1 rfl) ?_
    refine va_get (D := G.1) (ci := 6) (v := .ref ml) (C := RX9) (T := TX9) (N := 21) hx hb hts hinX9 hown hK hP 0 rfl rfl 18 (by decide) hlk45 (fun _ h9 => h9) rfl dX9_improve_17 ?_
    refine lv_bipush (v := nI 8) hx hb dX9_improve_20 (by decide) ?_
    refine lv_iload_n hx hb dX9_improve_22 rfl (lv_at hl 2 rfl) ?_
    refine zi_mul hx hb dX9_improve_23 ?_
    refine lv_iload_n hx hb dX9_improve_24 rfl (lv_at hl 3 rfl) ?_
    refine zi_add hx hb dX9_improve_25 ?_
    refine zi_ald hx hb hK hP 1 rfl (by omega) (by omega) dX9_improve_26 ?_
    have hb_2 := hL ((8 * u) + v)
    refine zn_ge (tgt := 34) hx hb dX9_improve_27 (by decide) (by omega) (by omega) (fun c_3 => ?_) (fun c_3 => ?_)
    · skip
      refine lv_iconst (v := nI 0) hx hb dX9_improve_34 (by decide) ?_
      refine lv_istore (lv' := [(5, .int (nI 0)), (4, .int (nI len)), (0, .ref m), (1, .int (nI u)), (2, .int (nI v)), (3, .int (nI len))]) hx hb dX9_improve_35 hl (by decide) rfl (fun ls hl => ?_)
      refine lv_aload_n hx hb dX9_improve_37 rfl (lv_at hl 2 rfl) ?_
      refine va_get (D := G.1) (ci := 6) (v := .ref ml) (C := RX9) (T := TX9) (N := 21) hx hb hts hinX9 hown hK hP 0 rfl rfl 18 (by decide) hlk45 (fun _ h9 => h9) rfl dX9_improve_38 ?_
      refine lv_bipush (v := nI 8) hx hb dX9_improve_41 (by decide) ?_
      refine lv_iload_n hx hb dX9_improve_43 rfl (lv_at hl 3 rfl) ?_
      refine zi_mul hx hb dX9_improve_44 ?_
      refine lv_iload_n hx hb dX9_improve_45 rfl (lv_at hl 4 rfl) ?_
      refine zi_add hx hb dX9_improve_46 ?_
      refine lv_iload hx hb dX9_improve_47 (lv_at hl 0 rfl) ?_
      refine zk_eq_t (tgt := 57) hx hb dX9_improve_49 (by decide) (by decide) ?_
      refine lv_aload_n hx hb dX9_improve_57 rfl (lv_at hl 2 rfl) ?_
      refine va_get (D := G.1) (ci := 6) (v := .ref ml) (C := RX9) (T := TX9) (N := 21) hx hb hts hinX9 hown hK hP 0 rfl rfl 18 (by decide) hlk45 (fun _ h9 => h9) rfl dX9_improve_58 ?_
      refine lv_bipush (v := nI 8) hx hb dX9_improve_61 (by decide) ?_
      refine lv_iload_n hx hb dX9_improve_63 rfl (lv_at hl 3 rfl) ?_
      refine zi_mul hx hb dX9_improve_64 ?_
      refine lv_iload_n hx hb dX9_improve_65 rfl (lv_at hl 4 rfl) ?_
      refine zi_add hx hb dX9_improve_66 ?_
      refine zi_ald hx hb hK hP 1 rfl (by omega) (by omega) dX9_improve_67 ?_
      have hb_5 := hL ((8 * u) + v)
      refine zi_ast hx hb hK hP hD hS 1 rfl (by omega) (by omega) dX9_improve_68 (fun H locs hP hD hS => ?_)
      have hP : va_P G.1 vwCl [(m, .inr (6, [.int (nI th), .ref mt, .int (nI ts), .int (nI ps), .int pv, .ref mp, .int (nI V), .ref mg, .ref mc, .ref mh, .int (nI rm), .ref ms, .ref mu, .int (nI on), .ref of1, .ref ot1, .ref oi1, .long sd, .ref ml, .ref md, .ref mw])), zA G ml 64 (zU f ((8 * u) + v) (f ((8 * u) + v)))] H := hP
      have hD : va_D AM [(m, .inr (6, [.int (nI th), .ref mt, .int (nI ts), .int (nI ps), .int pv, .ref mp, .int (nI V), .ref mg, .ref mc, .ref mh, .int (nI rm), .ref ms, .ref mu, .int (nI on), .ref of1, .ref ot1, .ref oi1, .long sd, .ref ml, .ref md, .ref mw])), zA G ml 64 (zU f ((8 * u) + v) (f ((8 * u) + v)))] := hD
      refine lv_iload hx hb dX9_improve_69 (lv_at hl 0 rfl) ?_
      exact kret _ _ _ _ _ _ (bI_f (by omega)) (by unfold zImT; first | rw [if_pos (by omega), Nat.min_eq_left (by omega)] | rw [if_pos (by omega), Nat.min_eq_right (by omega)] | rw [if_neg (by omega), zU_id]) hP hD hS dX9_improve_71
    · skip
      refine lv_iconst (v := nI 1) hx hb dX9_improve_30 (by decide) ?_
      refine lv_goto (tgt := 35) hx hb dX9_improve_31 (by decide) ?_
      refine lv_istore (lv' := [(5, .int (nI 1)), (4, .int (nI len)), (0, .ref m), (1, .int (nI u)), (2, .int (nI v)), (3, .int (nI len))]) hx hb dX9_improve_35 hl (by decide) rfl (fun ls hl => ?_)
      refine lv_aload_n hx hb dX9_improve_37 rfl (lv_at hl 2 rfl) ?_
      refine va_get (D := G.1) (ci := 6) (v := .ref ml) (C := RX9) (T := TX9) (N := 21) hx hb hts hinX9 hown hK hP 0 rfl rfl 18 (by decide) hlk45 (fun _ h9 => h9) rfl dX9_improve_38 ?_
      refine lv_bipush (v := nI 8) hx hb dX9_improve_41 (by decide) ?_
      refine lv_iload_n hx hb dX9_improve_43 rfl (lv_at hl 3 rfl) ?_
      refine zi_mul hx hb dX9_improve_44 ?_
      refine lv_iload_n hx hb dX9_improve_45 rfl (lv_at hl 4 rfl) ?_
      refine zi_add hx hb dX9_improve_46 ?_
      refine lv_iload hx hb dX9_improve_47 (lv_at hl 0 rfl) ?_
      refine zk_eq_f hx hb dX9_improve_49 (by decide) ?_
      refine lv_iload hx hb dX9_improve_52 (lv_at hl 1 rfl) ?_
      refine lv_goto (tgt := 68) hx hb dX9_improve_54 (by decide) ?_
      refine zi_ast hx hb hK hP hD hS 1 rfl (by omega) (by omega) dX9_improve_68 (fun H locs hP hD hS => ?_)
      have hP : va_P G.1 vwCl [(m, .inr (6, [.int (nI th), .ref mt, .int (nI ts), .int (nI ps), .int pv, .ref mp, .int (nI V), .ref mg, .ref mc, .ref mh, .int (nI rm), .ref ms, .ref mu, .int (nI on), .ref of1, .ref ot1, .ref oi1, .long sd, .ref ml, .ref md, .ref mw])), zA G ml 64 (zU f ((8 * u) + v) len)] H := hP
      have hD : va_D AM [(m, .inr (6, [.int (nI th), .ref mt, .int (nI ts), .int (nI ps), .int pv, .ref mp, .int (nI V), .ref mg, .ref mc, .ref mh, .int (nI rm), .ref ms, .ref mu, .int (nI on), .ref of1, .ref ot1, .ref oi1, .long sd, .ref ml, .ref md, .ref mw])), zA G ml 64 (zU f ((8 * u) + v) len)] := hD
      refine lv_iload hx hb dX9_improve_69 (lv_at hl 0 rfl) ?_
      exact kret _ _ _ _ _ _ (bI_t (by omega)) (by unfold zImT; first | rw [if_pos (by omega), Nat.min_eq_left (by omega)] | rw [if_pos (by omega), Nat.min_eq_right (by omega)] | rw [if_neg (by omega), zU_id]) hP hD hS dX9_improve_71
  · skip
    refine lv_ldc (v := nI 1000000) hx hb hown (hts (.constant RX9 61 (1000000)) (by decide +kernel)) dX9_improve_6 ?_
    refine lv_goto (tgt := 12) hx hb dX9_improve_8 (by decide) ?_
    refine lv_istore (lv' := [(4, .int (nI 1000000)), (0, .ref m), (1, .int (nI u)), (2, .int (nI v)), (3, .int (nI len))]) hx hb dX9_improve_12 hl (by decide) rfl (fun ls hl => ?_)
    refine lv_iload hx hb dX9_improve_14 (lv_at hl 0 rfl) ?_
    refine lv_aload_n hx hb dX9_improve_16 rfl (lv_at hl 1 rfl) ?_
    refine va_get (D := G.1) (ci := 6) (v := .ref ml) (C := RX9) (T := TX9) (N := 21) hx hb hts hinX9 hown hK hP 0 rfl rfl 18 (by decide) hlk45 (fun _ h9 => h9) rfl dX9_improve_17 ?_
    refine lv_bipush (v := nI 8) hx hb dX9_improve_20 (by decide) ?_
    refine lv_iload_n hx hb dX9_improve_22 rfl (lv_at hl 2 rfl) ?_
    refine zi_mul hx hb dX9_improve_23 ?_
    refine lv_iload_n hx hb dX9_improve_24 rfl (lv_at hl 3 rfl) ?_
    refine zi_add hx hb dX9_improve_25 ?_
    refine zi_ald hx hb hK hP 1 rfl (by omega) (by omega) dX9_improve_26 ?_
    have hb_7 := hL ((8 * u) + v)
    refine zn_ge (tgt := 34) hx hb dX9_improve_27 (by decide) (by omega) (by omega) (fun c_8 => ?_) (fun c_8 => ?_)
    · skip
      refine lv_iconst (v := nI 0) hx hb dX9_improve_34 (by decide) ?_
      refine lv_istore (lv' := [(5, .int (nI 0)), (4, .int (nI 1000000)), (0, .ref m), (1, .int (nI u)), (2, .int (nI v)), (3, .int (nI len))]) hx hb dX9_improve_35 hl (by decide) rfl (fun ls hl => ?_)
      refine lv_aload_n hx hb dX9_improve_37 rfl (lv_at hl 2 rfl) ?_
      refine va_get (D := G.1) (ci := 6) (v := .ref ml) (C := RX9) (T := TX9) (N := 21) hx hb hts hinX9 hown hK hP 0 rfl rfl 18 (by decide) hlk45 (fun _ h9 => h9) rfl dX9_improve_38 ?_
      refine lv_bipush (v := nI 8) hx hb dX9_improve_41 (by decide) ?_
      refine lv_iload_n hx hb dX9_improve_43 rfl (lv_at hl 3 rfl) ?_
      refine zi_mul hx hb dX9_improve_44 ?_
      refine lv_iload_n hx hb dX9_improve_45 rfl (lv_at hl 4 rfl) ?_
      refine zi_add hx hb dX9_improve_46 ?_
      refine lv_iload hx hb dX9_improve_47 (lv_at hl 0 rfl) ?_
      refine zk_eq_t (tgt := 57) hx hb dX9_improve_49 (by decide) (by decide) ?_
      refine lv_aload_n hx hb dX9_improve_57 rfl (lv_at hl 2 rfl) ?_
      refine va_get (D := G.1) (ci := 6) (v := .ref ml) (C := RX9) (T := TX9) (N := 21) hx hb hts hinX9 hown hK hP 0 rfl rfl 18 (by decide) hlk45 (fun _ h9 => h9) rfl dX9_improve_58 ?_
      refine lv_bipush (v := nI 8) hx hb dX9_improve_61 (by decide) ?_
      refine lv_iload_n hx hb dX9_improve_63 rfl (lv_at hl 3 rfl) ?_
      refine zi_mul hx hb dX9_improve_64 ?_
      refine lv_iload_n hx hb dX9_improve_65 rfl (lv_at hl 4 rfl) ?_
      refine zi_add hx hb dX9_improve_66 ?_
      refine zi_ald hx hb hK hP 1 rfl (by omega) (by omega) dX9_improve_67 ?_
      have hb_10 := hL ((8 * u) + v)
      refine zi_ast hx hb hK hP hD hS 1 rfl (by omega) (by omega) dX9_improve_68 (fun H locs hP hD hS => ?_)
      have hP : va_P G.1 vwCl [(m, .inr (6, [.int (nI th), .ref mt, .int (nI ts), .int (nI ps), .int pv, .ref mp, .int (nI V), .ref mg, .ref mc, .ref mh, .int (nI rm), .ref ms, .ref mu, .int (nI on), .ref of1, .ref ot1, .ref oi1, .long sd, .ref ml, .ref md, .ref mw])), zA G ml 64 (zU f ((8 * u) + v) (f ((8 * u) + v)))] H := hP
      have hD : va_D AM [(m, .inr (6, [.int (nI th), .ref mt, .int (nI ts), .int (nI ps), .int pv, .ref mp, .int (nI V), .ref mg, .ref mc, .ref mh, .int (nI rm), .ref ms, .ref mu, .int (nI on), .ref of1, .ref ot1, .ref oi1, .long sd, .ref ml, .ref md, .ref mw])), zA G ml 64 (zU f ((8 * u) + v) (f ((8 * u) + v)))] := hD
      refine lv_iload hx hb dX9_improve_69 (lv_at hl 0 rfl) ?_
      exact kret _ _ _ _ _ _ (bI_f (by omega)) (by unfold zImT; first | rw [if_pos (by omega), Nat.min_eq_left (by omega)] | rw [if_pos (by omega), Nat.min_eq_right (by omega)] | rw [if_neg (by omega), zU_id]) hP hD hS dX9_improve_71
    · skip
      refine lv_iconst (v := nI 1) hx hb dX9_improve_30 (by decide) ?_
      refine lv_goto (tgt := 35) hx hb dX9_improve_31 (by decide) ?_
      refine lv_istore (lv' := [(5, .int (nI 1)), (4, .int (nI 1000000)), (0, .ref m), (1, .int (nI u)), (2, .int (nI v)), (3, .int (nI len))]) hx hb dX9_improve_35 hl (by decide) rfl (fun ls hl => ?_)
      refine lv_aload_n hx hb dX9_improve_37 rfl (lv_at hl 2 rfl) ?_
      refine va_get (D := G.1) (ci := 6) (v := .ref ml) (C := RX9) (T := TX9) (N := 21) hx hb hts hinX9 hown hK hP 0 rfl rfl 18 (by decide) hlk45 (fun _ h9 => h9) rfl dX9_improve_38 ?_
      refine lv_bipush (v := nI 8) hx hb dX9_improve_41 (by decide) ?_
      refine lv_iload_n hx hb dX9_improve_43 rfl (lv_at hl 3 rfl) ?_
      refine zi_mul hx hb dX9_improve_44 ?_
      refine lv_iload_n hx hb dX9_improve_45 rfl (lv_at hl 4 rfl) ?_
      refine zi_add hx hb dX9_improve_46 ?_
      refine lv_iload hx hb dX9_improve_47 (lv_at hl 0 rfl) ?_
      refine zk_eq_f hx hb dX9_improve_49 (by decide) ?_
      refine lv_iload hx hb dX9_improve_52 (lv_at hl 1 rfl) ?_
      refine lv_goto (tgt := 68) hx hb dX9_improve_54 (by decide) ?_
      refine zi_ast hx hb hK hP hD hS 1 rfl (by omega) (by omega) dX9_improve_68 (fun H locs hP hD hS => ?_)
      have hP : va_P G.1 vwCl [(m, .inr (6, [.int (nI th), .ref mt, .int (nI ts), .int (nI ps), .int pv, .ref mp, .int (nI V), .ref mg, .ref mc, .ref mh, .int (nI rm), .ref ms, .ref mu, .int (nI on), .ref of1, .ref ot1, .ref oi1, .long sd, .ref ml, .ref md, .ref mw])), zA G ml 64 (zU f ((8 * u) + v) 1000000)] H := hP
      have hD : va_D AM [(m, .inr (6, [.int (nI th), .ref mt, .int (nI ts), .int (nI ps), .int pv, .ref mp, .int (nI V), .ref mg, .ref mc, .ref mh, .int (nI rm), .ref ms, .ref mu, .int (nI on), .ref of1, .ref ot1, .ref oi1, .long sd, .ref ml, .ref md, .ref mw])), zA G ml 64 (zU f ((8 * u) + v) 1000000)] := hD
      refine lv_iload hx hb dX9_improve_69 (lv_at hl 0 rfl) ?_
      exact kret _ _ _ _ _ _ (bI_t (by omega)) (by unfold zImT; first | rw [if_pos (by omega), Nat.min_eq_left (by omega)] | rw [if_pos (by omega), Nat.min_eq_right (by omega)] | rw [if_neg (by omega), zU_id]) hP hD hS dX9_improve_71
set_option maxHeartbeats 4000000 in
set_option maxRecDepth 100000 in
theorem c_X9_reaches (l : Launch) (G : zG) (m mt mp mg mc mh ms mu of1 ot1 oi1 ml md mw th ts ps V rm on : Nat) (pv : Int32) (sd : Int64) (f : Nat → Nat) (u v : Nat) (hL : zL2 f) (hu : u < 8) (hv : v < 8) : MI l yX9_reaches wsX9_reaches ({ frames := 0, cells := 0, slots := 0, locals := 0 }) G [.ref m, .int (nI u), .int (nI v)] [(m, .inr (6, [.int (nI th), .ref mt, .int (nI ts), .int (nI ps), .int pv, .ref mp, .int (nI V), .ref mg, .ref mc, .ref mh, .int (nI rm), .ref ms, .ref mu, .int (nI on), .ref of1, .ref ot1, .ref oi1, .long sd, .ref ml, .ref md, .ref mw])), zA G ml 64 f] (bI (decide (f (8 * u + v) < 2000000))) [(m, .inr (6, [.int (nI th), .ref mt, .int (nI ts), .int (nI ps), .int pv, .ref mp, .int (nI V), .ref mg, .ref mc, .ref mh, .int (nI rm), .ref ms, .ref mu, .int (nI on), .ref of1, .ref ot1, .ref oi1, .long sd, .ref ml, .ref md, .ref mw])), zA G ml 64 f] := by
  refine MI.enter (cc := cX9_reaches) (maxL := 3) (by decide) rfl (Nat.le_of_ble_eq_true rfl) (bI_nar _) ?_
  intro pM eM sM mM bM tM cM QM AM ls hat kret
  obtain ⟨SM, hA, hK, hE, hP, hD, hS, hl⟩ := hat
  have hx := SM.1
  have hb := SM.2.1
  have hown : sM.vm.findClass RX9 = some mM.cls := SM.2.2.2.1
  have hts := SM.2.2.2.2
  have hinX9 : ∀ w ∈ u_ws RX9 TX9 21, w ∈ wsX9_reaches := by decide +kernel
  have hlk45 : (Cond.fieldLink RX9 45 "DyckReachabilityModel" "lengths" "[I").before _ sM = true := hts _ (by decide +kernel)
  have hl : lv_has ls 3 [(0, .ref m), (1, .int (nI u)), (2, .int (nI v))] := hl
  refine lv_aload_n hx hb dX9_reaches_0 rfl (lv_at hl 0 rfl) ?_
  refine va_get (D := G.1) (ci := 6) (v := .ref ml) (C := RX9) (T := TX9) (N := 21) hx hb hts hinX9 hown hK hP 0 rfl rfl 18 (by decide) hlk45 (fun _ h9 => h9) rfl dX9_reaches_1 ?_
  refine lv_bipush (v := nI 8) hx hb dX9_reaches_4 (by decide) ?_
  refine lv_iload_n hx hb dX9_reaches_6 rfl (lv_at hl 1 rfl) ?_
  refine zi_mul hx hb dX9_reaches_7 ?_
  refine lv_iload_n hx hb dX9_reaches_8 rfl (lv_at hl 2 rfl) ?_
  refine zi_add hx hb dX9_reaches_9 ?_
  refine zi_ald hx hb hK hP 1 rfl (by omega) (by omega) dX9_reaches_10 ?_
  have hb_1 := hL ((8 * u) + v)
  refine lv_ldc (v := nI 2000000) hx hb hown (hts (.constant RX9 62 (2000000)) (by decide +kernel)) dX9_reaches_11 ?_
  refine zn_ge (tgt := 20) hx hb dX9_reaches_13 (by decide) (by omega) (by omega) (fun c_2 => ?_) (fun c_2 => ?_)
  · skip
    refine lv_iconst (v := nI 0) hx hb dX9_reaches_20 (by decide) ?_
    exact kret _ _ _ _ _ _ (bI_f (by omega)) rfl hP hD hS dX9_reaches_21
  · skip
    refine lv_iconst (v := nI 1) hx hb dX9_reaches_16 (by decide) ?_
    refine lv_goto (tgt := 21) hx hb dX9_reaches_17 (by decide) ?_
    exact kret _ _ _ _ _ _ (bI_t (by omega)) rfl hP hD hS dX9_reaches_21
set_option maxHeartbeats 4000000 in
set_option maxRecDepth 100000 in
theorem c_X9_pairs (l : Launch) (G : zG) (m mt mp mg mc mh ms mu of1 ot1 oi1 ml md mw th ts ps V rm on : Nat) (pv : Int32) (sd : Int64) (f : Nat → Nat) (hL : zL2 f) (hV : V ≤ 8) : MI l yX9_pairs wsX9_pairs ({ frames := 0, cells := 0, slots := 0, locals := 0 }) G [.ref m] [(m, .inr (6, [.int (nI th), .ref mt, .int (nI ts), .int (nI ps), .int pv, .ref mp, .int (nI V), .ref mg, .ref mc, .ref mh, .int (nI rm), .ref ms, .ref mu, .int (nI on), .ref of1, .ref ot1, .ref oi1, .long sd, .ref ml, .ref md, .ref mw])), zA G ml 64 f] (nI (mPrs V f)) [(m, .inr (6, [.int (nI th), .ref mt, .int (nI ts), .int (nI ps), .int pv, .ref mp, .int (nI V), .ref mg, .ref mc, .ref mh, .int (nI rm), .ref ms, .ref mu, .int (nI on), .ref of1, .ref ot1, .ref oi1, .long sd, .ref ml, .ref md, .ref mw])), zA G ml 64 f] := by
  refine MI.enter (cc := cX9_pairs) (maxL := 3) (by decide) rfl (Nat.le_of_ble_eq_true rfl) rfl ?_
  intro pM eM sM mM bM tM cM QM AM ls hat kret
  obtain ⟨SM, hA, hK, hE, hP, hD, hS, hl⟩ := hat
  have hx := SM.1
  have hb := SM.2.1
  have hown : sM.vm.findClass RX9 = some mM.cls := SM.2.2.2.1
  have hts := SM.2.2.2.2
  have hinX9 : ∀ w ∈ u_ws RX9 TX9 21, w ∈ wsX9_pairs := by decide +kernel
  have hlk16 : (Cond.fieldLink RX9 16 "DyckReachabilityModel" "vertices" "I").before _ sM = true := hts _ (by decide +kernel)
  have hlk45 : (Cond.fieldLink RX9 45 "DyckReachabilityModel" "lengths" "[I").before _ sM = true := hts _ (by decide +kernel)
  have hl : lv_has ls 3 [(0, .ref m)] := hl
  refine lv_iconst (v := nI 0) hx hb dX9_pairs_0 (by decide) ?_
  refine lv_istore_n (lv' := [(1, .int (nI 0)), (0, .ref m)]) hx hb dX9_pairs_1 rfl hl (by decide) rfl (fun ls hl => ?_)
  refine lv_iconst (v := nI 0) hx hb dX9_pairs_2 (by decide) ?_
  refine lv_istore_n (lv' := [(2, .int (nI 0)), (1, .int (nI 0)), (0, .ref m)]) hx hb dX9_pairs_3 rfl hl (by decide) rfl (fun ls hl => ?_)
  have lp4 : ∀ (n9 : Nat), ∀ (k a : Nat), (k ≤ 64) → (a = zIt (mPrF V f) k 0) → (64 - k) < n9 → ∀ (H : Heap) (locs : List Loc) (ls : Array Slot), va_P G.1 vwCl [(m, .inr (6, [.int (nI th), .ref mt, .int (nI ts), .int (nI ps), .int pv, .ref mp, .int (nI V), .ref mg, .ref mc, .ref mh, .int (nI rm), .ref ms, .ref mu, .int (nI on), .ref of1, .ref ot1, .ref oi1, .long sd, .ref ml, .ref md, .ref mw])), zA G ml 64 f] H → va_D AM [(m, .inr (6, [.int (nI th), .ref mt, .int (nI ts), .int (nI ps), .int pv, .ref mp, .int (nI V), .ref mg, .ref mc, .ref mh, .int (nI rm), .ref ms, .ref mu, .int (nI on), .ref of1, .ref ot1, .ref oi1, .long sd, .ref ml, .ref md, .ref mw])), zA G ml 64 f] → va_S AM sM.heap H locs → lv_has ls 3 [(0, .ref m), (1, .int (nI a)), (2, .int (nI k))] → W pM l eM ({ frames := 0, cells := 0, slots := 0, locals := 0 }) sM mM (([.ref m] : List Value).toArray) bM tM cM H locs 0 0 QM (F0 mM 4 ls []) := by
    intro n9
    induction n9 with
    | zero =>
      intro _ _ _ _ h9
      exact absurd h9 (Nat.not_lt_zero _)
    | succ n9 ih9 =>
      intro k a h1 hq hmu4 H locs ls hP hD hS hl
      have ih4 := ih9
      clear ih9
      refine lv_iload_n hx hb dX9_pairs_4 rfl (lv_at hl 2 rfl) ?_
      refine lv_bipush (v := nI 64) hx hb dX9_pairs_5 (by decide) ?_
      refine zn_ge (tgt := 57) hx hb dX9_pairs_7 (by decide) (by omega) (by omega) (fun c_1 => ?_) (fun c_1 => ?_)
      · skip
        refine lv_iload_n hx hb dX9_pairs_57 rfl (lv_at hl 1 rfl) ?_
        exact kret _ _ _ _ _ _ (congrArg nI (by have hq9 : k = 64 := (by omega); subst hq9; exact hq)) rfl hP hD hS dX9_pairs_58
      · skip
        refine lv_iload_n hx hb dX9_pairs_10 rfl (lv_at hl 1 rfl) ?_
        refine lv_iload_n hx hb dX9_pairs_11 rfl (lv_at hl 2 rfl) ?_
        refine lv_bipush (v := nI 8) hx hb dX9_pairs_12 (by decide) ?_
        refine zi_div hx hb dX9_pairs_14 (by omega) (by omega) (by omega) ?_
        refine lv_aload_n hx hb dX9_pairs_15 rfl (lv_at hl 0 rfl) ?_
        refine va_get (D := G.1) (ci := 6) (v := .int (nI V)) (C := RX9) (T := TX9) (N := 21) hx hb hts hinX9 hown hK hP 0 rfl rfl 6 (by decide) hlk16 (fun _ h9 => h9) rfl dX9_pairs_16 ?_
        refine zn_ge (tgt := 48) hx hb dX9_pairs_19 (by decide) (by omega) (by omega) (fun c_2 => ?_) (fun c_2 => ?_)
        · skip
          refine lv_iconst (v := nI 0) hx hb dX9_pairs_48 (by decide) ?_
          refine zi_addk (n := a) hx hb dX9_pairs_49 (by omega) ?_
          refine lv_istore_n (lv' := [(1, .int (nI a)), (0, .ref m), (2, .int (nI k))]) hx hb dX9_pairs_50 rfl hl (by decide) rfl (fun ls hl => ?_)
          refine lv_iinc (v := nI (k + 1)) (lv' := [(2, .int (nI (k + 1))), (1, .int (nI a)), (0, .ref m)]) hx hb dX9_pairs_51 hl (k := 2) rfl (zinc k 1) (by decide) rfl (fun ls hl => ?_)
          refine lv_goto (tgt := 4) hx hb dX9_pairs_54 (by decide) ?_
          exact ih4 (k + 1) a (by first | assumption | omega) (by rw [zIt_s, ← hq]; unfold mPrF; first | rw [if_pos (by omega)] | rw [if_neg (by omega)]) (by omega) _ _ _ hP hD hS (lv_sub hl [2, 1, 0] rfl)
        · skip
          refine lv_iload_n hx hb dX9_pairs_22 rfl (lv_at hl 2 rfl) ?_
          refine lv_bipush (v := nI 8) hx hb dX9_pairs_23 (by decide) ?_
          refine zi_rem hx hb dX9_pairs_25 (by omega) (by omega) (by omega) ?_
          refine lv_aload_n hx hb dX9_pairs_26 rfl (lv_at hl 0 rfl) ?_
          refine va_get (D := G.1) (ci := 6) (v := .int (nI V)) (C := RX9) (T := TX9) (N := 21) hx hb hts hinX9 hown hK hP 0 rfl rfl 6 (by decide) hlk16 (fun _ h9 => h9) rfl dX9_pairs_27 ?_
          refine zn_ge (tgt := 48) hx hb dX9_pairs_30 (by decide) (by omega) (by omega) (fun c_3 => ?_) (fun c_3 => ?_)
          · skip
            refine lv_iconst (v := nI 0) hx hb dX9_pairs_48 (by decide) ?_
            refine zi_addk (n := a) hx hb dX9_pairs_49 (by omega) ?_
            refine lv_istore_n (lv' := [(1, .int (nI a)), (0, .ref m), (2, .int (nI k))]) hx hb dX9_pairs_50 rfl hl (by decide) rfl (fun ls hl => ?_)
            refine lv_iinc (v := nI (k + 1)) (lv' := [(2, .int (nI (k + 1))), (1, .int (nI a)), (0, .ref m)]) hx hb dX9_pairs_51 hl (k := 2) rfl (zinc k 1) (by decide) rfl (fun ls hl => ?_)
            refine lv_goto (tgt := 4) hx hb dX9_pairs_54 (by decide) ?_
            exact ih4 (k + 1) a (by first | assumption | omega) (by rw [zIt_s, ← hq]; unfold mPrF; first | rw [if_pos (by omega)] | rw [if_neg (by omega)]) (by omega) _ _ _ hP hD hS (lv_sub hl [2, 1, 0] rfl)
          · skip
            refine lv_aload_n hx hb dX9_pairs_33 rfl (lv_at hl 0 rfl) ?_
            refine va_get (D := G.1) (ci := 6) (v := .ref ml) (C := RX9) (T := TX9) (N := 21) hx hb hts hinX9 hown hK hP 0 rfl rfl 18 (by decide) hlk45 (fun _ h9 => h9) rfl dX9_pairs_34 ?_
            refine lv_iload_n hx hb dX9_pairs_37 rfl (lv_at hl 2 rfl) ?_
            refine zi_ald hx hb hK hP 1 rfl (by omega) (by omega) dX9_pairs_38 ?_
            have hb_4 := hL k
            refine lv_ldc (v := nI 2000000) hx hb hown (hts (.constant RX9 62 (2000000)) (by decide +kernel)) dX9_pairs_39 ?_
            refine zn_ge (tgt := 48) hx hb dX9_pairs_41 (by decide) (by omega) (by omega) (fun c_5 => ?_) (fun c_5 => ?_)
            · skip
              refine lv_iconst (v := nI 0) hx hb dX9_pairs_48 (by decide) ?_
              refine zi_addk (n := a) hx hb dX9_pairs_49 (by omega) ?_
              refine lv_istore_n (lv' := [(1, .int (nI a)), (0, .ref m), (2, .int (nI k))]) hx hb dX9_pairs_50 rfl hl (by decide) rfl (fun ls hl => ?_)
              refine lv_iinc (v := nI (k + 1)) (lv' := [(2, .int (nI (k + 1))), (1, .int (nI a)), (0, .ref m)]) hx hb dX9_pairs_51 hl (k := 2) rfl (zinc k 1) (by decide) rfl (fun ls hl => ?_)
              refine lv_goto (tgt := 4) hx hb dX9_pairs_54 (by decide) ?_
              exact ih4 (k + 1) a (by first | assumption | omega) (by rw [zIt_s, ← hq]; unfold mPrF; first | rw [if_pos (by omega)] | rw [if_neg (by omega)]) (by omega) _ _ _ hP hD hS (lv_sub hl [2, 1, 0] rfl)
            · skip
              refine lv_iconst (v := nI 1) hx hb dX9_pairs_44 (by decide) ?_
              refine lv_goto (tgt := 49) hx hb dX9_pairs_45 (by decide) ?_
              refine zi_addk (n := a + 1) hx hb dX9_pairs_49 (by omega) ?_
              refine lv_istore_n (lv' := [(1, .int (nI (a + 1))), (0, .ref m), (2, .int (nI k))]) hx hb dX9_pairs_50 rfl hl (by decide) rfl (fun ls hl => ?_)
              refine lv_iinc (v := nI (k + 1)) (lv' := [(2, .int (nI (k + 1))), (1, .int (nI (a + 1))), (0, .ref m)]) hx hb dX9_pairs_51 hl (k := 2) rfl (zinc k 1) (by decide) rfl (fun ls hl => ?_)
              refine lv_goto (tgt := 4) hx hb dX9_pairs_54 (by decide) ?_
              exact ih4 (k + 1) (a + 1) (by first | assumption | omega) (by rw [zIt_s, ← hq]; unfold mPrF; first | rw [if_pos (by omega)] | rw [if_neg (by omega)]) (by omega) _ _ _ hP hD hS (lv_sub hl [2, 1, 0] rfl)
  exact lp4 (64 - 0 + 1) 0 0 (by first | assumption | omega) rfl (Nat.lt_succ_self _) _ _ _ hP hD hS (lv_sub hl [2, 1, 0] rfl)
