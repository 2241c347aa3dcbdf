/-! the constructors of the small classes -/
def zDs (G : zG) (x : Nat) (u : Nat) : va_W := [(x, .inr (0, [.ref u, .int (nI 0)])), zA G u 64 z0]
def zTx (G : zG) (x : Nat) (u : Nat) : va_W := [(x, .inr (2, [.ref u, .int (nI 0)])), zA G u 60 z0]
def zOb (G : zG) (x : Nat) (u : Nat × Nat × Nat) : va_W := [(x, .inr (4, [.ref u.1, .ref u.2.1, .ref u.2.2, .int (nI 0)])), zA G u.1 6 z0, zA G u.2.1 6 z0, zA G u.2.2 6 z0]
def zHi (G : zG) (x : Nat) (u : Nat × (Nat → zQA) × (Nat → Option Nat)) : va_W := [(x, .inr (3, [.ref u.1, .int (nI 0), .int (nI 0)])), zR G u.1 14 u.2.2] ++ CH G u.2.1 (fun _ => (z0, z0, z0, 0))
set_option maxHeartbeats 4000000 in
set_option maxRecDepth 100000 in
theorem c_X2_init (l : Launch) (G : zG) (x n : Nat) (hn : n ≤ 32) : MN (Nat × Nat × Nat) l yX2_init wsX2_init ({ frames := 1, cells := 3, slots := 3 * n, locals := 12 }) G [.ref x, .int (nI n)] [(x, .inr (1, [.null, .null, .null, .int (nI 0)]))] (fun u => zEd G (x, u) n (z0, z0, z0, 0)) (fun _ => True) 3 (3 * n) := by
  refine MN.enter (cc := cX2_init) (maxL := 2) (by decide) rfl rfl (Nat.le_of_ble_eq_true rfl) ?_
  intro pM eM sM mM bM tM cM QM AM ls hat hin hAO kret
  obtain ⟨SM, hA, hK, hE, hP, hD, hS, hl⟩ := hat
  have hx := SM.1
  have hb := SM.2.1
  have hown : sM.vm.findClass RX2 = some mM.cls := SM.2.2.2.1
  have hts := SM.2.2.2.2
  have hinX2 : ∀ w ∈ u_ws RX2 TX2 4, w ∈ wsX2_init := by decide +kernel
  have hl : lv_has ls 2 [(0, .ref x), (1, .int (nI n))] := hl
  have hP : va_P G.1 vwCl ([(x, .inr (1, [.null, .null, .null, .int (nI 0)]))] ++ []) sM.heap := hP
  have hD : va_D AM ([(x, .inr (1, [.null, .null, .null, .int (nI 0)]))] ++ []) := hD
  refine lv_aload_n hx hb dX2_init_0 rfl (lv_at hl 0 rfl) ?_
  refine W.objInit hx hb hown (hts (.methodLink RX2 3 objectInit) (by decide +kernel)) (hts (.instanceMethod objectInit) (by decide +kernel)) (hts _ (List.mem_of_getElem? (i := 3) rfl)) rfl (by rw [SM.2.2.1]; exact hl.1) rfl dX2_init_1 (Nat.le_of_ble_eq_true rfl) (Nat.le_of_ble_eq_true rfl) ?_
  refine W.eq (g2 := F0 mM 4 ls []) rfl ?_
  refine lv_aload_n hx hb dX2_init_4 rfl (lv_at hl 0 rfl) ?_
  refine lv_iload_n hx hb dX2_init_5 rfl (lv_at hl 1 rfl) ?_
  refine zNwI hx hb (hts (.arrayClass .int) (by decide +kernel)) hK hA hP hD hS (by omega) (Nat.le_of_ble_eq_true rfl) (show 0 + n ≤ 3 * n by omega) dX2_init_6 (fun q1 H hP hD hS => ?_)
  have hP : va_P G.1 vwCl ([(x, .inr (1, [.null, .null, .null, .int (nI 0)]))] ++ ([zA G q1 n z0] ++ [])) H := hP
  have hD : va_D AM ([(x, .inr (1, [.null, .null, .null, .int (nI 0)]))] ++ ([zA G q1 n z0] ++ [])) := hD
  refine va_putF (D := G.1) (ci := 1) (v := .ref q1) (ty := .array .int) (C := RX2) (T := TX2) (N := 4) hx hb hts hinX2 tyX2 tyX2_ok nmX2 hown hK hP hD hS 0 rfl rfl 0 (by decide) (hts (.fieldLink RX2 9 "DyckReachability$Edges" "sources" "[I") (by decide +kernel)) (fun _ h9 => h9) rfl hin rfl (by decide +kernel) rfl rfl (Nat.le_of_ble_eq_true rfl) dX2_init_8 (fun H locs hP hD hS => ?_)
  have hP : va_P G.1 vwCl ([(x, .inr (1, [.ref q1, .null, .null, .int (nI 0)]))] ++ ([zA G q1 n z0] ++ [])) H := hP
  have hD : va_D AM ([(x, .inr (1, [.ref q1, .null, .null, .int (nI 0)]))] ++ ([zA G q1 n z0] ++ [])) := hD
  refine lv_aload_n hx hb dX2_init_11 rfl (lv_at hl 0 rfl) ?_
  refine lv_iload_n hx hb dX2_init_12 rfl (lv_at hl 1 rfl) ?_
  refine zNwI hx hb (hts (.arrayClass .int) (by decide +kernel)) hK hA hP hD hS (by omega) (Nat.le_of_ble_eq_true rfl) (show 0 + n + n ≤ 3 * n by omega) dX2_init_13 (fun q2 H hP hD hS => ?_)
  have hP : va_P G.1 vwCl ([(x, .inr (1, [.ref q1, .null, .null, .int (nI 0)]))] ++ ([zA G q2 n z0] ++ ([zA G q1 n z0] ++ []))) H := hP
  have hD : va_D AM ([(x, .inr (1, [.ref q1, .null, .null, .int (nI 0)]))] ++ ([zA G q2 n z0] ++ ([zA G q1 n z0] ++ []))) := hD
  refine va_putF (D := G.1) (ci := 1) (v := .ref q2) (ty := .array .int) (C := RX2) (T := TX2) (N := 4) hx hb hts hinX2 tyX2 tyX2_ok nmX2 hown hK hP hD hS 0 rfl rfl 1 (by decide) (hts (.fieldLink RX2 15 "DyckReachability$Edges" "targets" "[I") (by decide +kernel)) (fun _ h9 => h9) rfl hin rfl (by decide +kernel) rfl rfl (Nat.le_of_ble_eq_true rfl) dX2_init_15 (fun H locs hP hD hS => ?_)
  have hP : va_P G.1 vwCl ([(x, .inr (1, [.ref q1, .ref q2, .null, .int (nI 0)]))] ++ ([zA G q2 n z0] ++ ([zA G q1 n z0] ++ []))) H := hP
  have hD : va_D AM ([(x, .inr (1, [.ref q1, .ref q2, .null, .int (nI 0)]))] ++ ([zA G q2 n z0] ++ ([zA G q1 n z0] ++ []))) := hD
  refine lv_aload_n hx hb dX2_init_18 rfl (lv_at hl 0 rfl) ?_
  refine lv_iload_n hx hb dX2_init_19 rfl (lv_at hl 1 rfl) ?_
  refine zNwI hx hb (hts (.arrayClass .int) (by decide +kernel)) hK hA hP hD hS (by omega) (Nat.le_of_ble_eq_true rfl) (show 0 + n + n + n ≤ 3 * n by omega) dX2_init_20 (fun q3 H hP hD hS => ?_)
  have hP : va_P G.1 vwCl ([(x, .inr (1, [.ref q1, .ref q2, .null, .int (nI 0)]))] ++ ([zA G q3 n z0] ++ ([zA G q2 n z0] ++ ([zA G q1 n z0] ++ [])))) H := hP
  have hD : va_D AM ([(x, .inr (1, [.ref q1, .ref q2, .null, .int (nI 0)]))] ++ ([zA G q3 n z0] ++ ([zA G q2 n z0] ++ ([zA G q1 n z0] ++ [])))) := hD
  refine va_putF (D := G.1) (ci := 1) (v := .ref q3) (ty := .array .int) (C := RX2) (T := TX2) (N := 4) hx hb hts hinX2 tyX2 tyX2_ok nmX2 hown hK hP hD hS 0 rfl rfl 2 (by decide) (hts (.fieldLink RX2 18 "DyckReachability$Edges" "labels" "[I") (by decide +kernel)) (fun _ h9 => h9) rfl hin rfl (by decide +kernel) rfl rfl (Nat.le_of_ble_eq_true rfl) dX2_init_22 (fun H locs hP hD hS => ?_)
  have hP : va_P G.1 vwCl ([(x, .inr (1, [.ref q1, .ref q2, .ref q3, .int (nI 0)]))] ++ ([zA G q3 n z0] ++ ([zA G q2 n z0] ++ ([zA G q1 n z0] ++ [])))) H := hP
  have hD : va_D AM ([(x, .inr (1, [.ref q1, .ref q2, .ref q3, .int (nI 0)]))] ++ ([zA G q3 n z0] ++ ([zA G q2 n z0] ++ ([zA G q1 n z0] ++ [])))) := hD
  refine lv_aload_n hx hb dX2_init_25 rfl (lv_at hl 0 rfl) ?_
  refine lv_iconst (v := nI 0) hx hb dX2_init_26 (by decide) ?_
  refine va_put (D := G.1) (ci := 1) (v := .int (nI 0)) (ty := .int) (C := RX2) (T := TX2) (N := 4) hx hb hts hinX2 tyX2 tyX2_ok nmX2 hown hK hP hD hS 0 rfl rfl 3 (by decide) (hts (.fieldLink RX2 21 "DyckReachability$Edges" "size" "I") (by decide +kernel)) (fun _ h9 => h9) rfl (by decide +kernel) rfl rfl (Nat.le_of_ble_eq_true rfl) dX2_init_27 (fun H locs hP hD hS => ?_)
  have hP : va_P G.1 vwCl ([(x, .inr (1, [.ref q1, .ref q2, .ref q3, .int (nI 0)]))] ++ ([zA G q3 n z0] ++ ([zA G q2 n z0] ++ ([zA G q1 n z0] ++ [])))) H := hP
  have hD : va_D AM ([(x, .inr (1, [.ref q1, .ref q2, .ref q3, .int (nI 0)]))] ++ ([zA G q3 n z0] ++ ([zA G q2 n z0] ++ ([zA G q1 n z0] ++ [])))) := hD
  refine W.widen (k := 3) (n := 3 * n) (by omega) (by omega) ?_
  exact kret _ _ _ _ _ (q1, q2, q3) trivial (zflat [[(x, .inr (1, [.ref q1, .ref q2, .ref q3, .int (nI 0)]))], [zA G q3 n z0], [zA G q2 n z0], [zA G q1 n z0]] [[(x, .inr (1, [.ref q1, .ref q2, .ref q3, .int (nI 0)]))], [zA G q1 n z0], [zA G q2 n z0], [zA G q3 n z0]] 4 [0, 3, 2, 1] rfl rfl (by decide)) hP hD hS dX2_init_30
set_option maxHeartbeats 4000000 in
set_option maxRecDepth 100000 in
theorem c_X1_init (l : Launch) (G : zG) (x : Nat) : MN (Nat) l yX1_init wsX1_init ({ frames := 1, cells := 1, slots := 64, locals := 12 }) G [.ref x] [(x, .inr (0, [.null, .int (nI 0)]))] (fun u => zDs G x u) (fun _ => True) 1 64 := by
  refine MN.enter (cc := cX1_init) (maxL := 1) (by decide) rfl rfl (Nat.le_of_ble_eq_true rfl) ?_
  intro pM eM sM mM bM tM cM QM AM ls hat hin hAO kret
  obtain ⟨SM, hA, hK, hE, hP, hD, hS, hl⟩ := hat
  have hx := SM.1
  have hb := SM.2.1
  have hown : sM.vm.findClass RX1 = some mM.cls := SM.2.2.2.1
  have hts := SM.2.2.2.2
  have hinX1 : ∀ w ∈ u_ws RX1 TX1 2, w ∈ wsX1_init := by decide +kernel
  have hl : lv_has ls 1 [(0, .ref x)] := hl
  have hP : va_P G.1 vwCl ([(x, .inr (0, [.null, .int (nI 0)]))] ++ []) sM.heap := hP
  have hD : va_D AM ([(x, .inr (0, [.null, .int (nI 0)]))] ++ []) := hD
  refine lv_aload_n hx hb dX1_init_0 rfl (lv_at hl 0 rfl) ?_
  refine W.objInit hx hb hown (hts (.methodLink RX1 5 objectInit) (by decide +kernel)) (hts (.instanceMethod objectInit) (by decide +kernel)) (hts _ (List.mem_of_getElem? (i := 3) rfl)) rfl (by rw [SM.2.2.1]; exact hl.1) rfl dX1_init_1 (Nat.le_of_ble_eq_true rfl) (Nat.le_of_ble_eq_true rfl) ?_
  refine W.eq (g2 := F0 mM 4 ls []) rfl ?_
  refine lv_aload_n hx hb dX1_init_4 rfl (lv_at hl 0 rfl) ?_
  refine lv_bipush (v := nI 64) hx hb dX1_init_5 (by decide) ?_
  refine zNwI hx hb (hts (.arrayClass .int) (by decide +kernel)) hK hA hP hD hS (by omega) (Nat.le_of_ble_eq_true rfl) (Nat.le_of_ble_eq_true rfl) dX1_init_7 (fun q1 H hP hD hS => ?_)
  have hP : va_P G.1 vwCl ([(x, .inr (0, [.null, .int (nI 0)]))] ++ ([zA G q1 64 z0] ++ [])) H := hP
  have hD : va_D AM ([(x, .inr (0, [.null, .int (nI 0)]))] ++ ([zA G q1 64 z0] ++ [])) := hD
  refine va_putF (D := G.1) (ci := 0) (v := .ref q1) (ty := .array .int) (C := RX1) (T := TX1) (N := 2) hx hb hts hinX1 tyX1 tyX1_ok nmX1 hown hK hP hD hS 0 rfl rfl 0 (by decide) (hts (.fieldLink RX1 11 "DyckReachability$Distances" "table" "[I") (by decide +kernel)) (fun _ h9 => h9) rfl hin rfl (by decide +kernel) rfl rfl (Nat.le_of_ble_eq_true rfl) dX1_init_9 (fun H locs hP hD hS => ?_)
  have hP : va_P G.1 vwCl ([(x, .inr (0, [.ref q1, .int (nI 0)]))] ++ ([zA G q1 64 z0] ++ [])) H := hP
  have hD : va_D AM ([(x, .inr (0, [.ref q1, .int (nI 0)]))] ++ ([zA G q1 64 z0] ++ [])) := hD
  refine lv_aload_n hx hb dX1_init_12 rfl (lv_at hl 0 rfl) ?_
  refine lv_iconst (v := nI 0) hx hb dX1_init_13 (by decide) ?_
  refine va_put (D := G.1) (ci := 0) (v := .int (nI 0)) (ty := .int) (C := RX1) (T := TX1) (N := 2) hx hb hts hinX1 tyX1 tyX1_ok nmX1 hown hK hP hD hS 0 rfl rfl 1 (by decide) (hts (.fieldLink RX1 15 "DyckReachability$Distances" "vertices" "I") (by decide +kernel)) (fun _ h9 => h9) rfl (by decide +kernel) rfl rfl (Nat.le_of_ble_eq_true rfl) dX1_init_14 (fun H locs hP hD hS => ?_)
  have hP : va_P G.1 vwCl ([(x, .inr (0, [.ref q1, .int (nI 0)]))] ++ ([zA G q1 64 z0] ++ [])) H := hP
  have hD : va_D AM ([(x, .inr (0, [.ref q1, .int (nI 0)]))] ++ ([zA G q1 64 z0] ++ [])) := hD
  refine W.widen (k := 1) (n := 64) (by omega) (by omega) ?_
  exact kret _ _ _ _ _ q1 trivial (List.Perm.refl _) hP hD hS dX1_init_17
set_option maxHeartbeats 4000000 in
set_option maxRecDepth 100000 in
theorem c_X3_init (l : Launch) (G : zG) (x : Nat) : MN (Nat) l yX3_init wsX3_init ({ frames := 1, cells := 1, slots := 60, locals := 12 }) G [.ref x] [(x, .inr (2, [.null, .int (nI 0)]))] (fun u => zTx G x u) (fun _ => True) 1 60 := by
  refine MN.enter (cc := cX3_init) (maxL := 1) (by decide) rfl rfl (Nat.le_of_ble_eq_true rfl) ?_
  intro pM eM sM mM bM tM cM QM AM ls hat hin hAO kret
  obtain ⟨SM, hA, hK, hE, hP, hD, hS, hl⟩ := hat
  have hx := SM.1
  have hb := SM.2.1
  have hown : sM.vm.findClass RX3 = some mM.cls := SM.2.2.2.1
  have hts := SM.2.2.2.2
  have hinX3 : ∀ w ∈ u_ws RX3 TX3 2, w ∈ wsX3_init := by decide +kernel
  have hl : lv_has ls 1 [(0, .ref x)] := hl
  have hP : va_P G.1 vwCl ([(x, .inr (2, [.null, .int (nI 0)]))] ++ []) sM.heap := hP
  have hD : va_D AM ([(x, .inr (2, [.null, .int (nI 0)]))] ++ []) := hD
  refine lv_aload_n hx hb dX3_init_0 rfl (lv_at hl 0 rfl) ?_
  refine W.objInit hx hb hown (hts (.methodLink RX3 3 objectInit) (by decide +kernel)) (hts (.instanceMethod objectInit) (by decide +kernel)) (hts _ (List.mem_of_getElem? (i := 3) rfl)) rfl (by rw [SM.2.2.1]; exact hl.1) rfl dX3_init_1 (Nat.le_of_ble_eq_true rfl) (Nat.le_of_ble_eq_true rfl) ?_
  refine W.eq (g2 := F0 mM 4 ls []) rfl ?_
  refine lv_aload_n hx hb dX3_init_4 rfl (lv_at hl 0 rfl) ?_
  refine lv_bipush (v := nI 60) hx hb dX3_init_5 (by decide) ?_
  refine zNwI hx hb (hts (.arrayClass .int) (by decide +kernel)) hK hA hP hD hS (by omega) (Nat.le_of_ble_eq_true rfl) (Nat.le_of_ble_eq_true rfl) dX3_init_7 (fun q1 H hP hD hS => ?_)
  have hP : va_P G.1 vwCl ([(x, .inr (2, [.null, .int (nI 0)]))] ++ ([zA G q1 60 z0] ++ [])) H := hP
  have hD : va_D AM ([(x, .inr (2, [.null, .int (nI 0)]))] ++ ([zA G q1 60 z0] ++ [])) := hD
  refine va_putF (D := G.1) (ci := 2) (v := .ref q1) (ty := .array .int) (C := RX3) (T := TX3) (N := 2) hx hb hts hinX3 tyX3 tyX3_ok nmX3 hown hK hP hD hS 0 rfl rfl 0 (by decide) (hts (.fieldLink RX3 11 "DyckReachability$GraphText" "signs" "[I") (by decide +kernel)) (fun _ h9 => h9) rfl hin rfl (by decide +kernel) rfl rfl (Nat.le_of_ble_eq_true rfl) dX3_init_9 (fun H locs hP hD hS => ?_)
  have hP : va_P G.1 vwCl ([(x, .inr (2, [.ref q1, .int (nI 0)]))] ++ ([zA G q1 60 z0] ++ [])) H := hP
  have hD : va_D AM ([(x, .inr (2, [.ref q1, .int (nI 0)]))] ++ ([zA G q1 60 z0] ++ [])) := hD
  refine lv_aload_n hx hb dX3_init_12 rfl (lv_at hl 0 rfl) ?_
  refine lv_iconst (v := nI 0) hx hb dX3_init_13 (by decide) ?_
  refine va_put (D := G.1) (ci := 2) (v := .int (nI 0)) (ty := .int) (C := RX3) (T := TX3) (N := 2) hx hb hts hinX3 tyX3 tyX3_ok nmX3 hown hK hP hD hS 0 rfl rfl 1 (by decide) (hts (.fieldLink RX3 15 "DyckReachability$GraphText" "length" "I") (by decide +kernel)) (fun _ h9 => h9) rfl (by decide +kernel) rfl rfl (Nat.le_of_ble_eq_true rfl) dX3_init_14 (fun H locs hP hD hS => ?_)
  have hP : va_P G.1 vwCl ([(x, .inr (2, [.ref q1, .int (nI 0)]))] ++ ([zA G q1 60 z0] ++ [])) H := hP
  have hD : va_D AM ([(x, .inr (2, [.ref q1, .int (nI 0)]))] ++ ([zA G q1 60 z0] ++ [])) := hD
  refine W.widen (k := 1) (n := 60) (by omega) (by omega) ?_
  exact kret _ _ _ _ _ q1 trivial (List.Perm.refl _) hP hD hS dX3_init_17
set_option maxHeartbeats 4000000 in
set_option maxRecDepth 100000 in
theorem c_X5_init (l : Launch) (G : zG) (x : Nat) : MN (Nat × Nat × Nat) l yX5_init wsX5_init ({ frames := 1, cells := 3, slots := 18, locals := 12 }) G [.ref x] [(x, .inr (4, [.null, .null, .null, .int (nI 0)]))] (fun u => zOb G x u) (fun _ => True) 3 18 := by
  refine MN.enter (cc := cX5_init) (maxL := 1) (by decide) rfl rfl (Nat.le_of_ble_eq_true rfl) ?_
  intro pM eM sM mM bM tM cM QM AM ls hat hin hAO kret
  obtain ⟨SM, hA, hK, hE, hP, hD, hS, hl⟩ := hat
  have hx := SM.1
  have hb := SM.2.1
  have hown : sM.vm.findClass RX5 = some mM.cls := SM.2.2.2.1
  have hts := SM.2.2.2.2
  have hinX5 : ∀ w ∈ u_ws RX5 TX5 4, w ∈ wsX5_init := by decide +kernel
  have hl : lv_has ls 1 [(0, .ref x)] := hl
  have hP : va_P G.1 vwCl ([(x, .inr (4, [.null, .null, .null, .int (nI 0)]))] ++ []) sM.heap := hP
  have hD : va_D AM ([(x, .inr (4, [.null, .null, .null, .int (nI 0)]))] ++ []) := hD
  refine lv_aload_n hx hb dX5_init_0 rfl (lv_at hl 0 rfl) ?_
  refine W.objInit hx hb hown (hts (.methodLink RX5 1 objectInit) (by decide +kernel)) (hts (.instanceMethod objectInit) (by decide +kernel)) (hts _ (List.mem_of_getElem? (i := 3) rfl)) rfl (by rw [SM.2.2.1]; exact hl.1) rfl dX5_init_1 (Nat.le_of_ble_eq_true rfl) (Nat.le_of_ble_eq_true rfl) ?_
  refine W.eq (g2 := F0 mM 4 ls []) rfl ?_
  refine lv_aload_n hx hb dX5_init_4 rfl (lv_at hl 0 rfl) ?_
  refine lv_bipush (v := nI 6) hx hb dX5_init_5 (by decide) ?_
  refine zNwI hx hb (hts (.arrayClass .int) (by decide +kernel)) hK hA hP hD hS (by omega) (Nat.le_of_ble_eq_true rfl) (Nat.le_of_ble_eq_true rfl) dX5_init_7 (fun q1 H hP hD hS => ?_)
  have hP : va_P G.1 vwCl ([(x, .inr (4, [.null, .null, .null, .int (nI 0)]))] ++ ([zA G q1 6 z0] ++ [])) H := hP
  have hD : va_D AM ([(x, .inr (4, [.null, .null, .null, .int (nI 0)]))] ++ ([zA G q1 6 z0] ++ [])) := hD
  refine va_putF (D := G.1) (ci := 4) (v := .ref q1) (ty := .array .int) (C := RX5) (T := TX5) (N := 4) hx hb hts hinX5 tyX5 tyX5_ok nmX5 hown hK hP hD hS 0 rfl rfl 0 (by decide) (hts (.fieldLink RX5 9 "DyckReachability$Observations" "starts" "[I") (by decide +kernel)) (fun _ h9 => h9) rfl hin rfl (by decide +kernel) rfl rfl (Nat.le_of_ble_eq_true rfl) dX5_init_9 (fun H locs hP hD hS => ?_)
  have hP : va_P G.1 vwCl ([(x, .inr (4, [.ref q1, .null, .null, .int (nI 0)]))] ++ ([zA G q1 6 z0] ++ [])) H := hP
  have hD : va_D AM ([(x, .inr (4, [.ref q1, .null, .null, .int (nI 0)]))] ++ ([zA G q1 6 z0] ++ [])) := hD
  refine lv_aload_n hx hb dX5_init_12 rfl (lv_at hl 0 rfl) ?_
  refine lv_bipush (v := nI 6) hx hb dX5_init_13 (by decide) ?_
  refine zNwI hx hb (hts (.arrayClass .int) (by decide +kernel)) hK hA hP hD hS (by omega) (Nat.le_of_ble_eq_true rfl) (Nat.le_of_ble_eq_true rfl) dX5_init_15 (fun q2 H hP hD hS => ?_)
  have hP : va_P G.1 vwCl ([(x, .inr (4, [.ref q1, .null, .null, .int (nI 0)]))] ++ ([zA G q2 6 z0] ++ ([zA G q1 6 z0] ++ []))) H := hP
  have hD : va_D AM ([(x, .inr (4, [.ref q1, .null, .null, .int (nI 0)]))] ++ ([zA G q2 6 z0] ++ ([zA G q1 6 z0] ++ []))) := hD
  refine va_putF (D := G.1) (ci := 4) (v := .ref q2) (ty := .array .int) (C := RX5) (T := TX5) (N := 4) hx hb hts hinX5 tyX5 tyX5_ok nmX5 hown hK hP hD hS 0 rfl rfl 1 (by decide) (hts (.fieldLink RX5 13 "DyckReachability$Observations" "ends" "[I") (by decide +kernel)) (fun _ h9 => h9) rfl hin rfl (by decide +kernel) rfl rfl (Nat.le_of_ble_eq_true rfl) dX5_init_17 (fun H locs hP hD hS => ?_)
  have hP : va_P G.1 vwCl ([(x, .inr (4, [.ref q1, .ref q2, .null, .int (nI 0)]))] ++ ([zA G q2 6 z0] ++ ([zA G q1 6 z0] ++ []))) H := hP
  have hD : va_D AM ([(x, .inr (4, [.ref q1, .ref q2, .null, .int (nI 0)]))] ++ ([zA G q2 6 z0] ++ ([zA G q1 6 z0] ++ []))) := hD
  refine lv_aload_n hx hb dX5_init_20 rfl (lv_at hl 0 rfl) ?_
  refine lv_bipush (v := nI 6) hx hb dX5_init_21 (by decide) ?_
  refine zNwI hx hb (hts (.arrayClass .int) (by decide +kernel)) hK hA hP hD hS (by omega) (Nat.le_of_ble_eq_true rfl) (Nat.le_of_ble_eq_true rfl) dX5_init_23 (fun q3 H hP hD hS => ?_)
  have hP : va_P G.1 vwCl ([(x, .inr (4, [.ref q1, .ref q2, .null, .int (nI 0)]))] ++ ([zA G q3 6 z0] ++ ([zA G q2 6 z0] ++ ([zA G q1 6 z0] ++ [])))) H := hP
  have hD : va_D AM ([(x, .inr (4, [.ref q1, .ref q2, .null, .int (nI 0)]))] ++ ([zA G q3 6 z0] ++ ([zA G q2 6 z0] ++ ([zA G q1 6 z0] ++ [])))) := hD
  refine va_putF (D := G.1) (ci := 4) (v := .ref q3) (ty := .array .int) (C := RX5) (T := TX5) (N := 4) hx hb hts hinX5 tyX5 tyX5_ok nmX5 hown hK hP hD hS 0 rfl rfl 2 (by decide) (hts (.fieldLink RX5 16 "DyckReachability$Observations" "answers" "[I") (by decide +kernel)) (fun _ h9 => h9) rfl hin rfl (by decide +kernel) rfl rfl (Nat.le_of_ble_eq_true rfl) dX5_init_25 (fun H locs hP hD hS => ?_)
  have hP : va_P G.1 vwCl ([(x, .inr (4, [.ref q1, .ref q2, .ref q3, .int (nI 0)]))] ++ ([zA G q3 6 z0] ++ ([zA G q2 6 z0] ++ ([zA G q1 6 z0] ++ [])))) H := hP
  have hD : va_D AM ([(x, .inr (4, [.ref q1, .ref q2, .ref q3, .int (nI 0)]))] ++ ([zA G q3 6 z0] ++ ([zA G q2 6 z0] ++ ([zA G q1 6 z0] ++ [])))) := hD
  refine lv_aload_n hx hb dX5_init_28 rfl (lv_at hl 0 rfl) ?_
  refine lv_iconst (v := nI 0) hx hb dX5_init_29 (by decide) ?_
  refine va_put (D := G.1) (ci := 4) (v := .int (nI 0)) (ty := .int) (C := RX5) (T := TX5) (N := 4) hx hb hts hinX5 tyX5 tyX5_ok nmX5 hown hK hP hD hS 0 rfl rfl 3 (by decide) (hts (.fieldLink RX5 19 "DyckReachability$Observations" "size" "I") (by decide +kernel)) (fun _ h9 => h9) rfl (by decide +kernel) rfl rfl (Nat.le_of_ble_eq_true rfl) dX5_init_30 (fun H locs hP hD hS => ?_)
  have hP : va_P G.1 vwCl ([(x, .inr (4, [.ref q1, .ref q2, .ref q3, .int (nI 0)]))] ++ ([zA G q3 6 z0] ++ ([zA G q2 6 z0] ++ ([zA G q1 6 z0] ++ [])))) H := hP
  have hD : va_D AM ([(x, .inr (4, [.ref q1, .ref q2, .ref q3, .int (nI 0)]))] ++ ([zA G q3 6 z0] ++ ([zA G q2 6 z0] ++ ([zA G q1 6 z0] ++ [])))) := hD
  refine W.widen (k := 3) (n := 18) (by omega) (by omega) ?_
  exact kret _ _ _ _ _ (q1, q2, q3) trivial (zflat [[(x, .inr (4, [.ref q1, .ref q2, .ref q3, .int (nI 0)]))], [zA G q3 6 z0], [zA G q2 6 z0], [zA G q1 6 z0]] [[(x, .inr (4, [.ref q1, .ref q2, .ref q3, .int (nI 0)]))], [zA G q1 6 z0], [zA G q2 6 z0], [zA G q3 6 z0]] 4 [0, 3, 2, 1] rfl rfl (by decide)) hP hD hS dX5_init_33
