/-! the constructor of the history -/
set_option maxHeartbeats 4000000 in
set_option maxRecDepth 100000 in
theorem c_X4_init (l : Launch) (G : zG) (x : Nat) : MN (Nat × (Nat → zQA) × (Nat → Option Nat)) l yX4_init wsX4_init ({ frames := 2, cells := 57, slots := 742, locals := 33 }) G [.ref x] [(x, .inr (3, [.null, .int (nI 0), .int (nI 0)]))] (fun u => zHi G x u) (fun u => ∀ i, i < 14 → u.2.2 i = some (u.2.1 i).1) 57 742 := by
  refine MN.enter (cc := cX4_init) (maxL := 2) (by decide) rfl rfl (Nat.le_of_ble_eq_true rfl) ?_
  intro pM eM sM mM bM tM cM QM AM ls hat hin hAO kret
  obtain ⟨SM, hA, hK, hE, hP, hD, hS, hl⟩ := hat
  have hx := SM.1
  have hb := SM.2.1
  have hown : sM.vm.findClass RX4 = some mM.cls := SM.2.2.2.1
  have hts := SM.2.2.2.2
  have hinX4 : ∀ w ∈ u_ws RX4 TX4 3, w ∈ wsX4_init := by decide +kernel
  have hinX2 : ∀ w ∈ u_ws RX2 TX2 4, w ∈ wsX4_init := by decide +kernel
  have hl : lv_has ls 2 [(0, .ref x)] := hl
  have hP : va_P G.1 vwCl ([(x, .inr (3, [.null, .int (nI 0), .int (nI 0)]))] ++ []) sM.heap := hP
  have hD : va_D AM ([(x, .inr (3, [.null, .int (nI 0), .int (nI 0)]))] ++ []) := hD
  refine lv_aload_n hx hb dX4_init_0 rfl (lv_at hl 0 rfl) ?_
  refine W.objInit hx hb hown (hts (.methodLink RX4 3 objectInit) (by decide +kernel)) (hts (.instanceMethod objectInit) (by decide +kernel)) (hts _ (List.mem_of_getElem? (i := 3) rfl)) rfl (by rw [SM.2.2.1]; exact hl.1) rfl dX4_init_1 (Nat.le_of_ble_eq_true rfl) (Nat.le_of_ble_eq_true rfl) ?_
  refine W.eq (g2 := F0 mM 4 ls []) rfl ?_
  refine lv_aload_n hx hb dX4_init_4 rfl (lv_at hl 0 rfl) ?_
  refine lv_bipush (v := nI 14) hx hb dX4_init_5 (by decide) ?_
  refine zNwE hx hb hown (hts (.classLink RX4 11 RX2) (by decide +kernel)) hAO hK hA hP hD hS (by omega) (Nat.le_of_ble_eq_true rfl) (Nat.le_of_ble_eq_true rfl) dX4_init_7 (fun q1 H hP hD hS => ?_)
  have hP : va_P G.1 vwCl ([(x, .inr (3, [.null, .int (nI 0), .int (nI 0)]))] ++ ([zR G q1 14 (fun _ => none)] ++ [])) H := hP
  have hD : va_D AM ([(x, .inr (3, [.null, .int (nI 0), .int (nI 0)]))] ++ ([zR G q1 14 (fun _ => none)] ++ [])) := hD
  refine va_putF (D := G.1) (ci := 3) (v := .ref q1) (ty := .array (.object "DyckReachability$Edges")) (C := RX4) (T := TX4) (N := 3) hx hb hts hinX4 tyX4 tyX4_ok nmX4 hown hK hP hD hS 0 rfl rfl 0 (by decide) (hts (.fieldLink RX4 13 "DyckReachability$History" "states" "[LDyckReachability$Edges;") (by decide +kernel)) (fun _ h9 => h9) rfl hin rfl (by decide +kernel) rfl rfl (Nat.le_of_ble_eq_true rfl) dX4_init_10 (fun H locs hP hD hS => ?_)
  have hP : va_P G.1 vwCl ([(x, .inr (3, [.ref q1, .int (nI 0), .int (nI 0)]))] ++ ([zR G q1 14 (fun _ => none)] ++ [])) H := hP
  have hD : va_D AM ([(x, .inr (3, [.ref q1, .int (nI 0), .int (nI 0)]))] ++ ([zR G q1 14 (fun _ => none)] ++ [])) := hD
  refine lv_iconst (v := nI 0) hx hb dX4_init_13 (by decide) ?_
  refine lv_istore_n (lv' := [(1, .int (nI 0)), (0, .ref x)]) hx hb dX4_init_14 rfl hl (by decide) rfl (fun ls hl => ?_)
  have lp : ∀ (n9 i : Nat) (ha : Nat → zQA) (fr : Nat → Option Nat), i ≤ 14 → 14 - i < n9 → (∀ j, j < i → fr j = some (ha j).1) → ∀ (H : Heap) (locs : List Loc) (ls : Array Slot), va_P G.1 vwCl ([(x, .inr (3, [.ref q1, .int (nI 0), .int (nI 0)]))] ++ ([zR G q1 14 fr] ++ fl (fun j => zEd G (ha j) 16 (z0, z0, z0, 0)) i)) H → va_D AM ([(x, .inr (3, [.ref q1, .int (nI 0), .int (nI 0)]))] ++ ([zR G q1 14 fr] ++ fl (fun j => zEd G (ha j) 16 (z0, z0, z0, 0)) i)) → va_S AM sM.heap H locs → lv_has ls 2 [(1, .int (nI i)), (0, .ref x)] → W pM l eM ({ frames := 2, cells := 57, slots := 742, locals := 33 }) sM mM (([.ref x] : List Value).toArray) bM tM cM H locs (1 + 4 * i) (14 + 52 * i) QM (F0 mM 15 ls []) := by
    intro n9
    induction n9 with
    | zero => intro i ha fr hi h; exact absurd h (Nat.not_lt_zero _)
    | succ n9 ih =>
      intro i ha fr hi h9 hfr H locs ls hP hD hS hl
      refine lv_iload_n hx hb dX4_init_15 rfl (lv_at hl 0 rfl) ?_
      refine lv_bipush (v := nI 14) hx hb dX4_init_16 (by decide) ?_
      refine zn_ge (tgt := 42) hx hb dX4_init_18 (by decide) (by omega) (by omega) (fun c_1 => ?_) (fun c_1 => ?_)
      · have hi14 : i = 14 := by omega
        subst hi14
        refine lv_aload_n hx hb dX4_init_42 rfl (lv_at hl 1 rfl) ?_
        refine lv_iconst (v := nI 0) hx hb dX4_init_43 (by decide) ?_
        refine va_put (D := G.1) (ci := 3) (v := .int (nI 0)) (ty := .int) (C := RX4) (T := TX4) (N := 3) hx hb hts hinX4 tyX4 tyX4_ok nmX4 hown hK hP hD hS 0 rfl rfl 1 (by decide) (hts (.fieldLink RX4 20 "DyckReachability$History" "next" "I") (by decide +kernel)) (fun _ h9 => h9) rfl (by decide +kernel) rfl rfl (Nat.le_of_ble_eq_true rfl) dX4_init_44 (fun H locs hP hD hS => ?_)
        have hP : va_P G.1 vwCl ([(x, .inr (3, [.ref q1, .int (nI 0), .int (nI 0)]))] ++ ([zR G q1 14 fr] ++ fl (fun j => zEd G (ha j) 16 (z0, z0, z0, 0)) 14)) H := hP
        have hD : va_D AM ([(x, .inr (3, [.ref q1, .int (nI 0), .int (nI 0)]))] ++ ([zR G q1 14 fr] ++ fl (fun j => zEd G (ha j) 16 (z0, z0, z0, 0)) 14)) := hD
        refine lv_aload_n hx hb dX4_init_47 rfl (lv_at hl 1 rfl) ?_
        refine lv_iconst (v := nI 0) hx hb dX4_init_48 (by decide) ?_
        refine va_put (D := G.1) (ci := 3) (v := .int (nI 0)) (ty := .int) (C := RX4) (T := TX4) (N := 3) hx hb hts hinX4 tyX4 tyX4_ok nmX4 hown hK hP hD hS 0 rfl rfl 2 (by decide) (hts (.fieldLink RX4 24 "DyckReachability$History" "size" "I") (by decide +kernel)) (fun _ h9 => h9) rfl (by decide +kernel) rfl rfl (Nat.le_of_ble_eq_true rfl) dX4_init_49 (fun H locs hP hD hS => ?_)
        have hP : va_P G.1 vwCl ([(x, .inr (3, [.ref q1, .int (nI 0), .int (nI 0)]))] ++ ([zR G q1 14 fr] ++ fl (fun j => zEd G (ha j) 16 (z0, z0, z0, 0)) 14)) H := hP
        have hD : va_D AM ([(x, .inr (3, [.ref q1, .int (nI 0), .int (nI 0)]))] ++ ([zR G q1 14 fr] ++ fl (fun j => zEd G (ha j) 16 (z0, z0, z0, 0)) 14)) := hD
        exact kret _ _ _ _ _ (q1, ha, fr) hfr (List.Perm.refl _) hP hD hS dX4_init_52
      · have hi14 : i < 14 := by omega
        have hP : va_P G.1 vwCl ([(x, .inr (3, [.ref q1, .int (nI 0), .int (nI 0)]))] ++ ([zR G q1 14 fr] ++ fl (fun j => zEd G (ha j) 16 (z0, z0, z0, 0)) i)) H := hP
        refine lv_aload_n hx hb dX4_init_21 rfl (lv_at hl 1 rfl) ?_
        refine va_get (D := G.1) (ci := 3) (v := .ref q1) (C := RX4) (T := TX4) (N := 3) hx hb hts hinX4 hown hK hP 0 rfl rfl 0 (by decide) (hts (.fieldLink RX4 13 "DyckReachability$History" "states" "[LDyckReachability$Edges;") (by decide +kernel)) (fun _ h9 => h9) rfl dX4_init_22 ?_
        refine lv_iload_n hx hb dX4_init_25 rfl (lv_at hl 0 rfl) ?_
        refine va_new (ci := 1) (fs := [.null, .null, .null, .int (nI 0)]) (C := RX2) (T := TX2) (N := 4) hx hb hts hinX2 tyX2 tyX2_ok hown (hts (.classLink RX4 11 RX2) (by decide +kernel)) (hts (.instantiable RX2 4) (by decide +kernel)) (hts (.initialized RX2) (by decide +kernel)) hK hP hD hS hA rfl (fun j hj => by rcases (show j = 0 ∨ j = 1 ∨ j = 2 ∨ j = 3 by omega) with rfl | rfl | rfl | rfl <;> rfl) (show 1 + 4 * i + 1 ≤ 57 by omega) (show 14 + 52 * i + 4 ≤ 742 by omega) dX4_init_26 (fun q2 H hP hD hS => ?_)
        have hP : va_P G.1 vwCl ([(q2, .inr (1, [.null, .null, .null, .int (nI 0)]))] ++ ([(x, .inr (3, [.ref q1, .int (nI 0), .int (nI 0)]))] ++ ([zR G q1 14 fr] ++ fl (fun j => zEd G (ha j) 16 (z0, z0, z0, 0)) i))) H := hP.perm List.perm_append_comm
        have hD : va_D AM ([(q2, .inr (1, [.null, .null, .null, .int (nI 0)]))] ++ ([(x, .inr (3, [.ref q1, .int (nI 0), .int (nI 0)]))] ++ ([zR G q1 14 fr] ++ fl (fun j => zEd G (ha j) 16 (z0, z0, z0, 0)) i))) := hD.perm List.perm_append_comm
        refine lv_dup hx hb dX4_init_29 rfl ?_
        refine lv_bipush (v := nI 16) hx hb dX4_init_30 (by decide) ?_
        refine zIn SM (c_X2_init l G q2 16 (by omega)) (cwI 1 hts gX4_init_X2_init rfl rfl rfl (hts (.initialized RX2) (by decide +kernel)) (hts (.methodLink RX4 17 yX2_init) (by decide +kernel)) (hts (.instanceMethod yX2_init) (by decide +kernel)) rfl (by decide +kernel) ⟨Nat.le_of_ble_eq_true rfl, Nat.le_of_ble_eq_true rfl⟩) hAO hK hE hA hP hD hS hl.1 rfl rfl (Nat.le_of_ble_eq_true rfl) ⟨(show 1 + 4 * i + 1 + 3 ≤ 57 by omega), (show 14 + 52 * i + 4 + 48 ≤ 742 by omega)⟩ dX4_init_32 (fun H locs u2 hu2 hP hD hS => ?_)
        have hpm : ∀ (w a b r9 : va_W), (w ++ (a ++ (b ++ r9))).Perm (a ++ (b ++ (w ++ r9))) := fun w a b r9 => (List.perm_append_comm_assoc w a (b ++ r9)).trans (List.Perm.append_left a (List.perm_append_comm_assoc w b r9))
        have hP : va_P G.1 vwCl ([(x, .inr (3, [.ref q1, .int (nI 0), .int (nI 0)]))] ++ ([zR G q1 14 fr] ++ (zEd G (q2, u2) 16 (z0, z0, z0, 0) ++ fl (fun j => zEd G (ha j) 16 (z0, z0, z0, 0)) i))) H := hP.perm (hpm _ _ _ _)
        have hD : va_D AM ([(x, .inr (3, [.ref q1, .int (nI 0), .int (nI 0)]))] ++ ([zR G q1 14 fr] ++ (zEd G (q2, u2) 16 (z0, z0, z0, 0) ++ fl (fun j => zEd G (ha j) 16 (z0, z0, z0, 0)) i))) := hD.perm (hpm _ _ _ _)
        refine va_astq hx hb hK hP hD hS 1 2 2 1 rfl rfl rfl rfl (zin hi14 (by omega)) dX4_init_35 (fun H locs hP hD hS => ?_)
        rw [zcl (show i < 2147483648 by omega)] at hP hD
        have hP : va_P G.1 vwCl ([(x, .inr (3, [.ref q1, .int (nI 0), .int (nI 0)]))] ++ ([zR G q1 14 (va_up fr i (some q2))] ++ (zEd G (q2, u2) 16 (z0, z0, z0, 0) ++ fl (fun j => zEd G (ha j) 16 (z0, z0, z0, 0)) i))) H := hP
        have hD : va_D AM ([(x, .inr (3, [.ref q1, .int (nI 0), .int (nI 0)]))] ++ ([zR G q1 14 (va_up fr i (some q2))] ++ (zEd G (q2, u2) 16 (z0, z0, z0, 0) ++ fl (fun j => zEd G (ha j) 16 (z0, z0, z0, 0)) i))) := hD
        refine lv_iinc (v := nI (i + 1)) (lv' := [(1, .int (nI (i + 1))), (0, .ref x)]) hx hb dX4_init_36 hl (k := 0) rfl (zinc i 1) (by decide) rfl (fun ls hl => ?_)
        refine lv_goto (tgt := 15) hx hb dX4_init_39 (by decide) ?_
        refine W.widen (k := 1 + 4 * (i + 1)) (n := 14 + 52 * (i + 1)) (by omega) (by omega) ?_
        have efl : fl (fun j => zEd G ((fun j => if j = i then (q2, u2) else ha j) j) 16 (z0, z0, z0, 0)) (i + 1) = zEd G (q2, u2) 16 (z0, z0, z0, 0) ++ fl (fun j => zEd G (ha j) 16 (z0, z0, z0, 0)) i := by
          show zEd G (if i = i then (q2, u2) else ha i) 16 (z0, z0, z0, 0) ++ _ = _
          rw [if_pos rfl]
          congr 1
          exact fl_cong i (fun j hj => by show zEd G (if j = i then (q2, u2) else ha j) 16 (z0, z0, z0, 0) = _; rw [if_neg (by omega)])
        refine ih (i + 1) (fun j => if j = i then (q2, u2) else ha j) (va_up fr i (some q2)) (by omega) (by omega) (fun j hj => ?_) _ _ _ (by rw [efl]; exact hP) (by rw [efl]; exact hD) hS hl
        by_cases hji : j = i
        · subst hji; rw [va_up_self, if_pos rfl]
        · rw [va_up_ne _ _ hji, if_neg hji]; exact hfr j (by omega)
  refine W.widen (k := 1 + 4 * 0) (n := 14 + 52 * 0) (by omega) (by omega) ?_
  exact lp 15 0 (fun _ => (0, 0, 0, 0)) (fun _ => none) (by omega) (by omega) (fun j hj => absurd hj (Nat.not_lt_zero j)) _ _ _ hP hD hS hl
