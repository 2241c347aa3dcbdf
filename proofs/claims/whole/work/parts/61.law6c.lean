/-! the law: each call -/
set_option maxHeartbeats 4000000 in
set_option maxRecDepth 100000 in
theorem law_witnessEdge {p : Program} {e : Env} {s : State} {m : MethodId} {below : List Frame} {meth : Method} {c : Code} (l : Launch) {b L : Nat} {xs : Nat → Int32} (hL : L ≤ 2048) (C0 : lw_At p s m meth c b L xs) {G : zG} (hK : va_K G.1 vwCl (zT G) s) (hE : zE G (fun q : Nat => s.heap.size ≤ q) s s.heap) {A : Nat → Nat} {fr fsl : Nat → Option Nat} {ha sa : Nat → zQA} {B : Nat → Nat} (hfr : ∀ i, i < 14 → fr i = some (ha i).1) (hfs : ∀ i, i < 2 → fsl i = some (sa i).1) {i : Nat} (hi : i + 4 ≤ L) (hk : LK p e s m below meth c l b G A fr fsl ha sa B 976 i) : LK p e s m below meth c l b G A fr fsl ha sa B 510 i := by
  intro c1 r1 H locs ls hI hP hD hS hl
  obtain ⟨hx, hb, hr, hml, hown, hts0, hX, hbl, hlocks, hgv⟩ := C0
  have hb : c.code = cL_law := hb
  have hts : ∀ w ∈ wsL_law, w.before #[Value.ref b] s = true := fun w hw => hts0 w (wsL_law_in w hw)
  have hown : s.vm.findClass RL = some m.cls := hown
  have hA : ∀ q : Nat, s.heap.size ≤ q → (fun q : Nat => s.heap.size ≤ q) q := fun _ h => h
  have hbA : ¬ (fun q : Nat => s.heap.size ≤ q) b := Nat.not_le.mpr hbl
  obtain ⟨a9, okC, okM, hC, hM, hI2⟩ := st_witnessEdge l G (B := B) hfr hfs hI (xs (nI i + nI 1).toNatClampNeg) (xs (nI i + nI 2).toNatClampNeg) (xs (nI i + nI 3).toNatClampNeg)
  have hv1 : vp_in (nI i + nI 1) L := lw_in (by omega) hL
  have hv2 : vp_in (nI i + nI 2) L := lw_in (by omega) hL
  have hv3 : vp_in (nI i + nI 3) L := lw_in (by omega) hL
  refine lv_aload_n hx hb dL_law_510 rfl (lv_at hl 2 rfl) ?_
  refine lv_aload_n hx hb dL_law_511 rfl (lv_at hl 3 rfl) ?_
  refine lv_iload_n hx hb dL_law_512 rfl (lv_at hl 0 rfl) ?_
  refine lv_iconst (v := nI 1) hx hb dL_law_513 (by decide) ?_
  refine lv_iadd hx hb dL_law_514 ?_
  refine va_sld hx hb hX hbl hbA hS hv1 dL_law_515 ?_
  refine lv_aload_n hx hb dL_law_516 rfl (lv_at hl 3 rfl) ?_
  refine lv_iload_n hx hb dL_law_517 rfl (lv_at hl 0 rfl) ?_
  refine lv_iconst (v := nI 2) hx hb dL_law_518 (by decide) ?_
  refine lv_iadd hx hb dL_law_519 ?_
  refine va_sld hx hb hX hbl hbA hS hv2 dL_law_520 ?_
  refine lv_aload_n hx hb dL_law_521 rfl (lv_at hl 3 rfl) ?_
  refine lv_iload_n hx hb dL_law_522 rfl (lv_at hl 0 rfl) ?_
  refine lv_iconst (v := nI 3) hx hb dL_law_523 (by decide) ?_
  refine lv_iadd hx hb dL_law_524 ?_
  refine va_sld hx hb hX hbl hbA hS hv3 dL_law_525 ?_
  refine zLx ⟨hx, hb, hml, hown, hts⟩ hC (cwV 3 hts gL_law_X8_witnessEdge rfl rfl rfl (by decide +kernel) ⟨Nat.le_of_ble_eq_true rfl, Nat.le_of_ble_eq_true rfl⟩) hK hE hA hP hD hS hl.1 (ci := 5) rfl rfl rfl rfl rfl (Nat.le_of_ble_eq_true rfl) ⟨Nat.le_of_ble_eq_true rfl, Nat.le_of_ble_eq_true rfl⟩ dL_law_526 (fun H locs c2 hc2 hP hD hS => ?_)
  refine lv_aload_n hx hb dL_law_529 rfl (lv_at hl 1 rfl) ?_
  refine lv_aload_n hx hb dL_law_530 rfl (lv_at hl 3 rfl) ?_
  refine lv_iload_n hx hb dL_law_531 rfl (lv_at hl 0 rfl) ?_
  refine lv_iconst (v := nI 1) hx hb dL_law_532 (by decide) ?_
  refine lv_iadd hx hb dL_law_533 ?_
  refine va_sld hx hb hX hbl hbA hS hv1 dL_law_534 ?_
  refine lv_aload_n hx hb dL_law_535 rfl (lv_at hl 3 rfl) ?_
  refine lv_iload_n hx hb dL_law_536 rfl (lv_at hl 0 rfl) ?_
  refine lv_iconst (v := nI 2) hx hb dL_law_537 (by decide) ?_
  refine lv_iadd hx hb dL_law_538 ?_
  refine va_sld hx hb hX hbl hbA hS hv2 dL_law_539 ?_
  refine lv_aload_n hx hb dL_law_540 rfl (lv_at hl 3 rfl) ?_
  refine lv_iload_n hx hb dL_law_541 rfl (lv_at hl 0 rfl) ?_
  refine lv_iconst (v := nI 3) hx hb dL_law_542 (by decide) ?_
  refine lv_iadd hx hb dL_law_543 ?_
  refine va_sld hx hb hX hbl hbA hS hv3 dL_law_544 ?_
  have hP := hP.perm List.perm_append_comm
  have hD := hD.perm List.perm_append_comm
  refine zLx ⟨hx, hb, hml, hown, hts⟩ hM (cwV 3 hts gL_law_X9_witnessEdge rfl rfl rfl (by decide +kernel) ⟨Nat.le_of_ble_eq_true rfl, Nat.le_of_ble_eq_true rfl⟩) hK hE hA hP hD hS hl.1 (ci := 6) rfl rfl rfl rfl rfl (Nat.le_of_ble_eq_true rfl) ⟨Nat.le_of_ble_eq_true rfl, Nat.le_of_ble_eq_true rfl⟩ dL_law_545 (fun H locs r2 hr2 hP hD hS => ?_)
  have hP := hP.perm List.perm_append_comm
  have hD := hD.perm List.perm_append_comm
  exact lv_icmp_eq (tgt := 976) hx hb dL_law_548 (by decide) (fun _ => hk c2 r2 _ _ _ (hI2 c2 r2 hc2 hr2) hP hD hS hl) (fun q => absurd rfl q)
set_option maxHeartbeats 4000000 in
set_option maxRecDepth 100000 in
theorem law_depth {p : Program} {e : Env} {s : State} {m : MethodId} {below : List Frame} {meth : Method} {c : Code} (l : Launch) {b L : Nat} {xs : Nat → Int32} (hL : L ≤ 2048) (C0 : lw_At p s m meth c b L xs) {G : zG} (hK : va_K G.1 vwCl (zT G) s) (hE : zE G (fun q : Nat => s.heap.size ≤ q) s s.heap) {A : Nat → Nat} {fr fsl : Nat → Option Nat} {ha sa : Nat → zQA} {B : Nat → Nat} (hfr : ∀ i, i < 14 → fr i = some (ha i).1) (hfs : ∀ i, i < 2 → fsl i = some (sa i).1) {i : Nat} (hi : i + 4 ≤ L) (hk : LK p e s m below meth c l b G A fr fsl ha sa B 976 i) : LK p e s m below meth c l b G A fr fsl ha sa B 553 i := by
  intro c1 r1 H locs ls hI hP hD hS hl
  obtain ⟨hx, hb, hr, hml, hown, hts0, hX, hbl, hlocks, hgv⟩ := C0
  have hb : c.code = cL_law := hb
  have hts : ∀ w ∈ wsL_law, w.before #[Value.ref b] s = true := fun w hw => hts0 w (wsL_law_in w hw)
  have hown : s.vm.findClass RL = some m.cls := hown
  have hA : ∀ q : Nat, s.heap.size ≤ q → (fun q : Nat => s.heap.size ≤ q) q := fun _ h => h
  have hbA : ¬ (fun q : Nat => s.heap.size ≤ q) b := Nat.not_le.mpr hbl
  obtain ⟨a9, okC, okM, hC, hM, hI2⟩ := st_depth l G (B := B) hfr hfs hI (xs (nI i + nI 1).toNatClampNeg) (xs (nI i + nI 2).toNatClampNeg)
  have hv1 : vp_in (nI i + nI 1) L := lw_in (by omega) hL
  have hv2 : vp_in (nI i + nI 2) L := lw_in (by omega) hL
  refine lv_aload_n hx hb dL_law_553 rfl (lv_at hl 2 rfl) ?_
  refine lv_aload_n hx hb dL_law_554 rfl (lv_at hl 3 rfl) ?_
  refine lv_iload_n hx hb dL_law_555 rfl (lv_at hl 0 rfl) ?_
  refine lv_iconst (v := nI 1) hx hb dL_law_556 (by decide) ?_
  refine lv_iadd hx hb dL_law_557 ?_
  refine va_sld hx hb hX hbl hbA hS hv1 dL_law_558 ?_
  refine lv_aload_n hx hb dL_law_559 rfl (lv_at hl 3 rfl) ?_
  refine lv_iload_n hx hb dL_law_560 rfl (lv_at hl 0 rfl) ?_
  refine lv_iconst (v := nI 2) hx hb dL_law_561 (by decide) ?_
  refine lv_iadd hx hb dL_law_562 ?_
  refine va_sld hx hb hX hbl hbA hS hv2 dL_law_563 ?_
  refine zLx ⟨hx, hb, hml, hown, hts⟩ hC (cwV 2 hts gL_law_X8_depth rfl rfl rfl (by decide +kernel) ⟨Nat.le_of_ble_eq_true rfl, Nat.le_of_ble_eq_true rfl⟩) hK hE hA hP hD hS hl.1 (ci := 5) rfl rfl rfl rfl rfl (Nat.le_of_ble_eq_true rfl) ⟨Nat.le_of_ble_eq_true rfl, Nat.le_of_ble_eq_true rfl⟩ dL_law_564 (fun H locs c2 hc2 hP hD hS => ?_)
  refine lv_aload_n hx hb dL_law_567 rfl (lv_at hl 1 rfl) ?_
  refine lv_aload_n hx hb dL_law_568 rfl (lv_at hl 3 rfl) ?_
  refine lv_iload_n hx hb dL_law_569 rfl (lv_at hl 0 rfl) ?_
  refine lv_iconst (v := nI 1) hx hb dL_law_570 (by decide) ?_
  refine lv_iadd hx hb dL_law_571 ?_
  refine va_sld hx hb hX hbl hbA hS hv1 dL_law_572 ?_
  refine lv_aload_n hx hb dL_law_573 rfl (lv_at hl 3 rfl) ?_
  refine lv_iload_n hx hb dL_law_574 rfl (lv_at hl 0 rfl) ?_
  refine lv_iconst (v := nI 2) hx hb dL_law_575 (by decide) ?_
  refine lv_iadd hx hb dL_law_576 ?_
  refine va_sld hx hb hX hbl hbA hS hv2 dL_law_577 ?_
  have hP := hP.perm List.perm_append_comm
  have hD := hD.perm List.perm_append_comm
  refine zLx ⟨hx, hb, hml, hown, hts⟩ hM (cwV 2 hts gL_law_X9_depth rfl rfl rfl (by decide +kernel) ⟨Nat.le_of_ble_eq_true rfl, Nat.le_of_ble_eq_true rfl⟩) hK hE hA hP hD hS hl.1 (ci := 6) rfl rfl rfl rfl rfl (Nat.le_of_ble_eq_true rfl) ⟨Nat.le_of_ble_eq_true rfl, Nat.le_of_ble_eq_true rfl⟩ dL_law_578 (fun H locs r2 hr2 hP hD hS => ?_)
  have hP := hP.perm List.perm_append_comm
  have hD := hD.perm List.perm_append_comm
  exact lv_icmp_eq (tgt := 976) hx hb dL_law_581 (by decide) (fun _ => hk c2 r2 _ _ _ (hI2 c2 r2 hc2 hr2) hP hD hS hl) (fun q => absurd rfl q)
set_option maxHeartbeats 4000000 in
set_option maxRecDepth 100000 in
theorem law_loss {p : Program} {e : Env} {s : State} {m : MethodId} {below : List Frame} {meth : Method} {c : Code} (l : Launch) {b L : Nat} {xs : Nat → Int32} (hL : L ≤ 2048) (C0 : lw_At p s m meth c b L xs) {G : zG} (hK : va_K G.1 vwCl (zT G) s) (hE : zE G (fun q : Nat => s.heap.size ≤ q) s s.heap) {A : Nat → Nat} {fr fsl : Nat → Option Nat} {ha sa : Nat → zQA} {B : Nat → Nat} (hfr : ∀ i, i < 14 → fr i = some (ha i).1) (hfs : ∀ i, i < 2 → fsl i = some (sa i).1) {i : Nat} (hi : i + 4 ≤ L) (hk : LK p e s m below meth c l b G A fr fsl ha sa B 976 i) : LK p e s m below meth c l b G A fr fsl ha sa B 586 i := by
  intro c1 r1 H locs ls hI hP hD hS hl
  obtain ⟨hx, hb, hr, hml, hown, hts0, hX, hbl, hlocks, hgv⟩ := C0
  have hb : c.code = cL_law := hb
  have hts : ∀ w ∈ wsL_law, w.before #[Value.ref b] s = true := fun w hw => hts0 w (wsL_law_in w hw)
  have hown : s.vm.findClass RL = some m.cls := hown
  have hA : ∀ q : Nat, s.heap.size ≤ q → (fun q : Nat => s.heap.size ≤ q) q := fun _ h => h
  have hbA : ¬ (fun q : Nat => s.heap.size ≤ q) b := Nat.not_le.mpr hbl
  obtain ⟨a9, okC, okM, hC, hM, hI2⟩ := st_loss l G (B := B) hfr hfs hI (xs (nI i + nI 1).toNatClampNeg)
  have hv1 : vp_in (nI i + nI 1) L := lw_in (by omega) hL
  refine lv_aload_n hx hb dL_law_586 rfl (lv_at hl 2 rfl) ?_
  refine lv_aload_n hx hb dL_law_587 rfl (lv_at hl 3 rfl) ?_
  refine lv_iload_n hx hb dL_law_588 rfl (lv_at hl 0 rfl) ?_
  refine lv_iconst (v := nI 1) hx hb dL_law_589 (by decide) ?_
  refine lv_iadd hx hb dL_law_590 ?_
  refine va_sld hx hb hX hbl hbA hS hv1 dL_law_591 ?_
  refine zLx ⟨hx, hb, hml, hown, hts⟩ hC (cwV 1 hts gL_law_X8_loss rfl rfl rfl (by decide +kernel) ⟨Nat.le_of_ble_eq_true rfl, Nat.le_of_ble_eq_true rfl⟩) hK hE hA hP hD hS hl.1 (ci := 5) rfl rfl rfl rfl rfl (Nat.le_of_ble_eq_true rfl) ⟨Nat.le_of_ble_eq_true rfl, Nat.le_of_ble_eq_true rfl⟩ dL_law_592 (fun H locs c2 hc2 hP hD hS => ?_)
  refine lv_aload_n hx hb dL_law_595 rfl (lv_at hl 1 rfl) ?_
  refine lv_aload_n hx hb dL_law_596 rfl (lv_at hl 3 rfl) ?_
  refine lv_iload_n hx hb dL_law_597 rfl (lv_at hl 0 rfl) ?_
  refine lv_iconst (v := nI 1) hx hb dL_law_598 (by decide) ?_
  refine lv_iadd hx hb dL_law_599 ?_
  refine va_sld hx hb hX hbl hbA hS hv1 dL_law_600 ?_
  have hP := hP.perm List.perm_append_comm
  have hD := hD.perm List.perm_append_comm
  refine zLx ⟨hx, hb, hml, hown, hts⟩ hM (cwV 1 hts gL_law_X9_loss rfl rfl rfl (by decide +kernel) ⟨Nat.le_of_ble_eq_true rfl, Nat.le_of_ble_eq_true rfl⟩) hK hE hA hP hD hS hl.1 (ci := 6) rfl rfl rfl rfl rfl (Nat.le_of_ble_eq_true rfl) ⟨Nat.le_of_ble_eq_true rfl, Nat.le_of_ble_eq_true rfl⟩ dL_law_601 (fun H locs r2 hr2 hP hD hS => ?_)
  have hP := hP.perm List.perm_append_comm
  have hD := hD.perm List.perm_append_comm
  exact lv_icmp_eq (tgt := 976) hx hb dL_law_604 (by decide) (fun _ => hk c2 r2 _ _ _ (hI2 c2 r2 hc2 hr2) hP hD hS hl) (fun q => absurd rfl q)
set_option maxHeartbeats 4000000 in
set_option maxRecDepth 100000 in
theorem law_criticalEdge {p : Program} {e : Env} {s : State} {m : MethodId} {below : List Frame} {meth : Method} {c : Code} (l : Launch) {b L : Nat} {xs : Nat → Int32} (hL : L ≤ 2048) (C0 : lw_At p s m meth c b L xs) {G : zG} (hK : va_K G.1 vwCl (zT G) s) (hE : zE G (fun q : Nat => s.heap.size ≤ q) s s.heap) {A : Nat → Nat} {fr fsl : Nat → Option Nat} {ha sa : Nat → zQA} {B : Nat → Nat} (hfr : ∀ i, i < 14 → fr i = some (ha i).1) (hfs : ∀ i, i < 2 → fsl i = some (sa i).1) {i : Nat} (hi : i + 4 ≤ L) (hk : LK p e s m below meth c l b G A fr fsl ha sa B 976 i) : LK p e s m below meth c l b G A fr fsl ha sa B 609 i := by
  intro c1 r1 H locs ls hI hP hD hS hl
  obtain ⟨hx, hb, hr, hml, hown, hts0, hX, hbl, hlocks, hgv⟩ := C0
  have hb : c.code = cL_law := hb
  have hts : ∀ w ∈ wsL_law, w.before #[Value.ref b] s = true := fun w hw => hts0 w (wsL_law_in w hw)
  have hown : s.vm.findClass RL = some m.cls := hown
  have hA : ∀ q : Nat, s.heap.size ≤ q → (fun q : Nat => s.heap.size ≤ q) q := fun _ h => h
  have hbA : ¬ (fun q : Nat => s.heap.size ≤ q) b := Nat.not_le.mpr hbl
  obtain ⟨a9, okC, okM, hC, hM, hI2⟩ := st_criticalEdge l G (B := B) hfr hfs hI
  refine lv_aload_n hx hb dL_law_609 rfl (lv_at hl 2 rfl) ?_
  refine zLx ⟨hx, hb, hml, hown, hts⟩ hC (cwV 0 hts gL_law_X8_criticalEdge rfl rfl rfl (by decide +kernel) ⟨Nat.le_of_ble_eq_true rfl, Nat.le_of_ble_eq_true rfl⟩) hK hE hA hP hD hS hl.1 (ci := 5) rfl rfl rfl rfl rfl (Nat.le_of_ble_eq_true rfl) ⟨Nat.le_of_ble_eq_true rfl, Nat.le_of_ble_eq_true rfl⟩ dL_law_610 (fun H locs c2 hc2 hP hD hS => ?_)
  refine lv_aload_n hx hb dL_law_613 rfl (lv_at hl 1 rfl) ?_
  have hP := hP.perm List.perm_append_comm
  have hD := hD.perm List.perm_append_comm
  refine zLx ⟨hx, hb, hml, hown, hts⟩ hM (cwV 0 hts gL_law_X9_criticalEdge rfl rfl rfl (by decide +kernel) ⟨Nat.le_of_ble_eq_true rfl, Nat.le_of_ble_eq_true rfl⟩) hK hE hA hP hD hS hl.1 (ci := 6) rfl rfl rfl rfl rfl (Nat.le_of_ble_eq_true rfl) ⟨Nat.le_of_ble_eq_true rfl, Nat.le_of_ble_eq_true rfl⟩ dL_law_614 (fun H locs r2 hr2 hP hD hS => ?_)
  have hP := hP.perm List.perm_append_comm
  have hD := hD.perm List.perm_append_comm
  exact lv_icmp_eq (tgt := 976) hx hb dL_law_617 (by decide) (fun _ => hk c2 r2 _ _ _ (hI2 c2 r2 hc2 hr2) hP hD hS hl) (fun q => absurd rfl q)
set_option maxHeartbeats 4000000 in
set_option maxRecDepth 100000 in
theorem law_representative {p : Program} {e : Env} {s : State} {m : MethodId} {below : List Frame} {meth : Method} {c : Code} (l : Launch) {b L : Nat} {xs : Nat → Int32} (hL : L ≤ 2048) (C0 : lw_At p s m meth c b L xs) {G : zG} (hK : va_K G.1 vwCl (zT G) s) (hE : zE G (fun q : Nat => s.heap.size ≤ q) s s.heap) {A : Nat → Nat} {fr fsl : Nat → Option Nat} {ha sa : Nat → zQA} {B : Nat → Nat} (hfr : ∀ i, i < 14 → fr i = some (ha i).1) (hfs : ∀ i, i < 2 → fsl i = some (sa i).1) {i : Nat} (hi : i + 4 ≤ L) (hk : LK p e s m below meth c l b G A fr fsl ha sa B 976 i) : LK p e s m below meth c l b G A fr fsl ha sa B 622 i := by
  intro c1 r1 H locs ls hI hP hD hS hl
  obtain ⟨hx, hb, hr, hml, hown, hts0, hX, hbl, hlocks, hgv⟩ := C0
  have hb : c.code = cL_law := hb
  have hts : ∀ w ∈ wsL_law, w.before #[Value.ref b] s = true := fun w hw => hts0 w (wsL_law_in w hw)
  have hown : s.vm.findClass RL = some m.cls := hown
  have hA : ∀ q : Nat, s.heap.size ≤ q → (fun q : Nat => s.heap.size ≤ q) q := fun _ h => h
  have hbA : ¬ (fun q : Nat => s.heap.size ≤ q) b := Nat.not_le.mpr hbl
  obtain ⟨a9, okC, okM, hC, hM, hI2⟩ := st_representative l G (B := B) hfr hfs hI (xs (nI i + nI 1).toNatClampNeg)
  have hv1 : vp_in (nI i + nI 1) L := lw_in (by omega) hL
  refine lv_aload_n hx hb dL_law_622 rfl (lv_at hl 2 rfl) ?_
  refine lv_aload_n hx hb dL_law_623 rfl (lv_at hl 3 rfl) ?_
  refine lv_iload_n hx hb dL_law_624 rfl (lv_at hl 0 rfl) ?_
  refine lv_iconst (v := nI 1) hx hb dL_law_625 (by decide) ?_
  refine lv_iadd hx hb dL_law_626 ?_
  refine va_sld hx hb hX hbl hbA hS hv1 dL_law_627 ?_
  refine zLx ⟨hx, hb, hml, hown, hts⟩ hC (cwV 1 hts gL_law_X8_representative rfl rfl rfl (by decide +kernel) ⟨Nat.le_of_ble_eq_true rfl, Nat.le_of_ble_eq_true rfl⟩) hK hE hA hP hD hS hl.1 (ci := 5) rfl rfl rfl rfl rfl (Nat.le_of_ble_eq_true rfl) ⟨Nat.le_of_ble_eq_true rfl, Nat.le_of_ble_eq_true rfl⟩ dL_law_628 (fun H locs c2 hc2 hP hD hS => ?_)
  refine lv_aload_n hx hb dL_law_631 rfl (lv_at hl 1 rfl) ?_
  refine lv_aload_n hx hb dL_law_632 rfl (lv_at hl 3 rfl) ?_
  refine lv_iload_n hx hb dL_law_633 rfl (lv_at hl 0 rfl) ?_
  refine lv_iconst (v := nI 1) hx hb dL_law_634 (by decide) ?_
  refine lv_iadd hx hb dL_law_635 ?_
  refine va_sld hx hb hX hbl hbA hS hv1 dL_law_636 ?_
  have hP := hP.perm List.perm_append_comm
  have hD := hD.perm List.perm_append_comm
  refine zLx ⟨hx, hb, hml, hown, hts⟩ hM (cwV 1 hts gL_law_X9_representative rfl rfl rfl (by decide +kernel) ⟨Nat.le_of_ble_eq_true rfl, Nat.le_of_ble_eq_true rfl⟩) hK hE hA hP hD hS hl.1 (ci := 6) rfl rfl rfl rfl rfl (Nat.le_of_ble_eq_true rfl) ⟨Nat.le_of_ble_eq_true rfl, Nat.le_of_ble_eq_true rfl⟩ dL_law_637 (fun H locs r2 hr2 hP hD hS => ?_)
  have hP := hP.perm List.perm_append_comm
  have hD := hD.perm List.perm_append_comm
  exact lv_icmp_eq (tgt := 976) hx hb dL_law_640 (by decide) (fun _ => hk c2 r2 _ _ _ (hI2 c2 r2 hc2 hr2) hP hD hS hl) (fun q => absurd rfl q)
set_option maxHeartbeats 4000000 in
set_option maxRecDepth 100000 in
theorem law_runScript {p : Program} {e : Env} {s : State} {m : MethodId} {below : List Frame} {meth : Method} {c : Code} (l : Launch) {b L : Nat} {xs : Nat → Int32} (hL : L ≤ 2048) (C0 : lw_At p s m meth c b L xs) {G : zG} (hK : va_K G.1 vwCl (zT G) s) (hE : zE G (fun q : Nat => s.heap.size ≤ q) s s.heap) {A : Nat → Nat} {fr fsl : Nat → Option Nat} {ha sa : Nat → zQA} {B : Nat → Nat} (hfr : ∀ i, i < 14 → fr i = some (ha i).1) (hfs : ∀ i, i < 2 → fsl i = some (sa i).1) {i : Nat} (hi : i + 4 ≤ L) (hk : LK p e s m below meth c l b G A fr fsl ha sa B 976 i) : LK p e s m below meth c l b G A fr fsl ha sa B 645 i := by
  intro c1 r1 H locs ls hI hP hD hS hl
  obtain ⟨hx, hb, hr, hml, hown, hts0, hX, hbl, hlocks, hgv⟩ := C0
  have hb : c.code = cL_law := hb
  have hts : ∀ w ∈ wsL_law, w.before #[Value.ref b] s = true := fun w hw => hts0 w (wsL_law_in w hw)
  have hown : s.vm.findClass RL = some m.cls := hown
  have hA : ∀ q : Nat, s.heap.size ≤ q → (fun q : Nat => s.heap.size ≤ q) q := fun _ h => h
  have hbA : ¬ (fun q : Nat => s.heap.size ≤ q) b := Nat.not_le.mpr hbl
  obtain ⟨a9, okC, okM, hC, hM, hI2⟩ := st_runScript l G (B := B) hfr hfs hI (xs (nI i + nI 1).toNatClampNeg) ((((xs (nI i + nI 2).toNatClampNeg).toInt64 <<< ((nI 32).toInt64 &&& 63)) ||| ((xs (nI i + nI 3).toNatClampNeg).toInt64 &&& 4294967295)))
  have hv1 : vp_in (nI i + nI 1) L := lw_in (by omega) hL
  have hv2 : vp_in (nI i + nI 2) L := lw_in (by omega) hL
  have hv3 : vp_in (nI i + nI 3) L := lw_in (by omega) hL
  refine lv_aload_n hx hb dL_law_645 rfl (lv_at hl 2 rfl) ?_
  refine lv_aload_n hx hb dL_law_646 rfl (lv_at hl 3 rfl) ?_
  refine lv_iload_n hx hb dL_law_647 rfl (lv_at hl 0 rfl) ?_
  refine lv_iconst (v := nI 1) hx hb dL_law_648 (by decide) ?_
  refine lv_iadd hx hb dL_law_649 ?_
  refine va_sld hx hb hX hbl hbA hS hv1 dL_law_650 ?_
  refine lv_aload_n hx hb dL_law_651 rfl (lv_at hl 3 rfl) ?_
  refine lv_iload_n hx hb dL_law_652 rfl (lv_at hl 0 rfl) ?_
  refine lv_iconst (v := nI 2) hx hb dL_law_653 (by decide) ?_
  refine lv_iadd hx hb dL_law_654 ?_
  refine va_sld hx hb hX hbl hbA hS hv2 dL_law_655 ?_
  refine lv_i2l hx hb dL_law_656 rfl ?_
  refine lv_bipush (v := nI 32) hx hb dL_law_657 (by decide) ?_
  refine lv_lshl hx hb dL_law_659 rfl ?_
  refine lv_aload_n hx hb dL_law_660 rfl (lv_at hl 3 rfl) ?_
  refine lv_iload_n hx hb dL_law_661 rfl (lv_at hl 0 rfl) ?_
  refine lv_iconst (v := nI 3) hx hb dL_law_662 (by decide) ?_
  refine lv_iadd hx hb dL_law_663 ?_
  refine va_sld hx hb hX hbl hbA hS hv3 dL_law_664 ?_
  refine lv_i2l hx hb dL_law_665 rfl ?_
  refine lv_ldc2 hx hb hown (hts (.constantLong RL 101 4294967295) (by decide +kernel)) dL_law_666 ?_
  refine lv_land hx hb dL_law_669 ?_
  refine lv_lor hx hb dL_law_670 ?_
  refine zLx ⟨hx, hb, hml, hown, hts⟩ hC (cwV 2 hts gL_law_X8_runScript rfl rfl rfl (by decide +kernel) ⟨Nat.le_of_ble_eq_true rfl, Nat.le_of_ble_eq_true rfl⟩) hK hE hA hP hD hS hl.1 (ci := 5) rfl rfl rfl rfl rfl (Nat.le_of_ble_eq_true rfl) ⟨Nat.le_of_ble_eq_true rfl, Nat.le_of_ble_eq_true rfl⟩ dL_law_671 (fun H locs c2 hc2 hP hD hS => ?_)
  refine lv_aload_n hx hb dL_law_674 rfl (lv_at hl 1 rfl) ?_
  refine lv_aload_n hx hb dL_law_675 rfl (lv_at hl 3 rfl) ?_
  refine lv_iload_n hx hb dL_law_676 rfl (lv_at hl 0 rfl) ?_
  refine lv_iconst (v := nI 1) hx hb dL_law_677 (by decide) ?_
  refine lv_iadd hx hb dL_law_678 ?_
  refine va_sld hx hb hX hbl hbA hS hv1 dL_law_679 ?_
  refine lv_aload_n hx hb dL_law_680 rfl (lv_at hl 3 rfl) ?_
  refine lv_iload_n hx hb dL_law_681 rfl (lv_at hl 0 rfl) ?_
  refine lv_iconst (v := nI 2) hx hb dL_law_682 (by decide) ?_
  refine lv_iadd hx hb dL_law_683 ?_
  refine va_sld hx hb hX hbl hbA hS hv2 dL_law_684 ?_
  refine lv_i2l hx hb dL_law_685 rfl ?_
  refine lv_bipush (v := nI 32) hx hb dL_law_686 (by decide) ?_
  refine lv_lshl hx hb dL_law_688 rfl ?_
  refine lv_aload_n hx hb dL_law_689 rfl (lv_at hl 3 rfl) ?_
  refine lv_iload_n hx hb dL_law_690 rfl (lv_at hl 0 rfl) ?_
  refine lv_iconst (v := nI 3) hx hb dL_law_691 (by decide) ?_
  refine lv_iadd hx hb dL_law_692 ?_
  refine va_sld hx hb hX hbl hbA hS hv3 dL_law_693 ?_
  refine lv_i2l hx hb dL_law_694 rfl ?_
  refine lv_ldc2 hx hb hown (hts (.constantLong RL 101 4294967295) (by decide +kernel)) dL_law_695 ?_
  refine lv_land hx hb dL_law_698 ?_
  refine lv_lor hx hb dL_law_699 ?_
  have hP := hP.perm List.perm_append_comm
  have hD := hD.perm List.perm_append_comm
  refine zLx ⟨hx, hb, hml, hown, hts⟩ hM (cwV 2 hts gL_law_X9_runScript rfl rfl rfl (by decide +kernel) ⟨Nat.le_of_ble_eq_true rfl, Nat.le_of_ble_eq_true rfl⟩) hK hE hA hP hD hS hl.1 (ci := 6) rfl rfl rfl rfl rfl (Nat.le_of_ble_eq_true rfl) ⟨Nat.le_of_ble_eq_true rfl, Nat.le_of_ble_eq_true rfl⟩ dL_law_700 (fun H locs r2 hr2 hP hD hS => ?_)
  have hP := hP.perm List.perm_append_comm
  have hD := hD.perm List.perm_append_comm
  exact lv_icmp_eq (tgt := 976) hx hb dL_law_703 (by decide) (fun _ => hk c2 r2 _ _ _ (hI2 c2 r2 hc2 hr2) hP hD hS hl) (fun q => absurd rfl q)
set_option maxHeartbeats 4000000 in
set_option maxRecDepth 100000 in
theorem law_observe {p : Program} {e : Env} {s : State} {m : MethodId} {below : List Frame} {meth : Method} {c : Code} (l : Launch) {b L : Nat} {xs : Nat → Int32} (hL : L ≤ 2048) (C0 : lw_At p s m meth c b L xs) {G : zG} (hK : va_K G.1 vwCl (zT G) s) (hE : zE G (fun q : Nat => s.heap.size ≤ q) s s.heap) {A : Nat → Nat} {fr fsl : Nat → Option Nat} {ha sa : Nat → zQA} {B : Nat → Nat} (hfr : ∀ i, i < 14 → fr i = some (ha i).1) (hfs : ∀ i, i < 2 → fsl i = some (sa i).1) {i : Nat} (hi : i + 4 ≤ L) (hk : LK p e s m below meth c l b G A fr fsl ha sa B 976 i) : LK p e s m below meth c l b G A fr fsl ha sa B 708 i := by
  intro c1 r1 H locs ls hI hP hD hS hl
  obtain ⟨hx, hb, hr, hml, hown, hts0, hX, hbl, hlocks, hgv⟩ := C0
  have hb : c.code = cL_law := hb
  have hts : ∀ w ∈ wsL_law, w.before #[Value.ref b] s = true := fun w hw => hts0 w (wsL_law_in w hw)
  have hown : s.vm.findClass RL = some m.cls := hown
  have hA : ∀ q : Nat, s.heap.size ≤ q → (fun q : Nat => s.heap.size ≤ q) q := fun _ h => h
  have hbA : ¬ (fun q : Nat => s.heap.size ≤ q) b := Nat.not_le.mpr hbl
  obtain ⟨a9, okC, okM, hC, hM, hI2⟩ := st_observe l G (B := B) hfr hfs hI (xs (nI i + nI 1).toNatClampNeg) (xs (nI i + nI 2).toNatClampNeg) (xs (nI i + nI 3).toNatClampNeg)
  have hv1 : vp_in (nI i + nI 1) L := lw_in (by omega) hL
  have hv2 : vp_in (nI i + nI 2) L := lw_in (by omega) hL
  have hv3 : vp_in (nI i + nI 3) L := lw_in (by omega) hL
  refine lv_aload_n hx hb dL_law_708 rfl (lv_at hl 2 rfl) ?_
  refine lv_aload_n hx hb dL_law_709 rfl (lv_at hl 3 rfl) ?_
  refine lv_iload_n hx hb dL_law_710 rfl (lv_at hl 0 rfl) ?_
  refine lv_iconst (v := nI 1) hx hb dL_law_711 (by decide) ?_
  refine lv_iadd hx hb dL_law_712 ?_
  refine va_sld hx hb hX hbl hbA hS hv1 dL_law_713 ?_
  refine lv_aload_n hx hb dL_law_714 rfl (lv_at hl 3 rfl) ?_
  refine lv_iload_n hx hb dL_law_715 rfl (lv_at hl 0 rfl) ?_
  refine lv_iconst (v := nI 2) hx hb dL_law_716 (by decide) ?_
  refine lv_iadd hx hb dL_law_717 ?_
  refine va_sld hx hb hX hbl hbA hS hv2 dL_law_718 ?_
  refine lv_aload_n hx hb dL_law_719 rfl (lv_at hl 3 rfl) ?_
  refine lv_iload_n hx hb dL_law_720 rfl (lv_at hl 0 rfl) ?_
  refine lv_iconst (v := nI 3) hx hb dL_law_721 (by decide) ?_
  refine lv_iadd hx hb dL_law_722 ?_
  refine va_sld hx hb hX hbl hbA hS hv3 dL_law_723 ?_
  refine zLx ⟨hx, hb, hml, hown, hts⟩ hC (cwV 3 hts gL_law_X8_observe rfl rfl rfl (by decide +kernel) ⟨Nat.le_of_ble_eq_true rfl, Nat.le_of_ble_eq_true rfl⟩) hK hE hA hP hD hS hl.1 (ci := 5) rfl rfl rfl rfl rfl (Nat.le_of_ble_eq_true rfl) ⟨Nat.le_of_ble_eq_true rfl, Nat.le_of_ble_eq_true rfl⟩ dL_law_724 (fun H locs c2 hc2 hP hD hS => ?_)
  refine lv_aload_n hx hb dL_law_727 rfl (lv_at hl 1 rfl) ?_
  refine lv_aload_n hx hb dL_law_728 rfl (lv_at hl 3 rfl) ?_
  refine lv_iload_n hx hb dL_law_729 rfl (lv_at hl 0 rfl) ?_
  refine lv_iconst (v := nI 1) hx hb dL_law_730 (by decide) ?_
  refine lv_iadd hx hb dL_law_731 ?_
  refine va_sld hx hb hX hbl hbA hS hv1 dL_law_732 ?_
  refine lv_aload_n hx hb dL_law_733 rfl (lv_at hl 3 rfl) ?_
  refine lv_iload_n hx hb dL_law_734 rfl (lv_at hl 0 rfl) ?_
  refine lv_iconst (v := nI 2) hx hb dL_law_735 (by decide) ?_
  refine lv_iadd hx hb dL_law_736 ?_
  refine va_sld hx hb hX hbl hbA hS hv2 dL_law_737 ?_
  refine lv_aload_n hx hb dL_law_738 rfl (lv_at hl 3 rfl) ?_
  refine lv_iload_n hx hb dL_law_739 rfl (lv_at hl 0 rfl) ?_
  refine lv_iconst (v := nI 3) hx hb dL_law_740 (by decide) ?_
  refine lv_iadd hx hb dL_law_741 ?_
  refine va_sld hx hb hX hbl hbA hS hv3 dL_law_742 ?_
  have hP := hP.perm List.perm_append_comm
  have hD := hD.perm List.perm_append_comm
  refine zLx ⟨hx, hb, hml, hown, hts⟩ hM (cwV 3 hts gL_law_X9_observe rfl rfl rfl (by decide +kernel) ⟨Nat.le_of_ble_eq_true rfl, Nat.le_of_ble_eq_true rfl⟩) hK hE hA hP hD hS hl.1 (ci := 6) rfl rfl rfl rfl rfl (Nat.le_of_ble_eq_true rfl) ⟨Nat.le_of_ble_eq_true rfl, Nat.le_of_ble_eq_true rfl⟩ dL_law_743 (fun H locs r2 hr2 hP hD hS => ?_)
  have hP := hP.perm List.perm_append_comm
  have hD := hD.perm List.perm_append_comm
  exact lv_icmp_eq (tgt := 976) hx hb dL_law_746 (by decide) (fun _ => hk c2 r2 _ _ _ (hI2 c2 r2 hc2 hr2) hP hD hS hl) (fun q => absurd rfl q)
set_option maxHeartbeats 4000000 in
set_option maxRecDepth 100000 in
theorem law_clearObservations {p : Program} {e : Env} {s : State} {m : MethodId} {below : List Frame} {meth : Method} {c : Code} (l : Launch) {b L : Nat} {xs : Nat → Int32} (hL : L ≤ 2048) (C0 : lw_At p s m meth c b L xs) {G : zG} (hK : va_K G.1 vwCl (zT G) s) (hE : zE G (fun q : Nat => s.heap.size ≤ q) s s.heap) {A : Nat → Nat} {fr fsl : Nat → Option Nat} {ha sa : Nat → zQA} {B : Nat → Nat} (hfr : ∀ i, i < 14 → fr i = some (ha i).1) (hfs : ∀ i, i < 2 → fsl i = some (sa i).1) {i : Nat} (hi : i + 4 ≤ L) (hk : LK p e s m below meth c l b G A fr fsl ha sa B 976 i) : LK p e s m below meth c l b G A fr fsl ha sa B 751 i := by
  intro c1 r1 H locs ls hI hP hD hS hl
  obtain ⟨hx, hb, hr, hml, hown, hts0, hX, hbl, hlocks, hgv⟩ := C0
  have hb : c.code = cL_law := hb
  have hts : ∀ w ∈ wsL_law, w.before #[Value.ref b] s = true := fun w hw => hts0 w (wsL_law_in w hw)
  have hown : s.vm.findClass RL = some m.cls := hown
  have hA : ∀ q : Nat, s.heap.size ≤ q → (fun q : Nat => s.heap.size ≤ q) q := fun _ h => h
  have hbA : ¬ (fun q : Nat => s.heap.size ≤ q) b := Nat.not_le.mpr hbl
  obtain ⟨a9, okC, okM, hC, hM, hI2⟩ := st_clearObservations l G (B := B) hfr hfs hI
  refine lv_aload_n hx hb dL_law_751 rfl (lv_at hl 2 rfl) ?_
  refine zLx ⟨hx, hb, hml, hown, hts⟩ hC (cwV 0 hts gL_law_X8_clearObservations rfl rfl rfl (by decide +kernel) ⟨Nat.le_of_ble_eq_true rfl, Nat.le_of_ble_eq_true rfl⟩) hK hE hA hP hD hS hl.1 (ci := 5) rfl rfl rfl rfl rfl (Nat.le_of_ble_eq_true rfl) ⟨Nat.le_of_ble_eq_true rfl, Nat.le_of_ble_eq_true rfl⟩ dL_law_752 (fun H locs c2 hc2 hP hD hS => ?_)
  refine lv_aload_n hx hb dL_law_755 rfl (lv_at hl 1 rfl) ?_
  have hP := hP.perm List.perm_append_comm
  have hD := hD.perm List.perm_append_comm
  refine zLx ⟨hx, hb, hml, hown, hts⟩ hM (cwV 0 hts gL_law_X9_clearObservations rfl rfl rfl (by decide +kernel) ⟨Nat.le_of_ble_eq_true rfl, Nat.le_of_ble_eq_true rfl⟩) hK hE hA hP hD hS hl.1 (ci := 6) rfl rfl rfl rfl rfl (Nat.le_of_ble_eq_true rfl) ⟨Nat.le_of_ble_eq_true rfl, Nat.le_of_ble_eq_true rfl⟩ dL_law_756 (fun H locs r2 hr2 hP hD hS => ?_)
  have hP := hP.perm List.perm_append_comm
  have hD := hD.perm List.perm_append_comm
  exact lv_icmp_eq (tgt := 976) hx hb dL_law_759 (by decide) (fun _ => hk c2 r2 _ _ _ (hI2 c2 r2 hc2 hr2) hP hD hS hl) (fun q => absurd rfl q)
