/-! the law: each call -/
set_option maxHeartbeats 4000000 in
set_option maxRecDepth 100000 in
theorem law_label {p : Program} {e : Env} {s : State} {m : MethodId} {below : List Frame} {meth : Method} {c : Code} (l : Launch) {b L : Nat} {xs : Nat → Int32} (hL : L ≤ 2048) (C0 : lw_At p s m meth c b L xs) {G : zG} (hK : va_K G.1 vwCl (zT G) s) (hE : zE G (fun q : Nat => s.heap.size ≤ q) s s.heap) {A : Nat → Nat} {fr fsl : Nat → Option Nat} {ha sa : Nat → zQA} {B : Nat → Nat} (hfr : ∀ i, i < 14 → fr i = some (ha i).1) (hfs : ∀ i, i < 2 → fsl i = some (sa i).1) {i : Nat} (hi : i + 4 ≤ L) (hk : LK p e s m below meth c l b G A fr fsl ha sa B 976 i) : LK p e s m below meth c l b G A fr fsl ha sa B 306 i := by
  intro c1 r1 H locs ls hI hP hD hS hl
  obtain ⟨hx, hb, hr, hml, hown, hts0, hX, hbl, hlocks, hgv⟩ := C0
  have hb : c.code = cL_law := hb
  have hts : ∀ w ∈ wsL_law, w.before #[Value.ref b] s = true := fun w hw => hts0 w (wsL_law_in w hw)
  have hown : s.vm.findClass RL = some m.cls := hown
  have hA : ∀ q : Nat, s.heap.size ≤ q → (fun q : Nat => s.heap.size ≤ q) q := fun _ h => h
  have hbA : ¬ (fun q : Nat => s.heap.size ≤ q) b := Nat.not_le.mpr hbl
  obtain ⟨a9, okC, okM, hC, hM, hI2⟩ := st_label l G (B := B) hfr hfs hI (xs (nI i + nI 1).toNatClampNeg)
  have hv1 : vp_in (nI i + nI 1) L := lw_in (by omega) hL
  refine lv_aload_n hx hb dL_law_306 rfl (lv_at hl 2 rfl) ?_
  refine lv_aload_n hx hb dL_law_307 rfl (lv_at hl 3 rfl) ?_
  refine lv_iload_n hx hb dL_law_308 rfl (lv_at hl 0 rfl) ?_
  refine lv_iconst (v := nI 1) hx hb dL_law_309 (by decide) ?_
  refine lv_iadd hx hb dL_law_310 ?_
  refine va_sld hx hb hX hbl hbA hS hv1 dL_law_311 ?_
  refine zLx ⟨hx, hb, hml, hown, hts⟩ hC (cwV 1 hts gL_law_X8_label rfl rfl rfl (by decide +kernel) ⟨Nat.le_of_ble_eq_true rfl, Nat.le_of_ble_eq_true rfl⟩) hK hE hA hP hD hS hl.1 (ci := 5) rfl rfl rfl rfl rfl (Nat.le_of_ble_eq_true rfl) ⟨Nat.le_of_ble_eq_true rfl, Nat.le_of_ble_eq_true rfl⟩ dL_law_312 (fun H locs c2 hc2 hP hD hS => ?_)
  refine lv_aload_n hx hb dL_law_315 rfl (lv_at hl 1 rfl) ?_
  refine lv_aload_n hx hb dL_law_316 rfl (lv_at hl 3 rfl) ?_
  refine lv_iload_n hx hb dL_law_317 rfl (lv_at hl 0 rfl) ?_
  refine lv_iconst (v := nI 1) hx hb dL_law_318 (by decide) ?_
  refine lv_iadd hx hb dL_law_319 ?_
  refine va_sld hx hb hX hbl hbA hS hv1 dL_law_320 ?_
  have hP := hP.perm List.perm_append_comm
  have hD := hD.perm List.perm_append_comm
  refine zLx ⟨hx, hb, hml, hown, hts⟩ hM (cwV 1 hts gL_law_X9_label rfl rfl rfl (by decide +kernel) ⟨Nat.le_of_ble_eq_true rfl, Nat.le_of_ble_eq_true rfl⟩) hK hE hA hP hD hS hl.1 (ci := 6) rfl rfl rfl rfl rfl (Nat.le_of_ble_eq_true rfl) ⟨Nat.le_of_ble_eq_true rfl, Nat.le_of_ble_eq_true rfl⟩ dL_law_321 (fun H locs r2 hr2 hP hD hS => ?_)
  have hP := hP.perm List.perm_append_comm
  have hD := hD.perm List.perm_append_comm
  exact lv_icmp_eq (tgt := 976) hx hb dL_law_324 (by decide) (fun _ => hk c2 r2 _ _ _ (hI2 c2 r2 hc2 hr2) hP hD hS hl) (fun q => absurd rfl q)
set_option maxHeartbeats 4000000 in
set_option maxRecDepth 100000 in
theorem law_addEdge {p : Program} {e : Env} {s : State} {m : MethodId} {below : List Frame} {meth : Method} {c : Code} (l : Launch) {b L : Nat} {xs : Nat → Int32} (hL : L ≤ 2048) (C0 : lw_At p s m meth c b L xs) {G : zG} (hK : va_K G.1 vwCl (zT G) s) (hE : zE G (fun q : Nat => s.heap.size ≤ q) s s.heap) {A : Nat → Nat} {fr fsl : Nat → Option Nat} {ha sa : Nat → zQA} {B : Nat → Nat} (hfr : ∀ i, i < 14 → fr i = some (ha i).1) (hfs : ∀ i, i < 2 → fsl i = some (sa i).1) {i : Nat} (hi : i + 4 ≤ L) (hk : LK p e s m below meth c l b G A fr fsl ha sa B 976 i) : LK p e s m below meth c l b G A fr fsl ha sa B 329 i := by
  intro c1 r1 H locs ls hI hP hD hS hl
  obtain ⟨hx, hb, hr, hml, hown, hts0, hX, hbl, hlocks, hgv⟩ := C0
  have hb : c.code = cL_law := hb
  have hts : ∀ w ∈ wsL_law, w.before #[Value.ref b] s = true := fun w hw => hts0 w (wsL_law_in w hw)
  have hown : s.vm.findClass RL = some m.cls := hown
  have hA : ∀ q : Nat, s.heap.size ≤ q → (fun q : Nat => s.heap.size ≤ q) q := fun _ h => h
  have hbA : ¬ (fun q : Nat => s.heap.size ≤ q) b := Nat.not_le.mpr hbl
  obtain ⟨a9, okC, okM, hC, hM, hI2⟩ := st_addEdge l G (B := B) hfr hfs hI (xs (nI i + nI 1).toNatClampNeg) (xs (nI i + nI 2).toNatClampNeg) (xs (nI i + nI 3).toNatClampNeg)
  have hv1 : vp_in (nI i + nI 1) L := lw_in (by omega) hL
  have hv2 : vp_in (nI i + nI 2) L := lw_in (by omega) hL
  have hv3 : vp_in (nI i + nI 3) L := lw_in (by omega) hL
  refine lv_aload_n hx hb dL_law_329 rfl (lv_at hl 2 rfl) ?_
  refine lv_aload_n hx hb dL_law_330 rfl (lv_at hl 3 rfl) ?_
  refine lv_iload_n hx hb dL_law_331 rfl (lv_at hl 0 rfl) ?_
  refine lv_iconst (v := nI 1) hx hb dL_law_332 (by decide) ?_
  refine lv_iadd hx hb dL_law_333 ?_
  refine va_sld hx hb hX hbl hbA hS hv1 dL_law_334 ?_
  refine lv_aload_n hx hb dL_law_335 rfl (lv_at hl 3 rfl) ?_
  refine lv_iload_n hx hb dL_law_336 rfl (lv_at hl 0 rfl) ?_
  refine lv_iconst (v := nI 2) hx hb dL_law_337 (by decide) ?_
  refine lv_iadd hx hb dL_law_338 ?_
  refine va_sld hx hb hX hbl hbA hS hv2 dL_law_339 ?_
  refine lv_aload_n hx hb dL_law_340 rfl (lv_at hl 3 rfl) ?_
  refine lv_iload_n hx hb dL_law_341 rfl (lv_at hl 0 rfl) ?_
  refine lv_iconst (v := nI 3) hx hb dL_law_342 (by decide) ?_
  refine lv_iadd hx hb dL_law_343 ?_
  refine va_sld hx hb hX hbl hbA hS hv3 dL_law_344 ?_
  refine zLx ⟨hx, hb, hml, hown, hts⟩ hC (cwV 3 hts gL_law_X8_addEdge rfl rfl rfl (by decide +kernel) ⟨Nat.le_of_ble_eq_true rfl, Nat.le_of_ble_eq_true rfl⟩) hK hE hA hP hD hS hl.1 (ci := 5) rfl rfl rfl rfl rfl (Nat.le_of_ble_eq_true rfl) ⟨Nat.le_of_ble_eq_true rfl, Nat.le_of_ble_eq_true rfl⟩ dL_law_345 (fun H locs c2 hc2 hP hD hS => ?_)
  refine lv_aload_n hx hb dL_law_348 rfl (lv_at hl 1 rfl) ?_
  refine lv_aload_n hx hb dL_law_349 rfl (lv_at hl 3 rfl) ?_
  refine lv_iload_n hx hb dL_law_350 rfl (lv_at hl 0 rfl) ?_
  refine lv_iconst (v := nI 1) hx hb dL_law_351 (by decide) ?_
  refine lv_iadd hx hb dL_law_352 ?_
  refine va_sld hx hb hX hbl hbA hS hv1 dL_law_353 ?_
  refine lv_aload_n hx hb dL_law_354 rfl (lv_at hl 3 rfl) ?_
  refine lv_iload_n hx hb dL_law_355 rfl (lv_at hl 0 rfl) ?_
  refine lv_iconst (v := nI 2) hx hb dL_law_356 (by decide) ?_
  refine lv_iadd hx hb dL_law_357 ?_
  refine va_sld hx hb hX hbl hbA hS hv2 dL_law_358 ?_
  refine lv_aload_n hx hb dL_law_359 rfl (lv_at hl 3 rfl) ?_
  refine lv_iload_n hx hb dL_law_360 rfl (lv_at hl 0 rfl) ?_
  refine lv_iconst (v := nI 3) hx hb dL_law_361 (by decide) ?_
  refine lv_iadd hx hb dL_law_362 ?_
  refine va_sld hx hb hX hbl hbA hS hv3 dL_law_363 ?_
  have hP := hP.perm List.perm_append_comm
  have hD := hD.perm List.perm_append_comm
  refine zLx ⟨hx, hb, hml, hown, hts⟩ hM (cwV 3 hts gL_law_X9_addEdge rfl rfl rfl (by decide +kernel) ⟨Nat.le_of_ble_eq_true rfl, Nat.le_of_ble_eq_true rfl⟩) hK hE hA hP hD hS hl.1 (ci := 6) rfl rfl rfl rfl rfl (Nat.le_of_ble_eq_true rfl) ⟨Nat.le_of_ble_eq_true rfl, Nat.le_of_ble_eq_true rfl⟩ dL_law_364 (fun H locs r2 hr2 hP hD hS => ?_)
  have hP := hP.perm List.perm_append_comm
  have hD := hD.perm List.perm_append_comm
  exact lv_icmp_eq (tgt := 976) hx hb dL_law_367 (by decide) (fun _ => hk c2 r2 _ _ _ (hI2 c2 r2 hc2 hr2) hP hD hS hl) (fun q => absurd rfl q)
set_option maxHeartbeats 4000000 in
set_option maxRecDepth 100000 in
theorem law_removeEdge {p : Program} {e : Env} {s : State} {m : MethodId} {below : List Frame} {meth : Method} {c : Code} (l : Launch) {b L : Nat} {xs : Nat → Int32} (hL : L ≤ 2048) (C0 : lw_At p s m meth c b L xs) {G : zG} (hK : va_K G.1 vwCl (zT G) s) (hE : zE G (fun q : Nat => s.heap.size ≤ q) s s.heap) {A : Nat → Nat} {fr fsl : Nat → Option Nat} {ha sa : Nat → zQA} {B : Nat → Nat} (hfr : ∀ i, i < 14 → fr i = some (ha i).1) (hfs : ∀ i, i < 2 → fsl i = some (sa i).1) {i : Nat} (hi : i + 4 ≤ L) (hk : LK p e s m below meth c l b G A fr fsl ha sa B 976 i) : LK p e s m below meth c l b G A fr fsl ha sa B 372 i := by
  intro c1 r1 H locs ls hI hP hD hS hl
  obtain ⟨hx, hb, hr, hml, hown, hts0, hX, hbl, hlocks, hgv⟩ := C0
  have hb : c.code = cL_law := hb
  have hts : ∀ w ∈ wsL_law, w.before #[Value.ref b] s = true := fun w hw => hts0 w (wsL_law_in w hw)
  have hown : s.vm.findClass RL = some m.cls := hown
  have hA : ∀ q : Nat, s.heap.size ≤ q → (fun q : Nat => s.heap.size ≤ q) q := fun _ h => h
  have hbA : ¬ (fun q : Nat => s.heap.size ≤ q) b := Nat.not_le.mpr hbl
  obtain ⟨a9, okC, okM, hC, hM, hI2⟩ := st_removeEdge l G (B := B) hfr hfs hI (xs (nI i + nI 1).toNatClampNeg)
  have hv1 : vp_in (nI i + nI 1) L := lw_in (by omega) hL
  refine lv_aload_n hx hb dL_law_372 rfl (lv_at hl 2 rfl) ?_
  refine lv_aload_n hx hb dL_law_373 rfl (lv_at hl 3 rfl) ?_
  refine lv_iload_n hx hb dL_law_374 rfl (lv_at hl 0 rfl) ?_
  refine lv_iconst (v := nI 1) hx hb dL_law_375 (by decide) ?_
  refine lv_iadd hx hb dL_law_376 ?_
  refine va_sld hx hb hX hbl hbA hS hv1 dL_law_377 ?_
  refine zLx ⟨hx, hb, hml, hown, hts⟩ hC (cwV 1 hts gL_law_X8_removeEdge rfl rfl rfl (by decide +kernel) ⟨Nat.le_of_ble_eq_true rfl, Nat.le_of_ble_eq_true rfl⟩) hK hE hA hP hD hS hl.1 (ci := 5) rfl rfl rfl rfl rfl (Nat.le_of_ble_eq_true rfl) ⟨Nat.le_of_ble_eq_true rfl, Nat.le_of_ble_eq_true rfl⟩ dL_law_378 (fun H locs c2 hc2 hP hD hS => ?_)
  refine lv_aload_n hx hb dL_law_381 rfl (lv_at hl 1 rfl) ?_
  refine lv_aload_n hx hb dL_law_382 rfl (lv_at hl 3 rfl) ?_
  refine lv_iload_n hx hb dL_law_383 rfl (lv_at hl 0 rfl) ?_
  refine lv_iconst (v := nI 1) hx hb dL_law_384 (by decide) ?_
  refine lv_iadd hx hb dL_law_385 ?_
  refine va_sld hx hb hX hbl hbA hS hv1 dL_law_386 ?_
  have hP := hP.perm List.perm_append_comm
  have hD := hD.perm List.perm_append_comm
  refine zLx ⟨hx, hb, hml, hown, hts⟩ hM (cwV 1 hts gL_law_X9_removeEdge rfl rfl rfl (by decide +kernel) ⟨Nat.le_of_ble_eq_true rfl, Nat.le_of_ble_eq_true rfl⟩) hK hE hA hP hD hS hl.1 (ci := 6) rfl rfl rfl rfl rfl (Nat.le_of_ble_eq_true rfl) ⟨Nat.le_of_ble_eq_true rfl, Nat.le_of_ble_eq_true rfl⟩ dL_law_387 (fun H locs r2 hr2 hP hD hS => ?_)
  have hP := hP.perm List.perm_append_comm
  have hD := hD.perm List.perm_append_comm
  exact lv_icmp_eq (tgt := 976) hx hb dL_law_390 (by decide) (fun _ => hk c2 r2 _ _ _ (hI2 c2 r2 hc2 hr2) hP hD hS hl) (fun q => absurd rfl q)
set_option maxHeartbeats 4000000 in
set_option maxRecDepth 100000 in
theorem law_setLabel {p : Program} {e : Env} {s : State} {m : MethodId} {below : List Frame} {meth : Method} {c : Code} (l : Launch) {b L : Nat} {xs : Nat → Int32} (hL : L ≤ 2048) (C0 : lw_At p s m meth c b L xs) {G : zG} (hK : va_K G.1 vwCl (zT G) s) (hE : zE G (fun q : Nat => s.heap.size ≤ q) s s.heap) {A : Nat → Nat} {fr fsl : Nat → Option Nat} {ha sa : Nat → zQA} {B : Nat → Nat} (hfr : ∀ i, i < 14 → fr i = some (ha i).1) (hfs : ∀ i, i < 2 → fsl i = some (sa i).1) {i : Nat} (hi : i + 4 ≤ L) (hk : LK p e s m below meth c l b G A fr fsl ha sa B 976 i) : LK p e s m below meth c l b G A fr fsl ha sa B 395 i := by
  intro c1 r1 H locs ls hI hP hD hS hl
  obtain ⟨hx, hb, hr, hml, hown, hts0, hX, hbl, hlocks, hgv⟩ := C0
  have hb : c.code = cL_law := hb
  have hts : ∀ w ∈ wsL_law, w.before #[Value.ref b] s = true := fun w hw => hts0 w (wsL_law_in w hw)
  have hown : s.vm.findClass RL = some m.cls := hown
  have hA : ∀ q : Nat, s.heap.size ≤ q → (fun q : Nat => s.heap.size ≤ q) q := fun _ h => h
  have hbA : ¬ (fun q : Nat => s.heap.size ≤ q) b := Nat.not_le.mpr hbl
  obtain ⟨a9, okC, okM, hC, hM, hI2⟩ := st_setLabel l G (B := B) hfr hfs hI (xs (nI i + nI 1).toNatClampNeg) (xs (nI i + nI 2).toNatClampNeg)
  have hv1 : vp_in (nI i + nI 1) L := lw_in (by omega) hL
  have hv2 : vp_in (nI i + nI 2) L := lw_in (by omega) hL
  refine lv_aload_n hx hb dL_law_395 rfl (lv_at hl 2 rfl) ?_
  refine lv_aload_n hx hb dL_law_396 rfl (lv_at hl 3 rfl) ?_
  refine lv_iload_n hx hb dL_law_397 rfl (lv_at hl 0 rfl) ?_
  refine lv_iconst (v := nI 1) hx hb dL_law_398 (by decide) ?_
  refine lv_iadd hx hb dL_law_399 ?_
  refine va_sld hx hb hX hbl hbA hS hv1 dL_law_400 ?_
  refine lv_aload_n hx hb dL_law_401 rfl (lv_at hl 3 rfl) ?_
  refine lv_iload_n hx hb dL_law_402 rfl (lv_at hl 0 rfl) ?_
  refine lv_iconst (v := nI 2) hx hb dL_law_403 (by decide) ?_
  refine lv_iadd hx hb dL_law_404 ?_
  refine va_sld hx hb hX hbl hbA hS hv2 dL_law_405 ?_
  refine zLx ⟨hx, hb, hml, hown, hts⟩ hC (cwV 2 hts gL_law_X8_setLabel rfl rfl rfl (by decide +kernel) ⟨Nat.le_of_ble_eq_true rfl, Nat.le_of_ble_eq_true rfl⟩) hK hE hA hP hD hS hl.1 (ci := 5) rfl rfl rfl rfl rfl (Nat.le_of_ble_eq_true rfl) ⟨Nat.le_of_ble_eq_true rfl, Nat.le_of_ble_eq_true rfl⟩ dL_law_406 (fun H locs c2 hc2 hP hD hS => ?_)
  refine lv_aload_n hx hb dL_law_409 rfl (lv_at hl 1 rfl) ?_
  refine lv_aload_n hx hb dL_law_410 rfl (lv_at hl 3 rfl) ?_
  refine lv_iload_n hx hb dL_law_411 rfl (lv_at hl 0 rfl) ?_
  refine lv_iconst (v := nI 1) hx hb dL_law_412 (by decide) ?_
  refine lv_iadd hx hb dL_law_413 ?_
  refine va_sld hx hb hX hbl hbA hS hv1 dL_law_414 ?_
  refine lv_aload_n hx hb dL_law_415 rfl (lv_at hl 3 rfl) ?_
  refine lv_iload_n hx hb dL_law_416 rfl (lv_at hl 0 rfl) ?_
  refine lv_iconst (v := nI 2) hx hb dL_law_417 (by decide) ?_
  refine lv_iadd hx hb dL_law_418 ?_
  refine va_sld hx hb hX hbl hbA hS hv2 dL_law_419 ?_
  have hP := hP.perm List.perm_append_comm
  have hD := hD.perm List.perm_append_comm
  refine zLx ⟨hx, hb, hml, hown, hts⟩ hM (cwV 2 hts gL_law_X9_setLabel rfl rfl rfl (by decide +kernel) ⟨Nat.le_of_ble_eq_true rfl, Nat.le_of_ble_eq_true rfl⟩) hK hE hA hP hD hS hl.1 (ci := 6) rfl rfl rfl rfl rfl (Nat.le_of_ble_eq_true rfl) ⟨Nat.le_of_ble_eq_true rfl, Nat.le_of_ble_eq_true rfl⟩ dL_law_420 (fun H locs r2 hr2 hP hD hS => ?_)
  have hP := hP.perm List.perm_append_comm
  have hD := hD.perm List.perm_append_comm
  exact lv_icmp_eq (tgt := 976) hx hb dL_law_423 (by decide) (fun _ => hk c2 r2 _ _ _ (hI2 c2 r2 hc2 hr2) hP hD hS hl) (fun q => absurd rfl q)
set_option maxHeartbeats 4000000 in
set_option maxRecDepth 100000 in
theorem law_undo {p : Program} {e : Env} {s : State} {m : MethodId} {below : List Frame} {meth : Method} {c : Code} (l : Launch) {b L : Nat} {xs : Nat → Int32} (hL : L ≤ 2048) (C0 : lw_At p s m meth c b L xs) {G : zG} (hK : va_K G.1 vwCl (zT G) s) (hE : zE G (fun q : Nat => s.heap.size ≤ q) s s.heap) {A : Nat → Nat} {fr fsl : Nat → Option Nat} {ha sa : Nat → zQA} {B : Nat → Nat} (hfr : ∀ i, i < 14 → fr i = some (ha i).1) (hfs : ∀ i, i < 2 → fsl i = some (sa i).1) {i : Nat} (hi : i + 4 ≤ L) (hk : LK p e s m below meth c l b G A fr fsl ha sa B 976 i) : LK p e s m below meth c l b G A fr fsl ha sa B 428 i := by
  intro c1 r1 H locs ls hI hP hD hS hl
  obtain ⟨hx, hb, hr, hml, hown, hts0, hX, hbl, hlocks, hgv⟩ := C0
  have hb : c.code = cL_law := hb
  have hts : ∀ w ∈ wsL_law, w.before #[Value.ref b] s = true := fun w hw => hts0 w (wsL_law_in w hw)
  have hown : s.vm.findClass RL = some m.cls := hown
  have hA : ∀ q : Nat, s.heap.size ≤ q → (fun q : Nat => s.heap.size ≤ q) q := fun _ h => h
  have hbA : ¬ (fun q : Nat => s.heap.size ≤ q) b := Nat.not_le.mpr hbl
  obtain ⟨a9, okC, okM, hC, hM, hI2⟩ := st_undo l G (B := B) hfr hfs hI
  refine lv_aload_n hx hb dL_law_428 rfl (lv_at hl 2 rfl) ?_
  refine zLx ⟨hx, hb, hml, hown, hts⟩ hC (cwV 0 hts gL_law_X8_undo rfl rfl rfl (by decide +kernel) ⟨Nat.le_of_ble_eq_true rfl, Nat.le_of_ble_eq_true rfl⟩) hK hE hA hP hD hS hl.1 (ci := 5) rfl rfl rfl rfl rfl (Nat.le_of_ble_eq_true rfl) ⟨Nat.le_of_ble_eq_true rfl, Nat.le_of_ble_eq_true rfl⟩ dL_law_429 (fun H locs c2 hc2 hP hD hS => ?_)
  refine lv_aload_n hx hb dL_law_432 rfl (lv_at hl 1 rfl) ?_
  have hP := hP.perm List.perm_append_comm
  have hD := hD.perm List.perm_append_comm
  refine zLx ⟨hx, hb, hml, hown, hts⟩ hM (cwV 0 hts gL_law_X9_undo rfl rfl rfl (by decide +kernel) ⟨Nat.le_of_ble_eq_true rfl, Nat.le_of_ble_eq_true rfl⟩) hK hE hA hP hD hS hl.1 (ci := 6) rfl rfl rfl rfl rfl (Nat.le_of_ble_eq_true rfl) ⟨Nat.le_of_ble_eq_true rfl, Nat.le_of_ble_eq_true rfl⟩ dL_law_433 (fun H locs r2 hr2 hP hD hS => ?_)
  have hP := hP.perm List.perm_append_comm
  have hD := hD.perm List.perm_append_comm
  exact lv_icmp_eq (tgt := 976) hx hb dL_law_436 (by decide) (fun _ => hk c2 r2 _ _ _ (hI2 c2 r2 hc2 hr2) hP hD hS hl) (fun q => absurd rfl q)
set_option maxHeartbeats 4000000 in
set_option maxRecDepth 100000 in
theorem law_reachableFrom {p : Program} {e : Env} {s : State} {m : MethodId} {below : List Frame} {meth : Method} {c : Code} (l : Launch) {b L : Nat} {xs : Nat → Int32} (hL : L ≤ 2048) (C0 : lw_At p s m meth c b L xs) {G : zG} (hK : va_K G.1 vwCl (zT G) s) (hE : zE G (fun q : Nat => s.heap.size ≤ q) s s.heap) {A : Nat → Nat} {fr fsl : Nat → Option Nat} {ha sa : Nat → zQA} {B : Nat → Nat} (hfr : ∀ i, i < 14 → fr i = some (ha i).1) (hfs : ∀ i, i < 2 → fsl i = some (sa i).1) {i : Nat} (hi : i + 4 ≤ L) (hk : LK p e s m below meth c l b G A fr fsl ha sa B 976 i) : LK p e s m below meth c l b G A fr fsl ha sa B 441 i := by
  intro c1 r1 H locs ls hI hP hD hS hl
  obtain ⟨hx, hb, hr, hml, hown, hts0, hX, hbl, hlocks, hgv⟩ := C0
  have hb : c.code = cL_law := hb
  have hts : ∀ w ∈ wsL_law, w.before #[Value.ref b] s = true := fun w hw => hts0 w (wsL_law_in w hw)
  have hown : s.vm.findClass RL = some m.cls := hown
  have hA : ∀ q : Nat, s.heap.size ≤ q → (fun q : Nat => s.heap.size ≤ q) q := fun _ h => h
  have hbA : ¬ (fun q : Nat => s.heap.size ≤ q) b := Nat.not_le.mpr hbl
  obtain ⟨a9, okC, okM, hC, hM, hI2⟩ := st_reachableFrom l G (B := B) hfr hfs hI (xs (nI i + nI 1).toNatClampNeg)
  have hv1 : vp_in (nI i + nI 1) L := lw_in (by omega) hL
  refine lv_aload_n hx hb dL_law_441 rfl (lv_at hl 2 rfl) ?_
  refine lv_aload_n hx hb dL_law_442 rfl (lv_at hl 3 rfl) ?_
  refine lv_iload_n hx hb dL_law_443 rfl (lv_at hl 0 rfl) ?_
  refine lv_iconst (v := nI 1) hx hb dL_law_444 (by decide) ?_
  refine lv_iadd hx hb dL_law_445 ?_
  refine va_sld hx hb hX hbl hbA hS hv1 dL_law_446 ?_
  refine zLx ⟨hx, hb, hml, hown, hts⟩ hC (cwV 1 hts gL_law_X8_reachableFrom rfl rfl rfl (by decide +kernel) ⟨Nat.le_of_ble_eq_true rfl, Nat.le_of_ble_eq_true rfl⟩) hK hE hA hP hD hS hl.1 (ci := 5) rfl rfl rfl rfl rfl (Nat.le_of_ble_eq_true rfl) ⟨Nat.le_of_ble_eq_true rfl, Nat.le_of_ble_eq_true rfl⟩ dL_law_447 (fun H locs c2 hc2 hP hD hS => ?_)
  refine lv_aload_n hx hb dL_law_450 rfl (lv_at hl 1 rfl) ?_
  refine lv_aload_n hx hb dL_law_451 rfl (lv_at hl 3 rfl) ?_
  refine lv_iload_n hx hb dL_law_452 rfl (lv_at hl 0 rfl) ?_
  refine lv_iconst (v := nI 1) hx hb dL_law_453 (by decide) ?_
  refine lv_iadd hx hb dL_law_454 ?_
  refine va_sld hx hb hX hbl hbA hS hv1 dL_law_455 ?_
  have hP := hP.perm List.perm_append_comm
  have hD := hD.perm List.perm_append_comm
  refine zLx ⟨hx, hb, hml, hown, hts⟩ hM (cwV 1 hts gL_law_X9_reachableFrom rfl rfl rfl (by decide +kernel) ⟨Nat.le_of_ble_eq_true rfl, Nat.le_of_ble_eq_true rfl⟩) hK hE hA hP hD hS hl.1 (ci := 6) rfl rfl rfl rfl rfl (Nat.le_of_ble_eq_true rfl) ⟨Nat.le_of_ble_eq_true rfl, Nat.le_of_ble_eq_true rfl⟩ dL_law_456 (fun H locs r2 hr2 hP hD hS => ?_)
  have hP := hP.perm List.perm_append_comm
  have hD := hD.perm List.perm_append_comm
  exact lv_icmp_eq (tgt := 976) hx hb dL_law_459 (by decide) (fun _ => hk c2 r2 _ _ _ (hI2 c2 r2 hc2 hr2) hP hD hS hl) (fun q => absurd rfl q)
set_option maxHeartbeats 4000000 in
set_option maxRecDepth 100000 in
theorem law_pairCount {p : Program} {e : Env} {s : State} {m : MethodId} {below : List Frame} {meth : Method} {c : Code} (l : Launch) {b L : Nat} {xs : Nat → Int32} (hL : L ≤ 2048) (C0 : lw_At p s m meth c b L xs) {G : zG} (hK : va_K G.1 vwCl (zT G) s) (hE : zE G (fun q : Nat => s.heap.size ≤ q) s s.heap) {A : Nat → Nat} {fr fsl : Nat → Option Nat} {ha sa : Nat → zQA} {B : Nat → Nat} (hfr : ∀ i, i < 14 → fr i = some (ha i).1) (hfs : ∀ i, i < 2 → fsl i = some (sa i).1) {i : Nat} (hi : i + 4 ≤ L) (hk : LK p e s m below meth c l b G A fr fsl ha sa B 976 i) : LK p e s m below meth c l b G A fr fsl ha sa B 464 i := by
  intro c1 r1 H locs ls hI hP hD hS hl
  obtain ⟨hx, hb, hr, hml, hown, hts0, hX, hbl, hlocks, hgv⟩ := C0
  have hb : c.code = cL_law := hb
  have hts : ∀ w ∈ wsL_law, w.before #[Value.ref b] s = true := fun w hw => hts0 w (wsL_law_in w hw)
  have hown : s.vm.findClass RL = some m.cls := hown
  have hA : ∀ q : Nat, s.heap.size ≤ q → (fun q : Nat => s.heap.size ≤ q) q := fun _ h => h
  have hbA : ¬ (fun q : Nat => s.heap.size ≤ q) b := Nat.not_le.mpr hbl
  obtain ⟨a9, okC, okM, hC, hM, hI2⟩ := st_pairCount l G (B := B) hfr hfs hI
  refine lv_aload_n hx hb dL_law_464 rfl (lv_at hl 2 rfl) ?_
  refine zLx ⟨hx, hb, hml, hown, hts⟩ hC (cwV 0 hts gL_law_X8_pairCount rfl rfl rfl (by decide +kernel) ⟨Nat.le_of_ble_eq_true rfl, Nat.le_of_ble_eq_true rfl⟩) hK hE hA hP hD hS hl.1 (ci := 5) rfl rfl rfl rfl rfl (Nat.le_of_ble_eq_true rfl) ⟨Nat.le_of_ble_eq_true rfl, Nat.le_of_ble_eq_true rfl⟩ dL_law_465 (fun H locs c2 hc2 hP hD hS => ?_)
  refine lv_aload_n hx hb dL_law_468 rfl (lv_at hl 1 rfl) ?_
  have hP := hP.perm List.perm_append_comm
  have hD := hD.perm List.perm_append_comm
  refine zLx ⟨hx, hb, hml, hown, hts⟩ hM (cwV 0 hts gL_law_X9_pairCount rfl rfl rfl (by decide +kernel) ⟨Nat.le_of_ble_eq_true rfl, Nat.le_of_ble_eq_true rfl⟩) hK hE hA hP hD hS hl.1 (ci := 6) rfl rfl rfl rfl rfl (Nat.le_of_ble_eq_true rfl) ⟨Nat.le_of_ble_eq_true rfl, Nat.le_of_ble_eq_true rfl⟩ dL_law_469 (fun H locs r2 hr2 hP hD hS => ?_)
  have hP := hP.perm List.perm_append_comm
  have hD := hD.perm List.perm_append_comm
  exact lv_icmp_eq (tgt := 976) hx hb dL_law_472 (by decide) (fun _ => hk c2 r2 _ _ _ (hI2 c2 r2 hc2 hr2) hP hD hS hl) (fun q => absurd rfl q)
set_option maxHeartbeats 4000000 in
set_option maxRecDepth 100000 in
theorem law_distance {p : Program} {e : Env} {s : State} {m : MethodId} {below : List Frame} {meth : Method} {c : Code} (l : Launch) {b L : Nat} {xs : Nat → Int32} (hL : L ≤ 2048) (C0 : lw_At p s m meth c b L xs) {G : zG} (hK : va_K G.1 vwCl (zT G) s) (hE : zE G (fun q : Nat => s.heap.size ≤ q) s s.heap) {A : Nat → Nat} {fr fsl : Nat → Option Nat} {ha sa : Nat → zQA} {B : Nat → Nat} (hfr : ∀ i, i < 14 → fr i = some (ha i).1) (hfs : ∀ i, i < 2 → fsl i = some (sa i).1) {i : Nat} (hi : i + 4 ≤ L) (hk : LK p e s m below meth c l b G A fr fsl ha sa B 976 i) : LK p e s m below meth c l b G A fr fsl ha sa B 477 i := by
  intro c1 r1 H locs ls hI hP hD hS hl
  obtain ⟨hx, hb, hr, hml, hown, hts0, hX, hbl, hlocks, hgv⟩ := C0
  have hb : c.code = cL_law := hb
  have hts : ∀ w ∈ wsL_law, w.before #[Value.ref b] s = true := fun w hw => hts0 w (wsL_law_in w hw)
  have hown : s.vm.findClass RL = some m.cls := hown
  have hA : ∀ q : Nat, s.heap.size ≤ q → (fun q : Nat => s.heap.size ≤ q) q := fun _ h => h
  have hbA : ¬ (fun q : Nat => s.heap.size ≤ q) b := Nat.not_le.mpr hbl
  obtain ⟨a9, okC, okM, hC, hM, hI2⟩ := st_distance l G (B := B) hfr hfs hI (xs (nI i + nI 1).toNatClampNeg) (xs (nI i + nI 2).toNatClampNeg)
  have hv1 : vp_in (nI i + nI 1) L := lw_in (by omega) hL
  have hv2 : vp_in (nI i + nI 2) L := lw_in (by omega) hL
  refine lv_aload_n hx hb dL_law_477 rfl (lv_at hl 2 rfl) ?_
  refine lv_aload_n hx hb dL_law_478 rfl (lv_at hl 3 rfl) ?_
  refine lv_iload_n hx hb dL_law_479 rfl (lv_at hl 0 rfl) ?_
  refine lv_iconst (v := nI 1) hx hb dL_law_480 (by decide) ?_
  refine lv_iadd hx hb dL_law_481 ?_
  refine va_sld hx hb hX hbl hbA hS hv1 dL_law_482 ?_
  refine lv_aload_n hx hb dL_law_483 rfl (lv_at hl 3 rfl) ?_
  refine lv_iload_n hx hb dL_law_484 rfl (lv_at hl 0 rfl) ?_
  refine lv_iconst (v := nI 2) hx hb dL_law_485 (by decide) ?_
  refine lv_iadd hx hb dL_law_486 ?_
  refine va_sld hx hb hX hbl hbA hS hv2 dL_law_487 ?_
  refine zLx ⟨hx, hb, hml, hown, hts⟩ hC (cwV 2 hts gL_law_X8_distance rfl rfl rfl (by decide +kernel) ⟨Nat.le_of_ble_eq_true rfl, Nat.le_of_ble_eq_true rfl⟩) hK hE hA hP hD hS hl.1 (ci := 5) rfl rfl rfl rfl rfl (Nat.le_of_ble_eq_true rfl) ⟨Nat.le_of_ble_eq_true rfl, Nat.le_of_ble_eq_true rfl⟩ dL_law_488 (fun H locs c2 hc2 hP hD hS => ?_)
  refine lv_aload_n hx hb dL_law_491 rfl (lv_at hl 1 rfl) ?_
  refine lv_aload_n hx hb dL_law_492 rfl (lv_at hl 3 rfl) ?_
  refine lv_iload_n hx hb dL_law_493 rfl (lv_at hl 0 rfl) ?_
  refine lv_iconst (v := nI 1) hx hb dL_law_494 (by decide) ?_
  refine lv_iadd hx hb dL_law_495 ?_
  refine va_sld hx hb hX hbl hbA hS hv1 dL_law_496 ?_
  refine lv_aload_n hx hb dL_law_497 rfl (lv_at hl 3 rfl) ?_
  refine lv_iload_n hx hb dL_law_498 rfl (lv_at hl 0 rfl) ?_
  refine lv_iconst (v := nI 2) hx hb dL_law_499 (by decide) ?_
  refine lv_iadd hx hb dL_law_500 ?_
  refine va_sld hx hb hX hbl hbA hS hv2 dL_law_501 ?_
  have hP := hP.perm List.perm_append_comm
  have hD := hD.perm List.perm_append_comm
  refine zLx ⟨hx, hb, hml, hown, hts⟩ hM (cwV 2 hts gL_law_X9_distance rfl rfl rfl (by decide +kernel) ⟨Nat.le_of_ble_eq_true rfl, Nat.le_of_ble_eq_true rfl⟩) hK hE hA hP hD hS hl.1 (ci := 6) rfl rfl rfl rfl rfl (Nat.le_of_ble_eq_true rfl) ⟨Nat.le_of_ble_eq_true rfl, Nat.le_of_ble_eq_true rfl⟩ dL_law_502 (fun H locs r2 hr2 hP hD hS => ?_)
  have hP := hP.perm List.perm_append_comm
  have hD := hD.perm List.perm_append_comm
  exact lv_icmp_eq (tgt := 976) hx hb dL_law_505 (by decide) (fun _ => hk c2 r2 _ _ _ (hI2 c2 r2 hc2 hr2) hP hD hS hl) (fun q => absurd rfl q)
