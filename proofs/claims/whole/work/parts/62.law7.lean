/-! the law: its loop -/
set_option maxHeartbeats 4000000 in
set_option maxRecDepth 100000 in
theorem law_loop {p : Program} {e : Env} {s : State} {m : MethodId} {below : List Frame} {meth : Method} {c : Code} (l : Launch) {b L : Nat} {xs : Nat → Int32} (hL : L ≤ 2048) (C0 : lw_At p s m meth c b L xs) {G : zG} (hK : va_K G.1 vwCl (zT G) s) (hE : zE G (fun q : Nat => s.heap.size ≤ q) s s.heap) {A : Nat → Nat} {fr fsl : Nat → Option Nat} {ha sa : Nat → zQA} {B : Nat → Nat} (hfr : ∀ i, i < 14 → fr i = some (ha i).1) (hfs : ∀ i, i < 2 → fsl i = some (sa i).1) : ∀ (n9 i : Nat), i ≤ L + 4 → L + 4 - i < n9 → LK p e s m below meth c l b G A fr fsl ha sa B 18 i := by
  obtain ⟨hx, hb, hr, hml, hown, hts0, hX, hbl, hlocks, hgv⟩ := id C0
  have hb : c.code = cL_law := hb
  have hbA : ¬ (fun q : Nat => s.heap.size ≤ q) b := Nat.not_le.mpr hbl
  intro n9
  induction n9 with
  | zero => intro i _ h; exact absurd h (Nat.not_lt_zero _)
  | succ n9 ih =>
    intro i hi h9
    have hk : i + 4 ≤ L → LK p e s m below meth c l b G A fr fsl ha sa B 976 i := by
      intro hi4 c1 r1 H locs ls hI hP hD hS hl
      refine lv_iinc (v := nI (i + 4)) (lv' := [(3, .int (nI (i + 4))), (2, .ref (B 0)), (1, .ref (A 0)), (0, .ref b)]) hx hb dL_law_976 hl (k := 0) rfl (zinc i 4) (by decide) rfl (fun ls hl => ?_)
      refine lv_goto (tgt := 18) hx hb dL_law_979 (by decide) ?_
      exact ih (i + 4) (by omega) (by omega) c1 r1 H locs ls hI hP hD hS hl
    intro c1 r1 H locs ls hI hP hD hS hl
    refine lv_iload_n hx hb dL_law_18 rfl (lv_at hl 0 rfl) ?_
    refine lv_aload_n hx hb dL_law_19 rfl (lv_at hl 3 rfl) ?_
    refine va_slen hx hb hX hbl hbA hS dL_law_20 ?_
    refine lv_iconst (v := nI 4) hx hb dL_law_21 (by decide) ?_
    refine lv_isub hx hb dL_law_22 ?_
    refine zc_gt (a := (i : Int)) (b := (L : Int) - 4) (tgt := 982) hx hb dL_law_23 (by decide) (zI (by omega)) (lw_len hL) (fun c_1 => ?_) (fun c_1 => ?_)
    · refine lv_iconst (v := 1) hx hb dL_law_982 (by decide) ?_
      refine va_forget hS.2.2 ?_
      refine W.widen (k := 600000) (n := 7302250) (Nat.le_of_ble_eq_true rfl) (Nat.le_of_ble_eq_true rfl) ?_
      exact lw_ret hx hb hr hlocks dL_law_983
    · have hi4 : i + 4 ≤ L := by omega
      have hk := hk hi4
      refine lv_aload_n hx hb dL_law_26 rfl (lv_at hl 3 rfl) ?_
      refine lv_iload_n hx hb dL_law_27 rfl (lv_at hl 0 rfl) ?_
      refine va_sld hx hb hX hbl hbA hS (zin (show i < L by omega) (by omega)) dL_law_28 ?_
      refine lv_bipush (v := nI 31) hx hb dL_law_29 (by decide) ?_
      refine lv_iand hx hb dL_law_31 ?_
      obtain ⟨k, hk32, hkv⟩ := lw_31 (xs (nI i).toNatClampNeg)
      rw [hkv]
      have hkt : (nI k).toInt = (k : Int) := zI (by omega)
      rcases (show k = 0 ∨ k = 1 ∨ k = 2 ∨ k = 3 ∨ k = 4 ∨ k = 5 ∨ k = 6 ∨ k = 7 ∨ k = 8 ∨ k = 9 ∨ k = 10 ∨ k = 11 ∨ k = 12 ∨ k = 13 ∨ k = 14 ∨ k = 15 ∨ k = 16 ∨ k = 17 ∨ k = 18 ∨ k = 19 ∨ k = 20 ∨ k = 21 ∨ k = 22 ∨ k = 23 ∨ k = 24 ∨ k = 25 ∨ k = 26 ∨ k = 27 ∨ k = 28 ∨ k = 29 ∨ k = 30 ∨ k = 31 by omega) with rfl | rfl | rfl | rfl | rfl | rfl | rfl | rfl | rfl | rfl | rfl | rfl | rfl | rfl | rfl | rfl | rfl | rfl | rfl | rfl | rfl | rfl | rfl | rfl | rfl | rfl | rfl | rfl | rfl | rfl | rfl | rfl
      · refine lv_tableIn (off := 140) (tgt := 172) hx hb dL_law_32 (by rw [hkt]; decide) (by rw [hkt]; decide) (by rw [hkt]; rfl) (by decide) ?_
        exact law_append l hL C0 hK hE hfr hfs hi4 hk c1 r1 H locs ls hI hP hD hS hl
      · refine lv_tableIn (off := 163) (tgt := 195) hx hb dL_law_32 (by rw [hkt]; decide) (by rw [hkt]; decide) (by rw [hkt]; rfl) (by decide) ?_
        exact law_clearText l hL C0 hK hE hfr hfs hi4 hk c1 r1 H locs ls hI hP hD hS hl
      · refine lv_tableIn (off := 176) (tgt := 208) hx hb dL_law_32 (by rw [hkt]; decide) (by rw [hkt]; decide) (by rw [hkt]; rfl) (by decide) ?_
        exact law_errorPosition l hL C0 hK hE hfr hfs hi4 hk c1 r1 H locs ls hI hP hD hS hl
      · refine lv_tableIn (off := 189) (tgt := 221) hx hb dL_law_32 (by rw [hkt]; decide) (by rw [hkt]; decide) (by rw [hkt]; rfl) (by decide) ?_
        exact law_load l hL C0 hK hE hfr hfs hi4 hk c1 r1 H locs ls hI hP hD hS hl
      · refine lv_tableIn (off := 202) (tgt := 234) hx hb dL_law_32 (by rw [hkt]; decide) (by rw [hkt]; decide) (by rw [hkt]; rfl) (by decide) ?_
        exact law_vertexCount l hL C0 hK hE hfr hfs hi4 hk c1 r1 H locs ls hI hP hD hS hl
      · refine lv_tableIn (off := 215) (tgt := 247) hx hb dL_law_32 (by rw [hkt]; decide) (by rw [hkt]; decide) (by rw [hkt]; rfl) (by decide) ?_
        exact law_edgeCount l hL C0 hK hE hfr hfs hi4 hk c1 r1 H locs ls hI hP hD hS hl
      · refine lv_tableIn (off := 228) (tgt := 260) hx hb dL_law_32 (by rw [hkt]; decide) (by rw [hkt]; decide) (by rw [hkt]; rfl) (by decide) ?_
        exact law_source l hL C0 hK hE hfr hfs hi4 hk c1 r1 H locs ls hI hP hD hS hl
      · refine lv_tableIn (off := 251) (tgt := 283) hx hb dL_law_32 (by rw [hkt]; decide) (by rw [hkt]; decide) (by rw [hkt]; rfl) (by decide) ?_
        exact law_target l hL C0 hK hE hfr hfs hi4 hk c1 r1 H locs ls hI hP hD hS hl
      · refine lv_tableIn (off := 274) (tgt := 306) hx hb dL_law_32 (by rw [hkt]; decide) (by rw [hkt]; decide) (by rw [hkt]; rfl) (by decide) ?_
        exact law_label l hL C0 hK hE hfr hfs hi4 hk c1 r1 H locs ls hI hP hD hS hl
      · refine lv_tableIn (off := 297) (tgt := 329) hx hb dL_law_32 (by rw [hkt]; decide) (by rw [hkt]; decide) (by rw [hkt]; rfl) (by decide) ?_
        exact law_addEdge l hL C0 hK hE hfr hfs hi4 hk c1 r1 H locs ls hI hP hD hS hl
      · refine lv_tableIn (off := 340) (tgt := 372) hx hb dL_law_32 (by rw [hkt]; decide) (by rw [hkt]; decide) (by rw [hkt]; rfl) (by decide) ?_
        exact law_removeEdge l hL C0 hK hE hfr hfs hi4 hk c1 r1 H locs ls hI hP hD hS hl
      · refine lv_tableIn (off := 363) (tgt := 395) hx hb dL_law_32 (by rw [hkt]; decide) (by rw [hkt]; decide) (by rw [hkt]; rfl) (by decide) ?_
        exact law_setLabel l hL C0 hK hE hfr hfs hi4 hk c1 r1 H locs ls hI hP hD hS hl
      · refine lv_tableIn (off := 396) (tgt := 428) hx hb dL_law_32 (by rw [hkt]; decide) (by rw [hkt]; decide) (by rw [hkt]; rfl) (by decide) ?_
        exact law_undo l hL C0 hK hE hfr hfs hi4 hk c1 r1 H locs ls hI hP hD hS hl
      · refine lv_tableIn (off := 409) (tgt := 441) hx hb dL_law_32 (by rw [hkt]; decide) (by rw [hkt]; decide) (by rw [hkt]; rfl) (by decide) ?_
        exact law_reachableFrom l hL C0 hK hE hfr hfs hi4 hk c1 r1 H locs ls hI hP hD hS hl
      · refine lv_tableIn (off := 432) (tgt := 464) hx hb dL_law_32 (by rw [hkt]; decide) (by rw [hkt]; decide) (by rw [hkt]; rfl) (by decide) ?_
        exact law_pairCount l hL C0 hK hE hfr hfs hi4 hk c1 r1 H locs ls hI hP hD hS hl
      · refine lv_tableIn (off := 445) (tgt := 477) hx hb dL_law_32 (by rw [hkt]; decide) (by rw [hkt]; decide) (by rw [hkt]; rfl) (by decide) ?_
        exact law_distance l hL C0 hK hE hfr hfs hi4 hk c1 r1 H locs ls hI hP hD hS hl
      · refine lv_tableIn (off := 478) (tgt := 510) hx hb dL_law_32 (by rw [hkt]; decide) (by rw [hkt]; decide) (by rw [hkt]; rfl) (by decide) ?_
        exact law_witnessEdge l hL C0 hK hE hfr hfs hi4 hk c1 r1 H locs ls hI hP hD hS hl
      · refine lv_tableIn (off := 521) (tgt := 553) hx hb dL_law_32 (by rw [hkt]; decide) (by rw [hkt]; decide) (by rw [hkt]; rfl) (by decide) ?_
        exact law_depth l hL C0 hK hE hfr hfs hi4 hk c1 r1 H locs ls hI hP hD hS hl
      · refine lv_tableIn (off := 554) (tgt := 586) hx hb dL_law_32 (by rw [hkt]; decide) (by rw [hkt]; decide) (by rw [hkt]; rfl) (by decide) ?_
        exact law_loss l hL C0 hK hE hfr hfs hi4 hk c1 r1 H locs ls hI hP hD hS hl
      · refine lv_tableIn (off := 577) (tgt := 609) hx hb dL_law_32 (by rw [hkt]; decide) (by rw [hkt]; decide) (by rw [hkt]; rfl) (by decide) ?_
        exact law_criticalEdge l hL C0 hK hE hfr hfs hi4 hk c1 r1 H locs ls hI hP hD hS hl
      · refine lv_tableIn (off := 590) (tgt := 622) hx hb dL_law_32 (by rw [hkt]; decide) (by rw [hkt]; decide) (by rw [hkt]; rfl) (by decide) ?_
        exact law_representative l hL C0 hK hE hfr hfs hi4 hk c1 r1 H locs ls hI hP hD hS hl
      · refine lv_tableIn (off := 613) (tgt := 645) hx hb dL_law_32 (by rw [hkt]; decide) (by rw [hkt]; decide) (by rw [hkt]; rfl) (by decide) ?_
        exact law_runScript l hL C0 hK hE hfr hfs hi4 hk c1 r1 H locs ls hI hP hD hS hl
      · refine lv_tableIn (off := 676) (tgt := 708) hx hb dL_law_32 (by rw [hkt]; decide) (by rw [hkt]; decide) (by rw [hkt]; rfl) (by decide) ?_
        exact law_observe l hL C0 hK hE hfr hfs hi4 hk c1 r1 H locs ls hI hP hD hS hl
      · refine lv_tableIn (off := 719) (tgt := 751) hx hb dL_law_32 (by rw [hkt]; decide) (by rw [hkt]; decide) (by rw [hkt]; rfl) (by decide) ?_
        exact law_clearObservations l hL C0 hK hE hfr hfs hi4 hk c1 r1 H locs ls hI hP hD hS hl
      · refine lv_tableIn (off := 732) (tgt := 764) hx hb dL_law_32 (by rw [hkt]; decide) (by rw [hkt]; decide) (by rw [hkt]; rfl) (by decide) ?_
        exact law_possibleLabels l hL C0 hK hE hfr hfs hi4 hk c1 r1 H locs ls hI hP hD hS hl
      · refine lv_tableIn (off := 755) (tgt := 787) hx hb dL_law_32 (by rw [hkt]; decide) (by rw [hkt]; decide) (by rw [hkt]; rfl) (by decide) ?_
        exact law_share l hL C0 hK hE hfr hfs hi4 hk c1 r1 H locs ls hI hP hD hS hl
      · refine lv_tableIn (off := 778) (tgt := 810) hx hb dL_law_32 (by rw [hkt]; decide) (by rw [hkt]; decide) (by rw [hkt]; rfl) (by decide) ?_
        exact law_reliability l hL C0 hK hE hfr hfs hi4 hk c1 r1 H locs ls hI hP hD hS hl
      · refine lv_tableIn (off := 821) (tgt := 853) hx hb dL_law_32 (by rw [hkt]; decide) (by rw [hkt]; decide) (by rw [hkt]; rfl) (by decide) ?_
        exact law_setSeed l hL C0 hK hE hfr hfs hi4 hk c1 r1 H locs ls hI hP hD hS hl
      · refine lv_tableIn (off := 875) (tgt := 907) hx hb dL_law_32 (by rw [hkt]; decide) (by rw [hkt]; decide) (by rw [hkt]; rfl) (by decide) ?_
        exact law_simulate l hL C0 hK hE hfr hfs hi4 hk c1 r1 H locs ls hI hP hD hS hl
      · refine lv_tableIn (off := 898) (tgt := 930) hx hb dL_law_32 (by rw [hkt]; decide) (by rw [hkt]; decide) (by rw [hkt]; rfl) (by decide) ?_
        exact law_save l hL C0 hK hE hfr hfs hi4 hk c1 r1 H locs ls hI hP hD hS hl
      · refine lv_tableIn (off := 921) (tgt := 953) hx hb dL_law_32 (by rw [hkt]; decide) (by rw [hkt]; decide) (by rw [hkt]; rfl) (by decide) ?_
        exact law_restore l hL C0 hK hE hfr hfs hi4 hk c1 r1 H locs ls hI hP hD hS hl
      · refine lv_tableOut (tgt := 976) hx hb dL_law_32 (by rw [hkt]; decide) (by decide) ?_
        exact hk c1 r1 H locs ls hI hP hD hS hl
