/-! the law: each call -/
set_option maxHeartbeats 4000000 in
set_option maxRecDepth 100000 in
theorem law_possibleLabels {p : Program} {e : Env} {s : State} {m : MethodId} {below : List Frame} {meth : Method} {c : Code} (l : Launch) {b L : Nat} {xs : Nat → Int32} (hL : L ≤ 2048) (C0 : lw_At p s m meth c b L xs) {G : zG} (hK : va_K G.1 vwCl (zT G) s) (hE : zE G (fun q : Nat => s.heap.size ≤ q) s s.heap) {A : Nat → Nat} {fr fsl : Nat → Option Nat} {ha sa : Nat → zQA} {B : Nat → Nat} (hfr : ∀ i, i < 14 → fr i = some (ha i).1) (hfs : ∀ i, i < 2 → fsl i = some (sa i).1) {i : Nat} (hi : i + 4 ≤ L) (hk : LK p e s m below meth c l b G A fr fsl ha sa B 976 i) : LK p e s m below meth c l b G A fr fsl ha sa B 764 i := by
  intro c1 r1 H locs ls hI hP hD hS hl
  obtain ⟨hx, hb, hr, hml, hown, hts0, hX, hbl, hlocks, hgv⟩ := C0
  have hb : c.code = cL_law := hb
  have hts : ∀ w ∈ wsL_law, w.before #[Value.ref b] s = true := fun w hw => hts0 w (wsL_law_in w hw)
  have hown : s.vm.findClass RL = some m.cls := hown
  have hA : ∀ q : Nat, s.heap.size ≤ q → (fun q : Nat => s.heap.size ≤ q) q := fun _ h => h
  have hbA : ¬ (fun q : Nat => s.heap.size ≤ q) b := Nat.not_le.mpr hbl
  obtain ⟨a9, okC, okM, hC, hM, hI2⟩ := st_possibleLabels l G (B := B) hfr hfs hI (xs (nI i + nI 1).toNatClampNeg)
  have hv1 : vp_in (nI i + nI 1) L := lw_in (by omega) hL
  refine lv_aload_n hx hb dL_law_764 rfl (lv_at hl 2 rfl) ?_
  refine lv_aload_n hx hb dL_law_765 rfl (lv_at hl 3 rfl) ?_
  refine lv_iload_n hx hb dL_law_766 rfl (lv_at hl 0 rfl) ?_
  refine lv_iconst (v := nI 1) hx hb dL_law_767 (by decide) ?_
  refine lv_iadd hx hb dL_law_768 ?_
  refine va_sld hx hb hX hbl hbA hS hv1 dL_law_769 ?_
  refine zLx ⟨hx, hb, hml, hown, hts⟩ hC (cwV 1 hts gL_law_X8_possibleLabels rfl rfl rfl (by decide +kernel) ⟨Nat.le_of_ble_eq_true rfl, Nat.le_of_ble_eq_true rfl⟩) hK hE hA hP hD hS hl.1 (ci := 5) rfl rfl rfl rfl rfl (Nat.le_of_ble_eq_true rfl) ⟨Nat.le_of_ble_eq_true rfl, Nat.le_of_ble_eq_true rfl⟩ dL_law_770 (fun H locs c2 hc2 hP hD hS => ?_)
  refine lv_aload_n hx hb dL_law_773 rfl (lv_at hl 1 rfl) ?_
  refine lv_aload_n hx hb dL_law_774 rfl (lv_at hl 3 rfl) ?_
  refine lv_iload_n hx hb dL_law_775 rfl (lv_at hl 0 rfl) ?_
  refine lv_iconst (v := nI 1) hx hb dL_law_776 (by decide) ?_
  refine lv_iadd hx hb dL_law_777 ?_
  refine va_sld hx hb hX hbl hbA hS hv1 dL_law_778 ?_
  have hP := hP.perm List.perm_append_comm
  have hD := hD.perm List.perm_append_comm
  refine zLx ⟨hx, hb, hml, hown, hts⟩ hM (cwV 1 hts gL_law_X9_possibleLabels rfl rfl rfl (by decide +kernel) ⟨Nat.le_of_ble_eq_true rfl, Nat.le_of_ble_eq_true rfl⟩) hK hE hA hP hD hS hl.1 (ci := 6) rfl rfl rfl rfl rfl (Nat.le_of_ble_eq_true rfl) ⟨Nat.le_of_ble_eq_true rfl, Nat.le_of_ble_eq_true rfl⟩ dL_law_779 (fun H locs r2 hr2 hP hD hS => ?_)
  have hP := hP.perm List.perm_append_comm
  have hD := hD.perm List.perm_append_comm
  exact lv_icmp_eq (tgt := 976) hx hb dL_law_782 (by decide) (fun _ => hk c2 r2 _ _ _ (hI2 c2 r2 hc2 hr2) hP hD hS hl) (fun q => absurd rfl q)
set_option maxHeartbeats 4000000 in
set_option maxRecDepth 100000 in
theorem law_share {p : Program} {e : Env} {s : State} {m : MethodId} {below : List Frame} {meth : Method} {c : Code} (l : Launch) {b L : Nat} {xs : Nat → Int32} (hL : L ≤ 2048) (C0 : lw_At p s m meth c b L xs) {G : zG} (hK : va_K G.1 vwCl (zT G) s) (hE : zE G (fun q : Nat => s.heap.size ≤ q) s s.heap) {A : Nat → Nat} {fr fsl : Nat → Option Nat} {ha sa : Nat → zQA} {B : Nat → Nat} (hfr : ∀ i, i < 14 → fr i = some (ha i).1) (hfs : ∀ i, i < 2 → fsl i = some (sa i).1) {i : Nat} (hi : i + 4 ≤ L) (hk : LK p e s m below meth c l b G A fr fsl ha sa B 976 i) : LK p e s m below meth c l b G A fr fsl ha sa B 787 i := by
  intro c1 r1 H locs ls hI hP hD hS hl
  obtain ⟨hx, hb, hr, hml, hown, hts0, hX, hbl, hlocks, hgv⟩ := C0
  have hb : c.code = cL_law := hb
  have hts : ∀ w ∈ wsL_law, w.before #[Value.ref b] s = true := fun w hw => hts0 w (wsL_law_in w hw)
  have hown : s.vm.findClass RL = some m.cls := hown
  have hA : ∀ q : Nat, s.heap.size ≤ q → (fun q : Nat => s.heap.size ≤ q) q := fun _ h => h
  have hbA : ¬ (fun q : Nat => s.heap.size ≤ q) b := Nat.not_le.mpr hbl
  obtain ⟨a9, okC, okM, hC, hM, hI2⟩ := st_share l G (B := B) hfr hfs hI (xs (nI i + nI 1).toNatClampNeg)
  have hv1 : vp_in (nI i + nI 1) L := lw_in (by omega) hL
  refine lv_aload_n hx hb dL_law_787 rfl (lv_at hl 2 rfl) ?_
  refine lv_aload_n hx hb dL_law_788 rfl (lv_at hl 3 rfl) ?_
  refine lv_iload_n hx hb dL_law_789 rfl (lv_at hl 0 rfl) ?_
  refine lv_iconst (v := nI 1) hx hb dL_law_790 (by decide) ?_
  refine lv_iadd hx hb dL_law_791 ?_
  refine va_sld hx hb hX hbl hbA hS hv1 dL_law_792 ?_
  refine zLx ⟨hx, hb, hml, hown, hts⟩ hC (cwV 1 hts gL_law_X8_share rfl rfl rfl (by decide +kernel) ⟨Nat.le_of_ble_eq_true rfl, Nat.le_of_ble_eq_true rfl⟩) hK hE hA hP hD hS hl.1 (ci := 5) rfl rfl rfl rfl rfl (Nat.le_of_ble_eq_true rfl) ⟨Nat.le_of_ble_eq_true rfl, Nat.le_of_ble_eq_true rfl⟩ dL_law_793 (fun H locs c2 hc2 hP hD hS => ?_)
  refine lv_aload_n hx hb dL_law_796 rfl (lv_at hl 1 rfl) ?_
  refine lv_aload_n hx hb dL_law_797 rfl (lv_at hl 3 rfl) ?_
  refine lv_iload_n hx hb dL_law_798 rfl (lv_at hl 0 rfl) ?_
  refine lv_iconst (v := nI 1) hx hb dL_law_799 (by decide) ?_
  refine lv_iadd hx hb dL_law_800 ?_
  refine va_sld hx hb hX hbl hbA hS hv1 dL_law_801 ?_
  have hP := hP.perm List.perm_append_comm
  have hD := hD.perm List.perm_append_comm
  refine zLx ⟨hx, hb, hml, hown, hts⟩ hM (cwV 1 hts gL_law_X9_share rfl rfl rfl (by decide +kernel) ⟨Nat.le_of_ble_eq_true rfl, Nat.le_of_ble_eq_true rfl⟩) hK hE hA hP hD hS hl.1 (ci := 6) rfl rfl rfl rfl rfl (Nat.le_of_ble_eq_true rfl) ⟨Nat.le_of_ble_eq_true rfl, Nat.le_of_ble_eq_true rfl⟩ dL_law_802 (fun H locs r2 hr2 hP hD hS => ?_)
  have hP := hP.perm List.perm_append_comm
  have hD := hD.perm List.perm_append_comm
  exact lv_icmp_eq (tgt := 976) hx hb dL_law_805 (by decide) (fun _ => hk c2 r2 _ _ _ (hI2 c2 r2 hc2 hr2) hP hD hS hl) (fun q => absurd rfl q)
set_option maxHeartbeats 4000000 in
set_option maxRecDepth 100000 in
theorem law_reliability {p : Program} {e : Env} {s : State} {m : MethodId} {below : List Frame} {meth : Method} {c : Code} (l : Launch) {b L : Nat} {xs : Nat → Int32} (hL : L ≤ 2048) (C0 : lw_At p s m meth c b L xs) {G : zG} (hK : va_K G.1 vwCl (zT G) s) (hE : zE G (fun q : Nat => s.heap.size ≤ q) s s.heap) {A : Nat → Nat} {fr fsl : Nat → Option Nat} {ha sa : Nat → zQA} {B : Nat → Nat} (hfr : ∀ i, i < 14 → fr i = some (ha i).1) (hfs : ∀ i, i < 2 → fsl i = some (sa i).1) {i : Nat} (hi : i + 4 ≤ L) (hk : LK p e s m below meth c l b G A fr fsl ha sa B 976 i) : LK p e s m below meth c l b G A fr fsl ha sa B 810 i := by
  intro c1 r1 H locs ls hI hP hD hS hl
  obtain ⟨hx, hb, hr, hml, hown, hts0, hX, hbl, hlocks, hgv⟩ := C0
  have hb : c.code = cL_law := hb
  have hts : ∀ w ∈ wsL_law, w.before #[Value.ref b] s = true := fun w hw => hts0 w (wsL_law_in w hw)
  have hown : s.vm.findClass RL = some m.cls := hown
  have hA : ∀ q : Nat, s.heap.size ≤ q → (fun q : Nat => s.heap.size ≤ q) q := fun _ h => h
  have hbA : ¬ (fun q : Nat => s.heap.size ≤ q) b := Nat.not_le.mpr hbl
  obtain ⟨a9, okC, okM, hC, hM, hI2⟩ := st_reliability l G (B := B) hfr hfs hI (xs (nI i + nI 1).toNatClampNeg) (xs (nI i + nI 2).toNatClampNeg) (xs (nI i + nI 3).toNatClampNeg)
  have hv1 : vp_in (nI i + nI 1) L := lw_in (by omega) hL
  have hv2 : vp_in (nI i + nI 2) L := lw_in (by omega) hL
  have hv3 : vp_in (nI i + nI 3) L := lw_in (by omega) hL
  refine lv_aload_n hx hb dL_law_810 rfl (lv_at hl 2 rfl) ?_
  refine lv_aload_n hx hb dL_law_811 rfl (lv_at hl 3 rfl) ?_
  refine lv_iload_n hx hb dL_law_812 rfl (lv_at hl 0 rfl) ?_
  refine lv_iconst (v := nI 1) hx hb dL_law_813 (by decide) ?_
  refine lv_iadd hx hb dL_law_814 ?_
  refine va_sld hx hb hX hbl hbA hS hv1 dL_law_815 ?_
  refine lv_aload_n hx hb dL_law_816 rfl (lv_at hl 3 rfl) ?_
  refine lv_iload_n hx hb dL_law_817 rfl (lv_at hl 0 rfl) ?_
  refine lv_iconst (v := nI 2) hx hb dL_law_818 (by decide) ?_
  refine lv_iadd hx hb dL_law_819 ?_
  refine va_sld hx hb hX hbl hbA hS hv2 dL_law_820 ?_
  refine lv_aload_n hx hb dL_law_821 rfl (lv_at hl 3 rfl) ?_
  refine lv_iload_n hx hb dL_law_822 rfl (lv_at hl 0 rfl) ?_
  refine lv_iconst (v := nI 3) hx hb dL_law_823 (by decide) ?_
  refine lv_iadd hx hb dL_law_824 ?_
  refine va_sld hx hb hX hbl hbA hS hv3 dL_law_825 ?_
  refine zLx ⟨hx, hb, hml, hown, hts⟩ hC (cwV 3 hts gL_law_X8_reliability rfl rfl rfl (by decide +kernel) ⟨Nat.le_of_ble_eq_true rfl, Nat.le_of_ble_eq_true rfl⟩) hK hE hA hP hD hS hl.1 (ci := 5) rfl rfl rfl rfl rfl (Nat.le_of_ble_eq_true rfl) ⟨Nat.le_of_ble_eq_true rfl, Nat.le_of_ble_eq_true rfl⟩ dL_law_826 (fun H locs c2 hc2 hP hD hS => ?_)
  refine lv_aload_n hx hb dL_law_829 rfl (lv_at hl 1 rfl) ?_
  refine lv_aload_n hx hb dL_law_830 rfl (lv_at hl 3 rfl) ?_
  refine lv_iload_n hx hb dL_law_831 rfl (lv_at hl 0 rfl) ?_
  refine lv_iconst (v := nI 1) hx hb dL_law_832 (by decide) ?_
  refine lv_iadd hx hb dL_law_833 ?_
  refine va_sld hx hb hX hbl hbA hS hv1 dL_law_834 ?_
  refine lv_aload_n hx hb dL_law_835 rfl (lv_at hl 3 rfl) ?_
  refine lv_iload_n hx hb dL_law_836 rfl (lv_at hl 0 rfl) ?_
  refine lv_iconst (v := nI 2) hx hb dL_law_837 (by decide) ?_
  refine lv_iadd hx hb dL_law_838 ?_
  refine va_sld hx hb hX hbl hbA hS hv2 dL_law_839 ?_
  refine lv_aload_n hx hb dL_law_840 rfl (lv_at hl 3 rfl) ?_
  refine lv_iload_n hx hb dL_law_841 rfl (lv_at hl 0 rfl) ?_
  refine lv_iconst (v := nI 3) hx hb dL_law_842 (by decide) ?_
  refine lv_iadd hx hb dL_law_843 ?_
  refine va_sld hx hb hX hbl hbA hS hv3 dL_law_844 ?_
  have hP := hP.perm List.perm_append_comm
  have hD := hD.perm List.perm_append_comm
  refine zLx ⟨hx, hb, hml, hown, hts⟩ hM (cwV 3 hts gL_law_X9_reliability rfl rfl rfl (by decide +kernel) ⟨Nat.le_of_ble_eq_true rfl, Nat.le_of_ble_eq_true rfl⟩) hK hE hA hP hD hS hl.1 (ci := 6) rfl rfl rfl rfl rfl (Nat.le_of_ble_eq_true rfl) ⟨Nat.le_of_ble_eq_true rfl, Nat.le_of_ble_eq_true rfl⟩ dL_law_845 (fun H locs r2 hr2 hP hD hS => ?_)
  have hP := hP.perm List.perm_append_comm
  have hD := hD.perm List.perm_append_comm
  exact lv_icmp_eq (tgt := 976) hx hb dL_law_848 (by decide) (fun _ => hk c2 r2 _ _ _ (hI2 c2 r2 hc2 hr2) hP hD hS hl) (fun q => absurd rfl q)
set_option maxHeartbeats 4000000 in
set_option maxRecDepth 100000 in
theorem law_setSeed {p : Program} {e : Env} {s : State} {m : MethodId} {below : List Frame} {meth : Method} {c : Code} (l : Launch) {b L : Nat} {xs : Nat → Int32} (hL : L ≤ 2048) (C0 : lw_At p s m meth c b L xs) {G : zG} (hK : va_K G.1 vwCl (zT G) s) (hE : zE G (fun q : Nat => s.heap.size ≤ q) s s.heap) {A : Nat → Nat} {fr fsl : Nat → Option Nat} {ha sa : Nat → zQA} {B : Nat → Nat} (hfr : ∀ i, i < 14 → fr i = some (ha i).1) (hfs : ∀ i, i < 2 → fsl i = some (sa i).1) {i : Nat} (hi : i + 4 ≤ L) (hk : LK p e s m below meth c l b G A fr fsl ha sa B 976 i) : LK p e s m below meth c l b G A fr fsl ha sa B 853 i := by
  intro c1 r1 H locs ls hI hP hD hS hl
  obtain ⟨hx, hb, hr, hml, hown, hts0, hX, hbl, hlocks, hgv⟩ := C0
  have hb : c.code = cL_law := hb
  have hts : ∀ w ∈ wsL_law, w.before #[Value.ref b] s = true := fun w hw => hts0 w (wsL_law_in w hw)
  have hown : s.vm.findClass RL = some m.cls := hown
  have hA : ∀ q : Nat, s.heap.size ≤ q → (fun q : Nat => s.heap.size ≤ q) q := fun _ h => h
  have hbA : ¬ (fun q : Nat => s.heap.size ≤ q) b := Nat.not_le.mpr hbl
  obtain ⟨a9, okC, okM, hC, hM, hI2⟩ := st_setSeed l G (B := B) hfr hfs hI ((((xs (nI i + nI 1).toNatClampNeg).toInt64 <<< ((nI 32).toInt64 &&& 63)) ||| ((xs (nI i + nI 2).toNatClampNeg).toInt64 &&& 4294967295)))
  have hv1 : vp_in (nI i + nI 1) L := lw_in (by omega) hL
  have hv2 : vp_in (nI i + nI 2) L := lw_in (by omega) hL
  refine lv_aload_n hx hb dL_law_853 rfl (lv_at hl 2 rfl) ?_
  refine lv_aload_n hx hb dL_law_854 rfl (lv_at hl 3 rfl) ?_
  refine lv_iload_n hx hb dL_law_855 rfl (lv_at hl 0 rfl) ?_
  refine lv_iconst (v := nI 1) hx hb dL_law_856 (by decide) ?_
  refine lv_iadd hx hb dL_law_857 ?_
  refine va_sld hx hb hX hbl hbA hS hv1 dL_law_858 ?_
  refine lv_i2l hx hb dL_law_859 rfl ?_
  refine lv_bipush (v := nI 32) hx hb dL_law_860 (by decide) ?_
  refine lv_lshl hx hb dL_law_862 rfl ?_
  refine lv_aload_n hx hb dL_law_863 rfl (lv_at hl 3 rfl) ?_
  refine lv_iload_n hx hb dL_law_864 rfl (lv_at hl 0 rfl) ?_
  refine lv_iconst (v := nI 2) hx hb dL_law_865 (by decide) ?_
  refine lv_iadd hx hb dL_law_866 ?_
  refine va_sld hx hb hX hbl hbA hS hv2 dL_law_867 ?_
  refine lv_i2l hx hb dL_law_868 rfl ?_
  refine lv_ldc2 hx hb hown (hts (.constantLong RL 101 4294967295) (by decide +kernel)) dL_law_869 ?_
  refine lv_land hx hb dL_law_872 ?_
  refine lv_lor hx hb dL_law_873 ?_
  refine zLl ⟨hx, hb, hml, hown, hts⟩ hC (cwV 1 hts gL_law_X8_setSeed rfl rfl rfl (by decide +kernel) ⟨Nat.le_of_ble_eq_true rfl, Nat.le_of_ble_eq_true rfl⟩) hK hE hA hP hD hS hl.1 (ci := 5) rfl rfl rfl rfl rfl (Nat.le_of_ble_eq_true rfl) ⟨Nat.le_of_ble_eq_true rfl, Nat.le_of_ble_eq_true rfl⟩ dL_law_874 (fun H locs c2 hc2 hP hD hS => ?_)
  refine lv_aload_n hx hb dL_law_877 rfl (lv_at hl 1 rfl) ?_
  refine lv_aload_n hx hb dL_law_878 rfl (lv_at hl 3 rfl) ?_
  refine lv_iload_n hx hb dL_law_879 rfl (lv_at hl 0 rfl) ?_
  refine lv_iconst (v := nI 1) hx hb dL_law_880 (by decide) ?_
  refine lv_iadd hx hb dL_law_881 ?_
  refine va_sld hx hb hX hbl hbA hS hv1 dL_law_882 ?_
  refine lv_i2l hx hb dL_law_883 rfl ?_
  refine lv_bipush (v := nI 32) hx hb dL_law_884 (by decide) ?_
  refine lv_lshl hx hb dL_law_886 rfl ?_
  refine lv_aload_n hx hb dL_law_887 rfl (lv_at hl 3 rfl) ?_
  refine lv_iload_n hx hb dL_law_888 rfl (lv_at hl 0 rfl) ?_
  refine lv_iconst (v := nI 2) hx hb dL_law_889 (by decide) ?_
  refine lv_iadd hx hb dL_law_890 ?_
  refine va_sld hx hb hX hbl hbA hS hv2 dL_law_891 ?_
  refine lv_i2l hx hb dL_law_892 rfl ?_
  refine lv_ldc2 hx hb hown (hts (.constantLong RL 101 4294967295) (by decide +kernel)) dL_law_893 ?_
  refine lv_land hx hb dL_law_896 ?_
  refine lv_lor hx hb dL_law_897 ?_
  have hP := hP.perm List.perm_append_comm
  have hD := hD.perm List.perm_append_comm
  refine zLl ⟨hx, hb, hml, hown, hts⟩ hM (cwV 1 hts gL_law_X9_setSeed rfl rfl rfl (by decide +kernel) ⟨Nat.le_of_ble_eq_true rfl, Nat.le_of_ble_eq_true rfl⟩) hK hE hA hP hD hS hl.1 (ci := 6) rfl rfl rfl rfl rfl (Nat.le_of_ble_eq_true rfl) ⟨Nat.le_of_ble_eq_true rfl, Nat.le_of_ble_eq_true rfl⟩ dL_law_898 (fun H locs r2 hr2 hP hD hS => ?_)
  have hP := hP.perm List.perm_append_comm
  have hD := hD.perm List.perm_append_comm
  exact zl_eq (tgt := 976) hx hb dL_law_901 dL_law_902 (by decide) (fun _ => hk c2 r2 _ _ _ (hI2 c2 r2 hc2 hr2) hP hD hS hl) (fun q => absurd rfl q)
set_option maxHeartbeats 4000000 in
set_option maxRecDepth 100000 in
theorem law_simulate {p : Program} {e : Env} {s : State} {m : MethodId} {below : List Frame} {meth : Method} {c : Code} (l : Launch) {b L : Nat} {xs : Nat → Int32} (hL : L ≤ 2048) (C0 : lw_At p s m meth c b L xs) {G : zG} (hK : va_K G.1 vwCl (zT G) s) (hE : zE G (fun q : Nat => s.heap.size ≤ q) s s.heap) {A : Nat → Nat} {fr fsl : Nat → Option Nat} {ha sa : Nat → zQA} {B : Nat → Nat} (hfr : ∀ i, i < 14 → fr i = some (ha i).1) (hfs : ∀ i, i < 2 → fsl i = some (sa i).1) {i : Nat} (hi : i + 4 ≤ L) (hk : LK p e s m below meth c l b G A fr fsl ha sa B 976 i) : LK p e s m below meth c l b G A fr fsl ha sa B 907 i := by
  intro c1 r1 H locs ls hI hP hD hS hl
  obtain ⟨hx, hb, hr, hml, hown, hts0, hX, hbl, hlocks, hgv⟩ := C0
  have hb : c.code = cL_law := hb
  have hts : ∀ w ∈ wsL_law, w.before #[Value.ref b] s = true := fun w hw => hts0 w (wsL_law_in w hw)
  have hown : s.vm.findClass RL = some m.cls := hown
  have hA : ∀ q : Nat, s.heap.size ≤ q → (fun q : Nat => s.heap.size ≤ q) q := fun _ h => h
  have hbA : ¬ (fun q : Nat => s.heap.size ≤ q) b := Nat.not_le.mpr hbl
  obtain ⟨a9, okC, okM, hC, hM, hI2⟩ := st_simulate l G (B := B) hfr hfs hI (xs (nI i + nI 1).toNatClampNeg)
  have hv1 : vp_in (nI i + nI 1) L := lw_in (by omega) hL
  refine lv_aload_n hx hb dL_law_907 rfl (lv_at hl 2 rfl) ?_
  refine lv_aload_n hx hb dL_law_908 rfl (lv_at hl 3 rfl) ?_
  refine lv_iload_n hx hb dL_law_909 rfl (lv_at hl 0 rfl) ?_
  refine lv_iconst (v := nI 1) hx hb dL_law_910 (by decide) ?_
  refine lv_iadd hx hb dL_law_911 ?_
  refine va_sld hx hb hX hbl hbA hS hv1 dL_law_912 ?_
  refine zLx ⟨hx, hb, hml, hown, hts⟩ hC (cwV 1 hts gL_law_X8_simulate rfl rfl rfl (by decide +kernel) ⟨Nat.le_of_ble_eq_true rfl, Nat.le_of_ble_eq_true rfl⟩) hK hE hA hP hD hS hl.1 (ci := 5) rfl rfl rfl rfl rfl (Nat.le_of_ble_eq_true rfl) ⟨Nat.le_of_ble_eq_true rfl, Nat.le_of_ble_eq_true rfl⟩ dL_law_913 (fun H locs c2 hc2 hP hD hS => ?_)
  refine lv_aload_n hx hb dL_law_916 rfl (lv_at hl 1 rfl) ?_
  refine lv_aload_n hx hb dL_law_917 rfl (lv_at hl 3 rfl) ?_
  refine lv_iload_n hx hb dL_law_918 rfl (lv_at hl 0 rfl) ?_
  refine lv_iconst (v := nI 1) hx hb dL_law_919 (by decide) ?_
  refine lv_iadd hx hb dL_law_920 ?_
  refine va_sld hx hb hX hbl hbA hS hv1 dL_law_921 ?_
  have hP := hP.perm List.perm_append_comm
  have hD := hD.perm List.perm_append_comm
  refine zLx ⟨hx, hb, hml, hown, hts⟩ hM (cwV 1 hts gL_law_X9_simulate rfl rfl rfl (by decide +kernel) ⟨Nat.le_of_ble_eq_true rfl, Nat.le_of_ble_eq_true rfl⟩) hK hE hA hP hD hS hl.1 (ci := 6) rfl rfl rfl rfl rfl (Nat.le_of_ble_eq_true rfl) ⟨Nat.le_of_ble_eq_true rfl, Nat.le_of_ble_eq_true rfl⟩ dL_law_922 (fun H locs r2 hr2 hP hD hS => ?_)
  have hP := hP.perm List.perm_append_comm
  have hD := hD.perm List.perm_append_comm
  exact lv_icmp_eq (tgt := 976) hx hb dL_law_925 (by decide) (fun _ => hk c2 r2 _ _ _ (hI2 c2 r2 hc2 hr2) hP hD hS hl) (fun q => absurd rfl q)
set_option maxHeartbeats 4000000 in
set_option maxRecDepth 100000 in
theorem law_save {p : Program} {e : Env} {s : State} {m : MethodId} {below : List Frame} {meth : Method} {c : Code} (l : Launch) {b L : Nat} {xs : Nat → Int32} (hL : L ≤ 2048) (C0 : lw_At p s m meth c b L xs) {G : zG} (hK : va_K G.1 vwCl (zT G) s) (hE : zE G (fun q : Nat => s.heap.size ≤ q) s s.heap) {A : Nat → Nat} {fr fsl : Nat → Option Nat} {ha sa : Nat → zQA} {B : Nat → Nat} (hfr : ∀ i, i < 14 → fr i = some (ha i).1) (hfs : ∀ i, i < 2 → fsl i = some (sa i).1) {i : Nat} (hi : i + 4 ≤ L) (hk : LK p e s m below meth c l b G A fr fsl ha sa B 976 i) : LK p e s m below meth c l b G A fr fsl ha sa B 930 i := by
  intro c1 r1 H locs ls hI hP hD hS hl
  obtain ⟨hx, hb, hr, hml, hown, hts0, hX, hbl, hlocks, hgv⟩ := C0
  have hb : c.code = cL_law := hb
  have hts : ∀ w ∈ wsL_law, w.before #[Value.ref b] s = true := fun w hw => hts0 w (wsL_law_in w hw)
  have hown : s.vm.findClass RL = some m.cls := hown
  have hA : ∀ q : Nat, s.heap.size ≤ q → (fun q : Nat => s.heap.size ≤ q) q := fun _ h => h
  have hbA : ¬ (fun q : Nat => s.heap.size ≤ q) b := Nat.not_le.mpr hbl
  obtain ⟨a9, okC, okM, hC, hM, hI2⟩ := st_save l G (B := B) hfr hfs hI (xs (nI i + nI 1).toNatClampNeg)
  have hv1 : vp_in (nI i + nI 1) L := lw_in (by omega) hL
  refine lv_aload_n hx hb dL_law_930 rfl (lv_at hl 2 rfl) ?_
  refine lv_aload_n hx hb dL_law_931 rfl (lv_at hl 3 rfl) ?_
  refine lv_iload_n hx hb dL_law_932 rfl (lv_at hl 0 rfl) ?_
  refine lv_iconst (v := nI 1) hx hb dL_law_933 (by decide) ?_
  refine lv_iadd hx hb dL_law_934 ?_
  refine va_sld hx hb hX hbl hbA hS hv1 dL_law_935 ?_
  refine zLx ⟨hx, hb, hml, hown, hts⟩ hC (cwV 1 hts gL_law_X8_save rfl rfl rfl (by decide +kernel) ⟨Nat.le_of_ble_eq_true rfl, Nat.le_of_ble_eq_true rfl⟩) hK hE hA hP hD hS hl.1 (ci := 5) rfl rfl rfl rfl rfl (Nat.le_of_ble_eq_true rfl) ⟨Nat.le_of_ble_eq_true rfl, Nat.le_of_ble_eq_true rfl⟩ dL_law_936 (fun H locs c2 hc2 hP hD hS => ?_)
  refine lv_aload_n hx hb dL_law_939 rfl (lv_at hl 1 rfl) ?_
  refine lv_aload_n hx hb dL_law_940 rfl (lv_at hl 3 rfl) ?_
  refine lv_iload_n hx hb dL_law_941 rfl (lv_at hl 0 rfl) ?_
  refine lv_iconst (v := nI 1) hx hb dL_law_942 (by decide) ?_
  refine lv_iadd hx hb dL_law_943 ?_
  refine va_sld hx hb hX hbl hbA hS hv1 dL_law_944 ?_
  have hP := hP.perm List.perm_append_comm
  have hD := hD.perm List.perm_append_comm
  refine zLx ⟨hx, hb, hml, hown, hts⟩ hM (cwV 1 hts gL_law_X9_save rfl rfl rfl (by decide +kernel) ⟨Nat.le_of_ble_eq_true rfl, Nat.le_of_ble_eq_true rfl⟩) hK hE hA hP hD hS hl.1 (ci := 6) rfl rfl rfl rfl rfl (Nat.le_of_ble_eq_true rfl) ⟨Nat.le_of_ble_eq_true rfl, Nat.le_of_ble_eq_true rfl⟩ dL_law_945 (fun H locs r2 hr2 hP hD hS => ?_)
  have hP := hP.perm List.perm_append_comm
  have hD := hD.perm List.perm_append_comm
  exact lv_icmp_eq (tgt := 976) hx hb dL_law_948 (by decide) (fun _ => hk c2 r2 _ _ _ (hI2 c2 r2 hc2 hr2) hP hD hS hl) (fun q => absurd rfl q)
set_option maxHeartbeats 4000000 in
set_option maxRecDepth 100000 in
theorem law_restore {p : Program} {e : Env} {s : State} {m : MethodId} {below : List Frame} {meth : Method} {c : Code} (l : Launch) {b L : Nat} {xs : Nat → Int32} (hL : L ≤ 2048) (C0 : lw_At p s m meth c b L xs) {G : zG} (hK : va_K G.1 vwCl (zT G) s) (hE : zE G (fun q : Nat => s.heap.size ≤ q) s s.heap) {A : Nat → Nat} {fr fsl : Nat → Option Nat} {ha sa : Nat → zQA} {B : Nat → Nat} (hfr : ∀ i, i < 14 → fr i = some (ha i).1) (hfs : ∀ i, i < 2 → fsl i = some (sa i).1) {i : Nat} (hi : i + 4 ≤ L) (hk : LK p e s m below meth c l b G A fr fsl ha sa B 976 i) : LK p e s m below meth c l b G A fr fsl ha sa B 953 i := by
  intro c1 r1 H locs ls hI hP hD hS hl
  obtain ⟨hx, hb, hr, hml, hown, hts0, hX, hbl, hlocks, hgv⟩ := C0
  have hb : c.code = cL_law := hb
  have hts : ∀ w ∈ wsL_law, w.before #[Value.ref b] s = true := fun w hw => hts0 w (wsL_law_in w hw)
  have hown : s.vm.findClass RL = some m.cls := hown
  have hA : ∀ q : Nat, s.heap.size ≤ q → (fun q : Nat => s.heap.size ≤ q) q := fun _ h => h
  have hbA : ¬ (fun q : Nat => s.heap.size ≤ q) b := Nat.not_le.mpr hbl
  obtain ⟨a9, okC, okM, hC, hM, hI2⟩ := st_restore l G (B := B) hfr hfs hI (xs (nI i + nI 1).toNatClampNeg)
  have hv1 : vp_in (nI i + nI 1) L := lw_in (by omega) hL
  refine lv_aload_n hx hb dL_law_953 rfl (lv_at hl 2 rfl) ?_
  refine lv_aload_n hx hb dL_law_954 rfl (lv_at hl 3 rfl) ?_
  refine lv_iload_n hx hb dL_law_955 rfl (lv_at hl 0 rfl) ?_
  refine lv_iconst (v := nI 1) hx hb dL_law_956 (by decide) ?_
  refine lv_iadd hx hb dL_law_957 ?_
  refine va_sld hx hb hX hbl hbA hS hv1 dL_law_958 ?_
  refine zLx ⟨hx, hb, hml, hown, hts⟩ hC (cwV 1 hts gL_law_X8_restore rfl rfl rfl (by decide +kernel) ⟨Nat.le_of_ble_eq_true rfl, Nat.le_of_ble_eq_true rfl⟩) hK hE hA hP hD hS hl.1 (ci := 5) rfl rfl rfl rfl rfl (Nat.le_of_ble_eq_true rfl) ⟨Nat.le_of_ble_eq_true rfl, Nat.le_of_ble_eq_true rfl⟩ dL_law_959 (fun H locs c2 hc2 hP hD hS => ?_)
  refine lv_aload_n hx hb dL_law_962 rfl (lv_at hl 1 rfl) ?_
  refine lv_aload_n hx hb dL_law_963 rfl (lv_at hl 3 rfl) ?_
  refine lv_iload_n hx hb dL_law_964 rfl (lv_at hl 0 rfl) ?_
  refine lv_iconst (v := nI 1) hx hb dL_law_965 (by decide) ?_
  refine lv_iadd hx hb dL_law_966 ?_
  refine va_sld hx hb hX hbl hbA hS hv1 dL_law_967 ?_
  have hP := hP.perm List.perm_append_comm
  have hD := hD.perm List.perm_append_comm
  refine zLx ⟨hx, hb, hml, hown, hts⟩ hM (cwV 1 hts gL_law_X9_restore rfl rfl rfl (by decide +kernel) ⟨Nat.le_of_ble_eq_true rfl, Nat.le_of_ble_eq_true rfl⟩) hK hE hA hP hD hS hl.1 (ci := 6) rfl rfl rfl rfl rfl (Nat.le_of_ble_eq_true rfl) ⟨Nat.le_of_ble_eq_true rfl, Nat.le_of_ble_eq_true rfl⟩ dL_law_968 (fun H locs r2 hr2 hP hD hS => ?_)
  have hP := hP.perm List.perm_append_comm
  have hD := hD.perm List.perm_append_comm
  exact lv_icmp_eq (tgt := 976) hx hb dL_law_971 (by decide) (fun _ => hk c2 r2 _ _ _ (hI2 c2 r2 hc2 hr2) hP hD hS hl) (fun q => absurd rfl q)
