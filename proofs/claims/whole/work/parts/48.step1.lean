/-! one call on both: text, counts -/
set_option maxHeartbeats 1000000 in
theorem st_append (l : Launch) (G : zG) {A : Nat → Nat} {fr fsl : Nat → Option Nat} {ha sa : Nat → zQA} {B : Nat → Nat} (hfr : ∀ i, i < 14 → fr i = some (ha i).1) (hfs : ∀ i, i < 2 → fsl i = some (sa i).1) {c : zCS} {r : zMS} (hI : LI c r) (x : Int32) : Bth l G A fr fsl ha sa B yX8_append wsX8_append yX9_append wsX9_append [.int x] c r := by
  obtain ⟨⟨⟨th, ps, pv⟩, pg, g9, gc, hh, ss, F, fd, wd⟩, hr, hJ⟩ := hI
  obtain ⟨⟨V, sd⟩, ⟨s, t, lb, k⟩, ⟨sc, tc, lc, kc⟩, ⟨sw, tw, lw, kw⟩, ⟨f, V0⟩, ⟨nx, sz⟩, hq, sq, sfl, ⟨g, n⟩, ⟨os, oe, oa, nn⟩⟩ := c
  have hr : r = ((th, n, ps, pv, V, sz, nn, sd), g, pg, g9, gc, hh, ss, sfl, os, oe, oa, F, fd, wd) := hr
  subst hr
  have hJ : JIv V s t lb k (sc, tc, lc, kc) sw tw lw f nx sz hq sq sfl g n os oe oa nn pg g9 hh ss F fd wd := hJ
  obtain ⟨⟨⟨hV1, hV⟩, ⟨hbs, hbt, hlb, hk, hE⟩, hqc, ⟨hws, hwt, hwl⟩, hf, hnx, hsz⟩, ⟨hsf, hgt, hn60, hos, hoe, hoa, hnn⟩, ⟨hB, hg8, hpg, hL, hD2, hw8⟩, hH, hS⟩ := hJ
  have hk0 : g9 0 = k := hB.1
  subst hk0
  have hg0 : g9 0 ≤ 16 := hk
  have hcs : ∀ i, sc i < 8 := hqc.1
  have hct : ∀ i, tc i < 8 := hqc.2.1
  have hcl : ∀ i, lc i < 7 := hqc.2.2.1
  have hkc : kc ≤ 16 := hqc.2.2.2
  by_cases h : (0 ≤ x.toInt ∧ x.toInt < 256) ∧ n < 60
  · have k1 : n + 1 ≤ 60 := by omega
    have k2 : ∀ i, zU g n x.toInt.toNat i < 256 := zU_lt hgt (by omega)
    have aC := MI.pk (c_X8_append_ok l G (A 0) (A 1) (A 2) (A 3) (A 4) (A 5) (A 6) (A 7) (A 8) (A 9) V sd (A 21) g n x h.1 h.2) ⟨by decide, by decide, by decide, by decide⟩ (((V, sd), (s, t, lb, g9 0), (sc, tc, lc, kc), (sw, tw, lw, kw), (f, V0), (nx, sz), hq, sq, sfl, (zU g n x.toInt.toNat, n + 1), (os, oe, oa, nn)) : zCS) (W := CW G A fr fsl ha sa ((V, sd), (s, t, lb, g9 0), (sc, tc, lc, kc), (sw, tw, lw, kw), (f, V0), (nx, sz), hq, sq, sfl, (g, n), (os, oe, oa, nn))) (W2 := CW G A fr fsl ha sa) (X := CX G A fr fsl ((V, sd), (s, t, lb, g9 0), (sc, tc, lc, kc), (sw, tw, lw, kw), (f, V0), (nx, sz), hq, sq, sfl, (g, n), (os, oe, oa, nn))) (pl := CH G ha hq ++ CL G sa sq) (X2 := CX G A fr fsl ((V, sd), (s, t, lb, g9 0), (sc, tc, lc, kc), (sw, tw, lw, kw), (f, V0), (nx, sz), hq, sq, sfl, (zU g n x.toInt.toNat, n + 1), (os, oe, oa, nn))) (wr := [(A 1, .inr (1, [.ref (A 10), .ref (A 11), .ref (A 12), .int (nI (g9 0))])), zA G (A 10) 16 s, zA G (A 11) 16 t, zA G (A 12) 16 lb, (A 2, .inr (1, [.ref (A 13), .ref (A 14), .ref (A 15), .int (nI kc)])), zA G (A 13) 16 sc, zA G (A 14) 16 tc, zA G (A 15) 16 lc, (A 3, .inr (1, [.ref (A 16), .ref (A 17), .ref (A 18), .int (nI kw)])), zA G (A 16) 32 sw, zA G (A 17) 32 tw, zA G (A 18) 32 lw, (A 4, .inr (0, [.ref (A 19), .int (nI V0)])), zA G (A 19) 64 f, (A 5, .inr (3, [.ref (A 20), .int (nI nx), .int (nI sz)])), zR G (A 20) 14 fr, zR G (A 6) 2 fsl, zB G (A 7) 2 sfl, (A 9, .inr (4, [.ref (A 22), .ref (A 23), .ref (A 24), .int (nI nn)])), zA G (A 22) 6 os, zA G (A 23) 6 oe, zA G (A 24) 6 oa]) (List.Perm.refl _) (List.Perm.refl _) 25 [0, 19, 20] [1, 2, 3, 4, 5, 6, 7, 8, 9, 10, 11, 12, 13, 14, 15, 16, 17, 18, 21, 22, 23, 24] rfl rfl rfl rfl rfl rfl (by decide)
    have aM := MI.pk (c_X9_append_ok l G (B 0) (B 1) (B 2) (B 3) (B 4) (B 5) (B 6) (B 7) (B 8) (B 9) (B 10) (B 11) (B 12) (B 13) th n ps V sz nn pv sd g x h.1 h.2) ⟨by decide, by decide, by decide, by decide⟩ (((0, n + 1, ps, pv, V, sz, nn, sd), zU g n x.toInt.toNat, pg, g9, gc, hh, ss, sfl, os, oe, oa, F, fd, wd) : zMS) (W := RW G B ((th, n, ps, pv, V, sz, nn, sd), g, pg, g9, gc, hh, ss, sfl, os, oe, oa, F, fd, wd)) (W2 := RW G B) (X := RX G B ((th, n, ps, pv, V, sz, nn, sd), g, pg, g9, gc, hh, ss, sfl, os, oe, oa, F, fd, wd)) (pl := []) (X2 := RX G B ((0, n + 1, ps, pv, V, sz, nn, sd), zU g n x.toInt.toNat, pg, g9, gc, hh, ss, sfl, os, oe, oa, F, fd, wd)) (wr := [zA G (B 2) 49 pg, zA G (B 3) 49 g9, zA G (B 4) 49 gc, zA G (B 5) 686 hh, zA G (B 6) 98 ss, zB G (B 7) 2 sfl, zA G (B 8) 6 os, zA G (B 9) 6 oe, zA G (B 10) 6 oa, zA G (B 11) 64 F, zA G (B 12) 64 fd, zA G (B 13) 96 wd]) (List.Perm.refl _) (List.Perm.refl _) 14 [0, 1] [2, 3, 4, 5, 6, 7, 8, 9, 10, 11, 12, 13] rfl rfl rfl rfl rfl rfl (by decide)
    refine Bth_mk (a := nI (n + 1)) aC aM ?_
    rintro _ _ rfl rfl
    exact ⟨((0, ps, pv), pg, g9, gc, hh, ss, F, fd, wd), rfl, JIv_mk hV1 hV hbs hbt hlb hk hE hqc hws hwt hwl hf hnx hsz hsf k2 k1 hos hoe hoa hnn hB hg8 hpg hL hD2 hw8 hH hS⟩
  · skip
    have aC := MI.pk (c_X8_append_bad l G (A 0) (A 1) (A 2) (A 3) (A 4) (A 5) (A 6) (A 7) (A 8) (A 9) V sd (A 21) g n x hn60 h) ⟨by decide, by decide, by decide, by decide⟩ (((V, sd), (s, t, lb, g9 0), (sc, tc, lc, kc), (sw, tw, lw, kw), (f, V0), (nx, sz), hq, sq, sfl, (g, n), (os, oe, oa, nn)) : zCS) (W := CW G A fr fsl ha sa ((V, sd), (s, t, lb, g9 0), (sc, tc, lc, kc), (sw, tw, lw, kw), (f, V0), (nx, sz), hq, sq, sfl, (g, n), (os, oe, oa, nn))) (W2 := CW G A fr fsl ha sa) (X := CX G A fr fsl ((V, sd), (s, t, lb, g9 0), (sc, tc, lc, kc), (sw, tw, lw, kw), (f, V0), (nx, sz), hq, sq, sfl, (g, n), (os, oe, oa, nn))) (pl := CH G ha hq ++ CL G sa sq) (X2 := CX G A fr fsl ((V, sd), (s, t, lb, g9 0), (sc, tc, lc, kc), (sw, tw, lw, kw), (f, V0), (nx, sz), hq, sq, sfl, (g, n), (os, oe, oa, nn))) (wr := [(A 1, .inr (1, [.ref (A 10), .ref (A 11), .ref (A 12), .int (nI (g9 0))])), zA G (A 10) 16 s, zA G (A 11) 16 t, zA G (A 12) 16 lb, (A 2, .inr (1, [.ref (A 13), .ref (A 14), .ref (A 15), .int (nI kc)])), zA G (A 13) 16 sc, zA G (A 14) 16 tc, zA G (A 15) 16 lc, (A 3, .inr (1, [.ref (A 16), .ref (A 17), .ref (A 18), .int (nI kw)])), zA G (A 16) 32 sw, zA G (A 17) 32 tw, zA G (A 18) 32 lw, (A 4, .inr (0, [.ref (A 19), .int (nI V0)])), zA G (A 19) 64 f, (A 5, .inr (3, [.ref (A 20), .int (nI nx), .int (nI sz)])), zR G (A 20) 14 fr, zR G (A 6) 2 fsl, zB G (A 7) 2 sfl, (A 9, .inr (4, [.ref (A 22), .ref (A 23), .ref (A 24), .int (nI nn)])), zA G (A 22) 6 os, zA G (A 23) 6 oe, zA G (A 24) 6 oa]) (List.Perm.refl _) (List.Perm.refl _) 25 [0, 19, 20] [1, 2, 3, 4, 5, 6, 7, 8, 9, 10, 11, 12, 13, 14, 15, 16, 17, 18, 21, 22, 23, 24] rfl rfl rfl rfl rfl rfl (by decide)
    have aM := MI.pk (c_X9_append_bad l G (B 0) (B 1) (B 2) (B 3) (B 4) (B 5) (B 6) (B 7) (B 8) (B 9) (B 10) (B 11) (B 12) (B 13) th n ps V sz nn pv sd x hn60 h) ⟨by decide, by decide, by decide, by decide⟩ (((0, n, ps, pv, V, sz, nn, sd), g, pg, g9, gc, hh, ss, sfl, os, oe, oa, F, fd, wd) : zMS) (W := RW G B ((th, n, ps, pv, V, sz, nn, sd), g, pg, g9, gc, hh, ss, sfl, os, oe, oa, F, fd, wd)) (W2 := RW G B) (X := RX G B ((th, n, ps, pv, V, sz, nn, sd), g, pg, g9, gc, hh, ss, sfl, os, oe, oa, F, fd, wd)) (pl := []) (X2 := RX G B ((0, n, ps, pv, V, sz, nn, sd), g, pg, g9, gc, hh, ss, sfl, os, oe, oa, F, fd, wd)) (wr := [zA G (B 1) 60 g, zA G (B 2) 49 pg, zA G (B 3) 49 g9, zA G (B 4) 49 gc, zA G (B 5) 686 hh, zA G (B 6) 98 ss, zB G (B 7) 2 sfl, zA G (B 8) 6 os, zA G (B 9) 6 oe, zA G (B 10) 6 oa, zA G (B 11) 64 F, zA G (B 12) 64 fd, zA G (B 13) 96 wd]) (List.Perm.refl _) (List.Perm.refl _) 14 [0] [1, 2, 3, 4, 5, 6, 7, 8, 9, 10, 11, 12, 13] rfl rfl rfl rfl rfl rfl (by decide)
    refine Bth_mk (a := zApX n x) aC aM ?_
    rintro _ _ rfl rfl
    exact ⟨((0, ps, pv), pg, g9, gc, hh, ss, F, fd, wd), rfl, JIv_mk hV1 hV hbs hbt hlb hk hE hqc hws hwt hwl hf hnx hsz hsf hgt hn60 hos hoe hoa hnn hB hg8 hpg hL hD2 hw8 hH hS⟩
set_option maxHeartbeats 1000000 in
theorem st_clearText (l : Launch) (G : zG) {A : Nat → Nat} {fr fsl : Nat → Option Nat} {ha sa : Nat → zQA} {B : Nat → Nat} (hfr : ∀ i, i < 14 → fr i = some (ha i).1) (hfs : ∀ i, i < 2 → fsl i = some (sa i).1) {c : zCS} {r : zMS} (hI : LI c r) : Bth l G A fr fsl ha sa B yX8_clearText wsX8_clearText yX9_clearText wsX9_clearText [] c r := by
  obtain ⟨⟨⟨th, ps, pv⟩, pg, g9, gc, hh, ss, F, fd, wd⟩, hr, hJ⟩ := hI
  obtain ⟨⟨V, sd⟩, ⟨s, t, lb, k⟩, ⟨sc, tc, lc, kc⟩, ⟨sw, tw, lw, kw⟩, ⟨f, V0⟩, ⟨nx, sz⟩, hq, sq, sfl, ⟨g, n⟩, ⟨os, oe, oa, nn⟩⟩ := c
  have hr : r = ((th, n, ps, pv, V, sz, nn, sd), g, pg, g9, gc, hh, ss, sfl, os, oe, oa, F, fd, wd) := hr
  subst hr
  have hJ : JIv V s t lb k (sc, tc, lc, kc) sw tw lw f nx sz hq sq sfl g n os oe oa nn pg g9 hh ss F fd wd := hJ
  obtain ⟨⟨⟨hV1, hV⟩, ⟨hbs, hbt, hlb, hk, hE⟩, hqc, ⟨hws, hwt, hwl⟩, hf, hnx, hsz⟩, ⟨hsf, hgt, hn60, hos, hoe, hoa, hnn⟩, ⟨hB, hg8, hpg, hL, hD2, hw8⟩, hH, hS⟩ := hJ
  have hk0 : g9 0 = k := hB.1
  subst hk0
  have hg0 : g9 0 ≤ 16 := hk
  have hcs : ∀ i, sc i < 8 := hqc.1
  have hct : ∀ i, tc i < 8 := hqc.2.1
  have hcl : ∀ i, lc i < 7 := hqc.2.2.1
  have hkc : kc ≤ 16 := hqc.2.2.2
  have aC := MI.pk (c_X8_clearText l G (A 0) (A 1) (A 2) (A 3) (A 4) (A 5) (A 6) (A 7) (A 8) (A 9) V sd (A 21) n) ⟨by decide, by decide, by decide, by decide⟩ (((V, sd), (s, t, lb, g9 0), (sc, tc, lc, kc), (sw, tw, lw, kw), (f, V0), (nx, sz), hq, sq, sfl, (g, 0), (os, oe, oa, nn)) : zCS) (W := CW G A fr fsl ha sa ((V, sd), (s, t, lb, g9 0), (sc, tc, lc, kc), (sw, tw, lw, kw), (f, V0), (nx, sz), hq, sq, sfl, (g, n), (os, oe, oa, nn))) (W2 := CW G A fr fsl ha sa) (X := CX G A fr fsl ((V, sd), (s, t, lb, g9 0), (sc, tc, lc, kc), (sw, tw, lw, kw), (f, V0), (nx, sz), hq, sq, sfl, (g, n), (os, oe, oa, nn))) (pl := CH G ha hq ++ CL G sa sq) (X2 := CX G A fr fsl ((V, sd), (s, t, lb, g9 0), (sc, tc, lc, kc), (sw, tw, lw, kw), (f, V0), (nx, sz), hq, sq, sfl, (g, 0), (os, oe, oa, nn))) (wr := [(A 1, .inr (1, [.ref (A 10), .ref (A 11), .ref (A 12), .int (nI (g9 0))])), zA G (A 10) 16 s, zA G (A 11) 16 t, zA G (A 12) 16 lb, (A 2, .inr (1, [.ref (A 13), .ref (A 14), .ref (A 15), .int (nI kc)])), zA G (A 13) 16 sc, zA G (A 14) 16 tc, zA G (A 15) 16 lc, (A 3, .inr (1, [.ref (A 16), .ref (A 17), .ref (A 18), .int (nI kw)])), zA G (A 16) 32 sw, zA G (A 17) 32 tw, zA G (A 18) 32 lw, (A 4, .inr (0, [.ref (A 19), .int (nI V0)])), zA G (A 19) 64 f, (A 5, .inr (3, [.ref (A 20), .int (nI nx), .int (nI sz)])), zR G (A 20) 14 fr, zR G (A 6) 2 fsl, zB G (A 7) 2 sfl, zA G (A 21) 60 g, (A 9, .inr (4, [.ref (A 22), .ref (A 23), .ref (A 24), .int (nI nn)])), zA G (A 22) 6 os, zA G (A 23) 6 oe, zA G (A 24) 6 oa]) (List.Perm.refl _) (List.Perm.refl _) 25 [0, 19] [1, 2, 3, 4, 5, 6, 7, 8, 9, 10, 11, 12, 13, 14, 15, 16, 17, 18, 20, 21, 22, 23, 24] rfl rfl rfl rfl rfl rfl (by decide)
  have aM := MI.pk (c_X9_clearText l G (B 0) (B 1) (B 2) (B 3) (B 4) (B 5) (B 6) (B 7) (B 8) (B 9) (B 10) (B 11) (B 12) (B 13) th n ps V sz nn pv sd) ⟨by decide, by decide, by decide, by decide⟩ (((0, 0, ps, pv, V, sz, nn, sd), g, pg, g9, gc, hh, ss, sfl, os, oe, oa, F, fd, wd) : zMS) (W := RW G B ((th, n, ps, pv, V, sz, nn, sd), g, pg, g9, gc, hh, ss, sfl, os, oe, oa, F, fd, wd)) (W2 := RW G B) (X := RX G B ((th, n, ps, pv, V, sz, nn, sd), g, pg, g9, gc, hh, ss, sfl, os, oe, oa, F, fd, wd)) (pl := []) (X2 := RX G B ((0, 0, ps, pv, V, sz, nn, sd), g, pg, g9, gc, hh, ss, sfl, os, oe, oa, F, fd, wd)) (wr := [zA G (B 1) 60 g, zA G (B 2) 49 pg, zA G (B 3) 49 g9, zA G (B 4) 49 gc, zA G (B 5) 686 hh, zA G (B 6) 98 ss, zB G (B 7) 2 sfl, zA G (B 8) 6 os, zA G (B 9) 6 oe, zA G (B 10) 6 oa, zA G (B 11) 64 F, zA G (B 12) 64 fd, zA G (B 13) 96 wd]) (List.Perm.refl _) (List.Perm.refl _) 14 [0] [1, 2, 3, 4, 5, 6, 7, 8, 9, 10, 11, 12, 13] rfl rfl rfl rfl rfl rfl (by decide)
  refine Bth_mk (a := nI n) aC aM ?_
  rintro _ _ rfl rfl
  exact ⟨((0, ps, pv), pg, g9, gc, hh, ss, F, fd, wd), rfl, JIv_mk hV1 hV hbs hbt hlb hk hE hqc hws hwt hwl hf hnx hsz hsf hgt (Nat.zero_le _) hos hoe hoa hnn hB hg8 hpg hL hD2 hw8 hH hS⟩
set_option maxHeartbeats 1000000 in
theorem st_errorPosition (l : Launch) (G : zG) {A : Nat → Nat} {fr fsl : Nat → Option Nat} {ha sa : Nat → zQA} {B : Nat → Nat} (hfr : ∀ i, i < 14 → fr i = some (ha i).1) (hfs : ∀ i, i < 2 → fsl i = some (sa i).1) {c : zCS} {r : zMS} (hI : LI c r) : Bth l G A fr fsl ha sa B yX8_errorPosition wsX8_errorPosition yX9_errorPosition wsX9_errorPosition [] c r := by
  obtain ⟨⟨⟨th, ps, pv⟩, pg, g9, gc, hh, ss, F, fd, wd⟩, hr, hJ⟩ := hI
  obtain ⟨⟨V, sd⟩, ⟨s, t, lb, k⟩, ⟨sc, tc, lc, kc⟩, ⟨sw, tw, lw, kw⟩, ⟨f, V0⟩, ⟨nx, sz⟩, hq, sq, sfl, ⟨g, n⟩, ⟨os, oe, oa, nn⟩⟩ := c
  have hr : r = ((th, n, ps, pv, V, sz, nn, sd), g, pg, g9, gc, hh, ss, sfl, os, oe, oa, F, fd, wd) := hr
  subst hr
  have hJ : JIv V s t lb k (sc, tc, lc, kc) sw tw lw f nx sz hq sq sfl g n os oe oa nn pg g9 hh ss F fd wd := hJ
  obtain ⟨⟨⟨hV1, hV⟩, ⟨hbs, hbt, hlb, hk, hE⟩, hqc, ⟨hws, hwt, hwl⟩, hf, hnx, hsz⟩, ⟨hsf, hgt, hn60, hos, hoe, hoa, hnn⟩, ⟨hB, hg8, hpg, hL, hD2, hw8⟩, hH, hS⟩ := hJ
  have hk0 : g9 0 = k := hB.1
  subst hk0
  have hg0 : g9 0 ≤ 16 := hk
  have hcs : ∀ i, sc i < 8 := hqc.1
  have hct : ∀ i, tc i < 8 := hqc.2.1
  have hcl : ∀ i, lc i < 7 := hqc.2.2.1
  have hkc : kc ≤ 16 := hqc.2.2.2
  by_cases h : (zFF g n).toInt = -9
  · skip
    have hz := zFF_ok hn60 h
    obtain ⟨hfit, h2, h3⟩ := hz
    obtain ⟨m9, hm9⟩ : ∃ m9, n = 2 + 3 * m9 := ⟨(n - 2) / 3, by omega⟩
    have hm16 : m9 ≤ 16 := by
      rcases Nat.lt_or_ge n 51 with q | q
      · omega
      · have h9 := hfit 50 (by omega)
        rw [zFit_50] at h9; cases h9
    have hfit2 : ∀ i, i < 2 + 3 * m9 → zFit g i = true := fun i hi => hfit i (by omega)
    have k2 : ∀ i, 1 ≤ i → zPa pg g m9 i < 8 := zPa_8 hpg hgt hfit2
    have ez : zFF g n = (-9) := Int32.toInt_inj.mp h
    have aC := MX.an (MI.pk (c_X8_errorPosition l G (A 0) (A 1) (A 2) (A 3) (A 4) (A 5) (A 6) (A 7) (A 8) (A 9) V sd (A 21) g n hgt hn60) ⟨by decide, by decide, by decide, by decide⟩ (((V, sd), (s, t, lb, g9 0), (sc, tc, lc, kc), (sw, tw, lw, kw), (f, V0), (nx, sz), hq, sq, sfl, (g, n), (os, oe, oa, nn)) : zCS) (W := CW G A fr fsl ha sa ((V, sd), (s, t, lb, g9 0), (sc, tc, lc, kc), (sw, tw, lw, kw), (f, V0), (nx, sz), hq, sq, sfl, (g, n), (os, oe, oa, nn))) (W2 := CW G A fr fsl ha sa) (X := CX G A fr fsl ((V, sd), (s, t, lb, g9 0), (sc, tc, lc, kc), (sw, tw, lw, kw), (f, V0), (nx, sz), hq, sq, sfl, (g, n), (os, oe, oa, nn))) (pl := CH G ha hq ++ CL G sa sq) (X2 := CX G A fr fsl ((V, sd), (s, t, lb, g9 0), (sc, tc, lc, kc), (sw, tw, lw, kw), (f, V0), (nx, sz), hq, sq, sfl, (g, n), (os, oe, oa, nn))) (wr := [(A 1, .inr (1, [.ref (A 10), .ref (A 11), .ref (A 12), .int (nI (g9 0))])), zA G (A 10) 16 s, zA G (A 11) 16 t, zA G (A 12) 16 lb, (A 2, .inr (1, [.ref (A 13), .ref (A 14), .ref (A 15), .int (nI kc)])), zA G (A 13) 16 sc, zA G (A 14) 16 tc, zA G (A 15) 16 lc, (A 3, .inr (1, [.ref (A 16), .ref (A 17), .ref (A 18), .int (nI kw)])), zA G (A 16) 32 sw, zA G (A 17) 32 tw, zA G (A 18) 32 lw, (A 4, .inr (0, [.ref (A 19), .int (nI V0)])), zA G (A 19) 64 f, (A 5, .inr (3, [.ref (A 20), .int (nI nx), .int (nI sz)])), zR G (A 20) 14 fr, zR G (A 6) 2 fsl, zB G (A 7) 2 sfl, (A 9, .inr (4, [.ref (A 22), .ref (A 23), .ref (A 24), .int (nI nn)])), zA G (A 22) 6 os, zA G (A 23) 6 oe, zA G (A 24) 6 oa]) (List.Perm.refl _) (List.Perm.refl _) 25 [0, 19, 20] [1, 2, 3, 4, 5, 6, 7, 8, 9, 10, 11, 12, 13, 14, 15, 16, 17, 18, 21, 22, 23, 24] rfl rfl rfl rfl rfl rfl (by decide)) (ez.symm)
    have aM := MI.pk (c_X9_errorPosition_ok l G (B 0) (B 1) (B 2) (B 3) (B 4) (B 5) (B 6) (B 7) (B 8) (B 9) (B 10) (B 11) (B 12) (B 13) th n ps V sz nn pv sd g pg m9 hgt hm9 hm16 hfit) ⟨by decide, by decide, by decide, by decide⟩ (((0, n, 2 + 3 * m9, nI (g 1 - 48), V, sz, nn, sd), g, zPa pg g m9, g9, gc, hh, ss, sfl, os, oe, oa, F, fd, wd) : zMS) (W := RW G B ((th, n, ps, pv, V, sz, nn, sd), g, pg, g9, gc, hh, ss, sfl, os, oe, oa, F, fd, wd)) (W2 := RW G B) (X := RX G B ((th, n, ps, pv, V, sz, nn, sd), g, pg, g9, gc, hh, ss, sfl, os, oe, oa, F, fd, wd)) (pl := []) (X2 := RX G B ((0, n, 2 + 3 * m9, nI (g 1 - 48), V, sz, nn, sd), g, zPa pg g m9, g9, gc, hh, ss, sfl, os, oe, oa, F, fd, wd)) (wr := [zA G (B 3) 49 g9, zA G (B 4) 49 gc, zA G (B 5) 686 hh, zA G (B 6) 98 ss, zB G (B 7) 2 sfl, zA G (B 8) 6 os, zA G (B 9) 6 oe, zA G (B 10) 6 oa, zA G (B 11) 64 F, zA G (B 12) 64 fd, zA G (B 13) 96 wd]) (List.Perm.refl _) (List.Perm.refl _) 14 [0, 1, 2] [3, 4, 5, 6, 7, 8, 9, 10, 11, 12, 13] rfl rfl rfl rfl rfl rfl (by decide)
    refine Bth_mk (a := (-9)) aC aM ?_
    rintro _ _ rfl rfl
    exact ⟨((0, 2 + 3 * m9, nI (g 1 - 48)), zPa pg g m9, g9, gc, hh, ss, F, fd, wd), rfl, JIv_mk hV1 hV hbs hbt hlb hk hE hqc hws hwt hwl hf hnx hsz hsf hgt hn60 hos hoe hoa hnn hB hg8 k2 hL hD2 hw8 hH hS⟩
  · skip
    have aC := MI.pk (c_X8_errorPosition l G (A 0) (A 1) (A 2) (A 3) (A 4) (A 5) (A 6) (A 7) (A 8) (A 9) V sd (A 21) g n hgt hn60) ⟨by decide, by decide, by decide, by decide⟩ (((V, sd), (s, t, lb, g9 0), (sc, tc, lc, kc), (sw, tw, lw, kw), (f, V0), (nx, sz), hq, sq, sfl, (g, n), (os, oe, oa, nn)) : zCS) (W := CW G A fr fsl ha sa ((V, sd), (s, t, lb, g9 0), (sc, tc, lc, kc), (sw, tw, lw, kw), (f, V0), (nx, sz), hq, sq, sfl, (g, n), (os, oe, oa, nn))) (W2 := CW G A fr fsl ha sa) (X := CX G A fr fsl ((V, sd), (s, t, lb, g9 0), (sc, tc, lc, kc), (sw, tw, lw, kw), (f, V0), (nx, sz), hq, sq, sfl, (g, n), (os, oe, oa, nn))) (pl := CH G ha hq ++ CL G sa sq) (X2 := CX G A fr fsl ((V, sd), (s, t, lb, g9 0), (sc, tc, lc, kc), (sw, tw, lw, kw), (f, V0), (nx, sz), hq, sq, sfl, (g, n), (os, oe, oa, nn))) (wr := [(A 1, .inr (1, [.ref (A 10), .ref (A 11), .ref (A 12), .int (nI (g9 0))])), zA G (A 10) 16 s, zA G (A 11) 16 t, zA G (A 12) 16 lb, (A 2, .inr (1, [.ref (A 13), .ref (A 14), .ref (A 15), .int (nI kc)])), zA G (A 13) 16 sc, zA G (A 14) 16 tc, zA G (A 15) 16 lc, (A 3, .inr (1, [.ref (A 16), .ref (A 17), .ref (A 18), .int (nI kw)])), zA G (A 16) 32 sw, zA G (A 17) 32 tw, zA G (A 18) 32 lw, (A 4, .inr (0, [.ref (A 19), .int (nI V0)])), zA G (A 19) 64 f, (A 5, .inr (3, [.ref (A 20), .int (nI nx), .int (nI sz)])), zR G (A 20) 14 fr, zR G (A 6) 2 fsl, zB G (A 7) 2 sfl, (A 9, .inr (4, [.ref (A 22), .ref (A 23), .ref (A 24), .int (nI nn)])), zA G (A 22) 6 os, zA G (A 23) 6 oe, zA G (A 24) 6 oa]) (List.Perm.refl _) (List.Perm.refl _) 25 [0, 19, 20] [1, 2, 3, 4, 5, 6, 7, 8, 9, 10, 11, 12, 13, 14, 15, 16, 17, 18, 21, 22, 23, 24] rfl rfl rfl rfl rfl rfl (by decide)
    have aM := MX.pk (c_X9_errorPosition_bad l G (B 0) (B 1) (B 2) (B 3) (B 4) (B 5) (B 6) (B 7) (B 8) (B 9) (B 10) (B 11) (B 12) (B 13) th n ps V sz nn pv sd g pg hgt hn60 hpg h) ⟨by decide, by decide, by decide, by decide⟩ (fun u => (((0, n, u.1, u.2.1, V, sz, nn, sd), g, u.2.2, g9, gc, hh, ss, sfl, os, oe, oa, F, fd, wd) : zMS)) (W := RW G B ((th, n, ps, pv, V, sz, nn, sd), g, pg, g9, gc, hh, ss, sfl, os, oe, oa, F, fd, wd)) (W2 := RW G B) (X := RX G B ((th, n, ps, pv, V, sz, nn, sd), g, pg, g9, gc, hh, ss, sfl, os, oe, oa, F, fd, wd)) (pl := []) (X2u := fun u => RX G B ((0, n, u.1, u.2.1, V, sz, nn, sd), g, u.2.2, g9, gc, hh, ss, sfl, os, oe, oa, F, fd, wd)) (wr := [zA G (B 3) 49 g9, zA G (B 4) 49 gc, zA G (B 5) 686 hh, zA G (B 6) 98 ss, zB G (B 7) 2 sfl, zA G (B 8) 6 os, zA G (B 9) 6 oe, zA G (B 10) 6 oa, zA G (B 11) 64 F, zA G (B 12) 64 fd, zA G (B 13) 96 wd]) (List.Perm.refl _) (fun u => List.Perm.refl _) 14 [0, 1, 2] [3, 4, 5, 6, 7, 8, 9, 10, 11, 12, 13] rfl (fun u => rfl) rfl (fun u => rfl) rfl (fun u => rfl) (by decide)
    refine Bth_mk (a := zFF g n) aC aM ?_
    rintro _ _ rfl ⟨u, hu, rfl⟩
    exact ⟨((0, u.1, u.2.1), u.2.2, g9, gc, hh, ss, F, fd, wd), rfl, JIv_mk hV1 hV hbs hbt hlb hk hE hqc hws hwt hwl hf hnx hsz hsf hgt hn60 hos hoe hoa hnn hB hg8 hu.2 hL hD2 hw8 hH hS⟩
set_option maxHeartbeats 1000000 in
theorem st_load (l : Launch) (G : zG) {A : Nat → Nat} {fr fsl : Nat → Option Nat} {ha sa : Nat → zQA} {B : Nat → Nat} (hfr : ∀ i, i < 14 → fr i = some (ha i).1) (hfs : ∀ i, i < 2 → fsl i = some (sa i).1) {c : zCS} {r : zMS} (hI : LI c r) : Bth l G A fr fsl ha sa B yX8_load wsX8_load yX9_load wsX9_load [] c r := by
  obtain ⟨⟨⟨th, ps, pv⟩, pg, g9, gc, hh, ss, F, fd, wd⟩, hr, hJ⟩ := hI
  obtain ⟨⟨V, sd⟩, ⟨s, t, lb, k⟩, ⟨sc, tc, lc, kc⟩, ⟨sw, tw, lw, kw⟩, ⟨f, V0⟩, ⟨nx, sz⟩, hq, sq, sfl, ⟨g, n⟩, ⟨os, oe, oa, nn⟩⟩ := c
  have hr : r = ((th, n, ps, pv, V, sz, nn, sd), g, pg, g9, gc, hh, ss, sfl, os, oe, oa, F, fd, wd) := hr
  subst hr
  have hJ : JIv V s t lb k (sc, tc, lc, kc) sw tw lw f nx sz hq sq sfl g n os oe oa nn pg g9 hh ss F fd wd := hJ
  obtain ⟨⟨⟨hV1, hV⟩, ⟨hbs, hbt, hlb, hk, hE⟩, hqc, ⟨hws, hwt, hwl⟩, hf, hnx, hsz⟩, ⟨hsf, hgt, hn60, hos, hoe, hoa, hnn⟩, ⟨hB, hg8, hpg, hL, hD2, hw8⟩, hH, hS⟩ := hJ
  have hk0 : g9 0 = k := hB.1
  subst hk0
  have hg0 : g9 0 ≤ 16 := hk
  have hcs : ∀ i, sc i < 8 := hqc.1
  have hct : ∀ i, tc i < 8 := hqc.2.1
  have hcl : ∀ i, lc i < 7 := hqc.2.2.1
  have hkc : kc ≤ 16 := hqc.2.2.2
  by_cases h : (zFF g n).toInt = -9
  · skip
    have hz := zFF_ok hn60 h
    obtain ⟨hfit, h2, h3⟩ := hz
    obtain ⟨m9, hm9⟩ : ∃ m9, n = 2 + 3 * m9 := ⟨(n - 2) / 3, by omega⟩
    have hm16 : m9 ≤ 16 := by
      rcases Nat.lt_or_ge n 51 with q | q
      · omega
      · have h9 := hfit 50 (by omega)
        rw [zFit_50] at h9; cases h9
    have hfit2 : ∀ i, i < 2 + 3 * m9 → zFit g i = true := fun i hi => hfit i (by omega)
    have k2 : ∀ i, 1 ≤ i → zPa pg g m9 i < 8 := zPa_8 hpg hgt hfit2
    have h1 := zFit_1d (hfit2 1 (by omega))
    have hw1 : ∀ i, i < m9 → zWs g i < g 1 - 48 ∧ zWt g i < g 1 - 48 ∧ zWl g i < 7 := fun i hi =>
      ⟨(zFit_s (hfit2 (2 + 3 * i) (by omega))).2, (zFit_t (hfit2 (2 + 3 * i + 1) (by omega))).2, (zFit_l (hfit2 (2 + 3 * i + 2) (by omega))).1⟩
    have j1 : ∀ i, zTk s (zWs g) m9 i < 8 := zTk_b hbs (fun i hi => by have := (hw1 i hi).1; omega)
    have j2 : ∀ i, zTk t (zWt g) m9 i < 8 := zTk_b hbt (fun i hi => by have := (hw1 i hi).2.1; omega)
    have j3 : ∀ i, zTk lb (zWl g) m9 i < 7 := zTk_b hlb (fun i hi => (hw1 i hi).2.2)
    have j4 : ∀ i, i < m9 → zTk s (zWs g) m9 i < g 1 - 48 ∧ zTk t (zWt g) m9 i < g 1 - 48 := fun i hi => by
      rw [zTk_lo hi, zTk_lo hi]; exact ⟨(hw1 i hi).1, (hw1 i hi).2.1⟩
    have j5 : Blk (zPa pg g m9) (zTk s (zWs g) m9) (zTk t (zWt g) m9) (zTk lb (zWl g) m9) m9 := Blk_cong (Blk_pa pg g m9) (fun i hi => ⟨zTk_lo hi, zTk_lo hi, zTk_lo hi⟩)
    have j6 : ∀ i, zU (zU sfl 0 0) 1 0 i < 2 := zU_lt (zU_lt hsf (by omega)) (by omega)
    have j7 : ∀ j, j < 2 → ¬ zU (zU sfl 0 0) 1 0 j = 0 → HB ss (49 * j) (sq j) (g 1 - 48) := fun j hj hn => by
      refine absurd ?_ hn
      have : j = 0 ∨ j = 1 := by omega
      rcases this with q | q <;> subst q <;> simp [zU]
    have j8 : ∀ j, j < 0 → HB hh (49 * j) (hq ((nx + 14 - 0 + j) % 14)) (g 1 - 48) := fun j hj => absurd hj (Nat.not_lt_zero j)
    have j9 : 1 ≤ g 1 - 48 := by omega
    have j10 : g 1 - 48 ≤ 8 := by omega
    have aC := MI.pk (c_X8_load_ok l G (A 0) (A 1) (A 2) (A 3) (A 4) (A 5) (A 6) (A 7) (A 8) (A 9) V sd (A 21) g n (A 10) (A 11) (A 12) s t lb (g9 0) (A 20) nx sz sfl m9 hgt hm9 hm16 h1.1 h hfit) ⟨by decide, by decide, by decide, by decide⟩ (((g 1 - 48, sd), (zTk s (zWs g) m9, zTk t (zWt g) m9, zTk lb (zWl g) m9, m9), (sc, tc, lc, kc), (sw, tw, lw, kw), (f, V0), (nx, 0), hq, sq, zU (zU sfl 0 0) 1 0, (g, n), (os, oe, oa, nn)) : zCS) (W := CW G A fr fsl ha sa ((V, sd), (s, t, lb, g9 0), (sc, tc, lc, kc), (sw, tw, lw, kw), (f, V0), (nx, sz), hq, sq, sfl, (g, n), (os, oe, oa, nn))) (W2 := CW G A fr fsl ha sa) (X := CX G A fr fsl ((V, sd), (s, t, lb, g9 0), (sc, tc, lc, kc), (sw, tw, lw, kw), (f, V0), (nx, sz), hq, sq, sfl, (g, n), (os, oe, oa, nn))) (pl := CH G ha hq ++ CL G sa sq) (X2 := CX G A fr fsl ((g 1 - 48, sd), (zTk s (zWs g) m9, zTk t (zWt g) m9, zTk lb (zWl g) m9, m9), (sc, tc, lc, kc), (sw, tw, lw, kw), (f, V0), (nx, 0), hq, sq, zU (zU sfl 0 0) 1 0, (g, n), (os, oe, oa, nn))) (wr := [(A 2, .inr (1, [.ref (A 13), .ref (A 14), .ref (A 15), .int (nI kc)])), zA G (A 13) 16 sc, zA G (A 14) 16 tc, zA G (A 15) 16 lc, (A 3, .inr (1, [.ref (A 16), .ref (A 17), .ref (A 18), .int (nI kw)])), zA G (A 16) 32 sw, zA G (A 17) 32 tw, zA G (A 18) 32 lw, (A 4, .inr (0, [.ref (A 19), .int (nI V0)])), zA G (A 19) 64 f, zR G (A 20) 14 fr, zR G (A 6) 2 fsl, (A 9, .inr (4, [.ref (A 22), .ref (A 23), .ref (A 24), .int (nI nn)])), zA G (A 22) 6 os, zA G (A 23) 6 oe, zA G (A 24) 6 oa]) (List.Perm.refl _) (List.Perm.refl _) 25 [0, 19, 20, 1, 2, 3, 4, 15, 18] [5, 6, 7, 8, 9, 10, 11, 12, 13, 14, 16, 17, 21, 22, 23, 24] rfl rfl rfl rfl rfl rfl (by decide)
    have aM := MI.pk (c_X9_load_ok l G (B 0) (B 1) (B 2) (B 3) (B 4) (B 5) (B 6) (B 7) (B 8) (B 9) (B 10) (B 11) (B 12) (B 13) th n ps V sz nn pv sd g pg g9 sfl m9 hgt hm9 hm16 hfit) ⟨by decide, by decide, by decide, by decide⟩ (((0, n, 2 + 3 * m9, nI (g 1 - 48), g 1 - 48, 0, nn, sd), g, zPa pg g m9, zPa pg g m9, gc, hh, ss, zU (zU sfl 0 0) 1 0, os, oe, oa, F, fd, wd) : zMS) (W := RW G B ((th, n, ps, pv, V, sz, nn, sd), g, pg, g9, gc, hh, ss, sfl, os, oe, oa, F, fd, wd)) (W2 := RW G B) (X := RX G B ((th, n, ps, pv, V, sz, nn, sd), g, pg, g9, gc, hh, ss, sfl, os, oe, oa, F, fd, wd)) (pl := []) (X2 := RX G B ((0, n, 2 + 3 * m9, nI (g 1 - 48), g 1 - 48, 0, nn, sd), g, zPa pg g m9, zPa pg g m9, gc, hh, ss, zU (zU sfl 0 0) 1 0, os, oe, oa, F, fd, wd)) (wr := [zA G (B 4) 49 gc, zA G (B 5) 686 hh, zA G (B 6) 98 ss, zA G (B 8) 6 os, zA G (B 9) 6 oe, zA G (B 10) 6 oa, zA G (B 11) 64 F, zA G (B 12) 64 fd, zA G (B 13) 96 wd]) (List.Perm.refl _) (List.Perm.refl _) 14 [0, 1, 2, 3, 7] [4, 5, 6, 8, 9, 10, 11, 12, 13] rfl rfl rfl rfl rfl rfl (by decide)
    refine Bth_mk (a := nI m9) aC aM ?_
    rintro _ _ rfl rfl
    exact ⟨((0, 2 + 3 * m9, nI (g 1 - 48)), zPa pg g m9, zPa pg g m9, gc, hh, ss, F, fd, wd), rfl, JIv_mk j9 j10 j1 j2 j3 hm16 j4 hqc hws hwt hwl hf hnx (Nat.zero_le _) j6 hgt hn60 hos hoe hoa hnn j5 k2 k2 hL hD2 hw8 j8 j7⟩
  · skip
    have aC := MI.pk (c_X8_load_bad l G (A 0) (A 1) (A 2) (A 3) (A 4) (A 5) (A 6) (A 7) (A 8) (A 9) V sd (A 21) g n hgt hn60 h) ⟨by decide, by decide, by decide, by decide⟩ (((V, sd), (s, t, lb, g9 0), (sc, tc, lc, kc), (sw, tw, lw, kw), (f, V0), (nx, sz), hq, sq, sfl, (g, n), (os, oe, oa, nn)) : zCS) (W := CW G A fr fsl ha sa ((V, sd), (s, t, lb, g9 0), (sc, tc, lc, kc), (sw, tw, lw, kw), (f, V0), (nx, sz), hq, sq, sfl, (g, n), (os, oe, oa, nn))) (W2 := CW G A fr fsl ha sa) (X := CX G A fr fsl ((V, sd), (s, t, lb, g9 0), (sc, tc, lc, kc), (sw, tw, lw, kw), (f, V0), (nx, sz), hq, sq, sfl, (g, n), (os, oe, oa, nn))) (pl := CH G ha hq ++ CL G sa sq) (X2 := CX G A fr fsl ((V, sd), (s, t, lb, g9 0), (sc, tc, lc, kc), (sw, tw, lw, kw), (f, V0), (nx, sz), hq, sq, sfl, (g, n), (os, oe, oa, nn))) (wr := [(A 1, .inr (1, [.ref (A 10), .ref (A 11), .ref (A 12), .int (nI (g9 0))])), zA G (A 10) 16 s, zA G (A 11) 16 t, zA G (A 12) 16 lb, (A 2, .inr (1, [.ref (A 13), .ref (A 14), .ref (A 15), .int (nI kc)])), zA G (A 13) 16 sc, zA G (A 14) 16 tc, zA G (A 15) 16 lc, (A 3, .inr (1, [.ref (A 16), .ref (A 17), .ref (A 18), .int (nI kw)])), zA G (A 16) 32 sw, zA G (A 17) 32 tw, zA G (A 18) 32 lw, (A 4, .inr (0, [.ref (A 19), .int (nI V0)])), zA G (A 19) 64 f, (A 5, .inr (3, [.ref (A 20), .int (nI nx), .int (nI sz)])), zR G (A 20) 14 fr, zR G (A 6) 2 fsl, zB G (A 7) 2 sfl, (A 9, .inr (4, [.ref (A 22), .ref (A 23), .ref (A 24), .int (nI nn)])), zA G (A 22) 6 os, zA G (A 23) 6 oe, zA G (A 24) 6 oa]) (List.Perm.refl _) (List.Perm.refl _) 25 [0, 19, 20] [1, 2, 3, 4, 5, 6, 7, 8, 9, 10, 11, 12, 13, 14, 15, 16, 17, 18, 21, 22, 23, 24] rfl rfl rfl rfl rfl rfl (by decide)
    have aM := MX.pk (c_X9_load_bad l G (B 0) (B 1) (B 2) (B 3) (B 4) (B 5) (B 6) (B 7) (B 8) (B 9) (B 10) (B 11) (B 12) (B 13) th n ps V sz nn pv sd g pg hgt hn60 hpg h) ⟨by decide, by decide, by decide, by decide⟩ (fun u => (((0, n, u.1, u.2.1, V, sz, nn, sd), g, u.2.2, g9, gc, hh, ss, sfl, os, oe, oa, F, fd, wd) : zMS)) (W := RW G B ((th, n, ps, pv, V, sz, nn, sd), g, pg, g9, gc, hh, ss, sfl, os, oe, oa, F, fd, wd)) (W2 := RW G B) (X := RX G B ((th, n, ps, pv, V, sz, nn, sd), g, pg, g9, gc, hh, ss, sfl, os, oe, oa, F, fd, wd)) (pl := []) (X2u := fun u => RX G B ((0, n, u.1, u.2.1, V, sz, nn, sd), g, u.2.2, g9, gc, hh, ss, sfl, os, oe, oa, F, fd, wd)) (wr := [zA G (B 3) 49 g9, zA G (B 4) 49 gc, zA G (B 5) 686 hh, zA G (B 6) 98 ss, zB G (B 7) 2 sfl, zA G (B 8) 6 os, zA G (B 9) 6 oe, zA G (B 10) 6 oa, zA G (B 11) 64 F, zA G (B 12) 64 fd, zA G (B 13) 96 wd]) (List.Perm.refl _) (fun u => List.Perm.refl _) 14 [0, 1, 2] [3, 4, 5, 6, 7, 8, 9, 10, 11, 12, 13] rfl (fun u => rfl) rfl (fun u => rfl) rfl (fun u => rfl) (by decide)
    refine Bth_mk (a := (-3)) aC aM ?_
    rintro _ _ rfl ⟨u, hu, rfl⟩
    exact ⟨((0, u.1, u.2.1), u.2.2, g9, gc, hh, ss, F, fd, wd), rfl, JIv_mk hV1 hV hbs hbt hlb hk hE hqc hws hwt hwl hf hnx hsz hsf hgt hn60 hos hoe hoa hnn hB hg8 hu.2 hL hD2 hw8 hH hS⟩
set_option maxHeartbeats 1000000 in
theorem st_vertexCount (l : Launch) (G : zG) {A : Nat → Nat} {fr fsl : Nat → Option Nat} {ha sa : Nat → zQA} {B : Nat → Nat} (hfr : ∀ i, i < 14 → fr i = some (ha i).1) (hfs : ∀ i, i < 2 → fsl i = some (sa i).1) {c : zCS} {r : zMS} (hI : LI c r) : Bth l G A fr fsl ha sa B yX8_vertexCount wsX8_vertexCount yX9_vertexCount wsX9_vertexCount [] c r := by
  obtain ⟨⟨⟨th, ps, pv⟩, pg, g9, gc, hh, ss, F, fd, wd⟩, hr, hJ⟩ := hI
  obtain ⟨⟨V, sd⟩, ⟨s, t, lb, k⟩, ⟨sc, tc, lc, kc⟩, ⟨sw, tw, lw, kw⟩, ⟨f, V0⟩, ⟨nx, sz⟩, hq, sq, sfl, ⟨g, n⟩, ⟨os, oe, oa, nn⟩⟩ := c
  have hr : r = ((th, n, ps, pv, V, sz, nn, sd), g, pg, g9, gc, hh, ss, sfl, os, oe, oa, F, fd, wd) := hr
  subst hr
  have hJ : JIv V s t lb k (sc, tc, lc, kc) sw tw lw f nx sz hq sq sfl g n os oe oa nn pg g9 hh ss F fd wd := hJ
  obtain ⟨⟨⟨hV1, hV⟩, ⟨hbs, hbt, hlb, hk, hE⟩, hqc, ⟨hws, hwt, hwl⟩, hf, hnx, hsz⟩, ⟨hsf, hgt, hn60, hos, hoe, hoa, hnn⟩, ⟨hB, hg8, hpg, hL, hD2, hw8⟩, hH, hS⟩ := hJ
  have hk0 : g9 0 = k := hB.1
  subst hk0
  have hg0 : g9 0 ≤ 16 := hk
  have hcs : ∀ i, sc i < 8 := hqc.1
  have hct : ∀ i, tc i < 8 := hqc.2.1
  have hcl : ∀ i, lc i < 7 := hqc.2.2.1
  have hkc : kc ≤ 16 := hqc.2.2.2
  have aC := MI.pk (c_X8_vertexCount l G (A 0) (A 1) (A 2) (A 3) (A 4) (A 5) (A 6) (A 7) (A 8) (A 9) V sd) ⟨by decide, by decide, by decide, by decide⟩ (((V, sd), (s, t, lb, g9 0), (sc, tc, lc, kc), (sw, tw, lw, kw), (f, V0), (nx, sz), hq, sq, sfl, (g, n), (os, oe, oa, nn)) : zCS) (W := CW G A fr fsl ha sa ((V, sd), (s, t, lb, g9 0), (sc, tc, lc, kc), (sw, tw, lw, kw), (f, V0), (nx, sz), hq, sq, sfl, (g, n), (os, oe, oa, nn))) (W2 := CW G A fr fsl ha sa) (X := CX G A fr fsl ((V, sd), (s, t, lb, g9 0), (sc, tc, lc, kc), (sw, tw, lw, kw), (f, V0), (nx, sz), hq, sq, sfl, (g, n), (os, oe, oa, nn))) (pl := CH G ha hq ++ CL G sa sq) (X2 := CX G A fr fsl ((V, sd), (s, t, lb, g9 0), (sc, tc, lc, kc), (sw, tw, lw, kw), (f, V0), (nx, sz), hq, sq, sfl, (g, n), (os, oe, oa, nn))) (wr := [(A 1, .inr (1, [.ref (A 10), .ref (A 11), .ref (A 12), .int (nI (g9 0))])), zA G (A 10) 16 s, zA G (A 11) 16 t, zA G (A 12) 16 lb, (A 2, .inr (1, [.ref (A 13), .ref (A 14), .ref (A 15), .int (nI kc)])), zA G (A 13) 16 sc, zA G (A 14) 16 tc, zA G (A 15) 16 lc, (A 3, .inr (1, [.ref (A 16), .ref (A 17), .ref (A 18), .int (nI kw)])), zA G (A 16) 32 sw, zA G (A 17) 32 tw, zA G (A 18) 32 lw, (A 4, .inr (0, [.ref (A 19), .int (nI V0)])), zA G (A 19) 64 f, (A 5, .inr (3, [.ref (A 20), .int (nI nx), .int (nI sz)])), zR G (A 20) 14 fr, zR G (A 6) 2 fsl, zB G (A 7) 2 sfl, (A 8, .inr (2, [.ref (A 21), .int (nI n)])), zA G (A 21) 60 g, (A 9, .inr (4, [.ref (A 22), .ref (A 23), .ref (A 24), .int (nI nn)])), zA G (A 22) 6 os, zA G (A 23) 6 oe, zA G (A 24) 6 oa]) (List.Perm.refl _) (List.Perm.refl _) 25 [0] [1, 2, 3, 4, 5, 6, 7, 8, 9, 10, 11, 12, 13, 14, 15, 16, 17, 18, 19, 20, 21, 22, 23, 24] rfl rfl rfl rfl rfl rfl (by decide)
  have aM := MI.pk (c_X9_vertexCount l G (B 0) (B 1) (B 2) (B 3) (B 4) (B 5) (B 6) (B 7) (B 8) (B 9) (B 10) (B 11) (B 12) (B 13) th n ps V sz nn pv sd) ⟨by decide, by decide, by decide, by decide⟩ (((0, n, ps, pv, V, sz, nn, sd), g, pg, g9, gc, hh, ss, sfl, os, oe, oa, F, fd, wd) : zMS) (W := RW G B ((th, n, ps, pv, V, sz, nn, sd), g, pg, g9, gc, hh, ss, sfl, os, oe, oa, F, fd, wd)) (W2 := RW G B) (X := RX G B ((th, n, ps, pv, V, sz, nn, sd), g, pg, g9, gc, hh, ss, sfl, os, oe, oa, F, fd, wd)) (pl := []) (X2 := RX G B ((0, n, ps, pv, V, sz, nn, sd), g, pg, g9, gc, hh, ss, sfl, os, oe, oa, F, fd, wd)) (wr := [zA G (B 1) 60 g, zA G (B 2) 49 pg, zA G (B 3) 49 g9, zA G (B 4) 49 gc, zA G (B 5) 686 hh, zA G (B 6) 98 ss, zB G (B 7) 2 sfl, zA G (B 8) 6 os, zA G (B 9) 6 oe, zA G (B 10) 6 oa, zA G (B 11) 64 F, zA G (B 12) 64 fd, zA G (B 13) 96 wd]) (List.Perm.refl _) (List.Perm.refl _) 14 [0] [1, 2, 3, 4, 5, 6, 7, 8, 9, 10, 11, 12, 13] rfl rfl rfl rfl rfl rfl (by decide)
  refine Bth_mk (a := nI V) aC aM ?_
  rintro _ _ rfl rfl
  exact ⟨((0, ps, pv), pg, g9, gc, hh, ss, F, fd, wd), rfl, JIv_mk hV1 hV hbs hbt hlb hk hE hqc hws hwt hwl hf hnx hsz hsf hgt hn60 hos hoe hoa hnn hB hg8 hpg hL hD2 hw8 hH hS⟩
set_option maxHeartbeats 1000000 in
theorem st_edgeCount (l : Launch) (G : zG) {A : Nat → Nat} {fr fsl : Nat → Option Nat} {ha sa : Nat → zQA} {B : Nat → Nat} (hfr : ∀ i, i < 14 → fr i = some (ha i).1) (hfs : ∀ i, i < 2 → fsl i = some (sa i).1) {c : zCS} {r : zMS} (hI : LI c r) : Bth l G A fr fsl ha sa B yX8_edgeCount wsX8_edgeCount yX9_edgeCount wsX9_edgeCount [] c r := by
  obtain ⟨⟨⟨th, ps, pv⟩, pg, g9, gc, hh, ss, F, fd, wd⟩, hr, hJ⟩ := hI
  obtain ⟨⟨V, sd⟩, ⟨s, t, lb, k⟩, ⟨sc, tc, lc, kc⟩, ⟨sw, tw, lw, kw⟩, ⟨f, V0⟩, ⟨nx, sz⟩, hq, sq, sfl, ⟨g, n⟩, ⟨os, oe, oa, nn⟩⟩ := c
  have hr : r = ((th, n, ps, pv, V, sz, nn, sd), g, pg, g9, gc, hh, ss, sfl, os, oe, oa, F, fd, wd) := hr
  subst hr
  have hJ : JIv V s t lb k (sc, tc, lc, kc) sw tw lw f nx sz hq sq sfl g n os oe oa nn pg g9 hh ss F fd wd := hJ
  obtain ⟨⟨⟨hV1, hV⟩, ⟨hbs, hbt, hlb, hk, hE⟩, hqc, ⟨hws, hwt, hwl⟩, hf, hnx, hsz⟩, ⟨hsf, hgt, hn60, hos, hoe, hoa, hnn⟩, ⟨hB, hg8, hpg, hL, hD2, hw8⟩, hH, hS⟩ := hJ
  have hk0 : g9 0 = k := hB.1
  subst hk0
  have hg0 : g9 0 ≤ 16 := hk
  have hcs : ∀ i, sc i < 8 := hqc.1
  have hct : ∀ i, tc i < 8 := hqc.2.1
  have hcl : ∀ i, lc i < 7 := hqc.2.2.1
  have hkc : kc ≤ 16 := hqc.2.2.2
  have aC := MI.pk (c_X8_edgeCount l G (A 0) (A 1) (A 2) (A 3) (A 4) (A 5) (A 6) (A 7) (A 8) (A 9) V sd (A 10) (A 11) (A 12) (g9 0)) ⟨by decide, by decide, by decide, by decide⟩ (((V, sd), (s, t, lb, (g9 0)), (sc, tc, lc, kc), (sw, tw, lw, kw), (f, V0), (nx, sz), hq, sq, sfl, (g, n), (os, oe, oa, nn)) : zCS) (W := CW G A fr fsl ha sa ((V, sd), (s, t, lb, g9 0), (sc, tc, lc, kc), (sw, tw, lw, kw), (f, V0), (nx, sz), hq, sq, sfl, (g, n), (os, oe, oa, nn))) (W2 := CW G A fr fsl ha sa) (X := CX G A fr fsl ((V, sd), (s, t, lb, g9 0), (sc, tc, lc, kc), (sw, tw, lw, kw), (f, V0), (nx, sz), hq, sq, sfl, (g, n), (os, oe, oa, nn))) (pl := CH G ha hq ++ CL G sa sq) (X2 := CX G A fr fsl ((V, sd), (s, t, lb, (g9 0)), (sc, tc, lc, kc), (sw, tw, lw, kw), (f, V0), (nx, sz), hq, sq, sfl, (g, n), (os, oe, oa, nn))) (wr := [zA G (A 10) 16 s, zA G (A 11) 16 t, zA G (A 12) 16 lb, (A 2, .inr (1, [.ref (A 13), .ref (A 14), .ref (A 15), .int (nI kc)])), zA G (A 13) 16 sc, zA G (A 14) 16 tc, zA G (A 15) 16 lc, (A 3, .inr (1, [.ref (A 16), .ref (A 17), .ref (A 18), .int (nI kw)])), zA G (A 16) 32 sw, zA G (A 17) 32 tw, zA G (A 18) 32 lw, (A 4, .inr (0, [.ref (A 19), .int (nI V0)])), zA G (A 19) 64 f, (A 5, .inr (3, [.ref (A 20), .int (nI nx), .int (nI sz)])), zR G (A 20) 14 fr, zR G (A 6) 2 fsl, zB G (A 7) 2 sfl, (A 8, .inr (2, [.ref (A 21), .int (nI n)])), zA G (A 21) 60 g, (A 9, .inr (4, [.ref (A 22), .ref (A 23), .ref (A 24), .int (nI nn)])), zA G (A 22) 6 os, zA G (A 23) 6 oe, zA G (A 24) 6 oa]) (List.Perm.refl _) (List.Perm.refl _) 25 [0, 1] [2, 3, 4, 5, 6, 7, 8, 9, 10, 11, 12, 13, 14, 15, 16, 17, 18, 19, 20, 21, 22, 23, 24] rfl rfl rfl rfl rfl rfl (by decide)
  have aM := MI.pk (c_X9_edgeCount l G (B 0) (B 1) (B 2) (B 3) (B 4) (B 5) (B 6) (B 7) (B 8) (B 9) (B 10) (B 11) (B 12) (B 13) th n ps V sz nn pv sd g9) ⟨by decide, by decide, by decide, by decide⟩ (((0, n, ps, pv, V, sz, nn, sd), g, pg, g9, gc, hh, ss, sfl, os, oe, oa, F, fd, wd) : zMS) (W := RW G B ((th, n, ps, pv, V, sz, nn, sd), g, pg, g9, gc, hh, ss, sfl, os, oe, oa, F, fd, wd)) (W2 := RW G B) (X := RX G B ((th, n, ps, pv, V, sz, nn, sd), g, pg, g9, gc, hh, ss, sfl, os, oe, oa, F, fd, wd)) (pl := []) (X2 := RX G B ((0, n, ps, pv, V, sz, nn, sd), g, pg, g9, gc, hh, ss, sfl, os, oe, oa, F, fd, wd)) (wr := [zA G (B 1) 60 g, zA G (B 2) 49 pg, zA G (B 4) 49 gc, zA G (B 5) 686 hh, zA G (B 6) 98 ss, zB G (B 7) 2 sfl, zA G (B 8) 6 os, zA G (B 9) 6 oe, zA G (B 10) 6 oa, zA G (B 11) 64 F, zA G (B 12) 64 fd, zA G (B 13) 96 wd]) (List.Perm.refl _) (List.Perm.refl _) 14 [0, 3] [1, 2, 4, 5, 6, 7, 8, 9, 10, 11, 12, 13] rfl rfl rfl rfl rfl rfl (by decide)
  refine Bth_mk (a := nI (g9 0)) aC aM ?_
  rintro _ _ rfl rfl
  exact ⟨((0, ps, pv), pg, g9, gc, hh, ss, F, fd, wd), rfl, JIv_mk hV1 hV hbs hbt hlb hk hE hqc hws hwt hwl hf hnx hsz hsf hgt hn60 hos hoe hoa hnn hB hg8 hpg hL hD2 hw8 hH hS⟩
set_option maxHeartbeats 1000000 in
theorem st_source (l : Launch) (G : zG) {A : Nat → Nat} {fr fsl : Nat → Option Nat} {ha sa : Nat → zQA} {B : Nat → Nat} (hfr : ∀ i, i < 14 → fr i = some (ha i).1) (hfs : ∀ i, i < 2 → fsl i = some (sa i).1) {c : zCS} {r : zMS} (hI : LI c r) (x : Int32) : Bth l G A fr fsl ha sa B yX8_source wsX8_source yX9_source wsX9_source [.int x] c r := by
  obtain ⟨⟨⟨th, ps, pv⟩, pg, g9, gc, hh, ss, F, fd, wd⟩, hr, hJ⟩ := hI
  obtain ⟨⟨V, sd⟩, ⟨s, t, lb, k⟩, ⟨sc, tc, lc, kc⟩, ⟨sw, tw, lw, kw⟩, ⟨f, V0⟩, ⟨nx, sz⟩, hq, sq, sfl, ⟨g, n⟩, ⟨os, oe, oa, nn⟩⟩ := c
  have hr : r = ((th, n, ps, pv, V, sz, nn, sd), g, pg, g9, gc, hh, ss, sfl, os, oe, oa, F, fd, wd) := hr
  subst hr
  have hJ : JIv V s t lb k (sc, tc, lc, kc) sw tw lw f nx sz hq sq sfl g n os oe oa nn pg g9 hh ss F fd wd := hJ
  obtain ⟨⟨⟨hV1, hV⟩, ⟨hbs, hbt, hlb, hk, hE⟩, hqc, ⟨hws, hwt, hwl⟩, hf, hnx, hsz⟩, ⟨hsf, hgt, hn60, hos, hoe, hoa, hnn⟩, ⟨hB, hg8, hpg, hL, hD2, hw8⟩, hH, hS⟩ := hJ
  have hk0 : g9 0 = k := hB.1
  subst hk0
  have hg0 : g9 0 ≤ 16 := hk
  have hcs : ∀ i, sc i < 8 := hqc.1
  have hct : ∀ i, tc i < 8 := hqc.2.1
  have hcl : ∀ i, lc i < 7 := hqc.2.2.1
  have hkc : kc ≤ 16 := hqc.2.2.2
  have aC := MI.pk (c_X8_source l G (A 0) (A 1) (A 2) (A 3) (A 4) (A 5) (A 6) (A 7) (A 8) (A 9) V sd (A 10) (A 11) (A 12) (g9 0) s x hk) ⟨by decide, by decide, by decide, by decide⟩ (((V, sd), (s, t, lb, (g9 0)), (sc, tc, lc, kc), (sw, tw, lw, kw), (f, V0), (nx, sz), hq, sq, sfl, (g, n), (os, oe, oa, nn)) : zCS) (W := CW G A fr fsl ha sa ((V, sd), (s, t, lb, g9 0), (sc, tc, lc, kc), (sw, tw, lw, kw), (f, V0), (nx, sz), hq, sq, sfl, (g, n), (os, oe, oa, nn))) (W2 := CW G A fr fsl ha sa) (X := CX G A fr fsl ((V, sd), (s, t, lb, g9 0), (sc, tc, lc, kc), (sw, tw, lw, kw), (f, V0), (nx, sz), hq, sq, sfl, (g, n), (os, oe, oa, nn))) (pl := CH G ha hq ++ CL G sa sq) (X2 := CX G A fr fsl ((V, sd), (s, t, lb, (g9 0)), (sc, tc, lc, kc), (sw, tw, lw, kw), (f, V0), (nx, sz), hq, sq, sfl, (g, n), (os, oe, oa, nn))) (wr := [zA G (A 11) 16 t, zA G (A 12) 16 lb, (A 2, .inr (1, [.ref (A 13), .ref (A 14), .ref (A 15), .int (nI kc)])), zA G (A 13) 16 sc, zA G (A 14) 16 tc, zA G (A 15) 16 lc, (A 3, .inr (1, [.ref (A 16), .ref (A 17), .ref (A 18), .int (nI kw)])), zA G (A 16) 32 sw, zA G (A 17) 32 tw, zA G (A 18) 32 lw, (A 4, .inr (0, [.ref (A 19), .int (nI V0)])), zA G (A 19) 64 f, (A 5, .inr (3, [.ref (A 20), .int (nI nx), .int (nI sz)])), zR G (A 20) 14 fr, zR G (A 6) 2 fsl, zB G (A 7) 2 sfl, (A 8, .inr (2, [.ref (A 21), .int (nI n)])), zA G (A 21) 60 g, (A 9, .inr (4, [.ref (A 22), .ref (A 23), .ref (A 24), .int (nI nn)])), zA G (A 22) 6 os, zA G (A 23) 6 oe, zA G (A 24) 6 oa]) (List.Perm.refl _) (List.Perm.refl _) 25 [0, 1, 2] [3, 4, 5, 6, 7, 8, 9, 10, 11, 12, 13, 14, 15, 16, 17, 18, 19, 20, 21, 22, 23, 24] rfl rfl rfl rfl rfl rfl (by decide)
  have aM := MX.an (MI.pk (c_X9_source l G (B 0) (B 1) (B 2) (B 3) (B 4) (B 5) (B 6) (B 7) (B 8) (B 9) (B 10) (B 11) (B 12) (B 13) th n ps V sz nn pv sd g9 x hg0) ⟨by decide, by decide, by decide, by decide⟩ (((0, n, ps, pv, V, sz, nn, sd), g, pg, g9, gc, hh, ss, sfl, os, oe, oa, F, fd, wd) : zMS) (W := RW G B ((th, n, ps, pv, V, sz, nn, sd), g, pg, g9, gc, hh, ss, sfl, os, oe, oa, F, fd, wd)) (W2 := RW G B) (X := RX G B ((th, n, ps, pv, V, sz, nn, sd), g, pg, g9, gc, hh, ss, sfl, os, oe, oa, F, fd, wd)) (pl := []) (X2 := RX G B ((0, n, ps, pv, V, sz, nn, sd), g, pg, g9, gc, hh, ss, sfl, os, oe, oa, F, fd, wd)) (wr := [zA G (B 1) 60 g, zA G (B 2) 49 pg, zA G (B 4) 49 gc, zA G (B 5) 686 hh, zA G (B 6) 98 ss, zB G (B 7) 2 sfl, zA G (B 8) 6 os, zA G (B 9) 6 oe, zA G (B 10) 6 oa, zA G (B 11) 64 F, zA G (B 12) 64 fd, zA G (B 13) 96 wd]) (List.Perm.refl _) (List.Perm.refl _) 14 [0, 3] [1, 2, 4, 5, 6, 7, 8, 9, 10, 11, 12, 13] rfl rfl rfl rfl rfl rfl (by decide)) ((eq_get hB x).1)
  refine Bth_mk (a := zGet s (g9 0) x) aC aM ?_
  rintro _ _ rfl rfl
  exact ⟨((0, ps, pv), pg, g9, gc, hh, ss, F, fd, wd), rfl, JIv_mk hV1 hV hbs hbt hlb hk hE hqc hws hwt hwl hf hnx hsz hsf hgt hn60 hos hoe hoa hnn hB hg8 hpg hL hD2 hw8 hH hS⟩
set_option maxHeartbeats 1000000 in
theorem st_target (l : Launch) (G : zG) {A : Nat → Nat} {fr fsl : Nat → Option Nat} {ha sa : Nat → zQA} {B : Nat → Nat} (hfr : ∀ i, i < 14 → fr i = some (ha i).1) (hfs : ∀ i, i < 2 → fsl i = some (sa i).1) {c : zCS} {r : zMS} (hI : LI c r) (x : Int32) : Bth l G A fr fsl ha sa B yX8_target wsX8_target yX9_target wsX9_target [.int x] c r := by
  obtain ⟨⟨⟨th, ps, pv⟩, pg, g9, gc, hh, ss, F, fd, wd⟩, hr, hJ⟩ := hI
  obtain ⟨⟨V, sd⟩, ⟨s, t, lb, k⟩, ⟨sc, tc, lc, kc⟩, ⟨sw, tw, lw, kw⟩, ⟨f, V0⟩, ⟨nx, sz⟩, hq, sq, sfl, ⟨g, n⟩, ⟨os, oe, oa, nn⟩⟩ := c
  have hr : r = ((th, n, ps, pv, V, sz, nn, sd), g, pg, g9, gc, hh, ss, sfl, os, oe, oa, F, fd, wd) := hr
  subst hr
  have hJ : JIv V s t lb k (sc, tc, lc, kc) sw tw lw f nx sz hq sq sfl g n os oe oa nn pg g9 hh ss F fd wd := hJ
  obtain ⟨⟨⟨hV1, hV⟩, ⟨hbs, hbt, hlb, hk, hE⟩, hqc, ⟨hws, hwt, hwl⟩, hf, hnx, hsz⟩, ⟨hsf, hgt, hn60, hos, hoe, hoa, hnn⟩, ⟨hB, hg8, hpg, hL, hD2, hw8⟩, hH, hS⟩ := hJ
  have hk0 : g9 0 = k := hB.1
  subst hk0
  have hg0 : g9 0 ≤ 16 := hk
  have hcs : ∀ i, sc i < 8 := hqc.1
  have hct : ∀ i, tc i < 8 := hqc.2.1
  have hcl : ∀ i, lc i < 7 := hqc.2.2.1
  have hkc : kc ≤ 16 := hqc.2.2.2
  have aC := MI.pk (c_X8_target l G (A 0) (A 1) (A 2) (A 3) (A 4) (A 5) (A 6) (A 7) (A 8) (A 9) V sd (A 10) (A 11) (A 12) (g9 0) t x hk) ⟨by decide, by decide, by decide, by decide⟩ (((V, sd), (s, t, lb, (g9 0)), (sc, tc, lc, kc), (sw, tw, lw, kw), (f, V0), (nx, sz), hq, sq, sfl, (g, n), (os, oe, oa, nn)) : zCS) (W := CW G A fr fsl ha sa ((V, sd), (s, t, lb, g9 0), (sc, tc, lc, kc), (sw, tw, lw, kw), (f, V0), (nx, sz), hq, sq, sfl, (g, n), (os, oe, oa, nn))) (W2 := CW G A fr fsl ha sa) (X := CX G A fr fsl ((V, sd), (s, t, lb, g9 0), (sc, tc, lc, kc), (sw, tw, lw, kw), (f, V0), (nx, sz), hq, sq, sfl, (g, n), (os, oe, oa, nn))) (pl := CH G ha hq ++ CL G sa sq) (X2 := CX G A fr fsl ((V, sd), (s, t, lb, (g9 0)), (sc, tc, lc, kc), (sw, tw, lw, kw), (f, V0), (nx, sz), hq, sq, sfl, (g, n), (os, oe, oa, nn))) (wr := [zA G (A 10) 16 s, zA G (A 12) 16 lb, (A 2, .inr (1, [.ref (A 13), .ref (A 14), .ref (A 15), .int (nI kc)])), zA G (A 13) 16 sc, zA G (A 14) 16 tc, zA G (A 15) 16 lc, (A 3, .inr (1, [.ref (A 16), .ref (A 17), .ref (A 18), .int (nI kw)])), zA G (A 16) 32 sw, zA G (A 17) 32 tw, zA G (A 18) 32 lw, (A 4, .inr (0, [.ref (A 19), .int (nI V0)])), zA G (A 19) 64 f, (A 5, .inr (3, [.ref (A 20), .int (nI nx), .int (nI sz)])), zR G (A 20) 14 fr, zR G (A 6) 2 fsl, zB G (A 7) 2 sfl, (A 8, .inr (2, [.ref (A 21), .int (nI n)])), zA G (A 21) 60 g, (A 9, .inr (4, [.ref (A 22), .ref (A 23), .ref (A 24), .int (nI nn)])), zA G (A 22) 6 os, zA G (A 23) 6 oe, zA G (A 24) 6 oa]) (List.Perm.refl _) (List.Perm.refl _) 25 [0, 1, 3] [2, 4, 5, 6, 7, 8, 9, 10, 11, 12, 13, 14, 15, 16, 17, 18, 19, 20, 21, 22, 23, 24] rfl rfl rfl rfl rfl rfl (by decide)
  have aM := MX.an (MI.pk (c_X9_target l G (B 0) (B 1) (B 2) (B 3) (B 4) (B 5) (B 6) (B 7) (B 8) (B 9) (B 10) (B 11) (B 12) (B 13) th n ps V sz nn pv sd g9 x hg0) ⟨by decide, by decide, by decide, by decide⟩ (((0, n, ps, pv, V, sz, nn, sd), g, pg, g9, gc, hh, ss, sfl, os, oe, oa, F, fd, wd) : zMS) (W := RW G B ((th, n, ps, pv, V, sz, nn, sd), g, pg, g9, gc, hh, ss, sfl, os, oe, oa, F, fd, wd)) (W2 := RW G B) (X := RX G B ((th, n, ps, pv, V, sz, nn, sd), g, pg, g9, gc, hh, ss, sfl, os, oe, oa, F, fd, wd)) (pl := []) (X2 := RX G B ((0, n, ps, pv, V, sz, nn, sd), g, pg, g9, gc, hh, ss, sfl, os, oe, oa, F, fd, wd)) (wr := [zA G (B 1) 60 g, zA G (B 2) 49 pg, zA G (B 4) 49 gc, zA G (B 5) 686 hh, zA G (B 6) 98 ss, zB G (B 7) 2 sfl, zA G (B 8) 6 os, zA G (B 9) 6 oe, zA G (B 10) 6 oa, zA G (B 11) 64 F, zA G (B 12) 64 fd, zA G (B 13) 96 wd]) (List.Perm.refl _) (List.Perm.refl _) 14 [0, 3] [1, 2, 4, 5, 6, 7, 8, 9, 10, 11, 12, 13] rfl rfl rfl rfl rfl rfl (by decide)) ((eq_get hB x).2.1)
  refine Bth_mk (a := zGet t (g9 0) x) aC aM ?_
  rintro _ _ rfl rfl
  exact ⟨((0, ps, pv), pg, g9, gc, hh, ss, F, fd, wd), rfl, JIv_mk hV1 hV hbs hbt hlb hk hE hqc hws hwt hwl hf hnx hsz hsf hgt hn60 hos hoe hoa hnn hB hg8 hpg hL hD2 hw8 hH hS⟩
set_option maxHeartbeats 1000000 in
theorem st_label (l : Launch) (G : zG) {A : Nat → Nat} {fr fsl : Nat → Option Nat} {ha sa : Nat → zQA} {B : Nat → Nat} (hfr : ∀ i, i < 14 → fr i = some (ha i).1) (hfs : ∀ i, i < 2 → fsl i = some (sa i).1) {c : zCS} {r : zMS} (hI : LI c r) (x : Int32) : Bth l G A fr fsl ha sa B yX8_label wsX8_label yX9_label wsX9_label [.int x] c r := by
  obtain ⟨⟨⟨th, ps, pv⟩, pg, g9, gc, hh, ss, F, fd, wd⟩, hr, hJ⟩ := hI
  obtain ⟨⟨V, sd⟩, ⟨s, t, lb, k⟩, ⟨sc, tc, lc, kc⟩, ⟨sw, tw, lw, kw⟩, ⟨f, V0⟩, ⟨nx, sz⟩, hq, sq, sfl, ⟨g, n⟩, ⟨os, oe, oa, nn⟩⟩ := c
  have hr : r = ((th, n, ps, pv, V, sz, nn, sd), g, pg, g9, gc, hh, ss, sfl, os, oe, oa, F, fd, wd) := hr
  subst hr
  have hJ : JIv V s t lb k (sc, tc, lc, kc) sw tw lw f nx sz hq sq sfl g n os oe oa nn pg g9 hh ss F fd wd := hJ
  obtain ⟨⟨⟨hV1, hV⟩, ⟨hbs, hbt, hlb, hk, hE⟩, hqc, ⟨hws, hwt, hwl⟩, hf, hnx, hsz⟩, ⟨hsf, hgt, hn60, hos, hoe, hoa, hnn⟩, ⟨hB, hg8, hpg, hL, hD2, hw8⟩, hH, hS⟩ := hJ
  have hk0 : g9 0 = k := hB.1
  subst hk0
  have hg0 : g9 0 ≤ 16 := hk
  have hcs : ∀ i, sc i < 8 := hqc.1
  have hct : ∀ i, tc i < 8 := hqc.2.1
  have hcl : ∀ i, lc i < 7 := hqc.2.2.1
  have hkc : kc ≤ 16 := hqc.2.2.2
  have aC := MI.pk (c_X8_label l G (A 0) (A 1) (A 2) (A 3) (A 4) (A 5) (A 6) (A 7) (A 8) (A 9) V sd (A 10) (A 11) (A 12) (g9 0) lb x hk) ⟨by decide, by decide, by decide, by decide⟩ (((V, sd), (s, t, lb, (g9 0)), (sc, tc, lc, kc), (sw, tw, lw, kw), (f, V0), (nx, sz), hq, sq, sfl, (g, n), (os, oe, oa, nn)) : zCS) (W := CW G A fr fsl ha sa ((V, sd), (s, t, lb, g9 0), (sc, tc, lc, kc), (sw, tw, lw, kw), (f, V0), (nx, sz), hq, sq, sfl, (g, n), (os, oe, oa, nn))) (W2 := CW G A fr fsl ha sa) (X := CX G A fr fsl ((V, sd), (s, t, lb, g9 0), (sc, tc, lc, kc), (sw, tw, lw, kw), (f, V0), (nx, sz), hq, sq, sfl, (g, n), (os, oe, oa, nn))) (pl := CH G ha hq ++ CL G sa sq) (X2 := CX G A fr fsl ((V, sd), (s, t, lb, (g9 0)), (sc, tc, lc, kc), (sw, tw, lw, kw), (f, V0), (nx, sz), hq, sq, sfl, (g, n), (os, oe, oa, nn))) (wr := [zA G (A 10) 16 s, zA G (A 11) 16 t, (A 2, .inr (1, [.ref (A 13), .ref (A 14), .ref (A 15), .int (nI kc)])), zA G (A 13) 16 sc, zA G (A 14) 16 tc, zA G (A 15) 16 lc, (A 3, .inr (1, [.ref (A 16), .ref (A 17), .ref (A 18), .int (nI kw)])), zA G (A 16) 32 sw, zA G (A 17) 32 tw, zA G (A 18) 32 lw, (A 4, .inr (0, [.ref (A 19), .int (nI V0)])), zA G (A 19) 64 f, (A 5, .inr (3, [.ref (A 20), .int (nI nx), .int (nI sz)])), zR G (A 20) 14 fr, zR G (A 6) 2 fsl, zB G (A 7) 2 sfl, (A 8, .inr (2, [.ref (A 21), .int (nI n)])), zA G (A 21) 60 g, (A 9, .inr (4, [.ref (A 22), .ref (A 23), .ref (A 24), .int (nI nn)])), zA G (A 22) 6 os, zA G (A 23) 6 oe, zA G (A 24) 6 oa]) (List.Perm.refl _) (List.Perm.refl _) 25 [0, 1, 4] [2, 3, 5, 6, 7, 8, 9, 10, 11, 12, 13, 14, 15, 16, 17, 18, 19, 20, 21, 22, 23, 24] rfl rfl rfl rfl rfl rfl (by decide)
  have aM := MX.an (MI.pk (c_X9_label l G (B 0) (B 1) (B 2) (B 3) (B 4) (B 5) (B 6) (B 7) (B 8) (B 9) (B 10) (B 11) (B 12) (B 13) th n ps V sz nn pv sd g9 x hg0) ⟨by decide, by decide, by decide, by decide⟩ (((0, n, ps, pv, V, sz, nn, sd), g, pg, g9, gc, hh, ss, sfl, os, oe, oa, F, fd, wd) : zMS) (W := RW G B ((th, n, ps, pv, V, sz, nn, sd), g, pg, g9, gc, hh, ss, sfl, os, oe, oa, F, fd, wd)) (W2 := RW G B) (X := RX G B ((th, n, ps, pv, V, sz, nn, sd), g, pg, g9, gc, hh, ss, sfl, os, oe, oa, F, fd, wd)) (pl := []) (X2 := RX G B ((0, n, ps, pv, V, sz, nn, sd), g, pg, g9, gc, hh, ss, sfl, os, oe, oa, F, fd, wd)) (wr := [zA G (B 1) 60 g, zA G (B 2) 49 pg, zA G (B 4) 49 gc, zA G (B 5) 686 hh, zA G (B 6) 98 ss, zB G (B 7) 2 sfl, zA G (B 8) 6 os, zA G (B 9) 6 oe, zA G (B 10) 6 oa, zA G (B 11) 64 F, zA G (B 12) 64 fd, zA G (B 13) 96 wd]) (List.Perm.refl _) (List.Perm.refl _) 14 [0, 3] [1, 2, 4, 5, 6, 7, 8, 9, 10, 11, 12, 13] rfl rfl rfl rfl rfl rfl (by decide)) ((eq_get hB x).2.2)
  refine Bth_mk (a := zGet lb (g9 0) x) aC aM ?_
  rintro _ _ rfl rfl
  exact ⟨((0, ps, pv), pg, g9, gc, hh, ss, F, fd, wd), rfl, JIv_mk hV1 hV hbs hbt hlb hk hE hqc hws hwt hwl hf hnx hsz hsf hgt hn60 hos hoe hoa hnn hB hg8 hpg hL hD2 hw8 hH hS⟩
