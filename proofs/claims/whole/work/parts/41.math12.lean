/-! one command of a script: both answer the same, and the copies stay one graph -/
theorem eq_cmd {f g s t lb : Nat → Nat} {k V gp : Nat} (hB : Blk g s t lb k) (hk : k ≤ 16) (hg : ∀ i, 1 ≤ i → g i < 8) (hE : ∀ i, i < k → s i < V ∧ t i < V) (hV : V ≤ 8) (hf : zT9 f) : zSuB f s t lb k V gp = mCm V g (gp / 1000) (gp / 100 % 10) (gp / 10 % 10) (gp % 10) := by
  have hk0 := hB.1
  unfold zSuB mCm
  generalize gp / 1000 = o
  have hc10 : gp % 10 < 10 := Nat.mod_lt _ (by decide)
  generalize gp / 100 % 10 = a
  generalize gp / 10 % 10 = b
  generalize gp % 10 = c at hc10
  by_cases h1 : o = 1
  · rw [if_pos h1, if_pos h1]
    exact decide_eq_decide.mpr (by rw [hk0]; unfold zAdP; omega)
  · rw [if_neg h1, if_neg h1]
    by_cases h2 : o = 2
    · rw [if_pos h2, if_pos h2, hk0]
    · rw [if_neg h2, if_neg h2]
      by_cases h3 : o = 3
      · rw [if_pos h3, if_pos h3]
        refine decide_eq_decide.mpr ?_
        constructor
        · rintro ⟨ha, hb, hc, hi⟩
          refine ⟨ha, hb, hc, ?_⟩
          rw [zHas_bit (show b < 8 by omega), bits_T hE hV (show a < 8 by omega) (show b < 8 by omega) (mT_ex1 hB hk hg (show a < 8 by omega) (show b < 8 by omega))] at hi
          exact ⟨fun q => hi.mp ⟨ha, hb, q⟩, fun q => (hi.mpr q).2.2⟩
        · rintro ⟨ha, hb, hc, hi⟩
          refine ⟨ha, hb, hc, ?_⟩
          rw [zHas_bit (show b < 8 by omega), bits_T hE hV (show a < 8 by omega) (show b < 8 by omega) (mT_ex1 hB hk hg (show a < 8 by omega) (show b < 8 by omega))]
          exact ⟨fun q => hi.mp q.2.2, fun q => ⟨ha, hb, hi.mpr q⟩⟩
      · rw [if_neg h3, if_neg h3]
        by_cases h4 : o = 4
        · have hp := eq_pairs hB hk hg hE hV
          unfold zPr at hp
          rw [if_pos h4, if_pos h4, hp]
        · rw [if_neg h4, if_neg h4]
          by_cases h5 : o = 5
          · rw [if_pos h5, if_pos h5]
            refine decide_eq_decide.mpr ?_
            have key : a < V → b < V → (zMs f s t lb k V (8 * a + b) = c ↔ mT g 65535 (8 * a + b) = c) := by
              intro ha hb
              rcases zMs_exact hE hV hf ha hb with ⟨n, hd, he⟩ | ⟨hn, he⟩
              · rcases mT_ex1 hB hk hg (show a < 8 by omega) (show b < 8 by omega) with ⟨m, hd2, he2⟩ | ⟨hn2, -⟩
                · rw [he, he2, isD_un hd hd2]
                · exact absurd hd.1 (hn2 n)
              · rcases mT_ex1 hB hk hg (show a < 8 by omega) (show b < 8 by omega) with ⟨m, hd2, -⟩ | ⟨-, he2⟩
                · exact absurd hd2.1 (hn m)
                · rw [he, he2]
                  exact ⟨fun q => by omega, fun q => by omega⟩
            exact ⟨fun ⟨ha, hb, hi⟩ => ⟨ha, hb, (key ha hb).mp hi⟩, fun ⟨ha, hb, hi⟩ => ⟨ha, hb, (key ha hb).mpr hi⟩⟩
          · rw [if_neg h5, if_neg h5]
theorem Blk_cmd {g s t lb : Nat → Nat} {k V gp : Nat} (hB : Blk g s t lb k) (hk : k ≤ 16) : Blk (mCmG V g (gp / 1000) (gp / 100 % 10) (gp / 10 % 10) (gp % 10)) (zSuE s t lb k V gp).1 (zSuE s t lb k V gp).2.1 (zSuE s t lb k V gp).2.2.1 (zSuE s t lb k V gp).2.2.2 := by
  have hk0 := hB.1
  unfold zSuE mCmG zAdE zRmE
  generalize gp / 1000 = o
  generalize gp / 100 % 10 = a
  generalize gp / 10 % 10 = b
  generalize gp % 10 = c
  by_cases h1 : o = 1
  · rw [if_pos h1]
    by_cases hp : zAdP k V a b c
    · rw [if_pos hp, if_pos (by rw [hk0]; unfold zAdP at hp; omega)]; exact Blk_put hB
    · rw [if_neg hp, if_neg (by rw [hk0]; unfold zAdP at hp; omega), if_neg (by omega)]; exact hB
  · rw [if_neg h1, if_neg (by omega)]
    by_cases h2 : o = 2
    · rw [if_pos h2]
      by_cases ha : a = 0
      · rw [if_pos ha]
        by_cases hl : 10 * b + c < k
        · rw [if_pos hl, if_pos (by rw [hk0]; exact ⟨h2, ha, hl⟩)]; exact Blk_drop hB hk hl
        · rw [if_neg hl, if_neg (by rw [hk0]; omega)]; exact hB
      · rw [if_neg ha, if_neg (by omega)]; exact hB
    · rw [if_neg h2, if_neg (by omega)]; exact hB
