/-! the bidirected closure -/
theorem mBd_at {wd g : Nat → Nat} : ∀ n i, i < n → mBd wd g n (6 * i) = g (1 + 3 * i) ∧ mBd wd g n (6 * i + 1) = g (2 + 3 * i) ∧ mBd wd g n (6 * i + 2) = g (3 + 3 * i) ∧ mBd wd g n (6 * i + 3) = g (2 + 3 * i) ∧ mBd wd g n (6 * i + 4) = g (1 + 3 * i) ∧ mBd wd g n (6 * i + 5) = zOB (g (3 + 3 * i))
  | 0, _, h => absurd h (Nat.not_lt_zero _)
  | n + 1, i, h => by
    rw [mBd_s]
    simp only [zU]
    by_cases hin : i = n
    · subst hin
      simp
    · have ih := mBd_at (wd := wd) (g := g) n i (by omega)
      refine ⟨?_, ?_, ?_, ?_, ?_, ?_⟩
      · rw [if_neg (by omega), if_neg (by omega), if_neg (by omega), if_neg (by omega), if_neg (by omega), if_neg (by omega)]; exact ih.1
      · rw [if_neg (by omega), if_neg (by omega), if_neg (by omega), if_neg (by omega), if_neg (by omega), if_neg (by omega)]; exact ih.2.1
      · rw [if_neg (by omega), if_neg (by omega), if_neg (by omega), if_neg (by omega), if_neg (by omega), if_neg (by omega)]; exact ih.2.2.1
      · rw [if_neg (by omega), if_neg (by omega), if_neg (by omega), if_neg (by omega), if_neg (by omega), if_neg (by omega)]; exact ih.2.2.2.1
      · rw [if_neg (by omega), if_neg (by omega), if_neg (by omega), if_neg (by omega), if_neg (by omega), if_neg (by omega)]; exact ih.2.2.2.2.1
      · rw [if_neg (by omega), if_neg (by omega), if_neg (by omega), if_neg (by omega), if_neg (by omega), if_neg (by omega)]; exact ih.2.2.2.2.2
theorem zBw_a {a s t : Nat → Nat} {k i : Nat} (h : i < k) : zBw a s t k k i = s i := by unfold zBw; rw [if_pos h]
theorem zBw_b {a s t : Nat → Nat} {k i : Nat} (h : i < k) : zBw a s t k k (k + i) = t i := by unfold zBw; rw [if_neg (by omega), if_pos (by omega), show k + i - k = i by omega]
theorem bi_rows {g s t lb : Nat → Nat} {k i : Nat} (hB : Blk g s t lb k) (hi : i < k) : (wS (mBd z0 g k) (2 * i) = s i ∧ wT (mBd z0 g k) (2 * i) = t i ∧ wL (mBd z0 g k) (2 * i) = lb i) ∧ (wS (mBd z0 g k) (2 * i + 1) = t i ∧ wT (mBd z0 g k) (2 * i + 1) = s i ∧ wL (mBd z0 g k) (2 * i + 1) = zOB (lb i)) := by
  obtain ⟨h1, h2, h3⟩ := hB.2 i hi
  have h2 : g (2 + 3 * i) = t i := by rw [show 2 + 3 * i = 1 + 3 * i + 1 by omega]; exact h2
  have h3 : g (3 + 3 * i) = lb i := by rw [show 3 + 3 * i = 1 + 3 * i + 2 by omega]; exact h3
  have ha := mBd_at (wd := z0) (g := g) k i hi
  rw [h1, h2, h3] at ha
  unfold wS wT wL
  rw [show 3 * (2 * i) = 6 * i by omega, show 3 * (2 * i + 1) = 6 * i + 3 by omega]
  exact ⟨⟨ha.1, ha.2.1, ha.2.2.1⟩, ⟨ha.2.2.2.1, ha.2.2.2.2.1, ha.2.2.2.2.2⟩⟩
theorem Pth_bi {g s t lb : Nat → Nat} {k : Nat} (hB : Blk g s t lb k) (n u v : Nat) : Pth (wS (mBd z0 g k)) (wT (mBd z0 g k)) (wL (mBd z0 g k)) (2 * k) n u v ↔ Pth (zBw z0 s t k k) (zBw z0 t s k k) (zBw z0 lb (zOBs lb) k k) (k + k) n u v := by
  constructor
  · refine Pth_sub (fun i hi => ?_)
    by_cases he : i % 2 = 0
    · have hr := (bi_rows hB (show i / 2 < k by omega)).1
      rw [show 2 * (i / 2) = i by omega] at hr
      refine ⟨i / 2, by omega, ?_, ?_, ?_⟩
      · rw [zBw_a (by omega), hr.1]
      · rw [zBw_a (by omega), hr.2.1]
      · rw [zBw_a (by omega), hr.2.2]
    · have hr := (bi_rows hB (show i / 2 < k by omega)).2
      rw [show 2 * (i / 2) + 1 = i by omega] at hr
      refine ⟨k + i / 2, by omega, ?_, ?_, ?_⟩
      · rw [zBw_b (by omega), hr.1]
      · rw [zBw_b (by omega), hr.2.1]
      · rw [zBw_b (by omega), hr.2.2]; rfl
  · refine Pth_sub (fun i hi => ?_)
    by_cases hlt : i < k
    · have hr := (bi_rows hB hlt).1
      refine ⟨2 * i, by omega, ?_, ?_, ?_⟩
      · rw [zBw_a hlt, hr.1]
      · rw [zBw_a hlt, hr.2.1]
      · rw [zBw_a hlt, hr.2.2]
    · have hr := (bi_rows hB (show i - k < k by omega)).2
      have e1 : i = k + (i - k) := by omega
      refine ⟨2 * (i - k) + 1, by omega, ?_, ?_, ?_⟩
      · rw [e1, zBw_b (by omega), ← e1, hr.1]
      · rw [e1, zBw_b (by omega), ← e1, hr.2.1]
      · rw [e1, zBw_b (by omega), ← e1, hr.2.2]; rfl
theorem mBi_exact {g s t lb : Nat → Nat} {k : Nat} (hB : Blk g s t lb k) (hg : ∀ i, 1 ≤ i → g i < 8) {u v : Nat} (hu : u < 8) (hv : v < 8) : ExT (zBw z0 s t k k) (zBw z0 t s k k) (zBw z0 lb (zOBs lb) k k) (k + k) 2000000 (mBi g) u v := by
  rw [mBi_def, hB.1]
  exact ExT_of (Pth_bi hB) (zClT_exact (mBd_8 (fun _ => (show 0 < 8 by decide)) hg k) hu hv)
theorem mBi_diag {g : Nat → Nat} (hg : ∀ i, 1 ≤ i → g i < 8) {u : Nat} (hu : u < 8) : mBi g (8 * u + u) < 2000000 := by
  have h := (zClT_cls (wd := mBd z0 g (g 0)) (n := 2 * g 0) (mBd_8 (fun _ => (show 0 < 8 by decide)) hg (g 0))).1 u hu
  rw [mBi_def, h]; decide
theorem eq_rep {g s t lb : Nat → Nat} {k V x : Nat} (hB : Blk g s t lb k) (hg : ∀ i, 1 ≤ i → g i < 8) (hE : ∀ i, i < k → s i < V ∧ t i < V) (hV : V ≤ 8) (hx : x < V) : zTz (zRow (zBiR s t lb k V) x) = mRp g x := by
  have hE2 : ∀ i, i < k + k → zBw z0 s t k k i < V ∧ zBw z0 t s k k i < V := fun i hi => by
    by_cases hlt : i < k
    · rw [zBw_a hlt, zBw_a hlt]; exact hE i hlt
    · have e1 : i = k + (i - k) := by omega
      rw [e1, zBw_b (by omega), zBw_b (by omega)]
      exact ⟨(hE (i - k) (by omega)).2, (hE (i - k) (by omega)).1⟩
  unfold zTz mRp
  refine zFst_cong 8 (fun i hi => ?_)
  have hx8 : x < 8 := by omega
  have hex := mBi_exact hB hg hx8 hi
  have hb := bits_T hE2 hV hx8 hi hex
  unfold zTzP mRpP
  refine decide_eq_decide.mpr ?_
  rw [← bit_div, zRow_bit hi]
  unfold zBiR
  rw [hb]
  constructor
  · exact fun h => h.2.2
  · intro h
    obtain ⟨n, hp⟩ := (ExT_has hex).mp h
    exact ⟨hx, (Pth_V hE2 hp).1 hx, h⟩
