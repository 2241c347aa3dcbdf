/-! actions on both forms -/
theorem Blk_put {g s t lb : Nat → Nat} {k x y z : Nat} (h : Blk g s t lb k) : Blk (zMp g x y z) (zU s k x) (zU t k y) (zU lb k z) (k + 1) := by
  obtain ⟨h0, h1⟩ := h
  refine ⟨by rw [zMp_k, h0], fun i hi => ?_⟩
  unfold zMp
  rw [h0]
  simp only [zU]
  by_cases hik : i = k
  · subst hik
    refine ⟨?_, ?_, ?_⟩
    · rw [if_neg (by omega), if_neg (by omega), if_neg (by omega), if_pos rfl, if_pos rfl]
    · rw [if_neg (by omega), if_neg (by omega), if_pos rfl, if_pos rfl]
    · rw [if_neg (by omega), if_pos rfl, if_pos rfl]
  · have h2 := h1 i (by omega)
    refine ⟨?_, ?_, ?_⟩
    · rw [if_neg (by omega), if_neg (by omega), if_neg (by omega), if_neg (by omega), if_neg hik]; exact h2.1
    · rw [if_neg (by omega), if_neg (by omega), if_neg (by omega), if_neg (by omega), if_neg hik]; exact h2.2.1
    · rw [if_neg (by omega), if_neg (by omega), if_neg (by omega), if_neg (by omega), if_neg hik]; exact h2.2.2
theorem Blk_drop {g s t lb : Nat → Nat} {k j : Nat} (h : Blk g s t lb k) (hk : k ≤ 16) (hj : j < k) : Blk (zMd g j) (zDr s j k) (zDr t j k) (zDr lb j k) (k - 1) := by
  obtain ⟨h0, h1⟩ := h
  refine ⟨by rw [zMd_k, h0], fun i hi => ?_⟩
  unfold zMd
  rw [zU_ne (by omega), zU_ne (by omega), zU_ne (by omega)]
  unfold zDq
  by_cases hij : i < j
  · rw [if_neg (by omega), if_neg (by omega), if_neg (by omega), zDr_lo hij, zDr_lo hij, zDr_lo hij]
    exact h1 i (by omega)
  · rw [if_pos (by omega), if_pos (by omega), if_pos (by omega), zDr_hi (by omega) (by omega), zDr_hi (by omega) (by omega), zDr_hi (by omega) (by omega)]
    have h2 := h1 (i + 1) (by omega)
    rw [show 1 + 3 * (i + 1) = 1 + 3 * i + 3 by omega] at h2
    rw [show 1 + 3 * i + 1 + 3 = 1 + 3 * i + 3 + 1 by omega, show 1 + 3 * i + 2 + 3 = 1 + 3 * i + 3 + 2 by omega]
    exact h2
theorem Blk_lab {g s t lb : Nat → Nat} {k x p : Nat} (h : Blk g s t lb k) : Blk (zU g (3 + 3 * x) p) s t (zU lb x p) k := by
  obtain ⟨h0, h1⟩ := h
  refine ⟨by rw [zU_ne (by omega)]; exact h0, fun i hi => ?_⟩
  have h2 := h1 i hi
  simp only [zU]
  refine ⟨by rw [if_neg (by omega)]; exact h2.1, by rw [if_neg (by omega)]; exact h2.2.1, ?_⟩
  by_cases hix : i = x
  · rw [if_pos (by omega), if_pos hix]
  · rw [if_neg (by omega), if_neg hix]; exact h2.2.2
theorem Blk_cong {g s t lb s' t' lb' : Nat → Nat} {k : Nat} (h : Blk g s t lb k) (hc : ∀ i, i < k → s' i = s i ∧ t' i = t i ∧ lb' i = lb i) : Blk g s' t' lb' k :=
  ⟨h.1, fun i hi => by
    obtain ⟨c1, c2, c3⟩ := hc i hi
    rw [c1, c2, c3]
    exact h.2 i hi⟩
theorem Blk_cg {g g' s t lb : Nat → Nat} {k : Nat} (h : Blk g s t lb k) (hk : k ≤ 16) (hc : ∀ i, i < 49 → g' i = g i) : Blk g' s t lb k :=
  ⟨by rw [hc 0 (by decide)]; exact h.1, fun i hi => by
    rw [hc (1 + 3 * i) (by omega), hc (1 + 3 * i + 1) (by omega), hc (1 + 3 * i + 2) (by omega)]
    exact h.2 i hi⟩
theorem eq_get {g s t lb : Nat → Nat} {k : Nat} (h : Blk g s t lb k) (x : Int32) : zGet s k x = mGet g 1 x ∧ zGet t k x = mGet g 2 x ∧ zGet lb k x = mGet g 3 x := by
  unfold zGet mGet
  rw [h.1]
  by_cases hc : 0 ≤ x.toInt ∧ x.toInt < k
  · rw [if_pos hc, if_pos hc, if_pos hc, if_pos hc, if_pos hc, if_pos hc]
    have h2 := h.2 x.toInt.toNat (by omega)
    rw [show 2 + 3 * x.toInt.toNat = 1 + 3 * x.toInt.toNat + 1 by omega, show 3 + 3 * x.toInt.toNat = 1 + 3 * x.toInt.toNat + 2 by omega, h2.1, h2.2.1, h2.2.2]
    exact ⟨rfl, rfl, rfl⟩
  · rw [if_neg hc, if_neg hc, if_neg hc, if_neg hc, if_neg hc, if_neg hc]
    exact ⟨rfl, rfl, rfl⟩
/-- the text, read by both -/
theorem Blk_pa (pg tx : Nat → Nat) : ∀ q, Blk (zPa pg tx q) (zWs tx) (zWt tx) (zWl tx) q
  | 0 => ⟨zPa_0 pg tx 0, fun i hi => absurd hi (Nat.not_lt_zero i)⟩
  | q + 1 => by
    have h := Blk_put (x := zWs tx q) (y := zWt tx q) (z := zWl tx q) (Blk_pa pg tx q)
    refine Blk_cong (g := zPa pg tx (q + 1)) h (fun i hi => ?_)
    simp only [zU]
    by_cases hiq : i = q
    · rw [if_pos hiq, if_pos hiq, if_pos hiq, hiq]; exact ⟨rfl, rfl, rfl⟩
    · rw [if_neg hiq, if_neg hiq, if_neg hiq]; exact ⟨rfl, rfl, rfl⟩
/-- a chance, taken by both -/
theorem hit_eq {g s t lb : Nat → Nat} {k x y z : Nat} (h : Blk g s t lb k) (i : Nat) (hi : i < k) : mTgP g x y z i = zHit s t lb x y z i := by
  obtain ⟨h1, h2, h3⟩ := h.2 i hi
  unfold mTgP zHit
  rw [h1, h2, h3]
