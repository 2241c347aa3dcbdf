/-! rows and counts -/
theorem bit_div {r i : Nat} : r.testBit i = true ↔ r / 2 ^ i % 2 = 1 := by
  rw [Nat.testBit_eq_decide_div_mod_eq, decide_eq_true_eq]
theorem zPop_eq {r V : Nat} {T : Nat → Nat} (h : ∀ u v, u < 8 → v < 8 → (r.testBit (8 * u + v) = true ↔ u < V ∧ v < V ∧ T (8 * u + v) < 2000000)) : zPop r = mPrs V T := by
  unfold zPop mPrs
  refine zIt_cong 64 (fun i a hi => ?_) 0
  have hh := h (i / 8) (i % 8) (by omega) (by omega)
  rw [show 8 * (i / 8) + i % 8 = i by omega, bit_div] at hh
  unfold zPopF mPrF
  by_cases hc : i / 8 < V ∧ i % 8 < V ∧ T i < 2000000
  · rw [if_pos hc, hh.mpr hc]
  · rw [if_neg hc]
    have h0 : ¬ r / 2 ^ i % 2 = 1 := fun q => hc (hh.mp q)
    have h1 : r / 2 ^ i % 2 < 2 := Nat.mod_lt _ (by decide)
    generalize r / 2 ^ i % 2 = y at h0 h1
    omega
theorem mRf_bit {T : Nat → Nat} {x : Nat} : ∀ n v, (zIt (mRfF T x) n 0).testBit v = decide (v < n ∧ T (8 * x + v) < 2000000)
  | 0, v => by
    show (0 : Nat).testBit v = _
    rw [Nat.zero_testBit, decide_eq_false (by omega)]
  | n + 1, v => by
    show (zIt (mRfF T x) n 0 ||| (if T (8 * x + n) < 2000000 then 2 ^ n else 0)).testBit v = _
    rw [Nat.testBit_or, mRf_bit n v]
    by_cases hv : v = n
    · subst hv
      rw [decide_eq_false (p := v < v ∧ T (8 * x + v) < 2000000) (by omega), Bool.false_or]
      by_cases ht : T (8 * x + v) < 2000000
      · rw [if_pos ht, decide_eq_true (by omega), z2_bit]
      · rw [if_neg ht, Nat.zero_testBit, decide_eq_false (by omega)]
    · have hz : (if T (8 * x + n) < 2000000 then 2 ^ n else 0).testBit v = false := by
        split
        · cases hh : (2 ^ n).testBit v with
          | false => rfl
          | true => exact absurd (z2_bit.mp hh).symm hv
        · exact Nat.zero_testBit v
      rw [hz, Bool.or_false]
      exact decide_eq_decide.mpr (by omega)
theorem zRow_eq {r V x : Nat} {T : Nat → Nat} (hV : V ≤ 8) (h : ∀ v, v < 8 → (r.testBit (8 * x + v) = true ↔ v < V ∧ T (8 * x + v) < 2000000)) : zRow r x = zIt (mRfF T x) V 0 := by
  apply Nat.eq_of_testBit_eq
  intro v
  rw [mRf_bit]
  by_cases hv : v < 8
  · rw [zRow_bit hv]
    by_cases hc : v < V ∧ T (8 * x + v) < 2000000
    · rw [decide_eq_true hc]; exact (h v hv).mpr hc
    · rw [decide_eq_false hc]
      cases hh : r.testBit (8 * x + v) with
      | false => rfl
      | true => exact absurd ((h v hv).mp hh) hc
  · rw [decide_eq_false (by omega)]
    have h1 : zRow r x < 2 ^ v := Nat.lt_of_lt_of_le (show zRow r x < 2 ^ 8 from Nat.mod_lt _ (by decide)) (Nat.pow_le_pow_right (by decide) (by omega))
    exact Nat.testBit_lt_two_pow h1
/-- bits of the class and the reference's table, over the same edges -/
theorem bits_T {s t lb T : Nat → Nat} {k V : Nat} (hE : ∀ i, i < k → s i < V ∧ t i < V) (hV : V ≤ 8) {u v : Nat} (hu : u < 8) (hv : v < 8) (hx : ExT s t lb k 2000000 T u v) : (zBp s t lb k V).testBit (8 * u + v) = true ↔ u < V ∧ v < V ∧ T (8 * u + v) < 2000000 := by
  rw [← zHas_bit hv, zBp_has hE hV hu hv, ExT_has hx]
theorem eq_reach {g s t lb : Nat → Nat} {k V x : Nat} (hB : Blk g s t lb k) (hk : k ≤ 16) (hg : ∀ i, 1 ≤ i → g i < 8) (hE : ∀ i, i < k → s i < V ∧ t i < V) (hV : V ≤ 8) (hx : x < V) : zRow (zBp s t lb k V) x = mRf g V x := by
  unfold mRf
  refine zRow_eq hV (fun v hv => ?_)
  have h := bits_T hE hV (show x < 8 by omega) hv (mT_ex1 hB hk hg (show x < 8 by omega) hv)
  rw [h]
  exact ⟨fun h => h.2, fun h => ⟨hx, h⟩⟩
theorem zSel_of {sub : Nat} {s t lb : Nat → Nat} : ∀ n i, i < zCt sub n → ∃ j, j < n ∧ ¬ (sub / 2 ^ j % 2) = 0 ∧ zSel sub z0 s n i = s j ∧ zSel sub z0 t n i = t j ∧ zSel sub z0 lb n i = lb j
  | 0, _, h => absurd h (Nat.not_lt_zero _)
  | n + 1, i, h => by
    by_cases hb : sub / 2 ^ n % 2 = 0
    · rw [zCt_n hb] at h
      obtain ⟨j, h1, h2, h3, h4, h5⟩ := zSel_of (sub := sub) (s := s) (t := t) (lb := lb) n i h
      rw [zSel_n hb, zSel_n hb, zSel_n hb]
      exact ⟨j, by omega, h2, h3, h4, h5⟩
    · rw [zCt_y hb] at h
      rw [zSel_y hb, zSel_y hb, zSel_y hb]
      by_cases hi : i = zCt sub n
      · rw [hi, zU_same, zU_same, zU_same]
        exact ⟨n, Nat.lt_succ_self n, hb, rfl, rfl, rfl⟩
      · rw [zU_ne hi, zU_ne hi, zU_ne hi]
        obtain ⟨j, h1, h2, h3, h4, h5⟩ := zSel_of (sub := sub) (s := s) (t := t) (lb := lb) n i (by omega)
        exact ⟨j, by omega, h2, h3, h4, h5⟩
theorem zSel_in {sub : Nat} {s t lb : Nat → Nat} : ∀ n j, j < n → ¬ (sub / 2 ^ j % 2) = 0 → ∃ i, i < zCt sub n ∧ zSel sub z0 s n i = s j ∧ zSel sub z0 t n i = t j ∧ zSel sub z0 lb n i = lb j
  | 0, _, h, _ => absurd h (Nat.not_lt_zero _)
  | n + 1, j, h, hj => by
    by_cases hb : sub / 2 ^ n % 2 = 0
    · rw [zCt_n hb, zSel_n hb, zSel_n hb, zSel_n hb]
      by_cases hn : j = n
      · rw [hn] at hj; exact absurd hb hj
      · exact zSel_in n j (by omega) hj
    · rw [zCt_y hb, zSel_y hb, zSel_y hb, zSel_y hb]
      by_cases hn : j = n
      · exact ⟨zCt sub n, Nat.lt_succ_self _, by rw [zU_same, hn], by rw [zU_same, hn], by rw [zU_same, hn]⟩
      · obtain ⟨i, h1, h2, h3, h4⟩ := zSel_in (sub := sub) (s := s) (t := t) (lb := lb) n j (by omega) hj
        refine ⟨i, by omega, ?_, ?_, ?_⟩
        · rw [zU_ne (by omega)]; exact h2
        · rw [zU_ne (by omega)]; exact h3
        · rw [zU_ne (by omega)]; exact h4
theorem zSel_E {s t : Nat → Nat} {k V : Nat} (sub : Nat) (hE : ∀ i, i < k → s i < V ∧ t i < V) : ∀ i, i < zCt sub k → zSel sub z0 s k i < V ∧ zSel sub z0 t k i < V := fun i hi => by
  obtain ⟨j, h1, -, h3, h4, -⟩ := zSel_of (sub := sub) (s := s) (t := t) (lb := t) k i hi
  rw [h3, h4]; exact hE j h1
theorem eq_worth {g s t lb : Nat → Nat} {k V : Nat} (sub : Nat) (hB : Blk g s t lb k) (hg : ∀ i, 1 ≤ i → g i < 8) (hE : ∀ i, i < k → s i < V ∧ t i < V) (hV : V ≤ 8) : zWo s t lb k V sub = mPr V g sub := by
  unfold zWo zWoR mPr
  exact zPop_eq (fun u v hu hv => bits_T (zSel_E sub hE) hV hu hv (mT_exact sub hB hg hu hv))
theorem eq_pairs {g s t lb : Nat → Nat} {k V : Nat} (hB : Blk g s t lb k) (hk : k ≤ 16) (hg : ∀ i, 1 ≤ i → g i < 8) (hE : ∀ i, i < k → s i < V ∧ t i < V) (hV : V ≤ 8) : zPr s t lb k V = mPr V g 65535 := by
  unfold zPr mPr
  exact zPop_eq (fun u v hu hv => bits_T hE hV hu hv (mT_ex1 hB hk hg hu hv))
