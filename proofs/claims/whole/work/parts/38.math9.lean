/-! candidate labels; chances -/
theorem zFst_all {p : Nat → Bool} : ∀ n, zFst p n = n ↔ ∀ i, i < n → p i = false := by
  intro n
  constructor
  · induction n with
    | zero => intro _ i hi; exact absurd hi (Nat.not_lt_zero i)
    | succ n ih =>
      intro h i hi
      simp only [zFst] at h
      by_cases h4 : zFst p n < n
      · rw [if_pos h4] at h; omega
      · rw [if_neg h4] at h
        have hle : zFst p n = n := by
          by_cases hq : ∃ a, a < n ∧ p a = true
          · obtain ⟨a, ha, hpa⟩ := hq
            exact Classical.byContradiction (fun _ => by
              have hex : ∃ b, b < n ∧ p b = true ∧ ∀ c, c < b → p c = false := by
                have hmin : ∀ m, (∃ a, a < m ∧ a < n ∧ p a = true) → ∃ b, b < n ∧ p b = true ∧ ∀ c, c < b → p c = false := by
                  intro m
                  induction m with
                  | zero => rintro ⟨a, h, _⟩; exact absurd h (Nat.not_lt_zero a)
                  | succ m ihm =>
                    rintro ⟨a, h1, h2, h3⟩
                    by_cases hs : ∃ a, a < m ∧ a < n ∧ p a = true
                    · exact ihm hs
                    · have : a = m := by
                        by_cases ham : a < m
                        · exact absurd ⟨a, ham, h2, h3⟩ hs
                        · omega
                      subst this
                      refine ⟨a, h2, h3, fun c hc => ?_⟩
                      cases hpc : p c with
                      | false => rfl
                      | true => exact absurd ⟨c, hc, by omega, hpc⟩ hs
                exact hmin n ⟨a, ha, ha, hpa⟩
              obtain ⟨b, hb1, hb2, hb3⟩ := hex
              rw [zFst_at hb3 hb2 hb1] at h4
              exact h4 hb1)
          · exact zFst_none (fun j hj => by
              cases hpj : p j with
              | false => rfl
              | true => exact absurd ⟨j, hj, hpj⟩ hq)
        by_cases hin : i = n
        · rw [hin]
          cases hpn : p n with
          | false => rfl
          | true => rw [hpn] at h; simp at h
        · exact ih hle i (by omega)
  · exact zFst_none
theorem zFst_cong {p q : Nat → Bool} : ∀ n, (∀ i, i < n → p i = q i) → zFst p n = zFst q n
  | 0, _ => rfl
  | n + 1, h => by
    simp only [zFst]
    rw [zFst_cong n (fun i hi => h i (by omega)), h n (by omega)]
theorem mPlI_all {V : Nat} {T os oe oa : Nat → Nat} : ∀ n, zIt (mPlI V T os oe oa) n true = true ↔ ∀ i, i < n → (os i < V ∧ oe i < V → (T (8 * os i + oe i) < 2000000 ↔ oa i = 1))
  | 0 => ⟨fun _ i hi => absurd hi (Nat.not_lt_zero i), fun _ => rfl⟩
  | n + 1 => by
    rw [zIt_s]
    show (zIt (mPlI V T os oe oa) n true && decide (os n < V ∧ oe n < V → (T (8 * os n + oe n) < 2000000 ↔ oa n = 1))) = true ↔ _
    rw [Bool.and_eq_true, decide_eq_true_eq, mPlI_all n]
    constructor
    · rintro ⟨h1, h2⟩ i hi
      by_cases hin : i = n
      · rw [hin]; exact h2
      · exact h1 i (by omega)
    · intro h
      exact ⟨fun i hi => h i (by omega), h n (by omega)⟩
theorem eq_labels {g s t lb os oe oa : Nat → Nat} {k V nn j : Nat} (hB : Blk g s t lb k) (hk : k ≤ 16) (hg : ∀ i, 1 ≤ i → g i < 8) (hE : ∀ i, i < k → s i < V ∧ t i < V) (hV : V ≤ 8) (hos : ∀ i, os i < 8) (hoe : ∀ i, oe i < 8) : zPlX s t lb k V os oe oa nn j = mPl V g os oe oa nn j := by
  unfold zPlX mPl
  refine zIt_cong 7 (fun p a hp => ?_) 0
  unfold zPlF mPlF
  have hB2 : Blk (zU g (3 + 3 * j) p) s t (zU lb j p) k := Blk_lab hB
  have hg2 : ∀ i, 1 ≤ i → zU g (3 + 3 * j) p i < 8 := fun i hi => by
    simp only [zU]; split
    · omega
    · exact hg i hi
  have hiff : zAh os oe oa nn V (zLbR s t lb k V j p) = nn ↔ zIt (mPlI V (mT (zU g (3 + 3 * j) p) 65535) os oe oa) nn true = true := by
    unfold zAh
    rw [zFst_all, mPlI_all]
    have hone : ∀ i, zAhP os oe oa V (zLbR s t lb k V j p) i = false ↔ (os i < V ∧ oe i < V → (mT (zU g (3 + 3 * j) p) 65535 (8 * os i + oe i) < 2000000 ↔ oa i = 1)) := by
      intro i
      unfold zAhP zLbR
      rw [decide_eq_false_iff_not, zHas_bit (hoe i), bits_T hE hV (hos i) (hoe i) (mT_ex1 hB2 hk hg2 (hos i) (hoe i))]
      constructor
      · intro h hv
        have h2 := Classical.byContradiction (fun q => h ⟨hv, q⟩)
        exact ⟨fun q => h2.mp ⟨hv.1, hv.2, q⟩, fun q => (h2.mpr q).2.2⟩
      · rintro h ⟨hv, hn⟩
        exact hn ⟨fun q => (h hv).mp q.2.2, fun q => ⟨hv.1, hv.2, (h hv).mpr q⟩⟩
    exact ⟨fun h i hi => (hone i).mp (h i hi), fun h i hi => (hone i).mpr (h i hi)⟩
  by_cases hc : zIt (mPlI V (mT (zU g (3 + 3 * j) p) 65535) os oe oa) nn true = true
  · rw [if_pos hc, if_pos (hiff.mpr hc)]
  · rw [if_neg hc, if_neg (fun q => hc (hiff.mp q)), Nat.or_zero]
theorem Blk_tg {g s t lb : Nat → Nat} {k V d : Nat} (h : Blk g s t lb k) (hk : k ≤ 16) : Blk (mTg g (d % V) (d / 8 % V) (d / 64 % 7)) (zCh s t lb k V d).1 (zCh s t lb k V d).2.1 (zCh s t lb k V d).2.2.1 (zCh s t lb k V d).2.2.2 := by
  have e1 : zFst (mTgP g (d % V) (d / 8 % V) (d / 64 % 7)) (g 0) = zFst (zHit s t lb (d % V) (d / 8 % V) (d / 64 % 7)) k := by
    rw [h.1]; exact zFst_cong k (fun i hi => hit_eq h i hi)
  unfold mTg zCh
  rw [e1, h.1]
  by_cases h1 : zFst (zHit s t lb (d % V) (d / 8 % V) (d / 64 % 7)) k < k
  · rw [if_pos h1, if_pos h1]; exact Blk_drop h hk h1
  · rw [if_neg h1, if_neg h1]
    by_cases h2 : k < 16
    · rw [if_pos h2, if_pos h2]; exact Blk_put h
    · rw [if_neg h2, if_neg h2]; exact h
