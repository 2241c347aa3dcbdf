/-! without one edge -/
theorem ExT_of {s t lb s' t' lb' : Nat → Nat} {k k' : Nat} (h : ∀ n u v, Pth s t lb k n u v ↔ Pth s' t' lb' k' n u v) {far : Nat} {T : Nat → Nat} {u v : Nat} (hx : ExT s t lb k far T u v) : ExT s' t' lb' k' far T u v := by
  rcases hx with ⟨n, hd, he⟩ | ⟨hn, he⟩
  · exact Or.inl ⟨n, ⟨(h n u v).mp hd.1, fun j hj hp => hd.2 j hj ((h j u v).mpr hp)⟩, he⟩
  · exact Or.inr ⟨fun n hp => hn n ((h n u v).mpr hp), he⟩
theorem mask_bit : ∀ j, j < 16 → ∀ i, i < 16 → ((65535 - 2 ^ j) / 2 ^ i % 2 = 0 ↔ i = j) := by decide +kernel
theorem zDr_lo {s : Nat → Nat} {j k i : Nat} (h : i < j) : zDr s j k i = s i := by unfold zDr; rw [if_neg (by omega)]
theorem zDr_hi {s : Nat → Nat} {j k i : Nat} (h : j ≤ i) (h2 : i + 1 < k) : zDr s j k i = s (i + 1) := by unfold zDr; rw [if_pos ⟨h, h2⟩]
theorem Pth_drop {s t lb : Nat → Nat} {k j : Nat} (hj : j < k) (hk : k ≤ 16) (n u v : Nat) : Pth (zSel (65535 - 2 ^ j) z0 s k) (zSel (65535 - 2 ^ j) z0 t k) (zSel (65535 - 2 ^ j) z0 lb k) (zCt (65535 - 2 ^ j) k) n u v ↔ Pth (zDr s j k) (zDr t j k) (zDr lb j k) (k - 1) n u v := by
  constructor
  · refine Pth_sub (fun i hi => ?_)
    obtain ⟨a, h1, h2, h3, h4, h5⟩ := zSel_of (sub := 65535 - 2 ^ j) (s := s) (t := t) (lb := lb) k i hi
    have hne : a ≠ j := fun e1 => h2 ((mask_bit j (by omega) a (by omega)).mpr e1)
    rw [h3, h4, h5]
    by_cases hlt : a < j
    · exact ⟨a, by omega, zDr_lo hlt, zDr_lo hlt, zDr_lo hlt⟩
    · refine ⟨a - 1, by omega, ?_, ?_, ?_⟩ <;> rw [zDr_hi (by omega) (by omega), show a - 1 + 1 = a by omega]
  · refine Pth_sub (fun i hi => ?_)
    by_cases hlt : i < j
    · rw [zDr_lo hlt, zDr_lo hlt, zDr_lo hlt]
      exact zSel_in k i (by omega) (fun q => absurd ((mask_bit j (by omega) i (by omega)).mp q) (by omega))
    · rw [zDr_hi (by omega) (by omega), zDr_hi (by omega) (by omega), zDr_hi (by omega) (by omega)]
      exact zSel_in k (i + 1) (by omega) (fun q => absurd ((mask_bit j (by omega) (i + 1) (by omega)).mp q) (by omega))
theorem zDr_E {s t : Nat → Nat} {k V j : Nat} (hE : ∀ i, i < k → s i < V ∧ t i < V) : ∀ i, i < k - 1 → zDr s j k i < V ∧ zDr t j k i < V := fun i hi => by
  by_cases hlt : i < j
  · rw [zDr_lo hlt, zDr_lo hlt]; exact hE i (by omega)
  · rw [zDr_hi (by omega) (by omega), zDr_hi (by omega) (by omega)]; exact hE (i + 1) (by omega)
theorem eq_without {g s t lb : Nat → Nat} {k V j : Nat} (hB : Blk g s t lb k) (hk : k ≤ 16) (hg : ∀ i, 1 ≤ i → g i < 8) (hE : ∀ i, i < k → s i < V ∧ t i < V) (hV : V ≤ 8) (hj : j < k) : zCpw s t lb k V j = mPr V g (65535 - 2 ^ j) := by
  unfold zCpw zPr mPr
  exact zPop_eq (fun u v hu hv => bits_T (zDr_E hE) hV hu hv (ExT_of (Pth_drop hj hk) (mT_exact _ hB hg hu hv)))
theorem eq_loss {g s t lb : Nat → Nat} {k V j : Nat} (hB : Blk g s t lb k) (hk : k ≤ 16) (hg : ∀ i, 1 ≤ i → g i < 8) (hE : ∀ i, i < k → s i < V ∧ t i < V) (hV : V ≤ 8) (hj : j < k) : nI (zPr s t lb k V) - nI (zCpw s t lb k V j) = mLo V g j := by
  rw [mLo_def, eq_without hB hk hg hE hV hj, eq_pairs hB hk hg hE hV]
theorem mPrs_mono {V : Nat} {T T' : Nat → Nat} (h : ∀ i, i < 64 → T i < 2000000 → T' i < 2000000) : ∀ n, n ≤ 64 → zIt (mPrF V T) n 0 ≤ zIt (mPrF V T') n 0
  | 0, _ => Nat.le_refl 0
  | n + 1, hn => by
    have ih := mPrs_mono (V := V) h n (by omega)
    show mPrF V T n (zIt (mPrF V T) n 0) ≤ mPrF V T' n (zIt (mPrF V T') n 0)
    unfold mPrF
    unfold mPrF at ih
    by_cases hc : n / 8 < V ∧ n % 8 < V ∧ T n < 2000000
    · rw [if_pos hc, if_pos ⟨hc.1, hc.2.1, h n (by omega) hc.2.2⟩]
      exact Nat.succ_le_succ ih
    · rw [if_neg hc]
      split
      · exact Nat.le_succ_of_le ih
      · exact ih
theorem without_le {g s t lb : Nat → Nat} {k V j : Nat} (hB : Blk g s t lb k) (hk : k ≤ 16) (hg : ∀ i, 1 ≤ i → g i < 8) (hE : ∀ i, i < k → s i < V ∧ t i < V) (hV : V ≤ 8) (hj : j < k) : zCpw s t lb k V j ≤ zPr s t lb k V := by
  rw [eq_without hB hk hg hE hV hj, eq_pairs hB hk hg hE hV]
  unfold mPr mPrs
  refine mPrs_mono (fun i hi hT => ?_) 64 (Nat.le_refl _)
  have e1 : i = 8 * (i / 8) + i % 8 := by omega
  rw [e1] at hT ⊢
  obtain ⟨n, hp⟩ := (ExT_has (mT_exact (65535 - 2 ^ j) hB hg (by omega) (by omega))).mp hT
  refine (ExT_has (mT_ex1 hB hk hg (by omega) (by omega))).mpr ⟨n, Pth_sub (fun a ha => ?_) hp⟩
  obtain ⟨b, h1, -, h3, h4, h5⟩ := zSel_of (sub := 65535 - 2 ^ j) (s := s) (t := t) (lb := lb) k a ha
  exact ⟨b, h1, h3.symm, h4.symm, h5.symm⟩
theorem eq_critical {g s t lb : Nat → Nat} {k V : Nat} (hB : Blk g s t lb k) (hk : k ≤ 16) (hg : ∀ i, 1 ≤ i → g i < 8) (hE : ∀ i, i < k → s i < V ∧ t i < V) (hV : V ≤ 8) : zCrX s t lb k V = mCr V g := by
  have hP : zPr s t lb k V ≤ 64 := zPr_le s t lb k V
  have key : ∀ n, n ≤ k → (zIt (zCrF s t lb k V) n ((-9), 65)).1 = (zIt (mCrF V g) n ((-9), (-1))).1 ∧
      (((zIt (zCrF s t lb k V) n ((-9), 65)).2 = 65 ∧ (zIt (mCrF V g) n ((-9), (-1))).2.toInt = -1) ∨ ((zIt (zCrF s t lb k V) n ((-9), 65)).2 ≤ zPr s t lb k V ∧ (zIt (mCrF V g) n ((-9), (-1))).2.toInt = (zPr s t lb k V : Int) - (zIt (zCrF s t lb k V) n ((-9), 65)).2)) := by
    intro n
    induction n with
    | zero => intro _; exact ⟨rfl, Or.inl ⟨rfl, (show ((-1 : Int32)).toInt = -1 by decide)⟩⟩
    | succ n ih =>
      intro hn
      have ih := ih (by omega)
      have hc := without_le hB hk hg hE hV (show n < k by omega)
      have hl : (mLo V g n).toInt = (zPr s t lb k V : Int) - zCpw s t lb k V n := by
        rw [← eq_loss hB hk hg hE hV (show n < k by omega), zSubI (by omega) (by omega)]
      rw [zIt_s, zIt_s]
      generalize zIt (zCrF s t lb k V) n ((-9), 65) = q at ih
      generalize zIt (mCrF V g) n ((-9), (-1)) = p at ih
      unfold zCrF mCrF
      generalize zCpw s t lb k V n = c at hc hl
      generalize zPr s t lb k V = R at hP hc hl ih
      obtain ⟨h1, h2⟩ := ih
      by_cases hcb : c < q.2
      · rw [if_pos hcb, if_neg (by omega)]
        exact ⟨rfl, Or.inr ⟨hc, hl⟩⟩
      · rw [if_neg hcb, if_pos (by omega)]
        exact ⟨h1, h2⟩
  unfold zCrX mCr
  rw [hB.1]
  exact (key k (Nat.le_refl k)).1
