/-! shares and reliability -/
theorem own_bit : ∀ k, k ≤ 8 → ∀ j, j < k → ∀ b, b < 2 ^ k → ((b &&& 2 ^ j) = 0 ↔ ¬ b / 2 ^ j % 2 = 1) := by decide +kernel
theorem bits_p8 : ∀ b, b < 256 → zBits b = zp8 b := by decide +kernel
theorem ord_eq : ∀ k, k ≤ 8 → ∀ a, a < k → zOrd a k = mFac a * mFac (k - 1 - a) * (40320 / mFac k) := by decide +kernel
theorem share_step (a d w c : Int32) : a * c + d * (w * c) = (a + w * d) * c := by
  rw [Int32.add_mul, ← Int32.mul_assoc, Int32.mul_comm d w]
theorem eq_share {g s t lb : Nat → Nat} {k V j : Nat} (hB : Blk g s t lb k) (hk : k ≤ 8) (hg : ∀ i, 1 ≤ i → g i < 8) (hE : ∀ i, i < k → s i < V ∧ t i < V) (hV : V ≤ 8) (hj : j < k) : zShX s t lb k V j = mSh V g j := by
  have h2 := z2pk k hk
  have key : ∀ n, n ≤ 2 ^ k → zIt (zShF s t lb k V j) n (nI 0) = zIt (mShF V g j) n (nI 0) * nI (40320 / mFac k) := by
    intro n
    induction n with
    | zero => intro _; show (nI 0) = (nI 0) * _; exact (Int32.zero_mul).symm
    | succ n ih =>
      intro hn
      have ih := ih (by omega)
      rw [zIt_s, zIt_s, ih]
      generalize zIt (mShF V g j) n (nI 0) = a
      unfold zShF mShF
      have ho := own_bit k hk j hj n (by omega)
      by_cases hb : n / 2 ^ j % 2 = 1
      · rw [if_neg (fun q => ho.mp q hb), if_pos hb]
      · have hbl := mBits_own k hk j hj n (by omega) hb
        rw [if_pos (ho.mpr hb), if_neg hb, hB.1, eq_worth (n ||| 2 ^ j) hB hg hE hV, eq_worth n hB hg hE hV, ← bits_p8 n (by omega), ord_eq k hk _ hbl, ← pk_mul (mFac (zBits n) * mFac (k - 1 - zBits n)) (40320 / mFac k)]
        exact share_step _ _ _ _
  unfold zShX mSh
  rw [hB.1]
  exact key (2 ^ k) (Nat.le_refl _)
theorem wgt_eq (z p : Nat) : ∀ k, zIt (mReW z p) k 1 = (10 - z) ^ zCt p k * z ^ (k - zCt p k)
  | 0 => by show 1 = (10 - z) ^ 0 * z ^ (0 - 0); simp
  | k + 1 => by
    have hle := zCt_le p k
    have h2 : p / 2 ^ k % 2 < 2 := Nat.mod_lt _ (by decide)
    rw [zIt_s, wgt_eq z p k]
    unfold mReW
    by_cases hb : p / 2 ^ k % 2 = 0
    · have hb1 : ¬ p / 2 ^ k % 2 = 1 := by rw [hb]; decide
      rw [zCt_n hb, if_neg hb1, show k + 1 - zCt p k = k - zCt p k + 1 by omega, Nat.pow_succ, Nat.mul_assoc]
    · have hb1 : p / 2 ^ k % 2 = 1 := by
        generalize p / 2 ^ k % 2 = y at hb h2
        omega
      rw [zCt_y hb, if_pos hb1, show k + 1 - (zCt p k + 1) = k - zCt p k by omega, Nat.pow_succ, Nat.mul_right_comm]
theorem eq_reliability {g s t lb : Nat → Nat} {k V x y z : Nat} (hB : Blk g s t lb k) (hg : ∀ i, 1 ≤ i → g i < 8) (hE : ∀ i, i < k → s i < V ∧ t i < V) (hV : V ≤ 8) (hx : x < V) (hy : y < V) : zReX s t lb k V x y z = mRe g x y z := by
  unfold zReX mRe
  rw [hB.1]
  refine zIt_cong (2 ^ k) (fun p a _ => ?_) 0
  unfold zReF mReF
  have hx8 : x < 8 := by omega
  have hy8 : y < 8 := by omega
  have hb := bits_T (zSel_E p hE) hV hx8 hy8 (mT_exact p hB hg hx8 hy8)
  have hiff : zHas (zWoR s t lb k V p) x y ↔ mT g p (8 * x + y) < 2000000 := by
    unfold zWoR
    rw [zHas_bit hy8, hb]
    exact ⟨fun h => h.2.2, fun h => ⟨hx, hy, h⟩⟩
  rw [hB.1, wgt_eq]
  by_cases hc : mT g p (8 * x + y) < 2000000
  · rw [if_pos hc, if_pos (hiff.mpr hc)]
  · rw [if_neg hc, if_neg (fun q => hc (hiff.mp q))]
