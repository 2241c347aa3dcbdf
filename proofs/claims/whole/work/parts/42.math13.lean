/-! whole scripts -/
theorem zSuE_E {s t lb : Nat → Nat} {k V gp : Nat} (hE : ∀ i, i < k → s i < V ∧ t i < V) : ∀ i, i < (zSuE s t lb k V gp).2.2.2 → (zSuE s t lb k V gp).1 i < V ∧ (zSuE s t lb k V gp).2.1 i < V := by
  unfold zSuE zAdE zRmE
  generalize gp / 1000 = o
  generalize gp / 100 % 10 = a
  generalize gp / 10 % 10 = b
  generalize gp % 10 = c
  by_cases h1 : o = 1
  · rw [if_pos h1]
    by_cases hp : zAdP k V a b c
    · rw [if_pos hp]
      unfold zAdP at hp
      intro i hi
      have hi : i < k + 1 := hi
      show zU s k a i < V ∧ zU t k b i < V
      simp only [zU]
      by_cases hik : i = k
      · rw [if_pos hik, if_pos hik]; exact ⟨hp.1, hp.2.1⟩
      · rw [if_neg hik, if_neg hik]; exact hE i (by omega)
    · rw [if_neg hp]; exact hE
  · rw [if_neg h1]
    by_cases h2 : o = 2
    · rw [if_pos h2]
      by_cases ha : a = 0
      · rw [if_pos ha]
        by_cases hl : 10 * b + c < k
        · rw [if_pos hl]; exact zDr_E hE
        · rw [if_neg hl]; exact hE
      · rw [if_neg ha]; exact hE
    · rw [if_neg h2]; exact hE
theorem eq_script {V X Y : Nat} (hV : V ≤ 8) : ∀ m c (g : Nat → Nat) (q : zQ4) (f : Nat → Nat), Blk g q.1 q.2.1 q.2.2.1 q.2.2.2 → mOk g → (∀ i, i < q.2.2.2 → q.1 i < V ∧ q.2.1 i < V) → zT9 f → zRs V X Y m c q f = mRs V X Y m c g
  | 0, _, _, _, _, _, _, _, _ => rfl
  | m + 1, c, g, q, f, hB, hok, hE, hf => by
    have hk : q.2.2.2 ≤ 16 := by have := hok.1; rw [hB.1] at this; exact this
    rw [zRs, mRs, eq_cmd (gp := zRsG X Y c) hB hk hok.2 hE hV hf]
    have hB2 := Blk_cmd (V := V) (gp := zRsG X Y c) hB hk
    have hok2 : mOk (mCmG V g (zRsG X Y c / 1000) (zRsG X Y c / 100 % 10) (zRsG X Y c / 10 % 10) (zRsG X Y c % 10)) := mCmG_ok hok hV
    have hE2 := zSuE_E (lb := q.2.2.1) (gp := zRsG X Y c) hE
    rw [eq_script hV m (c + 1) _ (zSuE q.1 q.2.1 q.2.2.1 q.2.2.2 V (zRsG X Y c)) (zSuF f q.1 q.2.1 q.2.2.1 q.2.2.2 V (zRsG X Y c)) hB2 hok2 hE2 (zSuF_9 hf)]
