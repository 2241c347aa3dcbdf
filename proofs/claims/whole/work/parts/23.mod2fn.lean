/-! blocks of 49 numbers -/
def zMp (g : Nat → Nat) (x y z : Nat) : Nat → Nat := zU (zU (zU (zU g (1 + 3 * g 0) x) (1 + 3 * g 0 + 1) y) (1 + 3 * g 0 + 2) z) 0 (g 0 + 1)
theorem zMp_0 (g : Nat → Nat) (x y z : Nat) : zU (zU (zU g (1 + 3 * g 0) x) (1 + 3 * g 0 + 1) y) (1 + 3 * g 0 + 2) z 0 = g 0 := by
  rw [zU_ne (by omega), zU_ne (by omega), zU_ne (by omega)]
def zDq (g : Nat → Nat) (a q : Nat) : Nat → Nat := fun i => if a ≤ i ∧ i < q then g (i + 3) else g i
theorem zDq_0 (g : Nat → Nat) (a : Nat) : zDq g a a = g := by funext i; unfold zDq; rw [if_neg (by omega)]
theorem zDq_hi {g : Nat → Nat} {a q i : Nat} (h : q ≤ i) : zDq g a q i = g i := by unfold zDq; rw [if_neg (by omega)]
theorem zDq_lo {g : Nat → Nat} {a q i : Nat} (h : i < a) : zDq g a q i = g i := by unfold zDq; rw [if_neg (by omega)]
theorem zDq_s {g : Nat → Nat} {a q : Nat} (h : a ≤ q) : zDq g a (q + 1) = zU (zDq g a q) q (zDq g a q (q + 3)) := by
  funext i
  rw [zDq_hi (show q ≤ q + 3 by omega)]
  simp only [zDq, zU]
  by_cases h1 : i = q
  · subst h1; rw [if_pos (by omega), if_pos rfl]
  · rw [if_neg h1]
    by_cases h2 : a ≤ i ∧ i < q
    · rw [if_pos (by omega), if_pos h2]
    · rw [if_neg (by omega), if_neg h2]
def zMd (g : Nat → Nat) (j : Nat) : Nat → Nat := zU (zDq g (1 + 3 * j) 46) 0 (g 0 - 1)
theorem zSubI {a b : Nat} (ha : a < 1073741824) (hb : b < 1073741824) : (nI a - nI b).toInt = (a : Int) - b := pk_sub_toInt ha hb
theorem zClT_end {wd : Nat → Nat} {n fu : Nat} {g g2 : Nat → Nat} {b : Bool} (hq : zClT wd n = zClW wd n (fu + 1) g) (hp : (g2, b) = zPs wd n g) : zClT wd n = if b = true then zClW wd n fu g2 else g2 := by
  rw [hq]; simp only [zClW]; rw [← hp]
