/-! blocks of 49 numbers -/
def zMp (g : Nat → Nat) (x y z : Nat) : Nat → Nat := zU (zU (zU (zU g (1 + 3 * g 0) x) (1 + 3 * g 0 + 1) y) (1 + 3 * g 0 + 2) z) 0 (g 0 + 1)
theorem zMp_0 (g : Nat → Nat) (x y z : Nat) : zU (zU (zU g (1 + 3 * g 0) x) (1 + 3 * g 0 + 1) y) (1 + 3 * g 0 + 2) z 0 = g 0 := by
  rw [zU_ne (by omega), zU_ne (by omega), zU_ne (by omega)]
def zDq (g : Nat → Nat) (a q : Nat) : Nat → Nat := fun i => if a ≤ i ∧ i < q then g (i + 3) else g i
theorem zDq_0 (g : Nat → Nat) (a : Nat) : zDq g a a = g := by funext i; unfold zDq; rw [if_neg (by omega)]
theorem zDq_hi {g : Nat → Nat} {a q i : Nat} (h : q ≤ i) : zDq g a q i = g i := by unfold zDq; rw [if_neg (by omega)]
theorem zDq_lo {g : Nat → Nat} {a q i : Nat} (h : i < a) : zDq g a q i = g i := by unfold zDq; rw [if_neg (by omega)]
theorem zDq_s {g : Nat → Nat} {a q : Nat} (h : a ≤ q) : zDq g a (q + 1) = zU (zDq g a q) q (zDq g a q (q + 3)) := by
  funext i
  rw [zDq_hi (show q ≤ q + 3 by omega)]
  simp only [zDq, zU]
  by_cases h1 : i = q
  · subst h1; rw [if_pos (by omega), if_pos rfl]
  · rw [if_neg h1]
    by_cases h2 : a ≤ i ∧ i < q
    · rw [if_pos (by omega), if_pos h2]
    · rw [if_neg (by omega), if_neg h2]
def zMd (g : Nat → Nat) (j : Nat) : Nat → Nat := zU (zDq g (1 + 3 * j) 46) 0 (g 0 - 1)
theorem zSubI {a b : Nat} (ha : a < 1073741824) (hb : b < 1073741824) : (nI a - nI b).toInt = (a : Int) - b := pk_sub_toInt ha hb
theorem zClT_end {wd : Nat → Nat} {n fu : Nat} {g g2 : Nat → Nat} {b : Bool} (hq : zClT wd n = zClW wd n (fu + 1) g) (hp : (g2, b) = zPs wd n g) : zClT wd n = if b = true then zClW wd n fu g2 else g2 := by
  rw [hq]; simp only [zClW]; rw [← hp]
theorem zClT_start (wd : Nat → Nat) (n : Nat) : zClT wd n = if true = true then zClW wd n zFuel zC0 else zC0 := by
  rw [if_pos rfl]; rfl
theorem zFuel_lt : zSum zC0 < zFuel := Nat.lt_succ_self _
theorem zPs_mu {wd : Nat → Nat} {n : Nat} {g g3 : Nat → Nat} {b b3 : Bool} {N : Nat} (hw : ∀ i, wd i < 8) (hps : (g3, b3) = zPs wd n g) (hb : b = true) (hmu : (if b = true then zSum g + 1 else 0) < N + 1) : (if b3 = true then zSum g3 + 1 else 0) < N := by
  rw [if_pos hb] at hmu
  by_cases h : b3 = true
  · rw [if_pos h]
    have hd := zPs_dn hw (n := n) (f := g) (by rw [← hps]; exact h)
    rw [← hps] at hd
    dsimp only at hd
    omega
  · rw [if_neg h]; omega
theorem zPs_fu {wd : Nat → Nat} {n : Nat} {g g3 : Nat → Nat} {b3 : Bool} {fu : Nat} (hw : ∀ i, wd i < 8) (hps : (g3, b3) = zPs wd n g) (hfu : zSum g < fu) : b3 = true → zSum g3 < fu - 1 := by
  intro h
  have hd := zPs_dn hw (n := n) (f := g) (by rw [← hps]; exact h)
  rw [← hps] at hd
  dsimp only at hd
  omega
theorem zClT_end2 {wd : Nat → Nat} {n fu : Nat} {g g2 : Nat → Nat} {b b2 : Bool} (hq : zClT wd n = if b = true then zClW wd n fu g else g) (hb : b = true) (hfu : zSum g < fu) (hp : (g2, b2) = zPs wd n g) : zClT wd n = if b2 = true then zClW wd n (fu - 1) g2 else g2 := by
  rw [if_pos hb] at hq
  refine zClT_end (fu := fu - 1) ?_ hp
  rw [show fu - 1 + 1 = fu by omega]; exact hq
theorem zPe_end {wd : Nat → Nat} {n e c : Nat} {g1 g2 : Nat → Nat} {b1 b2 : Bool} {q : zTB} (hq : (g1, b1) = zIt (zPe wd n) e q) (hq2 : (g2, b2) = zIt (zPeC wd e) c (zPeA wd e (g1, b1))) (h5 : c = 0 ∨ (1 ≤ wd (3 * e + 2) ∧ wd (3 * e + 2) ≤ 3)) (he : e < n) (hc : n = c ∨ ¬ (1 ≤ wd (3 * e + 2) ∧ wd (3 * e + 2) ≤ 3)) : (g2, b2) = zIt (zPe wd n) (e + 1) q := by
  rw [zIt_s, ← hq]
  unfold zPe
  by_cases h : 1 ≤ wd (3 * e + 2) ∧ wd (3 * e + 2) ≤ 3
  · rw [if_pos h]
    have e1 : n = c := by omega
    rw [e1]; exact hq2
  · rw [if_neg h]
    have e1 : c = 0 := by omega
    subst e1
    exact hq2
