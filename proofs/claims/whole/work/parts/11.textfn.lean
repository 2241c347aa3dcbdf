/-! texts, observations, chance: what the methods answer -/
def zLoP (c i : Nat) : Bool := decide (zLabL.getD i 0 = c)
def zLo (c : Nat) : Nat := zFst (zLoP c) 7
theorem zLab_lt : ∀ i, i < 7 → zLabL.getD i 0 < 256 := by decide
def zFit (g : Nat → Nat) (i : Nat) : Bool := if i = 0 then decide (g 0 = 68) else if i = 1 then decide (49 ≤ g 1 ∧ g 1 ≤ 56) else decide (i < 50) && (if (i - 2) % 3 = 2 then decide (zLo (g i) < 7) else decide (48 ≤ g i ∧ g i - 48 < g 1 - 48))
def zFltP (g : Nat → Nat) (i : Nat) : Bool := !zFit g i
def zFlt (g : Nat → Nat) (n : Nat) : Nat := zFst (zFltP g) n
def zFF (g : Nat → Nat) (n : Nat) : Int32 := if zFlt g n < n then nI (zFlt g n) else if 2 ≤ n ∧ (n - 2) % 3 = 0 then (-9) else nI n
theorem zFit_1 {g : Nat → Nat} (h : zFit g 1 = true) : 49 ≤ g 1 ∧ g 1 ≤ 56 := by simpa [zFit] using h
def zWs (g : Nat → Nat) (q : Nat) : Nat := g (2 + 3 * q) - 48
def zWt (g : Nat → Nat) (q : Nat) : Nat := g (2 + 3 * q + 1) - 48
def zWl (g : Nat → Nat) (q : Nat) : Nat := zLo (g (2 + 3 * q + 2))
theorem zFit_s {g : Nat → Nat} {q : Nat} (h : zFit g (2 + 3 * q) = true) : 48 ≤ g (2 + 3 * q) ∧ g (2 + 3 * q) - 48 < g 1 - 48 := by
  unfold zFit at h
  rw [if_neg (by omega), if_neg (by omega), if_neg (by omega)] at h
  simp only [Bool.and_eq_true, decide_eq_true_eq] at h
  exact h.2
theorem zFit_t {g : Nat → Nat} {q : Nat} (h : zFit g (2 + 3 * q + 1) = true) : 48 ≤ g (2 + 3 * q + 1) ∧ g (2 + 3 * q + 1) - 48 < g 1 - 48 := by
  unfold zFit at h
  rw [if_neg (by omega), if_neg (by omega), if_neg (by omega)] at h
  simp only [Bool.and_eq_true, decide_eq_true_eq] at h
  exact h.2
theorem zFit_l {g : Nat → Nat} {q : Nat} (h : zFit g (2 + 3 * q + 2) = true) : zLo (g (2 + 3 * q + 2)) < 7 ∧ 2 + 3 * q + 2 < 50 := by
  unfold zFit at h
  rw [if_neg (by omega), if_neg (by omega), if_pos (by omega)] at h
  simp only [Bool.and_eq_true, decide_eq_true_eq] at h
  exact ⟨h.2, h.1⟩
def zNx (n : Nat) : Nat := if n + 1 < 14 then n + 1 else 0
def zPv (n : Nat) : Nat := if 0 < n then n - 1 else 13
def zAhP (st en an : Nat → Nat) (V r i : Nat) : Bool := decide ((st i < V ∧ en i < V) ∧ ¬ (zHas r (st i) (en i) ↔ an i = 1))
def zAh (st en an : Nat → Nat) (n V r : Nat) : Nat := zFst (zAhP st en an V r) n
def zOrd (a m : Nat) : Nat := zFacL.getD a 0 * zFacL.getD (m - 1 - a) 0 * zScaL.getD m 0
def zCh (s t lb : Nat → Nat) (k V d : Nat) : (Nat → Nat) × (Nat → Nat) × (Nat → Nat) × Nat :=
  if zFst (zHit s t lb (d % V) (d / 8 % V) (d / 64 % 7)) k < k then
    (zDr s (zFst (zHit s t lb (d % V) (d / 8 % V) (d / 64 % 7)) k) k, zDr t (zFst (zHit s t lb (d % V) (d / 8 % V) (d / 64 % 7)) k) k, zDr lb (zFst (zHit s t lb (d % V) (d / 8 % V) (d / 64 % 7)) k) k, k - 1)
  else if k < 16 then (zU s k (d % V), zU t k (d / 8 % V), zU lb k (d / 64 % 7), k + 1)
  else (s, t, lb, k)
