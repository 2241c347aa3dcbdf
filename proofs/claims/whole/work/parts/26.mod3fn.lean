/-! the reference: texts and blocks -/
theorem zLo_c : ∀ c, c < 256 → (if c = 46 then zLo c = 0 else if 97 ≤ c ∧ c ≤ 99 then zLo c = c - 96 else if 65 ≤ c ∧ c ≤ 67 then zLo c = c - 61 else zLo c = 7) := by decide +kernel
def zPa (pg tx : Nat → Nat) : Nat → Nat → Nat
  | 0 => zU pg 0 0
  | q + 1 => zMp (zPa pg tx q) (zWs tx q) (zWt tx q) (zWl tx q)
theorem zPa_0 (pg tx : Nat → Nat) : ∀ q, zPa pg tx q 0 = q
  | 0 => by show zU pg 0 0 0 = 0; rw [zU_same]
  | q + 1 => by
    show zMp (zPa pg tx q) _ _ _ 0 = q + 1
    unfold zMp; rw [zU_same, zPa_0 pg tx q]
theorem zFF_fault {g : Nat → Nat} {n p : Nat} (hp : p < n) (h : ∀ i, i < p → zFit g i = true) (h2 : zFit g p = false) : zFF g n = nI p := by
  have hz : zFlt g n = p := zFst_at (fun j hj => by simp [zFltP, h j hj]) (by simp [zFltP, h2]) hp
  unfold zFF; rw [hz, if_pos hp]
theorem zFF_fit {g : Nat → Nat} {n : Nat} (h : ∀ i, i < n → zFit g i = true) : zFF g n = if 2 ≤ n ∧ (n - 2) % 3 = 0 then (-9) else nI n := by
  have hz : zFlt g n = n := zFst_none (fun j hj => by simp [zFltP, h j hj])
  unfold zFF; rw [hz, if_neg (Nat.lt_irrefl n)]
theorem zFF_ok {g : Nat → Nat} {n : Nat} (hn : n ≤ 60) (h : (zFF g n).toInt = -9) : (∀ i, i < n → zFit g i = true) ∧ 2 ≤ n ∧ (n - 2) % 3 = 0 := by
  unfold zFF at h
  by_cases h1 : zFlt g n < n
  · rw [if_pos h1, zI (by omega)] at h; omega
  · rw [if_neg h1] at h
    by_cases h2 : 2 ≤ n ∧ (n - 2) % 3 = 0
    · refine ⟨fun i hi => ?_, h2.1, h2.2⟩
      have h3 : ∀ m, ¬ zFst (zFltP g) m < m → ∀ i, i < m → zFltP g i = false := by
        intro m
        induction m with
        | zero => intro _ i hi; exact absurd hi (Nat.not_lt_zero i)
        | succ m ih =>
          intro hm i hi
          simp only [zFst] at hm
          by_cases h4 : zFst (zFltP g) m < m
          · rw [if_pos h4] at hm; omega
          · rw [if_neg h4] at hm
            cases hpm : zFltP g m with
            | true => rw [hpm] at hm; simp at hm
            | false =>
              by_cases him : i = m
              · rw [him]; exact hpm
              · exact ih h4 i (by omega)
      have h5 := h3 n h1 i hi
      simpa [zFltP] using h5
    · rw [if_neg h2, zI (by omega)] at h; omega
theorem zFit_0 {g : Nat → Nat} : zFit g 0 = decide (g 0 = 68) := by unfold zFit; rw [if_pos rfl]
theorem zFit_1e {g : Nat → Nat} : zFit g 1 = decide (49 ≤ g 1 ∧ g 1 ≤ 56) := by unfold zFit; rw [if_neg (by omega), if_pos rfl]
theorem zFit_e {g : Nat → Nat} {i : Nat} (h : 2 ≤ i) : zFit g i = (decide (i < 50) && (if (i - 2) % 3 = 2 then decide (zLo (g i) < 7) else decide (48 ≤ g i ∧ g i - 48 < g 1 - 48))) := by
  unfold zFit; rw [if_neg (by omega), if_neg (by omega)]
theorem zFit_sn {g : Nat → Nat} {q : Nat} (hq : q < 16) (h : ¬ (48 ≤ g (2 + 3 * q) ∧ g (2 + 3 * q) - 48 < g 1 - 48)) : zFit g (2 + 3 * q) = false := by
  rw [zFit_e (by omega), if_neg (by omega)]; simp [h]
theorem zFit_sy {g : Nat → Nat} {q : Nat} (hq : q < 16) (h : 48 ≤ g (2 + 3 * q) ∧ g (2 + 3 * q) - 48 < g 1 - 48) : zFit g (2 + 3 * q) = true := by
  rw [zFit_e (by omega), if_neg (by omega)]; simp only [Bool.and_eq_true, decide_eq_true_eq]; omega
theorem zFit_tn {g : Nat → Nat} {q : Nat} (hq : q < 16) (h : ¬ (48 ≤ g (2 + 3 * q + 1) ∧ g (2 + 3 * q + 1) - 48 < g 1 - 48)) : zFit g (2 + 3 * q + 1) = false := by
  rw [zFit_e (by omega), if_neg (by omega)]; simp [h]
theorem zFit_ty {g : Nat → Nat} {q : Nat} (hq : q < 16) (h : 48 ≤ g (2 + 3 * q + 1) ∧ g (2 + 3 * q + 1) - 48 < g 1 - 48) : zFit g (2 + 3 * q + 1) = true := by
  rw [zFit_e (by omega), if_neg (by omega)]; simp only [Bool.and_eq_true, decide_eq_true_eq]; omega
theorem zFit_ln {g : Nat → Nat} {q : Nat} (hq : q < 16) (h : ¬ zLo (g (2 + 3 * q + 2)) < 7) : zFit g (2 + 3 * q + 2) = false := by
  rw [zFit_e (by omega), if_pos (by omega)]; simp [h]
theorem zFit_ly {g : Nat → Nat} {q : Nat} (hq : q < 16) (h : zLo (g (2 + 3 * q + 2)) < 7) : zFit g (2 + 3 * q + 2) = true := by
  rw [zFit_e (by omega), if_pos (by omega)]; simp only [Bool.and_eq_true, decide_eq_true_eq]; omega
theorem zFit_50 {g : Nat → Nat} : zFit g 50 = false := by
  rw [zFit_e (by omega)]; simp
theorem fit_s1 {g : Nat → Nat} {p : Nat} (h : ∀ i, i < p → zFit g i = true) (hp : zFit g p = true) : ∀ i, i < p + 1 → zFit g i = true := lt_s h hp
/-- remembered blocks -/
def zHs (hh : Nat → Nat) (i : Nat) : Nat → Nat := fun j => if j < i then hh (j + 49) else hh j
theorem zHs_0 (hh : Nat → Nat) : zHs hh 0 = hh := by funext j; unfold zHs; rw [if_neg (by omega)]
theorem zHs_s (hh : Nat → Nat) (i : Nat) : zHs hh (i + 1) = zU (zHs hh i) i (zHs hh i (i + 49)) := by
  funext j
  simp only [zHs, zU]
  by_cases h1 : j = i
  · subst h1; rw [if_pos (by omega), if_pos rfl, if_neg (by omega)]
  · rw [if_neg h1]
    by_cases h2 : j < i
    · rw [if_pos (by omega), if_pos h2]
    · rw [if_neg (by omega), if_neg h2]
def zHp (hh g : Nat → Nat) (b i : Nat) : Nat → Nat := fun j => if b ≤ j ∧ j < b + i then g (j - b) else hh j
theorem zHp_0 (hh g : Nat → Nat) (b : Nat) : zHp hh g b 0 = hh := by funext j; unfold zHp; rw [if_neg (by omega)]
theorem zHp_s (hh g : Nat → Nat) (b i : Nat) : zHp hh g b (i + 1) = zU (zHp hh g b i) (b + i) (g i) := by
  funext j
  simp only [zHp, zU]
  by_cases h1 : j = b + i
  · subst h1; rw [if_pos (by omega), if_pos rfl, show b + i - b = i by omega]
  · rw [if_neg h1]
    by_cases h2 : b ≤ j ∧ j < b + i
    · rw [if_pos (by omega), if_pos h2]
    · rw [if_neg (by omega), if_neg h2]
/-- a block out of many -/
def zBk (hh : Nat → Nat) (b : Nat) : Nat → Nat := fun j => hh (b + j)
def mRemH (hh g : Nat → Nat) (rm : Nat) : Nat → Nat := if rm = 14 then zHp (zHs hh 637) g (49 * 13) 49 else zHp hh g (49 * rm) 49
def mRemN (rm : Nat) : Nat := if rm = 14 then 14 else rm + 1
def mGet (g : Nat → Nat) (d : Nat) (x : Int32) : Int32 := if 0 ≤ x.toInt ∧ x.toInt < g 0 then nI (g (d + 3 * x.toInt.toNat)) else (-1)
