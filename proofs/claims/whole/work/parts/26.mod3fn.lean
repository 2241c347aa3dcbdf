/-! the reference: texts and blocks -/
theorem zLo_c : ∀ c, c < 256 → (if c = 46 then zLo c = 0 else if 97 ≤ c ∧ c ≤ 99 then zLo c = c - 96 else if 65 ≤ c ∧ c ≤ 67 then zLo c = c - 61 else zLo c = 7) := by decide +kernel
def zPa (pg tx : Nat → Nat) : Nat → Nat → Nat
  | 0 => zU pg 0 0
  | q + 1 => zMp (zPa pg tx q) (zWs tx q) (zWt tx q) (zWl tx q)
theorem zPa_0 (pg tx : Nat → Nat) : ∀ q, zPa pg tx q 0 = q
  | 0 => by show zU pg 0 0 0 = 0; rw [zU_same]
  | q + 1 => by
    show zMp (zPa pg tx q) _ _ _ 0 = q + 1
    unfold zMp; rw [zU_same, zPa_0 pg tx q]
theorem zFF_fault {g : Nat → Nat} {n p : Nat} (hp : p < n) (h : ∀ i, i < p → zFit g i = true) (h2 : zFit g p = false) : zFF g n = nI p := by
  have hz : zFlt g n = p := zFst_at (fun j hj => by simp [zFltP, h j hj]) (by simp [zFltP, h2]) hp
  unfold zFF; rw [hz, if_pos hp]
theorem zFF_fit {g : Nat → Nat} {n : Nat} (h : ∀ i, i < n → zFit g i = true) : zFF g n = if 2 ≤ n ∧ (n - 2) % 3 = 0 then (-9) else nI n := by
  have hz : zFlt g n = n := zFst_none (fun j hj => by simp [zFltP, h j hj])
  unfold zFF; rw [hz, if_neg (Nat.lt_irrefl n)]
theorem zFF_ok {g : Nat → Nat} {n : Nat} (hn : n ≤ 60) (h : (zFF g n).toInt = -9) : (∀ i, i < n → zFit g i = true) ∧ 2 ≤ n ∧ (n - 2) % 3 = 0 := by
  unfold zFF at h
  by_cases h1 : zFlt g n < n
  · rw [if_pos h1, zI (by omega)] at h; omega
  · rw [if_neg h1] at h
    by_cases h2 : 2 ≤ n ∧ (n - 2) % 3 = 0
    · refine ⟨fun i hi => ?_, h2.1, h2.2⟩
      have h3 : ∀ m, ¬ zFst (zFltP g) m < m → ∀ i, i < m → zFltP g i = false := by
        intro m
        induction m with
        | zero => intro _ i hi; exact absurd hi (Nat.not_lt_zero i)
        | succ m ih =>
          intro hm i hi
          simp only [zFst] at hm
          by_cases h4 : zFst (zFltP g) m < m
          · rw [if_pos h4] at hm; omega
          · rw [if_neg h4] at hm
            cases hpm : zFltP g m with
            | true => rw [hpm] at hm; simp at hm
            | false =>
              by_cases him : i = m
              · rw [him]; exact hpm
              · exact ih h4 i (by omega)
      have h5 := h3 n h1 i hi
      simpa [zFltP] using h5
    · rw [if_neg h2, zI (by omega)] at h; omega
theorem zFit_0 {g : Nat → Nat} : zFit g 0 = decide (g 0 = 68) := by unfold zFit; rw [if_pos rfl]
theorem zFit_1e {g : Nat → Nat} : zFit g 1 = decide (49 ≤ g 1 ∧ g 1 ≤ 56) := by unfold zFit; rw [if_neg (by omega), if_pos rfl]
theorem zFit_e {g : Nat → Nat} {i : Nat} (h : 2 ≤ i) : zFit g i = (decide (i < 50) && (if (i - 2) % 3 = 2 then decide (zLo (g i) < 7) else decide (48 ≤ g i ∧ g i - 48 < g 1 - 48))) := by
  unfold zFit; rw [if_neg (by omega), if_neg (by omega)]
theorem zFit_sn {g : Nat → Nat} {q : Nat} (hq : q < 16) (h : ¬ (48 ≤ g (2 + 3 * q) ∧ g (2 + 3 * q) - 48 < g 1 - 48)) : zFit g (2 + 3 * q) = false := by
  rw [zFit_e (by omega), if_neg (by omega)]; simp [h]
theorem zFit_sy {g : Nat → Nat} {q : Nat} (hq : q < 16) (h : 48 ≤ g (2 + 3 * q) ∧ g (2 + 3 * q) - 48 < g 1 - 48) : zFit g (2 + 3 * q) = true := by
  rw [zFit_e (by omega), if_neg (by omega)]; simp only [Bool.and_eq_true, decide_eq_true_eq]; omega
theorem zFit_tn {g : Nat → Nat} {q : Nat} (hq : q < 16) (h : ¬ (48 ≤ g (2 + 3 * q + 1) ∧ g (2 + 3 * q + 1) - 48 < g 1 - 48)) : zFit g (2 + 3 * q + 1) = false := by
  rw [zFit_e (by omega), if_neg (by omega)]; simp [h]
theorem zFit_ty {g : Nat → Nat} {q : Nat} (hq : q < 16) (h : 48 ≤ g (2 + 3 * q + 1) ∧ g (2 + 3 * q + 1) - 48 < g 1 - 48) : zFit g (2 + 3 * q + 1) = true := by
  rw [zFit_e (by omega), if_neg (by omega)]; simp only [Bool.and_eq_true, decide_eq_true_eq]; omega
theorem zFit_ln {g : Nat → Nat} {q : Nat} (hq : q < 16) (h : ¬ zLo (g (2 + 3 * q + 2)) < 7) : zFit g (2 + 3 * q + 2) = false := by
  rw [zFit_e (by omega), if_pos (by omega)]; simp [h]
theorem zFit_ly {g : Nat → Nat} {q : Nat} (hq : q < 16) (h : zLo (g (2 + 3 * q + 2)) < 7) : zFit g (2 + 3 * q + 2) = true := by
  rw [zFit_e (by omega), if_pos (by omega)]; simp only [Bool.and_eq_true, decide_eq_true_eq]; omega
theorem zFit_50 {g : Nat → Nat} : zFit g 50 = false := by
  rw [zFit_e (by omega)]; simp
theorem fit_s1 {g : Nat → Nat} {p : Nat} (h : ∀ i, i < p → zFit g i = true) (hp : zFit g p = true) : ∀ i, i < p + 1 → zFit g i = true := lt_s h hp
/-- remembered blocks -/
def zHs (hh : Nat → Nat) (i : Nat) : Nat → Nat := fun j => if j < i then hh (j + 49) else hh j
theorem zHs_0 (hh : Nat → Nat) : zHs hh 0 = hh := by funext j; unfold zHs; rw [if_neg (by omega)]
theorem zHs_s (hh : Nat → Nat) (i : Nat) : zHs hh (i + 1) = zU (zHs hh i) i (zHs hh i (i + 49)) := by
  funext j
  simp only [zHs, zU]
  by_cases h1 : j = i
  · subst h1; rw [if_pos (by omega), if_pos rfl, if_neg (by omega)]
  · rw [if_neg h1]
    by_cases h2 : j < i
    · rw [if_pos (by omega), if_pos h2]
    · rw [if_neg (by omega), if_neg h2]
def zHp (hh g : Nat → Nat) (b i : Nat) : Nat → Nat := fun j => if b ≤ j ∧ j < b + i then g (j - b) else hh j
theorem zHp_0 (hh g : Nat → Nat) (b : Nat) : zHp hh g b 0 = hh := by funext j; unfold zHp; rw [if_neg (by omega)]
theorem zHp_s (hh g : Nat → Nat) (b i : Nat) : zHp hh g b (i + 1) = zU (zHp hh g b i) (b + i) (g i) := by
  funext j
  simp only [zHp, zU]
  by_cases h1 : j = b + i
  · subst h1; rw [if_pos (by omega), if_pos rfl, show b + i - b = i by omega]
  · rw [if_neg h1]
    by_cases h2 : b ≤ j ∧ j < b + i
    · rw [if_pos (by omega), if_pos h2]
    · rw [if_neg (by omega), if_neg h2]
/-- a block out of many -/
def zBk (hh : Nat → Nat) (b : Nat) : Nat → Nat := fun j => hh (b + j)
def mRemH (hh g : Nat → Nat) (rm : Nat) : Nat → Nat := if rm = 14 then zHp (zHs hh 637) g (49 * 13) 49 else zHp hh g (49 * rm) 49
def mRemN (rm : Nat) : Nat := if rm = 14 then 14 else rm + 1
def mGet (g : Nat → Nat) (d : Nat) (x : Int32) : Int32 := if 0 ≤ x.toInt ∧ x.toInt < g 0 then nI (g (d + 3 * x.toInt.toNat)) else (-1)
theorem zLo_c2 : ∀ c, c < 256 → (c = 46 → zLo c = 0) ∧ (97 ≤ c ∧ c ≤ 99 → zLo c = c - 96) ∧ (65 ≤ c ∧ c ≤ 67 → zLo c = c - 61) ∧ (c = 46 ∨ (97 ≤ c ∧ c ≤ 99) ∨ (65 ≤ c ∧ c ≤ 67) ∨ zLo c = 7) := by decide +kernel
theorem zFit_0d {g : Nat → Nat} (h : zFit g 0 = true) : g 0 = 68 := by rw [zFit_0] at h; exact of_decide_eq_true h
theorem zFit_1d {g : Nat → Nat} (h : zFit g 1 = true) : 49 ≤ g 1 ∧ g 1 ≤ 56 := by rw [zFit_1e] at h; exact of_decide_eq_true h
theorem zFit_sd {g : Nat → Nat} {q : Nat} (h : zFit g (2 + 3 * q) = true) : q < 16 ∧ 48 ≤ g (2 + 3 * q) ∧ g (2 + 3 * q) - 48 < g 1 - 48 := by
  rw [zFit_e (by omega), if_neg (by omega), Bool.and_eq_true, decide_eq_true_eq, decide_eq_true_eq] at h
  omega
theorem zFit_td {g : Nat → Nat} {q : Nat} (h : zFit g (2 + 3 * q + 1) = true) : 48 ≤ g (2 + 3 * q + 1) ∧ g (2 + 3 * q + 1) - 48 < g 1 - 48 := by
  rw [zFit_e (by omega), if_neg (by omega), Bool.and_eq_true, decide_eq_true_eq, decide_eq_true_eq] at h
  omega
theorem zFit_ld {g : Nat → Nat} {q : Nat} (h : zFit g (2 + 3 * q + 1 + 1) = true) : zLo (g (2 + 3 * q + 1 + 1)) < 7 := by
  rw [zFit_e (by omega), if_pos (by omega), Bool.and_eq_true, decide_eq_true_eq, decide_eq_true_eq] at h
  exact h.2
theorem zPa_z (pg tx : Nat → Nat) : zPa pg tx 0 = zU pg 0 0 := rfl
theorem zPa_s (pg tx : Nat → Nat) (q : Nat) : zPa pg tx (q + 1) = zMp (zPa pg tx q) (tx (2 + 3 * q) - 48) (tx (2 + 3 * q + 1) - 48) (zLo (tx (2 + 3 * q + 1 + 1))) := rfl
theorem zP3 (q : Nat) : 2 + 3 * (q + 1) = 2 + 3 * q + 1 + 1 + 1 := by omega
theorem zU0_8 {pg : Nat → Nat} (h : ∀ i, 1 ≤ i → pg i < 8) : ∀ i, 1 ≤ i → zU pg 0 0 i < 8 := fun i hi => by rw [zU_ne (by omega)]; exact h i hi
theorem zMp_8 {g : Nat → Nat} {x y z : Nat} (h : ∀ i, 1 ≤ i → g i < 8) (hx : x < 8) (hy : y < 8) (hz : z < 8) : ∀ i, 1 ≤ i → zMp g x y z i < 8 := fun i hi => by
  unfold zMp
  rw [zU_ne (by omega)]
  simp only [zU]
  split
  · exact hz
  · split
    · exact hy
    · split
      · exact hx
      · exact h i hi
theorem zPa_8 {pg tx : Nat → Nat} (h : ∀ i, 1 ≤ i → pg i < 8) (htx : ∀ i, tx i < 256) : ∀ {q : Nat}, (∀ i, i < 2 + 3 * q → zFit tx i = true) → ∀ i, 1 ≤ i → zPa pg tx q i < 8
  | 0, _ => zU0_8 h
  | q + 1, hf => by
    have h1 := zFit_1d (hf 1 (by omega))
    have h2 := zFit_sd (hf (2 + 3 * q) (by omega))
    have h3 := zFit_td (hf (2 + 3 * q + 1) (by omega))
    have h4 := zFit_ld (hf (2 + 3 * q + 1 + 1) (by omega))
    rw [zPa_s]
    exact zMp_8 (zPa_8 h htx (fun i hi => hf i (by omega))) (by omega) (by omega) (by omega)
theorem zFit_01 {g : Nat → Nat} (h0 : g 0 = 68) (h1 : 49 ≤ g 1 ∧ g 1 ≤ 56) : ∀ i, i < 2 + 3 * 0 → zFit g i = true := fun i hi => by
  have h : i = 0 ∨ i = 1 := by omega
  rcases h with h | h
  · rw [h, zFit_0]; exact decide_eq_true h0
  · rw [h, zFit_1e]; exact decide_eq_true h1
theorem zFit_up {g : Nat → Nat} {q : Nat} (h : ∀ i, i < 2 + 3 * q → zFit g i = true) (hq : q < 16) (h1 : 48 ≤ g (2 + 3 * q) ∧ g (2 + 3 * q) - 48 < g 1 - 48) (h2 : 48 ≤ g (2 + 3 * q + 1) ∧ g (2 + 3 * q + 1) - 48 < g 1 - 48) (h3 : zLo (g (2 + 3 * q + 1 + 1)) < 7) : ∀ i, i < 2 + 3 * (q + 1) → zFit g i = true := fun i hi => by
  have hh : i < 2 + 3 * q ∨ i = 2 + 3 * q ∨ i = 2 + 3 * q + 1 ∨ i = 2 + 3 * q + 2 := by omega
  rcases hh with h4 | h4 | h4 | h4
  · exact h i h4
  · rw [h4]; exact zFit_sy hq h1
  · rw [h4]; exact zFit_ty hq h2
  · rw [h4]; exact zFit_ly hq h3
theorem zFF_9 {g : Nat → Nat} {n q : Nat} (h : ∀ i, i < 2 + 3 * q → zFit g i = true) (hn : n = 2 + 3 * q) : (zFF g n).toInt = -9 := by
  rw [hn, zFF_fit h, if_pos (by omega)]; decide
theorem zEp_0 {g : Nat → Nat} {n : Nat} (h : n = 0 ∨ g 0 ≠ 68) : zFF g n = nI 0 := by
  by_cases hn : n = 0
  · rw [hn, zFF_fit (fun i hi => absurd hi (Nat.not_lt_zero i)), if_neg (by omega)]
  · exact zFF_fault (by omega) (fun i hi => absurd hi (Nat.not_lt_zero i)) (by rw [zFit_0]; exact decide_eq_false (by omega))
theorem zEp_1 {g : Nat → Nat} {n : Nat} (h0 : n ≠ 0 ∧ g 0 = 68) (h : ¬ (1 < n ∧ 49 ≤ g 1 ∧ g 1 ≤ 56)) : zFF g n = nI 1 := by
  have hf : ∀ i, i < 1 → zFit g i = true := fun i hi => by
    rw [show i = 0 by omega, zFit_0]; exact decide_eq_true h0.2
  by_cases hn : n = 1
  · rw [hn, zFF_fit hf, if_neg (by omega)]
  · exact zFF_fault (by omega) hf (by rw [zFit_1e]; exact decide_eq_false (by omega))
theorem zEp_s {g : Nat → Nat} {n q : Nat} (hf : ∀ i, i < 2 + 3 * q → zFit g i = true) (hq : q ≤ 16) (hn : 2 + 3 * q < n) (h : ¬ (q < 16 ∧ 48 ≤ g (2 + 3 * q) ∧ g (2 + 3 * q) - 48 < g 1 - 48)) : zFF g n = nI (2 + 3 * q) := by
  refine zFF_fault hn hf ?_
  by_cases h16 : q = 16
  · subst h16; exact zFit_50
  · exact zFit_sn (by omega) (by omega)
theorem zEp_t {g : Nat → Nat} {n q : Nat} (hf : ∀ i, i < 2 + 3 * q → zFit g i = true) (hq : q < 16) (hn : 2 + 3 * q < n) (h1 : 48 ≤ g (2 + 3 * q) ∧ g (2 + 3 * q) - 48 < g 1 - 48) (h : ¬ (2 + 3 * q + 1 < n ∧ 48 ≤ g (2 + 3 * q + 1) ∧ g (2 + 3 * q + 1) - 48 < g 1 - 48)) : zFF g n = nI (2 + 3 * q + 1) := by
  have hf1 := fit_s1 hf (zFit_sy hq h1)
  by_cases h2 : n = 2 + 3 * q + 1
  · rw [h2, zFF_fit hf1, if_neg (by omega)]
  · exact zFF_fault (by omega) hf1 (zFit_tn hq (by omega))
theorem zEp_l {g : Nat → Nat} {n q : Nat} (hf : ∀ i, i < 2 + 3 * q → zFit g i = true) (hq : q < 16) (hn : 2 + 3 * q + 1 < n) (h1 : 48 ≤ g (2 + 3 * q) ∧ g (2 + 3 * q) - 48 < g 1 - 48) (h2 : 48 ≤ g (2 + 3 * q + 1) ∧ g (2 + 3 * q + 1) - 48 < g 1 - 48) (h : ¬ (2 + 3 * q + 1 + 1 < n ∧ zLo (g (2 + 3 * q + 1 + 1)) < 7)) : zFF g n = nI (2 + 3 * q + 1 + 1) := by
  have hf1 := fit_s1 (fit_s1 hf (zFit_sy hq h1)) (zFit_ty hq h2)
  by_cases h2 : n = 2 + 3 * q + 1 + 1
  · rw [h2, zFF_fit hf1, if_neg (by omega)]
  · exact zFF_fault (by omega) hf1 (zFit_ln (g := g) hq (fun h9 => h ⟨by omega, h9⟩))
theorem zTk_bk (g hh : Nat → Nat) (b i : Nat) : zTk g (zBk hh b) (i + 1) = zU (zTk g (zBk hh b) i) i (hh (b + i)) := zTk_step g (zBk hh b) i
def mRfF (T : Nat → Nat) (x v a : Nat) : Nat := a ||| (if T (8 * x + v) < 2000000 then 2 ^ v else 0)
noncomputable def mRf (g : Nat → Nat) (V x : Nat) : Nat := zIt (mRfF (mT g 65535) x) V 0
def mDi (T : Nat → Nat) (x y : Nat) : Int32 := if T (8 * x + y) < 2000000 then nI (T (8 * x + y)) else (-9)
def mFacF (i a : Nat) : Nat := a * (i + 2)
def mFac (n : Nat) : Nat := zIt mFacF (n - 1) 1
