/-! the reference: scripts -/
noncomputable def mCm (V : Nat) (g : Nat → Nat) (o a b c : Nat) : Bool :=
  if o = 1 then decide (a < V ∧ b < V ∧ c ≤ 6 ∧ ¬ g 0 = 16)
  else if o = 2 then decide (a = 0 ∧ 10 * b + c < g 0)
  else if o = 3 then decide (a < V ∧ b < V ∧ c ≤ 1 ∧ (mT g 65535 (8 * a + b) < 2000000 ↔ c = 1))
  else if o = 4 then decide (a = 0 ∧ mPr V g 65535 = 10 * b + c)
  else if o = 5 then decide (a < V ∧ b < V ∧ mT g 65535 (8 * a + b) = c)
  else false
theorem mCm_1 {V : Nat} {g : Nat → Nat} {o a b c : Nat} (h : o = 1) : (mCm V g o a b c = true) = (a < V ∧ b < V ∧ c ≤ 6 ∧ ¬ g 0 = 16) := by
  unfold mCm; rw [if_pos h, decide_eq_true_eq]
theorem mCm_2 {V : Nat} {g : Nat → Nat} {o a b c : Nat} (h : o = 2) : (mCm V g o a b c = true) = (a = 0 ∧ 10 * b + c < g 0) := by
  unfold mCm; rw [if_neg (by omega), if_pos h, decide_eq_true_eq]
theorem mCm_3 {V : Nat} {g : Nat → Nat} {o a b c : Nat} (h : o = 3) : (mCm V g o a b c = true) = (a < V ∧ b < V ∧ c ≤ 1 ∧ (mT g 65535 (8 * a + b) < 2000000 ↔ c = 1)) := by
  unfold mCm; rw [if_neg (by omega), if_neg (by omega), if_pos h, decide_eq_true_eq]
theorem mCm_4 {V : Nat} {g : Nat → Nat} {o a b c : Nat} (h : o = 4) : (mCm V g o a b c = true) = (a = 0 ∧ mPr V g 65535 = 10 * b + c) := by
  unfold mCm; rw [if_neg (by omega), if_neg (by omega), if_neg (by omega), if_pos h, decide_eq_true_eq]
theorem mCm_5 {V : Nat} {g : Nat → Nat} {o a b c : Nat} (h : o = 5) : (mCm V g o a b c = true) = (a < V ∧ b < V ∧ mT g 65535 (8 * a + b) = c) := by
  unfold mCm; rw [if_neg (by omega), if_neg (by omega), if_neg (by omega), if_neg (by omega), if_pos h, decide_eq_true_eq]
theorem mCm_6 {V : Nat} {g : Nat → Nat} {o a b c : Nat} (h : ¬ (1 ≤ o ∧ o ≤ 5)) : ¬ mCm V g o a b c = true := by
  unfold mCm; rw [if_neg (by omega), if_neg (by omega), if_neg (by omega), if_neg (by omega), if_neg (by omega)]; exact Bool.false_ne_true
def mCmG (V : Nat) (g : Nat → Nat) (o a b c : Nat) : Nat → Nat := if o = 1 ∧ a < V ∧ b < V ∧ c ≤ 6 ∧ ¬ g 0 = 16 then zMp g a b c else if o = 2 ∧ a = 0 ∧ 10 * b + c < g 0 then zMd g (10 * b + c) else g
theorem mCmG_1 {V : Nat} {g : Nat → Nat} {o a b c : Nat} (h : o = 1 ∧ a < V ∧ b < V ∧ c ≤ 6 ∧ ¬ g 0 = 16) : mCmG V g o a b c = zMp g a b c := by unfold mCmG; rw [if_pos h]
theorem mCmG_2 {V : Nat} {g : Nat → Nat} {o a b c : Nat} (h : o = 2 ∧ a = 0 ∧ 10 * b + c < g 0) : mCmG V g o a b c = zMd g (10 * b + c) := by unfold mCmG; rw [if_neg (by omega), if_pos h]
theorem mCmG_n {V : Nat} {g : Nat → Nat} {o a b c : Nat} (h1 : ¬ (o = 1 ∧ a < V ∧ b < V ∧ c ≤ 6 ∧ ¬ g 0 = 16)) (h2 : ¬ (o = 2 ∧ a = 0 ∧ 10 * b + c < g 0)) : mCmG V g o a b c = g := by unfold mCmG; rw [if_neg h1, if_neg h2]
theorem mCmG_ok {V : Nat} {g : Nat → Nat} {o a b c : Nat} (h : mOk g) (hV : V ≤ 8) : mOk (mCmG V g o a b c) := by
  unfold mCmG; split
  · rename_i h1
    have := h.1
    exact zMp_ok h (by omega) (by omega) (by omega) (by omega)
  · split
    · exact zMd_ok h
    · exact h
noncomputable def mRs (V X Y : Nat) : Nat → Nat → (Nat → Nat) → Int32
  | 0, _, _ => (-9)
  | m + 1, c, g => if mCm V g (zRsG X Y c / 1000) (zRsG X Y c / 100 % 10) (zRsG X Y c / 10 % 10) (zRsG X Y c % 10) = true then mRs V X Y m (c + 1) (mCmG V g (zRsG X Y c / 1000) (zRsG X Y c / 100 % 10) (zRsG X Y c / 10 % 10) (zRsG X Y c % 10)) else nI c
theorem m10k : ∀ n, n ≤ 4 → 1 ≤ 10000 ^ n ∧ 10000 ^ n ≤ 10000000000000000 := by decide
