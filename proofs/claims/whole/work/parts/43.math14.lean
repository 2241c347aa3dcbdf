/-! remembered graphs of the reference -/
theorem mRem_new {hh g : Nat → Nat} {rm j : Nat} (hr : rm ≤ 14) (hj : j < 49) : mRemH hh g rm (49 * (mRemN rm - 1) + j) = g j := by
  unfold mRemH mRemN
  by_cases h : rm = 14
  · rw [if_pos h, if_pos h]
    unfold zHp
    rw [if_pos (by omega), show 49 * (14 - 1) + j - 49 * 13 = j by omega]
  · rw [if_neg h, if_neg h]
    unfold zHp
    rw [if_pos (by omega), show 49 * (rm + 1 - 1) + j - 49 * rm = j by omega]
theorem mRem_old {hh g : Nat → Nat} {rm i j : Nat} (hr : rm ≤ 14) (hj : j < 49) (hi : i + 1 < mRemN rm) : mRemH hh g rm (49 * i + j) = hh (49 * (if rm = 14 then i + 1 else i) + j) := by
  unfold mRemN at hi
  unfold mRemH
  by_cases h : rm = 14
  · rw [if_pos h] at hi
    rw [if_pos h, if_pos h]
    unfold zHp
    rw [if_neg (by omega)]
    unfold zHs
    rw [if_pos (by omega), show 49 * i + j + 49 = 49 * (i + 1) + j by omega]
  · rw [if_neg h] at hi
    rw [if_neg h, if_neg h]
    unfold zHp
    rw [if_neg (by omega)]
