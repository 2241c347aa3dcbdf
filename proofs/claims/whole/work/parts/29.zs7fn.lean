/-! the reference: the witness -/
def mWe (g T : Nat → Nat) : Nat → Nat → Nat → Nat → Int32
  | 0, _, _, _ => (-9)
  | fu + 1, u, v, left =>
    if left = 0 then nI (mFs g T u v / 16)
    else if g (1 + 3 * (mFs g T u v / 16) + 2) = 0 then mWe g T fu (g (1 + 3 * (mFs g T u v / 16) + 1)) v (left - 1)
    else if left - 1 = T (8 * g (1 + 3 * (mFs g T u v / 16) + 1) + g (1 + 3 * (mFs g T u v % 16))) then nI (mFs g T u v % 16)
    else if left - 1 < T (8 * g (1 + 3 * (mFs g T u v / 16) + 1) + g (1 + 3 * (mFs g T u v % 16))) then mWe g T fu (g (1 + 3 * (mFs g T u v / 16) + 1)) (g (1 + 3 * (mFs g T u v % 16))) (left - 1)
    else mWe g T fu (g (1 + 3 * (mFs g T u v % 16) + 1)) v (left - 1 - (T (8 * g (1 + 3 * (mFs g T u v / 16) + 1) + g (1 + 3 * (mFs g T u v % 16))) + 1))
theorem mWe_u {g T : Nat → Nat} {fu u v left : Nat} (h : 0 < fu) : mWe g T fu u v left =
    if left = 0 then nI (mFs g T u v / 16)
    else if g (1 + 3 * (mFs g T u v / 16) + 2) = 0 then mWe g T (fu - 1) (g (1 + 3 * (mFs g T u v / 16) + 1)) v (left - 1)
    else if left - 1 = T (8 * g (1 + 3 * (mFs g T u v / 16) + 1) + g (1 + 3 * (mFs g T u v % 16))) then nI (mFs g T u v % 16)
    else if left - 1 < T (8 * g (1 + 3 * (mFs g T u v / 16) + 1) + g (1 + 3 * (mFs g T u v % 16))) then mWe g T (fu - 1) (g (1 + 3 * (mFs g T u v / 16) + 1)) (g (1 + 3 * (mFs g T u v % 16))) (left - 1)
    else mWe g T (fu - 1) (g (1 + 3 * (mFs g T u v % 16) + 1)) v (left - 1 - (T (8 * g (1 + 3 * (mFs g T u v / 16) + 1) + g (1 + 3 * (mFs g T u v % 16))) + 1)) := by
  cases fu with
  | zero => exact absurd h (Nat.lt_irrefl 0)
  | succ m => rfl
theorem mFs_ex (g T : Nat → Nat) (u v : Nat) : ∃ n : Nat, n = mFs g T u v := ⟨_, rfl⟩
def mWeA (g T : Nat → Nat) (x y : Nat) (z : Int32) : Int32 := if T (8 * x + y) < 1000000 ∧ 0 ≤ z.toInt ∧ z.toInt < T (8 * x + y) then mWe g T (z.toInt.toNat + 1) x y z.toInt.toNat else (-9)
/-- what the walk of the witness asks of its places -/
def mWk (g T : Nat → Nat) (K : Nat → Nat → Nat → Prop) : Prop := ∀ u v left, K u v left → (u < 8 ∧ v < 8 ∧ left < 1000000 ∧ mFs g T u v < 16 * g 0) ∧
  (¬ left = 0 → g (1 + 3 * (mFs g T u v / 16) + 2) = 0 → K (g (1 + 3 * (mFs g T u v / 16) + 1)) v (left - 1)) ∧
  (¬ left = 0 → ¬ g (1 + 3 * (mFs g T u v / 16) + 2) = 0 → left - 1 < T (8 * g (1 + 3 * (mFs g T u v / 16) + 1) + g (1 + 3 * (mFs g T u v % 16))) → K (g (1 + 3 * (mFs g T u v / 16) + 1)) (g (1 + 3 * (mFs g T u v % 16))) (left - 1)) ∧
  (¬ left = 0 → ¬ g (1 + 3 * (mFs g T u v / 16) + 2) = 0 → T (8 * g (1 + 3 * (mFs g T u v / 16) + 1) + g (1 + 3 * (mFs g T u v % 16))) < left - 1 → K (g (1 + 3 * (mFs g T u v % 16) + 1)) v (left - 1 - (T (8 * g (1 + 3 * (mFs g T u v / 16) + 1) + g (1 + 3 * (mFs g T u v % 16))) + 1)))
