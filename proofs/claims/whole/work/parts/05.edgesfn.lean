/-! what the methods of Edges do to their rows -/
def zDr (s : Nat → Nat) (j q : Nat) : Nat → Nat := fun i => if j ≤ i ∧ i + 1 < q then s (i + 1) else s i
theorem zDr_0 (s : Nat → Nat) (j : Nat) : zDr s j (j + 1) = s := by
  funext i; simp only [zDr]; rw [if_neg (by omega)]
theorem zDr_step {s : Nat → Nat} {j q : Nat} (h : j + 1 ≤ q) : zDr s j (q + 1) = zU (zDr s j q) (q - 1) (zDr s j q q) := by
  funext i
  simp only [zDr, zU]
  by_cases h1 : i = q - 1
  · subst h1
    rw [if_pos (by omega), if_pos rfl, if_neg (by omega), show q - 1 + 1 = q by omega]
  · rw [if_neg h1]
    by_cases h2 : j ≤ i ∧ i + 1 < q
    · rw [if_pos (by omega), if_pos h2]
    · rw [if_neg (by omega), if_neg h2]
def zTk (s s2 : Nat → Nat) (n : Nat) : Nat → Nat := fun i => if i < n then s2 i else s i
theorem zTk_0 (s s2 : Nat → Nat) : zTk s s2 0 = s := by funext i; simp [zTk]
theorem zTk_step (s s2 : Nat → Nat) (n : Nat) : zTk s s2 (n + 1) = zU (zTk s s2 n) n (s2 n) := by
  funext i
  simp only [zTk, zU]
  by_cases h : i = n
  · subst h; simp
  · rw [if_neg h]
    by_cases h2 : i < n
    · rw [if_pos (by omega), if_pos h2]
    · rw [if_neg (by omega), if_neg h2]
def zCt (sub : Nat) : Nat → Nat
  | 0 => 0
  | n + 1 => zCt sub n + if sub / 2 ^ n % 2 = 0 then 0 else 1
theorem zCt_0 (sub : Nat) : zCt sub 0 = 0 := rfl
theorem zCt_y {sub n : Nat} (h : ¬ (sub / 2 ^ n % 2) = 0) : zCt sub (n + 1) = zCt sub n + 1 := by simp only [zCt]; rw [if_neg h]
theorem zCt_n {sub n : Nat} (h : (sub / 2 ^ n % 2) = 0) : zCt sub (n + 1) = zCt sub n := by simp only [zCt]; rw [if_pos h]; rfl
theorem zCt_le (sub : Nat) : ∀ n, zCt sub n ≤ n
  | 0 => Nat.le_refl 0
  | n + 1 => by have h := zCt_le sub n; simp only [zCt]; split <;> omega
def zSel (sub : Nat) (s s2 : Nat → Nat) : Nat → Nat → Nat
  | 0 => s
  | n + 1 => if sub / 2 ^ n % 2 = 0 then zSel sub s s2 n else zU (zSel sub s s2 n) (zCt sub n) (s2 n)
theorem zSel_0 (sub : Nat) (s s2 : Nat → Nat) : zSel sub s s2 0 = s := rfl
theorem zSel_y {sub n : Nat} (h : ¬ (sub / 2 ^ n % 2) = 0) (s s2 : Nat → Nat) : zSel sub s s2 (n + 1) = zU (zSel sub s s2 n) (zCt sub n) (s2 n) := by simp only [zSel]; rw [if_neg h]
theorem zSel_n {sub n : Nat} (h : (sub / 2 ^ n % 2) = 0) (s s2 : Nat → Nat) : zSel sub s s2 (n + 1) = zSel sub s s2 n := by simp only [zSel]; rw [if_pos h]
def zOB (z : Nat) : Nat := if z = 0 then 0 else if z ≤ 3 then z + 3 else z - 3
def zOBs (l2 : Nat → Nat) : Nat → Nat := fun i => zOB (l2 i)
/-- first n rows of s2, then i rows of t2 -/
def zBw (s s2 t2 : Nat → Nat) (n i : Nat) : Nat → Nat := fun k => if k < n then s2 k else if k < n + i then t2 (k - n) else s k
theorem zBw_0 (s s2 t2 : Nat → Nat) (n : Nat) : zBw s s2 t2 n 0 = zTk s s2 n := by
  funext k; simp only [zBw, zTk]
  by_cases h : k < n
  · rw [if_pos h, if_pos h]
  · rw [if_neg h, if_neg h, if_neg (by omega)]
theorem zBw_step (s s2 t2 : Nat → Nat) (n i : Nat) : zBw s s2 t2 n (i + 1) = zU (zBw s s2 t2 n i) (n + i) (t2 i) := by
  funext k; simp only [zBw, zU]
  by_cases h : k = n + i
  · subst h
    rw [if_neg (by omega), if_pos (by omega), if_pos rfl, show n + i - n = i by omega]
  · rw [if_neg h]
    by_cases h2 : k < n
    · rw [if_pos h2, if_pos h2]
    · rw [if_neg h2, if_neg h2]
      by_cases h3 : k < n + i
      · rw [if_pos (by omega), if_pos h3]
      · rw [if_neg (by omega), if_neg h3]
def zHit (s t lb : Nat → Nat) (x y z j : Nat) : Bool := decide (s j = x ∧ t j = y ∧ lb j = z)
/-- the first place below n where p holds, or n -/
def zFst (p : Nat → Bool) : Nat → Nat
  | 0 => 0
  | n + 1 => if zFst p n < n then zFst p n else if p n then n else n + 1
theorem zFst_none {p : Nat → Bool} : ∀ {n : Nat}, (∀ j, j < n → p j = false) → zFst p n = n
  | 0, _ => rfl
  | n + 1, h => by
    simp only [zFst]
    rw [zFst_none (fun j hj => h j (by omega)), if_neg (Nat.lt_irrefl n), h n (by omega)]; rfl
theorem zFst_at {p : Nat → Bool} {i : Nat} (h : ∀ j, j < i → p j = false) (hp : p i = true) : ∀ {n : Nat}, i < n → zFst p n = i
  | 0, hn => absurd hn (Nat.not_lt_zero _)
  | n + 1, hn => by
    simp only [zFst]
    by_cases h1 : i = n
    · subst h1
      rw [zFst_none h, if_neg (Nat.lt_irrefl i), if_pos hp]
    · have h2 := zFst_at h hp (n := n) (by omega)
      rw [h2, if_pos (by omega)]
theorem zFst_le (p : Nat → Bool) : ∀ n, zFst p n ≤ n
  | 0 => Nat.le_refl 0
  | n + 1 => by have h := zFst_le p n; simp only [zFst]; split <;> (try split) <;> omega
def zOr9 (n k : Nat) : Int32 := if n < k then nI n else (-9)
theorem zOr9_lt {n k : Nat} (h : n < k) : zOr9 n k = nI n := if_pos h
theorem zOr9_ge {n k : Nat} (h : ¬ n < k) : zOr9 n k = (-9) := if_neg h
theorem zOr9_iff {n k : Nat} (hk : k < 2147483648) : zOr9 n k = (-9) ↔ ¬ n < k := by
  constructor
  · intro h q
    rw [zOr9_lt q] at h
    have h2 := congrArg Int32.toInt h
    rw [zI (by omega), show ((-9 : Int32)).toInt = -9 from by decide] at h2
    omega
  · exact zOr9_ge
