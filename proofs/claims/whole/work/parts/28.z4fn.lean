/-! the reference: sums over subgraphs -/
theorem mMask : ∀ j, j < 16 → nI 65535 &&& (nI (2 ^ j) ^^^ (-1)) = nI (65535 - 2 ^ j) := by decide +kernel
theorem m2p16 : ∀ j, j < 16 → 2 ^ j ≤ 32768 := by decide +kernel
theorem mLo_ex (V : Nat) (g : Nat → Nat) (j : Nat) : ∃ r : Int32, r = nI (mPr V g 65535) - nI (mPr V g (65535 - 2 ^ j)) := ⟨_, rfl⟩
noncomputable def mLo (V : Nat) (g : Nat → Nat) (j : Nat) : Int32 := Classical.choose (mLo_ex V g j)
theorem mLo_def (V : Nat) (g : Nat → Nat) (j : Nat) : mLo V g j = nI (mPr V g 65535) - nI (mPr V g (65535 - 2 ^ j)) := Classical.choose_spec (mLo_ex V g j)
noncomputable def mCrF (V : Nat) (g : Nat → Nat) (j : Nat) (q : Int32 × Int32) : Int32 × Int32 := if (mLo V g j).toInt ≤ q.2.toInt then q else (nI j, mLo V g j)
noncomputable def mCr (V : Nat) (g : Nat → Nat) : Int32 := (zIt (mCrF V g) (g 0) ((-9), (-1))).1
theorem mBits_own : ∀ k, k ≤ 8 → ∀ j, j < k → ∀ b, b < 2 ^ k → b / 2 ^ j % 2 ≠ 1 → zBits b < k := by decide +kernel
theorem mFac_b : ∀ n, n ≤ 8 → 1 ≤ mFac n ∧ mFac n ≤ 40320 := by decide +kernel
noncomputable def mShF (V : Nat) (g : Nat → Nat) (j b : Nat) (a : Int32) : Int32 := if b / 2 ^ j % 2 = 1 then a else a + nI (mFac (zBits b) * mFac (g 0 - 1 - zBits b)) * (nI (mPr V g (b ||| 2 ^ j)) - nI (mPr V g b))
noncomputable def mSh (V : Nat) (g : Nat → Nat) (j : Nat) : Int32 := zIt (mShF V g j) (2 ^ g 0) (nI 0) * nI (40320 / mFac (g 0))
def mReW (z p i w : Nat) : Nat := w * (if p / 2 ^ i % 2 = 1 then 10 - z else z)
noncomputable def mReF (g : Nat → Nat) (x y z p a : Nat) : Nat := if mT g p (8 * x + y) < 2000000 then a + zIt (mReW z p) (g 0) 1 else a
noncomputable def mRe (g : Nat → Nat) (x y z : Nat) : Nat := zIt (mReF g x y z) (2 ^ g 0) 0
def mTgP (g : Nat → Nat) (x y z i : Nat) : Bool := decide (g (1 + 3 * i) = x ∧ g (1 + 3 * i + 1) = y ∧ g (1 + 3 * i + 2) = z)
def mTg (g : Nat → Nat) (x y z : Nat) : Nat → Nat := if zFst (mTgP g x y z) (g 0) < g 0 then zMd g (zFst (mTgP g x y z) (g 0)) else if g 0 < 16 then zMp g x y z else g
theorem mTg_hit {g : Nat → Nat} {x y z i : Nat} (h : ∀ j, j < i → mTgP g x y z j = false) (hi : i < g 0) (hp : g (1 + 3 * i) = x ∧ g (1 + 3 * i + 1) = y ∧ g (1 + 3 * i + 2) = z) : zMd g i = mTg g x y z := by
  unfold mTg
  rw [zFst_at h (decide_eq_true hp) hi, if_pos hi]
theorem mTg_put {g : Nat → Nat} {x y z i : Nat} (h : ∀ j, j < i → mTgP g x y z j = false) (hi : i = g 0) (hk : g 0 < 16) : zMp g x y z = mTg g x y z := by
  subst hi
  unfold mTg
  rw [zFst_none h, if_neg (Nat.lt_irrefl _), if_pos hk]
theorem mTg_no {g : Nat → Nat} {x y z i : Nat} (h : ∀ j, j < i → mTgP g x y z j = false) (hi : i = g 0) (hk : ¬ g 0 < 16) : g = mTg g x y z := by
  subst hi
  unfold mTg
  rw [zFst_none h, if_neg (Nat.lt_irrefl _), if_neg hk]
theorem mTgP_s {g : Nat → Nat} {x y z i : Nat} (h : ∀ j, j < i → mTgP g x y z j = false) (hp : ¬ (g (1 + 3 * i) = x ∧ g (1 + 3 * i + 1) = y ∧ g (1 + 3 * i + 2) = z)) : ∀ j, j < i + 1 → mTgP g x y z j = false := fun j hj => by
  by_cases hji : j = i
  · rw [hji]; exact decide_eq_false hp
  · exact h j (by omega)
theorem zDq_8 {g : Nat → Nat} {a q : Nat} (h : ∀ i, 1 ≤ i → g i < 8) : ∀ i, 1 ≤ i → zDq g a q i < 8 := fun i hi => by
  unfold zDq; split
  · exact h _ (by omega)
  · exact h i hi
theorem zMd_8 {g : Nat → Nat} {j : Nat} (h : ∀ i, 1 ≤ i → g i < 8) : ∀ i, 1 ≤ i → zMd g j i < 8 := fun i hi => by
  unfold zMd; rw [zU_ne (by omega)]; exact zDq_8 h i hi
theorem zMd_k (g : Nat → Nat) (j : Nat) : zMd g j 0 = g 0 - 1 := by unfold zMd; rw [zU_same]
theorem zMp_k (g : Nat → Nat) (x y z : Nat) : zMp g x y z 0 = g 0 + 1 := by unfold zMp; rw [zU_same]
/-- a block that fits -/
def mOk (g : Nat → Nat) : Prop := g 0 ≤ 16 ∧ ∀ i, 1 ≤ i → g i < 8
theorem zMd_ok {g : Nat → Nat} {j : Nat} (h : mOk g) : mOk (zMd g j) := ⟨by rw [zMd_k]; have := h.1; omega, zMd_8 h.2⟩
theorem zMp_ok {g : Nat → Nat} {x y z : Nat} (h : mOk g) (hk : g 0 < 16) (hx : x < 8) (hy : y < 8) (hz : z < 8) : mOk (zMp g x y z) := ⟨by rw [zMp_k]; omega, zMp_8 h.2 hx hy hz⟩
theorem mTg_ok {g : Nat → Nat} {x y z : Nat} (h : mOk g) (hx : x < 8) (hy : y < 8) (hz : z < 8) : mOk (mTg g x y z) := by
  unfold mTg; split
  · exact zMd_ok h
  · split
    · exact zMp_ok h (by omega) hx hy hz
    · exact h
noncomputable def mSmF (V : Nat) (_ : Nat) (u : (Nat → Nat) × Int64 × Nat) : (Nat → Nat) × Int64 × Nat := (mTg u.1 (zDw (zNs u.2.1) % V) (zDw (zNs u.2.1) / 8 % V) (zDw (zNs u.2.1) / 64 % 7), zNs u.2.1, u.2.2 + mPr V (mTg u.1 (zDw (zNs u.2.1) % V) (zDw (zNs u.2.1) / 8 % V) (zDw (zNs u.2.1) / 64 % 7)) 65535)
def mLdT (u v d : Nat) (f : Nat → Nat) : Nat → Nat := if d < f (8 * u + v) then zU f (8 * u + v) d else f
