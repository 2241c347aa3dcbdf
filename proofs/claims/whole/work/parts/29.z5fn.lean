/-! the reference: candidates, the bidirected closure, steps -/
theorem zUl_ok {g : Nat → Nat} {x p : Nat} (h : mOk g) (hp : p < 8) : mOk (zU g (3 + 3 * x) p) := ⟨by rw [zU_ne (by omega)]; exact h.1, fun i hi => by
  simp only [zU]; split
  · exact hp
  · exact h.2 i hi⟩
def mPlI (V : Nat) (T os oe oa : Nat → Nat) (i : Nat) (b : Bool) : Bool := b && decide (os i < V ∧ oe i < V → (T (8 * os i + oe i) < 2000000 ↔ oa i = 1))
theorem mPlI_t {V : Nat} {T os oe oa : Nat → Nat} {i : Nat} {b : Bool} (hb : b = true) (h : os i < V ∧ oe i < V → (T (8 * os i + oe i) < 2000000 ↔ oa i = 1)) : true = mPlI V T os oe oa i b := by
  unfold mPlI; rw [hb, decide_eq_true h]; rfl
theorem mPlI_f1 {V : Nat} {T os oe oa : Nat → Nat} {i : Nat} {b : Bool} (hb : ¬ b = true) : false = mPlI V T os oe oa i b := by
  unfold mPlI
  cases b with
  | true => exact absurd rfl hb
  | false => rfl
theorem mPlI_f2 {V : Nat} {T os oe oa : Nat → Nat} {i : Nat} {b : Bool} (h : ¬ (os i < V ∧ oe i < V → (T (8 * os i + oe i) < 2000000 ↔ oa i = 1))) : false = mPlI V T os oe oa i b := by
  unfold mPlI; rw [decide_eq_false h, Bool.and_false]
noncomputable def mPlF (V : Nat) (g os oe oa : Nat → Nat) (nn x p a : Nat) : Nat := a ||| (if zIt (mPlI V (mT (zU g (3 + 3 * x) p) 65535) os oe oa) nn true = true then 2 ^ p else 0)
noncomputable def mPl (V : Nat) (g os oe oa : Nat → Nat) (nn x : Nat) : Nat := zIt (mPlF V g os oe oa nn x) 7 0
def mBd (wd g : Nat → Nat) : Nat → Nat → Nat
  | 0 => wd
  | i + 1 => zU (zU (zU (zU (zU (zU (mBd wd g i) (6 * i) (g (1 + 3 * i))) (6 * i + 1) (g (2 + 3 * i))) (6 * i + 2) (g (3 + 3 * i))) (6 * i + 3) (g (2 + 3 * i))) (6 * i + 4) (g (1 + 3 * i))) (6 * i + 5) (zOB (g (3 + 3 * i)))
theorem mBd_0 (wd g : Nat → Nat) : mBd wd g 0 = wd := rfl
theorem mBd_s (wd g : Nat → Nat) (i : Nat) : mBd wd g (i + 1) = zU (zU (zU (zU (zU (zU (mBd wd g i) (6 * i) (g (1 + 3 * i))) (6 * i + 1) (g (2 + 3 * i))) (6 * i + 2) (g (3 + 3 * i))) (6 * i + 3) (g (2 + 3 * i))) (6 * i + 4) (g (1 + 3 * i))) (6 * i + 5) (zOB (g (3 + 3 * i))) := rfl
theorem zU_8 {f : Nat → Nat} {k x : Nat} (h : ∀ i, f i < 8) (hx : x < 8) : ∀ i, zU f k x i < 8 := fun i => by
  simp only [zU]; split
  · exact hx
  · exact h i
theorem zOB_z {l : Nat} (h : l = 0) : zOB l = 0 := by rw [h]; rfl
theorem zOB_l {l : Nat} (h : ¬ l = 0) (h2 : l < 4) : zOB l = l + 3 := by
  have : l = 1 ∨ l = 2 ∨ l = 3 := by omega
  rcases this with h | h | h <;> rw [h] <;> rfl
theorem zOB_h {l : Nat} (h : 4 ≤ l) (h2 : l < 8) : zOB l = l - 3 := by
  have : l = 4 ∨ l = 5 ∨ l = 6 ∨ l = 7 := by omega
  rcases this with h | h | h | h <;> rw [h] <;> rfl
theorem zOB_8 {l : Nat} (h : l < 8) : zOB l < 8 := by
  by_cases h0 : l = 0
  · rw [zOB_z h0]; omega
  · by_cases h4 : l < 4
    · rw [zOB_l h0 h4]; omega
    · rw [zOB_h (by omega) h]; omega
theorem mBd_8 {wd g : Nat → Nat} (hw : ∀ i, wd i < 8) (hg : ∀ i, 1 ≤ i → g i < 8) : ∀ n i, mBd wd g n i < 8
  | 0 => hw
  | n + 1 => by
    rw [mBd_s]
    exact zU_8 (zU_8 (zU_8 (zU_8 (zU_8 (zU_8 (mBd_8 hw hg n) (hg _ (by omega))) (hg _ (by omega))) (hg _ (by omega))) (hg _ (by omega))) (hg _ (by omega))) (zOB_8 (hg _ (by omega)))
theorem mBd_cong (wd wd2 g : Nat → Nat) : ∀ n i, i < 6 * n → mBd wd g n i = mBd wd2 g n i
  | 0, i, h => by omega
  | n + 1, i, h => by
    rw [mBd_s, mBd_s]
    simp only [zU]
    by_cases h1 : i < 6 * n
    · rw [mBd_cong wd wd2 g n i h1]
    · have : i = 6 * n ∨ i = 6 * n + 1 ∨ i = 6 * n + 2 ∨ i = 6 * n + 3 ∨ i = 6 * n + 4 ∨ i = 6 * n + 5 := by omega
      rcases this with h | h | h | h | h | h <;> subst h <;> simp
theorem mBi_ex (g : Nat → Nat) : ∃ T : Nat → Nat, T = zClT (mBd z0 g (g 0)) (2 * g 0) := ⟨_, rfl⟩
noncomputable def mBi (g : Nat → Nat) : Nat → Nat := Classical.choose (mBi_ex g)
theorem mBi_def (g : Nat → Nat) : mBi g = zClT (mBd z0 g (g 0)) (2 * g 0) := Classical.choose_spec (mBi_ex g)
theorem mBi_eq (g wd : Nat → Nat) : zClT (mBd wd g (g 0)) (2 * g 0) = mBi g := by
  rw [mBi_def]; exact zClT_cong (fun i hi => mBd_cong wd z0 g (g 0) i (by omega))
theorem mBi_2 (g : Nat → Nat) : zL2 (mBi g) := by rw [mBi_def]; exact zClT_2 _ _
noncomputable def mRpP (g : Nat → Nat) (x i : Nat) : Bool := decide (mBi g (8 * x + i) < 2000000)
noncomputable def mRp (g : Nat → Nat) (x : Nat) : Nat := zFst (mRpP g x) 8
theorem mRp_at {g : Nat → Nat} {x i : Nat} (h : ∀ j, j < i → mRpP g x j = false) (hp : mBi g (8 * x + i) < 2000000) (hi : i < 8) : i = mRp g x := (zFst_at h (decide_eq_true hp) hi).symm
theorem mRpP_s {g : Nat → Nat} {x i : Nat} (h : ∀ j, j < i → mRpP g x j = false) (hp : ¬ mBi g (8 * x + i) < 2000000) : ∀ j, j < i + 1 → mRpP g x j = false := fun j hj => by
  by_cases hji : j = i
  · rw [hji]; exact decide_eq_false hp
  · exact h j (by omega)
/-- length by a first step -/
def mLb (g T : Nat → Nat) (u v i c : Nat) : Nat :=
  if g (1 + 3 * i) = u then
    (if g (1 + 3 * i + 2) = 0 then (if c = 0 then 1 + T (8 * g (1 + 3 * i + 1) + v) else 2000000)
     else if (1 ≤ g (1 + 3 * i + 2) ∧ g (1 + 3 * i + 2) ≤ 3) ∧ g (1 + 3 * c + 2) = g (1 + 3 * i + 2) + 3 then 2 + T (8 * g (1 + 3 * i + 1) + g (1 + 3 * c)) + T (8 * g (1 + 3 * c + 1) + v) else 2000000)
  else 2000000
def mFsP (g T : Nat → Nat) (u v n : Nat) : Bool := decide (n % 16 < g 0 ∧ mLb g T u v (n / 16) (n % 16) = T (8 * u + v))
def mFs (g T : Nat → Nat) (u v : Nat) : Nat := zFst (mFsP g T u v) (16 * g 0)
theorem mFs_at {g T : Nat → Nat} {u v n : Nat} (h : ∀ j, j < n → mFsP g T u v j = false) (hp : n % 16 < g 0 ∧ mLb g T u v (n / 16) (n % 16) = T (8 * u + v)) (hn : n < 16 * g 0) : n = mFs g T u v := (zFst_at h (decide_eq_true hp) hn).symm
theorem mFsP_s {g T : Nat → Nat} {u v n : Nat} (h : ∀ j, j < n → mFsP g T u v j = false) (hp : ¬ (n % 16 < g 0 ∧ mLb g T u v (n / 16) (n % 16) = T (8 * u + v))) : ∀ j, j < n + 1 → mFsP g T u v j = false := fun j hj => by
  by_cases hji : j = n
  · rw [hji]; exact decide_eq_false hp
  · exact h j (by omega)
theorem mFs_none {g T : Nat → Nat} {u v n : Nat} (h : ∀ j, j < n → mFsP g T u v j = false) (hn : n = 16 * g 0) : ¬ mFs g T u v < 16 * g 0 := by
  subst hn
  unfold mFs; rw [zFst_none h]; exact Nat.lt_irrefl _
theorem mLb_le {g T : Nat → Nat} (hT : zL2 T) (u v i c : Nat) : mLb g T u v i c ≤ 4000002 := by
  unfold mLb
  have h1 := hT (8 * g (1 + 3 * i + 1) + v)
  have h2 := hT (8 * g (1 + 3 * i + 1) + g (1 + 3 * c))
  have h3 := hT (8 * g (1 + 3 * c + 1) + v)
  split
  · split
    · split
      · omega
      · omega
    · split
      · omega
      · omega
  · omega
