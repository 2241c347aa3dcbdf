/-! the reference: closing a table of lengths -/
theorem zcanon {G : zG} {A : Nat → Prop} {ws : va_W} {H : Heap} {a n : Nat} {f : Nat → Nat} (hP : va_P G.1 vwCl ws H) (hD : va_D A ws) (p : Nat) (hp : ws[p]? = some (zA G a n f)) (f' : Nat → Nat) (h : ∀ i, i < n → f i = f' i) : va_P G.1 vwCl (ws.set p (zA G a n f')) H ∧ va_D A (ws.set p (zA G a n f')) := by
  refine ⟨va_P.set hP hD hp ?_ (fun _ _ => rfl), va_D.set hD hp⟩
  have h0 : H[a]? = some (vp_cell G.2.1.1 (n, .inl (zF f))) := hP p _ hp
  show H[a]? = some (vp_cell G.2.1.1 (n, .inl (zF f')))
  rw [h0, vp_cell_i, vp_cell_i]
  have e : (Array.ofFn (n := n) fun j => Value.int (zF f j.val)) = (Array.ofFn (n := n) fun j => Value.int (zF f' j.val)) := by
    congr 1
    funext j
    show Value.int (nI (f j.val)) = Value.int (nI (f' j.val))
    rw [h j.val j.isLt]
  simp only [arrV, e]
theorem zU_id (f : Nat → Nat) (i : Nat) : zU f i (f i) = f := by
  funext j; unfold zU; split
  · rename_i h; rw [h]
  · rfl
def zL2 (f : Nat → Nat) : Prop := ∀ i, f i ≤ 2000000
def zImT (u v len : Nat) (f : Nat → Nat) : Nat → Nat := if min len 1000000 < f (8 * u + v) then zU f (8 * u + v) (min len 1000000) else f
abbrev zImB (u v len : Nat) (f : Nat → Nat) : Prop := min len 1000000 < f (8 * u + v)
theorem zImT_2 {u v len : Nat} {f : Nat → Nat} (h : zL2 f) : zL2 (zImT u v len f) := by
  unfold zImT; split
  · intro i; unfold zU; split
    · omega
    · exact h i
  · exact h
abbrev zTB : Type := (Nat → Nat) × Bool
def zIm (u v len : Nat) (q : zTB) : zTB := (zImT u v len q.1, q.2 || decide (min len 1000000 < q.1 (8 * u + v)))
def zPeA (wd : Nat → Nat) (e : Nat) (q : zTB) : zTB := if wd (3 * e + 2) = 0 then zIm (wd (3 * e)) (wd (3 * e + 1)) 1 q else q
def zPeC (wd : Nat → Nat) (e c : Nat) (q : zTB) : zTB := if wd (3 * c + 2) = wd (3 * e + 2) + 3 ∧ q.1 (8 * wd (3 * e + 1) + wd (3 * c)) < 2000000 then zIm (wd (3 * e)) (wd (3 * c + 1)) (q.1 (8 * wd (3 * e + 1) + wd (3 * c)) + 2) q else q
def zPe (wd : Nat → Nat) (n e : Nat) (q : zTB) : zTB := if 1 ≤ wd (3 * e + 2) ∧ wd (3 * e + 2) ≤ 3 then zIt (zPeC wd e) n (zPeA wd e q) else zPeA wd e q
def zPk (k : Nat) (q : zTB) : zTB := if q.1 (8 * (k / 64) + k / 8 % 8) < 2000000 ∧ q.1 (8 * (k / 8 % 8) + k % 8) < 2000000 then zIm (k / 64) (k % 8) (q.1 (8 * (k / 64) + k / 8 % 8) + q.1 (8 * (k / 8 % 8) + k % 8)) q else q
def zPs (wd : Nat → Nat) (n : Nat) (f : Nat → Nat) : zTB := zIt zPk 512 (zIt (zPe wd n) n (f, false))
def zSumF (f : Nat → Nat) (i a : Nat) : Nat := a + f i
def zSum (f : Nat → Nat) : Nat := zIt (zSumF f) 64 0
def zC0 (i : Nat) : Nat := if i / 8 = i % 8 then 0 else 2000000
def zC1 (i : Nat) (f : Nat → Nat) : Nat → Nat := zU f i (zC0 i)
theorem zC1_at (f : Nat → Nat) : ∀ n i, i < n → zIt zC1 n f i = zC0 i
  | 0, _, h => absurd h (Nat.not_lt_zero _)
  | n + 1, i, h => by
    show zU (zIt zC1 n f) n (zC0 n) i = zC0 i
    by_cases hi : i = n
    · subst hi; rw [zU_same]
    · rw [zU_ne hi]; exact zC1_at f n i (by omega)
/-- going on until nothing changes -/
def zClW (wd : Nat → Nat) (n : Nat) : Nat → (Nat → Nat) → (Nat → Nat)
  | 0, g => g
  | m + 1, g => if (zPs wd n g).2 = true then zClW wd n m (zPs wd n g).1 else (zPs wd n g).1
def zFuel : Nat := zSum zC0 + 1
def zClT (wd : Nat → Nat) (n : Nat) : Nat → Nat := zClW wd n zFuel zC0
theorem zSumI_le {f g : Nat → Nat} (h : ∀ i, g i ≤ f i) : ∀ n a b, a ≤ b → zIt (zSumF g) n a ≤ zIt (zSumF f) n b
  | 0, _, _, hab => hab
  | n + 1, a, b, hab => by
    show zIt (zSumF g) n a + g n ≤ zIt (zSumF f) n b + f n
    have h1 := zSumI_le h n a b hab
    have h2 := h n
    omega
theorem zSumI_lt {f g : Nat → Nat} {j : Nat} (h : ∀ i, g i ≤ f i) (hj : g j < f j) : ∀ n a, j < n → zIt (zSumF g) n a < zIt (zSumF f) n a
  | 0, _, hn => absurd hn (Nat.not_lt_zero _)
  | n + 1, a, hn => by
    show zIt (zSumF g) n a + g n < zIt (zSumF f) n a + f n
    by_cases h1 : j = n
    · subst h1
      have h2 := zSumI_le h j a a (Nat.le_refl a)
      omega
    · have h2 := zSumI_lt h hj n a (by omega)
      have h3 := h n
      omega
/-- a step lowers, and if it raises the flag it lowers truly -/
def zLow (q p : zTB) : Prop := (∀ i, p.1 i ≤ q.1 i) ∧ (p.2 = true → q.2 = true ∨ zSum p.1 < zSum q.1) ∧ (q.2 = true → p.2 = true) ∧ (p.2 = false → p.1 = q.1)
theorem zLow_rf (q : zTB) : zLow q q := ⟨fun _ => Nat.le_refl _, fun h => Or.inl h, fun h => h, fun _ => rfl⟩
theorem zSum_mono {f g : Nat → Nat} (h : ∀ i, g i ≤ f i) : zSum g ≤ zSum f := zSumI_le h 64 0 0 (Nat.le_refl 0)
theorem zLow_tr {q p r : zTB} (h1 : zLow q p) (h2 : zLow p r) : zLow q r := by
  obtain ⟨a1, a2, a3, a4⟩ := h1
  obtain ⟨b1, b2, b3, b4⟩ := h2
  have s1 := zSum_mono a1
  have s2 := zSum_mono b1
  refine ⟨fun i => Nat.le_trans (b1 i) (a1 i), fun h => ?_, fun h => b3 (a3 h), fun h => ?_⟩
  · rcases b2 h with h3 | h3
    · rcases a2 h3 with h4 | h4
      · exact Or.inl h4
      · exact Or.inr (by omega)
    · exact Or.inr (by omega)
  · rw [b4 h]
    apply a4
    cases hp : p.2 with
    | false => rfl
    | true => rw [b3 hp] at h; cases h
theorem zIm_low {u v len : Nat} {q : zTB} (hu : u < 8) (hv : v < 8) : zLow q (zIm u v len q) := by
  unfold zIm zImT
  by_cases h : min len 1000000 < q.1 (8 * u + v)
  · have hle : ∀ i, zU q.1 (8 * u + v) (min len 1000000) i ≤ q.1 i := by
      intro i; unfold zU; split
      · rename_i hi; subst hi; omega
      · exact Nat.le_refl _
    rw [if_pos h]
    refine ⟨hle, fun _ => Or.inr ?_, fun hq => by simp [hq], fun hf => by simp [h] at hf⟩
    exact zSumI_lt hle (j := 8 * u + v) (by rw [zU_same]; exact h) 64 0 (by omega)
  · rw [if_neg h]
    refine ⟨fun _ => Nat.le_refl _, fun hp => Or.inl (by simpa [h] using hp), fun hq => by simp [hq], fun _ => rfl⟩
theorem zIt_low {g : Nat → zTB → zTB} {m : Nat} (h : ∀ i q, i < m → zLow q (g i q)) : ∀ n, n ≤ m → ∀ q, zLow q (zIt g n q)
  | 0, _, q => zLow_rf q
  | n + 1, hn, q => zLow_tr (zIt_low h n (by omega) q) (h n _ (by omega))
theorem zPeA_low {wd : Nat → Nat} (hw : ∀ i, wd i < 8) (e : Nat) (q : zTB) : zLow q (zPeA wd e q) := by
  unfold zPeA; split
  · exact zIm_low (hw _) (hw _)
  · exact zLow_rf q
theorem zPeC_low {wd : Nat → Nat} (hw : ∀ i, wd i < 8) (e c : Nat) (q : zTB) : zLow q (zPeC wd e c q) := by
  unfold zPeC; split
  · exact zIm_low (hw _) (hw _)
  · exact zLow_rf q
theorem zPe_low {wd : Nat → Nat} (hw : ∀ i, wd i < 8) (n e : Nat) (q : zTB) : zLow q (zPe wd n e q) := by
  unfold zPe; split
  · exact zLow_tr (zPeA_low hw e q) (zIt_low (m := n) (fun i q _ => zPeC_low hw e i q) n (Nat.le_refl n) _)
  · exact zPeA_low hw e q
theorem zPk_low {k : Nat} (hk : k < 512) (q : zTB) : zLow q (zPk k q) := by
  unfold zPk; split
  · exact zIm_low (by omega) (by omega)
  · exact zLow_rf q
theorem zPs_low {wd : Nat → Nat} (hw : ∀ i, wd i < 8) (n : Nat) (f : Nat → Nat) : zLow (f, false) (zPs wd n f) :=
  zLow_tr (zIt_low (m := n) (fun i q _ => zPe_low hw n i q) n (Nat.le_refl n) _) (zIt_low (m := 512) (fun i q hi => zPk_low hi q) 512 (Nat.le_refl 512) _)
theorem zPs_dn {wd : Nat → Nat} (hw : ∀ i, wd i < 8) {n : Nat} {f : Nat → Nat} (h : (zPs wd n f).2 = true) : zSum (zPs wd n f).1 < zSum f := by
  rcases (zPs_low hw n f).2.1 h with h | h
  · cases h
  · exact h
theorem zIm_2 {u v len : Nat} {q : zTB} (h : zL2 q.1) : zL2 (zIm u v len q).1 := zImT_2 h
theorem zPeA_2 {wd : Nat → Nat} {e : Nat} {q : zTB} (h : zL2 q.1) : zL2 (zPeA wd e q).1 := by
  unfold zPeA; split
  · exact zIm_2 h
  · exact h
theorem zPeC_2 {wd : Nat → Nat} {e c : Nat} {q : zTB} (h : zL2 q.1) : zL2 (zPeC wd e c q).1 := by
  unfold zPeC; split
  · exact zIm_2 h
  · exact h
theorem zPk_2 {k : Nat} {q : zTB} (h : zL2 q.1) : zL2 (zPk k q).1 := by
  unfold zPk; split
  · exact zIm_2 h
  · exact h
theorem zC0_2 : zL2 zC0 := by intro i; unfold zC0; split <;> omega
/-- the rows that closeOf writes -/
def zWd3 (g wd : Nat → Nat) (e n : Nat) : Nat → Nat := zU (zU (zU wd (3 * n) (g (1 + 3 * e))) (3 * n + 1) (g (1 + 3 * e + 1))) (3 * n + 2) (g (1 + 3 * e + 2))
def zWd (sub : Nat) (g wd : Nat → Nat) : Nat → Nat → Nat
  | 0 => wd
  | n + 1 => if sub / 2 ^ n % 2 = 0 then zWd sub g wd n else zWd3 g (zWd sub g wd n) n (zCt sub n)
theorem zWd_y {sub n : Nat} (h : ¬ (sub / 2 ^ n % 2) = 0) (g wd : Nat → Nat) : zWd sub g wd (n + 1) = zWd3 g (zWd sub g wd n) n (zCt sub n) := by simp only [zWd]; rw [if_neg h]
theorem zWd_n {sub n : Nat} (h : (sub / 2 ^ n % 2) = 0) (g wd : Nat → Nat) : zWd sub g wd (n + 1) = zWd sub g wd n := by simp only [zWd]; rw [if_pos h]
theorem zWd_8 {sub : Nat} {g wd : Nat → Nat} (hw : ∀ i, wd i < 8) (hg : ∀ i, 1 ≤ i → g i < 8) : ∀ n i, zWd sub g wd n i < 8 := by
  intro n
  induction n with
  | zero => exact hw
  | succ n ih =>
    by_cases h : sub / 2 ^ n % 2 = 0
    · rw [zWd_n h]; exact ih
    · rw [zWd_y h]
      exact zU_lt (zU_lt (zU_lt ih (hg _ (by omega))) (hg _ (by omega))) (hg _ (by omega))
/-- what only the first rows decide -/
theorem zPe_cong {wd wd' : Nat → Nat} {n : Nat} (h : ∀ i, i < 3 * n → wd i = wd' i) {e : Nat} (he : e < n) (q : zTB) : zPe wd n e q = zPe wd' n e q := by
  have hA : zPeA wd e q = zPeA wd' e q := by unfold zPeA; rw [h (3 * e) (by omega), h (3 * e + 1) (by omega), h (3 * e + 2) (by omega)]
  have hC : ∀ c a, c < n → zPeC wd e c a = zPeC wd' e c a := by
    intro c a hc
    unfold zPeC
    rw [h (3 * e) (by omega), h (3 * e + 1) (by omega), h (3 * e + 2) (by omega), h (3 * c) (by omega), h (3 * c + 1) (by omega), h (3 * c + 2) (by omega)]
  unfold zPe
  rw [hA, h (3 * e + 2) (by omega), zIt_cong n hC (zPeA wd' e q)]
theorem zPs_cong {wd wd' : Nat → Nat} {n : Nat} (h : ∀ i, i < 3 * n → wd i = wd' i) (f : Nat → Nat) : zPs wd n f = zPs wd' n f := by
  unfold zPs
  rw [zIt_cong n (fun e a he => zPe_cong h he a) (f, false)]
theorem zClW_cong {wd wd' : Nat → Nat} {n : Nat} (h : ∀ i, i < 3 * n → wd i = wd' i) : ∀ m f, zClW wd n m f = zClW wd' n m f
  | 0, _ => rfl
  | m + 1, f => by
    simp only [zClW]
    rw [zPs_cong h f, zClW_cong h m]
theorem zClT_cong {wd wd' : Nat → Nat} {n : Nat} (h : ∀ i, i < 3 * n → wd i = wd' i) : zClT wd n = zClT wd' n := zClW_cong h _ _
theorem zWd_cong {sub : Nat} {g wd wd' : Nat → Nat} : ∀ n i, i < 3 * zCt sub n → zWd sub g wd n i = zWd sub g wd' n i
  | 0, _, h => absurd h (Nat.not_lt_zero _)
  | n + 1, i, h => by
    by_cases hb : sub / 2 ^ n % 2 = 0
    · rw [zCt_n hb] at h
      rw [zWd_n hb, zWd_n hb]; exact zWd_cong n i h
    · rw [zCt_y hb] at h
      rw [zWd_y hb, zWd_y hb]
      unfold zWd3 zU
      by_cases h2 : i = 3 * zCt sub n + 2
      · rw [if_pos h2, if_pos h2]
      · rw [if_neg h2, if_neg h2]
        by_cases h1 : i = 3 * zCt sub n + 1
        · rw [if_pos h1, if_pos h1]
        · rw [if_neg h1, if_neg h1]
          by_cases h0 : i = 3 * zCt sub n
          · rw [if_pos h0, if_pos h0]
          · rw [if_neg h0, if_neg h0]; exact zWd_cong n i (by omega)
/-- the closed table of some edges of a block -/
theorem mT_ex (g : Nat → Nat) (sub : Nat) : ∃ T : Nat → Nat, T = zClT (zWd sub g z0 (g 0)) (zCt sub (g 0)) := ⟨_, rfl⟩
/-- held behind a wall: unfolding it in a walk runs away -/
noncomputable def mT (g : Nat → Nat) (sub : Nat) : Nat → Nat := Classical.choose (mT_ex g sub)
theorem mT_def (g : Nat → Nat) (sub : Nat) : mT g sub = zClT (zWd sub g z0 (g 0)) (zCt sub (g 0)) := Classical.choose_spec (mT_ex g sub)
theorem mT_eq (g wd : Nat → Nat) (sub : Nat) : zClT (zWd sub g wd (g 0)) (zCt sub (g 0)) = mT g sub := by rw [mT_def]; exact zClT_cong (fun i hi => zWd_cong _ i hi)
theorem zClW_2 {wd : Nat → Nat} {n : Nat} : ∀ m f, zL2 f → zL2 (zClW wd n m f)
  | 0, _, h => h
  | m + 1, f, h => by
    have h1 : zL2 (zPs wd n f).1 := by
      unfold zPs
      refine zIt_inv (f := zPk) (m := 512) (P := fun q : zTB => zL2 q.1) (fun _ _ _ h => zPk_2 h) 512 (Nat.le_refl _) _ ?_
      refine zIt_inv (f := zPe wd n) (m := n) (P := fun q : zTB => zL2 q.1) (fun e q _ h => ?_) n (Nat.le_refl _) _ h
      unfold zPe; split
      · exact zIt_inv (f := zPeC wd e) (m := n) (P := fun q : zTB => zL2 q.1) (fun _ _ _ h => zPeC_2 h) n (Nat.le_refl _) _ (zPeA_2 h)
      · exact zPeA_2 h
    simp only [zClW]
    split
    · exact zClW_2 m _ h1
    · exact h1
theorem zClT_2 (wd : Nat → Nat) (n : Nat) : zL2 (zClT wd n) := zClW_2 _ _ zC0_2
theorem mT_2 (g : Nat → Nat) (sub : Nat) : zL2 (mT g sub) := by rw [mT_def]; exact zClT_2 _ _
def mPrF (V : Nat) (f : Nat → Nat) (k a : Nat) : Nat := if k / 8 < V ∧ k % 8 < V ∧ f k < 2000000 then a + 1 else a
def mPrs (V : Nat) (f : Nat → Nat) : Nat := zIt (mPrF V f) 64 0
noncomputable def mPr (V : Nat) (g : Nat → Nat) (sub : Nat) : Nat := mPrs V (mT g sub)
theorem mPrI_le (V : Nat) (f : Nat → Nat) : ∀ n, zIt (mPrF V f) n 0 ≤ n
  | 0 => Nat.le_refl 0
  | n + 1 => by
    have h := mPrI_le V f n
    show mPrF V f n (zIt (mPrF V f) n 0) ≤ n + 1
    generalize zIt (mPrF V f) n 0 = x at h
    unfold mPrF; split <;> omega
theorem mPr_le (V : Nat) (g : Nat → Nat) (sub : Nat) : mPr V g sub ≤ 64 := mPrI_le V _ 64
def zBits (s : Nat) : Nat := zIt (zPopF s) 16 0
