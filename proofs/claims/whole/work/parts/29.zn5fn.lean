/-! the reference: least depths, going on until nothing changes -/
theorem mLdT_2 {u v d : Nat} {f : Nat → Nat} (h : zL2 f) (hd : d ≤ 2000000) : zL2 (mLdT u v d f) := by
  unfold mLdT; split
  · intro i; unfold zU; split
    · exact hd
    · exact h i
  · exact h
def yIm (u v d : Nat) (q : zTB) : zTB := (mLdT u v d q.1, q.2 || decide (d < q.1 (8 * u + v)))
def yPeA (g : Nat → Nat) (e : Nat) (q : zTB) : zTB := if g (1 + 3 * e + 2) = 0 then yIm (g (1 + 3 * e)) (g (1 + 3 * e + 1)) 0 q else q
def yPeC (g : Nat → Nat) (e c : Nat) (q : zTB) : zTB := if g (1 + 3 * c + 2) = g (1 + 3 * e + 2) + 3 ∧ q.1 (8 * g (1 + 3 * e + 1) + g (1 + 3 * c)) < 2000000 then yIm (g (1 + 3 * e)) (g (1 + 3 * c + 1)) (q.1 (8 * g (1 + 3 * e + 1) + g (1 + 3 * c)) + 1) q else q
def yPe (g : Nat → Nat) (e : Nat) (q : zTB) : zTB := if 1 ≤ g (1 + 3 * e + 2) ∧ g (1 + 3 * e + 2) ≤ 3 then zIt (yPeC g e) (g 0) (yPeA g e q) else yPeA g e q
def yPk (k : Nat) (q : zTB) : zTB := yIm (k / 64) (k % 8) (if q.1 (8 * (k / 64) + k / 8 % 8) ≤ q.1 (8 * (k / 8 % 8) + k % 8) then q.1 (8 * (k / 8 % 8) + k % 8) else q.1 (8 * (k / 64) + k / 8 % 8)) q
def yPs (g : Nat → Nat) (f : Nat → Nat) : zTB := zIt yPk 512 (zIt (yPe g) (g 0) (f, false))
def yClW (g : Nat → Nat) : Nat → (Nat → Nat) → (Nat → Nat)
  | 0, f => f
  | m + 1, f => if (yPs g f).2 = true then yClW g m (yPs g f).1 else (yPs g f).1
theorem mDp_ex (g : Nat → Nat) : ∃ T : Nat → Nat, T = yClW g zFuel zC0 := ⟨_, rfl⟩
noncomputable def mDp (g : Nat → Nat) : Nat → Nat := Classical.choose (mDp_ex g)
theorem mDp_def (g : Nat → Nat) : mDp g = yClW g zFuel zC0 := Classical.choose_spec (mDp_ex g)
theorem yIm_low {u v d : Nat} {q : zTB} (hu : u < 8) (hv : v < 8) : zLow q (yIm u v d q) := by
  unfold yIm mLdT
  by_cases h : d < q.1 (8 * u + v)
  · have hle : ∀ i, zU q.1 (8 * u + v) d i ≤ q.1 i := by
      intro i; unfold zU; split
      · rename_i hi; subst hi; omega
      · exact Nat.le_refl _
    rw [if_pos h]
    refine ⟨hle, fun _ => Or.inr ?_, fun hq => by simp [hq], fun hf => by simp [h] at hf⟩
    exact zSumI_lt hle (j := 8 * u + v) (by rw [zU_same]; exact h) 64 0 (by omega)
  · rw [if_neg h]
    refine ⟨fun _ => Nat.le_refl _, fun hp => Or.inl (by simpa [h] using hp), fun hq => by simp [hq], fun _ => rfl⟩
theorem yPeA_low {g : Nat → Nat} (hg : ∀ i, 1 ≤ i → g i < 8) (e : Nat) (q : zTB) : zLow q (yPeA g e q) := by
  unfold yPeA; split
  · exact yIm_low (hg _ (by omega)) (hg _ (by omega))
  · exact zLow_rf q
theorem yPeC_low {g : Nat → Nat} (hg : ∀ i, 1 ≤ i → g i < 8) (e c : Nat) (q : zTB) : zLow q (yPeC g e c q) := by
  unfold yPeC; split
  · exact yIm_low (hg _ (by omega)) (hg _ (by omega))
  · exact zLow_rf q
theorem yPe_low {g : Nat → Nat} (hg : ∀ i, 1 ≤ i → g i < 8) (e : Nat) (q : zTB) : zLow q (yPe g e q) := by
  unfold yPe; split
  · exact zLow_tr (yPeA_low hg e q) (zIt_low (m := g 0) (fun i q _ => yPeC_low hg e i q) (g 0) (Nat.le_refl _) _)
  · exact yPeA_low hg e q
theorem yPk_low {k : Nat} (hk : k < 512) (q : zTB) : zLow q (yPk k q) := yIm_low (by omega) (by omega)
theorem yPs_low {g : Nat → Nat} (hg : ∀ i, 1 ≤ i → g i < 8) (f : Nat → Nat) : zLow (f, false) (yPs g f) :=
  zLow_tr (zIt_low (m := g 0) (fun i q _ => yPe_low hg i q) (g 0) (Nat.le_refl _) _) (zIt_low (m := 512) (fun i q hi => yPk_low hi q) 512 (Nat.le_refl 512) _)
theorem yPs_dn {g : Nat → Nat} (hg : ∀ i, 1 ≤ i → g i < 8) {f : Nat → Nat} (h : (yPs g f).2 = true) : zSum (yPs g f).1 < zSum f := by
  rcases (yPs_low hg f).2.1 h with h | h
  · cases h
  · exact h
theorem yIm_2 {u v d : Nat} {q : zTB} (h : zL2 q.1) (hd : d ≤ 2000000) : zL2 (yIm u v d q).1 := mLdT_2 h hd
theorem yPeA_2 {g : Nat → Nat} {e : Nat} {q : zTB} (h : zL2 q.1) : zL2 (yPeA g e q).1 := by
  unfold yPeA; split
  · exact yIm_2 h (by omega)
  · exact h
theorem yPeC_2 {g : Nat → Nat} {e c : Nat} {q : zTB} (h : zL2 q.1) : zL2 (yPeC g e c q).1 := by
  unfold yPeC; split
  · exact yIm_2 h (by omega)
  · exact h
theorem yPk_2 {k : Nat} {q : zTB} (h : zL2 q.1) : zL2 (yPk k q).1 := by
  unfold yPk
  refine yIm_2 h ?_
  split
  · exact h _
  · exact h _
theorem yClW_2 {g : Nat → Nat} : ∀ m f, zL2 f → zL2 (yClW g m f)
  | 0, _, h => h
  | m + 1, f, h => by
    have h1 : zL2 (yPs g f).1 := by
      unfold yPs
      refine zIt_inv (f := yPk) (m := 512) (P := fun q : zTB => zL2 q.1) (fun _ _ _ h => yPk_2 h) 512 (Nat.le_refl _) _ ?_
      refine zIt_inv (f := yPe g) (m := g 0) (P := fun q : zTB => zL2 q.1) (fun e q _ h => ?_) (g 0) (Nat.le_refl _) _ h
      unfold yPe; split
      · exact zIt_inv (f := yPeC g e) (m := g 0) (P := fun q : zTB => zL2 q.1) (fun _ _ _ h => yPeC_2 h) (g 0) (Nat.le_refl _) _ (yPeA_2 h)
      · exact yPeA_2 h
    simp only [yClW]
    split
    · exact yClW_2 m _ h1
    · exact h1
theorem mDp_2 (g : Nat → Nat) : zL2 (mDp g) := by rw [mDp_def]; exact yClW_2 _ _ zC0_2
theorem mDp_start (g : Nat → Nat) : mDp g = if true = true then yClW g zFuel zC0 else zC0 := by rw [if_pos rfl]; exact mDp_def g
theorem yPs_mu {g f f3 : Nat → Nat} {b b3 : Bool} {N : Nat} (hg : ∀ i, 1 ≤ i → g i < 8) (hps : (f3, b3) = yPs g f) (hb : b = true) (hmu : (if b = true then zSum f + 1 else 0) < N + 1) : (if b3 = true then zSum f3 + 1 else 0) < N := by
  rw [if_pos hb] at hmu
  by_cases h : b3 = true
  · rw [if_pos h]
    have hd := yPs_dn hg (f := f) (by rw [← hps]; exact h)
    rw [← hps] at hd
    dsimp only at hd
    omega
  · rw [if_neg h]; omega
theorem yPs_fu {g f f3 : Nat → Nat} {b3 : Bool} {fu : Nat} (hg : ∀ i, 1 ≤ i → g i < 8) (hps : (f3, b3) = yPs g f) (hfu : zSum f < fu) : b3 = true → zSum f3 < fu - 1 := by
  intro h
  have hd := yPs_dn hg (f := f) (by rw [← hps]; exact h)
  rw [← hps] at hd
  dsimp only at hd
  omega
theorem mDp_end2 {g f f2 : Nat → Nat} {fu : Nat} {b b2 : Bool} (hq : mDp g = if b = true then yClW g fu f else f) (hb : b = true) (hfu : zSum f < fu) (hp : (f2, b2) = yPs g f) : mDp g = if b2 = true then yClW g (fu - 1) f2 else f2 := by
  rw [if_pos hb] at hq
  rw [hq, show fu = fu - 1 + 1 by omega]
  simp only [yClW]
  rw [← hp, show fu - 1 + 1 - 1 = fu - 1 by omega]
theorem yPe_end {g : Nat → Nat} {e c : Nat} {f1 f2 : Nat → Nat} {b1 b2 : Bool} {q : zTB} (hq : (f1, b1) = zIt (yPe g) e q) (hq2 : (f2, b2) = zIt (yPeC g e) c (yPeA g e (f1, b1))) (h5 : c = 0 ∨ (1 ≤ g (1 + 3 * e + 2) ∧ g (1 + 3 * e + 2) ≤ 3)) (hc : g 0 = c ∨ ¬ (1 ≤ g (1 + 3 * e + 2) ∧ g (1 + 3 * e + 2) ≤ 3)) : (f2, b2) = zIt (yPe g) (e + 1) q := by
  rw [zIt_s, ← hq]
  unfold yPe
  by_cases h : 1 ≤ g (1 + 3 * e + 2) ∧ g (1 + 3 * e + 2) ≤ 3
  · rw [if_pos h]
    have e1 : g 0 = c := by omega
    rw [e1]; exact hq2
  · rw [if_neg h]
    have e1 : c = 0 := by omega
    subst e1
    exact hq2
def mDe (T : Nat → Nat) (x y : Nat) : Int32 := if T (8 * x + y) = 2000000 then (-9) else nI (T (8 * x + y))
theorem z13 (i : Nat) : 1 + 3 * (i + 1) = 1 + 3 * i + 3 := by omega
