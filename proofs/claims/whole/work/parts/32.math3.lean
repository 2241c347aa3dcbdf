/-! the reference's table is exact -/
def wS (wd : Nat → Nat) (i : Nat) : Nat := wd (3 * i)
def wT (wd : Nat → Nat) (i : Nat) : Nat := wd (3 * i + 1)
def wL (wd : Nat → Nat) (i : Nat) : Nat := wd (3 * i + 2)
def Snd2 (s t lb : Nat → Nat) (k : Nat) (T : Nat → Nat) : Prop := ∀ u v, u < 8 → v < 8 → T (8 * u + v) < 2000000 → ∃ n, Pth s t lb k n u v ∧ T (8 * u + v) = min n 1000000
theorem Snd2_im {s t lb : Nat → Nat} {k u v len : Nat} {q : zTB} (hv : v < 8) (h : Snd2 s t lb k q.1) (hl : ∃ n, Pth s t lb k n u v ∧ min len 1000000 = min n 1000000) : Snd2 s t lb k (zIm u v len q).1 := by
  show Snd2 s t lb k (zImT u v len q.1)
  unfold zImT
  split
  · intro a b ha hb hab
    by_cases h1 : 8 * a + b = 8 * u + v
    · have e1 : a = u := by omega
      have e2 : b = v := by omega
      subst e1
      subst e2
      rw [zU_same]
      exact hl
    · rw [zU_ne h1] at hab ⊢
      exact h a b ha hb hab
  · exact h
theorem mn3 {a n : Nat} (h : a = min n 1000000) : min (a + 2) 1000000 = min (n + 0 + 2) 1000000 := by omega
theorem mn4 {a b n m : Nat} (h : a = min n 1000000) (h2 : b = min m 1000000) : min (a + b) 1000000 = min (n + m) 1000000 := by omega
section EXA
variable {wd : Nat → Nat} {n : Nat}
theorem Snd2_peA (hw : ∀ i, wd i < 8) {i : Nat} (hi : i < n) {q : zTB} (h : Snd2 (wS wd) (wT wd) (wL wd) n q.1) : Snd2 (wS wd) (wT wd) (wL wd) n (zPeA wd i q).1 := by
  unfold zPeA; split
  · rename_i h0
    refine Snd2_im (hw _) h ⟨1, ?_, rfl⟩
    exact Pth_c.2.1 i 0 (wT wd i) hi h0 (Pth_c.1 (wT wd i))
  · exact h
theorem Snd2_peC (hw : ∀ i, wd i < 8) {i c : Nat} (hi : i < n) (hc : c < n) (h1 : 1 ≤ wd (3 * i + 2)) (h2 : wd (3 * i + 2) ≤ 3) {q : zTB} (h : Snd2 (wS wd) (wT wd) (wL wd) n q.1) : Snd2 (wS wd) (wT wd) (wL wd) n (zPeC wd i c q).1 := by
  unfold zPeC; split
  · rename_i h0
    obtain ⟨m, hm, hm2⟩ := h (wd (3 * i + 1)) (wd (3 * c)) (hw _) (hw _) h0.2
    refine Snd2_im (hw _) h ⟨m + 0 + 2, ?_, mn3 hm2⟩
    exact Pth_c.2.2 i c m 0 (wT wd c) hi hc h1 h2 h0.1 hm (Pth_c.1 (wT wd c))
  · exact h
theorem Snd2_pe (hw : ∀ i, wd i < 8) {i : Nat} (hi : i < n) {q : zTB} (h : Snd2 (wS wd) (wT wd) (wL wd) n q.1) : Snd2 (wS wd) (wT wd) (wL wd) n (zPe wd n i q).1 := by
  unfold zPe; split
  · rename_i h0
    exact zIt_inv (f := zPeC wd i) (m := n) (P := fun q : zTB => Snd2 (wS wd) (wT wd) (wL wd) n q.1) (fun c q hc h => Snd2_peC hw hi hc h0.1 h0.2 h) n (Nat.le_refl n) _ (Snd2_peA hw hi h)
  · exact Snd2_peA hw hi h
theorem Snd2_pk {s t lb : Nat → Nat} {k j : Nat} (hj : j < 512) {q : zTB} (h : Snd2 s t lb k q.1) : Snd2 s t lb k (zPk j q).1 := by
  unfold zPk; split
  · rename_i h0
    obtain ⟨a, ha, ha2⟩ := h (j / 64) (j / 8 % 8) (by omega) (by omega) h0.1
    obtain ⟨b, hb, hb2⟩ := h (j / 8 % 8) (j % 8) (by omega) (by omega) h0.2
    exact Snd2_im (by omega) h ⟨a + b, Pth_cat ha hb, mn4 ha2 hb2⟩
  · exact h
theorem Snd2_ps (hw : ∀ i, wd i < 8) {f : Nat → Nat} (h : Snd2 (wS wd) (wT wd) (wL wd) n f) : Snd2 (wS wd) (wT wd) (wL wd) n (zPs wd n f).1 := by
  unfold zPs
  refine zIt_inv (f := zPk) (m := 512) (P := fun q : zTB => Snd2 (wS wd) (wT wd) (wL wd) n q.1) (fun j q hj h => Snd2_pk hj h) 512 (Nat.le_refl _) _ ?_
  exact zIt_inv (f := zPe wd n) (m := n) (P := fun q : zTB => Snd2 (wS wd) (wT wd) (wL wd) n q.1) (fun i q hi h => Snd2_pe hw hi h) n (Nat.le_refl n) _ h
theorem Snd2_w (hw : ∀ i, wd i < 8) : ∀ m f, Snd2 (wS wd) (wT wd) (wL wd) n f → Snd2 (wS wd) (wT wd) (wL wd) n (zClW wd n m f)
  | 0, _, h => h
  | m + 1, f, h => by
    simp only [zClW]
    split
    · exact Snd2_w hw m _ (Snd2_ps hw h)
    · exact Snd2_ps hw h
theorem zC0_at {u v : Nat} (hv : v < 8) : zC0 (8 * u + v) = if u = v then 0 else 2000000 := by
  unfold zC0
  by_cases h : u = v
  · rw [if_pos h, if_pos (by omega)]
  · rw [if_neg h, if_neg (by omega)]
theorem Snd2_T (hw : ∀ i, wd i < 8) : Snd2 (wS wd) (wT wd) (wL wd) n (zClT wd n) := by
  refine Snd2_w hw _ _ ?_
  intro u v hu hv h
  rw [zC0_at hv] at h ⊢
  by_cases e1 : u = v
  · subst e1
    rw [if_pos rfl]
    exact ⟨0, Pth_c.1 u, by omega⟩
  · rw [if_neg e1] at h; exact absurd h (by omega)
/-- where the flag stays down, nothing moved -/
theorem zIt_still {g : Nat → zTB → zTB} {m : Nat} (hl : ∀ i q, i < m → zLow q (g i q)) : ∀ k, k ≤ m → ∀ q, (zIt g k q).2 = false → zIt g k q = q ∧ q.2 = false ∧ ∀ i, i < k → (g i q).2 = false
  | 0, _, q, h => ⟨rfl, h, fun i hi => absurd hi (Nat.not_lt_zero i)⟩
  | k + 1, hk, q, h => by
    have h' : (g k (zIt g k q)).2 = false := h
    have hlow := hl k (zIt g k q) (by omega)
    have hq : (zIt g k q).2 = false := by
      cases hh : (zIt g k q).2 with
      | false => rfl
      | true => rw [hlow.2.2.1 hh] at h'; cases h'
    obtain ⟨e1, e2, e3⟩ := zIt_still hl k (by omega) q hq
    rw [e1] at h' hlow
    refine ⟨?_, e2, fun i hi => ?_⟩
    · show g k (zIt g k q) = q
      rw [e1]
      exact Prod.ext (hlow.2.2.2 h') (h'.trans e2.symm)
    · by_cases hik : i = k
      · rw [hik]; exact h'
      · exact e3 i (by omega)
theorem zClW_fix (hw : ∀ i, wd i < 8) : ∀ m f, zSum f < m → (zPs wd n (zClW wd n m f)).2 = false ∧ (∀ i, zClW wd n m f i ≤ f i)
  | 0, _, h => absurd h (Nat.not_lt_zero _)
  | m + 1, f, h => by
    have hlow := zPs_low hw n f
    simp only [zClW]
    by_cases hb : (zPs wd n f).2 = true
    · rw [if_pos hb]
      have hd := zPs_dn hw (n := n) (f := f) hb
      obtain ⟨h1, h2⟩ := zClW_fix hw m (zPs wd n f).1 (by omega)
      exact ⟨h1, fun i => Nat.le_trans (h2 i) (hlow.1 i)⟩
    · rw [if_neg hb]
      have hb2 : (zPs wd n f).2 = false := by
        cases hh : (zPs wd n f).2 with
        | false => rfl
        | true => exact absurd hh hb
      have e1 : (zPs wd n f).1 = f := hlow.2.2.2 hb2
      rw [e1]
      exact ⟨hb2, fun i => Nat.le_refl _⟩
theorem zIm_no {u v len : Nat} {q : zTB} (h : (zIm u v len q).2 = false) : q.1 (8 * u + v) ≤ min len 1000000 := by
  have h2 : (q.2 || decide (min len 1000000 < q.1 (8 * u + v))) = false := h
  rw [Bool.or_eq_false_iff] at h2
  have := of_decide_eq_false h2.2
  omega
/-- a table that no step moves -/
def Cls2 (s t lb : Nat → Nat) (k : Nat) (T : Nat → Nat) : Prop :=
  (∀ u, u < 8 → T (8 * u + u) = 0) ∧ (∀ i, i < k → lb i = 0 → T (8 * s i + t i) ≤ 1) ∧
  (∀ i c, i < k → c < k → 1 ≤ lb i → lb i ≤ 3 → lb c = lb i + 3 → T (8 * t i + s c) < 2000000 → T (8 * s i + t c) ≤ min (T (8 * t i + s c) + 2) 1000000) ∧
  (∀ a b c, a < 8 → b < 8 → c < 8 → T (8 * a + b) < 2000000 → T (8 * b + c) < 2000000 → T (8 * a + c) ≤ min (T (8 * a + b) + T (8 * b + c)) 1000000)
theorem zClT_cls (hw : ∀ i, wd i < 8) : Cls2 (wS wd) (wT wd) (wL wd) n (zClT wd n) := by
  obtain ⟨h1, h2⟩ := zClW_fix (n := n) hw zFuel zC0 zFuel_lt
  have h1 : (zPs wd n (zClT wd n)).2 = false := h1
  have h2 : ∀ i, zClT wd n i ≤ zC0 i := h2
  generalize zClT wd n = T at h1 h2
  unfold zPs at h1
  obtain ⟨e1, -, e3⟩ := zIt_still (g := zPk) (m := 512) (fun i q hi => zPk_low hi q) 512 (Nat.le_refl _) _ h1
  rw [e1] at h1
  obtain ⟨f1, -, f3⟩ := zIt_still (g := zPe wd n) (m := n) (fun i q _ => zPe_low hw n i q) n (Nat.le_refl _) _ h1
  rw [f1] at e3
  have hpe : ∀ i, i < n → (zPeA wd i (T, false)).2 = false ∧ (1 ≤ wd (3 * i + 2) ∧ wd (3 * i + 2) ≤ 3 → zPeA wd i (T, false) = (T, false) ∧ ∀ c, c < n → (zPeC wd i c (T, false)).2 = false) := by
    intro i hi
    have hp := f3 i hi
    have hA := zPeA_low hw i (T, false)
    unfold zPe at hp
    by_cases hl : 1 ≤ wd (3 * i + 2) ∧ wd (3 * i + 2) ≤ 3
    · rw [if_pos hl] at hp
      obtain ⟨g1, g2, g3⟩ := zIt_still (g := zPeC wd i) (m := n) (fun c q _ => zPeC_low hw i c q) n (Nat.le_refl _) _ hp
      have eA : zPeA wd i (T, false) = (T, false) := Prod.ext (hA.2.2.2 g2) g2
      refine ⟨g2, fun _ => ⟨eA, fun c hc => ?_⟩⟩
      have := g3 c hc
      rw [eA] at this
      exact this
    · rw [if_neg hl] at hp
      exact ⟨hp, fun h => absurd h hl⟩
  refine ⟨fun u hu => ?_, fun i hi hl => ?_, fun i c hi hc a1 a2 a3 a4 => ?_, fun a b c ha hb hc q1 q2 => ?_⟩
  · have := h2 (8 * u + u)
    rw [zC0_at hu, if_pos rfl] at this
    omega
  · have hp := (hpe i hi).1
    have hl : wd (3 * i + 2) = 0 := hl
    unfold zPeA at hp
    rw [if_pos hl] at hp
    have h9 : T (8 * wd (3 * i) + wd (3 * i + 1)) ≤ min 1 1000000 := zIm_no hp
    show T (8 * wd (3 * i) + wd (3 * i + 1)) ≤ 1
    omega
  · have hp := ((hpe i hi).2 ⟨a1, a2⟩).2 c hc
    have a3 : wd (3 * c + 2) = wd (3 * i + 2) + 3 := a3
    have a4 : T (8 * wd (3 * i + 1) + wd (3 * c)) < 2000000 := a4
    unfold zPeC at hp
    rw [if_pos ⟨a3, a4⟩] at hp
    exact zIm_no hp
  · have hk := e3 (64 * a + 8 * b + c) (by omega)
    unfold zPk at hk
    rw [show (64 * a + 8 * b + c) / 64 = a by omega, show (64 * a + 8 * b + c) / 8 % 8 = b by omega, show (64 * a + 8 * b + c) % 8 = c by omega, if_pos ⟨q1, q2⟩] at hk
    exact zIm_no hk
end EXA
theorem mn5 {x a b n : Nat} (h : x ≤ min (a + b) 1000000) (ha : a ≤ 1) (hb : b ≤ min n 1000000) : x ≤ min (n + 1) 1000000 := by omega
theorem mn6 {x a n : Nat} (h : x ≤ min (a + 2) 1000000) (ha : a ≤ min n 1000000) : x ≤ min (n + 2) 1000000 := by omega
theorem mn7 {x a b n m : Nat} (h : x ≤ min (a + b) 1000000) (ha : a ≤ min (n + 2) 1000000) (hb : b ≤ min m 1000000) : x ≤ min (n + m + 2) 1000000 := by omega
theorem mn8 {a n : Nat} (h : a ≤ min n 1000000) : a < 2000000 := by omega
theorem Cls2_le {s t lb : Nat → Nat} {k : Nat} {T : Nat → Nat} (hs : ∀ i, i < k → s i < 8 ∧ t i < 8) (hc : Cls2 s t lb k T) {n u v : Nat} (h : Pth s t lb k n u v) (hu : u < 8) (hv : v < 8) : T (8 * u + v) ≤ min n 1000000 := by
  refine h (fun n u v => u < 8 → v < 8 → T (8 * u + v) ≤ min n 1000000) ⟨?_, ?_, ?_⟩ hu hv
  · intro u hu _
    rw [hc.1 u hu]; exact Nat.zero_le _
  · intro i n v hi hl hp _ hv
    have h1 := hc.2.1 i hi hl
    have h2 := hp (hs i hi).2 hv
    exact mn5 (hc.2.2.2 (s i) (t i) v (hs i hi).1 (hs i hi).2 hv (Nat.lt_of_le_of_lt h1 (by decide)) (mn8 h2)) h1 h2
  · intro i j n m v hi hj a1 a2 a3 hp hq _ hv
    have h1 := hp (hs i hi).2 (hs j hj).1
    have h2 := hq (hs j hj).2 hv
    have h3 := mn6 (hc.2.2.1 i j hi hj a1 a2 a3 (mn8 h1)) h1
    exact mn7 (hc.2.2.2 (s i) (t j) v (hs i hi).1 (hs j hj).2 hv (mn8 h3) (mn8 h2)) h3 h2
theorem zClT_exact {wd : Nat → Nat} {n : Nat} (hw : ∀ i, wd i < 8) {u v : Nat} (hu : u < 8) (hv : v < 8) : ExT (wS wd) (wT wd) (wL wd) n 2000000 (zClT wd n) u v := by
  have hsn := Snd2_T (n := n) hw
  have hcl := zClT_cls (n := n) hw
  have h2 := zClT_2 wd n (8 * u + v)
  by_cases hp : ∃ m, Pth (wS wd) (wT wd) (wL wd) n m u v
  · obtain ⟨m0, hp0⟩ := hp
    obtain ⟨m, hd⟩ := isD_ex hp0
    refine Or.inl ⟨m, hd, ?_⟩
    have hle := Cls2_le (fun i _ => ⟨hw _, hw _⟩) hcl hd.1 hu hv
    obtain ⟨m2, hm2, he⟩ := hsn u v hu hv (mn8 hle)
    have := isD_le hd hm2
    generalize zClT wd n (8 * u + v) = x at hle he
    omega
  · refine Or.inr ⟨fun m h => hp ⟨m, h⟩, ?_⟩
    by_cases h : zClT wd n (8 * u + v) < 2000000
    · obtain ⟨m, hm, -⟩ := hsn u v hu hv h
      exact absurd ⟨m, hm⟩ hp
    · exact Nat.le_antisymm h2 (Nat.not_lt.mp h)
