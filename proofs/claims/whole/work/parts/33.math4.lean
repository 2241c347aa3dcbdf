/-! one graph, two forms -/
def Blk (g s t lb : Nat → Nat) (k : Nat) : Prop := g 0 = k ∧ ∀ i, i < k → g (1 + 3 * i) = s i ∧ g (1 + 3 * i + 1) = t i ∧ g (1 + 3 * i + 2) = lb i
theorem Pth_iff {s t lb s' t' lb' : Nat → Nat} {k : Nat} (h : ∀ i, i < k → s' i = s i ∧ t' i = t i ∧ lb' i = lb i) {n u v : Nat} : Pth s t lb k n u v ↔ Pth s' t' lb' k n u v :=
  ⟨fun h1 => Pth_sub (fun i hi => ⟨i, hi, h i hi⟩) h1, fun h1 => Pth_sub (fun i hi => ⟨i, hi, (h i hi).1.symm, (h i hi).2.1.symm, (h i hi).2.2.symm⟩) h1⟩
theorem ExT_iff {s t lb s' t' lb' : Nat → Nat} {k : Nat} (h : ∀ i, i < k → s' i = s i ∧ t' i = t i ∧ lb' i = lb i) {far : Nat} {T : Nat → Nat} {u v : Nat} (hx : ExT s t lb k far T u v) : ExT s' t' lb' k far T u v := by
  rcases hx with ⟨n, hd, he⟩ | ⟨hn, he⟩
  · exact Or.inl ⟨n, ⟨(Pth_iff h).mp hd.1, fun j hj hp => hd.2 j hj ((Pth_iff h).mpr hp)⟩, he⟩
  · exact Or.inr ⟨fun n hp => hn n ((Pth_iff h).mpr hp), he⟩
theorem zWd_sel {sub : Nat} {g wd : Nat → Nat} : ∀ n i, i < zCt sub n → zWd sub g wd n (3 * i) = zSel sub z0 (fun j => g (1 + 3 * j)) n i ∧ zWd sub g wd n (3 * i + 1) = zSel sub z0 (fun j => g (1 + 3 * j + 1)) n i ∧ zWd sub g wd n (3 * i + 2) = zSel sub z0 (fun j => g (1 + 3 * j + 2)) n i
  | 0, _, h => absurd h (Nat.not_lt_zero _)
  | n + 1, i, h => by
    by_cases hb : sub / 2 ^ n % 2 = 0
    · rw [zCt_n hb] at h
      rw [zWd_n hb, zSel_n hb, zSel_n hb, zSel_n hb]
      exact zWd_sel n i h
    · rw [zCt_y hb] at h
      rw [zWd_y hb, zSel_y hb, zSel_y hb, zSel_y hb]
      unfold zWd3
      simp only [zU]
      by_cases hi : i = zCt sub n
      · subst hi
        refine ⟨?_, ?_, ?_⟩
        · rw [if_neg (by omega), if_neg (by omega), if_pos rfl, if_pos rfl]
        · rw [if_neg (by omega), if_pos rfl, if_pos rfl]
        · rw [if_pos rfl, if_pos rfl]
      · have ih := zWd_sel (sub := sub) (g := g) (wd := wd) n i (by omega)
        refine ⟨?_, ?_, ?_⟩
        · rw [if_neg (by omega), if_neg (by omega), if_neg (by omega), if_neg hi]; exact ih.1
        · rw [if_neg (by omega), if_neg (by omega), if_neg (by omega), if_neg hi]; exact ih.2.1
        · rw [if_neg (by omega), if_neg (by omega), if_neg (by omega), if_neg hi]; exact ih.2.2
theorem zSel_c2 {sub : Nat} {a s s' : Nat → Nat} : ∀ n, (∀ j, j < n → s j = s' j) → ∀ i, zSel sub a s n i = zSel sub a s' n i
  | 0, _, _ => rfl
  | n + 1, h, i => by
    have ih := zSel_c2 (sub := sub) (a := a) n (fun j hj => h j (by omega)) i
    by_cases hb : sub / 2 ^ n % 2 = 0
    · rw [zSel_n hb, zSel_n hb]; exact ih
    · rw [zSel_y hb, zSel_y hb]
      simp only [zU]
      rw [h n (by omega), ih]
theorem mT_exact {g s t lb : Nat → Nat} {k : Nat} (sub : Nat) (hB : Blk g s t lb k) (hg : ∀ i, 1 ≤ i → g i < 8) {u v : Nat} (hu : u < 8) (hv : v < 8) : ExT (zSel sub z0 s k) (zSel sub z0 t k) (zSel sub z0 lb k) (zCt sub k) 2000000 (mT g sub) u v := by
  rw [mT_def, hB.1]
  refine ExT_iff (fun i hi => ?_) (zClT_exact (zWd_8 (fun _ => (show 0 < 8 by decide)) hg k) hu hv)
  have h := zWd_sel (sub := sub) (g := g) (wd := z0) k i hi
  refine ⟨?_, ?_, ?_⟩
  · show _ = zWd sub g z0 k (3 * i)
    rw [h.1]; exact zSel_c2 k (fun j hj => (hB.2 j hj).1.symm) i
  · show _ = zWd sub g z0 k (3 * i + 1)
    rw [h.2.1]; exact zSel_c2 k (fun j hj => (hB.2 j hj).2.1.symm) i
  · show _ = zWd sub g z0 k (3 * i + 2)
    rw [h.2.2]; exact zSel_c2 k (fun j hj => (hB.2 j hj).2.2.symm) i
theorem m65_bit : ∀ n, n < 16 → ¬ (65535 / 2 ^ n % 2) = 0 := by decide +kernel
theorem zCt_all : ∀ k, k ≤ 16 → zCt 65535 k = k
  | 0, _ => rfl
  | k + 1, h => by rw [zCt_y (m65_bit k (by omega)), zCt_all k (by omega)]
theorem zSel_all (a s : Nat → Nat) : ∀ k, k ≤ 16 → ∀ i, i < k → zSel 65535 a s k i = s i
  | 0, _, _, h => absurd h (Nat.not_lt_zero _)
  | k + 1, h, i, hi => by
    rw [zSel_y (m65_bit k (by omega)), zCt_all k (by omega)]
    by_cases hk : i = k
    · rw [hk, zU_same]
    · rw [zU_ne hk]; exact zSel_all a s k (by omega) i (by omega)
theorem mT_ex1 {g s t lb : Nat → Nat} {k : Nat} (hB : Blk g s t lb k) (hk : k ≤ 16) (hg : ∀ i, 1 ≤ i → g i < 8) {u v : Nat} (hu : u < 8) (hv : v < 8) : ExT s t lb k 2000000 (mT g 65535) u v := by
  have h := mT_exact 65535 hB hg hu hv
  rw [zCt_all k hk] at h
  exact ExT_iff (fun i hi => ⟨(zSel_all z0 s k hk i hi).symm, (zSel_all z0 t k hk i hi).symm, (zSel_all z0 lb k hk i hi).symm⟩) h
theorem ExT_has {s t lb : Nat → Nat} {k : Nat} {T : Nat → Nat} {u v : Nat} (h : ExT s t lb k 2000000 T u v) : T (8 * u + v) < 2000000 ↔ ∃ n, Pth s t lb k n u v := by
  rcases h with ⟨n, hd, he⟩ | ⟨hn, he⟩
  · rw [he]; exact ⟨fun _ => ⟨n, hd.1⟩, fun _ => by omega⟩
  · rw [he]; exact ⟨fun h => absurd h (by omega), fun ⟨n, hp⟩ => absurd hp (hn n)⟩
/-- distance: both answer the same -/
theorem eq_distance {f g s t lb : Nat → Nat} {k V x y : Nat} (hB : Blk g s t lb k) (hk : k ≤ 16) (hg : ∀ i, 1 ≤ i → g i < 8) (hE : ∀ i, i < k → s i < V ∧ t i < V) (hV : V ≤ 8) (hf : zT9 f) (hx : x < V) (hy : y < V) : zDiX (zMs f s t lb k V) x y = mDi (mT g 65535) x y := by
  unfold zDiX mDi
  rcases zMs_exact hE hV hf hx hy with ⟨n, hd, he⟩ | ⟨hn, he⟩
  · rcases mT_ex1 hB hk hg (show x < 8 by omega) (show y < 8 by omega) with ⟨m, hd2, he2⟩ | ⟨hn2, -⟩
    · have e1 := isD_un hd hd2
      rw [he, he2, e1, if_neg (by omega), if_pos (by omega)]
    · exact absurd hd.1 (hn2 n)
  · rcases mT_ex1 hB hk hg (show x < 8 by omega) (show y < 8 by omega) with ⟨m, hd2, -⟩ | ⟨-, he2⟩
    · exact absurd hd2.1 (hn m)
    · rw [he, he2, if_pos rfl, if_neg (by omega)]
