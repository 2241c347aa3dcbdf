/-! nesting depth: both count the same -/
def DC (s t lb : Nat → Nat) (k : Nat) (R : Nat → Nat → Nat → Prop) : Prop :=
  (∀ d u, R d u u) ∧
  (∀ i d v, i < k → lb i = 0 → R d (t i) v → R d (s i) v) ∧
  (∀ i j d v, i < k → j < k → 1 ≤ lb i → lb i ≤ 3 → lb j = lb i + 3 → R d (t i) (s j) → R (d + 1) (t j) v → R (d + 1) (s i) v)
def Dth (s t lb : Nat → Nat) (k d u v : Nat) : Prop := ∀ R, DC s t lb k R → R d u v
section DTH
variable {s t lb : Nat → Nat} {k : Nat}
theorem Dth_c : DC s t lb k (Dth s t lb k) :=
  ⟨fun d u _ h => h.1 d u, fun i d v hi hl hp R h => h.2.1 i d v hi hl (hp R h), fun i j d v hi hj h1 h2 h3 hp hq R h => h.2.2 i j d v hi hj h1 h2 h3 (hp R h) (hq R h)⟩
theorem Dth_cat {d u v w : Nat} (h : Dth s t lb k d u v) (h2 : Dth s t lb k d v w) : Dth s t lb k d u w := by
  refine h (fun d u v => ∀ w, Dth s t lb k d v w → Dth s t lb k d u w) ⟨?_, ?_, ?_⟩ w h2
  · intro d u w h; exact h
  · intro i d v hi hl hp w hq
    exact Dth_c.2.1 i d w hi hl (hp w hq)
  · intro i j d v hi hj h1 h2 h3 hp hq w hr
    exact Dth_c.2.2 i j d w hi hj h1 h2 h3 (hp (s j) (Dth_c.1 d (s j))) (hq w hr)
theorem Dth_up {d u v : Nat} (h : Dth s t lb k d u v) : Dth s t lb k (d + 1) u v := by
  refine h (fun d u v => Dth s t lb k (d + 1) u v) ⟨?_, ?_, ?_⟩
  · intro d u; exact Dth_c.1 (d + 1) u
  · intro i d v hi hl hp; exact Dth_c.2.1 i (d + 1) v hi hl hp
  · intro i j d v hi hj h1 h2 h3 hp hq; exact Dth_c.2.2 i j (d + 1) v hi hj h1 h2 h3 hp hq
theorem Dth_mono {d u v : Nat} (h : Dth s t lb k d u v) : ∀ e, Dth s t lb k (d + e) u v
  | 0 => h
  | e + 1 => Dth_up (Dth_mono h e)
theorem Dth_le {d e u v : Nat} (h : Dth s t lb k d u v) (he : d ≤ e) : Dth s t lb k e u v := by
  have := Dth_mono h (e - d)
  rw [show d + (e - d) = e by omega] at this; exact this
theorem Dth_sub {s' t' lb' : Nat → Nat} (hsub : ∀ i, i < k → s' i = s i ∧ t' i = t i ∧ lb' i = lb i) {d u v : Nat} (h : Dth s t lb k d u v) : Dth s' t' lb' k d u v := by
  refine h (Dth s' t' lb' k) ⟨Dth_c.1, ?_, ?_⟩
  · intro i d v hi hl hp
    obtain ⟨e1, e2, e3⟩ := hsub i hi
    rw [← e1]
    exact Dth_c.2.1 i d v hi (by rw [e3]; exact hl) (by rw [e2]; exact hp)
  · intro i j d v hi hj h1 h2 h3 hp hq
    obtain ⟨e1, e2, e3⟩ := hsub i hi
    obtain ⟨f1, f2, f3⟩ := hsub j hj
    rw [← e1]
    exact Dth_c.2.2 i j d v hi hj (by rw [e3]; exact h1) (by rw [e3]; exact h2) (by rw [f3, e3]; exact h3) (by rw [e2, f1]; exact hp) (by rw [f2]; exact hq)
end DTH
/-! the class: levels of nesting -/
theorem zTrI_has {m r : Nat} (hm : m < 8) : ∀ n, n ≤ 8 → ∀ u v, u < 8 → v < 8 → (zHas (zIt (zTrI m) n r) u v ↔ zHas r u v ∨ (u < n ∧ zHas r u m ∧ zHas r m v)) := by
  intro n
  induction n with
  | zero =>
    intro _ u v hu hv
    constructor
    · intro h; exact Or.inl h
    · rintro (h | ⟨h, -, -⟩)
      · exact h
      · exact absurd h (Nat.not_lt_zero _)
  | succ n ih =>
    intro hn u v hu hv
    have ih := ih (by omega)
    show zHas (zTrI m n (zIt (zTrI m) n r)) u v ↔ _
    have e1 : zHas (zIt (zTrI m) n r) n m ↔ zHas r n m := by
      rw [ih n m (by omega) hm]
      constructor
      · rintro (h | ⟨h, -, -⟩)
        · exact h
        · exact absurd h (Nat.lt_irrefl _)
      · intro h; exact Or.inl h
    have e2 : zHas (zIt (zTrI m) n r) m v ↔ zHas r m v := by
      rw [ih m v hm hv]
      constructor
      · rintro (h | ⟨-, -, h⟩)
        · exact h
        · exact h
      · intro h; exact Or.inl h
    unfold zTrI
    by_cases hc : zHas (zIt (zTrI m) n r) n m
    · unfold zTrI at hc e1 e2 ih
      rw [if_pos hc, zWr_row hv, ih u v hu hv, e2]
      have hc2 := e1.mp hc
      constructor
      · rintro ((h | ⟨h1, h2, h3⟩) | ⟨h1, h2⟩)
        · exact Or.inl h
        · exact Or.inr ⟨by omega, h2, h3⟩
        · subst h1; exact Or.inr ⟨by omega, hc2, h2⟩
      · rintro (h | ⟨h1, h2, h3⟩)
        · exact Or.inl (Or.inl h)
        · by_cases hun : u = n
          · exact Or.inr ⟨hun, h3⟩
          · exact Or.inl (Or.inr ⟨by omega, h2, h3⟩)
    · unfold zTrI at hc e1 e2 ih
      rw [if_neg hc, ih u v hu hv]
      constructor
      · rintro (h | ⟨h1, h2, h3⟩)
        · exact Or.inl h
        · exact Or.inr ⟨by omega, h2, h3⟩
      · rintro (h | ⟨h1, h2, h3⟩)
        · exact Or.inl h
        · by_cases hun : u = n
          · subst hun; exact absurd (e1.mpr h2) hc
          · exact Or.inr ⟨by omega, h2, h3⟩
theorem zTrM_has {m r u v : Nat} (hm : m < 8) (hu : u < 8) (hv : v < 8) : zHas (zTrM m r) u v ↔ zHas r u v ∨ (zHas r u m ∧ zHas r m v) := by
  unfold zTrM
  rw [zTrI_has hm 8 (Nat.le_refl 8) u v hu hv]
  constructor
  · rintro (h | ⟨-, h2, h3⟩)
    · exact Or.inl h
    · exact Or.inr ⟨h2, h3⟩
  · rintro (h | ⟨h2, h3⟩)
    · exact Or.inl h
    · exact Or.inr ⟨hu, h2, h3⟩
theorem zTr_cl {r : Nat} : ∀ n, n ≤ 8 → ∀ u w v, u < 8 → w < n → v < 8 → zHas (zIt zTrM n r) u w → zHas (zIt zTrM n r) w v → zHas (zIt zTrM n r) u v := by
  intro n
  induction n with
  | zero => intro _ u w v _ hw; exact absurd hw (Nat.not_lt_zero _)
  | succ n ih =>
    intro hn u w v hu hw hv h1 h2
    have ih := ih (by omega)
    rw [zIt_s] at h1 h2 ⊢
    generalize zIt zTrM n r = q at ih h1 h2
    rw [zTrM_has (by omega) hu (by omega)] at h1
    rw [zTrM_has (by omega) (by omega) hv] at h2
    rw [zTrM_has (by omega) hu hv]
    by_cases hwn : w = n
    · subst hwn
      have a1 : zHas q u w := by
        rcases h1 with h | ⟨h, -⟩
        · exact h
        · exact h
      have a2 : zHas q w v := by
        rcases h2 with h | ⟨-, h⟩
        · exact h
        · exact h
      exact Or.inr ⟨a1, a2⟩
    · have hw2 : w < n := by omega
      rcases h1 with h1 | ⟨h1, h1'⟩
      · rcases h2 with h2 | ⟨h2, h2'⟩
        · exact Or.inl (ih u w v hu hw2 hv h1 h2)
        · exact Or.inr ⟨ih u w n hu hw2 (by omega) h1 h2, h2'⟩
      · rcases h2 with h2 | ⟨h2, h2'⟩
        · exact Or.inr ⟨h1, ih n w v (by omega) hw2 hv h1' h2⟩
        · exact Or.inr ⟨h1, h2'⟩
theorem zTr_up {r u v : Nat} (hu : u < 8) (hv : v < 8) (h : zHas r u v) : ∀ n, n ≤ 8 → zHas (zIt zTrM n r) u v
  | 0, _ => h
  | n + 1, hn => by
    rw [zIt_s, zTrM_has (by omega) hu hv]
    exact Or.inl (zTr_up hu hv h n (by omega))
theorem zTr_snd {r : Nat} {Q : Nat → Nat → Prop} (htr : ∀ a b c, Q a b → Q b c → Q a c) (h : ∀ u v, u < 8 → v < 8 → zHas r u v → Q u v) : ∀ n, n ≤ 8 → ∀ u v, u < 8 → v < 8 → zHas (zIt zTrM n r) u v → Q u v
  | 0, _ => h
  | n + 1, hn => by
    intro u v hu hv hh
    rw [zIt_s, zTrM_has (by omega) hu hv] at hh
    rcases hh with hh | ⟨h1, h2⟩
    · exact zTr_snd htr h n (by omega) u v hu hv hh
    · exact htr u n v (zTr_snd htr h n (by omega) u n hu (by omega) h1) (zTr_snd htr h n (by omega) n v (by omega) hv h2)
theorem zSbI_bit {s t lb : Nat → Nat} {j r v : Nat} : ∀ n, (zIt (zSbC s t lb j r) n 0).testBit v = true ↔ ∃ c, c < n ∧ lb c = lb j + 3 ∧ zHas r (t j) (s c) ∧ t c = v := by
  intro n
  induction n with
  | zero =>
    constructor
    · intro h
      have h : Nat.testBit 0 v = true := h
      rw [Nat.zero_testBit] at h; cases h
    · rintro ⟨c, hc, -⟩; exact absurd hc (Nat.not_lt_zero _)
  | succ n ih =>
    rw [zIt_s]
    generalize zIt (zSbC s t lb j r) n 0 = x at ih
    unfold zSbC
    by_cases hc : lb n = lb j + 3 ∧ zHas r (t j) (s n)
    · rw [if_pos hc, Nat.testBit_or, Bool.or_eq_true, ih, z2_bit]
      constructor
      · rintro (⟨c, h1, h2⟩ | h)
        · exact ⟨c, by omega, h2⟩
        · exact ⟨n, by omega, hc.1, hc.2, h⟩
      · rintro ⟨c, h1, h2, h3, h4⟩
        by_cases hcn : c = n
        · subst hcn; exact Or.inr h4
        · exact Or.inl ⟨c, by omega, h2, h3, h4⟩
    · rw [if_neg hc, ih]
      constructor
      · rintro ⟨c, h1, h2⟩; exact ⟨c, by omega, h2⟩
      · rintro ⟨c, h1, h2, h3, h4⟩
        by_cases hcn : c = n
        · subst hcn; exact absurd ⟨h2, h3⟩ hc
        · exact ⟨c, by omega, h2, h3, h4⟩
theorem zSb_bit {s t lb : Nat → Nat} {k j r v : Nat} : (zSb s t lb k j r).testBit v = true ↔ (lb j = 0 ∧ t j = v) ∨ ((1 ≤ lb j ∧ lb j ≤ 3) ∧ ∃ c, c < k ∧ lb c = lb j + 3 ∧ zHas r (t j) (s c) ∧ t c = v) := by
  unfold zSb
  by_cases h0 : lb j = 0
  · rw [if_pos h0, z2_bit]
    constructor
    · intro h; exact Or.inl ⟨h0, h⟩
    · rintro (⟨-, h⟩ | ⟨h, -⟩)
      · exact h
      · omega
  · rw [if_neg h0]
    by_cases h1 : 1 ≤ lb j ∧ lb j ≤ 3
    · rw [if_pos h1, zSbI_bit]
      constructor
      · intro h; exact Or.inr ⟨h1, h⟩
      · rintro (⟨h, -⟩ | ⟨-, h⟩)
        · exact absurd h h0
        · exact h
    · rw [if_neg h1, Nat.zero_testBit]
      constructor
      · intro h; cases h
      · rintro (⟨h, -⟩ | ⟨h, -⟩)
        · exact absurd h h0
        · exact absurd h h1
theorem zNaI_has {s t lb : Nat → Nat} {k inner r0 u v : Nat} (ht : ∀ i, t i < 8) (hv : v < 8) : ∀ n, zHas (zIt (zNaF s t lb k inner) n r0) u v ↔ zHas r0 u v ∨ ∃ j, j < n ∧ s j = u ∧ (zSb s t lb k j inner).testBit v = true := by
  intro n
  induction n with
  | zero =>
    constructor
    · intro h; exact Or.inl h
    · rintro (h | ⟨j, hj, -⟩)
      · exact h
      · exact absurd hj (Nat.not_lt_zero _)
  | succ n ih =>
    rw [zIt_s]
    show zHas (zWr (zIt (zNaF s t lb k inner) n r0) (s n) (zSb s t lb k n inner)) u v ↔ _
    rw [zWr_has (zSb_lt ht) hv, ih]
    constructor
    · rintro ((h | ⟨j, h1, h2⟩) | ⟨h1, h2⟩)
      · exact Or.inl h
      · exact Or.inr ⟨j, by omega, h2⟩
      · exact Or.inr ⟨n, by omega, h1.symm, h2⟩
    · rintro (h | ⟨j, h1, h2, h3⟩)
      · exact Or.inl (Or.inl h)
      · by_cases hjn : j = n
        · subst hjn; exact Or.inr ⟨h2.symm, h3⟩
        · exact Or.inl (Or.inr ⟨j, by omega, h2, h3⟩)
def dR (s t lb : Nat → Nat) (k V : Nat) : Nat → Nat
  | 0 => 0
  | n + 1 => zNa s t lb k V (dR s t lb k V n)
theorem zHas_0 {u v : Nat} (hv : v < 8) : ¬ zHas 0 u v := by
  rw [zHas_bit hv, Nat.zero_testBit]; intro h; cases h
section LEV
variable {s t lb : Nat → Nat} {k V : Nat}
theorem zNa_rf (ht : ∀ i, t i < 8) (hV : V ≤ 8) {inner u : Nat} (hu : u < V) : zHas (zNa s t lb k V inner) u u := by
  unfold zNa zTr
  exact zTr_up (by omega) (by omega) ((zNaI_has ht (by omega) k).mpr (Or.inl ((zId_has hV (by omega)).mpr ⟨rfl, hu⟩))) 8 (Nat.le_refl 8)
theorem zNa_st (hs : ∀ i, s i < 8) (ht : ∀ i, t i < 8) {inner j v : Nat} (hj : j < k) (hv : v < 8) (h : (zSb s t lb k j inner).testBit v = true) : zHas (zNa s t lb k V inner) (s j) v := by
  unfold zNa zTr
  exact zTr_up (hs j) hv ((zNaI_has ht hv k).mpr (Or.inr ⟨j, hj, rfl, h⟩)) 8 (Nat.le_refl 8)
theorem zNa_tr {inner u w v : Nat} (hu : u < 8) (hw : w < 8) (hv : v < 8) (h1 : zHas (zNa s t lb k V inner) u w) (h2 : zHas (zNa s t lb k V inner) w v) : zHas (zNa s t lb k V inner) u v := by
  unfold zNa zTr at h1 h2 ⊢
  exact zTr_cl 8 (Nat.le_refl 8) u w v hu hw hv h1 h2
theorem dR_has (hE : ∀ i, i < k → s i < V ∧ t i < V) (hV : V ≤ 8) (hs : ∀ i, s i < 8) (ht : ∀ i, t i < 8) : ∀ n u v, u < 8 → v < 8 → (zHas (dR s t lb k V (n + 1)) u v ↔ u < V ∧ v < V ∧ Dth s t lb k n u v) := by
  have snd : ∀ n u v, u < 8 → v < 8 → zHas (dR s t lb k V (n + 1)) u v → u < V ∧ v < V ∧ Dth s t lb k n u v := by
    intro n
    induction n with
    | zero =>
      refine zTr_snd (Q := fun u v => u < V ∧ v < V ∧ Dth s t lb k 0 u v) (fun a b c h1 h2 => ⟨h1.1, h2.2.1, Dth_cat h1.2.2 h2.2.2⟩) ?_ 8 (Nat.le_refl 8)
      intro u v hu hv h
      rcases (zNaI_has ht hv k).mp h with h | ⟨j, hj, e, hb⟩
      · obtain ⟨h1, h2⟩ := (zId_has hV hv).mp h
        subst h1; exact ⟨h2, h2, Dth_c.1 0 u⟩
      · subst e
        rcases zSb_bit.mp hb with ⟨h1, h2⟩ | ⟨-, c, -, -, h2, -⟩
        · subst h2
          exact ⟨(hE j hj).1, (hE j hj).2, Dth_c.2.1 j 0 (t j) hj h1 (Dth_c.1 0 (t j))⟩
        · exact absurd h2 (zHas_0 (hs c))
    | succ n ih =>
      refine zTr_snd (Q := fun u v => u < V ∧ v < V ∧ Dth s t lb k (n + 1) u v) (fun a b c h1 h2 => ⟨h1.1, h2.2.1, Dth_cat h1.2.2 h2.2.2⟩) ?_ 8 (Nat.le_refl 8)
      intro u v hu hv h
      rcases (zNaI_has ht hv k).mp h with h | ⟨j, hj, e, hb⟩
      · obtain ⟨h1, h2⟩ := (zId_has hV hv).mp h
        subst h1; exact ⟨h2, h2, Dth_c.1 (n + 1) u⟩
      · subst e
        rcases zSb_bit.mp hb with ⟨h1, h2⟩ | ⟨h1, c, hc, h3, h2, h4⟩
        · subst h2
          exact ⟨(hE j hj).1, (hE j hj).2, Dth_c.2.1 j (n + 1) (t j) hj h1 (Dth_c.1 (n + 1) (t j))⟩
        · subst h4
          have h5 := ih (t j) (s c) (ht j) (hs c) h2
          exact ⟨(hE j hj).1, (hE c hc).2, Dth_c.2.2 j c n (t c) hj hc h1.1 h1.2 h3 h5.2.2 (Dth_c.1 (n + 1) (t c))⟩
  intro n u v hu hv
  refine ⟨snd n u v hu hv, ?_⟩
  rintro ⟨hu2, hv2, h⟩
  refine h (fun d u v => u < V → v < V → zHas (dR s t lb k V (d + 1)) u v) ⟨?_, ?_, ?_⟩ hu2 hv2
  · intro d u hu _; exact zNa_rf ht hV hu
  · intro i d v hi hl hp _ hv
    have h1 := hp (hE i hi).2 hv
    have h2 : zHas (dR s t lb k V (d + 1)) (s i) (t i) := zNa_st hs ht hi (ht i) (zSb_bit.mpr (Or.inl ⟨hl, rfl⟩))
    exact zNa_tr (hs i) (ht i) (by omega) h2 h1
  · intro i j d v hi hj h1 h2 h3 hp hq _ hv
    have a1 := hp (hE i hi).2 (hE j hj).1
    have a2 := hq (hE j hj).2 hv
    have a3 : zHas (dR s t lb k V (d + 1 + 1)) (s i) (t j) := zNa_st hs ht hi (ht j) (zSb_bit.mpr (Or.inr ⟨⟨h1, h2⟩, j, hj, h3, a1, rfl⟩))
    exact zNa_tr (hs i) (ht j) (by omega) a3 a2
theorem dR_lt (hs : ∀ i, s i < 8) (ht : ∀ i, t i < 8) (hV : V ≤ 8) : ∀ n, dR s t lb k V n < 2 ^ 64
  | 0 => Nat.two_pow_pos 64
  | n + 1 => zNa_lt hs ht hV
theorem dR_mono (hE : ∀ i, i < k → s i < V ∧ t i < V) (hV : V ≤ 8) (hs : ∀ i, s i < 8) (ht : ∀ i, t i < 8) : ∀ n u v, u < 8 → v < 8 → zHas (dR s t lb k V n) u v → zHas (dR s t lb k V (n + 1)) u v
  | 0, u, v, _, hv, h => absurd h (zHas_0 hv)
  | n + 1, u, v, hu, hv, h => by
    obtain ⟨h1, h2, h3⟩ := (dR_has hE hV hs ht n u v hu hv).mp h
    exact (dR_has hE hV hs ht (n + 1) u v hu hv).mpr ⟨h1, h2, Dth_up h3⟩
theorem dR_bit {n i : Nat} : (dR s t lb k V n).testBit i = true ↔ zHas (dR s t lb k V n) (i / 8) (i % 8) := by
  rw [zHas_bit (Nat.mod_lt _ (by decide)), show 8 * (i / 8) + i % 8 = i by omega]
theorem dR_ne (hE : ∀ i, i < k → s i < V ∧ t i < V) (hV : V ≤ 8) (hs : ∀ i, s i < 8) (ht : ∀ i, t i < 8) {n : Nat} (h : ¬ dR s t lb k V (n + 1) = dR s t lb k V n) : ∃ i, i < 64 ∧ (dR s t lb k V (n + 1)).testBit i = true ∧ ¬ (dR s t lb k V n).testBit i = true := by
  refine Classical.byContradiction (fun hq => h ?_)
  apply Nat.eq_of_testBit_eq
  intro i
  by_cases hi : i < 64
  · cases h1 : (dR s t lb k V n).testBit i with
    | true => exact dR_bit.mpr (dR_mono hE hV hs ht n _ _ (by omega) (by omega) (dR_bit.mp h1))
    | false =>
      cases h2 : (dR s t lb k V (n + 1)).testBit i with
      | false => rfl
      | true => exact absurd ⟨i, hi, h2, by rw [h1]; intro q; cases q⟩ hq
  · have hp : 2 ^ 64 ≤ 2 ^ i := Nat.pow_le_pow_right (by decide) (by omega)
    rw [Nat.testBit_lt_two_pow (Nat.lt_of_lt_of_le (dR_lt hs ht hV (n + 1)) hp), Nat.testBit_lt_two_pow (Nat.lt_of_lt_of_le (dR_lt hs ht hV n) hp)]
theorem dR_cnt (hE : ∀ i, i < k → s i < V ∧ t i < V) (hV : V ≤ 8) (hs : ∀ i, s i < 8) (ht : ∀ i, t i < 8) : ∀ n, (∀ m, m < n → ¬ dR s t lb k V (m + 1) = dR s t lb k V m) → n ≤ cN (fun i => (dR s t lb k V n).testBit i = true) 64
  | 0, _ => Nat.zero_le _
  | n + 1, h => by
    have h1 := dR_cnt hE hV hs ht n (fun m hm => h m (by omega))
    obtain ⟨i, hi, h2, h3⟩ := dR_ne hE hV hs ht (h n (by omega))
    have h4 := cN_lt (P := fun i => (dR s t lb k V n).testBit i = true) (Q := fun i => (dR s t lb k V (n + 1)).testBit i = true) h2 h3 64 hi (fun j hj hp => dR_bit.mpr (dR_mono hE hV hs ht n _ _ (by omega) (by omega) (dR_bit.mp hp)))
    omega
theorem dR_const {n : Nat} (h : dR s t lb k V (n + 1) = dR s t lb k V n) : ∀ m, dR s t lb k V (n + m) = dR s t lb k V n
  | 0 => rfl
  | m + 1 => by
    show zNa s t lb k V (dR s t lb k V (n + m)) = _
    rw [dR_const h m]; exact h
theorem dR_go (hE : ∀ i, i < k → s i < V ∧ t i < V) (hV : V ≤ 8) (hs : ∀ i, s i < 8) (ht : ∀ i, t i < 8) {d u v : Nat} (hu : u < V) (hv : v < V) (hd : Dth s t lb k d u v) (hmin : ∀ j, j < d → ¬ Dth s t lb k j u v) {m : Nat} (hm : m ≤ d) : ¬ dR s t lb k V (m + 1) = dR s t lb k V m := by
  intro h
  have e := dR_const h (d + 1 - m)
  rw [show m + (d + 1 - m) = d + 1 by omega] at e
  have h1 := (dR_has hE hV hs ht d u v (by omega) (by omega)).mpr ⟨hu, hv, hd⟩
  rw [e] at h1
  cases m with
  | zero => exact zHas_0 (by omega) h1
  | succ m => exact hmin m (by omega) ((dR_has hE hV hs ht m u v (by omega) (by omega)).mp h1).2.2
theorem dR_63 (hE : ∀ i, i < k → s i < V ∧ t i < V) (hV : V ≤ 8) (hs : ∀ i, s i < 8) (ht : ∀ i, t i < 8) {d u v : Nat} (hu : u < V) (hv : v < V) (hd : Dth s t lb k d u v) (hmin : ∀ j, j < d → ¬ Dth s t lb k j u v) : d < 64 := by
  have h := dR_cnt hE hV hs ht (d + 1) (fun m hm => dR_go hE hV hs ht hu hv hd hmin (by omega))
  have h2 := cN_le (fun i => (dR s t lb k V (d + 1)).testBit i = true) 64
  omega
theorem zDp_none (hE : ∀ i, i < k → s i < V ∧ t i < V) (hV : V ≤ 8) (hs : ∀ i, s i < 8) (ht : ∀ i, t i < 8) {u v : Nat} (hu : u < 8) (hv : v < 8) (h : ∀ d, ¬ Dth s t lb k d u v) : ∀ m n, zDp s t lb k V u v m n (dR s t lb k V n) = (-9)
  | 0, _ => rfl
  | m + 1, n => by
    have h1 : ¬ zHas (dR s t lb k V (n + 1)) u v := fun q => h n ((dR_has hE hV hs ht n u v hu hv).mp q).2.2
    have ih := zDp_none hE hV hs ht hu hv h m (n + 1)
    simp only [dR] at h1 ih
    simp only [zDp]
    rw [if_neg h1, ih]
    split <;> rfl
theorem zDp_some (hE : ∀ i, i < k → s i < V ∧ t i < V) (hV : V ≤ 8) (hs : ∀ i, s i < 8) (ht : ∀ i, t i < 8) {d u v : Nat} (hu : u < V) (hv : v < V) (hd : Dth s t lb k d u v) (hmin : ∀ j, j < d → ¬ Dth s t lb k j u v) : ∀ m n, n ≤ d → d < n + m → zDp s t lb k V u v m n (dR s t lb k V n) = nI d
  | 0, n, h1, h2 => by omega
  | m + 1, n, h1, h2 => by
    have a1 := dR_has (lb := lb) hE hV hs ht n u v (by omega) (by omega)
    have a2 := dR_go hE hV hs ht hu hv hd hmin h1
    have ih := zDp_some hE hV hs ht hu hv hd hmin m (n + 1)
    simp only [dR] at a1 a2 ih
    simp only [zDp]
    by_cases hn : n = d
    · subst hn
      rw [if_pos (a1.mpr ⟨hu, hv, hd⟩)]
    · rw [if_neg (fun q => hmin n (by omega) (a1.mp q).2.2), if_neg a2]
      exact ih (by omega) (by omega)
end LEV
/-! the reference: a table of least depths -/
def gS (g : Nat → Nat) (i : Nat) : Nat := g (1 + 3 * i)
def gT (g : Nat → Nat) (i : Nat) : Nat := g (1 + 3 * i + 1)
def gL (g : Nat → Nat) (i : Nat) : Nat := g (1 + 3 * i + 2)
def SndD (s t lb : Nat → Nat) (k : Nat) (T : Nat → Nat) : Prop := ∀ u v, u < 8 → v < 8 → T (8 * u + v) < 2000000 → Dth s t lb k (T (8 * u + v)) u v
theorem SndD_im {s t lb : Nat → Nat} {k u v d : Nat} {q : zTB} (hv : v < 8) (h : SndD s t lb k q.1) (hl : d < 2000000 → Dth s t lb k d u v) : SndD s t lb k (yIm u v d q).1 := by
  show SndD s t lb k (mLdT u v d q.1)
  unfold mLdT
  split
  · intro a b ha hb hab
    by_cases h1 : 8 * a + b = 8 * u + v
    · have e1 : a = u := by omega
      have e2 : b = v := by omega
      subst e1
      subst e2
      rw [zU_same] at hab ⊢
      exact hl hab
    · rw [zU_ne h1] at hab ⊢
      exact h a b ha hb hab
  · exact h
section DEP
variable {g : Nat → Nat}
theorem SndD_peA (hg : ∀ i, 1 ≤ i → g i < 8) {i : Nat} (hi : i < g 0) {q : zTB} (h : SndD (gS g) (gT g) (gL g) (g 0) q.1) : SndD (gS g) (gT g) (gL g) (g 0) (yPeA g i q).1 := by
  unfold yPeA; split
  · rename_i h0
    refine SndD_im (hg _ (by omega)) h (fun _ => ?_)
    exact Dth_c.2.1 i 0 (gT g i) hi h0 (Dth_c.1 0 (gT g i))
  · exact h
theorem SndD_peC (hg : ∀ i, 1 ≤ i → g i < 8) {i c : Nat} (hi : i < g 0) (hc : c < g 0) (h1 : 1 ≤ g (1 + 3 * i + 2)) (h2 : g (1 + 3 * i + 2) ≤ 3) {q : zTB} (h : SndD (gS g) (gT g) (gL g) (g 0) q.1) : SndD (gS g) (gT g) (gL g) (g 0) (yPeC g i c q).1 := by
  unfold yPeC; split
  · rename_i h0
    have hm := h (g (1 + 3 * i + 1)) (g (1 + 3 * c)) (hg _ (by omega)) (hg _ (by omega)) h0.2
    refine SndD_im (hg _ (by omega)) h (fun _ => ?_)
    exact Dth_c.2.2 i c _ (gT g c) hi hc h1 h2 h0.1 hm (Dth_c.1 _ (gT g c))
  · exact h
theorem SndD_pe (hg : ∀ i, 1 ≤ i → g i < 8) {i : Nat} (hi : i < g 0) {q : zTB} (h : SndD (gS g) (gT g) (gL g) (g 0) q.1) : SndD (gS g) (gT g) (gL g) (g 0) (yPe g i q).1 := by
  unfold yPe; split
  · rename_i h0
    exact zIt_inv (f := yPeC g i) (m := g 0) (P := fun q : zTB => SndD (gS g) (gT g) (gL g) (g 0) q.1) (fun c q hc h => SndD_peC hg hi hc h0.1 h0.2 h) (g 0) (Nat.le_refl _) _ (SndD_peA hg hi h)
  · exact SndD_peA hg hi h
theorem SndD_pk {s t lb : Nat → Nat} {k j : Nat} (hj : j < 512) {q : zTB} (h : SndD s t lb k q.1) : SndD s t lb k (yPk j q).1 := by
  unfold yPk
  refine SndD_im (by omega) h (fun hl => ?_)
  have ha := h (j / 64) (j / 8 % 8) (by omega) (by omega)
  have hb := h (j / 8 % 8) (j % 8) (by omega) (by omega)
  generalize q.1 (8 * (j / 64) + j / 8 % 8) = x at hl ha ⊢
  generalize q.1 (8 * (j / 8 % 8) + j % 8) = y at hl hb ⊢
  by_cases hxy : x ≤ y
  · rw [if_pos hxy] at hl ⊢
    exact Dth_cat (Dth_le (ha (by omega)) hxy) (hb hl)
  · rw [if_neg hxy] at hl ⊢
    exact Dth_cat (ha hl) (Dth_le (hb (by omega)) (by omega))
theorem SndD_ps (hg : ∀ i, 1 ≤ i → g i < 8) {f : Nat → Nat} (h : SndD (gS g) (gT g) (gL g) (g 0) f) : SndD (gS g) (gT g) (gL g) (g 0) (yPs g f).1 := by
  unfold yPs
  refine zIt_inv (f := yPk) (m := 512) (P := fun q : zTB => SndD (gS g) (gT g) (gL g) (g 0) q.1) (fun j q hj h => SndD_pk hj h) 512 (Nat.le_refl _) _ ?_
  exact zIt_inv (f := yPe g) (m := g 0) (P := fun q : zTB => SndD (gS g) (gT g) (gL g) (g 0) q.1) (fun i q hi h => SndD_pe hg hi h) (g 0) (Nat.le_refl _) _ h
theorem SndD_w (hg : ∀ i, 1 ≤ i → g i < 8) : ∀ m f, SndD (gS g) (gT g) (gL g) (g 0) f → SndD (gS g) (gT g) (gL g) (g 0) (yClW g m f)
  | 0, _, h => h
  | m + 1, f, h => by
    simp only [yClW]
    split
    · exact SndD_w hg m _ (SndD_ps hg h)
    · exact SndD_ps hg h
theorem SndD_T (hg : ∀ i, 1 ≤ i → g i < 8) : SndD (gS g) (gT g) (gL g) (g 0) (mDp g) := by
  rw [mDp_def]
  refine SndD_w hg _ _ ?_
  intro u v hu hv h
  rw [zC0_at hv] at h ⊢
  by_cases e1 : u = v
  · subst e1
    rw [if_pos rfl]
    exact Dth_c.1 0 u
  · rw [if_neg e1] at h; exact absurd h (by omega)
theorem yClW_fix (hg : ∀ i, 1 ≤ i → g i < 8) : ∀ m f, zSum f < m → (yPs g (yClW g m f)).2 = false ∧ (∀ i, yClW g m f i ≤ f i)
  | 0, _, h => absurd h (Nat.not_lt_zero _)
  | m + 1, f, h => by
    have hlow := yPs_low hg f
    simp only [yClW]
    by_cases hb : (yPs g f).2 = true
    · rw [if_pos hb]
      have hd := yPs_dn hg (f := f) hb
      obtain ⟨h1, h2⟩ := yClW_fix hg m (yPs g f).1 (by omega)
      exact ⟨h1, fun i => Nat.le_trans (h2 i) (hlow.1 i)⟩
    · rw [if_neg hb]
      have hb2 : (yPs g f).2 = false := by
        cases hh : (yPs g f).2 with
        | false => rfl
        | true => exact absurd hh hb
      have e1 : (yPs g f).1 = f := hlow.2.2.2 hb2
      rw [e1]
      exact ⟨hb2, fun i => Nat.le_refl _⟩
theorem yIm_no {u v d : Nat} {q : zTB} (h : (yIm u v d q).2 = false) : q.1 (8 * u + v) ≤ d := by
  have h2 : (q.2 || decide (d < q.1 (8 * u + v))) = false := h
  rw [Bool.or_eq_false_iff] at h2
  have := of_decide_eq_false h2.2
  omega
def ClsD (s t lb : Nat → Nat) (k : Nat) (T : Nat → Nat) : Prop :=
  (∀ u, u < 8 → T (8 * u + u) = 0) ∧ (∀ i, i < k → lb i = 0 → T (8 * s i + t i) ≤ 0) ∧
  (∀ i c, i < k → c < k → 1 ≤ lb i → lb i ≤ 3 → lb c = lb i + 3 → T (8 * t i + s c) < 2000000 → T (8 * s i + t c) ≤ T (8 * t i + s c) + 1) ∧
  (∀ a b c x, a < 8 → b < 8 → c < 8 → T (8 * a + b) ≤ x → T (8 * b + c) ≤ x → T (8 * a + c) ≤ x)
theorem mDp_cls (hg : ∀ i, 1 ≤ i → g i < 8) : ClsD (gS g) (gT g) (gL g) (g 0) (mDp g) := by
  obtain ⟨h1, h2⟩ := yClW_fix hg zFuel zC0 zFuel_lt
  rw [← mDp_def] at h1 h2
  generalize mDp g = T at h1 h2
  unfold yPs at h1
  obtain ⟨e1, -, e3⟩ := zIt_still (g := yPk) (m := 512) (fun i q hi => yPk_low hi q) 512 (Nat.le_refl _) _ h1
  rw [e1] at h1
  obtain ⟨f1, -, f3⟩ := zIt_still (g := yPe g) (m := g 0) (fun i q _ => yPe_low hg i q) (g 0) (Nat.le_refl _) _ h1
  rw [f1] at e3
  have hpe : ∀ i, i < g 0 → (yPeA g i (T, false)).2 = false ∧ (1 ≤ g (1 + 3 * i + 2) ∧ g (1 + 3 * i + 2) ≤ 3 → yPeA g i (T, false) = (T, false) ∧ ∀ c, c < g 0 → (yPeC g i c (T, false)).2 = false) := by
    intro i hi
    have hp := f3 i hi
    have hA := yPeA_low hg i (T, false)
    unfold yPe at hp
    by_cases hl : 1 ≤ g (1 + 3 * i + 2) ∧ g (1 + 3 * i + 2) ≤ 3
    · rw [if_pos hl] at hp
      obtain ⟨g1, g2, g3⟩ := zIt_still (g := yPeC g i) (m := g 0) (fun c q _ => yPeC_low hg i c q) (g 0) (Nat.le_refl _) _ hp
      have eA : yPeA g i (T, false) = (T, false) := Prod.ext (hA.2.2.2 g2) g2
      refine ⟨g2, fun _ => ⟨eA, fun c hc => ?_⟩⟩
      have := g3 c hc
      rw [eA] at this
      exact this
    · rw [if_neg hl] at hp
      exact ⟨hp, fun h => absurd h hl⟩
  refine ⟨fun u hu => ?_, fun i hi hl => ?_, fun i c hi hc a1 a2 a3 a4 => ?_, fun a b c x ha hb hc q1 q2 => ?_⟩
  · have := h2 (8 * u + u)
    rw [zC0_at hu, if_pos rfl] at this
    omega
  · have hp := (hpe i hi).1
    have hl : g (1 + 3 * i + 2) = 0 := hl
    unfold yPeA at hp
    rw [if_pos hl] at hp
    exact yIm_no hp
  · have hp := ((hpe i hi).2 ⟨a1, a2⟩).2 c hc
    have a3 : g (1 + 3 * c + 2) = g (1 + 3 * i + 2) + 3 := a3
    have a4 : T (8 * g (1 + 3 * i + 1) + g (1 + 3 * c)) < 2000000 := a4
    unfold yPeC at hp
    rw [if_pos ⟨a3, a4⟩] at hp
    exact yIm_no hp
  · have hk := e3 (64 * a + 8 * b + c) (by omega)
    unfold yPk at hk
    rw [show (64 * a + 8 * b + c) / 64 = a by omega, show (64 * a + 8 * b + c) / 8 % 8 = b by omega, show (64 * a + 8 * b + c) % 8 = c by omega] at hk
    have h9 : T (8 * a + c) ≤ (if T (8 * a + b) ≤ T (8 * b + c) then T (8 * b + c) else T (8 * a + b)) := yIm_no hk
    by_cases hq : T (8 * a + b) ≤ T (8 * b + c)
    · rw [if_pos hq] at h9; omega
    · rw [if_neg hq] at h9; omega
end DEP
theorem ClsD_le {s t lb : Nat → Nat} {k : Nat} {T : Nat → Nat} (hs : ∀ i, i < k → s i < 8 ∧ t i < 8) (hc : ClsD s t lb k T) {d u v : Nat} (h : Dth s t lb k d u v) (hd : d < 1000000) (hu : u < 8) (hv : v < 8) : T (8 * u + v) ≤ d := by
  refine h (fun d u v => d < 1000000 → u < 8 → v < 8 → T (8 * u + v) ≤ d) ⟨?_, ?_, ?_⟩ hd hu hv
  · intro d u _ hu _
    rw [hc.1 u hu]; exact Nat.zero_le _
  · intro i d v hi hl hp hd _ hv
    have h1 := hc.2.1 i hi hl
    have h2 := hp hd (hs i hi).2 hv
    exact hc.2.2.2 (s i) (t i) v d (hs i hi).1 (hs i hi).2 hv (by omega) h2
  · intro i j d v hi hj a1 a2 a3 hp hq hd _ hv
    have h1 := hp (by omega) (hs i hi).2 (hs j hj).1
    have h2 := hq hd (hs j hj).2 hv
    have h3 := hc.2.2.1 i j hi hj a1 a2 a3 (by omega)
    exact hc.2.2.2 (s i) (t j) v (d + 1) (hs i hi).1 (hs j hj).2 hv (by omega) h2
theorem eq_depth {g s t lb : Nat → Nat} {k V x y : Nat} (hB : Blk g s t lb k) (hg : ∀ i, 1 ≤ i → g i < 8) (hE : ∀ i, i < k → s i < V ∧ t i < V) (hV : V ≤ 8) (hs : ∀ i, s i < 8) (ht : ∀ i, t i < 8) (hx : x < V) (hy : y < V) : zDpX s t lb k V x y = mDe (mDp g) x y := by
  have hsnd := SndD_T hg
  have hcls := mDp_cls hg
  have h2 := mDp_2 g (8 * x + y)
  rw [hB.1] at hsnd hcls
  have e1 : ∀ i, i < k → gS g i = s i ∧ gT g i = t i ∧ gL g i = lb i := hB.2
  have e2 : ∀ i, i < k → s i = gS g i ∧ t i = gT g i ∧ lb i = gL g i := fun i hi => ⟨(e1 i hi).1.symm, (e1 i hi).2.1.symm, (e1 i hi).2.2.symm⟩
  have hsx := hsnd x y (by omega) (by omega)
  have hle : ∀ d, Dth s t lb k d x y → d < 1000000 → mDp g (8 * x + y) ≤ d := fun d h hd => ClsD_le (fun i hi => by rw [(e1 i hi).1, (e1 i hi).2.1]; exact ⟨hs i, ht i⟩) hcls (Dth_sub e1 h) hd (by omega) (by omega)
  generalize mDp g = T at hsx hle h2
  unfold zDpX mDe
  show zDp s t lb k V x y 65 0 (dR s t lb k V 0) = _
  by_cases hp : ∃ d, Dth s t lb k d x y
  · obtain ⟨d, hd, hmin⟩ := pk_least (fun d => Dth s t lb k d x y) hp
    have h63 := dR_63 hE hV hs ht hx hy hd hmin
    rw [zDp_some hE hV hs ht hx hy hd hmin 65 0 (by omega) (by omega)]
    have h3 := hle d hd (by omega)
    have h4 : Dth s t lb k (T (8 * x + y)) x y := Dth_sub e2 (hsx (by omega))
    have h5 : ¬ T (8 * x + y) < d := fun q => hmin _ q h4
    rw [if_neg (by omega), show T (8 * x + y) = d by omega]
  · rw [zDp_none hE hV hs ht (by omega) (by omega) (fun d h => hp ⟨d, h⟩) 65 0]
    by_cases hT : T (8 * x + y) < 2000000
    · exact absurd ⟨_, Dth_sub e2 (hsx hT)⟩ hp
    · rw [if_pos (by omega)]
