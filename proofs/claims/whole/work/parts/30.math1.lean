/-! balanced paths: n edges from u to v -/
def PC (s t lb : Nat → Nat) (k : Nat) (R : Nat → Nat → Nat → Prop) : Prop :=
  (∀ u, R 0 u u) ∧
  (∀ i n v, i < k → lb i = 0 → R n (t i) v → R (n + 1) (s i) v) ∧
  (∀ i j n m v, i < k → j < k → 1 ≤ lb i → lb i ≤ 3 → lb j = lb i + 3 → R n (t i) (s j) → R m (t j) v → R (n + m + 2) (s i) v)
def Pth (s t lb : Nat → Nat) (k n u v : Nat) : Prop := ∀ R, PC s t lb k R → R n u v
section PTH
variable {s t lb : Nat → Nat} {k : Nat}
theorem Pth_c : PC s t lb k (Pth s t lb k) :=
  ⟨fun u _ h => h.1 u, fun i n v hi hl hp R h => h.2.1 i n v hi hl (hp R h), fun i j n m v hi hj h1 h2 h3 hp hq R h => h.2.2 i j n m v hi hj h1 h2 h3 (hp R h) (hq R h)⟩
theorem Pth_cat {n u v m w : Nat} (h : Pth s t lb k n u v) (h2 : Pth s t lb k m v w) : Pth s t lb k (n + m) u w := by
  refine h (fun n u v => ∀ m w, Pth s t lb k m v w → Pth s t lb k (n + m) u w) ⟨?_, ?_, ?_⟩ m w h2
  · intro u m w h; rw [Nat.zero_add]; exact h
  · intro i n v hi hl hp m w hq
    rw [show n + 1 + m = n + m + 1 by omega]
    exact Pth_c.2.1 i _ w hi hl (hp m w hq)
  · intro i j n m v hi hj h1 h2 h3 hp hq p w hr
    rw [show n + m + 2 + p = n + (m + p) + 2 by omega]
    have hp0 := hp 0 (s j) (Pth_c.1 (s j))
    rw [Nat.add_zero] at hp0
    exact Pth_c.2.2 i j n (m + p) w hi hj h1 h2 h3 hp0 (hq p w hr)
theorem Pth_inv {n u v : Nat} (h : Pth s t lb k n u v) : (n = 0 ∧ u = v) ∨ (∃ i n', i < k ∧ lb i = 0 ∧ s i = u ∧ n = n' + 1 ∧ Pth s t lb k n' (t i) v) ∨
    (∃ i j n1 n2, i < k ∧ j < k ∧ 1 ≤ lb i ∧ lb i ≤ 3 ∧ lb j = lb i + 3 ∧ s i = u ∧ n = n1 + n2 + 2 ∧ Pth s t lb k n1 (t i) (s j) ∧ Pth s t lb k n2 (t j) v) := by
  refine (h (fun n u v => Pth s t lb k n u v ∧ ((n = 0 ∧ u = v) ∨ (∃ i n', i < k ∧ lb i = 0 ∧ s i = u ∧ n = n' + 1 ∧ Pth s t lb k n' (t i) v) ∨
    (∃ i j n1 n2, i < k ∧ j < k ∧ 1 ≤ lb i ∧ lb i ≤ 3 ∧ lb j = lb i + 3 ∧ s i = u ∧ n = n1 + n2 + 2 ∧ Pth s t lb k n1 (t i) (s j) ∧ Pth s t lb k n2 (t j) v))) ⟨?_, ?_, ?_⟩).2
  · intro u; exact ⟨Pth_c.1 u, Or.inl ⟨rfl, rfl⟩⟩
  · intro i n v hi hl hp
    exact ⟨Pth_c.2.1 i n v hi hl hp.1, Or.inr (Or.inl ⟨i, n, hi, hl, rfl, rfl, hp.1⟩)⟩
  · intro i j n m v hi hj h1 h2 h3 hp hq
    exact ⟨Pth_c.2.2 i j n m v hi hj h1 h2 h3 hp.1 hq.1, Or.inr (Or.inr ⟨i, j, n, m, hi, hj, h1, h2, h3, rfl, rfl, hp.1, hq.1⟩)⟩
/-- more edges, more paths -/
theorem Pth_sub {s' t' lb' : Nat → Nat} {k' : Nat} (hsub : ∀ i, i < k → ∃ j, j < k' ∧ s' j = s i ∧ t' j = t i ∧ lb' j = lb i) {n u v : Nat} (h : Pth s t lb k n u v) : Pth s' t' lb' k' n u v := by
  refine h (Pth s' t' lb' k') ⟨Pth_c.1, ?_, ?_⟩
  · intro i n v hi hl hp
    obtain ⟨j, hj, e1, e2, e3⟩ := hsub i hi
    rw [← e1]
    exact Pth_c.2.1 j n v hj (by rw [e3]; exact hl) (by rw [e2]; exact hp)
  · intro i j n m v hi hj h1 h2 h3 hp hq
    obtain ⟨i', hi', e1, e2, e3⟩ := hsub i hi
    obtain ⟨j', hj', f1, f2, f3⟩ := hsub j hj
    rw [← e1]
    exact Pth_c.2.2 i' j' n m v hi' hj' (by rw [e3]; exact h1) (by rw [e3]; exact h2) (by rw [f3, e3]; exact h3) (by rw [e2, f1]; exact hp) (by rw [f2]; exact hq)
theorem Pth_V {V : Nat} (hE : ∀ i, i < k → s i < V ∧ t i < V) {n u v : Nat} (h : Pth s t lb k n u v) : (u < V → v < V) ∧ (v < V → u < V) := by
  refine h (fun _ u v => (u < V → v < V) ∧ (v < V → u < V)) ⟨fun u => ⟨id, id⟩, ?_, ?_⟩
  · intro i n v hi _ hp
    exact ⟨fun _ => hp.1 (hE i hi).2, fun _ => (hE i hi).1⟩
  · intro i j n m v hi hj _ _ _ _ hq
    exact ⟨fun _ => hq.1 (hE j hj).2, fun _ => (hE i hi).1⟩
end PTH
/-- the distance -/
def isD (s t lb : Nat → Nat) (k n u v : Nat) : Prop := Pth s t lb k n u v ∧ ∀ j, j < n → ¬ Pth s t lb k j u v
theorem isD_ex {s t lb : Nat → Nat} {k n u v : Nat} (h : Pth s t lb k n u v) : ∃ m, isD s t lb k m u v := by
  obtain ⟨m, h1, h2⟩ := pk_least (fun m => Pth s t lb k m u v) ⟨n, h⟩
  exact ⟨m, h1, h2⟩
theorem isD_le {s t lb : Nat → Nat} {k n m u v : Nat} (h : isD s t lb k m u v) (h2 : Pth s t lb k n u v) : m ≤ n := Nat.not_lt.mp (fun q => h.2 n q h2)
theorem isD_un {s t lb : Nat → Nat} {k n m u v : Nat} (h : isD s t lb k m u v) (h2 : isD s t lb k n u v) : m = n := Nat.le_antisymm (isD_le h h2.1) (isD_le h2 h.1)
/-- how many places have a property -/
noncomputable def cN (P : Nat → Prop) : Nat → Nat
  | 0 => 0
  | n + 1 => cN P n + @ite Nat (P n) (Classical.propDecidable _) 1 0
theorem cN_y {P : Nat → Prop} {n : Nat} (h : P n) : cN P (n + 1) = cN P n + 1 := by
  simp only [cN]; rw [if_pos h]
theorem cN_n {P : Nat → Prop} {n : Nat} (h : ¬ P n) : cN P (n + 1) = cN P n := by
  simp only [cN]; rw [if_neg h, Nat.add_zero]
theorem cN_le (P : Nat → Prop) : ∀ n, cN P n ≤ n
  | 0 => Nat.le_refl 0
  | n + 1 => by
    have h := cN_le P n
    by_cases hp : P n
    · rw [cN_y hp]; omega
    · rw [cN_n hp]; omega
theorem cN_mono {P Q : Nat → Prop} : ∀ n, (∀ i, i < n → P i → Q i) → cN P n ≤ cN Q n
  | 0, _ => Nat.le_refl 0
  | n + 1, h => by
    have h1 := cN_mono n (fun i hi => h i (by omega))
    by_cases hp : P n
    · rw [cN_y hp, cN_y (h n (by omega) hp)]; omega
    · rw [cN_n hp]
      by_cases hq : Q n
      · rw [cN_y hq]; omega
      · rw [cN_n hq]; exact h1
theorem cN_lt {P Q : Nat → Prop} {j : Nat} (hj : Q j) (hj2 : ¬ P j) : ∀ n, j < n → (∀ i, i < n → P i → Q i) → cN P n < cN Q n
  | 0, hn, _ => absurd hn (Nat.not_lt_zero _)
  | n + 1, hn, h => by
    by_cases hjn : j = n
    · subst hjn
      have h1 := cN_mono j (fun i hi => h i (by omega))
      rw [cN_y hj, cN_n hj2]; omega
    · have h1 := cN_lt hj hj2 n (by omega) (fun i hi => h i (by omega))
      by_cases hp : P n
      · rw [cN_y hp, cN_y (h n (by omega) hp)]; omega
      · rw [cN_n hp]
        by_cases hq : Q n
        · rw [cN_y hq]; omega
        · rw [cN_n hq]; exact h1
noncomputable def rk (s t lb : Nat → Nat) (k n : Nat) : Nat := cN (fun i => ∃ m, m < n ∧ isD s t lb k m (i / 8) (i % 8)) 64
theorem rk_lt {s t lb : Nat → Nat} {k n n' u v : Nat} (h : n' < n) (hd : isD s t lb k n' u v) (hu : u < 8) (hv : v < 8) : rk s t lb k n' < rk s t lb k n := by
  refine cN_lt (j := 8 * u + v) ?_ ?_ 64 (by omega) ?_
  · refine ⟨n', h, ?_⟩
    rw [show (8 * u + v) / 8 = u by omega, show (8 * u + v) % 8 = v by omega]; exact hd
  · rintro ⟨m, hm, hd2⟩
    rw [show (8 * u + v) / 8 = u by omega, show (8 * u + v) % 8 = v by omega] at hd2
    have := isD_un hd hd2
    omega
  · rintro i _ ⟨m, hm, hd2⟩
    exact ⟨m, by omega, hd2⟩
theorem rk_le {s t lb : Nat → Nat} {k n u v : Nat} (hd : isD s t lb k n u v) (hu : u < 8) (hv : v < 8) : rk s t lb k n ≤ 63 := by
  have h := rk_lt (n := n + 1) (Nat.lt_succ_self n) hd hu hv
  have h2 := cN_le (fun i => ∃ m, m < n + 1 ∧ isD s t lb k m (i / 8) (i % 8)) 64
  unfold rk at h ⊢
  omega
/-- rounds of steps find what is to be found -/
theorem relax {α : Type} {s t lb : Nat → Nat} {k V : Nat} (hE : ∀ i, i < k → s i < V ∧ t i < V) (hV : V ≤ 8) (f : Nat → α → α) (kn : α → Nat → Nat → Nat → Prop)
    (mono : ∀ i a u v n, i < k → kn a u v n → kn (f i a) u v n)
    (eps : ∀ i a v n, i < k → v < V → lb i = 0 → kn a (t i) v n → kn (f i a) (s i) v (n + 1))
    (br : ∀ i j a v n m, i < k → j < k → v < V → 1 ≤ lb i → lb i ≤ 3 → lb j = lb i + 3 → kn a (t i) (s j) n → kn a (t j) v m → kn (f i a) (s i) v (n + m + 2))
    (a0 : α) (init : ∀ u, u < V → kn a0 u u 0) :
    ∀ r u v n, u < V → v < V → isD s t lb k n u v → rk s t lb k n ≤ r → kn (zIt (fun _ => zIt f k) r a0) u v n := by
  have up : ∀ (a : α) (u v n m : Nat), ∀ d, m + d ≤ k → kn (zIt f m a) u v n → kn (zIt f (m + d) a) u v n := by
    intro a u v n m d
    induction d with
    | zero => intro _ h; exact h
    | succ d ih =>
      intro hd h
      exact mono (m + d) _ u v n (by omega) (ih (by omega) h)
  intro r
  induction r with
  | zero =>
    intro u v n hu hv hd hr
    have hn : n = 0 := by
      rcases Nat.eq_zero_or_pos n with h | h
      · exact h
      · have h0 : isD s t lb k 0 u u := ⟨Pth_c.1 u, fun j hj => absurd hj (Nat.not_lt_zero j)⟩
        have := rk_lt h h0 (by omega) (by omega)
        omega
    subst hn
    rcases Pth_inv hd.1 with ⟨-, h⟩ | ⟨i, n', -, -, -, h, -⟩ | ⟨i, j, n1, n2, -, -, -, -, -, -, h, -, -⟩
    · subst h; exact init u hu
    · omega
    · omega
  | succ r ih =>
    intro u v n hu hv hd hr
    show kn (zIt f k (zIt (fun _ => zIt f k) r a0)) u v n
    generalize ha : zIt (fun _ => zIt f k) r a0 = a at ih
    have start : ∀ u v n m, m ≤ k → kn a u v n → kn (zIt f m a) u v n := fun u v n m hm h => by
      have := up a u v n 0 m (by omega) h
      rw [Nat.zero_add] at this; exact this
    have fin : ∀ i u v n, i < k → kn (f i (zIt f i a)) u v n → kn (zIt f k a) u v n := fun i u v n hi h => by
      have := up a u v n (i + 1) (k - (i + 1)) (by omega) h
      rw [show i + 1 + (k - (i + 1)) = k by omega] at this; exact this
    rcases Pth_inv hd.1 with ⟨h0, h⟩ | ⟨i, n', hi, hl, hs, hn, hp⟩ | ⟨i, j, n1, n2, hi, hj, h1, h2, h3, hs, hn, hp, hq⟩
    · subst h0; subst h
      refine start u u 0 k (Nat.le_refl k) (ih u u 0 hu hu hd ?_)
      have : rk s t lb k 0 = 0 := by
        have h := cN_mono (P := fun i => ∃ m, m < 0 ∧ isD s t lb k m (i / 8) (i % 8)) (Q := fun _ => False) 64 (fun i _ h => by obtain ⟨m, hm, -⟩ := h; exact absurd hm (Nat.not_lt_zero m))
        have h2 : cN (fun _ => False) 64 = 0 := by
          have : ∀ n, cN (fun _ => False) n = 0 := fun n => by
            induction n with
            | zero => rfl
            | succ n ih => rw [cN_n (fun h => h)]; exact ih
          exact this 64
        unfold rk; omega
      omega
    · subst hs; subst hn
      have hd' : isD s t lb k n' (t i) v := ⟨hp, fun j hj q => hd.2 (j + 1) (by omega) (Pth_c.2.1 i j v hi hl q)⟩
      have hr' := rk_lt (n := n' + 1) (Nat.lt_succ_self n') hd' (by have := (hE i hi).2; omega) (by omega)
      have hk := ih (t i) v n' (hE i hi).2 hv hd' (by omega)
      exact fin i _ _ _ hi (eps i _ v n' hi hv hl (start _ _ _ i (by omega) hk))
    · subst hs; subst hn
      have hd1 : isD s t lb k n1 (t i) (s j) := ⟨hp, fun x hx q => hd.2 (x + n2 + 2) (by omega) (Pth_c.2.2 i j x n2 v hi hj h1 h2 h3 q hq)⟩
      have hd2 : isD s t lb k n2 (t j) v := ⟨hq, fun x hx q => hd.2 (n1 + x + 2) (by omega) (Pth_c.2.2 i j n1 x v hi hj h1 h2 h3 hp q)⟩
      have hti := (hE i hi).2
      have hsj := (hE j hj).1
      have htj := (hE j hj).2
      have hr1 := rk_lt (n := n1 + n2 + 2) (show n1 < n1 + n2 + 2 by omega) hd1 (by omega) (by omega)
      have hr2 := rk_lt (n := n1 + n2 + 2) (show n2 < n1 + n2 + 2 by omega) hd2 (by omega) (by omega)
      have hk1 := ih (t i) (s j) n1 hti hsj hd1 (by omega)
      have hk2 := ih (t j) v n2 htj hv hd2 (by omega)
      exact fin i _ _ _ hi (br i j _ v n1 n2 hi hj hv h1 h2 h3 (start _ _ _ i (by omega) hk1) (start _ _ _ i (by omega) hk2))
