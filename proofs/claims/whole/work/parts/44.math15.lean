/-! the witness: both walk the same -/
theorem zFst_lt {p : Nat → Bool} {n : Nat} (h : zFst p n < n) : p (zFst p n) = true ∧ ∀ j, j < zFst p n → p j = false := by
  by_cases hq : ∃ a, a < n ∧ p a = true
  · obtain ⟨a, ha, hpa⟩ := hq
    obtain ⟨m, h1, h2⟩ := pk_least (fun m => p m = true) ⟨a, hpa⟩
    have hm : m ≤ a := Nat.not_lt.mp (fun q => h2 a q hpa)
    have h3 : ∀ j, j < m → p j = false := fun j hj => by
      cases hpj : p j with
      | false => rfl
      | true => exact absurd hpj (h2 j hj)
    rw [zFst_at h3 h1 (by omega)]
    exact ⟨h1, h3⟩
  · rw [zFst_none (fun j hj => by
      cases hpj : p j with
      | false => rfl
      | true => exact absurd ⟨j, hj, hpj⟩ hq)] at h
    exact absurd h (Nat.lt_irrefl n)
theorem zFst_some {p : Nat → Bool} {n a : Nat} (ha : a < n) (hp : p a = true) : zFst p n < n := by
  rcases Nat.lt_or_ge (zFst p n) n with h | h
  · exact h
  · have h2 := (zFst_all n).mp (Nat.le_antisymm (zFst_le p n) h) a ha
    rw [hp] at h2; cases h2
/-- the two tables -/
def FT (f T : Nat → Nat) (V : Nat) : Prop := ∀ u v, u < V → v < V → (f (8 * u + v) = T (8 * u + v) ∧ T (8 * u + v) ≤ 1000000) ∨ (f (8 * u + v) = 1000001 ∧ T (8 * u + v) = 2000000)
theorem FT_of {f g s t lb : Nat → Nat} {k V : Nat} (hB : Blk g s t lb k) (hk : k ≤ 16) (hg : ∀ i, 1 ≤ i → g i < 8) (hE : ∀ i, i < k → s i < V ∧ t i < V) (hV : V ≤ 8) (hf : zT9 f) : FT (zMs f s t lb k V) (mT g 65535) V := by
  intro x y hx hy
  rcases zMs_exact hE hV hf hx hy with ⟨n, hd, he⟩ | ⟨hn, he⟩
  · rcases mT_ex1 hB hk hg (show x < 8 by omega) (show y < 8 by omega) with ⟨m, hd2, he2⟩ | ⟨hn2, -⟩
    · have e1 := isD_un hd hd2
      left; rw [he, he2, e1]; exact ⟨rfl, by omega⟩
    · exact absurd hd.1 (hn2 n)
  · rcases mT_ex1 hB hk hg (show x < 8 by omega) (show y < 8 by omega) with ⟨m, hd2, -⟩ | ⟨-, he2⟩
    · exact absurd hd2.1 (hn m)
    · right; exact ⟨he, he2⟩
theorem ExT_d {s t lb : Nat → Nat} {k : Nat} {T : Nat → Nat} {u v : Nat} (h : ExT s t lb k 2000000 T u v) (hl : T (8 * u + v) < 1000000) : isD s t lb k (T (8 * u + v)) u v := by
  rcases h with ⟨n, hd, he⟩ | ⟨-, he⟩
  · have e : T (8 * u + v) = n := by omega
    rw [e]; exact hd
  · omega
theorem ExT_v {s t lb : Nat → Nat} {k : Nat} {T : Nat → Nat} {u v n : Nat} (h : ExT s t lb k 2000000 T u v) (hd : isD s t lb k n u v) (hl : n < 1000000) : T (8 * u + v) = n := by
  rcases h with ⟨m, hm, he⟩ | ⟨hn, -⟩
  · have e := isD_un hm hd
    rw [he, e]; omega
  · exact absurd hd.1 (hn n)
/-- j begins the witness, c closes it -/
def wSt (s t lb T : Nat → Nat) (u v j c : Nat) : Prop := s j = u ∧ ((lb j = 0 ∧ c = 0 ∧ 1 + T (8 * t j + v) = T (8 * u + v)) ∨ ((1 ≤ lb j ∧ lb j ≤ 3) ∧ lb c = lb j + 3 ∧ 2 + T (8 * t j + s c) + T (8 * t c + v) = T (8 * u + v)))
section WIT
variable {f g s t lb T : Nat → Nat} {k V : Nat}
theorem mFsP_iff (hB : Blk g s t lb k) {u v j c : Nat} (hT : T (8 * u + v) < 1000000) (hj : j < k) (hc : c < 16) : mFsP g T u v (16 * j + c) = true ↔ c < k ∧ wSt s t lb T u v j c := by
  obtain ⟨h0, h1⟩ := hB
  obtain ⟨j1, j2, j3⟩ := h1 j hj
  unfold mFsP
  rw [decide_eq_true_eq, show (16 * j + c) / 16 = j by omega, show (16 * j + c) % 16 = c by omega, h0]
  constructor
  · rintro ⟨hck, hl⟩
    obtain ⟨c1, c2, c3⟩ := h1 c hck
    refine ⟨hck, ?_⟩
    unfold mLb at hl
    rw [j1, j2, j3, c1, c2, c3] at hl
    unfold wSt
    by_cases q1 : s j = u
    · rw [if_pos q1] at hl
      refine ⟨q1, ?_⟩
      by_cases q2 : lb j = 0
      · rw [if_pos q2] at hl
        by_cases q3 : c = 0
        · rw [if_pos q3] at hl; exact Or.inl ⟨q2, q3, hl⟩
        · rw [if_neg q3] at hl; omega
      · rw [if_neg q2] at hl
        by_cases q3 : (1 ≤ lb j ∧ lb j ≤ 3) ∧ lb c = lb j + 3
        · rw [if_pos q3] at hl; exact Or.inr ⟨q3.1, q3.2, hl⟩
        · rw [if_neg q3] at hl; omega
    · rw [if_neg q1] at hl; omega
  · rintro ⟨hck, q1, hl⟩
    obtain ⟨c1, c2, c3⟩ := h1 c hck
    refine ⟨hck, ?_⟩
    unfold mLb
    rw [j1, j2, j3, c1, c2, c3, if_pos q1]
    rcases hl with ⟨q2, q3, q4⟩ | ⟨q2, q3, q4⟩
    · rw [if_pos q2, if_pos q3]; exact q4
    · rw [if_neg (by omega), if_pos ⟨q2, q3⟩]; exact q4
theorem zCwP_iff (hF : FT f T V) (hE : ∀ i, i < k → s i < V ∧ t i < V) {v j c : Nat} (hv : v < V) (hj : j < k) (hc : c < k) (hT : T (8 * s j + v) < 1000000) : zCwP s t lb f j v c = true ↔ lb c = lb j + 3 ∧ 2 + T (8 * t j + s c) + T (8 * t c + v) = T (8 * s j + v) := by
  unfold zCwP
  rw [decide_eq_true_eq]
  have h1 := hF (s j) v (hE j hj).1 hv
  have h2 := hF (t j) (s c) (hE j hj).2 (hE c hc).1
  have h3 := hF (t c) v (hE c hc).2 hv
  constructor
  · rintro ⟨q1, q2⟩
    refine ⟨q1, ?_⟩
    omega
  · rintro ⟨q1, q2⟩
    refine ⟨q1, ?_⟩
    omega
theorem zFwP_iff (hF : FT f T V) (hE : ∀ i, i < k → s i < V ∧ t i < V) {u v j : Nat} (hv : v < V) (hj : j < k) (hT : T (8 * u + v) < 1000000) : zFwP s t lb f k u v j = true ↔ ∃ c, c < k ∧ wSt s t lb T u v j c := by
  unfold zFwP
  rw [Bool.and_eq_true, decide_eq_true_eq]
  constructor
  · rintro ⟨q1, q2⟩
    subst q1
    unfold zBs at q2
    by_cases h0 : lb j = 0
    · rw [if_pos h0, decide_eq_true_eq] at q2
      have h1 := hF (s j) v (hE j hj).1 hv
      have h2 := hF (t j) v (hE j hj).2 hv
      exact ⟨0, by omega, rfl, Or.inl ⟨h0, rfl, by omega⟩⟩
    · rw [if_neg h0, decide_eq_true_eq] at q2
      obtain ⟨a1, a2, a3⟩ := q2
      have h4 := (zFst_lt a3).1
      exact ⟨_, a3, rfl, Or.inr ⟨⟨a1, a2⟩, (zCwP_iff hF hE hv hj a3 hT).mp h4⟩⟩
  · rintro ⟨c, hc, q1, q2⟩
    subst q1
    refine ⟨rfl, ?_⟩
    unfold zBs
    rcases q2 with ⟨a1, a2, a3⟩ | ⟨a1, a2, a3⟩
    · rw [if_pos a1, decide_eq_true_eq]
      have h1 := hF (s j) v (hE j hj).1 hv
      have h2 := hF (t j) v (hE j hj).2 hv
      omega
    · rw [if_neg (by omega), decide_eq_true_eq]
      exact ⟨a1.1, a1.2, zFst_some hc ((zCwP_iff hF hE hv hj hc hT).mpr ⟨a2, a3⟩)⟩
/-- one step of both -/
theorem wit_step (hB : Blk g s t lb k) (hk : k ≤ 16) (hF : FT f T V) (hE : ∀ i, i < k → s i < V ∧ t i < V) (hV : V ≤ 8) (hX : ∀ u v, u < 8 → v < 8 → ExT s t lb k 2000000 T u v) {u v left : Nat} (hu : u < V) (hv : v < V) (hl : left < T (8 * u + v)) (hT : T (8 * u + v) < 1000000) :
    ∃ j c, j < k ∧ c < k ∧ zFw s t lb f k u v = j ∧ mFs g T u v = 16 * j + c ∧ wSt s t lb T u v j c ∧ (¬ lb j = 0 → zCw s t lb f k j v = c) := by
  have hex : ∃ j c, j < k ∧ c < k ∧ wSt s t lb T u v j c := by
    have hd := ExT_d (hX u v (by omega) (by omega)) hT
    rcases Pth_inv hd.1 with ⟨h0, h⟩ | ⟨i, n', hi, hl0, hs, hn, hp⟩ | ⟨i, j, n1, n2, hi, hj, h1, h2, h3, hs, hn, hp, hq⟩
    · omega
    · subst hs
      have hd' : isD s t lb k n' (t i) v := ⟨hp, fun j hj q => hd.2 (j + 1) (by omega) (Pth_c.2.1 i j v hi hl0 q)⟩
      have hti := (hE i hi).2
      have e := ExT_v (hX (t i) v (by omega) (by omega)) hd' (by omega)
      exact ⟨i, 0, hi, by omega, rfl, Or.inl ⟨hl0, rfl, by omega⟩⟩
    · subst hs
      have hd1 : isD s t lb k n1 (t i) (s j) := ⟨hp, fun x hx q => hd.2 (x + n2 + 2) (by omega) (Pth_c.2.2 i j x n2 v hi hj h1 h2 h3 q hq)⟩
      have hd2 : isD s t lb k n2 (t j) v := ⟨hq, fun x hx q => hd.2 (n1 + x + 2) (by omega) (Pth_c.2.2 i j n1 x v hi hj h1 h2 h3 hp q)⟩
      have hti := (hE i hi).2
      have hsj := (hE j hj).1
      have htj := (hE j hj).2
      have e1 := ExT_v (hX (t i) (s j) (by omega) (by omega)) hd1 (by omega)
      have e2 := ExT_v (hX (t j) v (by omega) (by omega)) hd2 (by omega)
      exact ⟨i, j, hi, hj, rfl, Or.inr ⟨⟨h1, h2⟩, h3, by omega⟩⟩
  obtain ⟨ja, ca, hja, hca, hwa⟩ := hex
  have hlt : zFw s t lb f k u v < k := zFst_some hja ((zFwP_iff hF hE hv hja hT).mpr ⟨ca, hca, hwa⟩)
  obtain ⟨hp1, hp2⟩ := zFst_lt hlt
  have hp1 : zFwP s t lb f k u v (zFw s t lb f k u v) = true := hp1
  have hp2 : ∀ j, j < zFw s t lb f k u v → zFwP s t lb f k u v j = false := hp2
  generalize hj0 : zFw s t lb f k u v = j at hlt hp1 hp2
  obtain ⟨c1, hc1, hw1⟩ := (zFwP_iff hF hE hv hlt hT).mp hp1
  have hs : s j = u := hw1.1
  have low : ∀ n, n / 16 < j → mFsP g T u v n = false := fun n hn => by
    cases hh : mFsP g T u v n with
    | false => rfl
    | true =>
      rw [show n = 16 * (n / 16) + n % 16 by omega] at hh
      obtain ⟨b1, b2⟩ := (mFsP_iff hB hT (by omega) (by omega)).mp hh
      have := (zFwP_iff hF hE hv (show n / 16 < k by omega) hT).mpr ⟨_, b1, b2⟩
      rw [hp2 _ hn] at this; cases this
  by_cases h0 : lb j = 0
  · have hw0 : wSt s t lb T u v j 0 := by
      refine ⟨hs, Or.inl ⟨h0, rfl, ?_⟩⟩
      rcases hw1.2 with ⟨-, -, q⟩ | ⟨q, -, -⟩
      · exact q
      · omega
    refine ⟨j, 0, hlt, by omega, rfl, ?_, hw0, fun h => absurd h0 h⟩
    refine zFst_at (fun n hn => low n (by omega)) ((mFsP_iff hB hT hlt (by omega)).mpr ⟨by omega, hw0⟩) ?_
    rw [hB.1]; omega
  · have hb : (1 ≤ lb j ∧ lb j ≤ 3) ∧ lb c1 = lb j + 3 ∧ 2 + T (8 * t j + s c1) + T (8 * t c1 + v) = T (8 * u + v) := by
      rcases hw1.2 with ⟨q, -, -⟩ | q
      · exact absurd q h0
      · exact q
    subst hs
    have hcl : zCw s t lb f k j v < k := zFst_some hc1 ((zCwP_iff hF hE hv hlt hc1 hT).mpr hb.2)
    obtain ⟨r1, r2⟩ := zFst_lt hcl
    have r1 : zCwP s t lb f j v (zCw s t lb f k j v) = true := r1
    have r2 : ∀ c, c < zCw s t lb f k j v → zCwP s t lb f j v c = false := r2
    generalize hc0 : zCw s t lb f k j v = c at hcl r1 r2
    have hw : wSt s t lb T (s j) v j c := ⟨rfl, Or.inr ⟨hb.1, (zCwP_iff hF hE hv hlt hcl hT).mp r1⟩⟩
    refine ⟨j, c, hlt, hcl, rfl, ?_, hw, fun _ => hc0⟩
    refine zFst_at (fun n hn => ?_) ((mFsP_iff hB hT hlt (by omega)).mpr ⟨hcl, hw⟩) ?_
    · by_cases hnj : n / 16 < j
      · exact low n hnj
      · cases hh : mFsP g T (s j) v n with
        | false => rfl
        | true =>
          rw [show n = 16 * j + n % 16 by omega] at hh
          obtain ⟨b1, b2, b3⟩ := (mFsP_iff hB hT hlt (by omega)).mp hh
          rcases b3 with ⟨q, -, -⟩ | ⟨-, q⟩
          · exact absurd q h0
          · have := (zCwP_iff hF hE hv hlt b1 hT).mpr q
            rw [r2 _ (by omega)] at this; cases this
    · rw [hB.1]; omega
def wK (T : Nat → Nat) (V u v left : Nat) : Prop := u < V ∧ v < V ∧ left < T (8 * u + v) ∧ T (8 * u + v) < 1000000
theorem wit_k (hB : Blk g s t lb k) (hk : k ≤ 16) (hF : FT f T V) (hE : ∀ i, i < k → s i < V ∧ t i < V) (hV : V ≤ 8) (hX : ∀ u v, u < 8 → v < 8 → ExT s t lb k 2000000 T u v) : mWk g T (wK T V) := by
  rintro u v left ⟨hu, hv, hl, hT⟩
  obtain ⟨j, c, hj, hc, -, hm, hw, -⟩ := wit_step hB hk hF hE hV hX hu hv hl hT
  rw [hm, show (16 * j + c) / 16 = j by omega, show (16 * j + c) % 16 = c by omega, hB.1]
  obtain ⟨j1, j2, j3⟩ := hB.2 j hj
  obtain ⟨c1, c2, c3⟩ := hB.2 c hc
  rw [j2, j3, c1, c2]
  have e1 := hE j hj
  have e2 := hE c hc
  obtain ⟨hs, hw⟩ := hw
  refine ⟨⟨by omega, by omega, by omega, by omega⟩, ?_, ?_, ?_⟩
  · intro h1 h2
    rcases hw with ⟨-, -, q⟩ | ⟨q, -, -⟩
    · exact ⟨e1.2, hv, by omega, by omega⟩
    · omega
  · intro h1 h2 h3
    rcases hw with ⟨q, -, -⟩ | ⟨-, -, q⟩
    · exact absurd q h2
    · exact ⟨e1.2, e2.1, h3, by omega⟩
  · intro h1 h2 h3
    rcases hw with ⟨q, -, -⟩ | ⟨-, -, q⟩
    · exact absurd q h2
    · exact ⟨e2.2, hv, by omega, by omega⟩
theorem wit_eq (hB : Blk g s t lb k) (hk : k ≤ 16) (hF : FT f T V) (hE : ∀ i, i < k → s i < V ∧ t i < V) (hV : V ≤ 8) (hX : ∀ u v, u < 8 → v < 8 → ExT s t lb k 2000000 T u v) : ∀ n fu u v left, wK T V u v left → rk s t lb k (T (8 * u + v)) < n → left < fu → zEw s t lb f k n u v left = mWe g T fu u v left := by
  intro n
  induction n with
  | zero => intro fu u v left _ h; exact absurd h (Nat.not_lt_zero _)
  | succ n ih =>
    intro fu u v left hK hr hfu
    obtain ⟨hu, hv, hl, hT⟩ := hK
    obtain ⟨j, c, hj, hc, hz, hm, ⟨hs, hw⟩, hcw⟩ := wit_step hB hk hF hE hV hX hu hv hl hT
    obtain ⟨j1, j2, j3⟩ := hB.2 j hj
    obtain ⟨c1, c2, c3⟩ := hB.2 c hc
    have e1 := hE j hj
    have e2 := hE c hc
    rw [mWe_u (by omega)]
    simp only [zEw]
    rw [hz, hm, show (16 * j + c) / 16 = j by omega, show (16 * j + c) % 16 = c by omega, j2, j3, c1, c2, if_pos hj]
    by_cases h0 : left = 0
    · rw [if_pos h0, if_pos h0]
    · rw [if_neg h0, if_neg h0]
      by_cases h1 : lb j = 0
      · rw [if_pos h1, if_pos h1]
        rcases hw with ⟨-, -, q⟩ | ⟨q, -, -⟩
        · have hk2 : wK T V (t j) v (left - 1) := ⟨e1.2, hv, by omega, by omega⟩
          refine ih (fu - 1) (t j) v (left - 1) hk2 ?_ (by omega)
          have hd := ExT_d (hX (t j) v (by omega) (by omega)) hk2.2.2.2
          have := rk_lt (n := T (8 * u + v)) (show T (8 * t j + v) < T (8 * u + v) by omega) hd (by omega) (by omega)
          omega
        · omega
      · rw [if_neg h1, if_neg h1, hcw h1, if_pos hc]
        rcases hw with ⟨q, -, -⟩ | ⟨-, -, q⟩
        · exact absurd q h1
        · have hfi : f (8 * t j + s c) = T (8 * t j + s c) := by
            rcases hF (t j) (s c) e1.2 e2.1 with h | h
            · exact h.1
            · omega
          rw [hfi]
          by_cases h2 : left - 1 = T (8 * t j + s c)
          · rw [if_pos h2, if_pos h2]
          · rw [if_neg h2, if_neg h2]
            by_cases h3 : left - 1 < T (8 * t j + s c)
            · rw [if_pos h3, if_pos h3]
              have hk2 : wK T V (t j) (s c) (left - 1) := ⟨e1.2, e2.1, h3, by omega⟩
              refine ih (fu - 1) (t j) (s c) (left - 1) hk2 ?_ (by omega)
              have hd := ExT_d (hX (t j) (s c) (by omega) (by omega)) hk2.2.2.2
              have := rk_lt (n := T (8 * u + v)) (show T (8 * t j + s c) < T (8 * u + v) by omega) hd (by omega) (by omega)
              omega
            · rw [if_neg h3, if_neg h3]
              have hk2 : wK T V (t c) v (left - 1 - (T (8 * t j + s c) + 1)) := ⟨e2.2, hv, by omega, by omega⟩
              refine ih (fu - 1) (t c) v _ hk2 ?_ (by omega)
              have hd := ExT_d (hX (t c) v (by omega) (by omega)) hk2.2.2.2
              have := rk_lt (n := T (8 * u + v)) (show T (8 * t c + v) < T (8 * u + v) by omega) hd (by omega) (by omega)
              omega
end WIT
theorem eq_witness {f g s t lb : Nat → Nat} {k V x y : Nat} (hB : Blk g s t lb k) (hk : k ≤ 16) (hg : ∀ i, 1 ≤ i → g i < 8) (hE : ∀ i, i < k → s i < V ∧ t i < V) (hV : V ≤ 8) (hf : zT9 f) (hx : x < V) (hy : y < V) (z : Int32) : zEwA s t lb (zMs f s t lb k V) k x y z = mWeA g (mT g 65535) x y z := by
  have hF := FT_of hB hk hg hE hV hf
  have hX : ∀ u v, u < 8 → v < 8 → ExT s t lb k 2000000 (mT g 65535) u v := fun u v hu hv => mT_ex1 hB hk hg hu hv
  unfold zEwA mWeA
  generalize mT g 65535 = T at hF hX
  generalize zMs f s t lb k V = F at hF
  have h := hF x y hx hy
  by_cases hc : T (8 * x + y) < 1000000 ∧ 0 ≤ z.toInt ∧ z.toInt < T (8 * x + y)
  · rw [if_pos hc, if_neg (by omega)]
    have hd := ExT_d (hX x y (by omega) (by omega)) hc.1
    have hr := rk_le hd (by omega) (by omega)
    exact wit_eq hB hk hF hE hV hX 65 _ x y _ ⟨hx, hy, by omega, hc.1⟩ (by omega) (by omega)
  · rw [if_neg hc, if_pos (by omega)]
theorem wit_K {g s t lb : Nat → Nat} {k V : Nat} (hB : Blk g s t lb k) (hk : k ≤ 16) (hg : ∀ i, 1 ≤ i → g i < 8) (hE : ∀ i, i < k → s i < V ∧ t i < V) (hV : V ≤ 8) : mWk g (mT g 65535) (wK (mT g 65535) V) :=
  wit_k (f := zMs z0 s t lb k V) hB hk (FT_of hB hk hg hE hV (fun _ => Nat.zero_le _)) hE hV (fun u v hu hv => mT_ex1 hB hk hg hu hv)
