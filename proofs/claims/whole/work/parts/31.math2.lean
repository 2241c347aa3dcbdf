/-! the class's table of lengths is exact -/
theorem zIt_dec {g : Nat → zTB → zTB} (h : ∀ i q x, (g i q).1 x ≤ q.1 x) : ∀ n q x, (zIt g n q).1 x ≤ q.1 x
  | 0, _, _ => Nat.le_refl _
  | n + 1, q, x => Nat.le_trans (h n _ x) (zIt_dec h n q x)
/-- what a step gives stays -/
theorem zIt_at {g : Nat → zTB → zTB} (h : ∀ i q x, (g i q).1 x ≤ q.1 x) {i p B : Nat} {q : zTB} (hi : ∀ q' : zTB, (∀ x, q'.1 x ≤ q.1 x) → (g i q').1 p ≤ B) : ∀ n, i < n → (zIt g n q).1 p ≤ B
  | 0, hn => absurd hn (Nat.not_lt_zero _)
  | n + 1, hn => by
    by_cases h1 : i = n
    · subst h1; exact hi _ (fun x => zIt_dec h i q x)
    · exact Nat.le_trans (h n _ p) (zIt_at h hi n (by omega))
theorem zU_dec {f : Nat → Nat} {i x : Nat} (h : x ≤ f i) (j : Nat) : zU f i x j ≤ f j := by
  unfold zU; split
  · rename_i h1; rw [h1]; exact h
  · exact Nat.le_refl _
theorem zSt_dec (u lead n : Nat) (i : Nat) (q : zTB) (x : Nat) : (zSt u lead n i q).1 x ≤ q.1 x := by
  unfold zSt; split
  · rename_i h; exact zU_dec (Nat.le_of_lt h.2) x
  · exact Nat.le_refl _
theorem zSh_dec (u lead n V : Nat) (f : Nat → Nat) (x : Nat) : (zSh u lead n V f).1 x ≤ f x := zIt_dec (zSt_dec u lead n) V (f, false) x
theorem zSh_le {u lead n V v : Nat} {f : Nat → Nat} (hv : v < V) (hf : f (8 * n + v) ≤ 1000000) : (zSh u lead n V f).1 (8 * u + v) ≤ min (lead + f (8 * n + v)) 1000000 := by
  refine zIt_at (zSt_dec u lead n) (i := v) (fun q' hq => ?_) V hv
  have h1 := hq (8 * n + v)
  dsimp only at h1
  unfold zSt
  split
  · dsimp only; rw [zU_same]; omega
  · rename_i h
    have h2 : ¬ min (lead + q'.1 (8 * n + v)) 1000000 < q'.1 (8 * u + v) := fun h3 => h ⟨by omega, h3⟩
    omega
theorem zBhC_dec (s t lb : Nat → Nat) (V j : Nat) (i : Nat) (q : zTB) (x : Nat) : (zBhC s t lb V j i q).1 x ≤ q.1 x := by
  unfold zBhC; split
  · exact zSh_dec _ _ _ _ _ x
  · exact Nat.le_refl _
theorem zBh_dec (s t lb : Nat → Nat) (k V j : Nat) (f : Nat → Nat) (x : Nat) : (zBh s t lb k V j f).1 x ≤ f x := by
  unfold zBh; split
  · exact zSh_dec _ _ _ _ _ x
  · split
    · exact zIt_dec (zBhC_dec s t lb V j) k (f, false) x
    · exact Nat.le_refl _
theorem zBh_eps {s t lb : Nat → Nat} {k V j v : Nat} {f : Nat → Nat} (hl : lb j = 0) (hv : v < V) (hf : f (8 * t j + v) ≤ 1000000) : (zBh s t lb k V j f).1 (8 * s j + v) ≤ min (1 + f (8 * t j + v)) 1000000 := by
  unfold zBh; rw [if_pos hl]; exact zSh_le hv hf
theorem zBh_br {s t lb : Nat → Nat} {k V j c v : Nat} {f : Nat → Nat} (h1 : 1 ≤ lb j) (h2 : lb j ≤ 3) (hc : c < k) (h3 : lb c = lb j + 3) (hv : v < V) (hi : f (8 * t j + s c) ≤ 1000000) (hf : f (8 * t c + v) ≤ 1000000) : (zBh s t lb k V j f).1 (8 * s j + v) ≤ min (f (8 * t j + s c) + 2 + f (8 * t c + v)) 1000000 := by
  unfold zBh; rw [if_neg (by omega), if_pos ⟨h1, h2⟩]
  refine zIt_at (zBhC_dec s t lb V j) (i := c) (fun q' hq => ?_) k hc
  have g1 := hq (8 * t j + s c)
  have g2 := hq (8 * t c + v)
  dsimp only at g1 g2
  unfold zBhC
  rw [if_pos ⟨h3, by omega⟩]
  have g3 := zSh_le (u := s j) (lead := q'.1 (8 * t j + s c) + 2) (n := t c) (V := V) (v := v) (f := q'.1) hv (by omega)
  dsimp only
  omega
/-- what stands in the table is a path's length -/
def SndT (s t lb : Nat → Nat) (k V : Nat) (f : Nat → Nat) : Prop := ∀ u v, u < 8 → v < 8 → f (8 * u + v) ≠ 1000001 → u < V ∧ v < V ∧ ∃ n, Pth s t lb k n u v ∧ f (8 * u + v) = min n 1000000
theorem SndT_st {s t lb : Nat → Nat} {k V u lead nx L i : Nat} {q : zTB} (hu : u < V) (hV : V ≤ 8) (hn : nx < 8) (hL : ∀ m w, Pth s t lb k m nx w → Pth s t lb k (L + m) u w) (hm : ∀ m, min (lead + min m 1000000) 1000000 = min (L + m) 1000000) (hi : i < V) (h : SndT s t lb k V q.1) : SndT s t lb k V (zSt u lead nx i q).1 := by
  unfold zSt
  split
  · rename_i hc
    intro a b ha hb hab
    dsimp only at hab ⊢
    by_cases he : 8 * a + b = 8 * u + i
    · have e1 : a = u := by omega
      have e2 : b = i := by omega
      subst e1; subst e2
      obtain ⟨-, -, n, hp, hfn⟩ := h nx b hn hb hc.1
      refine ⟨hu, hi, L + n, hL n b hp, ?_⟩
      rw [zU_same, hfn, hm]
    · rw [zU_ne he] at hab ⊢
      exact h a b ha hb hab
  · exact h
theorem SndT_sh {s t lb : Nat → Nat} {k V u lead nx L : Nat} {f : Nat → Nat} (hu : u < V) (hV : V ≤ 8) (hn : nx < 8) (hL : ∀ m w, Pth s t lb k m nx w → Pth s t lb k (L + m) u w) (hm : ∀ m, min (lead + min m 1000000) 1000000 = min (L + m) 1000000) (h : SndT s t lb k V f) : SndT s t lb k V (zSh u lead nx V f).1 :=
  zIt_inv (f := zSt u lead nx) (m := V) (P := fun q : zTB => SndT s t lb k V q.1) (fun i q hi hq => SndT_st hu hV hn hL hm hi hq) V (Nat.le_refl V) (f, false) h
theorem SndT_bh {s t lb : Nat → Nat} {k V j : Nat} {f : Nat → Nat} (hE : ∀ i, i < k → s i < V ∧ t i < V) (hV : V ≤ 8) (hj : j < k) (h : SndT s t lb k V f) : SndT s t lb k V (zBh s t lb k V j f).1 := by
  have hsj := (hE j hj).1
  have htj := (hE j hj).2
  unfold zBh
  split
  · rename_i hl
    refine SndT_sh (L := 1) hsj hV (by omega) (fun m w hp => ?_) (fun m => by omega) h
    rw [Nat.add_comm]; exact Pth_c.2.1 j m w hj hl hp
  · split
    · rename_i hb
      refine zIt_inv (f := zBhC s t lb V j) (m := k) (P := fun q : zTB => SndT s t lb k V q.1) (fun c q hc hq => ?_) k (Nat.le_refl k) (f, false) h
      unfold zBhC
      split
      · rename_i hy
        have hsc := (hE c hc).1
        have htc := (hE c hc).2
        obtain ⟨-, -, n1, hp1, hf1⟩ := hq (t j) (s c) (by omega) (by omega) hy.2
        refine SndT_sh (L := n1 + 2) hsj hV (by omega) (fun m w hp => ?_) (fun m => by omega) hq
        have := Pth_c.2.2 j c n1 m w hj hc hb.1 hb.2 hy.1 hp1 hp
        rw [show n1 + 2 + m = n1 + m + 2 by omega]; exact this
      · exact hq
    · exact h
def zBhT (s t lb : Nat → Nat) (k V j : Nat) (f : Nat → Nat) : Nat → Nat := (zBh s t lb k V j f).1
theorem zMrF_1 (s t lb : Nat → Nat) (k V : Nat) : ∀ n q, (zIt (zMrF s t lb k V) n q).1 = zIt (zBhT s t lb k V) n q.1
  | 0, _ => rfl
  | n + 1, q => by
    show (zBh s t lb k V n (zIt (zMrF s t lb k V) n q).1).1 = zBhT s t lb k V n (zIt (zBhT s t lb k V) n q.1)
    rw [zMrF_1 s t lb k V n q]; rfl
theorem zMrN_eq (s t lb : Nat → Nat) (k V : Nat) (f : Nat → Nat) : zMrN s t lb k V f = zIt (zBhT s t lb k V) k f := zMrF_1 s t lb k V k (f, false)
theorem zM1_at (f : Nat → Nat) : ∀ n i, i < n → zIt zM1 n f i = 1000001
  | 0, _, h => absurd h (Nat.not_lt_zero _)
  | n + 1, i, h => by
    show zU (zIt zM1 n f) n 1000001 i = 1000001
    by_cases hi : i = n
    · subst hi; rw [zU_same]
    · rw [zU_ne hi]; exact zM1_at f n i (by omega)
theorem zM2_at (f : Nat → Nat) : ∀ n u v, u < 8 → v < 8 → zIt zM2 n f (8 * u + v) = if u = v ∧ u < n then 0 else f (8 * u + v)
  | 0, u, v, _, _ => by rw [if_neg (by omega)]; rfl
  | n + 1, u, v, hu, hv => by
    show zU (zIt zM2 n f) (8 * n + n) 0 (8 * u + v) = _
    by_cases hi : 8 * u + v = 8 * n + n
    · by_cases hn : n < 8
      · rw [hi, zU_same, if_pos (by omega)]
      · omega
    · rw [zU_ne hi, zM2_at f n u v hu hv]
      by_cases h1 : u = v ∧ u < n
      · rw [if_pos h1, if_pos (by omega)]
      · rw [if_neg h1, if_neg (by omega)]
theorem zM0_at (f : Nat → Nat) {V u v : Nat} (hu : u < 8) (hv : v < 8) : zM0 f V (8 * u + v) = if u = v ∧ u < V then 0 else 1000001 := by
  unfold zM0
  rw [zM2_at _ V u v hu hv, zM1_at f 64 _ (by omega)]
/-- T at u, v is the distance, capped; or far -/
def ExT (s t lb : Nat → Nat) (k far : Nat) (T : Nat → Nat) (u v : Nat) : Prop := (∃ n, isD s t lb k n u v ∧ T (8 * u + v) = min n 1000000) ∨ ((∀ n, ¬ Pth s t lb k n u v) ∧ T (8 * u + v) = far)
theorem mn1 {x a n : Nat} (h : x ≤ min (1 + a) 1000000) (ha : a ≤ min n 1000000) : x ≤ min (n + 1) 1000000 := by omega
theorem mn2 {x a b n m : Nat} (h : x ≤ min (a + 2 + b) 1000000) (ha : a ≤ min n 1000000) (hb : b ≤ min m 1000000) : x ≤ min (n + m + 2) 1000000 := by omega
theorem zMs_exact {f s t lb : Nat → Nat} {k V : Nat} (hE : ∀ i, i < k → s i < V ∧ t i < V) (hV : V ≤ 8) (hf : zT9 f) {u v : Nat} (hu : u < V) (hv : v < V) : ExT s t lb k 1000001 (zMs f s t lb k V) u v := by
  have hsnd : SndT s t lb k V (zMs f s t lb k V) := by
    unfold zMs
    refine zIt_inv (m := 65) (P := SndT s t lb k V) (fun i q _ h => ?_) 65 (Nat.le_refl _) _ ?_
    · rw [zMrN_eq]
      exact zIt_inv (f := zBhT s t lb k V) (m := k) (P := SndT s t lb k V) (fun j q hj h => SndT_bh hE hV hj h) k (Nat.le_refl k) _ h
    · intro a b ha hb hab
      rw [zM0_at f ha hb] at hab ⊢
      by_cases h : a = b ∧ a < V
      · obtain ⟨h1, h2⟩ := h
        subst h1
        rw [if_pos ⟨rfl, h2⟩]
        exact ⟨h2, h2, 0, Pth_c.1 a, by omega⟩
      · rw [if_neg h] at hab; exact absurd rfl hab
  by_cases hp : ∃ n, Pth s t lb k n u v
  · obtain ⟨n0, hp0⟩ := hp
    obtain ⟨n, hd⟩ := isD_ex hp0
    refine Or.inl ⟨n, hd, ?_⟩
    have hle : zMs f s t lb k V (8 * u + v) ≤ min n 1000000 := by
      have h := relax hE hV (zBhT s t lb k V) (fun T u v n => T (8 * u + v) ≤ min n 1000000)
        (fun i a u v n _ h => Nat.le_trans (zBh_dec s t lb k V i a _) h)
        (fun i a v n hi hv hl h => by
          have h : a (8 * t i + v) ≤ min n 1000000 := h
          have ha : a (8 * t i + v) ≤ 1000000 := by omega
          have := zBh_eps (s := s) (t := t) (lb := lb) (k := k) (V := V) (j := i) hl hv (f := a) ha
          exact mn1 this h)
        (fun i j a v n m hi hj hv h1 h2 h3 hp hq => by
          have hp : a (8 * t i + s j) ≤ min n 1000000 := hp
          have hq : a (8 * t j + v) ≤ min m 1000000 := hq
          have ha : a (8 * t i + s j) ≤ 1000000 := by omega
          have hb : a (8 * t j + v) ≤ 1000000 := by omega
          have := zBh_br (s := s) (t := t) (lb := lb) (k := k) (V := V) (j := i) (c := j) h1 h2 hj h3 hv (f := a) ha hb
          exact mn2 this hp hq)
        (zM0 f V) (fun u hu => by rw [zM0_at f (by omega) (by omega), if_pos ⟨rfl, hu⟩]; omega) 65 u v n hu hv hd (by have := rk_le hd (by omega) (by omega); omega)
      have e : zMs f s t lb k V = zIt (fun _ => zIt (zBhT s t lb k V) k) 65 (zM0 f V) := by
        unfold zMs
        exact zIt_cong 65 (fun i a _ => zMrN_eq s t lb k V a) _
      rw [e]; exact h
    obtain ⟨-, -, m, hm, hfm⟩ := hsnd u v (by omega) (by omega) (by omega)
    have := isD_le hd hm
    omega
  · refine Or.inr ⟨fun n h => hp ⟨n, h⟩, ?_⟩
    by_cases h : zMs f s t lb k V (8 * u + v) = 1000001
    · exact h
    · obtain ⟨-, -, n, hn, -⟩ := hsnd u v (by omega) (by omega) h
      exact absurd ⟨n, hn⟩ hp
/-! the bits -/
theorem zHas_bit {r u v : Nat} (hv : v < 8) : zHas r u v ↔ r.testBit (8 * u + v) = true := by
  have e : zRow r u / 2 ^ v % 2 = r / 2 ^ (8 * u + v) % 2 := by
    unfold zRow
    rw [Nat.pow_add, ← Nat.div_div_eq_div_mul]
    generalize r / 2 ^ (8 * u) = x
    have h8 : v = 0 ∨ v = 1 ∨ v = 2 ∨ v = 3 ∨ v = 4 ∨ v = 5 ∨ v = 6 ∨ v = 7 := by omega
    rcases h8 with h | h | h | h | h | h | h | h <;> subst h <;> simp only [Nat.reducePow] <;> omega
  unfold zHas
  rw [e, Nat.testBit_eq_decide_div_mod_eq]
  simp only [decide_eq_true_eq]
  omega
theorem zRow_bit {r u v : Nat} (hv : v < 8) : (zRow r u).testBit v = r.testBit (8 * u + v) := by
  have h := zHas_bit (r := r) (u := u) hv
  unfold zHas at h
  rw [Nat.testBit_eq_decide_div_mod_eq]
  cases hb : r.testBit (8 * u + v) with
  | true => simp only [decide_eq_true_eq]; have := h.mpr hb; omega
  | false =>
    simp only [decide_eq_false_iff_not]
    intro q
    rw [h.mp (by omega)] at hb; cases hb
theorem zWr_has {r u x u2 v : Nat} (hx : x < 256) (hv : v < 8) : zHas (zWr r u x) u2 v ↔ zHas r u2 v ∨ (u2 = u ∧ x.testBit v = true) := by
  rw [zHas_bit hv, zHas_bit hv]
  unfold zWr
  rw [Nat.testBit_or, Bool.or_eq_true, Nat.mul_comm x, Nat.testBit_two_pow_mul]
  simp only [Bool.and_eq_true, decide_eq_true_eq]
  constructor
  · rintro (h | ⟨h1, h2⟩)
    · exact Or.inl h
    · right
      have hlt : 8 * u2 + v - 8 * u < 8 := by
        rcases Nat.lt_or_ge (8 * u2 + v - 8 * u) 8 with q | q
        · exact q
        · rw [Nat.testBit_lt_two_pow (Nat.lt_of_lt_of_le hx (show 256 ≤ 2 ^ (8 * u2 + v - 8 * u) from Nat.le_trans (by decide) (Nat.pow_le_pow_right (by decide) q)))] at h2
          cases h2
      have e : u2 = u := by omega
      subst e
      exact ⟨rfl, by rw [show 8 * u2 + v - 8 * u2 = v by omega] at h2; exact h2⟩
  · rintro (h | ⟨h1, h2⟩)
    · exact Or.inl h
    · subst h1
      exact Or.inr ⟨by omega, by rw [show 8 * u2 + v - 8 * u2 = v by omega]; exact h2⟩
theorem zWr_row {r u n u2 v : Nat} (hv : v < 8) : zHas (zWr r u (zRow r n)) u2 v ↔ zHas r u2 v ∨ (u2 = u ∧ zHas r n v) := by
  rw [zWr_has (zRow_lt r n) hv, zRow_bit hv, zHas_bit (u := n) hv]
theorem z2_bit {a v : Nat} : (2 ^ a).testBit v = true ↔ a = v := by
  rw [Nat.testBit_two_pow]; simp
theorem zId_has {V : Nat} (hV : V ≤ 8) {u v : Nat} (hv : v < 8) : zHas (zId V) u v ↔ u = v ∧ u < V := by
  have key : ∀ n, n ≤ 8 → (zHas (zIt zIdF n 0) u v ↔ u = v ∧ u < n) := by
    intro n
    induction n with
    | zero =>
      intro _
      rw [zHas_bit hv]
      show Nat.testBit 0 _ = true ↔ _
      rw [Nat.zero_testBit]
      constructor
      · intro h; cases h
      · intro h; omega
    | succ n ih =>
      intro hn
      show zHas (zWr (zIt zIdF n 0) n (2 ^ n)) u v ↔ _
      rw [zWr_has (z2p n (by omega)) hv, ih (by omega), z2_bit]
      omega
  exact key V hV
theorem zCl_up {s t lb : Nat → Nat} {j c r u v : Nat} (hv : v < 8) (h : zHas r u v) : zHas (zCl s t lb j c r) u v := by
  unfold zCl; split
  · exact (zWr_row hv).mpr (Or.inl h)
  · exact h
theorem zIt_upB {g : Nat → Nat → Nat} {u v : Nat} (h : ∀ i r, zHas r u v → zHas (g i r) u v) : ∀ n r, zHas r u v → zHas (zIt g n r) u v
  | 0, _, hr => hr
  | n + 1, r, hr => h n _ (zIt_upB h n r hr)
theorem zPb_up {s t lb : Nat → Nat} {k j r u v : Nat} (hv : v < 8) (h : zHas r u v) : zHas (zPb s t lb k j r) u v := by
  unfold zPb; split
  · exact (zWr_row hv).mpr (Or.inl h)
  · split
    · exact zIt_upB (fun _ _ h => zCl_up hv h) k r h
    · exact h
theorem zBp_has {s t lb : Nat → Nat} {k V : Nat} (hE : ∀ i, i < k → s i < V ∧ t i < V) (hV : V ≤ 8) {u v : Nat} (hu : u < 8) (hv : v < 8) : zHas (zBp s t lb k V) u v ↔ u < V ∧ v < V ∧ ∃ n, Pth s t lb k n u v := by
  constructor
  · have hsnd : ∀ u v, u < 8 → v < 8 → zHas (zBp s t lb k V) u v → u < V ∧ v < V ∧ ∃ n, Pth s t lb k n u v := by
      have hP : ∀ (P : Nat → Prop), (∀ r, P r ↔ ∀ u v, u < 8 → v < 8 → zHas r u v → u < V ∧ v < V ∧ ∃ n, Pth s t lb k n u v) → P (zBp s t lb k V) := by
        intro P hPd
        unfold zBp
        refine zIt_inv (m := 65) (P := P) (fun i q _ h => ?_) 65 (Nat.le_refl _) _ ?_
        · unfold zRd
          refine zIt_inv (f := zPb s t lb k) (m := k) (P := P) (fun j r hj h => ?_) k (Nat.le_refl k) _ h
          have hsj := (hE j hj).1
          have htj := (hE j hj).2
          rw [hPd] at h ⊢
          unfold zPb
          split
          · rename_i hl
            intro a b ha hb hab
            rcases (zWr_row hb).mp hab with h1 | ⟨h1, h2⟩
            · exact h a b ha hb h1
            · subst h1
              obtain ⟨-, g2, n, g3⟩ := h (t j) b (by omega) hb h2
              exact ⟨hsj, g2, n + 1, Pth_c.2.1 j n b hj hl g3⟩
          · split
            · rename_i hb3
              have := zIt_inv (f := zCl s t lb j) (m := k) (P := P) (fun c r hc h => by
                rw [hPd] at h ⊢
                unfold zCl
                split
                · rename_i hy
                  intro a b ha hb hab
                  have hsc := (hE c hc).1
                  have htc := (hE c hc).2
                  rcases (zWr_row hb).mp hab with h1 | ⟨h1, h2⟩
                  · exact h a b ha hb h1
                  · subst h1
                    obtain ⟨-, -, n1, g1⟩ := h (t j) (s c) (by omega) (by omega) hy.2
                    obtain ⟨-, g2, n, g3⟩ := h (t c) b (by omega) hb h2
                    exact ⟨hsj, g2, _, Pth_c.2.2 j c n1 n b hj hc hb3.1 hb3.2 hy.1 g1 g3⟩
                · exact h) k (Nat.le_refl k) r ((hPd r).mpr h)
              exact (hPd _).mp this
            · exact h
        · rw [hPd]
          intro a b ha hb hab
          obtain ⟨h1, h2⟩ := (zId_has hV hb).mp hab
          subst h1
          exact ⟨h2, h2, 0, Pth_c.1 a⟩
      exact (hP _ (fun r => Iff.rfl))
    exact hsnd u v hu hv
  · rintro ⟨hu2, hv2, n0, hp0⟩
    obtain ⟨n, hd⟩ := isD_ex hp0
    have h := relax hE hV (zPb s t lb k) (fun r u v _ => v < 8 → zHas r u v)
      (fun i a u v n _ h hv => zPb_up hv (h hv))
      (fun i a v n hi hv hl h hv8 => by
        unfold zPb; rw [if_pos hl]
        exact (zWr_row hv8).mpr (Or.inr ⟨rfl, h hv8⟩))
      (fun i j a v n m hi hj hv h1 h2 h3 hp hq hv8 => by
        have hsj := (hE j hj).1
        unfold zPb; rw [if_neg (by omega), if_pos ⟨h1, h2⟩]
        have hgo : ∀ m, j < m → zHas (zIt (zCl s t lb i) m a) (s i) v := by
          intro m
          induction m with
          | zero => intro h; exact absurd h (Nat.not_lt_zero _)
          | succ m ih =>
            intro hm
            by_cases hjm : j = m
            · subst hjm
              show zHas (zCl s t lb i j (zIt (zCl s t lb i) j a)) (s i) v
              have g1 : zHas (zIt (zCl s t lb i) j a) (t i) (s j) := zIt_upB (fun _ _ h => zCl_up (by omega) h) j a (hp (by omega))
              have g2 : zHas (zIt (zCl s t lb i) j a) (t j) v := zIt_upB (fun _ _ h => zCl_up hv8 h) j a (hq hv8)
              unfold zCl at g1 g2 ⊢
              rw [if_pos ⟨h3, g1⟩]
              exact (zWr_row hv8).mpr (Or.inr ⟨rfl, g2⟩)
            · exact zCl_up hv8 (ih (by omega))
        exact hgo k hj)
      (zId V) (fun u hu hv => (zId_has hV hv).mpr ⟨rfl, hu⟩) 65 u v n hu2 hv2 hd (by have := rk_le hd hu hv; omega)
    exact h hv
