/-! the two worlds of a run, and what holds between them -/
abbrev zQA : Type := Nat × Nat × Nat × Nat
abbrev zCS : Type := (Nat × Int64) × zQ4 × zQ4 × zQ4 × ((Nat → Nat) × Nat) × (Nat × Nat) × (Nat → zQ4) × (Nat → zQ4) × (Nat → Nat) × ((Nat → Nat) × Nat) × zQ4
abbrev zMS : Type := (Nat × Nat × Nat × Int32 × Nat × Nat × Nat × Int64) × (Nat → Nat) × (Nat → Nat) × (Nat → Nat) × (Nat → Nat) × (Nat → Nat) × (Nat → Nat) × (Nat → Nat) × (Nat → Nat) × (Nat → Nat) × (Nat → Nat) × (Nat → Nat) × (Nat → Nat) × (Nat → Nat)
abbrev zXS : Type := (Nat × Nat × Int32) × (Nat → Nat) × (Nat → Nat) × (Nat → Nat) × (Nat → Nat) × (Nat → Nat) × (Nat → Nat) × (Nat → Nat) × (Nat → Nat)
/-- the cells of one row of edges -/
def zEd (G : zG) (a : zQA) (n : Nat) (q : zQ4) : va_W := [(a.1, .inr (1, [.ref a.2.1, .ref a.2.2.1, .ref a.2.2.2, .int (nI q.2.2.2)])), zA G a.2.1 n q.1, zA G a.2.2.1 n q.2.1, zA G a.2.2.2 n q.2.2.1]
/-- the class's cells but the remembered and the saved rows -/
def CX (G : zG) (A : Nat → Nat) (fr fsl : Nat → Option Nat) (c : zCS) : va_W :=
  [(A 0, .inr (5, [.int (nI c.1.1), .long c.1.2, .ref (A 1), .ref (A 2), .ref (A 3), .ref (A 4), .ref (A 5), .ref (A 6), .ref (A 7), .ref (A 8), .ref (A 9)])),
   (A 1, .inr (1, [.ref (A 10), .ref (A 11), .ref (A 12), .int (nI c.2.1.2.2.2)])), zA G (A 10) 16 c.2.1.1, zA G (A 11) 16 c.2.1.2.1, zA G (A 12) 16 c.2.1.2.2.1,
   (A 2, .inr (1, [.ref (A 13), .ref (A 14), .ref (A 15), .int (nI c.2.2.1.2.2.2)])), zA G (A 13) 16 c.2.2.1.1, zA G (A 14) 16 c.2.2.1.2.1, zA G (A 15) 16 c.2.2.1.2.2.1,
   (A 3, .inr (1, [.ref (A 16), .ref (A 17), .ref (A 18), .int (nI c.2.2.2.1.2.2.2)])), zA G (A 16) 32 c.2.2.2.1.1, zA G (A 17) 32 c.2.2.2.1.2.1, zA G (A 18) 32 c.2.2.2.1.2.2.1,
   (A 4, .inr (0, [.ref (A 19), .int (nI c.2.2.2.2.1.2)])), zA G (A 19) 64 c.2.2.2.2.1.1,
   (A 5, .inr (3, [.ref (A 20), .int (nI c.2.2.2.2.2.1.1), .int (nI c.2.2.2.2.2.1.2)])), zR G (A 20) 14 fr,
   zR G (A 6) 2 fsl, zB G (A 7) 2 c.2.2.2.2.2.2.2.2.1,
   (A 8, .inr (2, [.ref (A 21), .int (nI c.2.2.2.2.2.2.2.2.2.1.2)])), zA G (A 21) 60 c.2.2.2.2.2.2.2.2.2.1.1,
   (A 9, .inr (4, [.ref (A 22), .ref (A 23), .ref (A 24), .int (nI c.2.2.2.2.2.2.2.2.2.2.2.2.2)])), zA G (A 22) 6 c.2.2.2.2.2.2.2.2.2.2.1, zA G (A 23) 6 c.2.2.2.2.2.2.2.2.2.2.2.1, zA G (A 24) 6 c.2.2.2.2.2.2.2.2.2.2.2.2.1]
def CH (G : zG) (ha : Nat → zQA) (hq : Nat → zQ4) : va_W := fl (fun i => zEd G (ha i) 16 (hq i)) 14
def CL (G : zG) (sa : Nat → zQA) (sq : Nat → zQ4) : va_W := fl (fun i => zEd G (sa i) 16 (sq i)) 2
def CW (G : zG) (A : Nat → Nat) (fr fsl : Nat → Option Nat) (ha sa : Nat → zQA) (c : zCS) : va_W := CX G A fr fsl c ++ (CH G ha c.2.2.2.2.2.2.1 ++ CL G sa c.2.2.2.2.2.2.2.1)
/-- the reference's cells -/
def RX (G : zG) (B : Nat → Nat) (r : zMS) : va_W :=
  [(B 0, .inr (6, [.int (nI r.1.1), .ref (B 1), .int (nI r.1.2.1), .int (nI r.1.2.2.1), .int r.1.2.2.2.1, .ref (B 2), .int (nI r.1.2.2.2.2.1), .ref (B 3), .ref (B 4), .ref (B 5), .int (nI r.1.2.2.2.2.2.1), .ref (B 6), .ref (B 7), .int (nI r.1.2.2.2.2.2.2.1), .ref (B 8), .ref (B 9), .ref (B 10), .long r.1.2.2.2.2.2.2.2, .ref (B 11), .ref (B 12), .ref (B 13)])),
   zA G (B 1) 60 r.2.1, zA G (B 2) 49 r.2.2.1, zA G (B 3) 49 r.2.2.2.1, zA G (B 4) 49 r.2.2.2.2.1, zA G (B 5) 686 r.2.2.2.2.2.1, zA G (B 6) 98 r.2.2.2.2.2.2.1, zB G (B 7) 2 r.2.2.2.2.2.2.2.1,
   zA G (B 8) 6 r.2.2.2.2.2.2.2.2.1, zA G (B 9) 6 r.2.2.2.2.2.2.2.2.2.1, zA G (B 10) 6 r.2.2.2.2.2.2.2.2.2.2.1, zA G (B 11) 64 r.2.2.2.2.2.2.2.2.2.2.2.1, zA G (B 12) 64 r.2.2.2.2.2.2.2.2.2.2.2.2.1, zA G (B 13) 96 r.2.2.2.2.2.2.2.2.2.2.2.2.2]
def RW (G : zG) (B : Nat → Nat) (r : zMS) : va_W := RX G B r ++ []
/-- the reference's state beside the class's -/
def rO (c : zCS) (x : zXS) : zMS := ((x.1.1, c.2.2.2.2.2.2.2.2.2.1.2, x.1.2.1, x.1.2.2, c.1.1, c.2.2.2.2.2.1.2, c.2.2.2.2.2.2.2.2.2.2.2.2.2, c.1.2), c.2.2.2.2.2.2.2.2.2.1.1, x.2.1, x.2.2.1, x.2.2.2.1, x.2.2.2.2.1, x.2.2.2.2.2.1, c.2.2.2.2.2.2.2.2.1, c.2.2.2.2.2.2.2.2.2.2.1, c.2.2.2.2.2.2.2.2.2.2.2.1, c.2.2.2.2.2.2.2.2.2.2.2.2.1, x.2.2.2.2.2.2.1, x.2.2.2.2.2.2.2.1, x.2.2.2.2.2.2.2.2)
/-- a block out of many holds a row of edges -/
def HB (hh : Nat → Nat) (b : Nat) (q : zQ4) (V : Nat) : Prop := Blk (zBk hh b) q.1 q.2.1 q.2.2.1 q.2.2.2 ∧ (∀ i, 1 ≤ i → i < 49 → hh (b + i) < 8) ∧ q.2.2.2 ≤ 16 ∧ ∀ i, i < q.2.2.2 → q.1 i < V ∧ q.2.1 i < V ∧ q.2.2.1 i < 7
def JIv (V : Nat) (s t lb : Nat → Nat) (k : Nat) (qc : zQ4) (sw tw lw : Nat → Nat) (f : Nat → Nat) (nx sz : Nat) (hq sq : Nat → zQ4) (sfl g : Nat → Nat) (n : Nat) (os oe oa : Nat → Nat) (nn : Nat) (pg g9 hh ss F fd wd : Nat → Nat) : Prop :=
  ((1 ≤ V ∧ V ≤ 8) ∧ ((∀ i, s i < 8) ∧ (∀ i, t i < 8) ∧ (∀ i, lb i < 7) ∧ k ≤ 16 ∧ ∀ i, i < k → s i < V ∧ t i < V) ∧ zQ4ok qc ∧ ((∀ i, sw i < 8) ∧ (∀ i, tw i < 8) ∧ ∀ i, lw i < 7) ∧ zT9 f ∧ nx < 14 ∧ sz ≤ 14) ∧
  ((∀ i, sfl i < 2) ∧ (∀ i, g i < 256) ∧ n ≤ 60 ∧ (∀ i, os i < 8) ∧ (∀ i, oe i < 8) ∧ (∀ i, oa i < 2) ∧ nn ≤ 6) ∧
  (Blk g9 s t lb k ∧ (∀ i, 1 ≤ i → g9 i < 8) ∧ (∀ i, 1 ≤ i → pg i < 8) ∧ zL2 F ∧ zL2 fd ∧ (∀ i, wd i < 8)) ∧
  (∀ j, j < sz → HB hh (49 * j) (hq ((nx + 14 - sz + j) % 14)) V) ∧ ∀ j, j < 2 → ¬ sfl j = 0 → HB ss (49 * j) (sq j) V
def JI (c : zCS) (x : zXS) : Prop := JIv c.1.1 c.2.1.1 c.2.1.2.1 c.2.1.2.2.1 c.2.1.2.2.2 c.2.2.1 c.2.2.2.1.1 c.2.2.2.1.2.1 c.2.2.2.1.2.2.1 c.2.2.2.2.1.1 c.2.2.2.2.2.1.1 c.2.2.2.2.2.1.2 c.2.2.2.2.2.2.1 c.2.2.2.2.2.2.2.1 c.2.2.2.2.2.2.2.2.1 c.2.2.2.2.2.2.2.2.2.1.1 c.2.2.2.2.2.2.2.2.2.1.2 c.2.2.2.2.2.2.2.2.2.2.1 c.2.2.2.2.2.2.2.2.2.2.2.1 c.2.2.2.2.2.2.2.2.2.2.2.2.1 c.2.2.2.2.2.2.2.2.2.2.2.2.2 x.2.1 x.2.2.1 x.2.2.2.2.1 x.2.2.2.2.2.1 x.2.2.2.2.2.2.1 x.2.2.2.2.2.2.2.1 x.2.2.2.2.2.2.2.2
def LI (c : zCS) (r : zMS) : Prop := ∃ x : zXS, r = rO c x ∧ JI c x
/-- one call on both: the same answer, and what holds between them holds again -/
def Bth (l : Launch) (G : zG) (A : Nat → Nat) (fr fsl : Nat → Option Nat) (ha sa : Nat → zQA) (B : Nat → Nat) (yC : MethodName) (wC : List Cond) (yM : MethodName) (wM : List Cond) (av : List Value) (c : zCS) (r : zMS) : Prop :=
  ∃ (a : Int32) (okC : zCS → Prop) (okM : zMS → Prop), MX zCS l yC wC RU G (.ref (A 0) :: av) (CW G A fr fsl ha sa c) a (CW G A fr fsl ha sa) okC ∧ MX zMS l yM wM RU G (.ref (B 0) :: av) (RW G B r) a (RW G B) okM ∧ ∀ c' r', okC c' → okM r' → LI c' r'
def BthL (l : Launch) (G : zG) (A : Nat → Nat) (fr fsl : Nat → Option Nat) (ha sa : Nat → zQA) (B : Nat → Nat) (yC : MethodName) (wC : List Cond) (yM : MethodName) (wM : List Cond) (av : List Value) (c : zCS) (r : zMS) : Prop :=
  ∃ (a : Int64) (okC : zCS → Prop) (okM : zMS → Prop), MLX zCS l yC wC RU G (.ref (A 0) :: av) (CW G A fr fsl ha sa c) a (CW G A fr fsl ha sa) okC ∧ MLX zMS l yM wM RU G (.ref (B 0) :: av) (RW G B r) a (RW G B) okM ∧ ∀ c' r', okC c' → okM r' → LI c' r'
theorem MX.re {l : Launch} {y : MethodName} {ws : List Cond} {rm : Room} {G : zG} {av : List Value} {w : va_W} {r : Int32} {S S' : Type} {w2 : S → va_W} {w3 : S' → va_W} {ok : S → Prop} {ok' : S' → Prop} (hM : MX S l y ws rm G av w r w2 ok) (f : S → S') (hf : ∀ u, ok u → ok' (f u) ∧ (∀ H, va_P G.1 vwCl (w2 u) H → va_P G.1 vwCl (w3 (f u)) H) ∧ ∀ A, va_D A (w2 u) → va_D A (w3 (f u))) : MX S' l y ws rm G av w r w3 ok' := by
  intro sz
  refine (hM sz).to ⟨Nat.le_refl _, Nat.le_refl _, Nat.le_refl _, Nat.le_refl _⟩ (fun a s h => h) (fun a s o t h hq => ?_) (fun q hq => hq)
  obtain ⟨⟨x, u, e1, ⟨e2, e3⟩, b1, b2, b3⟩, hF⟩ := hq
  obtain ⟨f1, f2, f3⟩ := hf u e3
  exact ⟨⟨x, f u, e1, ⟨e2, f1⟩, f2 _ b1, b2, f3 _ b3⟩, hF⟩
/-- only the first n count -/
def zN (n : Nat) (g : Nat → Nat) : Nat → Nat := fun i => if i < n then g i else 0
theorem zN_lt {n i : Nat} {g : Nat → Nat} (h : i < n) : zN n g i = g i := by unfold zN; rw [if_pos h]
theorem zA_at {G : zG} {a n : Nat} {f f' : Nat → Nat} {H : Heap} (h : ∀ i, i < n → f i = f' i) (h0 : va_at G.1 vwCl (zA G a n f) H) : va_at G.1 vwCl (zA G a n f') H := by
  have h0 : H[a]? = some (vp_cell G.2.1.1 (n, .inl (zF f))) := h0
  show H[a]? = some (vp_cell G.2.1.1 (n, .inl (zF f')))
  rw [h0, vp_cell_i, vp_cell_i]
  have e : (Array.ofFn (n := n) fun j => Value.int (zF f j.val)) = (Array.ofFn (n := n) fun j => Value.int (zF f' j.val)) := by
    congr 1
    funext j
    show Value.int (nI (f j.val)) = Value.int (nI (f' j.val))
    rw [h j.val j.isLt]
  simp only [arrV, e]
theorem RW_P {G : zG} {B : Nat → Nat} {X1 X2 : va_W} {a n : Nat} {f f' : Nat → Nat} {H : Heap} (h : ∀ i, i < n → f i = f' i) (hP : va_P G.1 vwCl (X1 ++ zA G a n f :: X2) H) : va_P G.1 vwCl (X1 ++ zA G a n f' :: X2) H := by
  rw [va_P_iff] at hP ⊢
  intro q hq
  rcases List.mem_append.mp hq with h1 | h1
  · exact hP q (List.mem_append_left _ h1)
  · rcases List.mem_cons.mp h1 with h2 | h2
    · subst h2
      exact zA_at h (hP _ (List.mem_append_right _ List.mem_cons_self))
    · exact hP q (List.mem_append_right _ (List.mem_cons_of_mem _ h2))
theorem RW_D {G : zG} {A : Nat → Prop} {X1 X2 : va_W} {a n : Nat} {f f' : Nat → Nat} (hD : va_D A (X1 ++ zA G a n f :: X2)) : va_D A (X1 ++ zA G a n f' :: X2) := by
  rw [va_D_iff] at hD ⊢
  obtain ⟨d1, d2⟩ := hD
  obtain ⟨e1, e2, e3⟩ := List.pairwise_append.mp d1
  obtain ⟨f1, f2⟩ := List.pairwise_cons.mp e2
  refine ⟨List.pairwise_append.mpr ⟨e1, List.pairwise_cons.mpr ⟨fun q hq => f1 q hq, f2⟩, fun x hx q hq => ?_⟩, fun q hq => ?_⟩
  · rcases List.mem_cons.mp hq with h2 | h2
    · subst h2; exact e3 x hx (zA G a n f) List.mem_cons_self
    · exact e3 x hx q (List.mem_cons_of_mem _ h2)
  · rcases List.mem_append.mp hq with h1 | h1
    · exact d2 q (List.mem_append_left _ h1)
    · rcases List.mem_cons.mp h1 with h2 | h2
      · subst h2; exact d2 (zA G a n f) (List.mem_append_right _ List.mem_cons_self)
      · exact d2 q (List.mem_append_right _ (List.mem_cons_of_mem _ h2))
/-! remembering, in both forms -/
theorem zTk_lo {s s2 : Nat → Nat} {n i : Nat} (h : i < n) : zTk s s2 n i = s2 i := by unfold zTk; rw [if_pos h]
theorem zTk_b {s s2 : Nat → Nat} {n B : Nat} (h1 : ∀ i, s i < B) (h2 : ∀ i, i < n → s2 i < B) : ∀ i, zTk s s2 n i < B := by
  intro i; unfold zTk; split
  · rename_i h; exact h2 i h
  · exact h1 i
theorem zU_b {s : Nat → Nat} {j x B : Nat} (h1 : ∀ i, s i < B) (hx : x < B) : ∀ i, zU s j x i < B := zU_lt h1 hx
theorem HB_new {g9 s t lb s0 t0 l0 hh : Nat → Nat} {k V b : Nat} (hB : Blk g9 s t lb k) (hg8 : ∀ i, 1 ≤ i → g9 i < 8) (hk : k ≤ 16) (hE : ∀ i, i < k → s i < V ∧ t i < V) (hlb : ∀ i, lb i < 7) (hn : ∀ i, i < 49 → hh (b + i) = g9 i) : HB hh b (zTk s0 s k, zTk t0 t k, zTk l0 lb k, k) V := by
  refine ⟨Blk_cong (Blk_cg hB hk (fun i hi => hn i hi)) (fun i hi => ⟨zTk_lo hi, zTk_lo hi, zTk_lo hi⟩), fun i h1 h2 => ?_, hk, fun i hi => ?_⟩
  · rw [hn i h2]; exact hg8 i h1
  · have hi : i < k := hi
    show zTk s0 s k i < V ∧ zTk t0 t k i < V ∧ zTk l0 lb k i < 7
    rw [zTk_lo hi, zTk_lo hi, zTk_lo hi]
    exact ⟨(hE i hi).1, (hE i hi).2, hlb i⟩
theorem HB_old {hh hh' : Nat → Nat} {b b' V : Nat} {q : zQ4} (h : HB hh b q V) (hn : ∀ i, i < 49 → hh' (b' + i) = hh (b + i)) : HB hh' b' q V := by
  obtain ⟨h1, h2, h3, h4⟩ := h
  refine ⟨Blk_cg h1 h3 (fun i hi => hn i hi), fun i a1 a2 => ?_, h3, h4⟩
  rw [hn i a2]; exact h2 i a1 a2
def hqU (hq : Nat → zQ4) (j : Nat) (q : zQ4) : Nat → zQ4 := fun i => if i = j then q else hq i
theorem hqU_same (hq : Nat → zQ4) (j : Nat) (q : zQ4) : hqU hq j q j = q := by unfold hqU; rw [if_pos rfl]
theorem hqU_ne {hq : Nat → zQ4} {j i : Nat} {q : zQ4} (h : i ≠ j) : hqU hq j q i = hq i := by unfold hqU; rw [if_neg h]
theorem mRemN_min {rm : Nat} (h : rm ≤ 14) : mRemN rm = min (rm + 1) 14 := by unfold mRemN; split <;> omega
theorem HR_add {g9 s t lb hh : Nat → Nat} {k V nx sz : Nat} {hq : Nat → zQ4} (hB : Blk g9 s t lb k) (hg8 : ∀ i, 1 ≤ i → g9 i < 8) (hk : k ≤ 16) (hE : ∀ i, i < k → s i < V ∧ t i < V) (hlb : ∀ i, lb i < 7) (hnx : nx < 14) (hsz : sz ≤ 14) (hH : ∀ j, j < sz → HB hh (49 * j) (hq ((nx + 14 - sz + j) % 14)) V) (s0 t0 l0 : Nat → Nat) :
    ∀ j, j < min (sz + 1) 14 → HB (mRemH hh g9 sz) (49 * j) (hqU hq nx (zTk s0 s k, zTk t0 t k, zTk l0 lb k, k) ((zNx nx + 14 - min (sz + 1) 14 + j) % 14)) V := by
  intro j hj
  have hzn : zNx nx = nx + 1 ∨ (zNx nx = 0 ∧ nx = 13) := by unfold zNx; split <;> omega
  have hrn := mRemN_min hsz
  by_cases hl : j + 1 < min (sz + 1) 14
  · rw [hqU_ne (by omega)]
    by_cases h14 : sz = 14
    · have h2 := hH (j + 1) (by omega)
      rw [show (zNx nx + 14 - min (sz + 1) 14 + j) % 14 = (nx + 14 - sz + (j + 1)) % 14 by omega]
      refine HB_old h2 (fun i hi => ?_)
      rw [mRem_old hsz hi (by omega), if_pos h14]
    · have h2 := hH j (by omega)
      rw [show (zNx nx + 14 - min (sz + 1) 14 + j) % 14 = (nx + 14 - sz + j) % 14 by omega]
      refine HB_old h2 (fun i hi => ?_)
      rw [mRem_old hsz hi (by omega), if_neg h14]
  · rw [show (zNx nx + 14 - min (sz + 1) 14 + j) % 14 = nx by omega, hqU_same]
    refine HB_new hB hg8 hk hE hlb (fun i hi => ?_)
    have h3 := mRem_new (hh := hh) (g := g9) hsz hi
    rw [show 49 * (mRemN sz - 1) = 49 * j by omega] at h3
    exact h3
theorem zNx_lt {n : Nat} (h : n < 14) : zNx n < 14 := by unfold zNx; split <;> omega
theorem zPv_lt {n : Nat} (h : n < 14) : zPv n < 14 := by unfold zPv; split <;> omega
theorem HR_top {nx sz : Nat} (hnx : nx < 14) (hsz : sz ≤ 14) (h : 0 < sz) : (nx + 14 - sz + (sz - 1)) % 14 = zPv nx := by unfold zPv; split <;> omega
theorem HR_pop {hh : Nat → Nat} {V nx sz : Nat} {hq : Nat → zQ4} (hnx : nx < 14) (hsz : sz ≤ 14) (h : 0 < sz) (hH : ∀ j, j < sz → HB hh (49 * j) (hq ((nx + 14 - sz + j) % 14)) V) : ∀ j, j < sz - 1 → HB hh (49 * j) (hq ((zPv nx + 14 - (sz - 1) + j) % 14)) V := by
  intro j hj
  have hzp : (zPv nx + 1 = nx) ∨ (zPv nx = 13 ∧ nx = 0) := by unfold zPv; split <;> omega
  rw [show (zPv nx + 14 - (sz - 1) + j) % 14 = (nx + 14 - sz + j) % 14 by omega]
  exact hH j (by omega)
theorem HB_use {hh : Nat → Nat} {b V : Nat} {q : zQ4} (h : HB hh b q V) : Blk (zN 49 (zBk hh b)) q.1 q.2.1 q.2.2.1 q.2.2.2 ∧ (∀ i, 1 ≤ i → zN 49 (zBk hh b) i < 8) := by
  obtain ⟨h1, h2, h3, h4⟩ := h
  refine ⟨Blk_cg h1 h3 (fun i hi => zN_lt hi), fun i hi => ?_⟩
  unfold zN
  split
  · rename_i h; exact h2 i hi h
  · omega
/-! one remembered row beside the rest -/
theorem CW_h (G : zG) (ha sa : Nat → zQA) (X : va_W) (hq sq : Nat → zQ4) {i : Nat} (hi : i < 14) : (X ++ (CH G ha hq ++ CL G sa sq)).Perm ((X ++ zEd G (ha i) 16 (hq i)) ++ (fl (flx (fun i => zEd G (ha i) 16 (hq i)) i) 14 ++ CL G sa sq)) := by
  unfold CH
  rw [List.append_assoc]
  refine List.Perm.append_left _ ?_
  rw [← List.append_assoc]
  exact List.Perm.append_right _ (fl_pick 14 hi)
theorem CW_s (G : zG) (ha sa : Nat → zQA) (X : va_W) (hq sq : Nat → zQ4) {i : Nat} (hi : i < 2) : (X ++ (CH G ha hq ++ CL G sa sq)).Perm ((X ++ zEd G (sa i) 16 (sq i)) ++ (fl (flx (fun i => zEd G (sa i) 16 (sq i)) i) 2 ++ CH G ha hq)) := by
  unfold CL
  rw [List.append_assoc]
  refine List.Perm.append_left _ ?_
  refine List.perm_append_comm.trans ?_
  rw [← List.append_assoc]
  exact List.Perm.append_right _ (fl_pick 2 hi)
theorem CW_hU (G : zG) (ha sa : Nat → zQA) (X : va_W) (hq sq : Nat → zQ4) {i : Nat} (q : zQ4) (hi : i < 14) : (X ++ (CH G ha (hqU hq i q) ++ CL G sa sq)).Perm ((X ++ zEd G (ha i) 16 q) ++ (fl (flx (fun i => zEd G (ha i) 16 (hq i)) i) 14 ++ CL G sa sq)) := by
  have h := CW_h G ha sa X (hqU hq i q) sq hi
  rw [hqU_same, flx_up (F := fun i => zEd G (ha i) 16 (hq i)) (fun j hj => by show zEd G (ha j) 16 (hqU hq i q j) = _; rw [hqU_ne hj])] at h
  exact h
theorem CW_sU (G : zG) (ha sa : Nat → zQA) (X : va_W) (hq sq : Nat → zQ4) {i : Nat} (q : zQ4) (hi : i < 2) : (X ++ (CH G ha hq ++ CL G sa (hqU sq i q))).Perm ((X ++ zEd G (sa i) 16 q) ++ (fl (flx (fun i => zEd G (sa i) 16 (sq i)) i) 2 ++ CH G ha hq)) := by
  have h := CW_s G ha sa X hq (hqU sq i q) hi
  rw [hqU_same, flx_up (F := fun i => zEd G (sa i) 16 (sq i)) (fun j hj => by show zEd G (sa j) 16 (hqU sq i q j) = _; rw [hqU_ne hj])] at h
  exact h
theorem JIv_mk {V : Nat} {s t lb : Nat → Nat} {k : Nat} {qc : zQ4} {sw tw lw : Nat → Nat} {f : Nat → Nat} {nx sz : Nat} {hq sq : Nat → zQ4} {sfl g : Nat → Nat} {n : Nat} {os oe oa : Nat → Nat} {nn : Nat} {pg g9 hh ss F fd wd : Nat → Nat} (hV1 : 1 ≤ V) (hV : V ≤ 8) (hbs : ∀ i, s i < 8) (hbt : ∀ i, t i < 8) (hlb : ∀ i, lb i < 7) (hk : k ≤ 16) (hE : ∀ i, i < k → s i < V ∧ t i < V) (hqc : zQ4ok qc) (hws : ∀ i, sw i < 8) (hwt : ∀ i, tw i < 8) (hwl : ∀ i, lw i < 7) (hf : zT9 f) (hnx : nx < 14) (hsz : sz ≤ 14) (hsf : ∀ i, sfl i < 2) (hgt : ∀ i, g i < 256) (hn60 : n ≤ 60) (hos : ∀ i, os i < 8) (hoe : ∀ i, oe i < 8) (hoa : ∀ i, oa i < 2) (hnn : nn ≤ 6) (hB : Blk g9 s t lb k) (hg8 : ∀ i, 1 ≤ i → g9 i < 8) (hpg : ∀ i, 1 ≤ i → pg i < 8) (hL : zL2 F) (hD2 : zL2 fd) (hw8 : ∀ i, wd i < 8) (hH : ∀ j, j < sz → HB hh (49 * j) (hq ((nx + 14 - sz + j) % 14)) V) (hS : ∀ j, j < 2 → ¬ sfl j = 0 → HB ss (49 * j) (sq j) V) : JIv V s t lb k qc sw tw lw f nx sz hq sq sfl g n os oe oa nn pg g9 hh ss F fd wd :=
  And.intro ⟨⟨hV1, hV⟩, ⟨hbs, hbt, hlb, hk, hE⟩, hqc, ⟨hws, hwt, hwl⟩, hf, hnx, hsz⟩ ⟨⟨hsf, hgt, hn60, hos, hoe, hoa, hnn⟩, ⟨hB, hg8, hpg, hL, hD2, hw8⟩, hH, hS⟩
theorem MX.an {l : Launch} {y : MethodName} {ws : List Cond} {rm : Room} {G : zG} {av : List Value} {w : va_W} {r r' : Int32} {S : Type} {w2 : S → va_W} {ok : S → Prop} (hM : MX S l y ws rm G av w r w2 ok) (e : r' = r) : MX S l y ws rm G av w r' w2 ok := by rw [e]; exact hM
theorem Bth_mk {l : Launch} {G : zG} {A : Nat → Nat} {fr fsl : Nat → Option Nat} {ha sa : Nat → zQA} {B : Nat → Nat} {yC : MethodName} {wC : List Cond} {yM : MethodName} {wM : List Cond} {av : List Value} {c : zCS} {r : zMS} {a : Int32} {okC : zCS → Prop} {okM : zMS → Prop} (hC : MX zCS l yC wC RU G (.ref (A 0) :: av) (CW G A fr fsl ha sa c) a (CW G A fr fsl ha sa) okC) (hM : MX zMS l yM wM RU G (.ref (B 0) :: av) (RW G B r) a (RW G B) okM) (h : ∀ c' r', okC c' → okM r' → LI c' r') : Bth l G A fr fsl ha sa B yC wC yM wM av c r := ⟨a, okC, okM, hC, hM, h⟩
theorem BthL_mk {l : Launch} {G : zG} {A : Nat → Nat} {fr fsl : Nat → Option Nat} {ha sa : Nat → zQA} {B : Nat → Nat} {yC : MethodName} {wC : List Cond} {yM : MethodName} {wM : List Cond} {av : List Value} {c : zCS} {r : zMS} {a : Int64} {okC : zCS → Prop} {okM : zMS → Prop} (hC : MLX zCS l yC wC RU G (.ref (A 0) :: av) (CW G A fr fsl ha sa c) a (CW G A fr fsl ha sa) okC) (hM : MLX zMS l yM wM RU G (.ref (B 0) :: av) (RW G B r) a (RW G B) okM) (h : ∀ c' r', okC c' → okM r' → LI c' r') : BthL l G A fr fsl ha sa B yC wC yM wM av c r := ⟨a, okC, okM, hC, hM, h⟩
