/-! relations as numbers: bit 8u+v; what the methods of Relation answer -/
def zIt {α : Type} (f : Nat → α → α) : Nat → α → α
  | 0, a => a
  | n + 1, a => f n (zIt f n a)
theorem zIt_s {α : Type} (f : Nat → α → α) (n : Nat) (a : α) : zIt f (n + 1) a = f n (zIt f n a) := rfl
theorem zIt_0 {α : Type} (f : Nat → α → α) (a : α) : zIt f 0 a = a := rfl
theorem zIt_inv {α : Type} {f : Nat → α → α} {P : α → Prop} {m : Nat} (hs : ∀ i a, i < m → P a → P (f i a)) : ∀ n, n ≤ m → ∀ a, P a → P (zIt f n a)
  | 0, _, _, h => h
  | n + 1, hn, a, h => hs n _ (by omega) (zIt_inv hs n (by omega) a h)
theorem zIt_fix {α : Type} {g : α → α} {a : α} {i : Nat} (h : g (zIt (fun _ => g) i a) = zIt (fun _ => g) i a) : ∀ m, zIt (fun _ => g) (i + m) a = zIt (fun _ => g) i a
  | 0 => rfl
  | m + 1 => by
    show g (zIt (fun _ => g) (i + m) a) = _
    rw [zIt_fix h m, h]
def zRow (r u : Nat) : Nat := r / 2 ^ (8 * u) % 256
theorem zRow_lt (r u : Nat) : zRow r u < 256 := Nat.mod_lt _ (by decide)
abbrev zHas (r u v : Nat) : Prop := ¬ zRow r u / 2 ^ v % 2 = 0
def zWr (r u x : Nat) : Nat := r ||| x * 2 ^ (8 * u)
theorem z2p : ∀ u, u < 8 → 2 ^ u < 256 := by decide
theorem zWr_lt {r u x : Nat} (hr : r < 18446744073709551616) (hu : u < 8) (hx : x < 256) : zWr r u x < 18446744073709551616 := by
  refine Nat.or_lt_two_pow (n := 64) hr ?_
  have h1 : 2 ^ (8 * u) ≤ 2 ^ 56 := Nat.pow_le_pow_right (by decide) (by omega)
  calc x * 2 ^ (8 * u) ≤ x * 2 ^ 56 := Nat.mul_le_mul_left _ h1
    _ < 2 ^ 64 := by omega
def zIdF (u r : Nat) : Nat := zWr r u (2 ^ u)
def zId (V : Nat) : Nat := zIt zIdF V 0
def zCl (s t lb : Nat → Nat) (j c r : Nat) : Nat := if lb c = lb j + 3 ∧ zHas r (t j) (s c) then zWr r (s j) (zRow r (t c)) else r
def zPb (s t lb : Nat → Nat) (k j r : Nat) : Nat := if lb j = 0 then zWr r (s j) (zRow r (t j)) else if 1 ≤ lb j ∧ lb j ≤ 3 then zIt (zCl s t lb j) k r else r
def zRd (s t lb : Nat → Nat) (k r : Nat) : Nat := zIt (zPb s t lb k) k r
def zBp (s t lb : Nat → Nat) (k V : Nat) : Nat := zIt (fun _ => zRd s t lb k) 65 (zId V)
theorem zIdF_lt {u r : Nat} (hu : u < 8) (hr : r < 18446744073709551616) : zIdF u r < 18446744073709551616 := zWr_lt hr hu (z2p u hu)
theorem zId_lt {V : Nat} (hV : V ≤ 8) : zId V < 18446744073709551616 := zIt_inv (m := 8) (P := fun r => r < 18446744073709551616) (fun i a hi h => zIdF_lt hi h) V hV 0 (by decide)
theorem zCl_lt {s t lb : Nat → Nat} {j c r : Nat} (hs : ∀ i, s i < 8) (hr : r < 18446744073709551616) : zCl s t lb j c r < 18446744073709551616 := by
  unfold zCl
  split
  · exact zWr_lt hr (hs j) (zRow_lt _ _)
  · exact hr
theorem zClI_lt {s t lb : Nat → Nat} {j n r : Nat} (hs : ∀ i, s i < 8) (hr : r < 18446744073709551616) : zIt (zCl s t lb j) n r < 18446744073709551616 := zIt_inv (m := n) (P := fun r => r < 18446744073709551616) (fun i a _ h => zCl_lt hs h) n (Nat.le_refl n) r hr
theorem zPb_lt {s t lb : Nat → Nat} {k j r : Nat} (hs : ∀ i, s i < 8) (hr : r < 18446744073709551616) : zPb s t lb k j r < 18446744073709551616 := by
  unfold zPb
  split
  · exact zWr_lt hr (hs j) (zRow_lt _ _)
  · split
    · exact zClI_lt hs hr
    · exact hr
theorem zPbI_lt {s t lb : Nat → Nat} {k n r : Nat} (hs : ∀ i, s i < 8) (hr : r < 18446744073709551616) : zIt (zPb s t lb k) n r < 18446744073709551616 := zIt_inv (m := n) (P := fun r => r < 18446744073709551616) (fun i a _ h => zPb_lt hs h) n (Nat.le_refl n) r hr
theorem zBpI_lt {s t lb : Nat → Nat} {k n r : Nat} (hs : ∀ i, s i < 8) (hr : r < 18446744073709551616) : zIt (fun _ => zRd s t lb k) n r < 18446744073709551616 := zIt_inv (m := n) (P := fun r => r < 18446744073709551616) (fun i a _ h => zPbI_lt hs h) n (Nat.le_refl n) r hr
theorem zBp_lt {s t lb : Nat → Nat} {k V : Nat} (hs : ∀ i, s i < 8) (hV : V ≤ 8) : zBp s t lb k V < 18446744073709551616 := zBpI_lt hs (zId_lt hV)
theorem zBp_brk {s t lb : Nat → Nat} {k V i j r r2 : Nat} (hr : r = zIt (fun _ => zRd s t lb k) i (zId V)) (hj : j = k) (h2 : r2 = zIt (zPb s t lb k) j r) (he : r2 = r) (hi : i ≤ 65) : r2 = zBp s t lb k V := by
  subst hj
  have h3 : zRd s t lb j (zIt (fun _ => zRd s t lb j) i (zId V)) = zIt (fun _ => zRd s t lb j) i (zId V) := by
    rw [← hr]; unfold zRd; rw [← h2]; exact he
  have h4 := zIt_fix h3 (65 - i)
  rw [show i + (65 - i) = 65 by omega] at h4
  unfold zBp
  rw [h4, ← hr, he]
/-- one level of nesting more -/
def zSbC (s t lb : Nat → Nat) (j r c x : Nat) : Nat := if lb c = lb j + 3 ∧ zHas r (t j) (s c) then x ||| 2 ^ t c else x
def zSb (s t lb : Nat → Nat) (k j r : Nat) : Nat := if lb j = 0 then 2 ^ t j else if 1 ≤ lb j ∧ lb j ≤ 3 then zIt (zSbC s t lb j r) k 0 else 0
theorem zSbC_lt {s t lb : Nat → Nat} {j r c x : Nat} (ht : ∀ i, t i < 8) (hx : x < 256) : zSbC s t lb j r c x < 256 := by
  unfold zSbC
  split
  · exact Nat.or_lt_two_pow (n := 8) hx (z2p _ (ht c))
  · exact hx
theorem zSbI_lt {s t lb : Nat → Nat} {j r n : Nat} (ht : ∀ i, t i < 8) : zIt (zSbC s t lb j r) n 0 < 256 := zIt_inv (m := n) (P := fun r => r < 256) (fun i a _ h => zSbC_lt ht h) n (Nat.le_refl n) 0 (by decide)
theorem zSb_lt {s t lb : Nat → Nat} {k j r : Nat} (ht : ∀ i, t i < 8) : zSb s t lb k j r < 256 := by
  unfold zSb
  split
  · exact z2p _ (ht j)
  · split
    · exact zSbI_lt ht
    · decide
def zTrI (m u r : Nat) : Nat := if zHas r u m then zWr r u (zRow r m) else r
def zTrM (m r : Nat) : Nat := zIt (zTrI m) 8 r
def zTr (r : Nat) : Nat := zIt zTrM 8 r
theorem zTrI_lt {m u r : Nat} (hu : u < 8) (hr : r < 18446744073709551616) : zTrI m u r < 18446744073709551616 := by
  unfold zTrI
  split
  · exact zWr_lt hr hu (zRow_lt _ _)
  · exact hr
theorem zTrM_lt {m r n : Nat} (hn : n ≤ 8) (hr : r < 18446744073709551616) : zIt (zTrI m) n r < 18446744073709551616 := zIt_inv (m := 8) (P := fun r => r < 18446744073709551616) (fun i a hi h => zTrI_lt hi h) n hn r hr
theorem zTrN_lt {r n : Nat} (hr : r < 18446744073709551616) : zIt zTrM n r < 18446744073709551616 := zIt_inv (m := n) (P := fun r => r < 18446744073709551616) (fun i a _ h => zTrM_lt (Nat.le_refl 8) h) n (Nat.le_refl n) r hr
def zNaF (s t lb : Nat → Nat) (k inner j r : Nat) : Nat := zWr r (s j) (zSb s t lb k j inner)
def zNa (s t lb : Nat → Nat) (k V inner : Nat) : Nat := zTr (zIt (zNaF s t lb k inner) k (zId V))
theorem zNaI_lt {s t lb : Nat → Nat} {k inner n r : Nat} (hs : ∀ i, s i < 8) (ht : ∀ i, t i < 8) (hr : r < 18446744073709551616) : zIt (zNaF s t lb k inner) n r < 18446744073709551616 := zIt_inv (m := n) (P := fun r => r < 18446744073709551616) (fun i a _ h => zWr_lt h (hs i) (zSb_lt ht)) n (Nat.le_refl n) r hr
theorem zNa_lt {s t lb : Nat → Nat} {k V inner : Nat} (hs : ∀ i, s i < 8) (ht : ∀ i, t i < 8) (hV : V ≤ 8) : zNa s t lb k V inner < 18446744073709551616 := zTrN_lt (zNaI_lt hs ht (zId_lt hV))
