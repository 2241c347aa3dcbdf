/-! what the methods of Distances do to the table -/
def zSt (u lead n to : Nat) (q : (Nat → Nat) × Bool) : (Nat → Nat) × Bool := if ¬ q.1 (8 * n + to) = 1000001 ∧ min (lead + q.1 (8 * n + to)) 1000000 < q.1 (8 * u + to) then (zU q.1 (8 * u + to) (min (lead + q.1 (8 * n + to)) 1000000), true) else q
def zSh (u lead n V : Nat) (f : Nat → Nat) : (Nat → Nat) × Bool := zIt (zSt u lead n) V (f, false)
def zBhC (s t lb : Nat → Nat) (V j c : Nat) (q : (Nat → Nat) × Bool) : (Nat → Nat) × Bool := if lb c = lb j + 3 ∧ ¬ q.1 (8 * t j + s c) = 1000001 then ((zSh (s j) (q.1 (8 * t j + s c) + 2) (t c) V q.1).1, q.2 || (zSh (s j) (q.1 (8 * t j + s c) + 2) (t c) V q.1).2) else q
def zBh (s t lb : Nat → Nat) (k V j : Nat) (f : Nat → Nat) : (Nat → Nat) × Bool := if lb j = 0 then zSh (s j) 1 (t j) V f else if 1 ≤ lb j ∧ lb j ≤ 3 then zIt (zBhC s t lb V j) k (f, false) else (f, false)
def zMrF (s t lb : Nat → Nat) (k V j : Nat) (q : (Nat → Nat) × Bool) : (Nat → Nat) × Bool := ((zBh s t lb k V j q.1).1, q.2 || (zBh s t lb k V j q.1).2)
def zMr (s t lb : Nat → Nat) (k V : Nat) (f : Nat → Nat) : (Nat → Nat) × Bool := zIt (zMrF s t lb k V) k (f, false)
def zMrN (s t lb : Nat → Nat) (k V : Nat) (f : Nat → Nat) : Nat → Nat := (zMr s t lb k V f).1
def zM1 (i : Nat) (f : Nat → Nat) : Nat → Nat := zU f i 1000001
def zM2 (u : Nat) (f : Nat → Nat) : Nat → Nat := zU f (8 * u + u) 0
def zM0 (f : Nat → Nat) (V : Nat) : Nat → Nat := zIt zM2 V (zIt zM1 64 f)
def zMs (f s t lb : Nat → Nat) (k V : Nat) : Nat → Nat := zIt (fun _ => zMrN s t lb k V) 65 (zM0 f V)
def zT9 (f : Nat → Nat) : Prop := ∀ i, f i ≤ 1000001
theorem zT9_U {f : Nat → Nat} {i x : Nat} (h : zT9 f) (hx : x ≤ 1000001) : zT9 (zU f i x) := by
  intro j; unfold zU; split
  · exact hx
  · exact h j
theorem zSt_9 {u lead n to : Nat} {q : (Nat → Nat) × Bool} (h : zT9 q.1) : zT9 (zSt u lead n to q).1 := by
  unfold zSt; split
  · exact zT9_U h (by omega)
  · exact h
theorem zShI_9 {u lead n V : Nat} {q : (Nat → Nat) × Bool} (h : zT9 q.1) : zT9 (zIt (zSt u lead n) V q).1 := zIt_inv (m := V) (P := fun q : (Nat → Nat) × Bool => zT9 q.1) (fun _ _ _ h => zSt_9 h) V (Nat.le_refl V) q h
theorem zBhC_9 {s t lb : Nat → Nat} {V j c : Nat} {q : (Nat → Nat) × Bool} (h : zT9 q.1) : zT9 (zBhC s t lb V j c q).1 := by
  unfold zBhC; split
  · exact zShI_9 h
  · exact h
theorem zBhI_9 {s t lb : Nat → Nat} {V j n : Nat} {q : (Nat → Nat) × Bool} (h : zT9 q.1) : zT9 (zIt (zBhC s t lb V j) n q).1 := zIt_inv (m := n) (P := fun q : (Nat → Nat) × Bool => zT9 q.1) (fun _ _ _ h => zBhC_9 h) n (Nat.le_refl n) q h
theorem zBh_9 {s t lb : Nat → Nat} {k V j : Nat} {f : Nat → Nat} (h : zT9 f) : zT9 (zBh s t lb k V j f).1 := by
  unfold zBh; split
  · exact zShI_9 h
  · split
    · exact zBhI_9 h
    · exact h
theorem zMrI_9 {s t lb : Nat → Nat} {k V n : Nat} {q : (Nat → Nat) × Bool} (h : zT9 q.1) : zT9 (zIt (zMrF s t lb k V) n q).1 := zIt_inv (f := zMrF s t lb k V) (m := n) (P := fun q : (Nat → Nat) × Bool => zT9 q.1) (fun i q _ h => (show zT9 (zMrF s t lb k V i q).1 from zBh_9 h)) n (Nat.le_refl n) q h
theorem zM1_9 {f : Nat → Nat} {n : Nat} (h : zT9 f) : zT9 (zIt zM1 n f) := zIt_inv (m := n) (P := zT9) (fun _ _ _ h => zT9_U h (Nat.le_refl _)) n (Nat.le_refl n) f h
theorem zM2_9 {f : Nat → Nat} {n : Nat} (h : zT9 f) : zT9 (zIt zM2 n f) := zIt_inv (m := n) (P := zT9) (fun _ _ _ h => zT9_U h (by omega)) n (Nat.le_refl n) f h
theorem zM0_9 {f : Nat → Nat} {V : Nat} (h : zT9 f) : zT9 (zM0 f V) := zM2_9 (zM1_9 h)
theorem zMs_9 {f s t lb : Nat → Nat} {k V : Nat} (h : zT9 f) : zT9 (zMs f s t lb k V) := zIt_inv (m := 65) (P := zT9) (fun _ _ _ h => zMrI_9 h) 65 (Nat.le_refl 65) _ (zM0_9 h)
/-- a flag that is down says that nothing changed -/
theorem zIt_flag {g : Nat → (Nat → Nat) × Bool → (Nat → Nat) × Bool} (h : ∀ i q, (g i q).2 = false → g i q = q) : ∀ n q, (zIt g n q).2 = false → zIt g n q = q
  | 0, _, _ => rfl
  | n + 1, q, hf => by
    have h1 := h n (zIt g n q) hf
    show g n (zIt g n q) = q
    rw [h1]
    exact zIt_flag h n q (by rw [← h1]; exact hf)
theorem zSt_f (u lead n i : Nat) (q : (Nat → Nat) × Bool) (h : (zSt u lead n i q).2 = false) : zSt u lead n i q = q := by
  unfold zSt at h ⊢
  split at h
  · cases h
  · rename_i hn; rw [if_neg hn]
theorem zSh_f {u lead n V : Nat} {f : Nat → Nat} (h : (zSh u lead n V f).2 = false) : (zSh u lead n V f).1 = f := congrArg Prod.fst (zIt_flag (zSt_f u lead n) V (f, false) h)
theorem zBhC_f (s t lb : Nat → Nat) (V j i : Nat) (q : (Nat → Nat) × Bool) (h : (zBhC s t lb V j i q).2 = false) : zBhC s t lb V j i q = q := by
  unfold zBhC at h ⊢
  split at h
  · rename_i hy
    rw [if_pos hy]
    have h2 : q.2 = false ∧ (zSh (s j) (q.1 (8 * t j + s i) + 2) (t i) V q.1).2 = false := by simpa using h
    rw [zSh_f h2.2, h2.2, h2.1]
    exact Prod.ext rfl h2.1.symm
  · rename_i hn; rw [if_neg hn]
theorem zBh_f {s t lb : Nat → Nat} {k V j : Nat} {f : Nat → Nat} (h : (zBh s t lb k V j f).2 = false) : (zBh s t lb k V j f).1 = f := by
  unfold zBh at h ⊢
  split
  · rename_i h1; rw [if_pos h1] at h; exact zSh_f h
  · rename_i h1; rw [if_neg h1] at h
    split
    · rename_i h2; rw [if_pos h2] at h; exact congrArg Prod.fst (zIt_flag (zBhC_f s t lb V j) k (f, false) h)
    · rfl
theorem zMrF_f (s t lb : Nat → Nat) (k V i : Nat) (q : (Nat → Nat) × Bool) (h : (zMrF s t lb k V i q).2 = false) : zMrF s t lb k V i q = q := by
  unfold zMrF at h ⊢
  have h2 : q.2 = false ∧ (zBh s t lb k V i q.1).2 = false := by simpa using h
  rw [zBh_f h2.2, h2.2, h2.1]
  exact Prod.ext rfl h2.1.symm
theorem zMr_f {s t lb : Nat → Nat} {k V : Nat} {f : Nat → Nat} (h : (zMr s t lb k V f).2 = false) : zMrN s t lb k V f = f := congrArg Prod.fst (zIt_flag (zMrF_f s t lb k V) k (f, false) h)
theorem zMs_brk {f s t lb : Nat → Nat} {k V i : Nat} {g : Nat → Nat} (hg : g = zIt (fun _ => zMrN s t lb k V) i (zM0 f V)) (hfix : zMrN s t lb k V g = g) (hi : i ≤ 65) : g = zMs f s t lb k V := by
  have h4 := zIt_fix (g := zMrN s t lb k V) (a := zM0 f V) (i := i) (by rw [← hg]; exact hfix) (65 - i)
  rw [show i + (65 - i) = 65 by omega] at h4
  unfold zMs
  rw [h4]; exact hg
/-- the witness -/
def zCwP (s t lb f : Nat → Nat) (j v c : Nat) : Bool := decide (lb c = lb j + 3 ∧ f (8 * t j + s c) + f (8 * t c + v) + 2 = f (8 * s j + v))
def zCw (s t lb f : Nat → Nat) (k j v : Nat) : Nat := zFst (zCwP s t lb f j v) k
def zBs (s t lb f : Nat → Nat) (k j v : Nat) : Bool := if lb j = 0 then decide (f (8 * s j + v) = f (8 * t j + v) + 1) else decide (1 ≤ lb j ∧ lb j ≤ 3 ∧ zCw s t lb f k j v < k)
def zFwP (s t lb f : Nat → Nat) (k u v j : Nat) : Bool := decide (s j = u) && zBs s t lb f k j v
def zFw (s t lb f : Nat → Nat) (k u v : Nat) : Nat := zFst (zFwP s t lb f k u v) k
def zEw (s t lb f : Nat → Nat) (k : Nat) : Nat → Nat → Nat → Nat → Int32
  | 0, _, _, _ => (-9)
  | n + 1, u, v, i =>
    if zFw s t lb f k u v < k then
      if i = 0 then nI (zFw s t lb f k u v)
      else if lb (zFw s t lb f k u v) = 0 then zEw s t lb f k n (t (zFw s t lb f k u v)) v (i - 1)
      else if zCw s t lb f k (zFw s t lb f k u v) v < k then
        if i - 1 = f (8 * t (zFw s t lb f k u v) + s (zCw s t lb f k (zFw s t lb f k u v) v)) then nI (zCw s t lb f k (zFw s t lb f k u v) v)
        else if i - 1 < f (8 * t (zFw s t lb f k u v) + s (zCw s t lb f k (zFw s t lb f k u v) v)) then zEw s t lb f k n (t (zFw s t lb f k u v)) (s (zCw s t lb f k (zFw s t lb f k u v) v)) (i - 1)
        else zEw s t lb f k n (t (zCw s t lb f k (zFw s t lb f k u v) v)) v (i - 1 - (f (8 * t (zFw s t lb f k u v) + s (zCw s t lb f k (zFw s t lb f k u v) v)) + 1))
      else (-9)
    else (-9)
def zEwA (s t lb f : Nat → Nat) (k u v : Nat) (x : Int32) : Int32 := if f (8 * u + v) ≥ 1000000 ∨ x.toInt < 0 ∨ x.toInt ≥ (f (8 * u + v) : Int) then (-9) else zEw s t lb f k 65 u v x.toInt.toNat
section Z9
variable {p : Program} {l : Launch} {e : Env} {R : Room} {s : State} {m : MethodId} {args : Array Value} {below : List Frame} {meth : Method} {c : Code} {H : Heap} {locs : List Loc} {cells slots : Nat} {Q : State → Prop}
variable {cc : ByteArray} {pc : Nat} {ls : Array Slot} {rest : List Value}
theorem z9_eq {n k : Nat} {off : Int} {tgt : Nat} (hexec : p.tables.exec = Jvm.exec) (hb : c.code = cc) (hdg : decode cc pc = .ok (.if_icmp .eq off, 3)) (ht : (pc : Int) + off = (tgt : Int)) (hk : k < 2147483648) (kt : ¬ n < k → W p l e R s m args below meth c H locs cells slots Q (F0 m tgt ls rest)) (kf : n < k → W p l e R s m args below meth c H locs cells slots Q (F0 m (pc + 3) ls rest)) : W p l e R s m args below meth c H locs cells slots Q (F0 m pc ls (.int (-9) :: .int (zOr9 n k) :: rest)) :=
  lv_icmp_eq hexec hb hdg ht (fun q => kt ((zOr9_iff hk).mp q)) (fun q => kf (Classical.byContradiction fun h => q ((zOr9_iff hk).mpr h)))
theorem z9_ne {n k : Nat} {off : Int} {tgt : Nat} (hexec : p.tables.exec = Jvm.exec) (hb : c.code = cc) (hdg : decode cc pc = .ok (.if_icmp .ne off, 3)) (ht : (pc : Int) + off = (tgt : Int)) (hk : k < 2147483648) (kt : n < k → W p l e R s m args below meth c H locs cells slots Q (F0 m tgt ls rest)) (kf : ¬ n < k → W p l e R s m args below meth c H locs cells slots Q (F0 m (pc + 3) ls rest)) : W p l e R s m args below meth c H locs cells slots Q (F0 m pc ls (.int (-9) :: .int (zOr9 n k) :: rest)) :=
  lv_icmp_ne hexec hb hdg ht (fun q => kt (Classical.byContradiction fun h => q ((zOr9_iff hk).mpr h))) (fun q => kf ((zOr9_iff hk).mp q))
end Z9
