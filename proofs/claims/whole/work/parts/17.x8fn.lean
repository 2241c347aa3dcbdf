/-! what the public methods answer -/
def zApX (n : Nat) (x : Int32) : Int32 := if 0 ≤ x.toInt ∧ x.toInt < 256 then (-4) else (-2)
def zGet (s : Nat → Nat) (k : Nat) (x : Int32) : Int32 := if 0 ≤ x.toInt ∧ x.toInt < k then nI (s x.toInt.toNat) else (-1)
def zAdX (k V : Nat) (x y z : Int32) : Int32 := if (0 ≤ x.toInt ∧ x.toInt < V) ∧ (0 ≤ y.toInt ∧ y.toInt < V) then (if 0 ≤ z.toInt ∧ z.toInt < 7 then (-4) else (-2)) else (-1)
def zSlX (k : Nat) (x z : Int32) : Int32 := if 0 ≤ x.toInt ∧ x.toInt < k then (-2) else (-1)
def zRfX (s t lb : Nat → Nat) (k V : Nat) (x : Int32) : Int32 := if 0 ≤ x.toInt ∧ x.toInt < V then nI (zRow (zBp s t lb k V) x.toInt.toNat) else (-1)
def zDiX (f : Nat → Nat) (u v : Nat) : Int32 := if f (8 * u + v) = 1000001 then (-9) else nI (f (8 * u + v))
def zDp (s t lb : Nat → Nat) (k V u v : Nat) : Nat → Nat → Nat → Int32
  | 0, _, _ => (-9)
  | m + 1, n, r => if zHas (zNa s t lb k V r) u v then nI n else if zNa s t lb k V r = r then (-9) else zDp s t lb k V u v m (n + 1) (zNa s t lb k V r)
def zDpX (s t lb : Nat → Nat) (k V u v : Nat) : Int32 := zDp s t lb k V u v 65 0 0
def zCrF (s t lb : Nat → Nat) (k V j : Nat) (q : Int32 × Nat) : Int32 × Nat := if zCpw s t lb k V j < q.2 then (nI j, zCpw s t lb k V j) else q
def zCrX (s t lb : Nat → Nat) (k V : Nat) : Int32 := (zIt (zCrF s t lb k V) k ((-9), 65)).1
def zBiR (s t lb : Nat → Nat) (k V : Nat) : Nat := zBp (zBw z0 s t k k) (zBw z0 t s k k) (zBw z0 lb (zOBs lb) k k) (k + k) V
theorem zBiR_eq (s t lb sw tw lw : Nat → Nat) (k V : Nat) : zBp (zBw sw s t k k) (zBw tw t s k k) (zBw lw lb (zOBs lb) k k) (k + k) V = zBiR s t lb k V := by
  have key : ∀ (a b c d : Nat → Nat) (i : Nat), i < k + k → zBw a b c k k i = zBw d b c k k i := by
    intro a b c d i hi
    unfold zBw
    split
    · rfl
    · simp only [if_pos hi]
  exact zBp_cong (fun i hi => ⟨key _ _ _ _ i hi, key _ _ _ _ i hi, key _ _ _ _ i hi⟩) V
def zObX (n : Nat) (x y z : Int32) : Int32 := if (0 ≤ x.toInt ∧ x.toInt < 8) ∧ (0 ≤ y.toInt ∧ y.toInt < 8) ∧ (0 ≤ z.toInt ∧ z.toInt < 2) then (-4) else (-2)
theorem z2p7 : ∀ u, u < 7 → 2 ^ u < 128 := by decide
def zPlF (s t lb : Nat → Nat) (k V : Nat) (os oe oa : Nat → Nat) (nn j p a : Nat) : Nat := if zAh os oe oa nn V (zLbR s t lb k V j p) = nn then a ||| 2 ^ p else a
def zPlX (s t lb : Nat → Nat) (k V : Nat) (os oe oa : Nat → Nat) (nn j : Nat) : Nat := zIt (zPlF s t lb k V os oe oa nn j) 7 0
