/-! the commands of scripts -/
abbrev zQ4 : Type := (Nat → Nat) × (Nat → Nat) × (Nat → Nat) × Nat
abbrev zAdP (k V a b c : Nat) : Prop := a < V ∧ b < V ∧ c < 7 ∧ k < 16
def zAdE (s t lb : Nat → Nat) (k V a b c : Nat) : zQ4 := if zAdP k V a b c then (zU s k a, zU t k b, zU lb k c, k + 1) else (s, t, lb, k)
def zRmE (s t lb : Nat → Nat) (k j : Nat) : zQ4 := if j < k then (zDr s j k, zDr t j k, zDr lb j k, k - 1) else (s, t, lb, k)
def zSuB (f s t lb : Nat → Nat) (k V gp : Nat) : Bool :=
  if gp / 1000 = 1 then decide (zAdP k V (gp / 100 % 10) (gp / 10 % 10) (gp % 10))
  else if gp / 1000 = 2 then decide (gp / 100 % 10 = 0 ∧ 10 * (gp / 10 % 10) + gp % 10 < k)
  else if gp / 1000 = 3 then decide (gp / 100 % 10 < V ∧ gp / 10 % 10 < V ∧ gp % 10 ≤ 1 ∧ (zHas (zBp s t lb k V) (gp / 100 % 10) (gp / 10 % 10) ↔ gp % 10 = 1))
  else if gp / 1000 = 4 then decide (gp / 100 % 10 = 0 ∧ zPop (zBp s t lb k V) = 10 * (gp / 10 % 10) + gp % 10)
  else if gp / 1000 = 5 then decide (gp / 100 % 10 < V ∧ gp / 10 % 10 < V ∧ zMs f s t lb k V (8 * (gp / 100 % 10) + gp / 10 % 10) = gp % 10)
  else false
def zSuE (s t lb : Nat → Nat) (k V gp : Nat) : zQ4 :=
  if gp / 1000 = 1 then zAdE s t lb k V (gp / 100 % 10) (gp / 10 % 10) (gp % 10)
  else if gp / 1000 = 2 then (if gp / 100 % 10 = 0 then zRmE s t lb k (10 * (gp / 10 % 10) + gp % 10) else (s, t, lb, k))
  else (s, t, lb, k)
def zSuF (f s t lb : Nat → Nat) (k V gp : Nat) : Nat → Nat := if gp / 1000 = 5 then (if gp / 100 % 10 < V ∧ gp / 10 % 10 < V then zMs f s t lb k V else f) else f
def zSuV (V V0 gp : Nat) : Nat := if gp / 1000 = 5 then (if gp / 100 % 10 < V ∧ gp / 10 % 10 < V then V else V0) else V0
