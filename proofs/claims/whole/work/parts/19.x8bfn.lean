theorem z2pk : ∀ k, k ≤ 8 → 2 ^ k ≤ 256 := by decide
theorem zp8_own : ∀ k, k ≤ 8 → ∀ j, j < k → ∀ b, b < 2 ^ k → (b &&& 2 ^ j) = 0 → zp8 b < k := by decide +kernel
def zShF (s t lb : Nat → Nat) (k V j b : Nat) (a : Int32) : Int32 := if (b &&& 2 ^ j) = 0 then a + (nI (zWo s t lb k V (b ||| 2 ^ j)) - nI (zWo s t lb k V b)) * nI (zOrd (zp8 b) k) else a
def zShX (s t lb : Nat → Nat) (k V j : Nat) : Int32 := zIt (zShF s t lb k V j) (2 ^ k) (nI 0)
def zShE (k : Nat) (x : Int32) : Int32 := if 0 ≤ x.toInt ∧ x.toInt < k then (-3) else (-1)
def zReF (s t lb : Nat → Nat) (k V x y z p a : Nat) : Nat := if zHas (zWoR s t lb k V p) x y then a + (10 - z) ^ zCt p k * z ^ (k - zCt p k) else a
def zReX (s t lb : Nat → Nat) (k V x y z : Nat) : Nat := zIt (zReF s t lb k V x y z) (2 ^ k) 0
def zReE (k V : Nat) (x y z : Int32) : Int32 := if (0 ≤ x.toInt ∧ x.toInt < V) ∧ (0 ≤ y.toInt ∧ y.toInt < V) then (if 0 ≤ z.toInt ∧ z.toInt < 11 then (-3) else (-2)) else (-1)
def zDw (x : Int64) : Nat := x.toBitVec.toNat / 2 ^ 33
theorem zDw_lt (x : Int64) : zDw x < 2147483648 := by
  have h : x.toBitVec.toNat < 2 ^ 64 := x.toBitVec.isLt
  unfold zDw; omega
theorem zLn_of (x : Int64) : x = lN x.toBitVec.toNat := by
  apply Int64.toBitVec_inj.mp
  apply BitVec.eq_of_toNat_eq
  show _ = (BitVec.ofNat 64 x.toBitVec.toNat).toNat
  rw [BitVec.toNat_ofNat, Nat.mod_eq_of_lt x.toBitVec.isLt]
theorem zDw_eq (x : Int64) : (x.toUInt64 >>> ((nI 33).toInt64.toUInt64 &&& Int64.toUInt64 63)).toInt64.toInt32 = nI (zDw x) := by
  have h : x.toBitVec.toNat < 18446744073709551616 := x.toBitVec.isLt
  have e := z_ushrL h (show 33 < 64 by decide)
  rw [← zLn_of x] at e
  rw [e, lN_i]; rfl
def zNs (x : Int64) : Int64 := x * lN 6364136223846793005 + lN 1442695040888963407
def zSmF (V : Nat) (_ : Nat) (u : zQ4 × Int64 × Nat) : zQ4 × Int64 × Nat := (zCh u.1.1 u.1.2.1 u.1.2.2.1 u.1.2.2.2 V (zDw (zNs u.2.1)), zNs u.2.1, u.2.2 + zPr (zCh u.1.1 u.1.2.1 u.1.2.2.1 u.1.2.2.2 V (zDw (zNs u.2.1))).1 (zCh u.1.1 u.1.2.1 u.1.2.2.1 u.1.2.2.2 V (zDw (zNs u.2.1))).2.1 (zCh u.1.1 u.1.2.1 u.1.2.2.1 u.1.2.2.2 V (zDw (zNs u.2.1))).2.2.1 (zCh u.1.1 u.1.2.1 u.1.2.2.1 u.1.2.2.2 V (zDw (zNs u.2.1))).2.2.2 V)
theorem zPr_le (s t lb : Nat → Nat) (k V : Nat) : zPr s t lb k V ≤ 64 := zPop_le _
theorem yN_eq {y : Int64} (h : 0 ≤ y.toInt) : y = lN y.toInt.toNat := by
  have h2 := Int64.toInt_lt y
  apply Int64.toInt_inj.mp
  rw [z_lT (by omega)]
  omega
def zRsG (X Y c : Nat) : Nat := Y / 10000 ^ (X - 1 - c) % 10000
def zRs (V X Y : Nat) : Nat → Nat → zQ4 → (Nat → Nat) → Int32
  | 0, _, _, _ => (-9)
  | m + 1, c, q, f => if zSuB f q.1 q.2.1 q.2.2.1 q.2.2.2 V (zRsG X Y c) = true then zRs V X Y m (c + 1) (zSuE q.1 q.2.1 q.2.2.1 q.2.2.2 V (zRsG X Y c)) (zSuF f q.1 q.2.1 q.2.2.1 q.2.2.2 V (zRsG X Y c)) else nI c
def zRtX (sfl : Nat → Nat) (x : Int32) : Int32 := if 0 ≤ x.toInt ∧ x.toInt < 2 then (-3) else (-1)
section ZK
variable {p : Program} {l : Launch} {e : Env} {R : Room} {s : State} {m : MethodId} {args : Array Value} {below : List Frame} {meth : Method} {c : Code} {H : Heap} {locs : List Loc} {cells slots : Nat} {Q : State → Prop}
variable {cc : ByteArray} {pc : Nat} {ls : Array Slot} {rest : List Value}
theorem zll_eq {a b : Nat} {off : Int} {tgt : Nat} (hexec : p.tables.exec = Jvm.exec) (hb : c.code = cc) (hdg : decode cc pc = .ok (.lcmp, 1)) (hdg2 : decode cc (pc + 1) = .ok (.ifCond .eq off, 3)) (ht : ((pc + 1 : Nat) : Int) + off = (tgt : Int)) (ha : a < 18446744073709551616) (hb2 : b < 18446744073709551616) (kt : a = b → W p l e R s m args below meth c H locs cells slots Q (F0 m tgt ls rest)) (kf : ¬ a = b → W p l e R s m args below meth c H locs cells slots Q (F0 m (pc + 4) ls rest)) : W p l e R s m args below meth c H locs cells slots Q (F0 m pc ls (.long (lN b) :: .long (lN a) :: rest)) :=
  zl_eq hexec hb hdg hdg2 ht (fun q => kt (by
    have h := congrArg (fun z => z.toBitVec.toNat) q
    change (BitVec.ofNat 64 a).toNat = (BitVec.ofNat 64 b).toNat at h
    rw [BitVec.toNat_ofNat, BitVec.toNat_ofNat, Nat.mod_eq_of_lt ha, Nat.mod_eq_of_lt hb2] at h
    exact h)) (fun q => kf (fun h => q (by rw [h])))
end ZK
