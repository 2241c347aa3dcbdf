/-! counting bits -/
def zM5 : Nat := 6148914691236517205
def zM3 : Nat := 3689348814741910323
def zMf : Nat := 1085102592571150095
def zB1 (r : Nat) : Nat := r - (r / 2 ^ 1 &&& 6148914691236517205)
def zB2 (x : Nat) : Nat := (x &&& 3689348814741910323) + (x / 2 ^ 2 &&& 3689348814741910323)
def zB3 (x : Nat) : Nat := x + x / 2 ^ 4 &&& 1085102592571150095
def zB4 (x : Nat) : Nat := x + x / 2 ^ 8
def zB5 (x : Nat) : Nat := x + x / 2 ^ 16
def zB6 (x : Nat) : Nat := x + x / 2 ^ 32
def zPopF (r i n : Nat) : Nat := n + r / 2 ^ i % 2
def zPop (r : Nat) : Nat := zIt (zPopF r) 64 0
theorem zB1_le (r : Nat) : (r / 2 ^ 1 &&& 6148914691236517205) ≤ r := Nat.le_trans Nat.and_le_left (Nat.div_le_self _ _)
theorem zB2_le (x : Nat) : zB2 x ≤ 7378697629483820646 := by
  have h1 : (x &&& 3689348814741910323) ≤ 3689348814741910323 := Nat.and_le_right
  have h2 : (x / 2 ^ 2 &&& 3689348814741910323) ≤ 3689348814741910323 := Nat.and_le_right
  unfold zB2; omega
theorem zB3_le (x : Nat) : zB3 x ≤ 1085102592571150095 := Nat.and_le_right
theorem z_and_dig {lo m hi M : Nat} (hlo : lo < 256) (hm : m < 256) : (lo + 256 * hi) &&& (m + 256 * M) = (lo &&& m) + 256 * (hi &&& M) := by
  have e1 : (lo + 256 * hi) = 2 ^ 8 * hi + lo := by omega
  have e2 : (m + 256 * M) = 2 ^ 8 * M + m := by omega
  have h3 : (lo &&& m) < 2 ^ 8 := Nat.lt_of_le_of_lt Nat.and_le_left hlo
  have e3 : (lo &&& m) + 256 * (hi &&& M) = 2 ^ 8 * (hi &&& M) + (lo &&& m) := by omega
  rw [e1, e2, e3]
  apply Nat.eq_of_testBit_eq
  intro i
  rw [Nat.testBit_and, Nat.testBit_two_pow_mul_add _ (show lo < 2 ^ 8 from hlo), Nat.testBit_two_pow_mul_add _ (show m < 2 ^ 8 from hm), Nat.testBit_two_pow_mul_add _ h3]
  split <;> rw [Nat.testBit_and]
/-- the steps of a byte -/
theorem z_by1 : ∀ b, b < 256 → ∀ h, h < 2 → ((b / 2 + 128 * h) &&& 85) = (b / 2 &&& 85) ∧ (b / 2 &&& 85) ≤ b := by decide +kernel
theorem z_by2 : ∀ b, b < 256 → ∀ h, h < 4 → ((b / 4 + 64 * h) &&& 51) = (b / 4 &&& 51) ∧ (b &&& 51) + (b / 4 &&& 51) < 256 := by decide +kernel
def zp8 (b : Nat) : Nat := b % 2 + b / 2 % 2 + b / 4 % 2 + b / 8 % 2 + b / 16 % 2 + b / 32 % 2 + b / 64 % 2 + b / 128 % 2
def zy2 (b : Nat) : Nat := (b - (b / 2 &&& 85) &&& 51) + ((b - (b / 2 &&& 85)) / 4 &&& 51)
theorem z_by3 : ∀ b, b < 256 → zy2 b ≤ 68 ∧ zy2 b % 16 ≤ 4 := by decide +kernel
theorem z_by4 : ∀ b, b < 256 → ∀ h, h < 5 → ((zy2 b + zy2 b / 16 + 16 * h) &&& 15) = zp8 b ∧ zp8 b ≤ 8 := by decide +kernel
/-- masks of n bytes -/
def zMk (m : Nat) : Nat → Nat
  | 0 => 0
  | n + 1 => m + 256 * zMk m n
def zS1 (n r : Nat) : Nat := r - (r / 2 &&& zMk 85 n)
def zS2 (n x : Nat) : Nat := (x &&& zMk 51 n) + (x / 4 &&& zMk 51 n)
def zS3 (n x : Nat) : Nat := x + x / 16 &&& zMk 15 n
theorem zS1_s (n lo hi : Nat) (hlo : lo < 256) : zS1 (n + 1) (lo + 256 * hi) = (lo - (lo / 2 &&& 85)) + 256 * zS1 n hi := by
  unfold zS1
  have e : (lo + 256 * hi) / 2 = (lo / 2 + 128 * (hi % 2)) + 256 * (hi / 2) := by omega
  have h1 := z_by1 lo hlo (hi % 2) (by omega)
  have h2 : (hi / 2 &&& zMk 85 n) ≤ hi := Nat.le_trans Nat.and_le_left (Nat.div_le_self _ _)
  rw [e, show zMk 85 (n + 1) = 85 + 256 * zMk 85 n from rfl, z_and_dig (by omega) (by decide), h1.1]
  have h3 := h1.2
  omega
theorem zS2_s (n lo hi : Nat) (hlo : lo < 256) : zS2 (n + 1) (lo + 256 * hi) = ((lo &&& 51) + (lo / 4 &&& 51)) + 256 * zS2 n hi := by
  unfold zS2
  have e : (lo + 256 * hi) / 4 = (lo / 4 + 64 * (hi % 4)) + 256 * (hi / 4) := by omega
  have h1 := z_by2 lo hlo (hi % 4) (by omega)
  rw [e, show zMk 51 (n + 1) = 51 + 256 * zMk 51 n from rfl, z_and_dig hlo (by decide), z_and_dig (by omega) (by decide), h1.1]
  omega
theorem zS3_s (n b hi : Nat) (hb : b < 256) (hh : hi % 16 < 5) : zS3 (n + 1) (zy2 b + 256 * hi) = zp8 b + 256 * zS3 n hi := by
  unfold zS3
  have h3 := z_by3 b hb
  have e : (zy2 b + 256 * hi) + (zy2 b + 256 * hi) / 16 = (zy2 b + zy2 b / 16 + 16 * (hi % 16)) + 256 * (hi + hi / 16) := by omega
  rw [e, show zMk 15 (n + 1) = 15 + 256 * zMk 15 n from rfl, z_and_dig (by omega) (by decide), (z_by4 b hb _ hh).1]
theorem zS12_s (n lo hi : Nat) (hlo : lo < 256) : zS2 (n + 1) (zS1 (n + 1) (lo + 256 * hi)) = zy2 lo + 256 * zS2 n (zS1 n hi) := by
  rw [zS1_s n lo hi hlo, zS2_s n _ _ (by omega)]
  rfl
theorem zS12_low (n r : Nat) : zS2 n (zS1 n r) % 16 < 5 := by
  cases n with
  | zero => simp [zS2, zMk]
  | succ n =>
    have e : r = r % 256 + 256 * (r / 256) := by omega
    rw [e, zS12_s n _ _ (Nat.mod_lt _ (by decide))]
    have h := z_by3 (r % 256) (Nat.mod_lt _ (by decide))
    omega
theorem zS123_s (n r : Nat) : zS3 (n + 1) (zS2 (n + 1) (zS1 (n + 1) r)) = zp8 (r % 256) + 256 * zS3 n (zS2 n (zS1 n (r / 256))) := by
  have e : r = r % 256 + 256 * (r / 256) := by omega
  conv => lhs; rw [e]
  rw [zS12_s n _ _ (Nat.mod_lt _ (by decide)), zS3_s n _ _ (Nat.mod_lt _ (by decide)) (zS12_low n _)]
theorem zB123 (r : Nat) : zB3 (zB2 (zB1 r)) = zS3 8 (zS2 8 (zS1 8 r)) := rfl
theorem zp8_le (b : Nat) : zp8 b ≤ 8 := by unfold zp8; omega
theorem zS3_0 (x : Nat) : zS3 0 x = 0 := by simp [zS3, zMk]
theorem zB_sum (p0 p1 p2 p3 p4 p5 p6 p7 : Nat) (h0 : p0 ≤ 8) (h1 : p1 ≤ 8) (h2 : p2 ≤ 8) (h3 : p3 ≤ 8) (h4 : p4 ≤ 8) (h5 : p5 ≤ 8) (h6 : p6 ≤ 8) (h7 : p7 ≤ 8) :
    zB6 (zB5 (zB4 (p0 + 256 * (p1 + 256 * (p2 + 256 * (p3 + 256 * (p4 + 256 * (p5 + 256 * (p6 + 256 * p7))))))))) % 128 = p0 + p1 + p2 + p3 + p4 + p5 + p6 + p7 := by
  have e4 : zB4 (p0 + 256 * (p1 + 256 * (p2 + 256 * (p3 + 256 * (p4 + 256 * (p5 + 256 * (p6 + 256 * p7))))))) = (p0 + p1) + 256 * ((p1 + p2) + 256 * ((p2 + p3) + 256 * ((p3 + p4) + 256 * ((p4 + p5) + 256 * ((p5 + p6) + 256 * ((p6 + p7) + 256 * p7)))))) := by
    unfold zB4; omega
  rw [e4]
  have e5 : zB5 ((p0 + p1) + 256 * ((p1 + p2) + 256 * ((p2 + p3) + 256 * ((p3 + p4) + 256 * ((p4 + p5) + 256 * ((p5 + p6) + 256 * ((p6 + p7) + 256 * p7))))))) = (p0 + p1 + p2 + p3) + 256 * ((p1 + p2 + p3 + p4) + 256 * ((p2 + p3 + p4 + p5) + 256 * ((p3 + p4 + p5 + p6) + 256 * ((p4 + p5 + p6 + p7) + 256 * ((p5 + p6 + p7) + 256 * ((p6 + p7) + 256 * p7)))))) := by
    unfold zB5; omega
  rw [e5]
  have e6 : ∀ q0 q1 q2 q3 y : Nat, q0 ≤ 32 → q1 ≤ 32 → q2 ≤ 32 → q3 ≤ 32 → zB6 (q0 + 256 * (q1 + 256 * (q2 + 256 * (q3 + 256 * y)))) % 128 = (q0 + y) % 128 := by
    intro q0 q1 q2 q3 y g0 g1 g2 g3
    unfold zB6
    have e7 : (q0 + 256 * (q1 + 256 * (q2 + 256 * (q3 + 256 * y)))) / 2 ^ 32 = y := by omega
    rw [e7]; omega
  rw [e6 _ _ _ _ _ (by omega) (by omega) (by omega) (by omega)]
  omega
theorem zp8_x (x : Nat) : zp8 (x % 256) = x % 2 + x / 2 % 2 + x / 4 % 2 + x / 8 % 2 + x / 16 % 2 + x / 32 % 2 + x / 64 % 2 + x / 128 % 2 := by
  unfold zp8
  rw [show x % 256 % 2 = x % 2 by omega, show x % 256 / 2 % 2 = x / 2 % 2 by omega, show x % 256 / 4 % 2 = x / 4 % 2 by omega, show x % 256 / 8 % 2 = x / 8 % 2 by omega, show x % 256 / 16 % 2 = x / 16 % 2 by omega, show x % 256 / 32 % 2 = x / 32 % 2 by omega, show x % 256 / 64 % 2 = x / 64 % 2 by omega, show x % 256 / 128 % 2 = x / 128 % 2 by omega]
theorem zPop_8 (r a : Nat) : zIt (zPopF r) (a + 8) 0 = zIt (zPopF r) a 0 + zp8 (r / 2 ^ a % 256) := by
  have hd : ∀ i, r / 2 ^ (a + i) = r / 2 ^ a / 2 ^ i := fun i => by rw [Nat.pow_add, Nat.div_div_eq_div_mul]
  rw [zp8_x]
  show zPopF r (a + 7) (zPopF r (a + 6) (zPopF r (a + 5) (zPopF r (a + 4) (zPopF r (a + 3) (zPopF r (a + 2) (zPopF r (a + 1) (zPopF r a (zIt (zPopF r) a 0)))))))) = _
  simp only [zPopF, hd]
  simp only [Nat.reducePow]
  omega
theorem zPop_b (r : Nat) : zPop r = zp8 (r % 256) + zp8 (r / 256 % 256) + zp8 (r / 65536 % 256) + zp8 (r / 16777216 % 256) + zp8 (r / 4294967296 % 256) + zp8 (r / 1099511627776 % 256) + zp8 (r / 281474976710656 % 256) + zp8 (r / 72057594037927936 % 256) := by
  have h0 : zIt (zPopF r) 8 0 = 0 + zp8 (r / 1 % 256) := zPop_8 r 0
  have h1 : zIt (zPopF r) 16 0 = zIt (zPopF r) 8 0 + zp8 (r / 256 % 256) := zPop_8 r 8
  have h2 : zIt (zPopF r) 24 0 = zIt (zPopF r) 16 0 + zp8 (r / 65536 % 256) := zPop_8 r 16
  have h3 : zIt (zPopF r) 32 0 = zIt (zPopF r) 24 0 + zp8 (r / 16777216 % 256) := zPop_8 r 24
  have h4 : zIt (zPopF r) 40 0 = zIt (zPopF r) 32 0 + zp8 (r / 4294967296 % 256) := zPop_8 r 32
  have h5 : zIt (zPopF r) 48 0 = zIt (zPopF r) 40 0 + zp8 (r / 1099511627776 % 256) := zPop_8 r 40
  have h6 : zIt (zPopF r) 56 0 = zIt (zPopF r) 48 0 + zp8 (r / 281474976710656 % 256) := zPop_8 r 48
  have h7 : zIt (zPopF r) 64 0 = zIt (zPopF r) 56 0 + zp8 (r / 72057594037927936 % 256) := zPop_8 r 56
  unfold zPop
  rw [h7, h6, h5, h4, h3, h2, h1, h0, Nat.div_one, Nat.zero_add]
theorem zPop_swar {r : Nat} (h : r < 18446744073709551616) : zB6 (zB5 (zB4 (zB3 (zB2 (zB1 r))))) % 128 = zPop r := by
  rw [zB123, zS123_s, zS123_s, zS123_s, zS123_s, zS123_s, zS123_s, zS123_s, zS123_s, zS3_0, zPop_b]
  have e := zB_sum (zp8 (r % 256)) (zp8 (r / 256 % 256)) (zp8 (r / 256 / 256 % 256)) (zp8 (r / 256 / 256 / 256 % 256)) (zp8 (r / 256 / 256 / 256 / 256 % 256)) (zp8 (r / 256 / 256 / 256 / 256 / 256 % 256)) (zp8 (r / 256 / 256 / 256 / 256 / 256 / 256 % 256)) (zp8 (r / 256 / 256 / 256 / 256 / 256 / 256 / 256 % 256)) (zp8_le _) (zp8_le _) (zp8_le _) (zp8_le _) (zp8_le _) (zp8_le _) (zp8_le _) (zp8_le _)
  simp only [Nat.mul_zero, Nat.add_zero]
  rw [e]
  simp only [Nat.div_div_eq_div_mul]
theorem zPop_le (r : Nat) : zPop r ≤ 64 := by
  rw [zPop_b]
  have h0 := zp8_le (r % 256)
  have h1 := zp8_le (r / 256 % 256)
  have h2 := zp8_le (r / 65536 % 256)
  have h3 := zp8_le (r / 16777216 % 256)
  have h4 := zp8_le (r / 4294967296 % 256)
  have h5 := zp8_le (r / 1099511627776 % 256)
  have h6 := zp8_le (r / 281474976710656 % 256)
  have h7 := zp8_le (r / 72057594037927936 % 256)
  omega
/-- small numbers: by looking at each -/
def zc1 (b : Nat) : Nat := b - (b / 2 ^ 1 &&& 1431655765)
def zc2 (b : Nat) : Nat := (zc1 b &&& 858993459) + (zc1 b / 2 ^ 2 &&& 858993459)
def zc3 (b : Nat) : Nat := zc2 b + zc2 b / 2 ^ 4 &&& 252645135
def zc4 (b : Nat) : Nat := zc3 b + zc3 b / 2 ^ 8
def zc5 (b : Nat) : Nat := zc4 b + zc4 b / 2 ^ 16
theorem zc_all : ∀ b, b < 256 → ((b / 2 ^ 1 &&& 1431655765) ≤ b ∧ zc1 b < 256 ∧ zc2 b < 256 ∧ zc3 b < 256 ∧ zc4 b < 256 ∧ zc5 b < 256) ∧ zc5 b % 64 = zp8 b := by decide +kernel
def zTm (x : Nat) : Nat := (255 - x) &&& (x - 1)
theorem zTm_p : ∀ x, x < 256 → 0 < x → (nI x ^^^ (-1)) &&& nI (x - 1) = nI (zTm x) ∧ zTm x < 256 := by decide +kernel
def zTzP (x i : Nat) : Bool := decide (x / 2 ^ i % 2 = 1)
def zTz (x : Nat) : Nat := zFst (zTzP x) 8
def zTzF (y : Nat) : Nat := if y ≤ 0 then 0 else if y ≤ 16 then (if y ≤ 4 then 1 + y / 2 ^ 1 else 1 + 2 + y / 2 ^ 2 / 2 ^ 1) else (if y / 2 ^ 4 ≤ 4 then 1 + 4 + y / 2 ^ 4 / 2 ^ 1 else 1 + 4 + 2 + y / 2 ^ 4 / 2 ^ 2 / 2 ^ 1)
theorem zTz_c : ∀ x, x < 256 → 0 < x → zTz x = zTzF (zTm x) := by decide +kernel
section ZJ
variable {p : Program} {l : Launch} {e : Env} {R : Room} {s : State} {m : MethodId} {args : Array Value} {below : List Frame} {meth : Method} {c : Code} {H : Heap} {locs : List Loc} {cells slots : Nat} {Q : State → Prop}
variable {cc : ByteArray} {pc : Nat} {ls : Array Slot} {rest : List Value}
theorem z_su : ∀ n, n < 32 → (((nI n).toUInt32 &&& Int32.toUInt32 31).toBitVec % 32).toNat = n := by decide +kernel
theorem zi_ushr {a b : Nat} (hexec : p.tables.exec = Jvm.exec) (hb : c.code = cc) (hdg : decode cc pc = .ok (.iushr, 1)) (ha : a < 2147483648) (h : b < 32) (k : W p l e R s m args below meth c H locs cells slots Q (F0 m (pc + 1) ls (.int (nI (a / 2 ^ b)) :: rest))) : W p l e R s m args below meth c H locs cells slots Q (F0 m pc ls (.int (nI b) :: .int (nI a) :: rest)) :=
  lv_iushr hexec hb hdg (pk_ushrN (by omega) _ b (z_su b h)) k
theorem zi_and127 (hexec : p.tables.exec = Jvm.exec) (hb : c.code = cc) {a : Nat} (hdg : decode cc pc = .ok (.iand, 1)) (k : W p l e R s m args below meth c H locs cells slots Q (F0 m (pc + 1) ls (.int (nI (a % 128)) :: rest))) : W p l e R s m args below meth c H locs cells slots Q (F0 m pc ls (.int (nI 127) :: .int (nI a) :: rest)) := lv_iand hexec hb hdg (zti ((z_and a 127).trans (congrArg nI (Nat.and_two_pow_sub_one_eq_mod a 7))) k)
theorem zi_and63 (hexec : p.tables.exec = Jvm.exec) (hb : c.code = cc) {a : Nat} (hdg : decode cc pc = .ok (.iand, 1)) (k : W p l e R s m args below meth c H locs cells slots Q (F0 m (pc + 1) ls (.int (nI (a % 64)) :: rest))) : W p l e R s m args below meth c H locs cells slots Q (F0 m pc ls (.int (nI 63) :: .int (nI a) :: rest)) := lv_iand hexec hb hdg (zti ((z_and a 63).trans (congrArg nI (Nat.and_two_pow_sub_one_eq_mod a 6))) k)
end ZJ
