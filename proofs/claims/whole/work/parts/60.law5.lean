/-! the law: where it begins -/
/-! THE CLAIM OUT OF ONE WALK OF THE LAW'S BODY. Your part is whole_start (and what it stands on); all else here is the same for every law, but numbers. -/
def R_law : String := "DyckReachabilityLaw"
def lw_P (b : Addr) (xs : List Int32) (args : Array Value) (s : State) : Prop := args = #[.ref b] ∧ s.IntsAt b xs ∧ xs.length ≤ 2048 ∧ (Jvm.Cond.and given_1 narrow_1).before args s = true
def lw_Q (_ : Array Value) (s : State) (o : Outcome) (t : State) : Prop := o = .returned (some (.int 1)) ∧ Framed s o t [] 600000 7302250
def lw_Z (below : List Frame) (a : Array Value) (s : State) : State → Prop := fun t => ∃ o, t.status = .running ∧ Ended t below o ∧ lw_Q a s o t
/-- the law's own end, with 1 on the stack, nothing written that was there before, its room as the claim has it -/
theorem lw_ret {p : Program} {l : Launch} {e : Env} {s : State} {m : MethodId} {below : List Frame} {meth : Method} {c : Code} {b : Nat} (hx : p.tables.exec = Jvm.exec) (hb : c.code = code) (hr : meth.sig.returnType = ret) (hlocks : meth.locks = false) {pc : Nat} {H : Heap} {ls : Array Slot} (hdg : decode code pc = .ok (.ireturn, 1)) : W p l e room_1 s m #[Value.ref b] below meth c H [] 600000 7302250 (lw_Z below #[Value.ref b] s) (F0 m pc ls [.int 1]) := by
  intro T hT X
  obtain ⟨fs, hret, hrun, hended, hW, hframe⟩ := X.leave (v := some (.int 1)) (hlocks := hlocks) (fun h => by rw [hr] at h; cases h)
  have hmeth' : T.vm.method? m = some meth := X.method'
  refine ⟨T.setFrames fs, ?_, .returned (some (.int 1)), hrun, hended, rfl, ⟨_, rfl⟩, hW, hframe⟩
  jvm_step X.here [X.here.top, hx, hb, hdg, hmeth', hr, ret, narrow_b1]
  (try refine ⟨rfl, ?_⟩); (try refine ⟨rfl, ?_⟩)
  first | (intro acts; rw [hret _ acts rfl rfl rfl]) | rw [hret _ _ rfl rfl rfl]
  exact Steps.refl _
/-- what holds at the law's entry: the machine, the code, the tables' words (any of lw_tbl by 'hts w (by decide +kernel)'), the script of L ints xs at the cell b, what the Statement gives of the start (any of its parts by flat_of_before) -/
def lw_At (p : Program) (s : State) (m : MethodId) (meth : Method) (c : Code) (b L : Nat) (xs : Nat → Int32) : Prop :=
  p.tables.exec = Jvm.exec ∧ c.code = code ∧ meth.sig.returnType = ret ∧ c.maxLocals = 4 ∧ s.vm.findClass R_law = some m.cls ∧ (∀ w ∈ lw_tbl, w.before #[Value.ref b] s = true) ∧ va_X b L xs s s.heap ∧ b < s.heap.size ∧ meth.locks = false ∧ (Jvm.Cond.and given_1 narrow_1).before #[Value.ref b] s = true
theorem lw_in {i k L : Nat} (h : i + k < L) (hL : L ≤ 2048) : vp_in (nI i + nI k) L := by
  have e : nI i + nI k = nI (i + k) := by
    have h2 := zinc i k
    rw [← h2]
    congr 1
  rw [e]; exact zin h (by omega)
theorem lw_iN (x : Int32) : x = nI x.toBitVec.toNat := by
  apply Int32.toBitVec_inj.mp
  apply BitVec.eq_of_toNat_eq
  show _ = (BitVec.ofNat 32 x.toBitVec.toNat).toNat
  rw [BitVec.toNat_ofNat, Nat.mod_eq_of_lt x.toBitVec.isLt]
theorem lw_31 (x : Int32) : ∃ k : Nat, k < 32 ∧ x &&& nI 31 = nI k := by
  refine ⟨(x &&& nI 31).toBitVec.toNat, ?_, lw_iN _⟩
  have h : (x &&& nI 31).toBitVec.toNat = x.toBitVec.toNat &&& 31 := by
    show (x.toBitVec &&& (nI 31).toBitVec).toNat = _
    rw [BitVec.toNat_and]; rfl
  rw [h]
  have := Nat.and_le_right (n := x.toBitVec.toNat) (m := 31)
  omega
theorem lw_len {L : Nat} (hL : L ≤ 2048) : (Int32.ofNat L - nI 4).toInt = (L : Int) - 4 := by
  have e1 : (Int32.ofNat L).toInt = (L : Int) := zI (show L < 2147483648 by omega)
  have e2 : (nI 4).toInt = 4 := zI (show 4 < 2147483648 by omega)
  rw [Int32.toInt_sub, e1, e2]
  exact Int.bmod_eq_of_le (by omega) (by omega)
def LK (p : Program) (e : Env) (s : State) (m : MethodId) (below : List Frame) (meth : Method) (c : Code) (l : Launch) (b : Nat) (G : zG) (A : Nat → Nat) (fr fsl : Nat → Option Nat) (ha sa : Nat → zQA) (B : Nat → Nat) (pc i : Nat) : Prop := ∀ (c' : zCS) (r' : zMS) (H : Heap) (locs : List Loc) (ls : Array Slot), LI c' r' → va_P G.1 vwCl (CW G A fr fsl ha sa c' ++ RW G B r') H → va_D (fun q : Nat => s.heap.size ≤ q) (CW G A fr fsl ha sa c' ++ RW G B r') → va_S (fun q : Nat => s.heap.size ≤ q) s.heap H locs → lv_has ls 4 [(3, .int (nI i)), (2, .ref (B 0)), (1, .ref (A 0)), (0, .ref b)] → W p l e room_1 s m #[Value.ref b] below meth c H locs 103 2474 (lw_Z below #[Value.ref b] s) (F0 m pc ls [])
set_option maxHeartbeats 4000000 in
set_option maxRecDepth 100000 in
theorem lw_G {p : Program} {s : State} {m : MethodId} {meth : Method} {c : Code} {b L : Nat} {xs : Nat → Int32} (C0 : lw_At p s m meth c b L xs) : ∃ G : zG, va_K G.1 vwCl (zT G) s ∧ zE G (fun q : Nat => s.heap.size ≤ q) s s.heap ∧ va_AO RX2 s := by
  obtain ⟨hx, hb, hr, hml, hown, hts, hX, hbl, hlocks, hgv⟩ := C0
  have hA0 : ∀ a : Nat, a < s.heap.size → ¬ (fun q : Nat => s.heap.size ≤ q) a := fun a h => Nat.not_le.mpr h
  have hs := flat_of_before _ hgv
  obtain ⟨t1, e1, hT1⟩ := va_Tof (tm := .static RX3 "LABEL_SIGNS" "[C") (ty := .char) (N := 7) (f := zLab) (A := fun q : Nat => s.heap.size ≤ q) (by decide) (hs _ (by decide +kernel)) (va_eqt (hs _ (by decide +kernel))) (fun j hj => by rcases (show j = 0 ∨ j = 1 ∨ j = 2 ∨ j = 3 ∨ j = 4 ∨ j = 5 ∨ j = 6 by omega) with rfl | rfl | rfl | rfl | rfl | rfl | rfl <;> exact va_eqt (hs _ (by decide +kernel))) hA0
  obtain ⟨t2, e2, hT2⟩ := va_Tof (tm := .static RX0 "FACTORIALS" "[I") (ty := .int) (N := 8) (f := zFac) (A := fun q : Nat => s.heap.size ≤ q) (by decide) (hs _ (by decide +kernel)) (va_eqt (hs _ (by decide +kernel))) (fun j hj => by rcases (show j = 0 ∨ j = 1 ∨ j = 2 ∨ j = 3 ∨ j = 4 ∨ j = 5 ∨ j = 6 ∨ j = 7 by omega) with rfl | rfl | rfl | rfl | rfl | rfl | rfl | rfl <;> exact va_eqt (hs _ (by decide +kernel))) hA0
  obtain ⟨t3, e3, hT3⟩ := va_Tof (tm := .static RX0 "SCALES" "[I") (ty := .int) (N := 9) (f := zSca) (A := fun q : Nat => s.heap.size ≤ q) (by decide) (hs _ (by decide +kernel)) (va_eqt (hs _ (by decide +kernel))) (fun j hj => by rcases (show j = 0 ∨ j = 1 ∨ j = 2 ∨ j = 3 ∨ j = 4 ∨ j = 5 ∨ j = 6 ∨ j = 7 ∨ j = 8 by omega) with rfl | rfl | rfl | rfl | rfl | rfl | rfl | rfl | rfl <;> exact va_eqt (hs _ (by decide +kernel))) hA0
  have hZ1 := va_Zref (A := fun q : Nat => s.heap.size ≤ q) (hts (.laysStatic RX3 "LABEL_SIGNS" "[C") (by decide +kernel)) (hts (.initialized RX3) (by decide +kernel)) e1 hA0
  have hZ2 := va_Zref (A := fun q : Nat => s.heap.size ≤ q) (hts (.laysStatic RX0 "FACTORIALS" "[I") (by decide +kernel)) (hts (.initialized RX0) (by decide +kernel)) e2 hA0
  have hZ3 := va_Zref (A := fun q : Nat => s.heap.size ≤ q) (hts (.laysStatic RX0 "SCALES" "[I") (by decide +kernel)) (hts (.initialized RX0) (by decide +kernel)) e3 hA0
  have hNm : va_Nw zNm s := va_Nw.of (w := zNm) rfl (hts zNm (by decide +kernel))
  have hNm2 : va_Nw zNm2 s := va_Nw.of (w := zNm2) rfl (hts zNm2 (by decide +kernel))
  have hAO : va_AO RX2 s := va_AO.of (hts (.arrayOver (.object RX2)) (by decide +kernel))
  obtain ⟨c0, iS0, k0⟩ := u_known (C := RX1) (T := TX1) (N := 2) (n := 2) hts wsX10_in (hts (.instantiable RX1 2) (by decide +kernel))
  obtain ⟨c1, iS1, k1⟩ := u_known (C := RX2) (T := TX2) (N := 4) (n := 4) hts wsX20_in (hts (.instantiable RX2 4) (by decide +kernel))
  obtain ⟨c2, iS2, k2⟩ := u_known (C := RX3) (T := TX3) (N := 2) (n := 2) hts wsX30_in (hts (.instantiable RX3 2) (by decide +kernel))
  obtain ⟨c3, iS3, k3⟩ := u_known (C := RX4) (T := TX4) (N := 3) (n := 3) hts wsX40_in (hts (.instantiable RX4 3) (by decide +kernel))
  obtain ⟨c4, iS4, k4⟩ := u_known (C := RX5) (T := TX5) (N := 4) (n := 4) hts wsX50_in (hts (.instantiable RX5 4) (by decide +kernel))
  obtain ⟨c5, iS5, k5⟩ := u_known (C := RX8) (T := TX8) (N := 11) (n := 11) hts wsX80_in (hts (.instantiable RX8 11) (by decide +kernel))
  obtain ⟨c6, iS6, k6⟩ := u_known (C := RX9) (T := TX9) (N := 21) (n := 21) hts wsX90_in (hts (.instantiable RX9 21) (by decide +kernel))
  obtain ⟨cI, kI, pI, i1, i2, i3⟩ := Cond.arrayClass_spec (args := #[Value.ref b]) (first := s) (s := s) (o := none) (idx := []) (hts (.arrayClass .int) (by decide +kernel))
  obtain ⟨cZ, kZ, pZ, z1, z2, z3⟩ := Cond.arrayClass_spec (args := #[Value.ref b]) (first := s) (s := s) (o := none) (idx := []) (hts (.arrayClass .boolean) (by decide +kernel))
  obtain ⟨pE, cE, kE, f4, -, f2, f3, f1⟩ := Cond.arrayOver_spec (args := #[Value.ref b]) (first := s) (s := s) (o := none) (idx := []) (n := RX2) (hts (.arrayOver (.object RX2)) (by decide +kernel))
  refine ⟨((fun k => match k with | 0 => c0 | 1 => c1 | 2 => c2 | 3 => c3 | 4 => c4 | 5 => c5 | _ => c6, fun k => match k with | 0 => iS0 | 1 => iS1 | 2 => iS2 | 3 => iS3 | 4 => iS4 | 5 => iS5 | _ => iS6), (cI, cZ, cE), (t1, t2, t3)), ⟨?_, ?_⟩, ⟨⟨⟨hZ1, hT1⟩, ⟨hZ2, hT2⟩, ⟨hZ3, hT3⟩⟩, hNm, hNm2⟩, hAO⟩
  · intro k q hq
    match k, hq with
    | 0, hq => cases hq; exact k0
    | 1, hq => cases hq; exact k1
    | 2, hq => cases hq; exact k2
    | 3, hq => cases hq; exact k3
    | 4, hq => cases hq; exact k4
    | 5, hq => cases hq; exact k5
    | 6, hq => cases hq; exact k6
    | k + 7, hq => simp [vwCl] at hq
  · intro k q hq
    match k, hq with
    | 0, hq => cases hq; exact ⟨fun n z => ⟨fun k h => (by cases h), kI, i2, pI, i3⟩, i1⟩
    | 1, hq => cases hq; exact ⟨fun n z => ⟨fun k h => (by cases h), kZ, z2, pZ, z3⟩, z1⟩
    | 2, hq => cases hq; exact ⟨fun n z => ⟨fun k h => (by cases h), kE, f2, pE, f3⟩, kE, pE, f2, f3, f4, f1⟩
    | k + 3, hq => simp [zT] at hq
