/-! the base: arrays of small numbers, contracts that are functions, how a walk begins, how a call goes -/
def zF (g : Nat → Nat) : Nat → Int32 := fun i => nI (g i)
def zU (g : Nat → Nat) (k x : Nat) : Nat → Nat := fun j => if j = k then x else g j
theorem zF_upd (g : Nat → Nat) (k x : Nat) : upd (zF g) k (nI x) = zF (zU g k x) := by
  funext j
  simp only [upd, zF, zU]
  split <;> rfl
theorem zU_same (g : Nat → Nat) (k x : Nat) : zU g k x k = x := by simp [zU]
theorem zU_ne {g : Nat → Nat} {k x j : Nat} (h : j ≠ k) : zU g k x j = g j := by simp [zU, h]
def bI (b : Bool) : Int32 := if b then 1 else 0
theorem bI_t {P : Prop} [Decidable P] (h : P) : (1 : Int32) = bI (decide P) := by simp [bI, h]
theorem bI_f {P : Prop} [Decidable P] (h : ¬ P) : (0 : Int32) = bI (decide P) := by simp [bI, h]
theorem bI_nar (b : Bool) : narrow .boolean (.int (bI b)) = .int (bI b) := by cases b <;> decide
theorem zI {n : Nat} (h : n < 2147483648) : (nI n).toInt = (n : Int) := nI_toInt h
theorem zcl {n : Nat} (h : n < 2147483648) : (nI n).toNatClampNeg = n := nI_clamp h
theorem zin {i n : Nat} (h : i < n) (hn : n < 2147483648) : vp_in (nI i) n := vp_in_nI h hn
/-- the names of a run: the tables' numbers of classes and slots; the array classes of ints, booleans, Edges; the three static rows -/
abbrev zG : Type := va_G × (ClassId × ClassId × ClassId) × (Nat × Nat × Nat)
abbrev zT (G : zG) : List (ClassId × FieldType) := [(G.2.1.1, .int), (G.2.1.2.1, .boolean), (G.2.1.2.2, .object RX2)]
abbrev zA (G : zG) (a n : Nat) (f : Nat → Nat) : Nat × va_E := (a, .inl (G.2.1.1, n, .inl (zF f)))
abbrev zB (G : zG) (a n : Nat) (f : Nat → Nat) : Nat × va_E := (a, .inl (G.2.1.2.1, n, .inl (zF f)))
abbrev zR (G : zG) (a n : Nat) (f : Nat → Option Nat) : Nat × va_E := (a, .inl (G.2.1.2.2, n, .inr (.inr (.inr (.inr f)))))
def zLabL : List Nat := [46, 97, 98, 99, 65, 66, 67]
def zFacL : List Nat := [1, 1, 2, 6, 24, 120, 720, 5040]
def zScaL : List Nat := [40320, 40320, 20160, 6720, 1680, 336, 56, 8, 1]
def zLab : Nat → Value := fun j => .int (nI (zLabL.getD j 0))
def zFac : Nat → Value := fun j => .int (nI (zFacL.getD j 0))
def zSca : Nat → Value := fun j => .int (nI (zScaL.getD j 0))
def zS (G : zG) (A : Nat → Prop) (U : State) (H : Heap) : Prop :=
  (va_Z RX3 "LABEL_SIGNS" "[C" (.ref G.2.2.1) A U H ∧ va_T .char G.2.2.1 7 zLab A U H) ∧
  (va_Z RX0 "FACTORIALS" "[I" (.ref G.2.2.2.1) A U H ∧ va_T .int G.2.2.2.1 8 zFac A U H) ∧
  (va_Z RX0 "SCALES" "[I" (.ref G.2.2.2.2) A U H ∧ va_T .int G.2.2.2.2 9 zSca A U H)
theorem zS.moved {G : zG} {A : Nat → Prop} {u U : State} {H : Heap} (hvm : u.vm.Alike U.vm) (h : zS G A u H) : zS G A U H :=
  ⟨⟨h.1.1.moved hvm, h.1.2.moved hvm⟩, ⟨h.2.1.1.moved hvm, h.2.1.2.moved hvm⟩, ⟨h.2.2.1.moved hvm, h.2.2.2.moved hvm⟩⟩
theorem zS.kept {G : zG} {A : Nat → Prop} {U : State} {H H1 : Heap} (h : zS G A U H) (hq : ∀ a : Nat, a < H.size → ¬ A a → H1[a]? = H[a]?) : zS G A U H1 :=
  ⟨⟨h.1.1.kept hq, h.1.2.kept hq⟩, ⟨h.2.1.1.kept hq, h.2.1.2.kept hq⟩, ⟨h.2.2.1.kept hq, h.2.2.2.kept hq⟩⟩
theorem zS.narrow {G : zG} {A B : Nat → Prop} {U : State} {H : Heap} (h : zS G A U H) (hAB : ∀ q, B q → A q) : zS G B U H :=
  ⟨⟨h.1.1.narrow hAB, h.1.2.narrow hAB⟩, ⟨h.2.1.1.narrow hAB, h.2.1.2.narrow hAB⟩, ⟨h.2.2.1.narrow hAB, h.2.2.2.narrow hAB⟩⟩
/-- and the two links to nest mates' private methods -/
def zNm : Cond := .methodLinkNest RX7 45 yX8_isLabel RX8
def zNm2 : Cond := .methodLinkNest RX1 62 yX8_isVertexNumber RX8
def zE (G : zG) (A : Nat → Prop) (U : State) (H : Heap) : Prop := zS G A U H ∧ va_Nw zNm U ∧ va_Nw zNm2 U
/-- the world before a call, and behind it -/
def zPre (G : zG) (w : va_W) (sz : Nat) (U : State) : Prop := U.heap.size = sz ∧ va_P G.1 vwCl w U.heap ∧ va_K G.1 vwCl (zT G) U ∧ va_D (fun _ => True) w ∧ zE G (va_A w sz) U U.heap
def zPost (G : zG) (w w2 : va_W) (sz : Nat) (t : State) : Prop := va_P G.1 vwCl w2 t.heap ∧ va_K G.1 vwCl (zT G) t ∧ va_D (va_A w sz) w2
/-- contracts: the method answers r, and the world w becomes w2 -/
def MI (l : Launch) (y : MethodName) (ws : List Cond) (rm : Room) (G : zG) (av : List Value) (w : va_W) (r : Int32) (w2 : va_W) : Prop :=
  ∀ sz : Nat, Met l y ws rm (va_Pc av (zPre G w sz)) (va_Qi (fun a (_ : Unit) => a = r) (fun _ t => zPost G w w2 sz t) (va_A w sz)) 0 0 (va_A w sz)
def ML (l : Launch) (y : MethodName) (ws : List Cond) (rm : Room) (G : zG) (av : List Value) (w : va_W) (r : Int64) (w2 : va_W) : Prop :=
  ∀ sz : Nat, Met l y ws rm (va_Pc av (zPre G w sz)) (va_Ql (fun a (_ : Unit) => a = r) (fun _ t => zPost G w w2 sz t) (va_A w sz)) 0 0 (va_A w sz)
def MV (l : Launch) (y : MethodName) (ws : List Cond) (rm : Room) (G : zG) (av : List Value) (w : va_W) (w2 : va_W) : Prop :=
  ∀ sz : Nat, Met l y ws rm (va_Pc av (zPre G w sz)) (va_Qv (fun (_ : Unit) => True) (fun _ t => zPost G w w2 sz t) (va_A w sz)) 0 0 (va_A w sz)
theorem zPre_blind (G : zG) (w : va_W) (sz : Nat) (av : List Value) : FrameBlind (va_Pc av (zPre G w sz)) := by
  intro a U g mk q
  obtain ⟨q0, q1, qP, qK, qD, qS⟩ := q
  exact ⟨q0, q1, qP, va_K.moved (u := U) (U := U.calling g mk a) (Vm.Alike.refl U.vm) qK, qD, zS.moved (u := U) (U := U.calling g mk a) (Vm.Alike.refl U.vm) qS.1, va_Nw.same (u := U) (U := U.calling g mk a) rfl rfl qS.2.1, va_Nw.same (u := U) (U := U.calling g mk a) rfl rfl qS.2.2⟩
/-- what stands at a method's first instruction -/
def zAt (p : Program) (l : Launch) (e : Env) (rm : Room) (G : zG) (s : State) (m : MethodId) (av : List Value) (c : Code) (cc : ByteArray) (maxL : Nat) (ws : List Cond) (own : String) (w : va_W) (A : Nat → Prop) (ls : Array Slot) : Prop :=
  CallFix p m c cc maxL s av.toArray ws own ∧ (∀ q, s.heap.size ≤ q → A q) ∧ va_K G.1 vwCl (zT G) s ∧ zE G A s s.heap ∧ va_P G.1 vwCl w s.heap ∧ va_D A w ∧ va_S A s.heap s.heap [] ∧ lv_has ls maxL (lv_args 0 av)
section ENTER
variable {l : Launch} {y : MethodName} {ws ws' : List Cond} {rm : Room} {G : zG} {av : List Value} {w w2 : va_W} {cc : ByteArray} {maxL : Nat}
theorem MI.enter {r : Int32} {ty : FieldType} (hy : plainName y.cls = true) (hw : ws = Cond.code y cc maxL (some ty) :: ws') (hlen : (lg_sl av).length ≤ maxL) (hn : narrow ty (.int r) = .int r)
    (body : ∀ (p : Program) (e : Env) (s : State) (m : MethodId) (below : List Frame) (meth : Method) (c : Code) (Q : State → Prop) (A : Nat → Prop) (ls : Array Slot), zAt p l e rm G s m av c cc maxL ws y.cls w A ls →
      (∀ (H : Heap) (locs : List Loc) (pc : Nat) (ls2 : Array Slot) (x : Int32) (w3 : va_W), x = r → w3 = w2 → va_P G.1 vwCl w3 H → va_D A w3 → va_S A s.heap H locs → decode cc pc = .ok (.ireturn, 1) → W p l e rm s m av.toArray below meth c H locs 0 0 Q (F0 m pc ls2 [.int x])) →
      W p l e rm s m av.toArray below meth c s.heap [] 0 0 Q (F0 m 0 ls [])) : MI l y ws rm G av w r w2 := by
  intro sz
  refine Met.ofW (cc := cc) (maxL := maxL) (ret := some ty) hy hw ?_
  intro p e s m args below meth c s₁ B hml hv
  obtain ⟨rfl, hsz, hP, hK, hD0, hE⟩ := hv
  subst hsz
  have hr := B.returns
  have hlocks := B.notSynchronized
  rw [lg_entry_eq]
  refine body p e s m below meth c _ (va_A w s.heap.size) _ ⟨⟨B.exec, B.bytes, hml, findClass_of_methodNamed B.named, atoms_spec (ws := ws) B.pre⟩, fun q h => Or.inr h, hK, hE, hP, hD0.self, va_S.rf, lv_entry av hlen⟩ ?_
  intro H locs pc ls2 x w3 hxr hww hP2 hD2 hS2 hdg
  subst hxr; subst hww
  exact W.zret (ty := ty) B.exec B.bytes hr hn (fun t ht hW => ⟨⟨x, (), rfl, rfl, by rw [ht]; exact hP2, va_K.moved hW.alike hK, hD2⟩, hS2.F ht⟩) hS2.2.2 hdg
theorem ML.enter {r : Int64} (hy : plainName y.cls = true) (hw : ws = Cond.code y cc maxL (some .long) :: ws') (hlen : (lg_sl av).length ≤ maxL)
    (body : ∀ (p : Program) (e : Env) (s : State) (m : MethodId) (below : List Frame) (meth : Method) (c : Code) (Q : State → Prop) (A : Nat → Prop) (ls : Array Slot), zAt p l e rm G s m av c cc maxL ws y.cls w A ls →
      (∀ (H : Heap) (locs : List Loc) (pc : Nat) (ls2 : Array Slot) (x : Int64) (w3 : va_W), x = r → w3 = w2 → va_P G.1 vwCl w3 H → va_D A w3 → va_S A s.heap H locs → decode cc pc = .ok (.lreturn, 1) → W p l e rm s m av.toArray below meth c H locs 0 0 Q (F0 m pc ls2 [.long x])) →
      W p l e rm s m av.toArray below meth c s.heap [] 0 0 Q (F0 m 0 ls [])) : ML l y ws rm G av w r w2 := by
  intro sz
  refine Met.ofW (cc := cc) (maxL := maxL) (ret := some .long) hy hw ?_
  intro p e s m args below meth c s₁ B hml hv
  obtain ⟨rfl, hsz, hP, hK, hD0, hE⟩ := hv
  subst hsz
  have hr := B.returns
  have hlocks := B.notSynchronized
  rw [lg_entry_eq]
  refine body p e s m below meth c _ (va_A w s.heap.size) _ ⟨⟨B.exec, B.bytes, hml, findClass_of_methodNamed B.named, atoms_spec (ws := ws) B.pre⟩, fun q h => Or.inr h, hK, hE, hP, hD0.self, va_S.rf, lv_entry av hlen⟩ ?_
  intro H locs pc ls2 x w3 hxr hww hP2 hD2 hS2 hdg
  subst hxr; subst hww
  exact W.lret B.exec B.bytes hr (fun t ht hW => ⟨⟨x, (), rfl, rfl, by rw [ht]; exact hP2, va_K.moved hW.alike hK, hD2⟩, hS2.F ht⟩) hS2.2.2 hdg
theorem MV.enter (hy : plainName y.cls = true) (hw : ws = Cond.code y cc maxL none :: ws') (hlen : (lg_sl av).length ≤ maxL)
    (body : ∀ (p : Program) (e : Env) (s : State) (m : MethodId) (below : List Frame) (meth : Method) (c : Code) (Q : State → Prop) (A : Nat → Prop) (ls : Array Slot), zAt p l e rm G s m av c cc maxL ws y.cls w A ls →
      (∀ (H : Heap) (locs : List Loc) (pc : Nat) (ls2 : Array Slot) (w3 : va_W), w3 = w2 → va_P G.1 vwCl w3 H → va_D A w3 → va_S A s.heap H locs → decode cc pc = .ok (.return_, 1) → W p l e rm s m av.toArray below meth c H locs 0 0 Q (F0 m pc ls2 [])) →
      W p l e rm s m av.toArray below meth c s.heap [] 0 0 Q (F0 m 0 ls [])) : MV l y ws rm G av w w2 := by
  intro sz
  refine Met.ofW (cc := cc) (maxL := maxL) (ret := none) hy hw ?_
  intro p e s m args below meth c s₁ B hml hv
  obtain ⟨rfl, hsz, hP, hK, hD0, hE⟩ := hv
  subst hsz
  have hr := B.returns
  have hlocks := B.notSynchronized
  rw [lg_entry_eq]
  refine body p e s m below meth c _ (va_A w s.heap.size) _ ⟨⟨B.exec, B.bytes, hml, findClass_of_methodNamed B.named, atoms_spec (ws := ws) B.pre⟩, fun q h => Or.inr h, hK, hE, hP, hD0.self, va_S.rf, lv_entry av hlen⟩ ?_
  intro H locs pc ls2 w3 hww hP2 hD2 hS2 hdg
  subst hww
  exact W.vret B.exec B.bytes hr (fun t ht hW => ⟨⟨(), rfl, trivial, by rw [ht]; exact hP2, va_K.moved hW.alike hK, hD2⟩, hS2.F ht⟩) hS2.2.2 hdg
end ENTER
/-- the world behind a call, in the order that the caller wants -/
theorem zjoin {G : zG} {A : Nat → Prop} {W1 wc wr wc2 W2 : va_W} {H H1 : Heap} (hP : va_P G.1 vwCl W1 H) (hD : va_D A W1) (isC isR perm : List Nat) (hC : isC.map (fun i => W1[i]?) = wc.map some) (hR : isR.map (fun i => W1[i]?) = wr.map some) (hn : va_nd isR = true) (hdis : ∀ i ∈ isR, i ∉ isC)
    (hk : ∀ q : Nat, q < H.size → ¬ va_A wc H.size q → H1[q]? = H[q]?) (hF : ∀ q, va_A wc H.size q → A q) (hP1 : va_P G.1 vwCl wc2 H1) (hD1 : va_D (va_A wc H.size) wc2) (hp : perm.map (fun i => (wr ++ wc2)[i]?) = W2.map some) (hnp : va_nd perm = true) : va_P G.1 vwCl W2 H1 ∧ va_D A W2 := by
  obtain ⟨g1, g2⟩ := va_join hP hD isC isR hC hR hn hdis hk hF hP1 hD1
  refine ⟨g1.sub perm ?_, g2.sub perm hnp hp⟩
  have e : perm.filterMap (fun i => (wr ++ wc2)[i]?) = (perm.map (fun i => (wr ++ wc2)[i]?)).filterMap id := by rw [List.filterMap_map]; rfl
  rw [e, hp, List.filterMap_map]
  have e2 : (id ∘ some : Nat × va_E → Option (Nat × va_E)) = some := rfl
  rw [e2, List.filterMap_some]
theorem zsubP {G : zG} {W1 wc : va_W} {H : Heap} (hP : va_P G.1 vwCl W1 H) (isC : List Nat) (hC : isC.map (fun i => W1[i]?) = wc.map some) : va_P G.1 vwCl wc H := by
  refine hP.sub isC ?_
  have e : isC.filterMap (fun i => W1[i]?) = (isC.map (fun i => W1[i]?)).filterMap id := by rw [List.filterMap_map]; rfl
  rw [e, hC, List.filterMap_map]
  have e2 : (id ∘ some : Nat × va_E → Option (Nat × va_E)) = some := rfl
  rw [e2, List.filterMap_some]
theorem zrest {G : zG} {A : Nat → Prop} {W1 wc : va_W} {s U : State} {H : Heap} {locs : List Loc} (hK : va_K G.1 vwCl (zT G) s) (hE : zE G A s s.heap) (hP : va_P G.1 vwCl wc H) (hD : va_D A W1) (hS : va_S A s.heap H locs) (isC : List Nat) (hnc : va_nd isC = true) (hC : isC.map (fun i => W1[i]?) = wc.map some) (hF : ∀ q, va_A wc H.size q → A q) (hU : U.heap = H) (hW : s.WarmedH U.vm) : zPre G wc H.size U := by
  refine ⟨by rw [hU], by rw [hU]; exact hP, va_K.moved hW.alike hK, (hD.sub isC hnc hC).weaken (fun _ _ _ _ => trivial), ?_⟩
  rw [hU]
  exact ⟨((hE.1.kept (H1 := H) (fun a h1 h2 => hS.2.1 a h1 h2)).narrow hF).moved hW.alike, va_Nw.warmM hW hE.2.1, va_Nw.warmM hW hE.2.2⟩
section CALL
variable {p : Program} {l : Launch} {e : Env} {R : Room} {s : State} {m : MethodId} {args : Array Value} {below : List Frame} {meth : Method} {c : Code} {H : Heap} {locs : List Loc} {cells slots : Nat} {Q : State → Prop}
variable {cc bytes : ByteArray} {nL maxL n index : Nat} {Ts ws : List Cond} {own C : String} {y : MethodName} {ret : Option FieldType} {rm : Room} {G : zG} {A : Nat → Prop} {W1 W2 wc wr wc2 : va_W} {b pc : Nat} {As rest st0 : List Value} {ls : Array Slot}
theorem zVi {r : Int32} (S : CallFix p m c cc nL s args Ts own) (hM : MI l y ws rm G (.ref b :: As) wc r wc2) (cw : CallW R s args own C index y bytes maxL ret ws rm 0 0 n)
    (hK : va_K G.1 vwCl (zT G) s) (hE : zE G A s s.heap) (hA : ∀ q, s.heap.size ≤ q → A q) (hP : va_P G.1 vwCl W1 H) (hD : va_D A W1) (hS : va_S A s.heap H locs) (hsz : ls.size = nL)
    (isC isR perm : List Nat) (hC : isC.map (fun i => W1[i]?) = wc.map some) (hR : isR.map (fun i => W1[i]?) = wr.map some) (hp : perm.map (fun i => (wr ++ wc2)[i]?) = W2.map some) (hnc : (va_nd isC && va_nd isR && va_nd perm && isR.all (fun i => !isC.contains i)) = true)
    {ci : Nat} {q : vw_C} {fs : List Value} (hc : vwCl[ci]? = some q) (he : wc[0]? = some (b, .inr (ci, fs))) (hqC : q.1 = C)
    (hn : As.length = n) (hst : st0 = As.reverse ++ .ref b :: rest) (hW : (rest.map fun v => v.category).sum ≤ 8) (hcap : cells ≤ R.cells ∧ slots ≤ R.slots) (hdg : decode cc pc = .ok (.invokevirtual index, 3))
    (kk : ∀ (H1 : Heap) (locs1 : List Loc), va_P G.1 vwCl W2 H1 → va_D A W2 → va_S A s.heap H1 locs1 → W p l e R s m args below meth c H1 locs1 cells slots Q (F0 m (pc + 3) ls (.int r :: rest))) : W p l e R s m args below meth c H locs cells slots Q (F0 m pc ls st0) := by
  subst hqC
  simp only [Bool.and_eq_true] at hnc
  obtain ⟨⟨⟨n1, n2⟩, n3⟩, n4⟩ := hnc
  have hPc := zsubP hP isC hC
  have hFc := va_free (wc := wc) hD hS hA isC hC
  refine va_calli (va_runV (As := As) (rest := rest) S (hM H.size) cw ⟨zPre_blind G wc H.size _, va_recv hK hPc hc he, fun U hU hW => ⟨rfl, zrest hK hE hPc hD hS isC n1 hC hFc hU hW⟩⟩ rfl hn hsz hst (lv_room hW) hdg ⟨hcap.1, hcap.2⟩) hS (fun q _ h => hFc q h) hFc (fun r2 u t H1 locs1 ht hvm hw hB hz1 hk1 hS1 => ?_)
  subst hw
  obtain ⟨hP1, hK1, hD1⟩ := hB
  rw [ht] at hP1
  obtain ⟨g1, g2⟩ := zjoin hP hD isC isR perm hC hR n2 (fun i hi h => by have := List.all_eq_true.mp n4 i hi; simp [h] at this) hk1 hFc hP1 hD1 hp n3
  exact kk H1 locs1 g1 g2 hS1
theorem zVv (S : CallFix p m c cc nL s args Ts own) (hM : MV l y ws rm G (.ref b :: As) wc wc2) (cw : CallW R s args own C index y bytes maxL ret ws rm 0 0 n)
    (hK : va_K G.1 vwCl (zT G) s) (hE : zE G A s s.heap) (hA : ∀ q, s.heap.size ≤ q → A q) (hP : va_P G.1 vwCl W1 H) (hD : va_D A W1) (hS : va_S A s.heap H locs) (hsz : ls.size = nL)
    (isC isR perm : List Nat) (hC : isC.map (fun i => W1[i]?) = wc.map some) (hR : isR.map (fun i => W1[i]?) = wr.map some) (hp : perm.map (fun i => (wr ++ wc2)[i]?) = W2.map some) (hnc : (va_nd isC && va_nd isR && va_nd perm && isR.all (fun i => !isC.contains i)) = true)
    {ci : Nat} {q : vw_C} {fs : List Value} (hc : vwCl[ci]? = some q) (he : wc[0]? = some (b, .inr (ci, fs))) (hqC : q.1 = C)
    (hn : As.length = n) (hst : st0 = As.reverse ++ .ref b :: rest) (hW : (rest.map fun v => v.category).sum ≤ 8) (hcap : cells ≤ R.cells ∧ slots ≤ R.slots) (hdg : decode cc pc = .ok (.invokevirtual index, 3))
    (kk : ∀ (H1 : Heap) (locs1 : List Loc), va_P G.1 vwCl W2 H1 → va_D A W2 → va_S A s.heap H1 locs1 → W p l e R s m args below meth c H1 locs1 cells slots Q (F0 m (pc + 3) ls rest)) : W p l e R s m args below meth c H locs cells slots Q (F0 m pc ls st0) := by
  subst hqC
  simp only [Bool.and_eq_true] at hnc
  obtain ⟨⟨⟨n1, n2⟩, n3⟩, n4⟩ := hnc
  have hPc := zsubP hP isC hC
  have hFc := va_free (wc := wc) hD hS hA isC hC
  refine va_callv (va_runV (As := As) (rest := rest) S (hM H.size) cw ⟨zPre_blind G wc H.size _, va_recv hK hPc hc he, fun U hU hW => ⟨rfl, zrest hK hE hPc hD hS isC n1 hC hFc hU hW⟩⟩ rfl hn hsz hst (lv_room hW) hdg ⟨hcap.1, hcap.2⟩) hS (fun q _ h => hFc q h) hFc (fun u t H1 locs1 ht hvm hw hB hz1 hk1 hS1 => ?_)
  obtain ⟨hP1, hK1, hD1⟩ := hB
  rw [ht] at hP1
  obtain ⟨g1, g2⟩ := zjoin hP hD isC isR perm hC hR n2 (fun i hi h => by have := List.all_eq_true.mp n4 i hi; simp [h] at this) hk1 hFc hP1 hD1 hp n3
  exact kk H1 locs1 g1 g2 hS1
theorem zSi {r : Int32} (S : CallFix p m c cc nL s args Ts own) (hM : MI l y ws rm G As wc r wc2) (cw : CallB R s args own index y bytes maxL ret ws rm 0 0 n ∧ (Cond.static y).before args s = true)
    (hK : va_K G.1 vwCl (zT G) s) (hE : zE G A s s.heap) (hA : ∀ q, s.heap.size ≤ q → A q) (hP : va_P G.1 vwCl W1 H) (hD : va_D A W1) (hS : va_S A s.heap H locs) (hsz : ls.size = nL)
    (isC isR perm : List Nat) (hC : isC.map (fun i => W1[i]?) = wc.map some) (hR : isR.map (fun i => W1[i]?) = wr.map some) (hp : perm.map (fun i => (wr ++ wc2)[i]?) = W2.map some) (hnc : (va_nd isC && va_nd isR && va_nd perm && isR.all (fun i => !isC.contains i)) = true)
    (hn : As.length = n) (hst : st0 = As.reverse ++ rest) (hW : (rest.map fun v => v.category).sum ≤ 8) (hcap : cells ≤ R.cells ∧ slots ≤ R.slots) (hdg : decode cc pc = .ok (.invokestatic index, 3))
    (kk : ∀ (H1 : Heap) (locs1 : List Loc), va_P G.1 vwCl W2 H1 → va_D A W2 → va_S A s.heap H1 locs1 → W p l e R s m args below meth c H1 locs1 cells slots Q (F0 m (pc + 3) ls (.int r :: rest))) : W p l e R s m args below meth c H locs cells slots Q (F0 m pc ls st0) := by
  simp only [Bool.and_eq_true] at hnc
  obtain ⟨⟨⟨n1, n2⟩, n3⟩, n4⟩ := hnc
  have hPc := zsubP hP isC hC
  have hFc := va_free (wc := wc) hD hS hA isC hC
  refine va_calli (va_runS (As := As) (rest := rest) S (hM H.size) cw ⟨zPre_blind G wc H.size _, fun U hU hW => ⟨rfl, zrest hK hE hPc hD hS isC n1 hC hFc hU hW⟩⟩ rfl hn hsz hst (lv_room hW) hdg ⟨hcap.1, hcap.2⟩) hS (fun q _ h => hFc q h) hFc (fun r2 u t H1 locs1 ht hvm hw hB hz1 hk1 hS1 => ?_)
  subst hw
  obtain ⟨hP1, hK1, hD1⟩ := hB
  rw [ht] at hP1
  obtain ⟨g1, g2⟩ := zjoin hP hD isC isR perm hC hR n2 (fun i hi h => by have := List.all_eq_true.mp n4 i hi; simp [h] at this) hk1 hFc hP1 hD1 hp n3
  exact kk H1 locs1 g1 g2 hS1
theorem zNi {host : String} {r : Int32} (S : CallFix p m c cc nL s args Ts own) (hM : MI l y ws rm G As wc r wc2) (cw : va_CN R s args own index y host bytes maxL ret ws rm 0 0 n ∧ (Cond.static y).before args s = true ∧ True)
    (hK : va_K G.1 vwCl (zT G) s) (hE : zE G A s s.heap) (hA : ∀ q, s.heap.size ≤ q → A q) (hP : va_P G.1 vwCl W1 H) (hD : va_D A W1) (hS : va_S A s.heap H locs) (hsz : ls.size = nL)
    (isC isR perm : List Nat) (hC : isC.map (fun i => W1[i]?) = wc.map some) (hR : isR.map (fun i => W1[i]?) = wr.map some) (hp : perm.map (fun i => (wr ++ wc2)[i]?) = W2.map some) (hnc : (va_nd isC && va_nd isR && va_nd perm && isR.all (fun i => !isC.contains i)) = true)
    (hn : As.length = n) (hst : st0 = As.reverse ++ rest) (hW : (rest.map fun v => v.category).sum ≤ 8) (hcap : cells ≤ R.cells ∧ slots ≤ R.slots) (hdg : decode cc pc = .ok (.invokestatic index, 3))
    (kk : ∀ (H1 : Heap) (locs1 : List Loc), va_P G.1 vwCl W2 H1 → va_D A W2 → va_S A s.heap H1 locs1 → W p l e R s m args below meth c H1 locs1 cells slots Q (F0 m (pc + 3) ls (.int r :: rest))) : W p l e R s m args below meth c H locs cells slots Q (F0 m pc ls st0) := by
  simp only [Bool.and_eq_true] at hnc
  obtain ⟨⟨⟨n1, n2⟩, n3⟩, n4⟩ := hnc
  have hPc := zsubP hP isC hC
  have hFc := va_free (wc := wc) hD hS hA isC hC
  refine va_calli (va_runSN (As := As) (rest := rest) S (hM H.size) cw ⟨zPre_blind G wc H.size _, fun U hU hW => ⟨rfl, zrest hK hE hPc hD hS isC n1 hC hFc hU hW⟩⟩ rfl hn hsz hst (lv_room hW) hdg ⟨hcap.1, hcap.2⟩) hS (fun q _ h => hFc q h) hFc (fun r2 u t H1 locs1 ht hvm hw hB hz1 hk1 hS1 => ?_)
  subst hw
  obtain ⟨hP1, hK1, hD1⟩ := hB
  rw [ht] at hP1
  obtain ⟨g1, g2⟩ := zjoin hP hD isC isR perm hC hR n2 (fun i hi h => by have := List.all_eq_true.mp n4 i hi; simp [h] at this) hk1 hFc hP1 hD1 hp n3
  exact kk H1 locs1 g1 g2 hS1
theorem zSl {r : Int64} (S : CallFix p m c cc nL s args Ts own) (hM : ML l y ws rm G As wc r wc2) (cw : CallB R s args own index y bytes maxL ret ws rm 0 0 n ∧ (Cond.static y).before args s = true)
    (hK : va_K G.1 vwCl (zT G) s) (hE : zE G A s s.heap) (hA : ∀ q, s.heap.size ≤ q → A q) (hP : va_P G.1 vwCl W1 H) (hD : va_D A W1) (hS : va_S A s.heap H locs) (hsz : ls.size = nL)
    (isC isR perm : List Nat) (hC : isC.map (fun i => W1[i]?) = wc.map some) (hR : isR.map (fun i => W1[i]?) = wr.map some) (hp : perm.map (fun i => (wr ++ wc2)[i]?) = W2.map some) (hnc : (va_nd isC && va_nd isR && va_nd perm && isR.all (fun i => !isC.contains i)) = true)
    (hn : As.length = n) (hst : st0 = As.reverse ++ rest) (hW : (rest.map fun v => v.category).sum ≤ 8) (hcap : cells ≤ R.cells ∧ slots ≤ R.slots) (hdg : decode cc pc = .ok (.invokestatic index, 3))
    (kk : ∀ (H1 : Heap) (locs1 : List Loc), va_P G.1 vwCl W2 H1 → va_D A W2 → va_S A s.heap H1 locs1 → W p l e R s m args below meth c H1 locs1 cells slots Q (F0 m (pc + 3) ls (.long r :: rest))) : W p l e R s m args below meth c H locs cells slots Q (F0 m pc ls st0) := by
  simp only [Bool.and_eq_true] at hnc
  obtain ⟨⟨⟨n1, n2⟩, n3⟩, n4⟩ := hnc
  have hPc := zsubP hP isC hC
  have hFc := va_free (wc := wc) hD hS hA isC hC
  refine va_calll (va_runS (As := As) (rest := rest) S (hM H.size) cw ⟨zPre_blind G wc H.size _, fun U hU hW => ⟨rfl, zrest hK hE hPc hD hS isC n1 hC hFc hU hW⟩⟩ rfl hn hsz hst (lv_room hW) hdg ⟨hcap.1, hcap.2⟩) hS (fun q _ h => hFc q h) hFc (fun r2 u t H1 locs1 ht hvm hw hB hz1 hk1 hS1 => ?_)
  subst hw
  obtain ⟨hP1, hK1, hD1⟩ := hB
  rw [ht] at hP1
  obtain ⟨g1, g2⟩ := zjoin hP hD isC isR perm hC hR n2 (fun i hi h => by have := List.all_eq_true.mp n4 i hi; simp [h] at this) hk1 hFc hP1 hD1 hp n3
  exact kk H1 locs1 g1 g2 hS1
theorem zSv (S : CallFix p m c cc nL s args Ts own) (hM : MV l y ws rm G As wc wc2) (cw : CallB R s args own index y bytes maxL ret ws rm 0 0 n ∧ (Cond.static y).before args s = true)
    (hK : va_K G.1 vwCl (zT G) s) (hE : zE G A s s.heap) (hA : ∀ q, s.heap.size ≤ q → A q) (hP : va_P G.1 vwCl W1 H) (hD : va_D A W1) (hS : va_S A s.heap H locs) (hsz : ls.size = nL)
    (isC isR perm : List Nat) (hC : isC.map (fun i => W1[i]?) = wc.map some) (hR : isR.map (fun i => W1[i]?) = wr.map some) (hp : perm.map (fun i => (wr ++ wc2)[i]?) = W2.map some) (hnc : (va_nd isC && va_nd isR && va_nd perm && isR.all (fun i => !isC.contains i)) = true)
    (hn : As.length = n) (hst : st0 = As.reverse ++ rest) (hW : (rest.map fun v => v.category).sum ≤ 8) (hcap : cells ≤ R.cells ∧ slots ≤ R.slots) (hdg : decode cc pc = .ok (.invokestatic index, 3))
    (kk : ∀ (H1 : Heap) (locs1 : List Loc), va_P G.1 vwCl W2 H1 → va_D A W2 → va_S A s.heap H1 locs1 → W p l e R s m args below meth c H1 locs1 cells slots Q (F0 m (pc + 3) ls rest)) : W p l e R s m args below meth c H locs cells slots Q (F0 m pc ls st0) := by
  simp only [Bool.and_eq_true] at hnc
  obtain ⟨⟨⟨n1, n2⟩, n3⟩, n4⟩ := hnc
  have hPc := zsubP hP isC hC
  have hFc := va_free (wc := wc) hD hS hA isC hC
  refine va_callv (va_runS (As := As) (rest := rest) S (hM H.size) cw ⟨zPre_blind G wc H.size _, fun U hU hW => ⟨rfl, zrest hK hE hPc hD hS isC n1 hC hFc hU hW⟩⟩ rfl hn hsz hst (lv_room hW) hdg ⟨hcap.1, hcap.2⟩) hS (fun q _ h => hFc q h) hFc (fun u t H1 locs1 ht hvm hw hB hz1 hk1 hS1 => ?_)
  obtain ⟨hP1, hK1, hD1⟩ := hB
  rw [ht] at hP1
  obtain ⟨g1, g2⟩ := zjoin hP hD isC isR perm hC hR n2 (fun i hi h => by have := List.all_eq_true.mp n4 i hi; simp [h] at this) hk1 hFc hP1 hD1 hp n3
  exact kk H1 locs1 g1 g2 hS1
theorem zVl {r : Int64} (S : CallFix p m c cc nL s args Ts own) (hM : ML l y ws rm G (.ref b :: As) wc r wc2) (cw : CallW R s args own C index y bytes maxL ret ws rm 0 0 n)
    (hK : va_K G.1 vwCl (zT G) s) (hE : zE G A s s.heap) (hA : ∀ q, s.heap.size ≤ q → A q) (hP : va_P G.1 vwCl W1 H) (hD : va_D A W1) (hS : va_S A s.heap H locs) (hsz : ls.size = nL)
    (isC isR perm : List Nat) (hC : isC.map (fun i => W1[i]?) = wc.map some) (hR : isR.map (fun i => W1[i]?) = wr.map some) (hp : perm.map (fun i => (wr ++ wc2)[i]?) = W2.map some) (hnc : (va_nd isC && va_nd isR && va_nd perm && isR.all (fun i => !isC.contains i)) = true)
    {ci : Nat} {q : vw_C} {fs : List Value} (hc : vwCl[ci]? = some q) (he : wc[0]? = some (b, .inr (ci, fs))) (hqC : q.1 = C)
    (hn : As.length = n) (hst : st0 = As.reverse ++ .ref b :: rest) (hW : (rest.map fun v => v.category).sum ≤ 8) (hcap : cells ≤ R.cells ∧ slots ≤ R.slots) (hdg : decode cc pc = .ok (.invokevirtual index, 3))
    (kk : ∀ (H1 : Heap) (locs1 : List Loc), va_P G.1 vwCl W2 H1 → va_D A W2 → va_S A s.heap H1 locs1 → W p l e R s m args below meth c H1 locs1 cells slots Q (F0 m (pc + 3) ls (.long r :: rest))) : W p l e R s m args below meth c H locs cells slots Q (F0 m pc ls st0) := by
  subst hqC
  simp only [Bool.and_eq_true] at hnc
  obtain ⟨⟨⟨n1, n2⟩, n3⟩, n4⟩ := hnc
  have hPc := zsubP hP isC hC
  have hFc := va_free (wc := wc) hD hS hA isC hC
  refine va_calll (va_runV (As := As) (rest := rest) S (hM H.size) cw ⟨zPre_blind G wc H.size _, va_recv hK hPc hc he, fun U hU hW => ⟨rfl, zrest hK hE hPc hD hS isC n1 hC hFc hU hW⟩⟩ rfl hn hsz hst (lv_room hW) hdg ⟨hcap.1, hcap.2⟩) hS (fun q _ h => hFc q h) hFc (fun r2 u t H1 locs1 ht hvm hw hB hz1 hk1 hS1 => ?_)
  subst hw
  obtain ⟨hP1, hK1, hD1⟩ := hB
  rw [ht] at hP1
  obtain ⟨g1, g2⟩ := zjoin hP hD isC isR perm hC hR n2 (fun i hi h => by have := List.all_eq_true.mp n4 i hi; simp [h] at this) hk1 hFc hP1 hD1 hp n3
  exact kk H1 locs1 g1 g2 hS1
end CALL
