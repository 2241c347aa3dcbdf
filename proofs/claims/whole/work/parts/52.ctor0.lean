/-! constructors: contracts that make cells -/
def MN (S : Type) (l : Launch) (y : MethodName) (ws : List Cond) (rm : Room) (G : zG) (av : List Value) (w : va_W) (w2 : S → va_W) (ok : S → Prop) (mc ms : Nat) : Prop :=
  ∀ sz : Nat, Met l y ws rm (va_Pc av (fun U => zPre G w sz U ∧ va_AO RX2 U)) (va_Qv (fun (u : S) => ok u) (fun u t => zPost G w (w2 u) sz t) (va_A w sz)) mc ms (va_A w sz)
theorem MN.enter {S : Type} {l : Launch} {y : MethodName} {ws ws' : List Cond} {rm : Room} {G : zG} {av : List Value} {w : va_W} {w2 : S → va_W} {ok : S → Prop} {cc : ByteArray} {maxL mc ms : Nat} (hy : plainName y.cls = true) (hy1 : y.name = "<init>") (hw : ws = Cond.code y cc maxL none :: ws') (hlen : (lg_sl av).length ≤ maxL)
    (body : ∀ (p : Program) (e : Env) (s : State) (m : MethodId) (below : List Frame) (meth : Method) (c : Code) (Q : State → Prop) (A : Nat → Prop) (ls : Array Slot), zAt p l e rm G s m av c cc maxL ws y.cls w A ls → meth.name = "<init>" → va_AO RX2 s →
      (∀ (H : Heap) (locs : List Loc) (pc : Nat) (ls2 : Array Slot) (w3 : va_W) (u : S), ok u → w3.Perm (w2 u) → va_P G.1 vwCl w3 H → va_D A w3 → va_S A s.heap H locs → decode cc pc = .ok (.return_, 1) → W p l e rm s m av.toArray below meth c H locs mc ms Q (F0 m pc ls2 [])) →
      W p l e rm s m av.toArray below meth c s.heap [] 0 0 Q (F0 m 0 ls [])) : MN S l y ws rm G av w w2 ok mc ms := by
  intro sz
  refine Met.ofW (cc := cc) (maxL := maxL) (ret := none) hy hw ?_
  intro p e s m args below meth c s₁ B hml hv
  obtain ⟨rfl, ⟨hsz, hP, hK, hD0, hE⟩, hAO⟩ := hv
  subst hsz
  have hr := B.returns
  have hlocks := B.notSynchronized
  have hin : meth.name = "<init>" := by rw [(name_of_methodNamed B.named B.method).1]; exact hy1
  rw [lg_entry_eq]
  refine body p e s m below meth c _ (va_A w s.heap.size) _ ⟨⟨B.exec, B.bytes, hml, findClass_of_methodNamed B.named, atoms_spec (ws := ws) B.pre⟩, fun q h => Or.inr h, hK, hE, hP, hD0.self, va_S.rf, lv_entry av hlen⟩ hin hAO ?_
  intro H locs pc ls2 w3 u hok hww hP2 hD2 hS2 hdg
  exact W.vret B.exec B.bytes hr (fun t ht hW => ⟨⟨u, rfl, hok, by rw [ht]; exact hP2.perm hww, va_K.moved hW.alike hK, hD2.perm hww⟩, hS2.F ht⟩) hS2.2.2 hdg
theorem zPreN_blind (G : zG) (w : va_W) (sz : Nat) (av : List Value) : FrameBlind (va_Pc av (fun U => zPre G w sz U ∧ va_AO RX2 U)) := by
  intro a U g mk q
  obtain ⟨q0, q1, q2⟩ := q
  have h := zPre_blind G w sz av a U g mk ⟨q0, q1⟩
  exact ⟨h.1, h.2, va_AO.moved (u := U) (U := U.calling g mk a) (Vm.Alike.refl U.vm) q2⟩
theorem zFree {A : Nat → Prop} {wc wr : va_W} {s : State} {H : Heap} {locs : List Loc} (hD : va_D A (wc ++ wr)) (hS : va_S A s.heap H locs) (hA : ∀ q, s.heap.size ≤ q → A q) : ∀ q, va_A wc H.size q → A q := by
  intro q h
  rcases va_A_iff.mp h with ⟨x, hx, e⟩ | h
  · subst e; exact (va_D_iff.mp hD).2 x (List.mem_append_left _ hx)
  · exact hA q (Nat.le_trans hS.1 h)
theorem zrest2 {G : zG} {A : Nat → Prop} {wc wr : va_W} {s U : State} {H : Heap} {locs : List Loc} (hK : va_K G.1 vwCl (zT G) s) (hE : zE G A s s.heap) (hP : va_P G.1 vwCl (wc ++ wr) H) (hD : va_D A (wc ++ wr)) (hS : va_S A s.heap H locs) (hF : ∀ q, va_A wc H.size q → A q) (hU : U.heap = H) (hW : s.WarmedH U.vm) : zPre G wc H.size U := by
  refine ⟨by rw [hU], by rw [hU]; exact va_P_l hP, va_K.moved hW.alike hK, (va_D_l hD).weaken (fun _ _ _ _ => trivial), ?_⟩
  rw [hU]
  exact ⟨((hE.1.kept (H1 := H) (fun a h1 h2 => hS.2.1 a h1 h2)).narrow hF).moved hW.alike, va_Nw.warmM hW hE.2.1, va_Nw.warmM hW hE.2.2⟩
section CALLN
variable {p : Program} {l : Launch} {e : Env} {R : Room} {s : State} {m : MethodId} {args : Array Value} {below : List Frame} {meth : Method} {c : Code} {H : Heap} {locs : List Loc} {cells slots : Nat} {Q : State → Prop}
variable {cc bytes : ByteArray} {nL maxL n index mc ms : Nat} {Ts ws : List Cond} {own C : String} {y : MethodName} {ret : Option FieldType} {rm : Room} {G : zG} {A : Nat → Prop} {wc wr : va_W} {b pc : Nat} {As rest st0 : List Value} {ls : Array Slot}
/-- a constructor's call -/
theorem zIn {S : Type} {w2 : S → va_W} {ok : S → Prop} (S' : CallFix p m c cc nL s args Ts own) (hM : MN S l y ws rm G (.ref b :: As) wc w2 ok mc ms) (cw : CallB R s args own index y bytes maxL none ws rm mc ms n ∧ y.name = "<init>" ∧ (Cond.instanceMethod y).before args s = true)
    (hAO : va_AO RX2 s) (hK : va_K G.1 vwCl (zT G) s) (hE : zE G A s s.heap) (hA : ∀ q, s.heap.size ≤ q → A q) (hP : va_P G.1 vwCl (wc ++ wr) H) (hD : va_D A (wc ++ wr)) (hS : va_S A s.heap H locs) (hsz : ls.size = nL)
    (hn : As.length = n) (hst : st0 = As.reverse ++ .ref b :: rest) (hW : (rest.map fun v => v.category).sum ≤ 8) (hcap : cells + mc ≤ R.cells ∧ slots + ms ≤ R.slots) (hdg : decode cc pc = .ok (.invokespecial index, 3))
    (kk : ∀ (H1 : Heap) (locs1 : List Loc) (u : S), ok u → va_P G.1 vwCl (w2 u ++ wr) H1 → va_D A (w2 u ++ wr) → va_S A s.heap H1 locs1 → W p l e R s m args below meth c H1 locs1 (cells + mc) (slots + ms) Q (F0 m (pc + 3) ls rest)) : W p l e R s m args below meth c H locs cells slots Q (F0 m pc ls st0) := by
  have hFc := zFree hD hS hA
  refine va_callv (va_runI (As := As) (rest := rest) S' (hM H.size) cw ⟨zPreN_blind G wc H.size _, fun U hU hW => ⟨rfl, zrest2 hK hE hP hD hS hFc hU hW, va_AO.moved hW.alike hAO⟩⟩ rfl hn hsz hst (lv_room hW) hdg ⟨hcap.1, hcap.2⟩) hS (fun q _ h => hFc q h) hFc (fun u t H1 locs1 ht hvm hw hB hz1 hk1 hS1 => ?_)
  obtain ⟨hP1, hK1, hD1⟩ := hB
  rw [ht] at hP1
  obtain ⟨g1, g2⟩ := zfj hP hD rfl hk1 hP1 hD1 hFc (fun q hq => (va_D_iff.mp hD).2 q (List.mem_append_right _ hq))
  exact kk H1 locs1 u hw g1 g2 hS1
/-- a public call out of the law -/
theorem zLx {S : Type} {w2 : S → va_W} {ok : S → Prop} {r : Int32} (S' : CallFix p m c cc nL s args Ts own) (hM : MX S l y ws rm G (.ref b :: As) wc r w2 ok) (cw : CallW R s args own C index y bytes maxL ret ws rm 0 0 n)
    (hK : va_K G.1 vwCl (zT G) s) (hE : zE G A s s.heap) (hA : ∀ q, s.heap.size ≤ q → A q) (hP : va_P G.1 vwCl (wc ++ wr) H) (hD : va_D A (wc ++ wr)) (hS : va_S A s.heap H locs) (hsz : ls.size = nL)
    {ci : Nat} {q : vw_C} {fs : List Value} (hc : vwCl[ci]? = some q) (he : wc[0]? = some (b, .inr (ci, fs))) (hqC : q.1 = C)
    (hn : As.length = n) (hst : st0 = As.reverse ++ .ref b :: rest) (hW : (rest.map fun v => v.category).sum ≤ 8) (hcap : cells ≤ R.cells ∧ slots ≤ R.slots) (hdg : decode cc pc = .ok (.invokevirtual index, 3))
    (kk : ∀ (H1 : Heap) (locs1 : List Loc) (u : S), ok u → va_P G.1 vwCl (w2 u ++ wr) H1 → va_D A (w2 u ++ wr) → va_S A s.heap H1 locs1 → W p l e R s m args below meth c H1 locs1 cells slots Q (F0 m (pc + 3) ls (.int r :: rest))) : W p l e R s m args below meth c H locs cells slots Q (F0 m pc ls st0) := by
  subst hqC
  have hFc := zFree hD hS hA
  refine va_calli (va_runV (As := As) (rest := rest) S' (hM H.size) cw ⟨zPre_blind G wc H.size _, va_recv hK (va_P_l hP) hc he, fun U hU hW => ⟨rfl, zrest2 hK hE hP hD hS hFc hU hW⟩⟩ rfl hn hsz hst (lv_room hW) hdg ⟨hcap.1, hcap.2⟩) hS (fun q _ h => hFc q h) hFc (fun r2 u t H1 locs1 ht hvm hw hB hz1 hk1 hS1 => ?_)
  obtain ⟨hw1, hw2⟩ := hw
  subst hw1
  obtain ⟨hP1, hK1, hD1⟩ := hB
  rw [ht] at hP1
  obtain ⟨g1, g2⟩ := zfj hP hD rfl hk1 hP1 hD1 hFc (fun q hq => (va_D_iff.mp hD).2 q (List.mem_append_right _ hq))
  exact kk H1 locs1 u hw2 g1 g2 hS1
theorem zLl {S : Type} {w2 : S → va_W} {ok : S → Prop} {r : Int64} (S' : CallFix p m c cc nL s args Ts own) (hM : MLX S l y ws rm G (.ref b :: As) wc r w2 ok) (cw : CallW R s args own C index y bytes maxL ret ws rm 0 0 n)
    (hK : va_K G.1 vwCl (zT G) s) (hE : zE G A s s.heap) (hA : ∀ q, s.heap.size ≤ q → A q) (hP : va_P G.1 vwCl (wc ++ wr) H) (hD : va_D A (wc ++ wr)) (hS : va_S A s.heap H locs) (hsz : ls.size = nL)
    {ci : Nat} {q : vw_C} {fs : List Value} (hc : vwCl[ci]? = some q) (he : wc[0]? = some (b, .inr (ci, fs))) (hqC : q.1 = C)
    (hn : As.length = n) (hst : st0 = As.reverse ++ .ref b :: rest) (hW : (rest.map fun v => v.category).sum ≤ 8) (hcap : cells ≤ R.cells ∧ slots ≤ R.slots) (hdg : decode cc pc = .ok (.invokevirtual index, 3))
    (kk : ∀ (H1 : Heap) (locs1 : List Loc) (u : S), ok u → va_P G.1 vwCl (w2 u ++ wr) H1 → va_D A (w2 u ++ wr) → va_S A s.heap H1 locs1 → W p l e R s m args below meth c H1 locs1 cells slots Q (F0 m (pc + 3) ls (.long r :: rest))) : W p l e R s m args below meth c H locs cells slots Q (F0 m pc ls st0) := by
  subst hqC
  have hFc := zFree hD hS hA
  refine va_calll (va_runV (As := As) (rest := rest) S' (hM H.size) cw ⟨zPre_blind G wc H.size _, va_recv hK (va_P_l hP) hc he, fun U hU hW => ⟨rfl, zrest2 hK hE hP hD hS hFc hU hW⟩⟩ rfl hn hsz hst (lv_room hW) hdg ⟨hcap.1, hcap.2⟩) hS (fun q _ h => hFc q h) hFc (fun r2 u t H1 locs1 ht hvm hw hB hz1 hk1 hS1 => ?_)
  obtain ⟨hw1, hw2⟩ := hw
  subst hw1
  obtain ⟨hP1, hK1, hD1⟩ := hB
  rw [ht] at hP1
  obtain ⟨g1, g2⟩ := zfj hP hD rfl hk1 hP1 hD1 hFc (fun q hq => (va_D_iff.mp hD).2 q (List.mem_append_right _ hq))
  exact kk H1 locs1 u hw2 g1 g2 hS1
theorem zp1 (o R x : va_W) : ((o ++ R) ++ x).Perm (o ++ (x ++ R)) := List.perm_append_comm.trans (List.perm_append_comm_assoc x o R)
/-- a new array of ints, of booleans, of edges -/
theorem zNwI {o R9 : va_W} {N : Nat} (hexec : p.tables.exec = Jvm.exec) (hb : c.code = cc) (harr : (Cond.arrayClass .int).before args s = true) (hK : va_K G.1 vwCl (zT G) s) (hA : ∀ q, s.heap.size ≤ q → A q) (hP : va_P G.1 vwCl (o ++ R9) H) (hD : va_D A (o ++ R9)) (hS : va_S A s.heap H locs) (hN : N ≤ 1000) (hcells : cells + 1 ≤ R.cells) (hslots : slots + N ≤ R.slots) (hdg : decode cc pc = .ok (.newarray .int, 2))
    (kk : ∀ (q : Nat) (H1 : Heap), va_P G.1 vwCl (o ++ ([zA G q N z0] ++ R9)) H1 → va_D A (o ++ ([zA G q N z0] ++ R9)) → va_S A s.heap H1 locs → W p l e R s m args below meth c H1 locs (cells + 1) (slots + N) Q (F0 m (pc + 2) ls (.ref q :: rest))) : W p l e R s m args below meth c H locs cells slots Q (F0 m pc ls (.int (nI N) :: rest)) := by
  refine va_newa (atype := .int) (ty := .int) (a0 := (N, .inl (zF z0))) (N' := N) hexec hb harr rfl hK hP hD hS hA (fun cA => rfl) (fun h => by rw [Int32.lt_iff_toInt_lt, zI (by omega)] at h; have : (0 : Int32).toInt = 0 := rfl; omega) (zcl (by omega)) (by have : componentBytes .int = 4 := rfl; rw [this]; omega) hcells hslots hdg (fun q cA H1 hK1 hP1 hD1 hS1 => ?_)
  have e1 := va_nm_int (hK.2 0 _ rfl).2
  have e2 := va_nm_int (hK1.2 3 (cA, .int) rfl).2
  have e : cA = G.2.1.1 := Option.some.inj (e2.symm.trans e1)
  subst e
  exact kk q H1 (hP1.perm (zp1 o R9 [zA G q N z0])) (hD1.perm (zp1 o R9 [zA G q N z0])) hS1
theorem zNwB {o R9 : va_W} {N : Nat} (hexec : p.tables.exec = Jvm.exec) (hb : c.code = cc) (harr : (Cond.arrayClass .boolean).before args s = true) (hK : va_K G.1 vwCl (zT G) s) (hA : ∀ q, s.heap.size ≤ q → A q) (hP : va_P G.1 vwCl (o ++ R9) H) (hD : va_D A (o ++ R9)) (hS : va_S A s.heap H locs) (hN : N ≤ 1000) (hcells : cells + 1 ≤ R.cells) (hslots : slots + N ≤ R.slots) (hdg : decode cc pc = .ok (.newarray .boolean, 2))
    (kk : ∀ (q : Nat) (H1 : Heap), va_P G.1 vwCl (o ++ ([zB G q N z0] ++ R9)) H1 → va_D A (o ++ ([zB G q N z0] ++ R9)) → va_S A s.heap H1 locs → W p l e R s m args below meth c H1 locs (cells + 1) (slots + N) Q (F0 m (pc + 2) ls (.ref q :: rest))) : W p l e R s m args below meth c H locs cells slots Q (F0 m pc ls (.int (nI N) :: rest)) := by
  refine va_newa (atype := .boolean) (ty := .boolean) (a0 := (N, .inl (zF z0))) (N' := N) hexec hb harr rfl hK hP hD hS hA (fun cA => rfl) (fun h => by rw [Int32.lt_iff_toInt_lt, zI (by omega)] at h; have : (0 : Int32).toInt = 0 := rfl; omega) (zcl (by omega)) (by have : componentBytes .boolean = 1 := rfl; rw [this]; omega) hcells hslots hdg (fun q cA H1 hK1 hP1 hD1 hS1 => ?_)
  have e1 := va_nm_boolean (hK.2 1 _ rfl).2
  have e2 := va_nm_boolean (hK1.2 3 (cA, .boolean) rfl).2
  have e : cA = G.2.1.2.1 := Option.some.inj (e2.symm.trans e1)
  subst e
  exact kk q H1 (hP1.perm (zp1 o R9 [zB G q N z0])) (hD1.perm (zp1 o R9 [zB G q N z0])) hS1
theorem zNwE {o R9 : va_W} {N : Nat} (hexec : p.tables.exec = Jvm.exec) (hb : c.code = cc) (hown : s.vm.findClass own = some m.cls) (hcl : (Cond.classLink own index RX2).before args s = true) (hAO : va_AO RX2 s) (hK : va_K G.1 vwCl (zT G) s) (hA : ∀ q, s.heap.size ≤ q → A q) (hP : va_P G.1 vwCl (o ++ R9) H) (hD : va_D A (o ++ R9)) (hS : va_S A s.heap H locs) (hN : N ≤ 1000) (hcells : cells + 1 ≤ R.cells) (hslots : slots + N ≤ R.slots) (hdg : decode cc pc = .ok (.anewarray index, 3))
    (kk : ∀ (q : Nat) (H1 : Heap), va_P G.1 vwCl (o ++ ([zR G q N (fun _ => none)] ++ R9)) H1 → va_D A (o ++ ([zR G q N (fun _ => none)] ++ R9)) → va_S A s.heap H1 locs → W p l e R s m args below meth c H1 locs (cells + 1) (slots + N) Q (F0 m (pc + 3) ls (.ref q :: rest))) : W p l e R s m args below meth c H locs cells slots Q (F0 m pc ls (.int (nI N) :: rest)) := by
  refine va_newq (N' := N) hexec hb hown hcl hAO hK hP hD hS hA (fun h => by rw [Int32.lt_iff_toInt_lt, zI (by omega)] at h; have : (0 : Int32).toInt = 0 := rfl; omega) (zcl (by omega)) (by omega) hcells hslots hdg (fun q cA H1 hK1 hP1 hD1 hS1 => ?_)
  have e1 := va_nmO (hK.2 2 _ rfl).2 rfl
  have e2 := va_nmO (hK1.2 3 (cA, .object RX2) rfl).2 rfl
  have e : cA = G.2.1.2.2 := Option.some.inj (e2.symm.trans e1)
  subst e
  exact kk q H1 (hP1.perm (zp1 o R9 [zR G q N (fun _ => none)])) (hD1.perm (zp1 o R9 [zR G q N (fun _ => none)])) hS1
end CALLN
theorem zbperm {α : Type} : ∀ (X : List α), (List.range X.length).filterMap (fun i => X[i]?) = X
  | [] => rfl
  | x :: X => by
    rw [List.length_cons, List.range_succ_eq_map, List.filterMap_cons]
    show x :: ((List.range X.length).map Nat.succ).filterMap (fun i => (x :: X)[i]?) = x :: X
    rw [List.filterMap_map]
    have e : ((fun i => (x :: X)[i]?) ∘ Nat.succ) = fun i => X[i]? := by funext i; exact List.getElem?_cons_succ
    rw [e, zbperm X]
/-- blocks in another order -/
theorem zflat (X Y : List va_W) (n : Nat) (is : List Nat) (hY : is.map (fun i => X[i]?) = Y.map some) (hn : X.length = n) (hp : (List.range n).isPerm is = true) : X.flatten.Perm Y.flatten := by
  subst hn
  have h1 := (List.isPerm_iff.mp hp).filterMap (fun i => X[i]?)
  rw [zbperm] at h1
  have e : is.filterMap (fun i => X[i]?) = (is.map (fun i => X[i]?)).filterMap id := by rw [List.filterMap_map]; rfl
  rw [e, hY, List.filterMap_map] at h1
  have e2 : (id ∘ some : va_W → Option va_W) = some := rfl
  rw [e2, List.filterMap_some] at h1
  exact h1.flatten
