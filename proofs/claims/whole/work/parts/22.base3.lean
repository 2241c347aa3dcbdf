/-! rows: written numbers below zero; calls that leave rows open -/
section ZY
variable {p : Program} {l : Launch} {e : Env} {R : Room} {s : State} {m : MethodId} {args : Array Value} {below : List Frame} {meth : Method} {c : Code} {H : Heap} {locs : List Loc} {cells slots : Nat} {Q : State → Prop}
variable {cc : ByteArray} {pc : Nat} {ls : Array Slot} {rest : List Value}
theorem zky_eq_t {x y : Int32} {off : Int} {tgt : Nat} (hexec : p.tables.exec = Jvm.exec) (hb : c.code = cc) (hdg : decode cc pc = .ok (.if_icmp .eq off, 3)) (ht : (pc : Int) + off = (tgt : Int)) (h : x = y) (kt : W p l e R s m args below meth c H locs cells slots Q (F0 m tgt ls rest)) : W p l e R s m args below meth c H locs cells slots Q (F0 m pc ls (.int y :: .int x :: rest)) := lv_icmp_eq hexec hb hdg ht (fun _ => kt) (fun q => absurd h q)
theorem zky_eq_f {x y : Int32} {off : Int} (hexec : p.tables.exec = Jvm.exec) (hb : c.code = cc) (hdg : decode cc pc = .ok (.if_icmp .eq off, 3)) (h : ¬ (x = y) ∧ 0 ≤ (pc : Int) + off) (kf : W p l e R s m args below meth c H locs cells slots Q (F0 m (pc + 3) ls rest)) : W p l e R s m args below meth c H locs cells slots Q (F0 m pc ls (.int y :: .int x :: rest)) := lv_icmp_eq (tgt := ((pc : Int) + off).toNat) hexec hb hdg (Int.toNat_of_nonneg h.2).symm (fun q => absurd q h.1) (fun _ => kf)
theorem zky_ne_t {x y : Int32} {off : Int} {tgt : Nat} (hexec : p.tables.exec = Jvm.exec) (hb : c.code = cc) (hdg : decode cc pc = .ok (.if_icmp .ne off, 3)) (ht : (pc : Int) + off = (tgt : Int)) (h : ¬ x = y) (kt : W p l e R s m args below meth c H locs cells slots Q (F0 m tgt ls rest)) : W p l e R s m args below meth c H locs cells slots Q (F0 m pc ls (.int y :: .int x :: rest)) := lv_icmp_ne hexec hb hdg ht (fun _ => kt) (fun q => absurd q h)
theorem zky_ne_f {x y : Int32} {off : Int} (hexec : p.tables.exec = Jvm.exec) (hb : c.code = cc) (hdg : decode cc pc = .ok (.if_icmp .ne off, 3)) (h : ¬ (¬ x = y) ∧ 0 ≤ (pc : Int) + off) (kf : W p l e R s m args below meth c H locs cells slots Q (F0 m (pc + 3) ls rest)) : W p l e R s m args below meth c H locs cells slots Q (F0 m pc ls (.int y :: .int x :: rest)) := lv_icmp_ne (tgt := ((pc : Int) + off).toNat) hexec hb hdg (Int.toNat_of_nonneg h.2).symm (fun q => absurd q h.1) (fun _ => kf)
theorem zky_lt_t {x y : Int32} {off : Int} {tgt : Nat} (hexec : p.tables.exec = Jvm.exec) (hb : c.code = cc) (hdg : decode cc pc = .ok (.if_icmp .lt off, 3)) (ht : (pc : Int) + off = (tgt : Int)) (h : x < y) (kt : W p l e R s m args below meth c H locs cells slots Q (F0 m tgt ls rest)) : W p l e R s m args below meth c H locs cells slots Q (F0 m pc ls (.int y :: .int x :: rest)) := lv_icmp_lt hexec hb hdg ht (fun _ => kt) (fun q => absurd h q)
theorem zky_lt_f {x y : Int32} {off : Int} (hexec : p.tables.exec = Jvm.exec) (hb : c.code = cc) (hdg : decode cc pc = .ok (.if_icmp .lt off, 3)) (h : ¬ (x < y) ∧ 0 ≤ (pc : Int) + off) (kf : W p l e R s m args below meth c H locs cells slots Q (F0 m (pc + 3) ls rest)) : W p l e R s m args below meth c H locs cells slots Q (F0 m pc ls (.int y :: .int x :: rest)) := lv_icmp_lt (tgt := ((pc : Int) + off).toNat) hexec hb hdg (Int.toNat_of_nonneg h.2).symm (fun q => absurd q h.1) (fun _ => kf)
theorem zky_ge_t {x y : Int32} {off : Int} {tgt : Nat} (hexec : p.tables.exec = Jvm.exec) (hb : c.code = cc) (hdg : decode cc pc = .ok (.if_icmp .ge off, 3)) (ht : (pc : Int) + off = (tgt : Int)) (h : y ≤ x) (kt : W p l e R s m args below meth c H locs cells slots Q (F0 m tgt ls rest)) : W p l e R s m args below meth c H locs cells slots Q (F0 m pc ls (.int y :: .int x :: rest)) := lv_icmp_ge hexec hb hdg ht (fun _ => kt) (fun q => absurd h q)
theorem zky_ge_f {x y : Int32} {off : Int} (hexec : p.tables.exec = Jvm.exec) (hb : c.code = cc) (hdg : decode cc pc = .ok (.if_icmp .ge off, 3)) (h : ¬ (y ≤ x) ∧ 0 ≤ (pc : Int) + off) (kf : W p l e R s m args below meth c H locs cells slots Q (F0 m (pc + 3) ls rest)) : W p l e R s m args below meth c H locs cells slots Q (F0 m pc ls (.int y :: .int x :: rest)) := lv_icmp_ge (tgt := ((pc : Int) + off).toNat) hexec hb hdg (Int.toNat_of_nonneg h.2).symm (fun q => absurd q h.1) (fun _ => kf)
theorem zky_gt_t {x y : Int32} {off : Int} {tgt : Nat} (hexec : p.tables.exec = Jvm.exec) (hb : c.code = cc) (hdg : decode cc pc = .ok (.if_icmp .gt off, 3)) (ht : (pc : Int) + off = (tgt : Int)) (h : y < x) (kt : W p l e R s m args below meth c H locs cells slots Q (F0 m tgt ls rest)) : W p l e R s m args below meth c H locs cells slots Q (F0 m pc ls (.int y :: .int x :: rest)) := lv_icmp_gt hexec hb hdg ht (fun _ => kt) (fun q => absurd h q)
theorem zky_gt_f {x y : Int32} {off : Int} (hexec : p.tables.exec = Jvm.exec) (hb : c.code = cc) (hdg : decode cc pc = .ok (.if_icmp .gt off, 3)) (h : ¬ (y < x) ∧ 0 ≤ (pc : Int) + off) (kf : W p l e R s m args below meth c H locs cells slots Q (F0 m (pc + 3) ls rest)) : W p l e R s m args below meth c H locs cells slots Q (F0 m pc ls (.int y :: .int x :: rest)) := lv_icmp_gt (tgt := ((pc : Int) + off).toNat) hexec hb hdg (Int.toNat_of_nonneg h.2).symm (fun q => absurd q h.1) (fun _ => kf)
theorem zky_le_t {x y : Int32} {off : Int} {tgt : Nat} (hexec : p.tables.exec = Jvm.exec) (hb : c.code = cc) (hdg : decode cc pc = .ok (.if_icmp .le off, 3)) (ht : (pc : Int) + off = (tgt : Int)) (h : x ≤ y) (kt : W p l e R s m args below meth c H locs cells slots Q (F0 m tgt ls rest)) : W p l e R s m args below meth c H locs cells slots Q (F0 m pc ls (.int y :: .int x :: rest)) := lv_icmp_le hexec hb hdg ht (fun _ => kt) (fun q => absurd h q)
theorem zky_le_f {x y : Int32} {off : Int} (hexec : p.tables.exec = Jvm.exec) (hb : c.code = cc) (hdg : decode cc pc = .ok (.if_icmp .le off, 3)) (h : ¬ (x ≤ y) ∧ 0 ≤ (pc : Int) + off) (kf : W p l e R s m args below meth c H locs cells slots Q (F0 m (pc + 3) ls rest)) : W p l e R s m args below meth c H locs cells slots Q (F0 m pc ls (.int y :: .int x :: rest)) := lv_icmp_le (tgt := ((pc : Int) + off).toNat) hexec hb hdg (Int.toNat_of_nonneg h.2).symm (fun q => absurd q h.1) (fun _ => kf)
end ZY
theorem MXB.enter {S : Type} {l : Launch} {y : MethodName} {ws ws' : List Cond} {rm : Room} {G : zG} {av : List Value} {w : va_W} {w2 : S → va_W} {ok : S → Prop} {cc : ByteArray} {maxL : Nat} {r : Bool} (hy : plainName y.cls = true) (hw : ws = Cond.code y cc maxL (some .boolean) :: ws') (hlen : (lg_sl av).length ≤ maxL)
    (body : ∀ (p : Program) (e : Env) (s : State) (m : MethodId) (below : List Frame) (meth : Method) (c : Code) (Q : State → Prop) (A : Nat → Prop) (ls : Array Slot), zAt p l e rm G s m av c cc maxL ws y.cls w A ls →
      (∀ (H : Heap) (locs : List Loc) (pc : Nat) (ls2 : Array Slot) (x : Int32) (w3 : va_W) (u : S), x = bI r → ok u → w3 = w2 u → va_P G.1 vwCl w3 H → va_D A w3 → va_S A s.heap H locs → decode cc pc = .ok (.ireturn, 1) → W p l e rm s m av.toArray below meth c H locs 0 0 Q (F0 m pc ls2 [.int x])) →
      W p l e rm s m av.toArray below meth c s.heap [] 0 0 Q (F0 m 0 ls [])) : MX S l y ws rm G av w (bI r) w2 ok := by
  intro sz
  refine Met.ofW (cc := cc) (maxL := maxL) (ret := some .boolean) hy hw ?_
  intro p e s m args below meth c s₁ B hml hv
  obtain ⟨rfl, hsz, hP, hK, hD0, hE⟩ := hv
  subst hsz
  have hr := B.returns
  have hlocks := B.notSynchronized
  rw [lg_entry_eq]
  refine body p e s m below meth c _ (va_A w s.heap.size) _ ⟨⟨B.exec, B.bytes, hml, findClass_of_methodNamed B.named, atoms_spec (ws := ws) B.pre⟩, fun q h => Or.inr h, hK, hE, hP, hD0.self, va_S.rf, lv_entry av hlen⟩ ?_
  intro H locs pc ls2 x w3 u hxr hok hww hP2 hD2 hS2 hdg
  subst hxr; subst hww
  exact W.zret (ty := .boolean) B.exec B.bytes hr (bI_nar r) (fun t ht hW => ⟨⟨bI r, u, rfl, ⟨rfl, hok⟩, by rw [ht]; exact hP2, va_K.moved hW.alike hK, hD2⟩, hS2.F ht⟩) hS2.2.2 hdg
section CALLX
variable {p : Program} {l : Launch} {e : Env} {R : Room} {s : State} {m : MethodId} {args : Array Value} {below : List Frame} {meth : Method} {c : Code} {H : Heap} {locs : List Loc} {cells slots : Nat} {Q : State → Prop}
variable {cc bytes : ByteArray} {nL maxL n index : Nat} {Ts ws : List Cond} {own C : String} {y : MethodName} {ret : Option FieldType} {rm : Room} {G : zG} {A : Nat → Prop} {W1 wc wr : va_W} {b pc : Nat} {As rest st0 : List Value} {ls : Array Slot}
theorem zVx {S : Type} {wc2 W2 : S → va_W} {ok : S → Prop} {r : Int32} (S' : CallFix p m c cc nL s args Ts own) (hM : MX S l y ws rm G (.ref b :: As) wc r wc2 ok) (cw : CallW R s args own C index y bytes maxL ret ws rm 0 0 n)
    (hK : va_K G.1 vwCl (zT G) s) (hE : zE G A s s.heap) (hA : ∀ q, s.heap.size ≤ q → A q) (hP : va_P G.1 vwCl W1 H) (hD : va_D A W1) (hS : va_S A s.heap H locs) (hsz : ls.size = nL)
    (isC isR perm : List Nat) (hC : isC.map (fun i => W1[i]?) = wc.map some) (hR : isR.map (fun i => W1[i]?) = wr.map some) (hp : ∀ u, perm.map (fun i => (wr ++ wc2 u)[i]?) = (W2 u).map some) (hnc : (va_nd isC && va_nd isR && va_nd perm && isR.all (fun i => !isC.contains i)) = true)
    {ci : Nat} {q : vw_C} {fs : List Value} (hc : vwCl[ci]? = some q) (he : wc[0]? = some (b, .inr (ci, fs))) (hqC : q.1 = C)
    (hn : As.length = n) (hst : st0 = As.reverse ++ .ref b :: rest) (hW : (rest.map fun v => v.category).sum ≤ 8) (hcap : cells ≤ R.cells ∧ slots ≤ R.slots) (hdg : decode cc pc = .ok (.invokevirtual index, 3))
    (kk : ∀ (H1 : Heap) (locs1 : List Loc) (u : S), ok u → va_P G.1 vwCl (W2 u) H1 → va_D A (W2 u) → va_S A s.heap H1 locs1 → W p l e R s m args below meth c H1 locs1 cells slots Q (F0 m (pc + 3) ls (.int r :: rest))) : W p l e R s m args below meth c H locs cells slots Q (F0 m pc ls st0) := by
  subst hqC
  simp only [Bool.and_eq_true] at hnc
  obtain ⟨⟨⟨n1, n2⟩, n3⟩, n4⟩ := hnc
  have hPc := zsubP hP isC hC
  have hFc := va_free (wc := wc) hD hS hA isC hC
  refine va_calli (va_runV (As := As) (rest := rest) S' (hM H.size) cw ⟨zPre_blind G wc H.size _, va_recv hK hPc hc he, fun U hU hW => ⟨rfl, zrest hK hE hPc hD hS isC n1 hC hFc hU hW⟩⟩ rfl hn hsz hst (lv_room hW) hdg ⟨hcap.1, hcap.2⟩) hS (fun q _ h => hFc q h) hFc (fun r2 u t H1 locs1 ht hvm hw hB hz1 hk1 hS1 => ?_)
  obtain ⟨hw1, hw2⟩ := hw
  subst hw1
  obtain ⟨hP1, hK1, hD1⟩ := hB
  rw [ht] at hP1
  obtain ⟨g1, g2⟩ := zjoin hP hD isC isR perm hC hR n2 (fun i hi h => by have := List.all_eq_true.mp n4 i hi; simp [h] at this) hk1 hFc hP1 hD1 (hp u) n3
  exact kk H1 locs1 u hw2 g1 g2 hS1
end CALLX
